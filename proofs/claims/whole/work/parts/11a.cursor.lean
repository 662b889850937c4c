/-! deps: 10d -/
/-! ===== the class's cursor: what is taken ===== -/
/-! 21 yX2_begin -/
theorem vc_21_0 (tt : Nat → Nat) (a0 : Nat) (a1 : Nat) (h : am_H) (Q : am_H → Prop) (Qx : String → am_H → Prop) (q :
  (am_K h a1 = 7 ∧ ∃ q1, am_R h 6 0 a1 = some q1 ∧
  (am_K h a0 = 3 ∧
  (am_K h a1 = 7 ∧
  (am_K h a0 = 3 ∧ ∃ q2, am_R (am_sR h 2 0 a0 (some q1)) 2 0 a0 = some q2 ∧
  ((20 < am_K h q2 ∧ (am_K h q2 ≤ 27 ∨ am_K h q2 = 31)) ∧
  (am_w [.ref a0] ≤ 8 ∧
  (am_K h a0 = 3 ∧
  (am_K h a0 = 3 ∧
  (am_K h a0 = 3 ∧
  (am_K h a0 = 3 ∧
  Q (am_sI (am_sI (am_sI (am_sI (am_sR h 2 0 a0 (some q1)) 2 1 a0 (if (Int32.ofNat (am_N h q2)) < (am_I h 6 1 a1) then (Int32.ofNat (am_N h q2)) else (am_I h 6 1 a1))) 2 2 a0 (Int32.ofNat 0)) 2 3 a0 (Int32.ofNat 0)) 2 4 a0 (Int32.ofNat 0))))))))))))) :
  am_Ev tt 21 0 [some (.ref a0), some (.ref a1)] [] h (am_pV Q Qx) := am_vc 24 [] q

/-! 22 yX2_fail -/
theorem vc_22_0 (tt : Nat → Nat) (a0 : Nat) (a1 : Int32) (a2 : Int32) (h : am_H) (Q : am_H → Prop) (Qx : String → am_H → Prop) (q :
  (am_K h a0 = 3 ∧
  (am_K h a0 = 3 ∧
  (am_U (am_sI (am_sI h 2 3 a0 a1) 2 4 a0 a2) + 1 ≤ am_LC ∧ am_V (am_sI (am_sI h 2 3 a0 a1) 2 4 a0 a2) + 6 ≤ am_LS ∧ Qx "java/lang/IllegalStateException" (am_nX (am_sI (am_sI h 2 3 a0 a1) 2 4 a0 a2)))))) :
  am_Ev tt 22 0 [some (.ref a0), some (.int a1), some (.int a2)] [] h (am_pV Q Qx) := am_vc 9 [] q

/-! 23 yX2_failAtLast -/
theorem vc_23_0 (tt : Nat → Nat) (a0 : Nat) (h : am_H) (Q : am_H → Prop) (Qx : String → am_H → Prop) (q :
  (am_K h a0 = 3 ∧
  (am_K h a0 = 3 ∧ ∃ (Q2 : am_H → Prop) (X2 : String → am_H → Prop), am_Ct tt 22 [.ref a0, .int (Int32.ofNat 2), .int ((am_I h 2 2 a0) - (Int32.ofNat 1))] h (am_pV Q2 X2) ∧ (∀ h1, Q2 h1 →
   Q h1) ∧ (∀ E3 h1, X2 E3 h1 → Qx E3 h1)))) :
  am_Ev tt 23 0 [some (.ref a0)] [] h (am_pV Q Qx) := am_vc 10 [] q

/-! 24 yX2_needHead -/
theorem vc_24_0 (tt : Nat → Nat) (a0 : Nat) (h : am_H) (Q : am_H → Prop) (Qx : String → am_H → Prop) (q :
  (am_K h a0 = 3 ∧
  (((Int32.ofNat 32) ≤ (am_I h 2 1 a0) →
   Q h) ∧
  (¬ ((Int32.ofNat 32) ≤ (am_I h 2 1 a0)) →
   (am_K h a0 = 3 ∧
   (am_K h a0 = 3 ∧ ∃ (Q2 : am_H → Prop) (X2 : String → am_H → Prop), am_Ct tt 22 [.ref a0, .int (Int32.ofNat 1), .int (am_I h 2 1 a0)] h (am_pV Q2 X2) ∧ (∀ h1, Q2 h1 →
    Q h1) ∧ (∀ E3 h1, X2 E3 h1 → Qx E3 h1))))))) :
  am_Ev tt 24 0 [some (.ref a0)] [] h (am_pV Q Qx) := am_vc 12 [] q

/-! 25 yX2_needEnd -/
theorem vc_25_0 (tt : Nat → Nat) (a0 : Nat) (h : am_H) (Q : am_H → Prop) (Qx : String → am_H → Prop) (q :
  (am_K h a0 = 3 ∧
  (am_K h a0 = 3 ∧
  (((am_I h 2 1 a0) ≤ (am_I h 2 2 a0) →
   Q h) ∧
  (¬ ((am_I h 2 1 a0) ≤ (am_I h 2 2 a0)) →
   (am_K h a0 = 3 ∧
   (am_K h a0 = 3 ∧ ∃ (Q2 : am_H → Prop) (X2 : String → am_H → Prop), am_Ct tt 22 [.ref a0, .int (Int32.ofNat 6), .int (am_I h 2 2 a0)] h (am_pV Q2 X2) ∧ (∀ h1, Q2 h1 →
    Q h1) ∧ (∀ E3 h1, X2 E3 h1 → Qx E3 h1)))))))) :
  am_Ev tt 25 0 [some (.ref a0)] [] h (am_pV Q Qx) := am_vc 13 [] q

/-! 26 yX2_takeByte -/
theorem vc_26_0 (tt : Nat → Nat) (a0 : Nat) (h : am_H) (Q : Int32 → am_H → Prop) (Qx : String → am_H → Prop) (q :
  (am_K h a0 = 3 ∧
  (((am_I h 2 2 a0) < (Int32.ofNat 0) →
   (am_K h a0 = 3 ∧
   (am_K h a0 = 3 ∧
   (am_K h a0 = 3 ∧
   (am_U (am_sI (am_sI h 2 3 a0 (Int32.ofNat 1)) 2 4 a0 (am_I h 2 1 a0)) + 1 ≤ am_LC ∧ am_V (am_sI (am_sI h 2 3 a0 (Int32.ofNat 1)) 2 4 a0 (am_I h 2 1 a0)) + 6 ≤ am_LS ∧ Qx "java/lang/IllegalStateException" (am_nX (am_sI (am_sI h 2 3 a0 (Int32.ofNat 1)) 2 4 a0 (am_I h 2 1 a0)))))))) ∧
  (¬ ((am_I h 2 2 a0) < (Int32.ofNat 0)) →
   (am_K h a0 = 3 ∧
   (am_K h a0 = 3 ∧
   (((am_I h 2 2 a0) < (am_I h 2 1 a0) →
    (am_K h a0 = 3 ∧ ∃ q1, am_R h 2 0 a0 = some q1 ∧
    (am_K h a0 = 3 ∧
    ((am_K h q1 = 23 ∨ am_K h q1 = 24) ∧ vp_in (am_I h 2 2 a0) (am_N h q1) ∧
    (am_K h a0 = 3 ∧
    (am_K h a0 = 3 ∧
    Q ((am_A h q1 ((am_I h 2 2 a0)).toNatClampNeg) &&& (Int32.ofNat 255)) (am_sI h 2 2 a0 ((am_I h 2 2 a0) + (Int32.ofNat 1))))))))) ∧
   (¬ ((am_I h 2 2 a0) < (am_I h 2 1 a0)) →
    (am_K h a0 = 3 ∧
    (am_K h a0 = 3 ∧
    (am_K h a0 = 3 ∧
    (am_U (am_sI (am_sI h 2 3 a0 (Int32.ofNat 1)) 2 4 a0 (am_I h 2 1 a0)) + 1 ≤ am_LC ∧ am_V (am_sI (am_sI h 2 3 a0 (Int32.ofNat 1)) 2 4 a0 (am_I h 2 1 a0)) + 6 ≤ am_LS ∧ Qx "java/lang/IllegalStateException" (am_nX (am_sI (am_sI h 2 3 a0 (Int32.ofNat 1)) 2 4 a0 (am_I h 2 1 a0))))))))))))))) :
  am_Ev tt 26 0 [some (.ref a0), none] [] h (am_pI Q Qx) := am_vc 26 [] q

/-! 27 yX2_expect -/
theorem vc_27_0 (tt : Nat → Nat) (a0 : Nat) (a1 : Int32) (h : am_H) (Q : am_H → Prop) (Qx : String → am_H → Prop) (q :
  (am_K h a0 = 3 ∧ ∃ (Q2 : Int32 → am_H → Prop) (X2 : String → am_H → Prop), am_Ct tt 26 [.ref a0] h (am_pI Q2 X2) ∧ (∀ x3 h1, Q2 x3 h1 →
   ((x3 = a1 →
    Q h1) ∧
   (¬ (x3 = a1) →
    (am_K h1 a0 = 3 ∧ ∃ (Q5 : am_H → Prop) (X5 : String → am_H → Prop), am_Ct tt 23 [.ref a0] h1 (am_pV Q5 X5) ∧ (∀ h4, Q5 h4 →
     Q h4) ∧ (∀ E6 h4, X5 E6 h4 → Qx E6 h4))))) ∧ (∀ E7 h1, X2 E7 h1 → Qx E7 h1))) :
  am_Ev tt 27 0 [some (.ref a0), some (.int a1)] [] h (am_pV Q Qx) := am_vc 9 [] q

/-! 28 yX2_takeLittle -/
theorem vc_28_0 (tt : Nat → Nat) (a0 : Nat) (a1 : Int32) (h : am_H) (Q : Int64 → am_H → Prop) (Qx : String → am_H → Prop) (q :
  am_Ev tt 28 5 [some (.ref a0), some (.int a1), some (.long (Int64.ofNat 0)), none, some (.int (Int32.ofNat 0))] [] h (am_pL Q Qx)) :
  am_Ev tt 28 0 [some (.ref a0), some (.int a1), none, none, none] [] h (am_pL Q Qx) := am_vc 7 [(5, [true, true, true, false, true])] q
theorem vc_28_5 (tt : Nat → Nat) (a0 : Nat) (a1 : Int32) (a2 : Int64) (a4 : Int32) (h : am_H) (Q : Int64 → am_H → Prop) (Qx : String → am_H → Prop) (q :
  ((a1 ≤ a4 →
   Q a2 h) ∧
  (¬ (a1 ≤ a4) →
   (am_K h a0 = 3 ∧ ∃ (Q2 : Int32 → am_H → Prop) (X2 : String → am_H → Prop), am_Ct tt 26 [.ref a0] h (am_pI Q2 X2) ∧ (∀ x3 h1, Q2 x3 h1 →
    am_Ev tt 28 5 [some (.ref a0), some (.int a1), some (.long (a2 ||| ((x3).toInt64 <<< ((((Int32.ofNat 8) * a4)).toInt64 &&& 63)))), none, some (.int (a4 + (Int32.ofNat 1)))] [] h1 (am_pL Q Qx)) ∧ (∀ E4 h1, X2 E4 h1 → Qx E4 h1))))) :
  am_Ev tt 28 5 [some (.ref a0), some (.int a1), some (.long a2), none, some (.int a4)] [] h (am_pL Q Qx) := am_vc 18 [(5, [true, true, true, false, true])] q

/-! 29 yX2_takeNumber -/
theorem vc_29_0 (tt : Nat → Nat) (a0 : Nat) (a1 : Int64) (a3 : Int64) (h : am_H) (Q : Int64 → am_H → Prop) (Qx : String → am_H → Prop) (q :
  (am_K h a0 = 3 ∧
  (am_K h a0 = 3 ∧ ∃ (Q2 : Int32 → am_H → Prop) (X2 : String → am_H → Prop), am_Ct tt 26 [.ref a0] h (am_pI Q2 X2) ∧ (∀ x3 h1, Q2 x3 h1 →
   am_Ev tt 29 15 [some (.ref a0), some (.long a1), none, some (.long a3), none, some (.int (am_I h 2 2 a0)), some (.int x3), some (.int (Int32.ofNat 0)), none, none] [] h1 (am_pL Q Qx)) ∧ (∀ E4 h1, X2 E4 h1 → Qx E4 h1)))) :
  am_Ev tt 29 0 [some (.ref a0), some (.long a1), none, some (.long a3), none, none, none, none, none, none] [] h (am_pL Q Qx) := am_vc 11 [(15, [true, true, false, true, false, true, true, true, false, false]), (40, [true, true, false, true, false, true, true, true, false, false]), (75, [true, true, false, true, false, true, false, true, true, false]), (100, [true, true, false, true, false, true, false, false, true, false]), (114, [true, false, false, false, false, true, false, false, true, false])] q
theorem vc_29_15 (tt : Nat → Nat) (a0 : Nat) (a1 : Int64) (a3 : Int64) (a5 : Int32) (a6 : Int32) (a7 : Int32) (h : am_H) (Q : Int64 → am_H → Prop) (Qx : String → am_H → Prop) (q :
  (((Int32.ofNat 8) ≤ a7 →
   am_Ev tt 29 40 [some (.ref a0), some (.long a1), none, some (.long a3), none, some (.int a5), some (.int a6), some (.int a7), none, none] [] h (am_pL Q Qx)) ∧
  (¬ ((Int32.ofNat 8) ≤ a7) →
   (((a6 &&& ((Int32.ofNat 128) >>> (a7 &&& 31))) = (Int32.ofNat 0) →
    am_Ev tt 29 40 [some (.ref a0), some (.long a1), none, some (.long a3), none, some (.int a5), some (.int a6), some (.int a7), none, none] [] h (am_pL Q Qx)) ∧
   (¬ ((a6 &&& ((Int32.ofNat 128) >>> (a7 &&& 31))) = (Int32.ofNat 0)) →
    am_Ev tt 29 15 [some (.ref a0), some (.long a1), none, some (.long a3), none, some (.int a5), some (.int a6), some (.int (a7 + (Int32.ofNat 1))), none, none] [] h (am_pL Q Qx)))))) :
  am_Ev tt 29 15 [some (.ref a0), some (.long a1), none, some (.long a3), none, some (.int a5), some (.int a6), some (.int a7), none, none] [] h (am_pL Q Qx) := am_vc 14 [(15, [true, true, false, true, false, true, true, true, false, false]), (40, [true, true, false, true, false, true, true, true, false, false]), (75, [true, true, false, true, false, true, false, true, true, false]), (100, [true, true, false, true, false, true, false, false, true, false]), (114, [true, false, false, false, false, true, false, false, true, false])] q
theorem vc_29_40 (tt : Nat → Nat) (a0 : Nat) (a1 : Int64) (a3 : Int64) (a5 : Int32) (a6 : Int32) (a7 : Int32) (h : am_H) (Q : Int64 → am_H → Prop) (Qx : String → am_H → Prop) (q :
  (am_K h a0 = 3 ∧ ∃ (Q2 : Int64 → am_H → Prop) (X2 : String → am_H → Prop), am_Ct tt 28 [.ref a0, .int a7] h (am_pL Q2 X2) ∧ (∀ x3 h1, Q2 x3 h1 →
   (((Int32.ofNat 7) ≤ a7 →
    am_Ev tt 29 75 [some (.ref a0), some (.long a1), none, some (.long a3), none, some (.int a5), none, some (.int a7), some (.long x3), none] [] h1 (am_pL Q Qx)) ∧
   (¬ ((Int32.ofNat 7) ≤ a7) →
    am_Ev tt 29 75 [some (.ref a0), some (.long a1), none, some (.long a3), none, some (.int a5), none, some (.int a7), some (.long (x3 ||| (((a6 &&& ((Int32.ofNat 127) >>> (a7 &&& 31)))).toInt64 <<< ((((Int32.ofNat 8) * a7)).toInt64 &&& 63)))), none] [] h1 (am_pL Q Qx)))) ∧ (∀ E4 h1, X2 E4 h1 → Qx E4 h1))) :
  am_Ev tt 29 40 [some (.ref a0), some (.long a1), none, some (.long a3), none, some (.int a5), some (.int a6), some (.int a7), none, none] [] h (am_pL Q Qx) := am_vc 23 [(15, [true, true, false, true, false, true, true, true, false, false]), (40, [true, true, false, true, false, true, true, true, false, false]), (75, [true, true, false, true, false, true, false, true, true, false]), (100, [true, true, false, true, false, true, false, false, true, false]), (114, [true, false, false, false, false, true, false, false, true, false])] q
theorem vc_29_75 (tt : Nat → Nat) (a0 : Nat) (a1 : Int64) (a3 : Int64) (a5 : Int32) (a7 : Int32) (a8 : Int64) (h : am_H) (Q : Int64 → am_H → Prop) (Qx : String → am_H → Prop) (q :
  ((a7 ≤ (Int32.ofNat 0) →
   am_Ev tt 29 100 [some (.ref a0), some (.long a1), none, some (.long a3), none, some (.int a5), none, none, some (.long a8), none] [] h (am_pL Q Qx)) ∧
  (¬ (a7 ≤ (Int32.ofNat 0)) →
   ((¬ (lg_cmp ((a8).toUInt64 >>> ((((Int32.ofNat 7) * a7)).toInt64.toUInt64 &&& Int64.toUInt64 63)).toInt64 (Int64.ofNat 0)) = (Int32.ofNat 0) →
    am_Ev tt 29 100 [some (.ref a0), some (.long a1), none, some (.long a3), none, some (.int a5), none, none, some (.long a8), none] [] h (am_pL Q Qx)) ∧
   (¬ (¬ (lg_cmp ((a8).toUInt64 >>> ((((Int32.ofNat 7) * a7)).toInt64.toUInt64 &&& Int64.toUInt64 63)).toInt64 (Int64.ofNat 0)) = (Int32.ofNat 0)) →
    (am_K h a0 = 3 ∧ ∃ (Q2 : am_H → Prop) (X2 : String → am_H → Prop), am_Ct tt 22 [.ref a0, .int (Int32.ofNat 2), .int a5] h (am_pV Q2 X2) ∧ (∀ h1, Q2 h1 →
     am_Ev tt 29 100 [some (.ref a0), some (.long a1), none, some (.long a3), none, some (.int a5), none, none, some (.long a8), none] [] h1 (am_pL Q Qx)) ∧ (∀ E3 h1, X2 E3 h1 → Qx E3 h1))))))) :
  am_Ev tt 29 75 [some (.ref a0), some (.long a1), none, some (.long a3), none, some (.int a5), none, some (.int a7), some (.long a8), none] [] h (am_pL Q Qx) := am_vc 17 [(15, [true, true, false, true, false, true, true, true, false, false]), (40, [true, true, false, true, false, true, true, true, false, false]), (75, [true, true, false, true, false, true, false, true, true, false]), (100, [true, true, false, true, false, true, false, false, true, false]), (114, [true, false, false, false, false, true, false, false, true, false])] q
theorem vc_29_100 (tt : Nat → Nat) (a0 : Nat) (a1 : Int64) (a3 : Int64) (a5 : Int32) (a8 : Int64) (h : am_H) (Q : Int64 → am_H → Prop) (Qx : String → am_H → Prop) (q :
  (((lg_cmp a8 a1) < (Int32.ofNat 0) →
   am_Ev tt 29 114 [some (.ref a0), none, none, none, none, some (.int a5), none, none, some (.long a8), none] [] h (am_pL Q Qx)) ∧
  (¬ ((lg_cmp a8 a1) < (Int32.ofNat 0)) →
   (((lg_cmp a8 a3) ≤ (Int32.ofNat 0) →
    Q a8 h) ∧
   (¬ ((lg_cmp a8 a3) ≤ (Int32.ofNat 0)) →
    am_Ev tt 29 114 [some (.ref a0), none, none, none, none, some (.int a5), none, none, some (.long a8), none] [] h (am_pL Q Qx)))))) :
  am_Ev tt 29 100 [some (.ref a0), some (.long a1), none, some (.long a3), none, some (.int a5), none, none, some (.long a8), none] [] h (am_pL Q Qx) := am_vc 12 [(15, [true, true, false, true, false, true, true, true, false, false]), (40, [true, true, false, true, false, true, true, true, false, false]), (75, [true, true, false, true, false, true, false, true, true, false]), (100, [true, true, false, true, false, true, false, false, true, false]), (114, [true, false, false, false, false, true, false, false, true, false])] q
theorem vc_29_114 (tt : Nat → Nat) (a0 : Nat) (a5 : Int32) (a8 : Int64) (h : am_H) (Q : Int64 → am_H → Prop) (Qx : String → am_H → Prop) (q :
  (am_K h a0 = 3 ∧ ∃ (Q2 : am_H → Prop) (X2 : String → am_H → Prop), am_Ct tt 22 [.ref a0, .int (Int32.ofNat 5), .int a5] h (am_pV Q2 X2) ∧ (∀ h1, Q2 h1 →
   Q a8 h1) ∧ (∀ E3 h1, X2 E3 h1 → Qx E3 h1))) :
  am_Ev tt 29 114 [some (.ref a0), none, none, none, none, some (.int a5), none, none, some (.long a8), none] [] h (am_pL Q Qx) := am_vc 8 [(15, [true, true, false, true, false, true, true, true, false, false]), (40, [true, true, false, true, false, true, true, true, false, false]), (75, [true, true, false, true, false, true, false, true, true, false]), (100, [true, true, false, true, false, true, false, false, true, false]), (114, [true, false, false, false, false, true, false, false, true, false])] q

/-- a cursor c over n bytes of b, at p -/
def cu_s (h : am_H) (c b n p : Nat) : Prop := am_K h c = 3 ∧ am_R h 2 0 c = some b ∧ am_K h b = 23 ∧ n ≤ am_N h b ∧ n ≤ 5000 ∧ am_I h 2 1 c = Int32.ofNat n ∧ am_I h 2 2 c = Int32.ofNat p ∧ p ≤ n ∧ am_U h + 1 ≤ am_LC ∧ am_V h + 6 ≤ am_LS
def cp (h : am_H) (c p : Nat) : am_H := am_sI h 2 2 c (Int32.ofNat p)
def cf (h : am_H) (c f pl : Nat) : am_H := am_nX (am_sI (am_sI h 2 3 c (Int32.ofNat f)) 2 4 c (Int32.ofNat pl))
theorem sI_id {h : am_H} {c k a : Nat} {v : Int32} (e : am_I h c k a = v) : am_sI h c k a v = h := by
  have : am_u3 (am_I h) c k a v = am_I h := by
    funext c' k' a'
    simp only [am_u3]
    split
    · next z => rw [z.1, z.2.1, z.2.2, e]
    · rfl
  unfold am_sI
  rw [this]
  rfl
theorem sI_sI {h : am_H} {c k a : Nat} {v w : Int32} : am_sI (am_sI h c k a v) c k a w = am_sI h c k a w := by
  simp only [am_sI, am_K, am_I, am_J, am_R, am_N, am_A, am_B, am_C, am_U, am_V, Prod.mk.injEq, true_and, and_true]
  funext c' k' a'
  simp only [am_u3]
  split <;> rfl
theorem cp_cp {h : am_H} {c p q : Nat} : cp (cp h c p) c q = cp h c q := sI_sI
theorem cp_id {h : am_H} {c p : Nat} (e : am_I h 2 2 c = Int32.ofNat p) : cp h c p = h := sI_id e
theorem cp_fr : (∀ h c p, am_K (cp h c p) = am_K h) ∧ (∀ h c p, am_N (cp h c p) = am_N h) ∧ (∀ h c p, am_R (cp h c p) = am_R h) ∧ (∀ h c p, am_C (cp h c p) = am_C h) ∧ (∀ h c p, am_J (cp h c p) = am_J h) ∧ (∀ h c p, am_B (cp h c p) = am_B h) ∧ (∀ h c p, am_A (cp h c p) = am_A h) ∧ (∀ h c p, am_U (cp h c p) = am_U h) ∧ (∀ h c p, am_V (cp h c p) = am_V h) := ⟨fun _ _ _ => rfl, fun _ _ _ => rfl, fun _ _ _ => rfl, fun _ _ _ => rfl, fun _ _ _ => rfl, fun _ _ _ => rfl, fun _ _ _ => rfl, fun _ _ _ => rfl, fun _ _ _ => rfl⟩
theorem cp_I {h : am_H} {c p c' k a : Nat} : am_I (cp h c p) c' k a = if c' = 2 ∧ k = 2 ∧ a = c then Int32.ofNat p else am_I h c' k a := rfl
theorem cu_cp {h : am_H} {c b n p q : Nat} (s : cu_s h c b n p) (hq : q ≤ n) : cu_s (cp h c q) c b n q := by
  obtain ⟨s1, s2, s3, s4, s5, s6, s7, s8, s9, s10⟩ := s
  refine ⟨s1, s2, s3, s4, s5, ?_, ?_, hq, s9, s10⟩
  · rw [cp_I, if_neg (by omega)]; exact s6
  · rw [cp_I, if_pos (by simp)]
abbrev pe : Type := Nat × Nat
/-- taken: x, up to p' -/
def okp {α : Type} (h : am_H) (c n : Nat) (r : Except pe (α × Nat)) (x : α) (h' : am_H) : Prop := ∃ p', r = .ok (x, p') ∧ p' ≤ n ∧ h' = cp h c p'
/-- a FAULT -/
def erp {α : Type} (h : am_H) (c : Nat) (r : Except pe α) (E : String) (h' : am_H) : Prop := E = am_ex 0 ∧ ∃ f pl p', r = .error (f, pl) ∧ h' = cf (cp h c p') c f pl
def tB (f : Nat → Int32) (n p : Nat) : Except pe (Int32 × Nat) := if p < n then .ok (f p &&& Int32.ofNat 255, p + 1) else .error (1, n)
def tX (f : Nat → Int32) (n p : Nat) (v : Nat) : Except pe (Unit × Nat) := if p < n then (if f p &&& Int32.ofNat 255 = Int32.ofNat v then .ok ((), p + 1) else .error (2, p)) else .error (1, n)
def tL (f : Nat → Int32) (n p k : Nat) : Except pe (Int64 × Nat) := if p + k ≤ n then .ok (lt f p k, p + k) else .error (1, n)
/-- ones that lead -/
def lo (b : Int32) : Nat → Nat → Nat
  | 0, k => k
  | d + 1, k => if b &&& (Int32.ofNat 128 >>> (Int32.ofNat k &&& 31)) = Int32.ofNat 0 then k else lo b d (k + 1)
/-- the value of a NUMBER that begins at p with the byte b, k more behind -/
def nv (f : Nat → Int32) (p : Nat) (b : Int32) (k : Nat) : Int64 := if k < 7 then lt f (p + 1) k ||| ((b &&& (Int32.ofNat 127 >>> (Int32.ofNat k &&& 31))).toInt64 <<< Int64.ofNat (8 * k)) else lt f (p + 1) k
def tN (f : Nat → Int32) (n p : Nat) (l m : Int64) : Except pe (Int64 × Nat) :=
  if p < n then (let b := f p &&& Int32.ofNat 255; let k := lo b 8 0
    if p + 1 + k ≤ n then (let v := nv f p b k
      if 0 < k ∧ (v.toUInt64 >>> UInt64.ofNat (7 * k)).toInt64 = Int64.ofNat 0 then .error (2, p)
      else if v < l ∨ m < v then .error (5, p) else .ok (v, p + 1 + k))
    else .error (1, n))
  else .error (1, n)
theorem lo_le (b : Int32) : ∀ (d k : Nat), lo b d k ≤ d + k
  | 0, k => by simp [lo]
  | d + 1, k => by
    unfold lo
    split
    · omega
    · have := lo_le b d (k + 1); omega
theorem ct_cfail {tt : Nat → Nat} {h : am_H} {c : Nat} {f pl : Int32} (hK : am_K h c = 3) (hu : am_U h + 1 ≤ am_LC ∧ am_V h + 6 ≤ am_LS) : am_Ct tt 22 [.ref c, .int f, .int pl] h (am_pV (fun _ => False) (fun E h' => E = am_ex 0 ∧ h' = am_nX (am_sI (am_sI h 2 3 c f) 2 4 c pl))) := by
  refine vc_22_0 tt c _ _ h _ _ ?_
  simp (disch := omega) only [hK, hu, am_hs, qi_lt, qi_le, qi_eq, qi_nn, qi_in, qi_add, qi_l, ql_i, ql_lt, ql_le, ql_eq, ql_add, qc_lt, qc_eq, qc_ge, qc_gt, qc_le, true_and, and_true, and_self, true_or, or_true, false_or, or_false, false_and, and_false, not_true_eq_false, not_false_eq_true, Classical.not_not, true_implies, false_implies, implies_true, exists_eq_left, exists_eq_left', Option.some.injEq, reduceIte, Nat.reduceEqDiff, Nat.reduceLT, Nat.reduceLeDiff, Nat.reduceAdd, Nat.reduceSub, Nat.reduceMul, eq_self, ne_eq, and_imp, forall_const, reduceCtorEq, am_w, List.map_cons, List.map_nil, List.sum_cons, List.sum_nil, Value.category, Nat.zero_le, Nat.le_refl]
  exact rfl
theorem ct_cfail' {tt : Nat → Nat} {h : am_H} {c b n p f pl : Nat} (s : cu_s h c b n p) : am_Ct tt 22 [.ref c, .int (Int32.ofNat f), .int (Int32.ofNat pl)] h (am_pV (fun _ => False) (fun E h' => E = am_ex 0 ∧ h' = cf (cp h c p) c f pl)) := by
  rw [cp_id s.2.2.2.2.2.2.1]
  exact ct_cfail s.1 s.2.2.2.2.2.2.2.2
theorem ct_failAtLast {tt : Nat → Nat} {h : am_H} {c b n p : Nat} (s : cu_s h c b n p) (hp : 1 ≤ p) : am_Ct tt 23 [.ref c] h (am_pV (fun _ => False) (fun E h' => E = am_ex 0 ∧ h' = cf (cp h c p) c 2 (p - 1))) := by
  refine vc_23_0 tt c h _ _ ?_
  have e : am_I h 2 2 c = Int32.ofNat p := s.2.2.2.2.2.2.1
  simp (disch := omega) only [s.1, e, qi_sub, am_hs, qi_lt, qi_le, qi_eq, qi_nn, qi_in, qi_add, qi_l, ql_i, ql_lt, ql_le, ql_eq, ql_add, qc_lt, qc_eq, qc_ge, qc_gt, qc_le, true_and, and_true, and_self, true_or, or_true, false_or, or_false, false_and, and_false, not_true_eq_false, not_false_eq_true, Classical.not_not, true_implies, false_implies, implies_true, exists_eq_left, exists_eq_left', Option.some.injEq, reduceIte, Nat.reduceEqDiff, Nat.reduceLT, Nat.reduceLeDiff, Nat.reduceAdd, Nat.reduceSub, Nat.reduceMul, eq_self, ne_eq, and_imp, forall_const, reduceCtorEq, am_w, List.map_cons, List.map_nil, List.sum_cons, List.sum_nil, Value.category, Nat.zero_le, Nat.le_refl]
  exact ⟨_, _, ct_cfail' s, fun _ z => z, fun _ _ z => z⟩
theorem ct_needHead {tt : Nat → Nat} {h : am_H} {c b n p : Nat} (s : cu_s h c b n p) : am_Ct tt 24 [.ref c] h (am_pV (fun h' => 32 ≤ n ∧ h' = h) (fun E h' => n < 32 ∧ E = am_ex 0 ∧ h' = cf (cp h c p) c 1 n)) := by
  refine vc_24_0 tt c h _ _ ?_
  have s' := s
  obtain ⟨s1, s2, s3, s4, s5, s6, s7, s8, s9⟩ := s
  simp (disch := omega) only [s1, s6, am_hs, qi_lt, qi_le, qi_eq, qi_nn, qi_in, qi_add, qi_l, ql_i, ql_lt, ql_le, ql_eq, ql_add, qc_lt, qc_eq, qc_ge, qc_gt, qc_le, true_and, and_true, and_self, true_or, or_true, false_or, or_false, false_and, and_false, not_true_eq_false, not_false_eq_true, Classical.not_not, true_implies, false_implies, implies_true, exists_eq_left, exists_eq_left', Option.some.injEq, reduceIte, Nat.reduceEqDiff, Nat.reduceLT, Nat.reduceLeDiff, Nat.reduceAdd, Nat.reduceSub, Nat.reduceMul, eq_self, ne_eq, and_imp, forall_const, reduceCtorEq, am_w, List.map_cons, List.map_nil, List.sum_cons, List.sum_nil, Value.category, Nat.zero_le, Nat.le_refl]
  exact ⟨fun z => z, fun z => ⟨_, _, ct_cfail' s', fun _ z => z.elim, fun _ _ w => ⟨by omega, w⟩⟩⟩
theorem ct_needEnd {tt : Nat → Nat} {h : am_H} {c b n p : Nat} (s : cu_s h c b n p) : am_Ct tt 25 [.ref c] h (am_pV (fun h' => p = n ∧ h' = h) (fun E h' => p < n ∧ E = am_ex 0 ∧ h' = cf (cp h c p) c 6 p)) := by
  refine vc_25_0 tt c h _ _ ?_
  have s' := s
  obtain ⟨s1, s2, s3, s4, s5, s6, s7, s8, s9⟩ := s
  simp (disch := omega) only [s1, s6, s7, am_hs, qi_lt, qi_le, qi_eq, qi_nn, qi_in, qi_add, qi_l, ql_i, ql_lt, ql_le, ql_eq, ql_add, qc_lt, qc_eq, qc_ge, qc_gt, qc_le, true_and, and_true, and_self, true_or, or_true, false_or, or_false, false_and, and_false, not_true_eq_false, not_false_eq_true, Classical.not_not, true_implies, false_implies, implies_true, exists_eq_left, exists_eq_left', Option.some.injEq, reduceIte, Nat.reduceEqDiff, Nat.reduceLT, Nat.reduceLeDiff, Nat.reduceAdd, Nat.reduceSub, Nat.reduceMul, eq_self, ne_eq, and_imp, forall_const, reduceCtorEq, am_w, List.map_cons, List.map_nil, List.sum_cons, List.sum_nil, Value.category, Nat.zero_le, Nat.le_refl]
  exact ⟨fun z => by omega, fun z => ⟨_, _, ct_cfail' s', fun _ z => z.elim, fun _ _ w => ⟨by omega, w⟩⟩⟩
theorem ct_takeByte {tt : Nat → Nat} {h : am_H} {c b n p : Nat} (s : cu_s h c b n p) : am_Ct tt 26 [.ref c] h (am_pI (okp h c n (tB (am_A h b) n p)) (erp h c (tB (am_A h b) n p))) := by
  refine vc_26_0 tt c h _ _ ?_
  have hid := cp_id s.2.2.2.2.2.2.1
  obtain ⟨s1, s2, s3, s4, s5, s6, s7, s8, s9, s10⟩ := s
  simp (disch := omega) only [s1, s2, s3, s6, s7, s9, s10, am_hs, qi_lt, qi_le, qi_eq, qi_nn, qi_in, qi_add, qi_l, ql_i, ql_lt, ql_le, ql_eq, ql_add, qc_lt, qc_eq, qc_ge, qc_gt, qc_le, true_and, and_true, and_self, true_or, or_true, false_or, or_false, false_and, and_false, not_true_eq_false, not_false_eq_true, Classical.not_not, true_implies, false_implies, implies_true, exists_eq_left, exists_eq_left', Option.some.injEq, reduceIte, Nat.reduceEqDiff, Nat.reduceLT, Nat.reduceLeDiff, Nat.reduceAdd, Nat.reduceSub, Nat.reduceMul, eq_self, ne_eq, and_imp, forall_const, reduceCtorEq, am_w, List.map_cons, List.map_nil, List.sum_cons, List.sum_nil, Value.category, Nat.zero_le, Nat.le_refl]
  exact ⟨fun z => by omega, fun _ => ⟨fun z => ⟨by omega, p + 1, by rw [tB, if_pos z], by omega, rfl⟩, fun z => ⟨rfl, 1, n, p, by rw [tB, if_neg z], by rw [hid]; rfl⟩⟩⟩
theorem tB_ok {f : Nat → Int32} {n p p' : Nat} {x : Int32} (h : tB f n p = .ok (x, p')) : p < n ∧ x = f p &&& Int32.ofNat 255 ∧ p' = p + 1 := by
  unfold tB at h
  split at h
  · next z => cases h; exact ⟨z, rfl, rfl⟩
  · cases h
theorem tB_er {f : Nat → Int32} {n p a b : Nat} (h : tB f n p = .error (a, b)) : ¬ p < n ∧ a = 1 ∧ b = n := by
  unfold tB at h
  split at h
  · cases h
  · next z => cases h; exact ⟨z, rfl, rfl⟩
theorem ct_expect {tt : Nat → Nat} {h : am_H} {c b n p v : Nat} (s : cu_s h c b n p) : am_Ct tt 27 [.ref c, .int (Int32.ofNat v)] h (am_pV (okp h c n (tX (am_A h b) n p v) ()) (erp h c (tX (am_A h b) n p v))) := by
  refine vc_27_0 tt c _ h _ _ ?_
  simp (disch := omega) only [s.1, am_hs, qi_lt, qi_le, qi_eq, qi_nn, qi_in, qi_add, qi_l, ql_i, ql_lt, ql_le, ql_eq, ql_add, qc_lt, qc_eq, qc_ge, qc_gt, qc_le, true_and, and_true, and_self, true_or, or_true, false_or, or_false, false_and, and_false, not_true_eq_false, not_false_eq_true, Classical.not_not, true_implies, false_implies, implies_true, exists_eq_left, exists_eq_left', Option.some.injEq, reduceIte, Nat.reduceEqDiff, Nat.reduceLT, Nat.reduceLeDiff, Nat.reduceAdd, Nat.reduceSub, Nat.reduceMul, eq_self, ne_eq, and_imp, forall_const, reduceCtorEq, am_w, List.map_cons, List.map_nil, List.sum_cons, List.sum_nil, Value.category, Nat.zero_le, Nat.le_refl]
  refine ⟨_, _, ct_takeByte s, fun x k e => ?_, fun E k e => ?_⟩
  · obtain ⟨p', e1, e2, e3⟩ := e
    subst e3
    obtain ⟨e4, e5, e6⟩ := tB_ok e1
    subst e5 e6
    refine ⟨fun z => ⟨p + 1, by rw [tX, if_pos e4, if_pos z], e2, rfl⟩, fun z => ⟨s.1, _, _, ct_failAtLast (cu_cp s e2) (by omega), fun _ z => z.elim, fun E k w => ⟨w.1, 2, p, p + 1, by rw [tX, if_pos e4, if_neg z], ?_⟩⟩⟩
    rw [w.2, cp_cp]
    rfl
  · obtain ⟨e1, f, pl, p', e2, e3⟩ := e
    obtain ⟨z, rfl, rfl⟩ := tB_er e2
    exact ⟨e1, 1, _, p', by rw [tX, if_neg z], e3⟩
theorem lt_b {x : Int32} : (x &&& Int32.ofNat 255).toInt64 = x.toInt64 &&& Int64.ofNat 255 := by
  apply Int64.toBitVec_inj.1
  apply BitVec.eq_of_getElem_eq
  intro i hi
  have e1 : (Int64.ofNat 255).toBitVec = 255#64 := rfl
  have e2 : (Int32.ofNat 255).toBitVec = 255#32 := rfl
  rw [Int32.toBitVec_toInt64, Int64.toBitVec_and, Int32.toBitVec_toInt64, Int32.toBitVec_and, e1, e2]
  have m : ∀ i : Fin 64, (255#64).getLsbD i.val = decide (i.val < 8) := by decide
  have m2 : ∀ i : Fin 32, (255#32).getLsbD i.val = decide (i.val < 8) := by decide
  have h1 := m ⟨i, hi⟩
  simp only [] at h1
  rw [BitVec.getElem_and, ← BitVec.getLsbD_eq_getElem (x := 255#64), h1, BitVec.getElem_signExtend, BitVec.getElem_signExtend]
  by_cases h : i < 32
  · have h2 := m2 ⟨i, h⟩
    simp only [] at h2
    rw [dif_pos h, dif_pos h, BitVec.getElem_and, ← BitVec.getLsbD_eq_getElem (x := 255#32), h2]
  · rw [dif_neg h, dif_neg h, BitVec.msb_and]
    have : (255#32).msb = false := by decide
    rw [this, decide_eq_false (by omega)]
theorem ct_takeLittle {tt : Nat → Nat} {h : am_H} {c b n p m : Nat} (s : cu_s h c b n p) (hm : m ≤ 8) : am_Ct tt 28 [.ref c, .int (Int32.ofNat m)] h (am_pL (okp h c n (tL (am_A h b) n p m)) (erp h c (tL (am_A h b) n p m))) := by
  have key : ∀ (d i : Nat) (k : am_H), d + i = m → p + i ≤ n → k = cp h c (p + i) →
      am_Ev tt 28 5 [some (.ref c), some (.int (Int32.ofNat m)), some (.long (lt (am_A h b) p i)), none, some (.int (Int32.ofNat i))] [] k (am_pL (okp h c n (tL (am_A h b) n p m)) (erp h c (tL (am_A h b) n p m))) := by
    intro d
    induction d with
    | zero =>
      intro i k e hi ek
      refine vc_28_5 tt c _ _ _ k _ _ ?_
      have : m = i := by omega
      subst this
      simp (disch := omega) only [qi_lt, qi_le, qi_eq, qi_nn, qi_in, qi_add, qi_l, ql_i, ql_lt, ql_le, ql_eq, ql_add, qc_lt, qc_eq, qc_ge, qc_gt, qc_le, true_and, and_true, and_self, true_or, or_true, false_or, or_false, false_and, and_false, not_true_eq_false, not_false_eq_true, Classical.not_not, true_implies, false_implies, implies_true, exists_eq_left, exists_eq_left', Option.some.injEq, reduceIte, Nat.reduceEqDiff, Nat.reduceLT, Nat.reduceLeDiff, Nat.reduceAdd, Nat.reduceSub, Nat.reduceMul, eq_self, ne_eq, and_imp, forall_const, reduceCtorEq, am_w, List.map_cons, List.map_nil, List.sum_cons, List.sum_nil, Value.category, Nat.zero_le, Nat.le_refl]
      exact ⟨p + m, by rw [tL, if_pos hi], hi, ek⟩
    | succ d ih =>
      intro i k e hi ek
      subst ek
      have s' := cu_cp s hi
      refine vc_28_5 tt c _ _ _ _ _ _ ?_
      simp (disch := omega) only [s'.1, qi_mul, qi_lt, qi_le, qi_eq, qi_nn, qi_in, qi_add, qi_l, ql_i, ql_lt, ql_le, ql_eq, ql_add, qc_lt, qc_eq, qc_ge, qc_gt, qc_le, true_and, and_true, and_self, true_or, or_true, false_or, or_false, false_and, and_false, not_true_eq_false, not_false_eq_true, Classical.not_not, true_implies, false_implies, implies_true, exists_eq_left, exists_eq_left', Option.some.injEq, reduceIte, Nat.reduceEqDiff, Nat.reduceLT, Nat.reduceLeDiff, Nat.reduceAdd, Nat.reduceSub, Nat.reduceMul, eq_self, ne_eq, and_imp, forall_const, reduceCtorEq, am_w, List.map_cons, List.map_nil, List.sum_cons, List.sum_nil, Value.category, Nat.zero_le, Nat.le_refl]
      refine ⟨fun z => by omega, fun _ => ⟨_, _, ct_takeByte s', fun x k e => ?_, fun E k e => ?_⟩⟩
      · obtain ⟨p', e1, e2, e3⟩ := e
        obtain ⟨e4, e5, e6⟩ := tB_ok e1
        subst e3 e5 e6
        rw [cp_cp, sh_s8 i (by omega), lt_b]
        exact ih (i + 1) _ (by omega) (by omega) rfl
      · obtain ⟨e1, f, pl, p', e2, e3⟩ := e
        obtain ⟨z, rfl, rfl⟩ := tB_er e2
        rw [cp_cp] at e3
        exact ⟨e1, 1, _, p', by rw [tL, if_neg (by omega)], e3⟩
  exact vc_28_0 tt c _ h _ _ (key m 0 h (by omega) (by have := s.2.2.2.2.2.2.2.1; omega) (cp_id s.2.2.2.2.2.2.1).symm)
theorem tL_ok {f : Nat → Int32} {n p k p' : Nat} {x : Int64} (h : tL f n p k = .ok (x, p')) : p + k ≤ n ∧ x = lt f p k ∧ p' = p + k := by
  unfold tL at h
  split at h
  · next z => cases h; exact ⟨z, rfl, rfl⟩
  · cases h
theorem tL_er {f : Nat → Int32} {n p k a b : Nat} (h : tL f n p k = .error (a, b)) : ¬ p + k ≤ n ∧ a = 1 ∧ b = n := by
  unfold tL at h
  split at h
  · cases h
  · next z => cases h; exact ⟨z, rfl, rfl⟩
theorem ct_takeNumber {tt : Nat → Nat} {h : am_H} {c b n p : Nat} {l m : Int64} (s : cu_s h c b n p) : am_Ct tt 29 [.ref c, .long l, .long m] h (am_pL (okp h c n (tN (am_A h b) n p l m)) (erp h c (tN (am_A h b) n p l m))) := by
  have hI : am_I h 2 2 c = Int32.ofNat p := s.2.2.2.2.2.2.1
  refine vc_29_0 tt c _ _ h _ _ ?_
  simp (disch := omega) only [s.1, hI, qi_lt, qi_le, qi_eq, qi_nn, qi_in, qi_add, qi_l, ql_i, ql_lt, ql_le, ql_eq, ql_add, qc_lt, qc_eq, qc_ge, qc_gt, qc_le, true_and, and_true, and_self, true_or, or_true, false_or, or_false, false_and, and_false, not_true_eq_false, not_false_eq_true, Classical.not_not, true_implies, false_implies, implies_true, exists_eq_left, exists_eq_left', Option.some.injEq, reduceIte, Nat.reduceEqDiff, Nat.reduceLT, Nat.reduceLeDiff, Nat.reduceAdd, Nat.reduceSub, Nat.reduceMul, eq_self, ne_eq, and_imp, forall_const, reduceCtorEq, am_w, List.map_cons, List.map_nil, List.sum_cons, List.sum_nil, Value.category, Nat.zero_le, Nat.le_refl]
  refine ⟨_, _, ct_takeByte s, fun x k e => ?_, fun E k e => ?_⟩
  · obtain ⟨p', e1, e2, e3⟩ := e
    obtain ⟨e4, e5, e6⟩ := tB_ok e1
    subst e3 e6
    have tail : ∀ j, j = lo x 8 0 → am_Ev tt 29 40 [some (.ref c), some (.long l), none, some (.long m), none, some (.int (Int32.ofNat p)), some (.int x), some (.int (Int32.ofNat j)), none, none] [] (cp h c (p + 1)) (am_pL (okp h c n (tN (am_A h b) n p l m)) (erp h c (tN (am_A h b) n p l m))) := by
      intro j ej
      have hj : j ≤ 8 := by have := lo_le x 8 0; omega
      have fin : ∀ v, v = nv (am_A h b) p x j → p + 1 + j ≤ n → am_Ev tt 29 75 [some (.ref c), some (.long l), none, some (.long m), none, some (.int (Int32.ofNat p)), none, some (.int (Int32.ofNat j)), some (.long v), none] [] (cp h c (p + 1 + j)) (am_pL (okp h c n (tN (am_A h b) n p l m)) (erp h c (tN (am_A h b) n p l m))) := by
        intro v ev hl
        have s2 := cu_cp s hl
        have last : ¬ (0 < j ∧ (v.toUInt64 >>> UInt64.ofNat (7 * j)).toInt64 = Int64.ofNat 0) → am_Ev tt 29 100 [some (.ref c), some (.long l), none, some (.long m), none, some (.int (Int32.ofNat p)), none, none, some (.long v), none] [] (cp h c (p + 1 + j)) (am_pL (okp h c n (tN (am_A h b) n p l m)) (erp h c (tN (am_A h b) n p l m))) := by
          intro hno
          have bad : v < l ∨ m < v → am_Ev tt 29 114 [some (.ref c), none, none, none, none, some (.int (Int32.ofNat p)), none, none, some (.long v), none] [] (cp h c (p + 1 + j)) (am_pL (okp h c n (tN (am_A h b) n p l m)) (erp h c (tN (am_A h b) n p l m))) := by
            intro hb
            refine vc_29_114 tt c _ _ _ _ _ ?_
            simp (disch := omega) only [s2.1, qi_lt, qi_le, qi_eq, qi_nn, qi_in, qi_add, qi_l, ql_i, ql_lt, ql_le, ql_eq, ql_add, qc_lt, qc_eq, qc_ge, qc_gt, qc_le, true_and, and_true, and_self, true_or, or_true, false_or, or_false, false_and, and_false, not_true_eq_false, not_false_eq_true, Classical.not_not, true_implies, false_implies, implies_true, exists_eq_left, exists_eq_left', Option.some.injEq, reduceIte, Nat.reduceEqDiff, Nat.reduceLT, Nat.reduceLeDiff, Nat.reduceAdd, Nat.reduceSub, Nat.reduceMul, eq_self, ne_eq, and_imp, forall_const, reduceCtorEq, am_w, List.map_cons, List.map_nil, List.sum_cons, List.sum_nil, Value.category, Nat.zero_le, Nat.le_refl]
            refine ⟨_, _, ct_cfail' s2, fun _ z => z.elim, fun E k w => ⟨w.1, 5, p, p + 1 + j, ?_, by rw [w.2, cp_cp]⟩⟩
            rw [tN, if_pos e4]
            simp only []
            rw [← e5, ← ej, if_pos hl, ← ev, if_neg hno, if_pos hb]
          refine vc_29_100 tt c _ _ _ _ _ _ _ ?_
          simp (disch := omega) only [qi_lt, qi_le, qi_eq, qi_nn, qi_in, qi_add, qi_l, ql_i, ql_lt, ql_le, ql_eq, ql_add, qc_lt, qc_eq, qc_ge, qc_gt, qc_le, true_and, and_true, and_self, true_or, or_true, false_or, or_false, false_and, and_false, not_true_eq_false, not_false_eq_true, Classical.not_not, true_implies, false_implies, implies_true, exists_eq_left, exists_eq_left', Option.some.injEq, reduceIte, Nat.reduceEqDiff, Nat.reduceLT, Nat.reduceLeDiff, Nat.reduceAdd, Nat.reduceSub, Nat.reduceMul, eq_self, ne_eq, and_imp, forall_const, reduceCtorEq, am_w, List.map_cons, List.map_nil, List.sum_cons, List.sum_nil, Value.category, Nat.zero_le, Nat.le_refl]
          refine ⟨fun z => bad (Or.inl z), fun z => ⟨fun z2 => ⟨p + 1 + j, ?_, hl, rfl⟩, fun z2 => bad (Or.inr (Int64.not_le.1 z2))⟩⟩
          rw [tN, if_pos e4]
          simp only []
          rw [← e5, ← ej, if_pos hl, ← ev, if_neg hno, if_neg]
          intro w
          rcases w with w | w
          · exact z w
          · exact absurd z2 (Int64.not_le.2 w)
        refine vc_29_75 tt c _ _ _ _ _ _ _ _ ?_
        simp (disch := omega) only [s2.1, qi_mul, qi_lt, qi_le, qi_eq, qi_nn, qi_in, qi_add, qi_l, ql_i, ql_lt, ql_le, ql_eq, ql_add, qc_lt, qc_eq, qc_ge, qc_gt, qc_le, true_and, and_true, and_self, true_or, or_true, false_or, or_false, false_and, and_false, not_true_eq_false, not_false_eq_true, Classical.not_not, true_implies, false_implies, implies_true, exists_eq_left, exists_eq_left', Option.some.injEq, reduceIte, Nat.reduceEqDiff, Nat.reduceLT, Nat.reduceLeDiff, Nat.reduceAdd, Nat.reduceSub, Nat.reduceMul, eq_self, ne_eq, and_imp, forall_const, reduceCtorEq, am_w, List.map_cons, List.map_nil, List.sum_cons, List.sum_nil, Value.category, Nat.zero_le, Nat.le_refl]
        refine ⟨fun z => last (by omega), fun z => ?_⟩
        rw [sh_u7 j (by omega)]
        refine ⟨fun z2 => last (fun w => z2 w.2), fun z2 => ⟨_, _, ct_cfail' s2, fun _ z => z.elim, fun E k w => ⟨w.1, 2, p, p + 1 + j, ?_, by rw [w.2, cp_cp]⟩⟩⟩
        rw [tN, if_pos e4]
        simp only []
        rw [← e5, ← ej, if_pos hl, ← ev, if_pos ⟨by omega, z2⟩]
      refine vc_29_40 tt c _ _ _ _ _ _ _ _ ?_
      have s1 := cu_cp s e2
      simp (disch := omega) only [s1.1, qi_mul, qi_lt, qi_le, qi_eq, qi_nn, qi_in, qi_add, qi_l, ql_i, ql_lt, ql_le, ql_eq, ql_add, qc_lt, qc_eq, qc_ge, qc_gt, qc_le, true_and, and_true, and_self, true_or, or_true, false_or, or_false, false_and, and_false, not_true_eq_false, not_false_eq_true, Classical.not_not, true_implies, false_implies, implies_true, exists_eq_left, exists_eq_left', Option.some.injEq, reduceIte, Nat.reduceEqDiff, Nat.reduceLT, Nat.reduceLeDiff, Nat.reduceAdd, Nat.reduceSub, Nat.reduceMul, eq_self, ne_eq, and_imp, forall_const, reduceCtorEq, am_w, List.map_cons, List.map_nil, List.sum_cons, List.sum_nil, Value.category, Nat.zero_le, Nat.le_refl]
      refine ⟨_, _, ct_takeLittle s1 hj, fun v k e => ?_, fun E k e => ?_⟩
      · obtain ⟨p', d1, d2, d3⟩ := e
        obtain ⟨d4, d5, d6⟩ := tL_ok d1
        subst d3 d6
        rw [cp_cp]
        refine ⟨fun z => fin v (by rw [d5, nv, if_neg (by omega)]; rfl) d4, fun z => fin _ (by rw [d5, nv, if_pos (by omega), sh_s8 j (by omega)]; rfl) d4⟩
      · obtain ⟨d1, f, pl, p', d2, d3⟩ := e
        obtain ⟨z, rfl, rfl⟩ := tL_er d2
        rw [cp_cp] at d3
        refine ⟨d1, 1, _, p', ?_, d3⟩
        rw [tN, if_pos e4]
        simp only []
        rw [← e5, ← ej, if_neg z]
    have loop : ∀ d j, d + j = 8 → lo x d j = lo x 8 0 → am_Ev tt 29 15 [some (.ref c), some (.long l), none, some (.long m), none, some (.int (Int32.ofNat p)), some (.int x), some (.int (Int32.ofNat j)), none, none] [] (cp h c (p + 1)) (am_pL (okp h c n (tN (am_A h b) n p l m)) (erp h c (tN (am_A h b) n p l m))) := by
      intro d
      induction d with
      | zero =>
        intro j e el
        refine vc_29_15 tt c _ _ _ _ _ _ _ _ ?_
        simp (disch := omega) only [qi_lt, qi_le, qi_eq, qi_nn, qi_in, qi_add, qi_l, ql_i, ql_lt, ql_le, ql_eq, ql_add, qc_lt, qc_eq, qc_ge, qc_gt, qc_le, true_and, and_true, and_self, true_or, or_true, false_or, or_false, false_and, and_false, not_true_eq_false, not_false_eq_true, Classical.not_not, true_implies, false_implies, implies_true, exists_eq_left, exists_eq_left', Option.some.injEq, reduceIte, Nat.reduceEqDiff, Nat.reduceLT, Nat.reduceLeDiff, Nat.reduceAdd, Nat.reduceSub, Nat.reduceMul, eq_self, ne_eq, and_imp, forall_const, reduceCtorEq, am_w, List.map_cons, List.map_nil, List.sum_cons, List.sum_nil, Value.category, Nat.zero_le, Nat.le_refl]
        exact ⟨fun _ => tail j el, fun z => by omega⟩
      | succ d ih =>
        intro j e el
        refine vc_29_15 tt c _ _ _ _ _ _ _ _ ?_
        simp (disch := omega) only [qi_lt, qi_le, qi_eq, qi_nn, qi_in, qi_add, qi_l, ql_i, ql_lt, ql_le, ql_eq, ql_add, qc_lt, qc_eq, qc_ge, qc_gt, qc_le, true_and, and_true, and_self, true_or, or_true, false_or, or_false, false_and, and_false, not_true_eq_false, not_false_eq_true, Classical.not_not, true_implies, false_implies, implies_true, exists_eq_left, exists_eq_left', Option.some.injEq, reduceIte, Nat.reduceEqDiff, Nat.reduceLT, Nat.reduceLeDiff, Nat.reduceAdd, Nat.reduceSub, Nat.reduceMul, eq_self, ne_eq, and_imp, forall_const, reduceCtorEq, am_w, List.map_cons, List.map_nil, List.sum_cons, List.sum_nil, Value.category, Nat.zero_le, Nat.le_refl]
        unfold lo at el
        refine ⟨fun z => by omega, fun _ => ⟨fun z => tail j (by rw [if_pos z] at el; exact el), fun z => ih (j + 1) (by omega) (by rw [if_neg z] at el; exact el)⟩⟩
    exact loop 8 0 (by omega) rfl
  · obtain ⟨e1, f, pl, p', e2, e3⟩ := e
    obtain ⟨z, rfl, rfl⟩ := tB_er e2
    exact ⟨e1, 1, _, p', by rw [tN, if_neg z], e3⟩
