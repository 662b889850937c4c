/-! deps: 20b -/
/-! ===== the reference reads: NUMBERs ===== -/
/-! 181 yX10_number_ -/
theorem vc_181_0 (tt : Nat → Nat) (a0 : Nat) (h : am_H) (Q : Int64 → am_H → Prop) (Qx : String → am_H → Prop) (q :
  (am_K h a0 = 11 ∧
  (am_K h a0 = 11 ∧
  (am_K h a0 = 11 ∧ ∃ (Q2 : Int32 → am_H → Prop) (X2 : String → am_H → Prop), am_Ct tt 179 [.ref a0] (am_sI h 10 51 a0 (am_I h 10 27 a0)) (am_pI Q2 X2) ∧ (∀ x3 h1, Q2 x3 h1 →
   (am_K h1 a0 = 11 ∧ ∃ (Q5 : Int32 → am_H → Prop) (X5 : String → am_H → Prop), am_Ct tt 176 [.ref a0] h1 (am_pI Q5 X5) ∧ (∀ x6 h4, Q5 x6 h4 →
    ((¬ x6 = (Int32.ofNat 0) →
     am_Ev tt 181 24 [some (.ref a0), some (.int x3), some (.int (Int32.ofNat 0)), none, none, none] [] h4 (am_pL Q Qx)) ∧
    (¬ (¬ x6 = (Int32.ofNat 0)) →
     Q (Int64.ofNat 0) h4))) ∧ (∀ E7 h4, X5 E7 h4 → Qx E7 h4))) ∧ (∀ E8 h1, X2 E8 h1 → Qx E8 h1))))) :
  am_Ev tt 181 0 [some (.ref a0), none, none, none, none, none] [] h (am_pL Q Qx) := am_vc 15 [(24, [true, true, true, false, false, false]), (48, [true, true, true, false, false, false]), (102, [true, false, true, true, false, true]), (174, [true, false, false, true, false, false])] q
theorem vc_181_24 (tt : Nat → Nat) (a0 : Nat) (a1 : Int32) (a2 : Int32) (h : am_H) (Q : Int64 → am_H → Prop) (Qx : String → am_H → Prop) (q :
  (((Int32.ofNat 8) ≤ a2 →
   am_Ev tt 181 48 [some (.ref a0), some (.int a1), some (.int a2), none, none, none] [] h (am_pL Q Qx)) ∧
  (¬ ((Int32.ofNat 8) ≤ a2) →
   ((¬ ((a1 >>> (((Int32.ofNat 7) - a2) &&& 31)) &&& (Int32.ofNat 1)) = (Int32.ofNat 1) →
    am_Ev tt 181 48 [some (.ref a0), some (.int a1), some (.int a2), none, none, none] [] h (am_pL Q Qx)) ∧
   (¬ (¬ ((a1 >>> (((Int32.ofNat 7) - a2) &&& 31)) &&& (Int32.ofNat 1)) = (Int32.ofNat 1)) →
    am_Ev tt 181 24 [some (.ref a0), some (.int a1), some (.int (a2 + (Int32.ofNat 1))), none, none, none] [] h (am_pL Q Qx)))))) :
  am_Ev tt 181 24 [some (.ref a0), some (.int a1), some (.int a2), none, none, none] [] h (am_pL Q Qx) := am_vc 17 [(24, [true, true, true, false, false, false]), (48, [true, true, true, false, false, false]), (102, [true, false, true, true, false, true]), (174, [true, false, false, true, false, false])] q
theorem vc_181_48 (tt : Nat → Nat) (a0 : Nat) (a1 : Int32) (a2 : Int32) (h : am_H) (Q : Int64 → am_H → Prop) (Qx : String → am_H → Prop) (q :
  (am_K h a0 = 11 ∧
  (am_K h a0 = 11 ∧
  ((((am_I h 10 27 a0) + a2) ≤ (am_I h 10 19 a0) →
   ((¬ a2 = (Int32.ofNat 8) →
    am_Ev tt 181 102 [some (.ref a0), none, some (.int a2), some (.long (((a1 &&& (((Int32.ofNat 1) <<< (((Int32.ofNat 7) - a2) &&& 31)) - (Int32.ofNat 1)))).toInt64 <<< ((((Int32.ofNat 8) * a2)).toInt64 &&& 63))), none, some (.int (Int32.ofNat 0))] [] h (am_pL Q Qx)) ∧
   (¬ (¬ a2 = (Int32.ofNat 8)) →
    am_Ev tt 181 102 [some (.ref a0), none, some (.int a2), some (.long (Int64.ofNat 0)), none, some (.int (Int32.ofNat 0))] [] h (am_pL Q Qx)))) ∧
  (¬ (((am_I h 10 27 a0) + a2) ≤ (am_I h 10 19 a0)) →
   (am_K h a0 = 11 ∧
   (am_K h a0 = 11 ∧ ∃ (Q2 : am_H → Prop) (X2 : String → am_H → Prop), am_Ct tt 177 [.ref a0, .int (Int32.ofNat 1), .int (am_I h 10 19 a0)] h (am_pV Q2 X2) ∧ (∀ h1, Q2 h1 →
    Q (Int64.ofNat 0) h1) ∧ (∀ E3 h1, X2 E3 h1 → Qx E3 h1)))))))) :
  am_Ev tt 181 48 [some (.ref a0), some (.int a1), some (.int a2), none, none, none] [] h (am_pL Q Qx) := am_vc 30 [(24, [true, true, true, false, false, false]), (48, [true, true, true, false, false, false]), (102, [true, false, true, true, false, true]), (174, [true, false, false, true, false, false])] q
theorem vc_181_102 (tt : Nat → Nat) (a0 : Nat) (a2 : Int32) (a3 : Int64) (a5 : Int32) (h : am_H) (Q : Int64 → am_H → Prop) (Qx : String → am_H → Prop) (q :
  ((a2 ≤ a5 →
   (am_K h a0 = 11 ∧
   (am_K h a0 = 11 ∧
   ((a2 ≤ (Int32.ofNat 0) →
    am_Ev tt 181 174 [some (.ref a0), none, none, some (.long a3), none, none] [] (am_sI h 10 27 a0 ((am_I h 10 27 a0) + a2)) (am_pL Q Qx)) ∧
   (¬ (a2 ≤ (Int32.ofNat 0)) →
    ((¬ (lg_cmp ((a3).toUInt64 >>> ((((Int32.ofNat 7) * a2)).toInt64.toUInt64 &&& Int64.toUInt64 63)).toInt64 (Int64.ofNat 0)) = (Int32.ofNat 0) →
     am_Ev tt 181 174 [some (.ref a0), none, none, some (.long a3), none, none] [] (am_sI h 10 27 a0 ((am_I h 10 27 a0) + a2)) (am_pL Q Qx)) ∧
    (¬ (¬ (lg_cmp ((a3).toUInt64 >>> ((((Int32.ofNat 7) * a2)).toInt64.toUInt64 &&& Int64.toUInt64 63)).toInt64 (Int64.ofNat 0)) = (Int32.ofNat 0)) →
     (am_K h a0 = 11 ∧
     (am_K h a0 = 11 ∧ ∃ (Q2 : am_H → Prop) (X2 : String → am_H → Prop), am_Ct tt 177 [.ref a0, .int (Int32.ofNat 2), .int (am_I h 10 51 a0)] (am_sI h 10 27 a0 ((am_I h 10 27 a0) + a2)) (am_pV Q2 X2) ∧ (∀ h1, Q2 h1 →
      am_Ev tt 181 174 [some (.ref a0), none, none, some (.long a3), none, none] [] h1 (am_pL Q Qx)) ∧ (∀ E3 h1, X2 E3 h1 → Qx E3 h1)))))))))) ∧
  (¬ (a2 ≤ a5) →
   (am_K h a0 = 11 ∧ ∃ q4, am_R h 10 18 a0 = some q4 ∧
   (am_K h a0 = 11 ∧
   ((am_K h q4 = 23 ∨ am_K h q4 = 24) ∧ vp_in ((am_I h 10 27 a0) + a5) (am_N h q4) ∧
   am_Ev tt 181 102 [some (.ref a0), none, some (.int a2), some (.long (a3 ||| ((((am_A h q4 (((am_I h 10 27 a0) + a5)).toNatClampNeg)).toInt64 &&& (Int64.ofNat 255)) <<< ((((Int32.ofNat 8) * a5)).toInt64 &&& 63)))), none, some (.int (a5 + (Int32.ofNat 1)))] [] h (am_pL Q Qx))))))) :
  am_Ev tt 181 102 [some (.ref a0), none, some (.int a2), some (.long a3), none, some (.int a5)] [] h (am_pL Q Qx) := am_vc 27 [(24, [true, true, true, false, false, false]), (48, [true, true, true, false, false, false]), (102, [true, false, true, true, false, true]), (174, [true, false, false, true, false, false])] q
theorem vc_181_174 (tt : Nat → Nat) (a0 : Nat) (a3 : Int64) (h : am_H) (Q : Int64 → am_H → Prop) (Qx : String → am_H → Prop) (q :
  (((Int32.ofNat 0) ≤ (lg_cmp a3 (Int64.ofNat 0)) →
   Q a3 h) ∧
  (¬ ((Int32.ofNat 0) ≤ (lg_cmp a3 (Int64.ofNat 0))) →
   (am_K h a0 = 11 ∧
   (am_K h a0 = 11 ∧ ∃ (Q2 : am_H → Prop) (X2 : String → am_H → Prop), am_Ct tt 177 [.ref a0, .int (Int32.ofNat 5), .int (am_I h 10 51 a0)] h (am_pV Q2 X2) ∧ (∀ h1, Q2 h1 →
    Q a3 h1) ∧ (∀ E3 h1, X2 E3 h1 → Qx E3 h1)))))) :
  am_Ev tt 181 174 [some (.ref a0), none, none, some (.long a3), none, none] [] h (am_pL Q Qx) := am_vc 13 [(24, [true, true, true, false, false, false]), (48, [true, true, true, false, false, false]), (102, [true, false, true, true, false, true]), (174, [true, false, false, true, false, false])] q

/-! 182 yX10_numberIn -/
theorem vc_182_0 (tt : Nat → Nat) (a0 : Nat) (a1 : Int64) (a3 : Int64) (h : am_H) (Q : Int32 → am_H → Prop) (Qx : String → am_H → Prop) (q :
  (am_K h a0 = 11 ∧ ∃ (Q2 : Int64 → am_H → Prop) (X2 : String → am_H → Prop), am_Ct tt 181 [.ref a0] h (am_pL Q2 X2) ∧ (∀ x3 h1, Q2 x3 h1 →
   (am_K h1 a0 = 11 ∧ ∃ (Q5 : Int32 → am_H → Prop) (X5 : String → am_H → Prop), am_Ct tt 176 [.ref a0] h1 (am_pI Q5 X5) ∧ (∀ x6 h4, Q5 x6 h4 →
    ((x6 = (Int32.ofNat 0) →
     am_Ev tt 182 32 [some (.ref a0), none, none, none, none, some (.long x3), none] [] h4 (am_pI Q Qx)) ∧
    (¬ (x6 = (Int32.ofNat 0)) →
     (∃ (Q8 : Int32 → am_H → Prop) (X8 : String → am_H → Prop), am_Ct tt 130 [.long x3, .long a1, .long a3] h4 (am_pI Q8 X8) ∧ (∀ x9 h7, Q8 x9 h7 →
      ((¬ x9 = (Int32.ofNat 0) →
       am_Ev tt 182 32 [some (.ref a0), none, none, none, none, some (.long x3), none] [] h7 (am_pI Q Qx)) ∧
      (¬ (¬ x9 = (Int32.ofNat 0)) →
       (am_K h7 a0 = 11 ∧
       (am_K h7 a0 = 11 ∧ ∃ (Q11 : am_H → Prop) (X11 : String → am_H → Prop), am_Ct tt 177 [.ref a0, .int (Int32.ofNat 5), .int (am_I h7 10 51 a0)] h7 (am_pV Q11 X11) ∧ (∀ h10, Q11 h10 →
        am_Ev tt 182 32 [some (.ref a0), none, none, none, none, some (.long x3), none] [] h10 (am_pI Q Qx)) ∧ (∀ E12 h10, X11 E12 h10 → Qx E12 h10)))))) ∧ (∀ E13 h7, X8 E13 h7 → Qx E13 h7))))) ∧ (∀ E14 h4, X5 E14 h4 → Qx E14 h4))) ∧ (∀ E15 h1, X2 E15 h1 → Qx E15 h1))) :
  am_Ev tt 182 0 [some (.ref a0), some (.long a1), none, some (.long a3), none, none, none] [] h (am_pI Q Qx) := am_vc 19 [(32, [true, false, false, false, false, true, false])] q
theorem vc_182_32 (tt : Nat → Nat) (a0 : Nat) (a5 : Int64) (h : am_H) (Q : Int32 → am_H → Prop) (Qx : String → am_H → Prop) (q :
  (am_K h a0 = 11 ∧ ∃ (Q2 : Int32 → am_H → Prop) (X2 : String → am_H → Prop), am_Ct tt 176 [.ref a0] h (am_pI Q2 X2) ∧ (∀ x3 h1, Q2 x3 h1 →
   ((x3 = (Int32.ofNat 0) →
    Q (Int32.ofNat 0) h1) ∧
   (¬ (x3 = (Int32.ofNat 0)) →
    Q (a5).toInt32 h1))) ∧ (∀ E4 h1, X2 E4 h1 → Qx E4 h1))) :
  am_Ev tt 182 32 [some (.ref a0), none, none, none, none, some (.long a5), none] [] h (am_pI Q Qx) := am_vc 9 [(32, [true, false, false, false, false, true, false])] q

theorem nr_a : ∀ b, b < 256 → ∀ k, k < 8 → (((Int32.ofNat b >>> ((Int32.ofNat 7 - Int32.ofNat k) &&& 31)) &&& Int32.ofNat 1 = Int32.ofNat 1) ↔ ¬ Int32.ofNat b &&& (Int32.ofNat 128 >>> (Int32.ofNat k &&& 31)) = Int32.ofNat 0) := by decide +kernel
theorem nr_b : ∀ k, k < 8 → (Int32.ofNat 1 <<< ((Int32.ofNat 7 - Int32.ofNat k) &&& 31)) - Int32.ofNat 1 = Int32.ofNat 127 >>> (Int32.ofNat k &&& 31) := by decide
theorem nr_c : ∀ k, k < 9 → (((Int32.ofNat 7 * Int32.ofNat k).toInt64.toUInt64 &&& Int64.toUInt64 63)) = UInt64.ofNat (7 * k) := by decide
/-- the value, whatever its bounds -/
def nN (F : Fn) (n p : Nat) : Except pe (Int64 × Nat) := tN F n p (l64 0) mx64
theorem mx_n (v : Int64) : ¬ mx64 < v := by
  rw [Int64.lt_iff_toInt_lt]
  have h1 : mx64.toInt = 9223372036854775807 := by decide
  have h2 := Int64.toInt_lt v
  omega
theorem nv_7 {F : Fn} {p : Nat} {b : Int32} {k : Nat} (hk : k < 8) : nv F p b k = ((b &&& (Int32.ofNat 127 >>> (Int32.ofNat k &&& 31))).toInt64 <<< Int64.ofNat (8 * k)) ||| lt F (p + 1) k := by
  unfold nv
  by_cases c : k < 7
  · rw [if_pos c]
    apply Int64.toBitVec_inj.1
    rw [Int64.toBitVec_or, Int64.toBitVec_or, BitVec.or_comm]
  · have : k = 7 := by omega
    subst this
    rw [if_neg c]
    apply Int64.toBitVec_inj.1
    have e : b &&& (Int32.ofNat 127 >>> (Int32.ofNat 7 &&& 31)) = Int32.ofNat 0 := by
      apply Int32.toBitVec_inj.1
      rw [Int32.toBitVec_and, show (Int32.ofNat 127 >>> (Int32.ofNat 7 &&& 31)).toBitVec = 0#32 from by decide, BitVec.and_zero]
      rfl
    rw [e, Int64.toBitVec_or, show ((Int32.ofNat 0).toInt64 <<< Int64.ofNat (8 * 7)).toBitVec = 0#64 from by decide, BitVec.zero_or]
