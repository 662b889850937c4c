/-! deps: 11b -/
/-! ===== the class's blocks: coders forth and back ===== -/
/-! 12 yX1_begin -/
theorem vc_12_0 (tt : Nat → Nat) (a0 : Nat) (h : am_H) (Q : am_H → Prop) (Qx : String → am_H → Prop) (q :
  (am_K h a0 = 2 ∧
  (am_K h a0 = 2 ∧ ((Int32.ofNat 1) = (Int32.ofNat 0) ∨ (Int32.ofNat 1) = (Int32.ofNat 1)) ∧
  Q (am_sI (am_sI h 1 2 a0 (Int32.ofNat 0)) 1 3 a0 (Int32.ofNat 1))))) :
  am_Ev tt 12 0 [some (.ref a0)] [] h (am_pV Q Qx) := am_vc 9 [] q

/-! 13 yX1_addCoder -/
theorem vc_13_0 (tt : Nat → Nat) (a0 : Nat) (a1 : Int32) (a2 : Int32) (h : am_H) (Q : am_H → Prop) (Qx : String → am_H → Prop) (q :
  (am_K h a0 = 2 ∧
  (((Int32.ofNat 3) ≤ (am_I h 1 2 a0) →
   Q h) ∧
  (¬ ((Int32.ofNat 3) ≤ (am_I h 1 2 a0)) →
   (am_K h a0 = 2 ∧ ∃ q1, am_R h 1 0 a0 = some q1 ∧
   (am_K h a0 = 2 ∧
   (am_K h q1 = 21 ∧ vp_in (am_I h 1 2 a0) (am_N h q1) ∧
   (am_K h a0 = 2 ∧ ∃ q2, am_R h 1 1 a0 = some q2 ∧
   (am_K h a0 = 2 ∧
   ((¬ a1 = (Int32.ofNat 1) →
    (am_K h q2 = 21 ∧ vp_in (am_I h 1 2 a0) (am_N h q2) ∧
    (am_K h a0 = 2 ∧
    (am_K h a0 = 2 ∧
    Q (am_sI (am_sA (am_sA h q1 ((am_I h 1 2 a0)).toNatClampNeg a1) q2 ((am_I h 1 2 a0)).toNatClampNeg (Int32.ofNat 0)) 1 2 a0 ((am_I h 1 2 a0) + (Int32.ofNat 1))))))) ∧
   (¬ (¬ a1 = (Int32.ofNat 1)) →
    (am_K h q2 = 21 ∧ vp_in (am_I h 1 2 a0) (am_N h q2) ∧
    (am_K h a0 = 2 ∧
    (am_K h a0 = 2 ∧
    Q (am_sI (am_sA (am_sA h q1 ((am_I h 1 2 a0)).toNatClampNeg a1) q2 ((am_I h 1 2 a0)).toNatClampNeg a2) 1 2 a0 ((am_I h 1 2 a0) + (Int32.ofNat 1))))))))))))))))) :
  am_Ev tt 13 0 [some (.ref a0), some (.int a1), some (.int a2)] [] h (am_pV Q Qx) := am_vc 29 [] q

/-! 14 yX1_pack -/
theorem vc_14_0 (tt : Nat → Nat) (a0 : Nat) (a1 : Nat) (a2 : Int32) (a3 : Int32) (h : am_H) (Q : am_H → Prop) (Qx : String → am_H → Prop) (q :
  am_Ev tt 14 3 [some (.ref a0), some (.ref a1), some (.int a2), some (.int a3), some (.int (Int32.ofNat 0))] [] h (am_pV Q Qx)) :
  am_Ev tt 14 0 [some (.ref a0), some (.ref a1), some (.int a2), some (.int a3), none] [] h (am_pV Q Qx) := am_vc 5 [(3, [true, true, true, true, true])] q
theorem vc_14_3 (tt : Nat → Nat) (a0 : Nat) (a1 : Nat) (a2 : Int32) (a3 : Int32) (a4 : Int32) (h : am_H) (Q : am_H → Prop) (Qx : String → am_H → Prop) (q :
  (am_K h a0 = 2 ∧
  (((am_I h 1 2 a0) ≤ a4 →
   Q h) ∧
  (¬ ((am_I h 1 2 a0) ≤ a4) →
   (am_K h a0 = 2 ∧ ∃ q1, am_R h 1 0 a0 = some q1 ∧
   ((am_K h q1 = 21 ∨ am_K h q1 = 31) ∧ vp_in a4 (am_N h q1) ∧
   ((¬ (am_A h q1 (a4).toNatClampNeg) = (Int32.ofNat 1) →
    (am_K h a0 = 2 ∧ ∃ q2, am_R h 1 0 a0 = some q2 ∧
    ((am_K h q2 = 21 ∨ am_K h q2 = 31) ∧ vp_in a4 (am_N h q2) ∧
    (∃ (Q4 : Int32 → am_H → Prop) (X4 : String → am_H → Prop), am_Ct tt 16 [.int (am_A h q2 (a4).toNatClampNeg)] h (am_pI Q4 X4) ∧ (∀ x5 h3, Q4 x5 h3 →
     (∃ (Q7 : am_H → Prop) (X7 : String → am_H → Prop), am_Ct tt 19 [.ref a1, .int a2, .int a3, .int x5] h3 (am_pV Q7 X7) ∧ (∀ h6, Q7 h6 →
      am_Ev tt 14 3 [some (.ref a0), some (.ref a1), some (.int a2), some (.int a3), some (.int (a4 + (Int32.ofNat 1)))] [] h6 (am_pV Q Qx)) ∧ (∀ E8 h6, X7 E8 h6 → Qx E8 h6))) ∧ (∀ E9 h3, X4 E9 h3 → Qx E9 h3))))) ∧
   (¬ (¬ (am_A h q1 (a4).toNatClampNeg) = (Int32.ofNat 1)) →
    (am_K h a0 = 2 ∧ ∃ q10, am_R h 1 1 a0 = some q10 ∧
    ((am_K h q10 = 21 ∨ am_K h q10 = 31) ∧ vp_in a4 (am_N h q10) ∧
    (∃ (Q12 : am_H → Prop) (X12 : String → am_H → Prop), am_Ct tt 17 [.ref a1, .int a2, .int a3, .int (am_A h q10 (a4).toNatClampNeg)] h (am_pV Q12 X12) ∧ (∀ h11, Q12 h11 →
     am_Ev tt 14 3 [some (.ref a0), some (.ref a1), some (.int a2), some (.int a3), some (.int (a4 + (Int32.ofNat 1)))] [] h11 (am_pV Q Qx)) ∧ (∀ E13 h11, X12 E13 h11 → Qx E13 h11)))))))))))) :
  am_Ev tt 14 3 [some (.ref a0), some (.ref a1), some (.int a2), some (.int a3), some (.int a4)] [] h (am_pV Q Qx) := am_vc 24 [(3, [true, true, true, true, true])] q

/-! 15 yX1_unpack -/
theorem vc_15_0 (tt : Nat → Nat) (a0 : Nat) (a1 : Nat) (a2 : Int32) (a3 : Int32) (h : am_H) (Q : am_H → Prop) (Qx : String → am_H → Prop) (q :
  (am_K h a0 = 2 ∧
  am_Ev tt 15 8 [some (.ref a0), some (.ref a1), some (.int a2), some (.int a3), some (.int ((am_I h 1 2 a0) - (Int32.ofNat 1)))] [] h (am_pV Q Qx))) :
  am_Ev tt 15 0 [some (.ref a0), some (.ref a1), some (.int a2), some (.int a3), none] [] h (am_pV Q Qx) := am_vc 8 [(8, [true, true, true, true, true])] q
theorem vc_15_8 (tt : Nat → Nat) (a0 : Nat) (a1 : Nat) (a2 : Int32) (a3 : Int32) (a4 : Int32) (h : am_H) (Q : am_H → Prop) (Qx : String → am_H → Prop) (q :
  ((a4 < (Int32.ofNat 0) →
   Q h) ∧
  (¬ (a4 < (Int32.ofNat 0)) →
   (am_K h a0 = 2 ∧ ∃ q1, am_R h 1 0 a0 = some q1 ∧
   ((am_K h q1 = 21 ∨ am_K h q1 = 31) ∧ vp_in a4 (am_N h q1) ∧
   ((¬ (am_A h q1 (a4).toNatClampNeg) = (Int32.ofNat 1) →
    (am_K h a0 = 2 ∧ ∃ q2, am_R h 1 0 a0 = some q2 ∧
    ((am_K h q2 = 21 ∨ am_K h q2 = 31) ∧ vp_in a4 (am_N h q2) ∧
    (∃ (Q4 : Int32 → am_H → Prop) (X4 : String → am_H → Prop), am_Ct tt 16 [.int (am_A h q2 (a4).toNatClampNeg)] h (am_pI Q4 X4) ∧ (∀ x5 h3, Q4 x5 h3 →
     (∃ (Q7 : am_H → Prop) (X7 : String → am_H → Prop), am_Ct tt 19 [.ref a1, .int a2, .int a3, .int x5] h3 (am_pV Q7 X7) ∧ (∀ h6, Q7 h6 →
      am_Ev tt 15 8 [some (.ref a0), some (.ref a1), some (.int a2), some (.int a3), some (.int (a4 + (-1 : Int32)))] [] h6 (am_pV Q Qx)) ∧ (∀ E8 h6, X7 E8 h6 → Qx E8 h6))) ∧ (∀ E9 h3, X4 E9 h3 → Qx E9 h3))))) ∧
   (¬ (¬ (am_A h q1 (a4).toNatClampNeg) = (Int32.ofNat 1)) →
    (am_K h a0 = 2 ∧ ∃ q10, am_R h 1 1 a0 = some q10 ∧
    ((am_K h q10 = 21 ∨ am_K h q10 = 31) ∧ vp_in a4 (am_N h q10) ∧
    (∃ (Q12 : am_H → Prop) (X12 : String → am_H → Prop), am_Ct tt 18 [.ref a1, .int a2, .int a3, .int (am_A h q10 (a4).toNatClampNeg)] h (am_pV Q12 X12) ∧ (∀ h11, Q12 h11 →
     am_Ev tt 15 8 [some (.ref a0), some (.ref a1), some (.int a2), some (.int a3), some (.int (a4 + (-1 : Int32)))] [] h11 (am_pV Q Qx)) ∧ (∀ E13 h11, X12 E13 h11 → Qx E13 h11))))))))))) :
  am_Ev tt 15 8 [some (.ref a0), some (.ref a1), some (.int a2), some (.int a3), some (.int a4)] [] h (am_pV Q Qx) := am_vc 22 [(8, [true, true, true, true, true])] q

/-! 16 yX1_groupOf -/
theorem vc_16_0 (tt : Nat → Nat) (a0 : Int32) (h : am_H) (Q : Int32 → am_H → Prop) (Qx : String → am_H → Prop) (q :
  ((¬ a0 = (Int32.ofNat 2) →
   ((¬ a0 = (Int32.ofNat 3) →
    Q (Int32.ofNat 1) h) ∧
   (¬ (¬ a0 = (Int32.ofNat 3)) →
    Q (Int32.ofNat 4) h))) ∧
  (¬ (¬ a0 = (Int32.ofNat 2)) →
   Q (Int32.ofNat 2) h))) :
  am_Ev tt 16 0 [some (.int a0)] [] h (am_pI Q Qx) := am_vc 11 [] q

/-! 17 yX1_packDelta -/
theorem vc_17_0 (tt : Nat → Nat) (a0 : Nat) (a1 : Int32) (a2 : Int32) (a3 : Int32) (h : am_H) (Q : am_H → Prop) (Qx : String → am_H → Prop) (q :
  am_Ev tt 17 5 [some (.ref a0), some (.int a1), none, some (.int a3), some (.int (a2 - (Int32.ofNat 1)))] [] h (am_pV Q Qx)) :
  am_Ev tt 17 0 [some (.ref a0), some (.int a1), some (.int a2), some (.int a3), none] [] h (am_pV Q Qx) := am_vc 7 [(5, [true, true, false, true, true])] q
theorem vc_17_5 (tt : Nat → Nat) (a0 : Nat) (a1 : Int32) (a3 : Int32) (a4 : Int32) (h : am_H) (Q : am_H → Prop) (Qx : String → am_H → Prop) (q :
  ((a4 < (a1 + a3) →
   Q h) ∧
  (¬ (a4 < (a1 + a3)) →
   ((am_K h a0 = 23 ∨ am_K h a0 = 24) ∧ vp_in a4 (am_N h a0) ∧
   ((am_K h a0 = 23 ∨ am_K h a0 = 24) ∧ vp_in (a4 - a3) (am_N h a0) ∧
   (vp_in a4 (am_N h a0) ∧ ∃ w1, ((am_K h a0 = 23 ∧ w1 = ((((am_A h a0 (a4).toNatClampNeg) - (am_A h a0 ((a4 - a3)).toNatClampNeg))).toInt8.toInt32).toInt8.toInt32) ∨ (am_K h a0 = 24 ∧ w1 = ((((am_A h a0 (a4).toNatClampNeg) - (am_A h a0 ((a4 - a3)).toNatClampNeg))).toInt8.toInt32 &&& 1))) ∧
   am_Ev tt 17 5 [some (.ref a0), some (.int a1), none, some (.int a3), some (.int (a4 + (-1 : Int32)))] [] (am_sA h a0 (a4).toNatClampNeg w1) (am_pV Q Qx))))))) :
  am_Ev tt 17 5 [some (.ref a0), some (.int a1), none, some (.int a3), some (.int a4)] [] h (am_pV Q Qx) := am_vc 23 [(5, [true, true, false, true, true])] q

/-! 18 yX1_unpackDelta -/
theorem vc_18_0 (tt : Nat → Nat) (a0 : Nat) (a1 : Int32) (a2 : Int32) (a3 : Int32) (h : am_H) (Q : am_H → Prop) (Qx : String → am_H → Prop) (q :
  am_Ev tt 18 5 [some (.ref a0), none, some (.int a2), some (.int a3), some (.int (a1 + a3))] [] h (am_pV Q Qx)) :
  am_Ev tt 18 0 [some (.ref a0), some (.int a1), some (.int a2), some (.int a3), none] [] h (am_pV Q Qx) := am_vc 7 [(5, [true, false, true, true, true])] q
theorem vc_18_5 (tt : Nat → Nat) (a0 : Nat) (a2 : Int32) (a3 : Int32) (a4 : Int32) (h : am_H) (Q : am_H → Prop) (Qx : String → am_H → Prop) (q :
  ((a2 ≤ a4 →
   Q h) ∧
  (¬ (a2 ≤ a4) →
   ((am_K h a0 = 23 ∨ am_K h a0 = 24) ∧ vp_in a4 (am_N h a0) ∧
   ((am_K h a0 = 23 ∨ am_K h a0 = 24) ∧ vp_in (a4 - a3) (am_N h a0) ∧
   (vp_in a4 (am_N h a0) ∧ ∃ w1, ((am_K h a0 = 23 ∧ w1 = ((((am_A h a0 (a4).toNatClampNeg) + (am_A h a0 ((a4 - a3)).toNatClampNeg))).toInt8.toInt32).toInt8.toInt32) ∨ (am_K h a0 = 24 ∧ w1 = ((((am_A h a0 (a4).toNatClampNeg) + (am_A h a0 ((a4 - a3)).toNatClampNeg))).toInt8.toInt32 &&& 1))) ∧
   am_Ev tt 18 5 [some (.ref a0), none, some (.int a2), some (.int a3), some (.int (a4 + (Int32.ofNat 1)))] [] (am_sA h a0 (a4).toNatClampNeg w1) (am_pV Q Qx))))))) :
  am_Ev tt 18 5 [some (.ref a0), none, some (.int a2), some (.int a3), some (.int a4)] [] h (am_pV Q Qx) := am_vc 21 [(5, [true, false, true, true, true])] q

/-! 19 yX1_turnGroups -/
theorem vc_19_0 (tt : Nat → Nat) (a0 : Nat) (a1 : Int32) (a2 : Int32) (a3 : Int32) (h : am_H) (Q : am_H → Prop) (Qx : String → am_H → Prop) (q :
  (((Int32.ofNat 2) ≤ a3 →
   am_Ev tt 19 9 [some (.ref a0), none, some (.int a2), some (.int a3), some (.int a1), none, none, none] [] h (am_pV Q Qx)) ∧
  (¬ ((Int32.ofNat 2) ≤ a3) →
   Q h))) :
  am_Ev tt 19 0 [some (.ref a0), some (.int a1), some (.int a2), some (.int a3), none, none, none, none] [] h (am_pV Q Qx) := am_vc 8 [(9, [true, false, true, true, true, false, false, false]), (29, [true, false, true, true, true, true, true, false])] q
theorem vc_19_9 (tt : Nat → Nat) (a0 : Nat) (a2 : Int32) (a3 : Int32) (a4 : Int32) (h : am_H) (Q : am_H → Prop) (Qx : String → am_H → Prop) (q :
  ((a2 < (a4 + a3) →
   Q h) ∧
  (¬ (a2 < (a4 + a3)) →
   am_Ev tt 19 29 [some (.ref a0), none, some (.int a2), some (.int a3), some (.int a4), some (.int a4), some (.int ((a4 + a3) - (Int32.ofNat 1))), none] [] h (am_pV Q Qx)))) :
  am_Ev tt 19 9 [some (.ref a0), none, some (.int a2), some (.int a3), some (.int a4), none, none, none] [] h (am_pV Q Qx) := am_vc 16 [(9, [true, false, true, true, true, false, false, false]), (29, [true, false, true, true, true, true, true, false])] q
theorem vc_19_29 (tt : Nat → Nat) (a0 : Nat) (a2 : Int32) (a3 : Int32) (a4 : Int32) (a5 : Int32) (a6 : Int32) (h : am_H) (Q : am_H → Prop) (Qx : String → am_H → Prop) (q :
  ((a6 ≤ a5 →
   am_Ev tt 19 9 [some (.ref a0), none, some (.int a2), some (.int a3), some (.int (a4 + a3)), none, none, none] [] h (am_pV Q Qx)) ∧
  (¬ (a6 ≤ a5) →
   ((am_K h a0 = 23 ∨ am_K h a0 = 24) ∧ vp_in a5 (am_N h a0) ∧
   ((am_K h a0 = 23 ∨ am_K h a0 = 24) ∧ vp_in a6 (am_N h a0) ∧
   (vp_in a5 (am_N h a0) ∧ ∃ w1, ((am_K h a0 = 23 ∧ w1 = ((am_A h a0 (a6).toNatClampNeg)).toInt8.toInt32) ∨ (am_K h a0 = 24 ∧ w1 = ((am_A h a0 (a6).toNatClampNeg) &&& 1))) ∧
   (vp_in a6 (am_N h a0) ∧ ∃ w2, ((am_K h a0 = 23 ∧ w2 = ((am_A h a0 (a5).toNatClampNeg)).toInt8.toInt32) ∨ (am_K h a0 = 24 ∧ w2 = ((am_A h a0 (a5).toNatClampNeg) &&& 1))) ∧
   am_Ev tt 19 29 [some (.ref a0), none, some (.int a2), some (.int a3), some (.int a4), some (.int (a5 + (Int32.ofNat 1))), some (.int (a6 + (-1 : Int32))), none] [] (am_sA (am_sA h a0 (a5).toNatClampNeg w1) a0 (a6).toNatClampNeg w2) (am_pV Q Qx)))))))) :
  am_Ev tt 19 29 [some (.ref a0), none, some (.int a2), some (.int a3), some (.int a4), some (.int a5), some (.int a6), none] [] h (am_pV Q Qx) := am_vc 23 [(9, [true, false, true, true, true, false, false, false]), (29, [true, false, true, true, true, true, true, false])] q

theorem qi_dec {a : Nat} (h : 1 ≤ a) : Int32.ofNat a + (-1 : Int32) = Int32.ofNat (a - 1) := by
  have : Int32.ofNat a = Int32.ofNat (a - 1) + Int32.ofNat 1 := by rw [qi_add]; congr 1; omega
  rw [this, Int32.add_assoc]
  have e : Int32.ofNat 1 + (-1 : Int32) = 0 := rfl
  rw [e, Int32.add_zero]
def by8 (v : Int32) : Int32 := v.toInt8.toInt32
/-- DELTA forth -/
def cdd (d n : Nat) (g : Nat → Int32) (j : Nat) : Int32 := if d ≤ j ∧ j < n then by8 (g j - g (j - d)) else g j
/-- DELTA back -/
def cud (d n : Nat) (g : Nat → Int32) (j : Nat) : Int32 := if h : 0 < d ∧ d ≤ j ∧ j < n then by8 (g j + cud d n g (j - d)) else g j
termination_by j
decreasing_by omega
/-- groups of w turned round -/
def ctn (w n : Nat) (g : Nat → Int32) (j : Nat) : Int32 := if j < w * (n / w) then by8 (g (w * (j / w) + (w - 1 - j % w))) else g j
/-- a part of a row told anew -/
def ov (f : Nat → Int32) (p n : Nat) (u : Nat → Int32) (j : Nat) : Int32 := if p ≤ j ∧ j < p + n then u (j - p) else f j
def sl (f : Nat → Int32) (p : Nat) (j : Nat) : Int32 := f (p + j)
theorem ov_id {f : Nat → Int32} {p n : Nat} : ov f p n (sl f p) = f := by
  funext j
  simp only [ov, sl]
  split
  · congr 1; omega
  · rfl
theorem ov_ov {f : Nat → Int32} {p n : Nat} {u v : Nat → Int32} : ov (ov f p n u) p n v = ov f p n v := by
  funext j
  simp only [ov]
  split <;> rfl
theorem sl_ov {f : Nat → Int32} {p n j : Nat} {u : Nat → Int32} (h : j < n) : sl (ov f p n u) p j = u j := by
  simp only [ov, sl]
  rw [if_pos (by omega)]
  congr 1; omega
theorem ct_groupOf {tt : Nat → Nat} {h : am_H} {k : Int32} : am_Ct tt 16 [.int k] h (am_pI (fun x h' => h' = h ∧ x = if k = Int32.ofNat 2 then Int32.ofNat 2 else if k = Int32.ofNat 3 then Int32.ofNat 4 else Int32.ofNat 1) no_x) := by
  refine vc_16_0 tt k h _ _ ?_
  simp (disch := omega) only [qi_lt, qi_le, qi_eq, qi_nn, qi_in, qi_add, qi_l, ql_i, ql_lt, ql_le, ql_eq, ql_add, qc_lt, qc_eq, qc_ge, qc_gt, qc_le, true_and, and_true, and_self, true_or, or_true, false_or, or_false, false_and, and_false, not_true_eq_false, not_false_eq_true, Classical.not_not, true_implies, false_implies, implies_true, exists_eq_left, exists_eq_left', Option.some.injEq, reduceIte, Nat.reduceEqDiff, Nat.reduceLT, Nat.reduceLeDiff, Nat.reduceAdd, Nat.reduceSub, Nat.reduceMul, eq_self, ne_eq, and_imp, forall_const, reduceCtorEq, am_w, List.map_cons, List.map_nil, List.sum_cons, List.sum_nil, Value.category, Nat.zero_le, Nat.le_refl]
  grind
theorem ct_packDelta {tt : Nat → Nat} {h : am_H} {r p n d : Nat} (hr : am_K h r = 23) (hN : p + n ≤ am_N h r) (hL : am_N h r ≤ 60000) (hd : 1 ≤ d) (hd2 : d ≤ 60000) (hp : 1 ≤ p + n) : am_Ct tt 17 [.ref r, .int (Int32.ofNat p), .int (Int32.ofNat (p + n)), .int (Int32.ofNat d)] h (am_pV (fun h' => h' = am_cA h r (ov (am_A h r) p n (cdd d n (sl (am_A h r) p)))) no_x) := by
  have key : ∀ (k i : Nat), i = p + d + k → i ≤ p + n →
      am_Ev tt 17 5 [some (.ref r), some (.int (Int32.ofNat p)), none, some (.int (Int32.ofNat d)), some (.int (Int32.ofNat (i - 1)))] [] (am_cA h r (fun j => if i ≤ j ∧ j < p + n then by8 (am_A h r j - am_A h r (j - d)) else am_A h r j)) (am_pV (fun h' => h' = am_cA h r (ov (am_A h r) p n (cdd d n (sl (am_A h r) p)))) no_x) := by
    intro k
    induction k with
    | zero =>
      intro i e hi
      refine vc_17_5 tt r _ _ _ _ _ _ ?_
      simp (disch := omega) only [qi_lt, qi_le, qi_eq, qi_nn, qi_in, qi_add, qi_l, ql_i, ql_lt, ql_le, ql_eq, ql_add, qc_lt, qc_eq, qc_ge, qc_gt, qc_le, true_and, and_true, and_self, true_or, or_true, false_or, or_false, false_and, and_false, not_true_eq_false, not_false_eq_true, Classical.not_not, true_implies, false_implies, implies_true, exists_eq_left, exists_eq_left', Option.some.injEq, reduceIte, Nat.reduceEqDiff, Nat.reduceLT, Nat.reduceLeDiff, Nat.reduceAdd, Nat.reduceSub, Nat.reduceMul, eq_self, ne_eq, and_imp, forall_const, reduceCtorEq, am_w, List.map_cons, List.map_nil, List.sum_cons, List.sum_nil, Value.category, Nat.zero_le, Nat.le_refl]
      refine ⟨fun _ => ?_, fun z => by omega⟩
      congr 1
      funext j
      simp only [ov, cdd, sl]
      by_cases e2 : i ≤ j ∧ j < p + n
      · rw [if_pos e2, if_pos (by omega), if_pos (by omega)]
        rw [show p + (j - p) = j by omega, show p + (j - p - d) = j - d by omega]
      · rw [if_neg e2]
        split
        · rw [if_neg (by omega)]; congr 1; omega
        · rfl
    | succ k ih =>
      intro i e hi
      refine vc_17_5 tt r _ _ _ _ _ _ ?_
      simp (disch := omega) only [qi_sub, qi_dec, hr, cA_A, cA_sA, am_hs, qi_lt, qi_le, qi_eq, qi_nn, qi_in, qi_add, qi_l, ql_i, ql_lt, ql_le, ql_eq, ql_add, qc_lt, qc_eq, qc_ge, qc_gt, qc_le, true_and, and_true, and_self, true_or, or_true, false_or, or_false, false_and, and_false, not_true_eq_false, not_false_eq_true, Classical.not_not, true_implies, false_implies, implies_true, exists_eq_left, exists_eq_left', Option.some.injEq, reduceIte, Nat.reduceEqDiff, Nat.reduceLT, Nat.reduceLeDiff, Nat.reduceAdd, Nat.reduceSub, Nat.reduceMul, eq_self, ne_eq, and_imp, forall_const, reduceCtorEq, am_w, List.map_cons, List.map_nil, List.sum_cons, List.sum_nil, Value.category, Nat.zero_le, Nat.le_refl]
      refine ⟨fun z => by omega, fun _ => ⟨by omega, by omega, ?_⟩⟩
      rw [q8_8]
      have := ih (i - 1) (by omega) (by omega)
      have ef : va_up (fun j => if i ≤ j ∧ j < p + n then by8 (am_A h r j - am_A h r (j - d)) else am_A h r j) (i - 1) (((if i ≤ i - 1 ∧ i - 1 < p + n then by8 (am_A h r (i - 1) - am_A h r (i - 1 - d)) else am_A h r (i - 1)) - (if i ≤ i - 1 - d ∧ i - 1 - d < p + n then by8 (am_A h r (i - 1 - d) - am_A h r (i - 1 - d - d)) else am_A h r (i - 1 - d))).toInt8.toInt32) = (fun j => if i - 1 ≤ j ∧ j < p + n then by8 (am_A h r j - am_A h r (j - d)) else am_A h r j) := by
        funext j
        simp only [va_up]
        rw [if_neg (show ¬ (i ≤ i - 1 ∧ i - 1 < p + n) by omega), if_neg (show ¬ (i ≤ i - 1 - d ∧ i - 1 - d < p + n) by omega)]
        by_cases e2 : j = i - 1
        · subst e2; rw [if_pos rfl, if_pos (by omega)]; rfl
        · rw [if_neg e2]
          by_cases e3 : i ≤ j ∧ j < p + n
          · rw [if_pos e3, if_pos (by omega)]
          · rw [if_neg e3, if_neg (by omega)]
      rw [ef]
      exact ⟨by omega, this⟩
  refine vc_17_0 tt r _ _ _ h _ _ ?_
  rw [qi_sub hp]
  by_cases c : p + d ≤ p + n
  · have := key (n - d) (p + n) (by omega) (by omega)
    have e : (fun j => if p + n ≤ j ∧ j < p + n then by8 (am_A h r j - am_A h r (j - d)) else am_A h r j) = am_A h r := by
      funext j; rw [if_neg (by omega)]
    rw [e, cA_id] at this
    exact this
  · refine vc_17_5 tt r _ _ _ _ _ _ ?_
    simp (disch := omega) only [qi_lt, qi_le, qi_eq, qi_nn, qi_in, qi_add, qi_l, ql_i, ql_lt, ql_le, ql_eq, ql_add, qc_lt, qc_eq, qc_ge, qc_gt, qc_le, true_and, and_true, and_self, true_or, or_true, false_or, or_false, false_and, and_false, not_true_eq_false, not_false_eq_true, Classical.not_not, true_implies, false_implies, implies_true, exists_eq_left, exists_eq_left', Option.some.injEq, reduceIte, Nat.reduceEqDiff, Nat.reduceLT, Nat.reduceLeDiff, Nat.reduceAdd, Nat.reduceSub, Nat.reduceMul, eq_self, ne_eq, and_imp, forall_const, reduceCtorEq, am_w, List.map_cons, List.map_nil, List.sum_cons, List.sum_nil, Value.category, Nat.zero_le, Nat.le_refl]
    refine ⟨fun _ => ?_, fun z => by omega⟩
    have e : ov (am_A h r) p n (cdd d n (sl (am_A h r) p)) = am_A h r := by
      conv => rhs; rw [← @ov_id (am_A h r) p n]
      congr 1
      funext j
      rw [cdd, if_neg (by omega)]
    rw [e, cA_id]
theorem ct_unpackDelta {tt : Nat → Nat} {h : am_H} {r p n d : Nat} (hr : am_K h r = 23) (hN : p + n ≤ am_N h r) (hL : am_N h r ≤ 60000) (hd : 1 ≤ d) (hd2 : d ≤ 60000) : am_Ct tt 18 [.ref r, .int (Int32.ofNat p), .int (Int32.ofNat (p + n)), .int (Int32.ofNat d)] h (am_pV (fun h' => h' = am_cA h r (ov (am_A h r) p n (cud d n (sl (am_A h r) p)))) no_x) := by
  have key : ∀ (k i : Nat), k + i = n → d ≤ i →
      am_Ev tt 18 5 [some (.ref r), none, some (.int (Int32.ofNat (p + n))), some (.int (Int32.ofNat d)), some (.int (Int32.ofNat (p + i)))] [] (am_cA h r (ov (am_A h r) p i (cud d n (sl (am_A h r) p)))) (am_pV (fun h' => h' = am_cA h r (ov (am_A h r) p n (cud d n (sl (am_A h r) p)))) no_x) := by
    intro k
    induction k with
    | zero =>
      intro i e hi
      refine vc_18_5 tt r _ _ _ _ _ _ ?_
      have : n = i := by omega
      subst this
      simp (disch := omega) only [qi_lt, qi_le, qi_eq, qi_nn, qi_in, qi_add, qi_l, ql_i, ql_lt, ql_le, ql_eq, ql_add, qc_lt, qc_eq, qc_ge, qc_gt, qc_le, true_and, and_true, and_self, true_or, or_true, false_or, or_false, false_and, and_false, not_true_eq_false, not_false_eq_true, Classical.not_not, true_implies, false_implies, implies_true, exists_eq_left, exists_eq_left', Option.some.injEq, reduceIte, Nat.reduceEqDiff, Nat.reduceLT, Nat.reduceLeDiff, Nat.reduceAdd, Nat.reduceSub, Nat.reduceMul, eq_self, ne_eq, and_imp, forall_const, reduceCtorEq, am_w, List.map_cons, List.map_nil, List.sum_cons, List.sum_nil, Value.category, Nat.zero_le, Nat.le_refl]
    | succ k ih =>
      intro i e hi
      refine vc_18_5 tt r _ _ _ _ _ _ ?_
      simp (disch := omega) only [qi_sub, hr, cA_A, cA_sA, am_hs, qi_lt, qi_le, qi_eq, qi_nn, qi_in, qi_add, qi_l, ql_i, ql_lt, ql_le, ql_eq, ql_add, qc_lt, qc_eq, qc_ge, qc_gt, qc_le, true_and, and_true, and_self, true_or, or_true, false_or, or_false, false_and, and_false, not_true_eq_false, not_false_eq_true, Classical.not_not, true_implies, false_implies, implies_true, exists_eq_left, exists_eq_left', Option.some.injEq, reduceIte, Nat.reduceEqDiff, Nat.reduceLT, Nat.reduceLeDiff, Nat.reduceAdd, Nat.reduceSub, Nat.reduceMul, eq_self, ne_eq, and_imp, forall_const, reduceCtorEq, am_w, List.map_cons, List.map_nil, List.sum_cons, List.sum_nil, Value.category, Nat.zero_le, Nat.le_refl]
      refine ⟨fun z => by omega, fun _ => ⟨by omega, by omega, ?_⟩⟩
      rw [q8_8]
      have := ih (i + 1) (by omega) (by omega)
      have ef : va_up (ov (am_A h r) p i (cud d n (sl (am_A h r) p))) (p + i) ((ov (am_A h r) p i (cud d n (sl (am_A h r) p)) (p + i) + ov (am_A h r) p i (cud d n (sl (am_A h r) p)) (p + i - d)).toInt8.toInt32) = ov (am_A h r) p (i + 1) (cud d n (sl (am_A h r) p)) := by
        have e1 : ov (am_A h r) p i (cud d n (sl (am_A h r) p)) (p + i) = am_A h r (p + i) := by rw [ov, if_neg (by omega)]
        have e2 : ov (am_A h r) p i (cud d n (sl (am_A h r) p)) (p + i - d) = cud d n (sl (am_A h r) p) (i - d) := by rw [ov, if_pos (by omega)]; congr 1; omega
        have e3 : cud d n (sl (am_A h r) p) i = by8 (am_A h r (p + i) + cud d n (sl (am_A h r) p) (i - d)) := by rw [cud, dif_pos (by omega)]; rfl
        funext j
        rw [e1, e2]
        simp only [va_up, ov]
        by_cases e4 : j = p + i
        · subst e4; rw [if_pos rfl, if_pos (by omega), show p + i - p = i by omega, e3]; rfl
        · rw [if_neg e4]
          by_cases e5 : p ≤ j ∧ j < p + i
          · rw [if_pos e5, if_pos (by omega)]
          · rw [if_neg e5, if_neg (by omega)]
      rw [ef]
      exact ⟨by omega, this⟩
  refine vc_18_0 tt r _ _ _ h _ _ ?_
  rw [qi_add]
  have e : ∀ i, i ≤ d → ov (am_A h r) p i (cud d n (sl (am_A h r) p)) = am_A h r := by
    intro i hi
    funext j
    rw [ov]
    split
    · rw [cud, dif_neg (by omega), sl]; congr 1; omega
    · rfl
  by_cases c : d ≤ n
  · have := key (n - d) d (by omega) (by omega)
    rw [e d (Nat.le_refl _), cA_id] at this
    exact this
  · refine vc_18_5 tt r _ _ _ _ _ _ ?_
    simp (disch := omega) only [qi_lt, qi_le, qi_eq, qi_nn, qi_in, qi_add, qi_l, ql_i, ql_lt, ql_le, ql_eq, ql_add, qc_lt, qc_eq, qc_ge, qc_gt, qc_le, true_and, and_true, and_self, true_or, or_true, false_or, or_false, false_and, and_false, not_true_eq_false, not_false_eq_true, Classical.not_not, true_implies, false_implies, implies_true, exists_eq_left, exists_eq_left', Option.some.injEq, reduceIte, Nat.reduceEqDiff, Nat.reduceLT, Nat.reduceLeDiff, Nat.reduceAdd, Nat.reduceSub, Nat.reduceMul, eq_self, ne_eq, and_imp, forall_const, reduceCtorEq, am_w, List.map_cons, List.map_nil, List.sum_cons, List.sum_nil, Value.category, Nat.zero_le, Nat.le_refl]
    refine ⟨fun _ => ?_, fun z => by omega⟩
    rw [e n (by omega), cA_id]
/-- t swaps in the group that begins at s -/
def rv (f : Nat → Int32) (s w t : Nat) (j : Nat) : Int32 := if s ≤ j ∧ j < s + w ∧ (j < s + t ∨ s + w ≤ j + t) then by8 (f (s + s + w - 1 - j)) else f j
theorem rv_0 {f : Nat → Int32} {s w : Nat} : rv f s w 0 = f := by funext j; rw [rv, if_neg (by omega)]
theorem rv_s {f : Nat → Int32} {s w t : Nat} (h : 2 * t + 1 < w) : va_up (va_up (rv f s w t) (s + t) (by8 (rv f s w t (s + w - 1 - t)))) (s + w - 1 - t) (by8 (rv f s w t (s + t))) = rv f s w (t + 1) := by
  have e1 : rv f s w t (s + t) = f (s + t) := by rw [rv, if_neg (by omega)]
  have e2 : rv f s w t (s + w - 1 - t) = f (s + w - 1 - t) := by rw [rv, if_neg (by omega)]
  rw [e1, e2]
  funext j
  simp only [va_up, rv]
  by_cases a1 : j = s + w - 1 - t
  · rw [if_pos a1, if_pos (by omega)]; congr 2; omega
  · rw [if_neg a1]
    by_cases a2 : j = s + t
    · rw [if_pos a2, if_pos (by omega)]; congr 2; omega
    · rw [if_neg a2]
      by_cases a3 : s ≤ j ∧ j < s + w ∧ (j < s + t ∨ s + w ≤ j + t)
      · rw [if_pos a3, if_pos (by omega)]
      · rw [if_neg a3, if_neg (by omega)]
theorem rv_v {f : Nat → Int32} {s w t t' : Nat} (h : w ≤ 2 * t) (h' : w ≤ 2 * t') : rv f s w t = rv f s w t' := by
  funext j
  simp only [rv]
  by_cases a : s ≤ j ∧ j < s + w
  · rw [if_pos (by omega), if_pos (by omega)]
  · rw [if_neg (by omega), if_neg (by omega)]
theorem ct_turnGroups {tt : Nat → Nat} {h : am_H} {r p n w : Nat} (hr : am_K h r = 23) (hN : p + n ≤ am_N h r) (hL : am_N h r ≤ 60000) (hw : w = 1 ∨ w = 2 ∨ w = 4) : am_Ct tt 19 [.ref r, .int (Int32.ofNat p), .int (Int32.ofNat (p + n)), .int (Int32.ofNat w)] h (am_pV (fun h' => h' = if w = 1 then h else am_cA h r (ov (am_A h r) p n (ctn w n (sl (am_A h r) p)))) no_x) := by
  refine vc_19_0 tt r _ _ _ h _ _ ?_
  simp (disch := omega) only [qi_lt, qi_le, qi_eq, qi_nn, qi_in, qi_add, qi_l, ql_i, ql_lt, ql_le, ql_eq, ql_add, qc_lt, qc_eq, qc_ge, qc_gt, qc_le, true_and, and_true, and_self, true_or, or_true, false_or, or_false, false_and, and_false, not_true_eq_false, not_false_eq_true, Classical.not_not, true_implies, false_implies, implies_true, exists_eq_left, exists_eq_left', Option.some.injEq, reduceIte, Nat.reduceEqDiff, Nat.reduceLT, Nat.reduceLeDiff, Nat.reduceAdd, Nat.reduceSub, Nat.reduceMul, eq_self, ne_eq, and_imp, forall_const, reduceCtorEq, am_w, List.map_cons, List.map_nil, List.sum_cons, List.sum_nil, Value.category, Nat.zero_le, Nat.le_refl]
  refine ⟨fun z => ?_, fun z => by rw [if_pos (by omega)]⟩
  rw [if_neg (by omega)]
  have inner : ∀ (d t q : Nat) (f : Nat → Int32) (Q : am_H → Prop), d + t = w / 2 → p + w * q + w ≤ p + n →
      am_Ev tt 19 9 [some (.ref r), none, some (.int (Int32.ofNat (p + n))), some (.int (Int32.ofNat w)), some (.int (Int32.ofNat (p + w * q + w))), none, none, none] [] (am_cA h r (rv f (p + w * q) w (w / 2))) (am_pV Q no_x) →
      am_Ev tt 19 29 [some (.ref r), none, some (.int (Int32.ofNat (p + n))), some (.int (Int32.ofNat w)), some (.int (Int32.ofNat (p + w * q))), some (.int (Int32.ofNat (p + w * q + t))), some (.int (Int32.ofNat (p + w * q + w - 1 - t))), none] [] (am_cA h r (rv f (p + w * q) w t)) (am_pV Q no_x) := by
    intro d
    induction d with
    | zero =>
      intro t q f Q e hb k
      have et : t = w / 2 := by omega
      refine vc_19_29 tt r _ _ _ _ _ _ _ _ ?_
      simp (disch := omega) only [qi_lt, qi_le, qi_eq, qi_nn, qi_in, qi_add, qi_l, ql_i, ql_lt, ql_le, ql_eq, ql_add, qc_lt, qc_eq, qc_ge, qc_gt, qc_le, true_and, and_true, and_self, true_or, or_true, false_or, or_false, false_and, and_false, not_true_eq_false, not_false_eq_true, Classical.not_not, true_implies, false_implies, implies_true, exists_eq_left, exists_eq_left', Option.some.injEq, reduceIte, Nat.reduceEqDiff, Nat.reduceLT, Nat.reduceLeDiff, Nat.reduceAdd, Nat.reduceSub, Nat.reduceMul, eq_self, ne_eq, and_imp, forall_const, reduceCtorEq, am_w, List.map_cons, List.map_nil, List.sum_cons, List.sum_nil, Value.category, Nat.zero_le, Nat.le_refl]
      refine ⟨fun _ => by rw [et]; exact k, fun z => by omega⟩
    | succ d ih =>
      intro t q f Q e hb k
      refine vc_19_29 tt r _ _ _ _ _ _ _ _ ?_
      simp (disch := omega) only [qi_dec, hr, cA_A, cA_sA, am_hs, qi_lt, qi_le, qi_eq, qi_nn, qi_in, qi_add, qi_l, ql_i, ql_lt, ql_le, ql_eq, ql_add, qc_lt, qc_eq, qc_ge, qc_gt, qc_le, true_and, and_true, and_self, true_or, or_true, false_or, or_false, false_and, and_false, not_true_eq_false, not_false_eq_true, Classical.not_not, true_implies, false_implies, implies_true, exists_eq_left, exists_eq_left', Option.some.injEq, reduceIte, Nat.reduceEqDiff, Nat.reduceLT, Nat.reduceLeDiff, Nat.reduceAdd, Nat.reduceSub, Nat.reduceMul, eq_self, ne_eq, and_imp, forall_const, reduceCtorEq, am_w, List.map_cons, List.map_nil, List.sum_cons, List.sum_nil, Value.category, Nat.zero_le, Nat.le_refl]
      refine ⟨fun z => by omega, fun _ => ⟨by omega, by omega, by omega, by omega, ?_⟩⟩
      have := ih (t + 1) q f Q (by omega) hb k
      rw [← rv_s (by omega)] at this
      rw [show p + w * q + w - 1 - t - 1 = p + w * q + w - 1 - (t + 1) by omega]
      exact this
  have outer : ∀ (d q : Nat), d + q = n / w →
      am_Ev tt 19 9 [some (.ref r), none, some (.int (Int32.ofNat (p + n))), some (.int (Int32.ofNat w)), some (.int (Int32.ofNat (p + w * q))), none, none, none] [] (am_cA h r (ov (am_A h r) p (w * q) (ctn w n (sl (am_A h r) p)))) (am_pV (fun h' => h' = am_cA h r (ov (am_A h r) p n (ctn w n (sl (am_A h r) p)))) no_x) := by
    have hnw : w * (n / w) ≤ n ∧ n < w * (n / w) + w := by rcases hw with rfl | rfl | rfl <;> omega
    intro d
    induction d with
    | zero =>
      intro q e
      have eq' : q = n / w := by omega
      subst eq'
      refine vc_19_9 tt r _ _ _ _ _ _ ?_
      simp (disch := omega) only [qi_lt, qi_le, qi_eq, qi_nn, qi_in, qi_add, qi_l, ql_i, ql_lt, ql_le, ql_eq, ql_add, qc_lt, qc_eq, qc_ge, qc_gt, qc_le, true_and, and_true, and_self, true_or, or_true, false_or, or_false, false_and, and_false, not_true_eq_false, not_false_eq_true, Classical.not_not, true_implies, false_implies, implies_true, exists_eq_left, exists_eq_left', Option.some.injEq, reduceIte, Nat.reduceEqDiff, Nat.reduceLT, Nat.reduceLeDiff, Nat.reduceAdd, Nat.reduceSub, Nat.reduceMul, eq_self, ne_eq, and_imp, forall_const, reduceCtorEq, am_w, List.map_cons, List.map_nil, List.sum_cons, List.sum_nil, Value.category, Nat.zero_le, Nat.le_refl]
      refine ⟨fun _ => ?_, fun z => by omega⟩
      congr 1
      funext j
      simp only [ov]
      by_cases a : p ≤ j ∧ j < p + w * (n / w)
      · rw [if_pos a, if_pos (by omega)]
      · rw [if_neg a]
        split
        · rw [ctn, if_neg (by omega), sl]; congr 1; omega
        · rfl
    | succ d ih =>
      intro q e
      have hq : w * q + w ≤ w * (n / w) := by
        have : w * (q + 1) ≤ w * (n / w) := Nat.mul_le_mul_left _ (by omega)
        rw [Nat.mul_add, Nat.mul_one] at this
        exact this
      refine vc_19_9 tt r _ _ _ _ _ _ ?_
      simp (disch := omega) only [qi_sub, qi_lt, qi_le, qi_eq, qi_nn, qi_in, qi_add, qi_l, ql_i, ql_lt, ql_le, ql_eq, ql_add, qc_lt, qc_eq, qc_ge, qc_gt, qc_le, true_and, and_true, and_self, true_or, or_true, false_or, or_false, false_and, and_false, not_true_eq_false, not_false_eq_true, Classical.not_not, true_implies, false_implies, implies_true, exists_eq_left, exists_eq_left', Option.some.injEq, reduceIte, Nat.reduceEqDiff, Nat.reduceLT, Nat.reduceLeDiff, Nat.reduceAdd, Nat.reduceSub, Nat.reduceMul, eq_self, ne_eq, and_imp, forall_const, reduceCtorEq, am_w, List.map_cons, List.map_nil, List.sum_cons, List.sum_nil, Value.category, Nat.zero_le, Nat.le_refl]
      refine ⟨fun z => by omega, fun _ => ?_⟩
      have := inner (w / 2) 0 q (ov (am_A h r) p (w * q) (ctn w n (sl (am_A h r) p))) (fun h' => h' = am_cA h r (ov (am_A h r) p n (ctn w n (sl (am_A h r) p)))) (by omega) (by omega)
      rw [rv_0] at this
      refine this ?_
      have ef : rv (ov (am_A h r) p (w * q) (ctn w n (sl (am_A h r) p))) (p + w * q) w (w / 2) = ov (am_A h r) p (w * (q + 1)) (ctn w n (sl (am_A h r) p)) := by
        have hdm : ∀ j, w * q ≤ j → j < w * q + w → j / w = q ∧ j % w = j - w * q := by
          intro j h1 h2
          rcases hw with rfl | rfl | rfl <;> omega
        funext j
        rw [Nat.mul_add, Nat.mul_one]
        simp only [rv]
        by_cases a : p + w * q ≤ j ∧ j < p + w * q + w
        · rw [if_pos (by rcases hw with rfl | rfl | rfl <;> omega)]
          simp only [ov]
          rw [if_neg (by omega), if_pos (by omega), ctn, if_pos (by omega)]
          obtain ⟨d1, d2⟩ := hdm (j - p) (by omega) (by omega)
          rw [d1, d2, sl]
          congr 2
          omega
        · rw [if_neg (by omega)]
          simp only [ov]
          by_cases b : p ≤ j ∧ j < p + w * q
          · rw [if_pos b, if_pos (by omega)]
          · rw [if_neg b, if_neg (by omega)]
      rw [ef]
      have := ih (q + 1) (by omega)
      rw [show p + w * q + w = p + w * (q + 1) by rw [Nat.mul_add]; omega]
      exact this
  have h0 := outer (n / w) 0 (by omega)
  have e0 : ov (am_A h r) p (w * 0) (ctn w n (sl (am_A h r) p)) = am_A h r := by
    funext j; rw [ov, if_neg (by omega)]
  rw [e0, cA_id] at h0
  exact h0
/-- a block k, its kinds and distances, n coders -/
def bk_s (h : am_H) (k ka da n : Nat) : Prop := am_K h k = 2 ∧ am_R h 1 0 k = some ka ∧ am_K h ka = 21 ∧ am_N h ka = 3 ∧ am_R h 1 1 k = some da ∧ am_K h da = 21 ∧ am_N h da = 3 ∧ am_I h 1 2 k = Int32.ofNat n ∧ n ≤ 3
/-- what a coder does to n bytes -/
def cop (k : Int32) (d : Nat) (n : Nat) (g : Nat → Int32) : Nat → Int32 := if k = Int32.ofNat 1 then cdd d n g else if k = Int32.ofNat 2 then ctn 2 n g else if k = Int32.ofNat 3 then ctn 4 n g else g
def cou (k : Int32) (d : Nat) (n : Nat) (g : Nat → Int32) : Nat → Int32 := if k = Int32.ofNat 1 then cud d n g else if k = Int32.ofNat 2 then ctn 2 n g else if k = Int32.ofNat 3 then ctn 4 n g else g
/-- coders i, i + 1, .. i + m - 1 forth -/
def cops (ks : Nat → Int32) (ds : Nat → Int32) (n : Nat) : Nat → Nat → (Nat → Int32) → (Nat → Int32)
  | _, 0, g => g
  | i, m + 1, g => cops ks ds n (i + 1) m (cop (ks i) (ds i).toNatClampNeg n g)
/-- coders m - 1, .. 0 back -/
def cous (ks : Nat → Int32) (ds : Nat → Int32) (n : Nat) : Nat → (Nat → Int32) → (Nat → Int32)
  | 0, g => g
  | m + 1, g => cous ks ds n m (cou (ks m) (ds m).toNatClampNeg n g)
