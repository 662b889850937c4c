/-! deps: 14a -/
/-! ===== what an archive is; the class's archives ===== -/
/-! 1 yX0_empty -/
theorem vc_1_0 (tt : Nat → Nat) (a0 : Nat) (h : am_H) (Q : am_H → Prop) (Qx : String → am_H → Prop) (q :
  (am_K h a0 = 1 ∧
  am_Ev tt 1 7 [some (.ref a0), some (.int (Int32.ofNat 0))] [] (am_sI h 0 1 a0 (Int32.ofNat 0)) (am_pV Q Qx))) :
  am_Ev tt 1 0 [some (.ref a0), none] [] h (am_pV Q Qx) := am_vc 8 [(7, [true, true])] q
theorem vc_1_7 (tt : Nat → Nat) (a0 : Nat) (a1 : Int32) (h : am_H) (Q : am_H → Prop) (Qx : String → am_H → Prop) (q :
  (((Int32.ofNat 6) ≤ a1 →
   Q h) ∧
  (¬ ((Int32.ofNat 6) ≤ a1) →
   (am_K h a0 = 1 ∧ ∃ q1, am_R h 0 2 a0 = some q1 ∧
   ((am_K h q1 = 26 ∨ am_K h q1 = 27) ∧ vp_in a1 (am_N h q1) ∧ ∃ q2, am_C h q1 (a1).toNatClampNeg = some q2 ∧
   (am_K h q2 = 2 ∧ ∃ (Q4 : am_H → Prop) (X4 : String → am_H → Prop), am_Ct tt 12 [.ref q2] h (am_pV Q4 X4) ∧ (∀ h3, Q4 h3 →
    am_Ev tt 1 7 [some (.ref a0), some (.int (a1 + (Int32.ofNat 1)))] [] h3 (am_pV Q Qx)) ∧ (∀ E5 h3, X4 E5 h3 → Qx E5 h3))))))) :
  am_Ev tt 1 7 [some (.ref a0), some (.int a1)] [] h (am_pV Q Qx) := am_vc 13 [(7, [true, true])] q

/-! 2 yX0_addEntry -/
theorem vc_2_0 (tt : Nat → Nat) (a0 : Nat) (a1 : Int32) (h : am_H) (Q : am_H → Prop) (Qx : String → am_H → Prop) (q :
  (am_K h a0 = 1 ∧
  (((Int32.ofNat 24) ≤ (am_I h 0 1 a0) →
   Q h) ∧
  (¬ ((Int32.ofNat 24) ≤ (am_I h 0 1 a0)) →
   (am_K h a0 = 1 ∧ ∃ q1, am_R h 0 0 a0 = some q1 ∧
   (am_K h a0 = 1 ∧
   ((am_K h q1 = 26 ∨ am_K h q1 = 27) ∧ vp_in (am_I h 0 1 a0) (am_N h q1) ∧ ∃ q2, am_C h q1 ((am_I h 0 1 a0)).toNatClampNeg = some q2 ∧
   (am_K h q2 = 5 ∧ ∃ (Q4 : am_H → Prop) (X4 : String → am_H → Prop), am_Ct tt 43 [.ref q2, .int a1] h (am_pV Q4 X4) ∧ (∀ h3, Q4 h3 →
    (am_K h3 a0 = 1 ∧
    (am_K h3 a0 = 1 ∧
    Q (am_sI h3 0 1 a0 ((am_I h3 0 1 a0) + (Int32.ofNat 1)))))) ∧ (∀ E5 h3, X4 E5 h3 → Qx E5 h3))))))))) :
  am_Ev tt 2 0 [some (.ref a0), some (.int a1)] [] h (am_pV Q Qx) := am_vc 20 [] q

/-! 3 yX0_find -/
theorem vc_3_0 (tt : Nat → Nat) (a0 : Nat) (a1 : Int32) (h : am_H) (Q : Option Nat → am_H → Prop) (Qx : String → am_H → Prop) (q :
  ((a1 < (Int32.ofNat 0) →
   Q none h) ∧
  (¬ (a1 < (Int32.ofNat 0)) →
   (am_K h a0 = 1 ∧
   (((am_I h 0 1 a0) ≤ a1 →
    Q none h) ∧
   (¬ ((am_I h 0 1 a0) ≤ a1) →
    (am_K h a0 = 1 ∧ ∃ q1, am_R h 0 0 a0 = some q1 ∧
    ((am_K h q1 = 26 ∨ am_K h q1 = 27) ∧ vp_in a1 (am_N h q1) ∧ ∃ q2, am_C h q1 (a1).toNatClampNeg = some q2 ∧
    Q (some q2) h)))))))) :
  am_Ev tt 3 0 [some (.ref a0), some (.int a1)] [] h (am_pR Q Qx) := am_vc 14 [] q

/-! 4 yX0_findBlock -/
theorem vc_4_0 (tt : Nat → Nat) (a0 : Nat) (a1 : Int32) (h : am_H) (Q : Option Nat → am_H → Prop) (Qx : String → am_H → Prop) (q :
  ((a1 < (Int32.ofNat 0) →
   Q none h) ∧
  (¬ (a1 < (Int32.ofNat 0)) →
   (((Int32.ofNat 6) ≤ a1 →
    Q none h) ∧
   (¬ ((Int32.ofNat 6) ≤ a1) →
    (am_K h a0 = 1 ∧ ∃ q1, am_R h 0 2 a0 = some q1 ∧
    ((am_K h q1 = 26 ∨ am_K h q1 = 27) ∧ vp_in a1 (am_N h q1) ∧ ∃ q2, am_C h q1 (a1).toNatClampNeg = some q2 ∧
    Q (some q2) h))))))) :
  am_Ev tt 4 0 [some (.ref a0), some (.int a1)] [] h (am_pR Q Qx) := am_vc 13 [] q

/-! 5 yX0_isKnown -/
theorem vc_5_0 (tt : Nat → Nat) (a0 : Nat) (a1 : Int32) (h : am_H) (Q : Int32 → am_H → Prop) (Qx : String → am_H → Prop) (q :
  ((a1 < (Int32.ofNat 0) →
   (((Int32.ofNat 0) = (Int32.ofNat 0) ∨ (Int32.ofNat 0) = (Int32.ofNat 1)) ∧ Q (Int32.ofNat 0) h)) ∧
  (¬ (a1 < (Int32.ofNat 0)) →
   (((Int32.ofNat 6) ≤ a1 →
    (((Int32.ofNat 0) = (Int32.ofNat 0) ∨ (Int32.ofNat 0) = (Int32.ofNat 1)) ∧ Q (Int32.ofNat 0) h)) ∧
   (¬ ((Int32.ofNat 6) ≤ a1) →
    (am_K h a0 = 1 ∧ ∃ q1, am_R h 0 2 a0 = some q1 ∧
    ((am_K h q1 = 26 ∨ am_K h q1 = 27) ∧ vp_in a1 (am_N h q1) ∧ ∃ q2, am_C h q1 (a1).toNatClampNeg = some q2 ∧
    (am_K h q2 = 2 ∧
    (((am_I h 1 3 q2) = (Int32.ofNat 0) →
     (((Int32.ofNat 0) = (Int32.ofNat 0) ∨ (Int32.ofNat 0) = (Int32.ofNat 1)) ∧ Q (Int32.ofNat 0) h)) ∧
    (¬ ((am_I h 1 3 q2) = (Int32.ofNat 0)) →
     (((Int32.ofNat 1) = (Int32.ofNat 0) ∨ (Int32.ofNat 1) = (Int32.ofNat 1)) ∧ Q (Int32.ofNat 1) h))))))))))) :
  am_Ev tt 5 0 [some (.ref a0), some (.int a1)] [] h (am_pI Q Qx) := am_vc 16 [] q

/-! 6 yX0_isLost -/
theorem vc_6_0 (tt : Nat → Nat) (a0 : Nat) (a1 : Nat) (h : am_H) (Q : Int32 → am_H → Prop) (Qx : String → am_H → Prop) (q :
  (am_K h a1 = 5 ∧
  (((am_I h 4 3 a1) ≤ (Int32.ofNat 0) →
   (((Int32.ofNat 0) = (Int32.ofNat 0) ∨ (Int32.ofNat 0) = (Int32.ofNat 1)) ∧ Q (Int32.ofNat 0) h)) ∧
  (¬ ((am_I h 4 3 a1) ≤ (Int32.ofNat 0)) →
   (am_K h a1 = 5 ∧
   (am_K h a0 = 1 ∧ ∃ (Q2 : Int32 → am_H → Prop) (X2 : String → am_H → Prop), am_Ct tt 5 [.ref a0, .int (am_I h 4 5 a1)] h (am_pI Q2 X2) ∧ (∀ x3 h1, Q2 x3 h1 →
    ((¬ x3 = (Int32.ofNat 0) →
     (((Int32.ofNat 0) = (Int32.ofNat 0) ∨ (Int32.ofNat 0) = (Int32.ofNat 1)) ∧ Q (Int32.ofNat 0) h1)) ∧
    (¬ (¬ x3 = (Int32.ofNat 0)) →
     (((Int32.ofNat 1) = (Int32.ofNat 0) ∨ (Int32.ofNat 1) = (Int32.ofNat 1)) ∧ Q (Int32.ofNat 1) h1)))) ∧ (∀ E4 h1, X2 E4 h1 → Qx E4 h1))))))) :
  am_Ev tt 6 0 [some (.ref a0), some (.ref a1)] [] h (am_pI Q Qx) := am_vc 13 [] q

/-! 7 yX0_isReady -/
theorem vc_7_0 (tt : Nat → Nat) (a0 : Nat) (h : am_H) (Q : Int32 → am_H → Prop) (Qx : String → am_H → Prop) (q :
  am_Ev tt 7 2 [some (.ref a0), some (.int (Int32.ofNat 0))] [] h (am_pI Q Qx)) :
  am_Ev tt 7 0 [some (.ref a0), none] [] h (am_pI Q Qx) := am_vc 5 [(2, [true, true]), (35, [false, false])] q
theorem vc_7_2 (tt : Nat → Nat) (a0 : Nat) (a1 : Int32) (h : am_H) (Q : Int32 → am_H → Prop) (Qx : String → am_H → Prop) (q :
  (am_K h a0 = 1 ∧
  (((am_I h 0 1 a0) ≤ a1 →
   (((Int32.ofNat 1) = (Int32.ofNat 0) ∨ (Int32.ofNat 1) = (Int32.ofNat 1)) ∧ Q (Int32.ofNat 1) h)) ∧
  (¬ ((am_I h 0 1 a0) ≤ a1) →
   (am_K h a0 = 1 ∧ ∃ q1, am_R h 0 0 a0 = some q1 ∧
   ((am_K h q1 = 26 ∨ am_K h q1 = 27) ∧ vp_in a1 (am_N h q1) ∧ ∃ q2, am_C h q1 (a1).toNatClampNeg = some q2 ∧
   (am_K h q2 = 5 ∧
   (((am_I h 4 1 q2) = (Int32.ofNat 0) →
    am_Ev tt 7 35 [none, none] [] h (am_pI Q Qx)) ∧
   (¬ ((am_I h 4 1 q2) = (Int32.ofNat 0)) →
    (am_K h a0 = 1 ∧ ∃ q3, am_R h 0 0 a0 = some q3 ∧
    ((am_K h q3 = 26 ∨ am_K h q3 = 27) ∧ vp_in a1 (am_N h q3) ∧ ∃ q4, am_C h q3 (a1).toNatClampNeg = some q4 ∧
    (am_K h a0 = 1 ∧ ∃ (Q6 : Int32 → am_H → Prop) (X6 : String → am_H → Prop), am_Ct tt 6 [.ref a0, .ref q4] h (am_pI Q6 X6) ∧ (∀ x7 h5, Q6 x7 h5 →
     ((x7 = (Int32.ofNat 0) →
      am_Ev tt 7 2 [some (.ref a0), some (.int (a1 + (Int32.ofNat 1)))] [] h5 (am_pI Q Qx)) ∧
     (¬ (x7 = (Int32.ofNat 0)) →
      am_Ev tt 7 35 [none, none] [] h5 (am_pI Q Qx)))) ∧ (∀ E8 h5, X6 E8 h5 → Qx E8 h5))))))))))))) :
  am_Ev tt 7 2 [some (.ref a0), some (.int a1)] [] h (am_pI Q Qx) := am_vc 22 [(2, [true, true]), (35, [false, false])] q
theorem vc_7_35 (tt : Nat → Nat)  (h : am_H) (Q : Int32 → am_H → Prop) (Qx : String → am_H → Prop) (q :
  (((Int32.ofNat 0) = (Int32.ofNat 0) ∨ (Int32.ofNat 0) = (Int32.ofNat 1)) ∧ Q (Int32.ofNat 0) h)) :
  am_Ev tt 7 35 [none, none] [] h (am_pI Q Qx) := am_vc 4 [(2, [true, true]), (35, [false, false])] q

/-! 8 yX0_bytesOf -/
theorem vc_8_0 (tt : Nat → Nat) (a0 : Nat) (a1 : Int32) (h : am_H) (Q : Int32 → am_H → Prop) (Qx : String → am_H → Prop) (q :
  am_Ev tt 8 4 [some (.ref a0), some (.int a1), some (.int (Int32.ofNat 0)), some (.int (Int32.ofNat 0))] [] h (am_pI Q Qx)) :
  am_Ev tt 8 0 [some (.ref a0), some (.int a1), none, none] [] h (am_pI Q Qx) := am_vc 7 [(4, [true, true, true, true]), (37, [true, true, true, true])] q
theorem vc_8_4 (tt : Nat → Nat) (a0 : Nat) (a1 : Int32) (a2 : Int32) (a3 : Int32) (h : am_H) (Q : Int32 → am_H → Prop) (Qx : String → am_H → Prop) (q :
  (am_K h a0 = 1 ∧
  (((am_I h 0 1 a0) ≤ a3 →
   Q a2 h) ∧
  (¬ ((am_I h 0 1 a0) ≤ a3) →
   (am_K h a0 = 1 ∧ ∃ q1, am_R h 0 0 a0 = some q1 ∧
   ((am_K h q1 = 26 ∨ am_K h q1 = 27) ∧ vp_in a3 (am_N h q1) ∧ ∃ q2, am_C h q1 (a3).toNatClampNeg = some q2 ∧
   (am_K h q2 = 5 ∧
   ((¬ (am_I h 4 5 q2) = a1 →
    am_Ev tt 8 37 [some (.ref a0), some (.int a1), some (.int a2), some (.int a3)] [] h (am_pI Q Qx)) ∧
   (¬ (¬ (am_I h 4 5 q2) = a1) →
    (am_K h a0 = 1 ∧ ∃ q3, am_R h 0 0 a0 = some q3 ∧
    ((am_K h q3 = 26 ∨ am_K h q3 = 27) ∧ vp_in a3 (am_N h q3) ∧ ∃ q4, am_C h q3 (a3).toNatClampNeg = some q4 ∧
    (am_K h q4 = 5 ∧
    am_Ev tt 8 37 [some (.ref a0), some (.int a1), some (.int (a2 + (am_I h 4 3 q4))), some (.int a3)] [] h (am_pI Q Qx))))))))))))) :
  am_Ev tt 8 4 [some (.ref a0), some (.int a1), some (.int a2), some (.int a3)] [] h (am_pI Q Qx) := am_vc 22 [(4, [true, true, true, true]), (37, [true, true, true, true])] q
theorem vc_8_37 (tt : Nat → Nat) (a0 : Nat) (a1 : Int32) (a2 : Int32) (a3 : Int32) (h : am_H) (Q : Int32 → am_H → Prop) (Qx : String → am_H → Prop) (q :
  am_Ev tt 8 4 [some (.ref a0), some (.int a1), some (.int a2), some (.int (a3 + (Int32.ofNat 1)))] [] h (am_pI Q Qx)) :
  am_Ev tt 8 37 [some (.ref a0), some (.int a1), some (.int a2), some (.int a3)] [] h (am_pI Q Qx) := am_vc 5 [(4, [true, true, true, true]), (37, [true, true, true, true])] q

/-! 9 yX0_filesOf -/
theorem vc_9_0 (tt : Nat → Nat) (a0 : Nat) (a1 : Int32) (h : am_H) (Q : Int32 → am_H → Prop) (Qx : String → am_H → Prop) (q :
  am_Ev tt 9 4 [some (.ref a0), some (.int a1), some (.int (Int32.ofNat 0)), some (.int (Int32.ofNat 0))] [] h (am_pI Q Qx)) :
  am_Ev tt 9 0 [some (.ref a0), some (.int a1), none, none] [] h (am_pI Q Qx) := am_vc 7 [(4, [true, true, true, true]), (40, [true, true, true, true])] q
theorem vc_9_4 (tt : Nat → Nat) (a0 : Nat) (a1 : Int32) (a2 : Int32) (a3 : Int32) (h : am_H) (Q : Int32 → am_H → Prop) (Qx : String → am_H → Prop) (q :
  (am_K h a0 = 1 ∧
  (((am_I h 0 1 a0) ≤ a3 →
   Q a2 h) ∧
  (¬ ((am_I h 0 1 a0) ≤ a3) →
   (am_K h a0 = 1 ∧ ∃ q1, am_R h 0 0 a0 = some q1 ∧
   ((am_K h q1 = 26 ∨ am_K h q1 = 27) ∧ vp_in a3 (am_N h q1) ∧ ∃ q2, am_C h q1 (a3).toNatClampNeg = some q2 ∧
   (am_K h q2 = 5 ∧
   ((¬ (am_I h 4 5 q2) = a1 →
    am_Ev tt 9 40 [some (.ref a0), some (.int a1), some (.int a2), some (.int a3)] [] h (am_pI Q Qx)) ∧
   (¬ (¬ (am_I h 4 5 q2) = a1) →
    (am_K h a0 = 1 ∧ ∃ q3, am_R h 0 0 a0 = some q3 ∧
    ((am_K h q3 = 26 ∨ am_K h q3 = 27) ∧ vp_in a3 (am_N h q3) ∧ ∃ q4, am_C h q3 (a3).toNatClampNeg = some q4 ∧
    (am_K h q4 = 5 ∧
    (((am_I h 4 3 q4) ≤ (Int32.ofNat 0) →
     am_Ev tt 9 40 [some (.ref a0), some (.int a1), some (.int a2), some (.int a3)] [] h (am_pI Q Qx)) ∧
    (¬ ((am_I h 4 3 q4) ≤ (Int32.ofNat 0)) →
     am_Ev tt 9 40 [some (.ref a0), some (.int a1), some (.int (a2 + (Int32.ofNat 1))), some (.int a3)] [] h (am_pI Q Qx))))))))))))))) :
  am_Ev tt 9 4 [some (.ref a0), some (.int a1), some (.int a2), some (.int a3)] [] h (am_pI Q Qx) := am_vc 21 [(4, [true, true, true, true]), (40, [true, true, true, true])] q
theorem vc_9_40 (tt : Nat → Nat) (a0 : Nat) (a1 : Int32) (a2 : Int32) (a3 : Int32) (h : am_H) (Q : Int32 → am_H → Prop) (Qx : String → am_H → Prop) (q :
  am_Ev tt 9 4 [some (.ref a0), some (.int a1), some (.int a2), some (.int (a3 + (Int32.ofNat 1)))] [] h (am_pI Q Qx)) :
  am_Ev tt 9 40 [some (.ref a0), some (.int a1), some (.int a2), some (.int a3)] [] h (am_pI Q Qx) := am_vc 5 [(4, [true, true, true, true]), (40, [true, true, true, true])] q

/-! 10 yX0_hasOverfullBlock -/
theorem vc_10_0 (tt : Nat → Nat) (a0 : Nat) (h : am_H) (Q : Int32 → am_H → Prop) (Qx : String → am_H → Prop) (q :
  am_Ev tt 10 2 [some (.ref a0), some (.int (Int32.ofNat 0))] [] h (am_pI Q Qx)) :
  am_Ev tt 10 0 [some (.ref a0), none] [] h (am_pI Q Qx) := am_vc 5 [(2, [true, true])] q
theorem vc_10_2 (tt : Nat → Nat) (a0 : Nat) (a1 : Int32) (h : am_H) (Q : Int32 → am_H → Prop) (Qx : String → am_H → Prop) (q :
  (((Int32.ofNat 6) ≤ a1 →
   (((Int32.ofNat 0) = (Int32.ofNat 0) ∨ (Int32.ofNat 0) = (Int32.ofNat 1)) ∧ Q (Int32.ofNat 0) h)) ∧
  (¬ ((Int32.ofNat 6) ≤ a1) →
   (am_K h a0 = 1 ∧ ∃ (Q2 : Int32 → am_H → Prop) (X2 : String → am_H → Prop), am_Ct tt 8 [.ref a0, .int a1] h (am_pI Q2 X2) ∧ (∀ x3 h1, Q2 x3 h1 →
    ((x3 ≤ (Int32.ofNat 2400) →
     am_Ev tt 10 2 [some (.ref a0), some (.int (a1 + (Int32.ofNat 1)))] [] h1 (am_pI Q Qx)) ∧
    (¬ (x3 ≤ (Int32.ofNat 2400)) →
     (((Int32.ofNat 1) = (Int32.ofNat 0) ∨ (Int32.ofNat 1) = (Int32.ofNat 1)) ∧ Q (Int32.ofNat 1) h1)))) ∧ (∀ E4 h1, X2 E4 h1 → Qx E4 h1))))) :
  am_Ev tt 10 2 [some (.ref a0), some (.int a1)] [] h (am_pI Q Qx) := am_vc 13 [(2, [true, true])] q

/-- an entry: kind, how many units, units, size, bytes, home, anti, time, attributes, wrong -/
abbrev sE : Type := Nat × Nat × (Nat → Int32) × Nat × (Nat → Int32) × Nat × Bool × Option Int64 × Option Int32 × Bool
def e_kd (e : sE) : Nat := e.1
def e_un (e : sE) : Nat := e.2.1
def e_nm (e : sE) : Nat → Int32 := e.2.2.1
def e_sz (e : sE) : Nat := e.2.2.2.1
def e_by (e : sE) : Nat → Int32 := e.2.2.2.2.1
def e_hm (e : sE) : Nat := e.2.2.2.2.2.1
def e_an (e : sE) : Bool := e.2.2.2.2.2.2.1
def e_tm (e : sE) : Option Int64 := e.2.2.2.2.2.2.2.1
def e_av (e : sE) : Option Int32 := e.2.2.2.2.2.2.2.2.1
def e_wr (e : sE) : Bool := e.2.2.2.2.2.2.2.2.2
/-- a block: known, how many coders, kinds, distances -/
abbrev sB : Type := Bool × Nat × (Nat → Int32) × (Nat → Int32)
def b_kn (b : sB) : Bool := b.1
def b_cn (b : sB) : Nat := b.2.1
def b_ck (b : sB) : Nat → Int32 := b.2.2.1
def b_cd (b : sB) : Nat → Int32 := b.2.2.2
/-- an archive: how many entries, entries, blocks -/
abbrev sA : Type := Nat × (Nat → sE) × (Nat → sB)
def a_n (a : sA) : Nat := a.1
def a_E (a : sA) : Nat → sE := a.2.1
def a_B (a : sA) : Nat → sB := a.2.2
def a_kn (a : sA) (i : Nat) : Bool := b_kn (a_B a (e_hm (a_E a i)))
/-- its sums -/
def sbo (E : Nat → sE) (b : Nat) : Nat → Nat
  | 0 => 0
  | n + 1 => sbo E b n + (if e_hm (E n) = b then e_sz (E n) else 0)
def sfo (E : Nat → sE) (b : Nat) : Nat → Nat
  | 0 => 0
  | n + 1 => sfo E b n + (if e_hm (E n) = b ∧ 0 < e_sz (E n) then 1 else 0)
/-- bytes of those that are larger than any put can make them -/
def sbg (a : sA) : Nat → Nat
  | 0 => 0
  | n + 1 => sbg a n + (if a_kn a n = true ∧ 120 < e_sz (a_E a n) then e_sz (a_E a n) else 0)
def wfE (e : sE) : Prop := e_kd e ≤ 1 ∧ e_un e ≤ 20 ∧ e_sz e ≤ 2400 ∧ e_hm e < 6
def wfA (a : sA) : Prop := a_n a ≤ 24 ∧ (∀ i, i < a_n a → wfE (a_E a i)) ∧ (∀ b, b < 6 → b_cn (a_B a b) ≤ 3 ∧ (b_kn (a_B a b) = true → ∀ c, c < b_cn (a_B a b) → (∃ k, k < 4 ∧ b_ck (a_B a b) c = Int32.ofNat k) ∧ (b_ck (a_B a b) c = Int32.ofNat 1 → ∃ d, b_cd (a_B a b) c = Int32.ofNat d ∧ 1 ≤ d ∧ d ≤ 256) ∧ (¬ b_ck (a_B a b) c = Int32.ofNat 1 → b_cd (a_B a b) c = Int32.ofNat 0))) ∧ sbg a (a_n a) ≤ 4968
/-! addresses, by codes -/
def c_ar (w : Nat) : Nat := 100 + 500 * w
def c_ea (w : Nat) : Nat := 101 + 500 * w
def c_ba (w : Nat) : Nat := 102 + 500 * w
def c_en (w i : Nat) : Nat := 110 + 500 * w + 2 * i
def c_un (w i : Nat) : Nat := 111 + 500 * w + 2 * i
def c_bk (w b : Nat) : Nat := 200 + 500 * w + 3 * b
def c_bi (w b : Nat) : Nat := 201 + 500 * w + 3 * b
def c_bd (w b : Nat) : Nat := 202 + 500 * w + 3 * b
def ce_s (h : am_H) (e u b : Nat) : Prop := am_K h e = 5 ∧ am_R h 4 0 e = some u ∧ am_K h u = 25 ∧ am_N h u = 20 ∧ am_R h 4 2 e = some b ∧ am_K h b = 23 ∧ am_N h b ≤ 3840 ∧ (am_N h b = 0 ∨ ∃ k, am_N h b = 120 * 2 ^ k)
def cb_s (h : am_H) (k ka da : Nat) : Prop := am_K h k = 2 ∧ am_R h 1 0 k = some ka ∧ am_K h ka = 21 ∧ am_N h ka = 3 ∧ am_R h 1 1 k = some da ∧ am_K h da = 21 ∧ am_N h da = 3
/-- the archive w of the class -/
def car_s (h : am_H) (cd : Nat → Nat) (bb : Nat → Nat → Nat) (w : Nat) : Prop :=
  am_K h (cd (c_ar w)) = 1 ∧ am_R h 0 0 (cd (c_ar w)) = some (cd (c_ea w)) ∧ am_K h (cd (c_ea w)) = 26 ∧ am_N h (cd (c_ea w)) = 24 ∧ am_R h 0 2 (cd (c_ar w)) = some (cd (c_ba w)) ∧ am_K h (cd (c_ba w)) = 27 ∧ am_N h (cd (c_ba w)) = 6 ∧
  (∀ i, i < 24 → am_C h (cd (c_ea w)) i = some (cd (c_en w i)) ∧ ce_s h (cd (c_en w i)) (cd (c_un w i)) (bb w i)) ∧ (∀ b, b < 6 → am_C h (cd (c_ba w)) b = some (cd (c_bk w b)) ∧ cb_s h (cd (c_bk w b)) (cd (c_bi w b)) (cd (c_bd w b)))
/-- what an entry's object tells; its bytes where p -/
def ce_v (h : am_H) (e u b : Nat) (v : sE) (p : Prop) : Prop :=
  am_I h 4 4 e = Int32.ofNat (e_kd v) ∧ am_I h 4 1 e = Int32.ofNat (e_un v) ∧ (∀ j, j < e_un v → am_A h u j = e_nm v j) ∧ am_I h 4 3 e = Int32.ofNat (e_sz v) ∧ am_I h 4 5 e = Int32.ofNat (e_hm v) ∧ am_I h 4 6 e = b01 (e_an v) ∧
  am_I h 4 7 e = b01 (e_tm v).isSome ∧ (∀ t, e_tm v = some t → am_J h 4 8 e = t) ∧ am_I h 4 9 e = b01 (e_av v).isSome ∧ (∀ t, e_av v = some t → am_I h 4 10 e = t) ∧ am_I h 4 12 e = b01 (e_wr v) ∧ (p → e_sz v ≤ am_N h b ∧ ∀ j, j < e_sz v → am_A h b j = e_by v j)
def cb_v (h : am_H) (k ka da : Nat) (v : sB) : Prop := am_I h 1 3 k = b01 (b_kn v) ∧ ∃ c, c ≤ 3 ∧ am_I h 1 2 k = Int32.ofNat c ∧ dl_s (am_A h ka) (am_A h da) c ∧ (b_kn v = true → c = b_cn v ∧ ∀ j, j < c → am_A h ka j = b_ck v j ∧ am_A h da j = b_cd v j)
def car_v (h : am_H) (cd : Nat → Nat) (bb : Nat → Nat → Nat) (w : Nat) (a : sA) : Prop :=
  am_I h 0 1 (cd (c_ar w)) = Int32.ofNat (a_n a) ∧ (∀ i, i < a_n a → ce_v h (cd (c_en w i)) (cd (c_un w i)) (bb w i) (a_E a i) (a_kn a i = true)) ∧ (∀ b, b < 6 → cb_v h (cd (c_bk w b)) (cd (c_bi w b)) (cd (c_bd w b)) (a_B a b))
section ARC
variable {tt : Nat → Nat} {h : am_H} {cd : Nat → Nat} {bb : Nat → Nat → Nat} {w : Nat}
theorem b01_z {b : Bool} : (b01 b = Int32.ofNat 0) = (b = false) := by cases b <;> simp [b01] <;> decide
theorem b01_o {b : Bool} : (b01 b = Int32.ofNat 1) = (b = true) := by cases b <;> simp [b01] <;> decide
theorem b01_01 {b : Bool} : b01 b = Int32.ofNat 0 ∨ b01 b = Int32.ofNat 1 := by cases b <;> simp [b01]
theorem ct_find {n : Nat} {x : Int32} (s : car_s h cd bb w) (hn : am_I h 0 1 (cd (c_ar w)) = Int32.ofNat n) (hl : n ≤ 24) : am_Ct tt 3 [.ref (cd (c_ar w)), .int x] h (am_pR (fun o h' => h' = h ∧ ((∃ i, i < n ∧ x = Int32.ofNat i ∧ o = some (cd (c_en w i))) ∨ (o = none ∧ ∀ i, i < n → ¬ x = Int32.ofNat i))) no_x) := by
  obtain ⟨s1, s2, s3, s4, s5, s6, s7, s8, s9⟩ := s
  refine vc_3_0 tt _ _ h _ _ ?_
  rcases qi_cases x with hx | ⟨i, hi, rfl⟩
  · refine ⟨fun _ => ⟨rfl, Or.inr ⟨rfl, fun i hi e => ?_⟩⟩, fun z => absurd hx z⟩
    rw [e] at hx
    simp (disch := omega) only [qi_lt, qi_le, qi_eq, qi_nn, qi_in, qi_add, qi_l, ql_i, ql_lt, ql_le, ql_eq, ql_add, qc_lt, qc_eq, qc_ge, qc_gt, qc_le] at hx
    omega
  · simp (disch := omega) only [s1, s2, s3, s4, hn, am_hs, qi_lt, qi_le, qi_eq, qi_nn, qi_in, qi_add, qi_l, ql_i, ql_lt, ql_le, ql_eq, ql_add, qc_lt, qc_eq, qc_ge, qc_gt, qc_le, true_and, and_true, and_self, true_or, or_true, false_or, or_false, false_and, and_false, not_true_eq_false, not_false_eq_true, Classical.not_not, true_implies, false_implies, implies_true, exists_eq_left, exists_eq_left', Option.some.injEq, reduceIte, Nat.reduceEqDiff, Nat.reduceLT, Nat.reduceLeDiff, Nat.reduceAdd, Nat.reduceSub, Nat.reduceMul, eq_self, ne_eq, and_imp, forall_const, reduceCtorEq, am_w, List.map_cons, List.map_nil, List.sum_cons, List.sum_nil, Value.category, Nat.zero_le, Nat.le_refl]
    refine ⟨fun z => by omega, fun _ => ⟨fun z => Or.inr fun j hj e => ?_, fun z => ⟨by omega, cd (c_en w i), (s8 i (by omega)).1, i, by omega, rfl, rfl⟩⟩⟩
    simp (disch := omega) only [qi_lt, qi_le, qi_eq, qi_nn, qi_in, qi_add, qi_l, ql_i, ql_lt, ql_le, ql_eq, ql_add, qc_lt, qc_eq, qc_ge, qc_gt, qc_le] at e
    omega
theorem ct_findBlock {x : Int32} (s : car_s h cd bb w) : am_Ct tt 4 [.ref (cd (c_ar w)), .int x] h (am_pR (fun o h' => h' = h ∧ ((∃ i, i < 6 ∧ x = Int32.ofNat i ∧ o = some (cd (c_bk w i))) ∨ (o = none ∧ ∀ i, i < 6 → ¬ x = Int32.ofNat i))) no_x) := by
  obtain ⟨s1, s2, s3, s4, s5, s6, s7, s8, s9⟩ := s
  refine vc_4_0 tt _ _ h _ _ ?_
  rcases qi_cases x with hx | ⟨i, hi, rfl⟩
  · refine ⟨fun _ => ⟨rfl, Or.inr ⟨rfl, fun i hi e => ?_⟩⟩, fun z => absurd hx z⟩
    rw [e] at hx
    simp (disch := omega) only [qi_lt, qi_le, qi_eq, qi_nn, qi_in, qi_add, qi_l, ql_i, ql_lt, ql_le, ql_eq, ql_add, qc_lt, qc_eq, qc_ge, qc_gt, qc_le] at hx
    omega
  · simp (disch := omega) only [s1, s5, s6, s7, am_hs, qi_lt, qi_le, qi_eq, qi_nn, qi_in, qi_add, qi_l, ql_i, ql_lt, ql_le, ql_eq, ql_add, qc_lt, qc_eq, qc_ge, qc_gt, qc_le, true_and, and_true, and_self, true_or, or_true, false_or, or_false, false_and, and_false, not_true_eq_false, not_false_eq_true, Classical.not_not, true_implies, false_implies, implies_true, exists_eq_left, exists_eq_left', Option.some.injEq, reduceIte, Nat.reduceEqDiff, Nat.reduceLT, Nat.reduceLeDiff, Nat.reduceAdd, Nat.reduceSub, Nat.reduceMul, eq_self, ne_eq, and_imp, forall_const, reduceCtorEq, am_w, List.map_cons, List.map_nil, List.sum_cons, List.sum_nil, Value.category, Nat.zero_le, Nat.le_refl]
    refine ⟨fun z => by omega, fun _ => ⟨fun z => Or.inr fun j hj e => ?_, fun z => ⟨by omega, cd (c_bk w i), (s9 i (by omega)).1, i, by omega, rfl, rfl⟩⟩⟩
    simp (disch := omega) only [qi_lt, qi_le, qi_eq, qi_nn, qi_in, qi_add, qi_l, ql_i, ql_lt, ql_le, ql_eq, ql_add, qc_lt, qc_eq, qc_ge, qc_gt, qc_le] at e
    omega
theorem ct_isKnown {b : Nat} {v : sB} (s : car_s h cd bb w) (hb : b < 6) (hv : cb_v h (cd (c_bk w b)) (cd (c_bi w b)) (cd (c_bd w b)) v) : am_Ct tt 5 [.ref (cd (c_ar w)), .int (Int32.ofNat b)] h (am_pI (fun x h' => h' = h ∧ x = b01 (b_kn v)) no_x) := by
  obtain ⟨s1, s2, s3, s4, s5, s6, s7, s8, s9⟩ := s
  refine vc_5_0 tt _ _ h _ _ ?_
  obtain ⟨t1, t2, t3⟩ := s9 b hb
  have v1 := hv.1
  simp (disch := omega) only [s1, s5, s6, s7, t1, t2, v1, b01_z, am_hs, qi_lt, qi_le, qi_eq, qi_nn, qi_in, qi_add, qi_l, ql_i, ql_lt, ql_le, ql_eq, ql_add, qc_lt, qc_eq, qc_ge, qc_gt, qc_le, true_and, and_true, and_self, true_or, or_true, false_or, or_false, false_and, and_false, not_true_eq_false, not_false_eq_true, Classical.not_not, true_implies, false_implies, implies_true, exists_eq_left, exists_eq_left', Option.some.injEq, reduceIte, Nat.reduceEqDiff, Nat.reduceLT, Nat.reduceLeDiff, Nat.reduceAdd, Nat.reduceSub, Nat.reduceMul, eq_self, ne_eq, and_imp, forall_const, reduceCtorEq, am_w, List.map_cons, List.map_nil, List.sum_cons, List.sum_nil, Value.category, Nat.zero_le, Nat.le_refl]
  refine ⟨fun z => by omega, fun _ => ⟨fun z => by omega, fun z => ⟨by omega, fun e => by rw [e]; rfl, fun e => ?_⟩⟩⟩
  rw [Bool.not_eq_false] at e
  rw [e]; rfl
theorem ct_isLost {e sz hm : Nat} {v : sB} (s : car_s h cd bb w) (hb : hm < 6) (hv : cb_v h (cd (c_bk w hm)) (cd (c_bi w hm)) (cd (c_bd w hm)) v) (he : am_K h e = 5) (h3 : am_I h 4 3 e = Int32.ofNat sz) (hz : sz ≤ 60000) (h5 : am_I h 4 5 e = Int32.ofNat hm) : am_Ct tt 6 [.ref (cd (c_ar w)), .ref e] h (am_pI (fun x h' => h' = h ∧ x = b01 (decide (0 < sz) && !b_kn v)) no_x) := by
  refine vc_6_0 tt _ _ h _ _ ?_
  simp (disch := omega) only [s.1, he, h3, h5, am_hs, qi_lt, qi_le, qi_eq, qi_nn, qi_in, qi_add, qi_l, ql_i, ql_lt, ql_le, ql_eq, ql_add, qc_lt, qc_eq, qc_ge, qc_gt, qc_le, true_and, and_true, and_self, true_or, or_true, false_or, or_false, false_and, and_false, not_true_eq_false, not_false_eq_true, Classical.not_not, true_implies, false_implies, implies_true, exists_eq_left, exists_eq_left', Option.some.injEq, reduceIte, Nat.reduceEqDiff, Nat.reduceLT, Nat.reduceLeDiff, Nat.reduceAdd, Nat.reduceSub, Nat.reduceMul, eq_self, ne_eq, and_imp, forall_const, reduceCtorEq, am_w, List.map_cons, List.map_nil, List.sum_cons, List.sum_nil, Value.category, Nat.zero_le, Nat.le_refl]
  refine ⟨fun z => by simp [b01]; omega, fun z => ⟨_, _, ct_isKnown s hb hv, fun x k e => ?_, fun _ _ z => z⟩⟩
  obtain ⟨e1, e2⟩ := e
  subst e1 e2
  simp (disch := omega) only [b01_z, qi_lt, qi_le, qi_eq, qi_nn, qi_in, qi_add, qi_l, ql_i, ql_lt, ql_le, ql_eq, ql_add, qc_lt, qc_eq, qc_ge, qc_gt, qc_le, true_and, and_true, and_self, true_or, or_true, false_or, or_false, false_and, and_false, not_true_eq_false, not_false_eq_true, Classical.not_not, true_implies, false_implies, implies_true, exists_eq_left, exists_eq_left', Option.some.injEq, reduceIte, Nat.reduceEqDiff, Nat.reduceLT, Nat.reduceLeDiff, Nat.reduceAdd, Nat.reduceSub, Nat.reduceMul, eq_self, ne_eq, and_imp, forall_const, reduceCtorEq, am_w, List.map_cons, List.map_nil, List.sum_cons, List.sum_nil, Value.category, Nat.zero_le, Nat.le_refl]
  refine ⟨fun e => ?_, fun e => ?_⟩
  · rw [Bool.not_eq_false] at e; simp [b01, e]
  · simp [b01, e]; omega
end ARC
