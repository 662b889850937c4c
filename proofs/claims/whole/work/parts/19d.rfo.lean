/-! deps: 19c -/
/-! ===== the class reads: bonds, a folder ===== -/
/-! 57 yX5_takeBonds -/
theorem vc_57_0 (tt : Nat → Nat) (a0 : Nat) (a1 : Int32) (h : am_H) (Q : am_H → Prop) (Qx : String → am_H → Prop) (q :
  am_Ev tt 57 2 [some (.ref a0), some (.int a1), some (.int (Int32.ofNat 0)), none, none, none] [] h (am_pV Q Qx)) :
  am_Ev tt 57 0 [some (.ref a0), some (.int a1), none, none, none, none] [] h (am_pV Q Qx) := am_vc 5 [(2, [true, true, true, false, false, false]), (29, [true, true, true, false, false, false]), (104, [true, true, true, true, true, true]), (114, [true, true, true, false, true, true])] q
theorem vc_57_2 (tt : Nat → Nat) (a0 : Nat) (a1 : Int32) (a2 : Int32) (h : am_H) (Q : am_H → Prop) (Qx : String → am_H → Prop) (q :
  (((Int32.ofNat 3) ≤ a2 →
   am_Ev tt 57 29 [some (.ref a0), some (.int a1), some (.int (Int32.ofNat 1)), none, none, none] [] h (am_pV Q Qx)) ∧
  (¬ ((Int32.ofNat 3) ≤ a2) →
   (am_K h a0 = 6 ∧ ∃ q1, am_R h 5 13 a0 = some q1 ∧
   (am_K h q1 = 21 ∧ vp_in a2 (am_N h q1) ∧
   (am_K h a0 = 6 ∧ ∃ q2, am_R h 5 14 a0 = some q2 ∧
   (vp_in a2 (am_N h q2) ∧ ∃ w3, ((am_K h q2 = 23 ∧ w3 = ((Int32.ofNat 0)).toInt8.toInt32) ∨ (am_K h q2 = 24 ∧ w3 = ((Int32.ofNat 0) &&& 1))) ∧
   am_Ev tt 57 2 [some (.ref a0), some (.int a1), some (.int (a2 + (Int32.ofNat 1))), none, none, none] [] (am_sA (am_sA h q1 (a2).toNatClampNeg (-1 : Int32)) q2 (a2).toNatClampNeg w3) (am_pV Q Qx)))))))) :
  am_Ev tt 57 2 [some (.ref a0), some (.int a1), some (.int a2), none, none, none] [] h (am_pV Q Qx) := am_vc 18 [(2, [true, true, true, false, false, false]), (29, [true, true, true, false, false, false]), (104, [true, true, true, true, true, true]), (114, [true, true, true, false, true, true])] q
theorem vc_57_29 (tt : Nat → Nat) (a0 : Nat) (a1 : Int32) (a2 : Int32) (h : am_H) (Q : am_H → Prop) (Qx : String → am_H → Prop) (q :
  ((a1 ≤ a2 →
   Q h) ∧
  (¬ (a1 ≤ a2) →
   (am_K h a0 = 6 ∧ ∃ q1, am_R h 5 0 a0 = some q1 ∧
   (am_K h q1 = 3 ∧
   (am_K h a0 = 6 ∧ ∃ q2, am_R h 5 0 a0 = some q2 ∧
   (am_K h q2 = 3 ∧ ∃ (Q4 : Int64 → am_H → Prop) (X4 : String → am_H → Prop), am_Ct tt 29 [.ref q2, .long (Int64.ofNat 0), .long ((a1 - (Int32.ofNat 1))).toInt64] h (am_pL Q4 X4) ∧ (∀ x5 h3, Q4 x5 h3 →
    (am_K h3 a0 = 6 ∧ ∃ q6, am_R h3 5 0 a0 = some q6 ∧
    (am_K h3 q6 = 3 ∧ ∃ (Q8 : Int64 → am_H → Prop) (X8 : String → am_H → Prop), am_Ct tt 29 [.ref q6, .long (Int64.ofNat 0), .long ((a1 - (Int32.ofNat 1))).toInt64] h3 (am_pL Q8 X8) ∧ (∀ x9 h7, Q8 x9 h7 →
     (am_K h7 a0 = 6 ∧ ∃ q10, am_R h7 5 13 a0 = some q10 ∧
     ((am_K h7 q10 = 21 ∨ am_K h7 q10 = 31) ∧ vp_in (x5).toInt32 (am_N h7 q10) ∧
     ((¬ (am_A h7 q10 ((x5).toInt32).toNatClampNeg) = (-1 : Int32) →
      am_Ev tt 57 104 [some (.ref a0), some (.int a1), some (.int a2), some (.int (am_I h 2 2 q1)), some (.int (x5).toInt32), some (.int (x9).toInt32)] [] h7 (am_pV Q Qx)) ∧
     (¬ (¬ (am_A h7 q10 ((x5).toInt32).toNatClampNeg) = (-1 : Int32)) →
      (am_K h7 a0 = 6 ∧ ∃ q11, am_R h7 5 14 a0 = some q11 ∧
      ((am_K h7 q11 = 23 ∨ am_K h7 q11 = 24) ∧ vp_in (x9).toInt32 (am_N h7 q11) ∧
      ((¬ (am_A h7 q11 ((x9).toInt32).toNatClampNeg) = (Int32.ofNat 0) →
       am_Ev tt 57 104 [some (.ref a0), some (.int a1), some (.int a2), some (.int (am_I h 2 2 q1)), some (.int (x5).toInt32), some (.int (x9).toInt32)] [] h7 (am_pV Q Qx)) ∧
      (¬ (¬ (am_A h7 q11 ((x9).toInt32).toNatClampNeg) = (Int32.ofNat 0)) →
       (am_K h7 a0 = 6 ∧ ∃ (Q13 : Int32 → am_H → Prop) (X13 : String → am_H → Prop), am_Ct tt 58 [.ref a0, .int (x9).toInt32, .int (x5).toInt32] h7 (am_pI Q13 X13) ∧ (∀ x14 h12, Q13 x14 h12 →
        ((x14 = (Int32.ofNat 0) →
         am_Ev tt 57 114 [some (.ref a0), some (.int a1), some (.int a2), none, some (.int (x5).toInt32), some (.int (x9).toInt32)] [] h12 (am_pV Q Qx)) ∧
        (¬ (x14 = (Int32.ofNat 0)) →
         am_Ev tt 57 104 [some (.ref a0), some (.int a1), some (.int a2), some (.int (am_I h 2 2 q1)), some (.int (x5).toInt32), some (.int (x9).toInt32)] [] h12 (am_pV Q Qx)))) ∧ (∀ E15 h12, X13 E15 h12 → Qx E15 h12))))))))))) ∧ (∀ E16 h7, X8 E16 h7 → Qx E16 h7)))) ∧ (∀ E17 h3, X4 E17 h3 → Qx E17 h3)))))))) :
  am_Ev tt 57 29 [some (.ref a0), some (.int a1), some (.int a2), none, none, none] [] h (am_pV Q Qx) := am_vc 46 [(2, [true, true, true, false, false, false]), (29, [true, true, true, false, false, false]), (104, [true, true, true, true, true, true]), (114, [true, true, true, false, true, true])] q
theorem vc_57_104 (tt : Nat → Nat) (a0 : Nat) (a1 : Int32) (a2 : Int32) (a3 : Int32) (a4 : Int32) (a5 : Int32) (h : am_H) (Q : am_H → Prop) (Qx : String → am_H → Prop) (q :
  (am_K h a0 = 6 ∧ ∃ q1, am_R h 5 0 a0 = some q1 ∧
  (am_K h q1 = 3 ∧ ∃ (Q3 : am_H → Prop) (X3 : String → am_H → Prop), am_Ct tt 22 [.ref q1, .int (Int32.ofNat 7), .int a3] h (am_pV Q3 X3) ∧ (∀ h2, Q3 h2 →
   am_Ev tt 57 114 [some (.ref a0), some (.int a1), some (.int a2), none, some (.int a4), some (.int a5)] [] h2 (am_pV Q Qx)) ∧ (∀ E4 h2, X3 E4 h2 → Qx E4 h2)))) :
  am_Ev tt 57 104 [some (.ref a0), some (.int a1), some (.int a2), some (.int a3), some (.int a4), some (.int a5)] [] h (am_pV Q Qx) := am_vc 8 [(2, [true, true, true, false, false, false]), (29, [true, true, true, false, false, false]), (104, [true, true, true, true, true, true]), (114, [true, true, true, false, true, true])] q
theorem vc_57_114 (tt : Nat → Nat) (a0 : Nat) (a1 : Int32) (a2 : Int32) (a4 : Int32) (a5 : Int32) (h : am_H) (Q : am_H → Prop) (Qx : String → am_H → Prop) (q :
  (am_K h a0 = 6 ∧ ∃ q1, am_R h 5 13 a0 = some q1 ∧
  (am_K h q1 = 21 ∧ vp_in a4 (am_N h q1) ∧
  (am_K h a0 = 6 ∧ ∃ q2, am_R h 5 14 a0 = some q2 ∧
  (vp_in a5 (am_N h q2) ∧ ∃ w3, ((am_K h q2 = 23 ∧ w3 = ((Int32.ofNat 1)).toInt8.toInt32) ∨ (am_K h q2 = 24 ∧ w3 = ((Int32.ofNat 1) &&& 1))) ∧
  am_Ev tt 57 29 [some (.ref a0), some (.int a1), some (.int (a2 + (Int32.ofNat 1))), none, none, none] [] (am_sA (am_sA h q1 (a4).toNatClampNeg a5) q2 (a5).toNatClampNeg w3) (am_pV Q Qx)))))) :
  am_Ev tt 57 114 [some (.ref a0), some (.int a1), some (.int a2), none, some (.int a4), some (.int a5)] [] h (am_pV Q Qx) := am_vc 15 [(2, [true, true, true, false, false, false]), (29, [true, true, true, false, false, false]), (104, [true, true, true, true, true, true]), (114, [true, true, true, false, true, true])] q

/-! 58 yX5_leadsTo -/
theorem vc_58_0 (tt : Nat → Nat) (a0 : Nat) (a1 : Int32) (a2 : Int32) (h : am_H) (Q : Int32 → am_H → Prop) (Qx : String → am_H → Prop) (q :
  am_Ev tt 58 5 [some (.ref a0), none, some (.int a2), some (.int a1), some (.int (Int32.ofNat 0))] [] h (am_pI Q Qx)) :
  am_Ev tt 58 0 [some (.ref a0), some (.int a1), some (.int a2), none, none] [] h (am_pI Q Qx) := am_vc 7 [(5, [true, false, true, true, true])] q
theorem vc_58_5 (tt : Nat → Nat) (a0 : Nat) (a2 : Int32) (a3 : Int32) (a4 : Int32) (h : am_H) (Q : Int32 → am_H → Prop) (Qx : String → am_H → Prop) (q :
  (((Int32.ofNat 3) ≤ a4 →
   (((Int32.ofNat 0) = (Int32.ofNat 0) ∨ (Int32.ofNat 0) = (Int32.ofNat 1)) ∧ Q (Int32.ofNat 0) h)) ∧
  (¬ ((Int32.ofNat 3) ≤ a4) →
   ((a3 < (Int32.ofNat 0) →
    (((Int32.ofNat 0) = (Int32.ofNat 0) ∨ (Int32.ofNat 0) = (Int32.ofNat 1)) ∧ Q (Int32.ofNat 0) h)) ∧
   (¬ (a3 < (Int32.ofNat 0)) →
    (((Int32.ofNat 3) ≤ a3 →
     (((Int32.ofNat 0) = (Int32.ofNat 0) ∨ (Int32.ofNat 0) = (Int32.ofNat 1)) ∧ Q (Int32.ofNat 0) h)) ∧
    (¬ ((Int32.ofNat 3) ≤ a3) →
     ((¬ a3 = a2 →
      (am_K h a0 = 6 ∧ ∃ q1, am_R h 5 13 a0 = some q1 ∧
      ((am_K h q1 = 21 ∨ am_K h q1 = 31) ∧ vp_in a3 (am_N h q1) ∧
      am_Ev tt 58 5 [some (.ref a0), none, some (.int a2), some (.int (am_A h q1 (a3).toNatClampNeg)), some (.int (a4 + (Int32.ofNat 1)))] [] h (am_pI Q Qx)))) ∧
     (¬ (¬ a3 = a2) →
      (((Int32.ofNat 1) = (Int32.ofNat 0) ∨ (Int32.ofNat 1) = (Int32.ofNat 1)) ∧ Q (Int32.ofNat 1) h)))))))))) :
  am_Ev tt 58 5 [some (.ref a0), none, some (.int a2), some (.int a3), some (.int a4)] [] h (am_pI Q Qx) := am_vc 21 [(5, [true, false, true, true, true])] q

/-! 59 yX5_findOutermost -/
theorem vc_59_0 (tt : Nat → Nat) (a0 : Nat) (a1 : Int32) (h : am_H) (Q : Int32 → am_H → Prop) (Qx : String → am_H → Prop) (q :
  am_Ev tt 59 2 [some (.ref a0), some (.int a1), some (.int (Int32.ofNat 0))] [] h (am_pI Q Qx)) :
  am_Ev tt 59 0 [some (.ref a0), some (.int a1), none] [] h (am_pI Q Qx) := am_vc 5 [(2, [true, true, true])] q
theorem vc_59_2 (tt : Nat → Nat) (a0 : Nat) (a1 : Int32) (a2 : Int32) (h : am_H) (Q : Int32 → am_H → Prop) (Qx : String → am_H → Prop) (q :
  ((a1 ≤ a2 →
   Q (Int32.ofNat 0) h) ∧
  (¬ (a1 ≤ a2) →
   (am_K h a0 = 6 ∧ ∃ q1, am_R h 5 14 a0 = some q1 ∧
   ((am_K h q1 = 23 ∨ am_K h q1 = 24) ∧ vp_in a2 (am_N h q1) ∧
   ((¬ (am_A h q1 (a2).toNatClampNeg) = (Int32.ofNat 0) →
    am_Ev tt 59 2 [some (.ref a0), some (.int a1), some (.int (a2 + (Int32.ofNat 1)))] [] h (am_pI Q Qx)) ∧
   (¬ (¬ (am_A h q1 (a2).toNatClampNeg) = (Int32.ofNat 0)) →
    Q a2 h))))))) :
  am_Ev tt 59 2 [some (.ref a0), some (.int a1), some (.int a2)] [] h (am_pI Q Qx) := am_vc 13 [(2, [true, true, true])] q

/-! 54 yX5_keepFolder -/
theorem vc_54_0 (tt : Nat → Nat) (a0 : Nat) (a1 : Int32) (a2 : Int32) (a3 : Nat) (h : am_H) (Q : am_H → Prop) (Qx : String → am_H → Prop) (q :
  (am_K h a0 = 6 ∧ ∃ q1, am_R h 5 3 a0 = some q1 ∧
  (am_K h q1 = 21 ∧ vp_in a1 (am_N h q1) ∧
  (am_K h a0 = 6 ∧ ∃ q2, am_R h 5 4 a0 = some q2 ∧
  (am_K h a0 = 6 ∧ ∃ (Q4 : Int32 → am_H → Prop) (X4 : String → am_H → Prop), am_Ct tt 59 [.ref a0, .int a2] (am_sA h q1 (a1).toNatClampNeg a2) (am_pI Q4 X4) ∧ (∀ x5 h3, Q4 x5 h3 →
   (am_K h3 q2 = 21 ∧ vp_in a1 (am_N h3 q2) ∧
   (am_K h3 a0 = 6 ∧ ∃ q6, am_R h3 5 4 a0 = some q6 ∧
   ((am_K h3 q6 = 21 ∨ am_K h3 q6 = 31) ∧ vp_in a1 (am_N h3 q6) ∧
   am_Ev tt 54 29 [some (.ref a0), none, some (.int a2), some (.ref a3), some (.int (am_A (am_sA h3 q2 (a1).toNatClampNeg x5) q6 (a1).toNatClampNeg)), some (.int (Int32.ofNat 0))] [] (am_sA h3 q2 (a1).toNatClampNeg x5) (am_pV Q Qx))))) ∧ (∀ E7 h3, X4 E7 h3 → Qx E7 h3)))))) :
  am_Ev tt 54 0 [some (.ref a0), some (.int a1), some (.int a2), some (.ref a3), none, none] [] h (am_pV Q Qx) := am_vc 22 [(29, [true, false, true, true, true, true])] q
theorem vc_54_29 (tt : Nat → Nat) (a0 : Nat) (a2 : Int32) (a3 : Nat) (a4 : Int32) (a5 : Int32) (h : am_H) (Q : am_H → Prop) (Qx : String → am_H → Prop) (q :
  ((a2 ≤ a5 →
   Q h) ∧
  (¬ (a2 ≤ a5) →
   ((a4 < (Int32.ofNat 0) →
    Q h) ∧
   (¬ (a4 < (Int32.ofNat 0)) →
    ((a2 ≤ a4 →
     Q h) ∧
    (¬ (a2 ≤ a4) →
     (am_K h a0 = 6 ∧ ∃ q1, am_R h 5 11 a0 = some q1 ∧
     ((am_K h q1 = 21 ∨ am_K h q1 = 31) ∧ vp_in a4 (am_N h q1) ∧
     ((¬ (am_A h q1 (a4).toNatClampNeg) = (-1 : Int32) →
      (am_K h a0 = 6 ∧ ∃ q2, am_R h 5 11 a0 = some q2 ∧
      ((am_K h q2 = 21 ∨ am_K h q2 = 31) ∧ vp_in a4 (am_N h q2) ∧
      (am_K h a0 = 6 ∧ ∃ q3, am_R h 5 12 a0 = some q3 ∧
      ((am_K h q3 = 21 ∨ am_K h q3 = 31) ∧ vp_in a4 (am_N h q3) ∧
      (am_K h a3 = 2 ∧ ∃ (Q5 : am_H → Prop) (X5 : String → am_H → Prop), am_Ct tt 13 [.ref a3, .int (am_A h q2 (a4).toNatClampNeg), .int (am_A h q3 (a4).toNatClampNeg)] h (am_pV Q5 X5) ∧ (∀ h4, Q5 h4 →
       (am_K h4 a0 = 6 ∧ ∃ q6, am_R h4 5 13 a0 = some q6 ∧
       ((am_K h4 q6 = 21 ∨ am_K h4 q6 = 31) ∧ vp_in a4 (am_N h4 q6) ∧
       am_Ev tt 54 29 [some (.ref a0), none, some (.int a2), some (.ref a3), some (.int (am_A h4 q6 (a4).toNatClampNeg)), some (.int (a5 + (Int32.ofNat 1)))] [] h4 (am_pV Q Qx)))) ∧ (∀ E7 h4, X5 E7 h4 → Qx E7 h4))))))) ∧
     (¬ (¬ (am_A h q1 (a4).toNatClampNeg) = (-1 : Int32)) →
      (am_K h a3 = 2 ∧ ((Int32.ofNat 0) = (Int32.ofNat 0) ∨ (Int32.ofNat 0) = (Int32.ofNat 1)) ∧
      (am_K h a0 = 6 ∧ ∃ q8, am_R h 5 11 a0 = some q8 ∧
      ((am_K h q8 = 21 ∨ am_K h q8 = 31) ∧ vp_in a4 (am_N h q8) ∧
      (am_K h a0 = 6 ∧ ∃ q9, am_R h 5 12 a0 = some q9 ∧
      ((am_K h q9 = 21 ∨ am_K h q9 = 31) ∧ vp_in a4 (am_N h q9) ∧
      (am_K h a3 = 2 ∧ ∃ (Q11 : am_H → Prop) (X11 : String → am_H → Prop), am_Ct tt 13 [.ref a3, .int (am_A h q8 (a4).toNatClampNeg), .int (am_A h q9 (a4).toNatClampNeg)] (am_sI h 1 3 a3 (Int32.ofNat 0)) (am_pV Q11 X11) ∧ (∀ h10, Q11 h10 →
       (am_K h10 a0 = 6 ∧ ∃ q12, am_R h10 5 13 a0 = some q12 ∧
       ((am_K h10 q12 = 21 ∨ am_K h10 q12 = 31) ∧ vp_in a4 (am_N h10 q12) ∧
       am_Ev tt 54 29 [some (.ref a0), none, some (.int a2), some (.ref a3), some (.int (am_A h10 q12 (a4).toNatClampNeg)), some (.int (a5 + (Int32.ofNat 1)))] [] h10 (am_pV Q Qx)))) ∧ (∀ E13 h10, X11 E13 h10 → Qx E13 h10)))))))))))))))))) :
  am_Ev tt 54 29 [some (.ref a0), none, some (.int a2), some (.ref a3), some (.int a4), some (.int a5)] [] h (am_pV Q Qx) := am_vc 37 [(29, [true, false, true, true, true, true])] q

def tkv (t : Nat) : Int32 := if t = 3 then -1 else Int32.ofNat t
theorem tkv_m {t : Nat} (h : t ≤ 3) : (tkv t = -1) = (t = 3) := by
  unfold tkv
  by_cases c : t = 3
  · rw [if_pos c]; simp [c]
  · rw [if_neg c, qi_m1 (by omega)]; simp [c]
/-- valid bonds -/
def okB (nc : Nat) (bs : List (Nat × Nat)) (t g : Nat) : Prop := tkL bs t = 3 ∧ gvL bs g = 3 ∧ lds bs g t = false ∧ t < nc ∧ g < nc
def vB (nc : Nat) : List (Nat × Nat) → Prop
  | [] => True
  | [a] => okB nc [] a.1 a.2
  | [a, b] => okB nc [] a.1 a.2 ∧ okB nc [a] b.1 b.2
  | _ => False
theorem vB_b {nc : Nat} (hn : nc ≤ 3) : ∀ {bs : List (Nat × Nat)}, vB nc bs → ∀ b ∈ bs, b.1 < 3 ∧ b.2 < 3
  | [], _, b, hb => by cases hb
  | [a], h, b, hb => by
    rw [List.mem_singleton] at hb
    subst hb
    have h : okB nc [] b.1 b.2 := h
    exact ⟨by have := h.2.2.2.1; omega, by have := h.2.2.2.2; omega⟩
  | [a, c], h, b, hb => by
    have h : okB nc [] a.1 a.2 ∧ okB nc [a] c.1 c.2 := h
    have h1 := h.1.2.2.2
    have h2 := h.2.2.2.2
    rw [List.mem_cons, List.mem_singleton] at hb
    rcases hb with rfl | rfl
    · omega
    · omega
  | _ :: _ :: _ :: _, h, _, _ => absurd h id
theorem tkL_le : ∀ {bs : List (Nat × Nat)} {c : Nat}, (∀ b ∈ bs, b.1 < 3 ∧ b.2 < 3) → tkL bs c ≤ 3
  | [], _, _ => Nat.le_refl _
  | b :: bs, c, h => by
    unfold tkL
    split
    · have := (h b List.mem_cons_self).2; omega
    · exact tkL_le (fun x hx => h x (List.mem_cons_of_mem _ hx))
theorem tkL_app : ∀ {bs : List (Nat × Nat)} {t g c : Nat}, (∀ b ∈ bs, b.1 < 3 ∧ b.2 < 3) → tkL (bs ++ [(t, g)]) c = if tkL bs c = 3 then (if t = c then g else 3) else tkL bs c
  | [], t, g, c, _ => by rw [List.nil_append, tkL, tkL, if_pos rfl]; rfl
  | b :: bs, t, g, c, h => by
    rw [List.cons_append, tkL, tkL, tkL_app (fun x hx => h x (List.mem_cons_of_mem _ hx))]
    by_cases e : b.1 = c
    · rw [if_pos e, if_pos e, if_neg (by have := (h b List.mem_cons_self).2; omega)]
    · rw [if_neg e, if_neg e]
theorem gvL_le : ∀ {bs : List (Nat × Nat)} {c : Nat}, (∀ b ∈ bs, b.1 < 3 ∧ b.2 < 3) → gvL bs c ≤ 3
  | [], _, _ => Nat.le_refl _
  | b :: bs, c, h => by
    unfold gvL
    split
    · have := (h b List.mem_cons_self).1; omega
    · exact gvL_le (fun x hx => h x (List.mem_cons_of_mem _ hx))
theorem gvL_app : ∀ {bs : List (Nat × Nat)} {t g c : Nat}, (∀ b ∈ bs, b.1 < 3 ∧ b.2 < 3) → gvL (bs ++ [(t, g)]) c = if gvL bs c = 3 then (if g = c then t else 3) else gvL bs c
  | [], t, g, c, _ => by rw [List.nil_append, gvL, gvL, if_pos rfl]; rfl
  | b :: bs, t, g, c, h => by
    rw [List.cons_append, gvL, gvL, gvL_app (fun x hx => h x (List.mem_cons_of_mem _ hx))]
    by_cases e : b.2 = c
    · rw [if_pos e, if_pos e, if_neg (by have := (h b List.mem_cons_self).1; omega)]
    · rw [if_neg e, if_neg e]
def c3k (t1 g1 t2 g2 : Nat) : Bool := lds [] g1 t1 || (!decide (tkL [(t1, g1)] t2 = 3) || (!decide (gvL [(t1, g1)] g2 = 3) || (lds [(t1, g1)] g2 t2 || (List.range 3).all (fun j => decide (chL [(t1, g1), (t2, g2)] (omL [(t1, g1), (t2, g2)] 3) j < 3) && decide (gvL [(t1, g1), (t2, g2)] (omL [(t1, g1), (t2, g2)] 3) = 3)))))
theorem c3a : ((List.range 3).all fun t1 => (List.range 3).all fun g1 => (List.range 3).all fun t2 => (List.range 3).all fun g2 => c3k t1 g1 t2 g2) = true := by decide +kernel
theorem ch_3 (t1 : Nat) (h1 : t1 < 3) (g1 : Nat) (h2 : g1 < 3) (t2 : Nat) (h3 : t2 < 3) (g2 : Nat) (h4 : g2 < 3) (a1 : lds [] g1 t1 = false) (a2 : tkL [(t1, g1)] t2 = 3) (a3 : gvL [(t1, g1)] g2 = 3) (a4 : lds [(t1, g1)] g2 t2 = false) : ∀ j, j < 3 → chL [(t1, g1), (t2, g2)] (omL [(t1, g1), (t2, g2)] 3) j < 3 ∧ gvL [(t1, g1), (t2, g2)] (omL [(t1, g1), (t2, g2)] 3) = 3 := by
  intro j hj
  have h := c3a
  rw [List.all_eq_true] at h
  have h := h t1 (List.mem_range.2 h1)
  rw [List.all_eq_true] at h
  have h := h g1 (List.mem_range.2 h2)
  rw [List.all_eq_true] at h
  have h := h t2 (List.mem_range.2 h3)
  rw [List.all_eq_true] at h
  have h := h g2 (List.mem_range.2 h4)
  rw [c3k, a1, a2, a3, a4] at h
  simp only [decide_true, Bool.not_true, Bool.false_or] at h
  rw [List.all_eq_true] at h
  have h := h j (List.mem_range.2 hj)
  rw [Bool.and_eq_true, decide_eq_true_iff, decide_eq_true_iff] at h
  exact h
theorem ch_2 : ∀ t1, t1 < 2 → ∀ g1, g1 < 2 → lds [] g1 t1 = false → ∀ j, j < 2 → chL [(t1, g1)] (omL [(t1, g1)] 2) j < 2 ∧ gvL [(t1, g1)] (omL [(t1, g1)] 2) = 3 := by decide
theorem ch_1 : ∀ j, j < 1 → chL [] (omL [] 1) j < 1 ∧ gvL [] (omL [] 1) = 3 := by decide
theorem ch_v {nc : Nat} (h1 : 1 ≤ nc) (h3 : nc ≤ 3) : ∀ {bs : List (Nat × Nat)}, vB nc bs → bs.length = nc - 1 → ∀ j, j < nc → chL bs (omL bs nc) j < nc ∧ gvL bs (omL bs nc) = 3
  | [], _, hl => by
    have : nc = 1 := by rw [List.length_nil] at hl; omega
    subst this
    exact ch_1
  | [(t, g)], h, hl => by
    have : nc = 2 := by simp at hl; omega
    subst this
    have h : okB 2 [] t g := h
    exact ch_2 t h.2.2.2.1 g h.2.2.2.2 h.2.2.1
  | [(t, g), (t', g')], h, hl => by
    have : nc = 3 := by simp at hl; omega
    subst this
    have h : okB 3 [] t g ∧ okB 3 [(t, g)] t' g' := h
    exact ch_3 t h.1.2.2.2.1 g h.1.2.2.2.2 t' h.2.2.2.2.1 g' h.2.2.2.2.2 h.1.2.2.1 h.2.1 h.2.2.1 h.2.2.2.1
  | _ :: _ :: _ :: _, h, _ => absurd h id
theorem vB_s {nc : Nat} : ∀ {bs : List (Nat × Nat)} {t g : Nat}, vB nc bs → bs.length < 2 → okB nc bs t g → vB nc (bs ++ [(t, g)])
  | [], _, _, _, _, h => h
  | [a], _, _, h, _, h2 => ⟨h, h2⟩
  | _ :: _ :: _, _, _, _, hl, _ => by simp only [List.length_cons] at hl; omega
section RC1
variable {tt : Nat → Nat} {h0 h h' h'' : am_H} {cd : Nat → Nat} {bb : Nat → Nat → Nat} {wa wt n p : Nat}
/-- the rows of bonds -/
def BR (cd : Nat → Nat) (h : am_H) (bs : List (Nat × Nat)) : Prop := (∀ c, c < 3 → am_A h (cd 53) c = tkv (tkL bs c)) ∧ (∀ c, c < 3 → am_A h (cd 54) c = b01 (decide (¬ gvL bs c = 3)))
theorem ct_leadsTo (x : CX tt h0 cd bb wa wt n h p) {bs : List (Nat × Nat)} (br : BR cd h bs) (hb : ∀ b ∈ bs, b.1 < 3 ∧ b.2 < 3) {a b : Nat} (ha : a < 3) (hb3 : b < 3) : am_Ct tt 58 [.ref (cd 32), .int (Int32.ofNat a), .int (Int32.ofNat b)] h (am_pI (fun v h' => h' = h ∧ v = b01 (lds bs a b)) no_x) := by
  have f := x.f
  have le := fun c => tkL_le (c := c) hb
  have d3 : ∀ k, k < 3 → ¬ Int32.ofNat 3 ≤ Int32.ofNat k := fun k hk => by simp (disch := omega) only [qi_lt, qi_le, qi_eq, qi_nn, qi_in, qi_add, qi_l, ql_i, ql_lt, ql_le, ql_eq, ql_add, qc_lt, qc_eq, qc_ge, qc_gt, qc_le]; omega
  have no : ∀ v k, v < Int32.ofNat 0 → lds bs a b = false → am_Ev tt 58 5 [some (.ref (cd 32)), none, some (.int (Int32.ofNat b)), some (.int v), some (.int (Int32.ofNat k))] [] h (am_pI (fun v h' => h' = h ∧ v = b01 (lds bs a b)) no_x) := by
    intro v k hv hl
    refine vc_58_5 tt _ _ _ _ _ _ _ ?_
    rw [hl]
    exact ⟨fun _ => ⟨Or.inl rfl, rfl, rfl⟩, fun _ => ⟨fun _ => ⟨Or.inl rfl, rfl, rfl⟩, fun z => absurd hv z⟩⟩
  have neg : (-1 : Int32) < Int32.ofNat 0 := by decide
  have ev1 := br.1 a ha
  refine vc_58_0 tt _ _ _ h _ _ (vc_58_5 tt _ _ _ _ _ _ _ ?_)
  simp (disch := omega) only [f, ev1, ha, am_hs, qi_lt, qi_le, qi_eq, qi_nn, qi_in, qi_add, qi_l, ql_i, ql_lt, ql_le, ql_eq, ql_add, qc_lt, qc_eq, qc_ge, qc_gt, qc_le, true_and, and_true, and_self, true_or, or_true, false_or, or_false, false_and, and_false, not_true_eq_false, not_false_eq_true, Classical.not_not, true_implies, false_implies, implies_true, exists_eq_left, exists_eq_left', Option.some.injEq, reduceIte, Nat.reduceEqDiff, Nat.reduceLT, Nat.reduceLeDiff, Nat.reduceAdd, Nat.reduceSub, Nat.reduceMul, eq_self, ne_eq, and_imp, forall_const, reduceCtorEq, am_w, List.map_cons, List.map_nil, List.sum_cons, List.sum_nil, Value.category, Nat.zero_le, Nat.le_refl]
  refine ⟨fun z => by omega, fun _ => ⟨fun z => by omega, fun _ => ⟨fun z => ?_, fun z => ?_⟩⟩⟩
  · have la := le a
    by_cases c1 : tkL bs a = 3
    · rw [c1, tkv, if_pos rfl]
      refine no _ 1 neg ?_
      unfold lds
      exact decide_eq_false (by omega)
    · rw [tkv, if_neg c1]
      have ev2 := br.1 (tkL bs a) (by omega)
      have l3 : tkL bs a < 3 := by omega
      refine vc_58_5 tt _ _ _ _ _ _ _ ?_
      simp (disch := omega) only [f, ev2, l3, am_hs, qi_lt, qi_le, qi_eq, qi_nn, qi_in, qi_add, qi_l, ql_i, ql_lt, ql_le, ql_eq, ql_add, qc_lt, qc_eq, qc_ge, qc_gt, qc_le, true_and, and_true, and_self, true_or, or_true, false_or, or_false, false_and, and_false, not_true_eq_false, not_false_eq_true, Classical.not_not, true_implies, false_implies, implies_true, exists_eq_left, exists_eq_left', Option.some.injEq, reduceIte, Nat.reduceEqDiff, Nat.reduceLT, Nat.reduceLeDiff, Nat.reduceAdd, Nat.reduceSub, Nat.reduceMul, eq_self, ne_eq, and_imp, forall_const, reduceCtorEq, am_w, List.map_cons, List.map_nil, List.sum_cons, List.sum_nil, Value.category, Nat.zero_le, Nat.le_refl]
      refine ⟨fun z => by omega, fun _ => ⟨fun z => by omega, fun _ => ⟨fun z2 => ?_, fun z2 => ?_⟩⟩⟩
      · have lb := le (tkL bs a)
        by_cases c2 : tkL bs (tkL bs a) = 3
        · rw [c2, tkv, if_pos rfl]
          refine no _ 2 neg ?_
          unfold lds
          exact decide_eq_false (by omega)
        · rw [tkv, if_neg c2]
          have ev3 := br.1 (tkL bs (tkL bs a)) (by omega)
          have m3 : tkL bs (tkL bs a) < 3 := by omega
          refine vc_58_5 tt _ _ _ _ _ _ _ ?_
          simp (disch := omega) only [f, ev3, m3, am_hs, qi_lt, qi_le, qi_eq, qi_nn, qi_in, qi_add, qi_l, ql_i, ql_lt, ql_le, ql_eq, ql_add, qc_lt, qc_eq, qc_ge, qc_gt, qc_le, true_and, and_true, and_self, true_or, or_true, false_or, or_false, false_and, and_false, not_true_eq_false, not_false_eq_true, Classical.not_not, true_implies, false_implies, implies_true, exists_eq_left, exists_eq_left', Option.some.injEq, reduceIte, Nat.reduceEqDiff, Nat.reduceLT, Nat.reduceLeDiff, Nat.reduceAdd, Nat.reduceSub, Nat.reduceMul, eq_self, ne_eq, and_imp, forall_const, reduceCtorEq, am_w, List.map_cons, List.map_nil, List.sum_cons, List.sum_nil, Value.category, Nat.zero_le, Nat.le_refl]
          refine ⟨fun z => by omega, fun _ => ⟨fun z => by omega, fun _ => ⟨fun z3 => ?_, fun z3 => ?_⟩⟩⟩
          · refine vc_58_5 tt _ _ _ _ _ _ _ ⟨fun _ => ⟨Or.inl rfl, rfl, ?_⟩, fun z => absurd (by decide) z⟩
            unfold lds
            rw [decide_eq_false (by omega)]; rfl
          · unfold lds
            rw [decide_eq_true (by omega)]; rfl
      · unfold lds
        rw [decide_eq_true (by omega)]; rfl
  · unfold lds
    rw [decide_eq_true (Or.inl z)]; rfl
theorem ct_findOutermost (x : CX tt h0 cd bb wa wt n h p) {bs : List (Nat × Nat)} (br : ∀ c, c < 3 → am_A h (cd 54) c = b01 (decide (¬ gvL bs c = 3))) {nc : Nat} (h1 : 1 ≤ nc) (h3 : nc ≤ 3) : am_Ct tt 59 [.ref (cd 32), .int (Int32.ofNat nc)] h (am_pI (fun v h' => h' = h ∧ v = Int32.ofNat (omL bs nc)) no_x) := by
  have f := x.f
  have dn : ∀ {q : Prop} [Decidable q], (b01 (decide (¬ q)) = Int32.ofNat 0) = q := by
    intro q _
    rw [b01_z, decide_eq_false_iff_not, Classical.not_not]
  have key : ∀ (d i : Nat), d + i = nc → (∀ j, j < i → ¬ gvL bs j = 3) → am_Ev tt 59 2 [some (.ref (cd 32)), some (.int (Int32.ofNat nc)), some (.int (Int32.ofNat i))] [] h (am_pI (fun v h' => h' = h ∧ v = Int32.ofNat (omL bs nc)) no_x) := by
    intro d
    induction d with
    | zero =>
      intro i e hi
      have : i = nc := by omega
      subst this
      refine vc_59_2 tt _ _ _ _ _ _ ⟨fun _ => ⟨rfl, ?_⟩, fun z => absurd (Int32.le_refl _) z⟩
      unfold omL
      rw [if_neg (fun w => hi 0 w.1 w.2), if_neg (fun w => hi 1 w.1 w.2), if_neg (fun w => hi 2 w.1 w.2)]
    | succ d ih =>
      intro i e hi
      have i3 : i < 3 := by omega
      have ev := br i i3
      refine vc_59_2 tt _ _ _ _ _ _ ?_
      simp (disch := omega) only [f, ev, i3, am_hs, qi_lt, qi_le, qi_eq, qi_nn, qi_in, qi_add, qi_l, ql_i, ql_lt, ql_le, ql_eq, ql_add, qc_lt, qc_eq, qc_ge, qc_gt, qc_le, true_and, and_true, and_self, true_or, or_true, false_or, or_false, false_and, and_false, not_true_eq_false, not_false_eq_true, Classical.not_not, true_implies, false_implies, implies_true, exists_eq_left, exists_eq_left', Option.some.injEq, reduceIte, Nat.reduceEqDiff, Nat.reduceLT, Nat.reduceLeDiff, Nat.reduceAdd, Nat.reduceSub, Nat.reduceMul, eq_self, ne_eq, and_imp, forall_const, reduceCtorEq, am_w, List.map_cons, List.map_nil, List.sum_cons, List.sum_nil, Value.category, Nat.zero_le, Nat.le_refl]
      refine ⟨fun z => by omega, fun _ => ⟨fun z => ih (i + 1) (by omega) (fun j hj => ?_), fun z => ?_⟩⟩
      · rw [dn] at z
        by_cases c : j = i
        · rw [c]; exact z
        · exact hi j (by omega)
      · rw [dn] at z
        unfold omL
        rcases (show i = 0 ∨ i = 1 ∨ i = 2 by omega) with rfl | rfl | rfl
        · rw [if_pos ⟨by omega, z⟩]
        · rw [if_neg (fun w => hi 0 (by omega) w.2), if_pos ⟨by omega, z⟩]
        · rw [if_neg (fun w => hi 0 (by omega) w.2), if_neg (fun w => hi 1 (by omega) w.2), if_pos ⟨by omega, z⟩]
  exact vc_59_0 tt _ _ h _ _ (key nc 0 (by omega) (fun j hj => absurd hj (Nat.not_lt_zero j)))
def Xb (k : Nat) : Prop := k = 53 ∨ k = 54
theorem ct_takeBonds (x : CX tt h0 cd bb wa wt n h p) {nc : Nat} (h1 : 1 ≤ nc) (h3 : nc ≤ 3) {r : Except pe (List (Nat × Nat) × Nat)} (hr : r = lBo (FF cd wt h0) n nc (nc - 1) p []) : am_Ct tt 57 [.ref (cd 32), .int (Int32.ofNat nc)] h (am_pV (fun h' => ∃ bs p', r = .ok (bs, p') ∧ CX tt h0 cd bb wa wt n h' p' ∧ rf cd Xb Yc h h' ∧ BR cd h' bs ∧ vB nc bs ∧ bs.length = nc - 1) (ER cd wa h0 r)) := by
  have ci := x.ci
  have n34 : cd 53 ≠ cd 54 := fun e => by have := ci.1 _ _ e; omega
  have key2 : ∀ (d i : Nat) (k : am_H) (q : Nat) (bs : List (Nat × Nat)), d + i = nc - 1 → CX tt h0 cd bb wa wt n k q → rf cd Xb Yc h k → BR cd k bs → vB nc bs → bs.length = i → r = lBo (FF cd wt h0) n nc d q bs →
      am_Ev tt 57 29 [some (.ref (cd 32)), some (.int (Int32.ofNat nc)), some (.int (Int32.ofNat (i + 1))), none, none, none] [] k (am_pV (fun h' => ∃ bs p', r = .ok (bs, p') ∧ CX tt h0 cd bb wa wt n h' p' ∧ rf cd Xb Yc h h' ∧ BR cd h' bs ∧ vB nc bs ∧ bs.length = nc - 1) (ER cd wa h0 r)) := by
    intro d
    induction d with
    | zero =>
      intro i k q bs e y fk br vb hl hr
      refine vc_57_29 tt _ _ _ _ _ _ ⟨fun _ => ⟨bs, q, hr, y, fk, br, vb, by omega⟩, fun z => absurd (by rw [show i + 1 = nc by omega]; exact Int32.le_refl _) z⟩
    | succ d ih =>
      intro i k q bs e y fk br vb hl hr
      have f := y.f
      have fI := f.2.2.2.2.2.2.2.2.1
      have hb := vB_b h3 vb
      rw [lBo] at hr
      refine vc_57_29 tt _ _ _ _ _ _ ?_
      simp (disch := omega) only [f, qi_sub, qi_lt, qi_le, qi_eq, qi_nn, qi_in, qi_add, qi_l, ql_i, ql_lt, ql_le, ql_eq, ql_add, qc_lt, qc_eq, qc_ge, qc_gt, qc_le, true_and, and_true, and_self, true_or, or_true, false_or, or_false, false_and, and_false, not_true_eq_false, not_false_eq_true, Classical.not_not, true_implies, false_implies, implies_true, exists_eq_left, exists_eq_left', Option.some.injEq, reduceIte, Nat.reduceEqDiff, Nat.reduceLT, Nat.reduceLeDiff, Nat.reduceAdd, Nat.reduceSub, Nat.reduceMul, eq_self, ne_eq, and_imp, forall_const, reduceCtorEq, am_w, List.map_cons, List.map_nil, List.sum_cons, List.sum_nil, Value.category, Nat.zero_le, Nat.le_refl]
      refine ⟨fun z => by omega, fun _ => (y.nu hr fun v q2 h2 ev e2 x2 r2 => ⟨x2.f.2.1, _, x2.f.2.2.2.1, x2.nu r2 fun v' q3 h4 ev' e4 x4 r4 => ?_⟩).2⟩
      obtain ⟨t, rfl, w1, w2, w3⟩ := tN_n (by decide) (by omega) ev
      obtain ⟨g, rfl, w1', w2', w3'⟩ := tN_n (by decide) (by omega) ev'
      rw [w3, w3'] at r4
      have F4 := x4.f
      have t3 : t < 3 := by omega
      have g3 : g < 3 := by omega
      have lt3 := tkL_le (c := t) hb
      have lg3 := gvL_le (c := g) hb
      have A4 : am_A h4 = am_A k := by rw [e4, e2]; rfl
      have br4 : BR cd h4 bs := by unfold BR; rw [A4]; exact br
      have e53 := br4.1 t t3
      have e54 := br4.2 g g3
      have f4 : rf cd Xb Yc h h4 := by rw [e4, e2]; exact (fk.tr (rf.mv ⟨rfl, rfl, rfl⟩)).tr (rf.mv ⟨rfl, rfl, rfl⟩)
      have bad : (¬ tkL bs t = 3 ∨ ¬ gvL bs g = 3 ∨ lds bs g t = true) → am_Ev tt 57 104 [some (.ref (cd 32)), some (.int (Int32.ofNat nc)), some (.int (Int32.ofNat (i + 1))), some (.int (Int32.ofNat q)), some (.int (Int32.ofNat t)), some (.int (Int32.ofNat g))] [] h4 (am_pV (fun h' => ∃ bs p', r = .ok (bs, p') ∧ CX tt h0 cd bb wa wt n h' p' ∧ rf cd Xb Yc h h' ∧ BR cd h' bs ∧ vB nc bs ∧ bs.length = nc - 1) (ER cd wa h0 r)) := by
        intro z
        rw [if_pos z] at r4
        exact vc_57_104 tt _ _ _ _ _ _ _ _ _ ⟨F4.2.1, _, F4.2.2.2.1, F4.1, _, _, x4.fa (f := 7) (pl := q) r4, fun _ z => z.elim, fun _ _ z => z⟩
      simp (disch := omega) only [F4, e53, e54, t3, g3, tkv_m, b01_z, decide_eq_false_iff_not, am_hs, qi_lt, qi_le, qi_eq, qi_nn, qi_in, qi_add, qi_l, ql_i, ql_lt, ql_le, ql_eq, ql_add, qc_lt, qc_eq, qc_ge, qc_gt, qc_le, true_and, and_true, and_self, true_or, or_true, false_or, or_false, false_and, and_false, not_true_eq_false, not_false_eq_true, Classical.not_not, true_implies, false_implies, implies_true, exists_eq_left, exists_eq_left', Option.some.injEq, reduceIte, Nat.reduceEqDiff, Nat.reduceLT, Nat.reduceLeDiff, Nat.reduceAdd, Nat.reduceSub, Nat.reduceMul, eq_self, ne_eq, and_imp, forall_const, reduceCtorEq, am_w, List.map_cons, List.map_nil, List.sum_cons, List.sum_nil, Value.category, Nat.zero_le, Nat.le_refl]
      refine ⟨fun z => bad (Or.inl z), fun z => ⟨fun z2 => bad (Or.inr (Or.inl z2)), fun z2 => ⟨_, _, ct_leadsTo x4 br4 hb g3 t3, fun v k' e' => ?_, fun _ _ z => z.elim⟩⟩⟩
      obtain ⟨ek, rfl⟩ := e'
      subst ek
      rw [b01_z]
      refine ⟨fun z4 => ?_, fun z4 => bad (Or.inr (Or.inr (by simpa using z4)))⟩
      rw [if_neg (by
        intro w
        rcases w with w | w | w
        · exact w z
        · exact w z2
        · rw [z4] at w; cases w)] at r4
      refine vc_57_114 tt _ _ _ _ _ _ _ _ ?_
      simp (disch := omega) only [F4, t3, g3, am_hs, qi_lt, qi_le, qi_eq, qi_nn, qi_in, qi_add, qi_l, ql_i, ql_lt, ql_le, ql_eq, ql_add, qc_lt, qc_eq, qc_ge, qc_gt, qc_le, true_and, and_true, and_self, true_or, or_true, false_or, or_false, false_and, and_false, not_true_eq_false, not_false_eq_true, Classical.not_not, true_implies, false_implies, implies_true, exists_eq_left, exists_eq_left', Option.some.injEq, reduceIte, Nat.reduceEqDiff, Nat.reduceLT, Nat.reduceLeDiff, Nat.reduceAdd, Nat.reduceSub, Nat.reduceMul, eq_self, ne_eq, and_imp, forall_const, reduceCtorEq, am_w, List.map_cons, List.map_nil, List.sum_cons, List.sum_nil, Value.category, Nat.zero_le, Nat.le_refl]
      refine ih (i + 1) _ q3 (bs ++ [(t, g)]) (by omega) (x4.on ((rf.sA (by unfold XA; omega)).tr (rf.sA (by unfold XA; omega))) rfl rfl (fun _ _ => rfl)) ((f4.tr (rf.sA (Or.inl rfl))).tr (rf.sA (Or.inr rfl))) ⟨fun c hc => ?_, fun c hc => ?_⟩ (vB_s vb (by omega) ⟨z, z2, z4, by omega, by omega⟩) (by rw [List.length_append, hl]; rfl) r4
      · simp only [am_hs]
        rw [if_neg (fun w => n34 w.1), tkL_app hb]
        by_cases c1 : c = t
        · subst c1
          simp only [true_and, and_true, and_self, true_or, or_true, false_or, or_false, false_and, and_false, not_true_eq_false, not_false_eq_true, Classical.not_not, true_implies, false_implies, implies_true, exists_eq_left, exists_eq_left', Option.some.injEq, reduceIte, Nat.reduceEqDiff, Nat.reduceLT, Nat.reduceLeDiff, Nat.reduceAdd, Nat.reduceSub, Nat.reduceMul, eq_self, ne_eq, and_imp, forall_const, reduceCtorEq, am_w, List.map_cons, List.map_nil, List.sum_cons, List.sum_nil, Value.category, Nat.zero_le, Nat.le_refl]
          rw [if_pos z, tkv, if_neg (by omega)]
        · simp only [true_and, and_true, and_self, true_or, or_true, false_or, or_false, false_and, and_false, not_true_eq_false, not_false_eq_true, Classical.not_not, true_implies, false_implies, implies_true, exists_eq_left, exists_eq_left', Option.some.injEq, reduceIte, Nat.reduceEqDiff, Nat.reduceLT, Nat.reduceLeDiff, Nat.reduceAdd, Nat.reduceSub, Nat.reduceMul, eq_self, ne_eq, and_imp, forall_const, reduceCtorEq, am_w, List.map_cons, List.map_nil, List.sum_cons, List.sum_nil, Value.category, Nat.zero_le, Nat.le_refl]
          rw [if_neg c1, br4.1 c hc]
          by_cases c2 : tkL bs c = 3
          · rw [c2, if_pos rfl, if_neg (fun w => c1 w.symm)]
          · rw [if_neg c2]
      · simp only [am_hs]
        rw [gvL_app hb]
        by_cases c1 : c = g
        · subst c1
          simp only [true_and, and_true, and_self, true_or, or_true, false_or, or_false, false_and, and_false, not_true_eq_false, not_false_eq_true, Classical.not_not, true_implies, false_implies, implies_true, exists_eq_left, exists_eq_left', Option.some.injEq, reduceIte, Nat.reduceEqDiff, Nat.reduceLT, Nat.reduceLeDiff, Nat.reduceAdd, Nat.reduceSub, Nat.reduceMul, eq_self, ne_eq, and_imp, forall_const, reduceCtorEq, am_w, List.map_cons, List.map_nil, List.sum_cons, List.sum_nil, Value.category, Nat.zero_le, Nat.le_refl]
          rw [if_pos z2, decide_eq_true (by omega)]; rfl
        · simp only [true_and, and_true, and_self, true_or, or_true, false_or, or_false, false_and, and_false, not_true_eq_false, not_false_eq_true, Classical.not_not, true_implies, false_implies, implies_true, exists_eq_left, exists_eq_left', Option.some.injEq, reduceIte, Nat.reduceEqDiff, Nat.reduceLT, Nat.reduceLeDiff, Nat.reduceAdd, Nat.reduceSub, Nat.reduceMul, eq_self, ne_eq, and_imp, forall_const, reduceCtorEq, am_w, List.map_cons, List.map_nil, List.sum_cons, List.sum_nil, Value.category, Nat.zero_le, Nat.le_refl]
          rw [if_neg c1, if_neg (fun w => n34 w.1.symm), br4.2 c hc]
          by_cases c2 : gvL bs c = 3
          · rw [c2, if_pos rfl, if_neg (fun w => c1 w.symm)]
          · rw [if_neg c2]
  have key : ∀ (d i : Nat) (k : am_H), d + i = 3 → CX tt h0 cd bb wa wt n k p → rf cd Xb Yc h k → (∀ c, c < i → am_A k (cd 53) c = -1 ∧ am_A k (cd 54) c = Int32.ofNat 0) →
      am_Ev tt 57 2 [some (.ref (cd 32)), some (.int (Int32.ofNat nc)), some (.int (Int32.ofNat i)), none, none, none] [] k (am_pV (fun h' => ∃ bs p', r = .ok (bs, p') ∧ CX tt h0 cd bb wa wt n h' p' ∧ rf cd Xb Yc h h' ∧ BR cd h' bs ∧ vB nc bs ∧ bs.length = nc - 1) (ER cd wa h0 r)) := by
    intro d
    induction d with
    | zero =>
      intro i k e y fk hk
      have : i = 3 := by omega
      subst this
      refine vc_57_2 tt _ _ _ _ _ _ ⟨fun _ => key2 (nc - 1) 0 k p [] (by omega) y fk ⟨fun c hc => (hk c hc).1, fun c hc => (hk c hc).2⟩ trivial rfl hr, fun z => absurd (by decide) z⟩
    | succ d ih =>
      intro i k e y fk hk
      have f := y.f
      have i3 : i < 3 := by omega
      refine vc_57_2 tt _ _ _ _ _ _ ?_
      simp (disch := omega) only [f, i3, am_hs, qi_lt, qi_le, qi_eq, qi_nn, qi_in, qi_add, qi_l, ql_i, ql_lt, ql_le, ql_eq, ql_add, qc_lt, qc_eq, qc_ge, qc_gt, qc_le, true_and, and_true, and_self, true_or, or_true, false_or, or_false, false_and, and_false, not_true_eq_false, not_false_eq_true, Classical.not_not, true_implies, false_implies, implies_true, exists_eq_left, exists_eq_left', Option.some.injEq, reduceIte, Nat.reduceEqDiff, Nat.reduceLT, Nat.reduceLeDiff, Nat.reduceAdd, Nat.reduceSub, Nat.reduceMul, eq_self, ne_eq, and_imp, forall_const, reduceCtorEq, am_w, List.map_cons, List.map_nil, List.sum_cons, List.sum_nil, Value.category, Nat.zero_le, Nat.le_refl]
      refine ⟨fun z => by omega, fun _ => ih (i + 1) _ (by omega) (y.on ((rf.sA (by unfold XA; omega)).tr (rf.sA (by unfold XA; omega))) rfl rfl (fun _ _ => rfl)) ((fk.tr (rf.sA (Or.inl rfl))).tr (rf.sA (Or.inr rfl))) (fun c hc => ?_)⟩
      simp only [am_hs]
      rw [if_neg (fun w => n34 w.1)]
      simp only [true_and, and_true, and_self, true_or, or_true, false_or, or_false, false_and, and_false, not_true_eq_false, not_false_eq_true, Classical.not_not, true_implies, false_implies, implies_true, exists_eq_left, exists_eq_left', Option.some.injEq, reduceIte, Nat.reduceEqDiff, Nat.reduceLT, Nat.reduceLeDiff, Nat.reduceAdd, Nat.reduceSub, Nat.reduceMul, eq_self, ne_eq, and_imp, forall_const, reduceCtorEq, am_w, List.map_cons, List.map_nil, List.sum_cons, List.sum_nil, Value.category, Nat.zero_le, Nat.le_refl]
      by_cases c1 : c = i
      · rw [if_pos c1, if_pos c1]; exact ⟨rfl, rfl⟩
      · rw [if_neg c1, if_neg c1, if_neg (fun w => n34 w.1.symm)]
        exact hk c (by omega)
  exact vc_57_0 tt _ _ h _ _ (key 3 0 h (by omega) x rf.re (fun c hc => absurd hc (Nat.not_lt_zero c)))
end RC1
