/-! deps: 16c -/
/-! ===== the reference's calls: coder, set, of ===== -/
/-! 140 yX10_coder -/
theorem vc_140_0 (tt : Nat → Nat) (a0 : Nat) (a1 : Int32) (a2 : Int32) (a3 : Int32) (h : am_H) (Q : Int32 → am_H → Prop) (Qx : String → am_H → Prop) (q :
  (am_K h a0 = 11 ∧
  (∃ (Q2 : Int32 → am_H → Prop) (X2 : String → am_H → Prop), am_Ct tt 130 [.long (a1).toInt64, .long (Int64.ofNat 0), .long (Int64.ofNat 5)] (am_sI h 10 0 a0 (Int32.ofNat 0)) (am_pI Q2 X2) ∧ (∀ x3 h1, Q2 x3 h1 →
   ((x3 = (Int32.ofNat 0) →
    am_Ev tt 140 46 [none, none, none, none] [] h1 (am_pI Q Qx)) ∧
   (¬ (x3 = (Int32.ofNat 0)) →
    (∃ (Q5 : Int32 → am_H → Prop) (X5 : String → am_H → Prop), am_Ct tt 130 [.long (a2).toInt64, .long (Int64.ofNat 0), .long (Int64.ofNat 3)] h1 (am_pI Q5 X5) ∧ (∀ x6 h4, Q5 x6 h4 →
     ((x6 = (Int32.ofNat 0) →
      am_Ev tt 140 46 [none, none, none, none] [] h4 (am_pI Q Qx)) ∧
     (¬ (x6 = (Int32.ofNat 0)) →
      ((¬ a2 = (Int32.ofNat 1) →
       am_Ev tt 140 49 [some (.ref a0), some (.int a1), some (.int a2), some (.int a3)] [] h4 (am_pI Q Qx)) ∧
      (¬ (¬ a2 = (Int32.ofNat 1)) →
       (∃ (Q8 : Int32 → am_H → Prop) (X8 : String → am_H → Prop), am_Ct tt 130 [.long (a3).toInt64, .long (Int64.ofNat 1), .long (Int64.ofNat 256)] h4 (am_pI Q8 X8) ∧ (∀ x9 h7, Q8 x9 h7 →
        ((¬ x9 = (Int32.ofNat 0) →
         am_Ev tt 140 49 [some (.ref a0), some (.int a1), some (.int a2), some (.int a3)] [] h7 (am_pI Q Qx)) ∧
        (¬ (¬ x9 = (Int32.ofNat 0)) →
         am_Ev tt 140 46 [none, none, none, none] [] h7 (am_pI Q Qx)))) ∧ (∀ E10 h7, X8 E10 h7 → Qx E10 h7))))))) ∧ (∀ E11 h4, X5 E11 h4 → Qx E11 h4))))) ∧ (∀ E12 h1, X2 E12 h1 → Qx E12 h1)))) :
  am_Ev tt 140 0 [some (.ref a0), some (.int a1), some (.int a2), some (.int a3)] [] h (am_pI Q Qx) := am_vc 27 [(46, [false, false, false, false]), (49, [true, true, true, true]), (90, [true, true, true, true]), (115, [true, true, false, false])] q
theorem vc_140_46 (tt : Nat → Nat)  (h : am_H) (Q : Int32 → am_H → Prop) (Qx : String → am_H → Prop) (q :
  Q (-2 : Int32) h) :
  am_Ev tt 140 46 [none, none, none, none] [] h (am_pI Q Qx) := am_vc 4 [(46, [false, false, false, false]), (49, [true, true, true, true]), (90, [true, true, true, true]), (115, [true, true, false, false])] q
theorem vc_140_49 (tt : Nat → Nat) (a0 : Nat) (a1 : Int32) (a2 : Int32) (a3 : Int32) (h : am_H) (Q : Int32 → am_H → Prop) (Qx : String → am_H → Prop) (q :
  (am_K h a0 = 11 ∧ ∃ q1, am_R h 10 17 a0 = some q1 ∧
  ((am_K h q1 = 23 ∨ am_K h q1 = 24) ∧ vp_in a1 (am_N h q1) ∧
  (((am_A h q1 (a1).toNatClampNeg) = (Int32.ofNat 0) →
   (am_K h a0 = 11 ∧ ∃ q2, am_R h 10 14 a0 = some q2 ∧
   ((am_K h q2 = 21 ∨ am_K h q2 = 31) ∧ vp_in a1 (am_N h q2) ∧
   ((¬ (am_A h q2 (a1).toNatClampNeg) = (Int32.ofNat 3) →
    (am_K h a0 = 11 ∧ ∃ q3, am_R h 10 15 a0 = some q3 ∧
    (am_K h a0 = 11 ∧ ∃ q4, am_R h 10 14 a0 = some q4 ∧
    ((am_K h q4 = 21 ∨ am_K h q4 = 31) ∧ vp_in a1 (am_N h q4) ∧
    (am_K h q3 = 21 ∧ vp_in (((Int32.ofNat 3) * a1) + (am_A h q4 (a1).toNatClampNeg)) (am_N h q3) ∧
    am_Ev tt 140 90 [some (.ref a0), some (.int a1), some (.int a2), some (.int a3)] [] (am_sA h q3 ((((Int32.ofNat 3) * a1) + (am_A h q4 (a1).toNatClampNeg))).toNatClampNeg a2) (am_pI Q Qx)))))) ∧
   (¬ (¬ (am_A h q2 (a1).toNatClampNeg) = (Int32.ofNat 3)) →
    Q (-4 : Int32) h))))) ∧
  (¬ ((am_A h q1 (a1).toNatClampNeg) = (Int32.ofNat 0)) →
   Q (-3 : Int32) h))))) :
  am_Ev tt 140 49 [some (.ref a0), some (.int a1), some (.int a2), some (.int a3)] [] h (am_pI Q Qx) := am_vc 26 [(46, [false, false, false, false]), (49, [true, true, true, true]), (90, [true, true, true, true]), (115, [true, true, false, false])] q
theorem vc_140_90 (tt : Nat → Nat) (a0 : Nat) (a1 : Int32) (a2 : Int32) (a3 : Int32) (h : am_H) (Q : Int32 → am_H → Prop) (Qx : String → am_H → Prop) (q :
  (am_K h a0 = 11 ∧ ∃ q1, am_R h 10 16 a0 = some q1 ∧
  (am_K h a0 = 11 ∧ ∃ q2, am_R h 10 14 a0 = some q2 ∧
  ((am_K h q2 = 21 ∨ am_K h q2 = 31) ∧ vp_in a1 (am_N h q2) ∧
  ((¬ a2 = (Int32.ofNat 1) →
   (am_K h q1 = 21 ∧ vp_in (((Int32.ofNat 3) * a1) + (am_A h q2 (a1).toNatClampNeg)) (am_N h q1) ∧
   am_Ev tt 140 115 [some (.ref a0), some (.int a1), none, none] [] (am_sA h q1 ((((Int32.ofNat 3) * a1) + (am_A h q2 (a1).toNatClampNeg))).toNatClampNeg (Int32.ofNat 0)) (am_pI Q Qx))) ∧
  (¬ (¬ a2 = (Int32.ofNat 1)) →
   (am_K h q1 = 21 ∧ vp_in (((Int32.ofNat 3) * a1) + (am_A h q2 (a1).toNatClampNeg)) (am_N h q1) ∧
   am_Ev tt 140 115 [some (.ref a0), some (.int a1), none, none] [] (am_sA h q1 ((((Int32.ofNat 3) * a1) + (am_A h q2 (a1).toNatClampNeg))).toNatClampNeg a3) (am_pI Q Qx)))))))) :
  am_Ev tt 140 90 [some (.ref a0), some (.int a1), some (.int a2), some (.int a3)] [] h (am_pI Q Qx) := am_vc 19 [(46, [false, false, false, false]), (49, [true, true, true, true]), (90, [true, true, true, true]), (115, [true, true, false, false])] q
theorem vc_140_115 (tt : Nat → Nat) (a0 : Nat) (a1 : Int32) (h : am_H) (Q : Int32 → am_H → Prop) (Qx : String → am_H → Prop) (q :
  (am_K h a0 = 11 ∧ ∃ q1, am_R h 10 14 a0 = some q1 ∧
  ((am_K h q1 = 21 ∨ am_K h q1 = 31) ∧ vp_in a1 (am_N h q1) ∧
  (am_K h q1 = 21 ∧ vp_in a1 (am_N h q1) ∧
  (am_K h a0 = 11 ∧ ∃ q2, am_R h 10 14 a0 = some q2 ∧
  ((am_K h q2 = 21 ∨ am_K h q2 = 31) ∧ vp_in a1 (am_N h q2) ∧
  Q (am_A (am_sA h q1 (a1).toNatClampNeg ((am_A h q1 (a1).toNatClampNeg) + (Int32.ofNat 1))) q2 (a1).toNatClampNeg) (am_sA h q1 (a1).toNatClampNeg ((am_A h q1 (a1).toNatClampNeg) + (Int32.ofNat 1))))))))) :
  am_Ev tt 140 115 [some (.ref a0), some (.int a1), none, none] [] h (am_pI Q Qx) := am_vc 15 [(46, [false, false, false, false]), (49, [true, true, true, true]), (90, [true, true, true, true]), (115, [true, true, false, false])] q

/-! 141 yX10_set -/
theorem vc_141_0 (tt : Nat → Nat) (a0 : Nat) (a1 : Int32) (a2 : Int32) (a3 : Int64) (h : am_H) (Q : Int32 → am_H → Prop) (Qx : String → am_H → Prop) (q :
  (am_K h a0 = 11 ∧
  (am_K h a0 = 11 ∧ ∃ (Q2 : Int32 → am_H → Prop) (X2 : String → am_H → Prop), am_Ct tt 134 [.ref a0, .int a1] (am_sI h 10 0 a0 (Int32.ofNat 0)) (am_pI Q2 X2) ∧ (∀ x3 h1, Q2 x3 h1 →
   ((x3 = (Int32.ofNat 0) →
    am_Ev tt 141 38 [none, none, none, none, none] [] h1 (am_pI Q Qx)) ∧
   (¬ (x3 = (Int32.ofNat 0)) →
    (∃ (Q5 : Int32 → am_H → Prop) (X5 : String → am_H → Prop), am_Ct tt 130 [.long (a2).toInt64, .long (Int64.ofNat 0), .long (Int64.ofNat 4)] h1 (am_pI Q5 X5) ∧ (∀ x6 h4, Q5 x6 h4 →
     ((x6 = (Int32.ofNat 0) →
      am_Ev tt 141 38 [none, none, none, none, none] [] h4 (am_pI Q Qx)) ∧
     (¬ (x6 = (Int32.ofNat 0)) →
      ((¬ a2 = (Int32.ofNat 0) →
       am_Ev tt 141 41 [some (.ref a0), some (.int a1), some (.int a2), some (.long a3), none] [] h4 (am_pI Q Qx)) ∧
      (¬ (¬ a2 = (Int32.ofNat 0)) →
       (∃ (Q8 : Int32 → am_H → Prop) (X8 : String → am_H → Prop), am_Ct tt 130 [.long a3, .long (Int64.ofNat 0), .long (Int64.ofNat 1)] h4 (am_pI Q8 X8) ∧ (∀ x9 h7, Q8 x9 h7 →
        ((¬ x9 = (Int32.ofNat 0) →
         am_Ev tt 141 41 [some (.ref a0), some (.int a1), some (.int a2), some (.long a3), none] [] h7 (am_pI Q Qx)) ∧
        (¬ (¬ x9 = (Int32.ofNat 0)) →
         am_Ev tt 141 38 [none, none, none, none, none] [] h7 (am_pI Q Qx)))) ∧ (∀ E10 h7, X8 E10 h7 → Qx E10 h7))))))) ∧ (∀ E11 h4, X5 E11 h4 → Qx E11 h4))))) ∧ (∀ E12 h1, X2 E12 h1 → Qx E12 h1)))) :
  am_Ev tt 141 0 [some (.ref a0), some (.int a1), some (.int a2), some (.long a3), none] [] h (am_pI Q Qx) := am_vc 23 [(38, [false, false, false, false, false]), (41, [true, true, true, true, false]), (63, [true, true, true, true, false])] q
theorem vc_141_38 (tt : Nat → Nat)  (h : am_H) (Q : Int32 → am_H → Prop) (Qx : String → am_H → Prop) (q :
  Q (-2 : Int32) h) :
  am_Ev tt 141 38 [none, none, none, none, none] [] h (am_pI Q Qx) := am_vc 4 [(38, [false, false, false, false, false]), (41, [true, true, true, true, false]), (63, [true, true, true, true, false])] q
theorem vc_141_41 (tt : Nat → Nat) (a0 : Nat) (a1 : Int32) (a2 : Int32) (a3 : Int64) (h : am_H) (Q : Int32 → am_H → Prop) (Qx : String → am_H → Prop) (q :
  ((¬ a2 = (Int32.ofNat 0) →
   am_Ev tt 141 63 [some (.ref a0), some (.int a1), some (.int a2), some (.long a3), none] [] h (am_pI Q Qx)) ∧
  (¬ (¬ a2 = (Int32.ofNat 0)) →
   ((¬ (lg_cmp a3 (Int64.ofNat 1)) = (Int32.ofNat 0) →
    am_Ev tt 141 63 [some (.ref a0), some (.int a1), some (.int a2), some (.long a3), none] [] h (am_pI Q Qx)) ∧
   (¬ (¬ (lg_cmp a3 (Int64.ofNat 1)) = (Int32.ofNat 0)) →
    (am_K h a0 = 11 ∧ ∃ q1, am_R h 10 9 a0 = some q1 ∧
    ((am_K h q1 = 21 ∨ am_K h q1 = 31) ∧ vp_in a1 (am_N h q1) ∧
    (((am_A h q1 (a1).toNatClampNeg) ≤ (Int32.ofNat 0) →
     am_Ev tt 141 63 [some (.ref a0), some (.int a1), some (.int a2), some (.long a3), none] [] h (am_pI Q Qx)) ∧
    (¬ ((am_A h q1 (a1).toNatClampNeg) ≤ (Int32.ofNat 0)) →
     Q (-3 : Int32) h))))))))) :
  am_Ev tt 141 41 [some (.ref a0), some (.int a1), some (.int a2), some (.long a3), none] [] h (am_pI Q Qx) := am_vc 15 [(38, [false, false, false, false, false]), (41, [true, true, true, true, false]), (63, [true, true, true, true, false])] q
theorem vc_141_63 (tt : Nat → Nat) (a0 : Nat) (a1 : Int32) (a2 : Int32) (a3 : Int64) (h : am_H) (Q : Int32 → am_H → Prop) (Qx : String → am_H → Prop) (q :
  (((a2).toInt < 0 ∨ 3 < (a2).toInt →
   (am_K h a0 = 11 ∧ ∃ q1, am_R h 10 7 a0 = some q1 ∧
   (vp_in a1 (am_N h q1) ∧ ∃ w2, ((am_K h q1 = 23 ∧ w2 = ((Int32.ofNat 0)).toInt8.toInt32) ∨ (am_K h q1 = 24 ∧ w2 = ((Int32.ofNat 0) &&& 1))) ∧
   (am_K h a0 = 11 ∧ ∃ q3, am_R h 10 8 a0 = some q3 ∧
   (am_K h q3 = 21 ∧ vp_in a1 (am_N h q3) ∧
   Q (Int32.ofNat 1) (am_sA (am_sA h q1 (a1).toNatClampNeg w2) q3 (a1).toNatClampNeg (Int32.ofNat 0))))))) ∧
  ((a2).toInt = 0 →
   (am_K h a0 = 11 ∧ ∃ q4, am_R h 10 12 a0 = some q4 ∧
   ((¬ (lg_cmp a3 (Int64.ofNat 1)) = (Int32.ofNat 0) →
    (vp_in a1 (am_N h q4) ∧ ∃ w5, ((am_K h q4 = 23 ∧ w5 = ((Int32.ofNat 0)).toInt8.toInt32) ∨ (am_K h q4 = 24 ∧ w5 = ((Int32.ofNat 0) &&& 1))) ∧
    Q (Int32.ofNat 1) (am_sA h q4 (a1).toNatClampNeg w5))) ∧
   (¬ (¬ (lg_cmp a3 (Int64.ofNat 1)) = (Int32.ofNat 0)) →
    (vp_in a1 (am_N h q4) ∧ ∃ w6, ((am_K h q4 = 23 ∧ w6 = ((Int32.ofNat 1)).toInt8.toInt32) ∨ (am_K h q4 = 24 ∧ w6 = ((Int32.ofNat 1) &&& 1))) ∧
    Q (Int32.ofNat 1) (am_sA h q4 (a1).toNatClampNeg w6)))))) ∧
  ((a2).toInt = 1 →
   (am_K h a0 = 11 ∧ ∃ q7, am_R h 10 5 a0 = some q7 ∧
   (vp_in a1 (am_N h q7) ∧ ∃ w8, ((am_K h q7 = 23 ∧ w8 = ((Int32.ofNat 1)).toInt8.toInt32) ∨ (am_K h q7 = 24 ∧ w8 = ((Int32.ofNat 1) &&& 1))) ∧
   (am_K h a0 = 11 ∧ ∃ q9, am_R h 10 6 a0 = some q9 ∧
   (am_K h q9 = 22 ∧ vp_in a1 (am_N h q9) ∧
   Q (Int32.ofNat 1) (am_sB (am_sA h q7 (a1).toNatClampNeg w8) q9 (a1).toNatClampNeg a3)))))) ∧
  ((a2).toInt = 2 →
   (am_K h a0 = 11 ∧ ∃ q10, am_R h 10 5 a0 = some q10 ∧
   (vp_in a1 (am_N h q10) ∧ ∃ w11, ((am_K h q10 = 23 ∧ w11 = ((Int32.ofNat 0)).toInt8.toInt32) ∨ (am_K h q10 = 24 ∧ w11 = ((Int32.ofNat 0) &&& 1))) ∧
   (am_K h a0 = 11 ∧ ∃ q12, am_R h 10 6 a0 = some q12 ∧
   (am_K h q12 = 22 ∧ vp_in a1 (am_N h q12) ∧
   Q (Int32.ofNat 1) (am_sB (am_sA h q10 (a1).toNatClampNeg w11) q12 (a1).toNatClampNeg (Int64.ofNat 0))))))) ∧
  ((a2).toInt = 3 →
   (am_K h a0 = 11 ∧ ∃ q13, am_R h 10 7 a0 = some q13 ∧
   (vp_in a1 (am_N h q13) ∧ ∃ w14, ((am_K h q13 = 23 ∧ w14 = ((Int32.ofNat 1)).toInt8.toInt32) ∨ (am_K h q13 = 24 ∧ w14 = ((Int32.ofNat 1) &&& 1))) ∧
   (am_K h a0 = 11 ∧ ∃ q15, am_R h 10 8 a0 = some q15 ∧
   (am_K h q15 = 21 ∧ vp_in a1 (am_N h q15) ∧
   Q (Int32.ofNat 1) (am_sA (am_sA h q13 (a1).toNatClampNeg w14) q15 (a1).toNatClampNeg (a3).toInt32)))))) ∧
  True)) :
  am_Ev tt 141 63 [some (.ref a0), some (.int a1), some (.int a2), some (.long a3), none] [] h (am_pI Q Qx) := am_vc 18 [(38, [false, false, false, false, false]), (41, [true, true, true, true, false]), (63, [true, true, true, true, false])] q

section MD
variable {tt : Nat → Nat} {P : Nat → Prop} {h h' h'' : am_H} {m : Nat} {ad : Nat → Nat} {S : sS}
theorem ct_mcoder (q : RM P h m ad S) (wf : wfS S) {x k d : Int32} : am_Ct tt 140 [.ref m, .int x, .int k, .int d] h (am_pI (fun r h' => r = (f_coder S x k d).1 ∧ okM P h m ad (f_coder S x k d).2 h') no_x) := by
  have q0 := q.th (Int32.ofNat 0)
  have s := q.1
  refine vc_140_0 tt _ _ _ _ h _ _ ?_
  refine ⟨s.1, _, _, ct_inN (n := 6) (by omega) (Or.inr ⟨by omega, rfl⟩), fun r k' e => ?_, fun _ _ z => z⟩
  obtain ⟨ek, e⟩ := e
  subst k' e
  generalize am_sI h 10 0 m (Int32.ofNat 0) = h1 at q0 ⊢
  have q1 := q0.1
  have s1 := q1.1
  cases ex : ixo 6 x with
  | none =>
    have fE : f_coder S x k d = (-2, S) := by rw [f_coder, ex]
    rw [fE]
    exact ⟨fun _ => vc_140_46 tt _ _ _ ⟨rfl, q0⟩, fun w => absurd rfl w⟩
  | some i =>
    obtain ⟨hi, rfl⟩ := ixo_o ex
    have fE : f_coder S (Int32.ofNat i) k d = if k < Int32.ofNat 0 ∨ Int32.ofNat 3 < k ∨ (k = Int32.ofNat 1 ∧ (d < Int32.ofNat 1 ∨ Int32.ofNat 256 < d)) then (-2, S) else if b_kn (a_B S.1 i) = false then (-3, S)
    else if b_cn (a_B S.1 i) < 3 then (Int32.ofNat (b_cn (a_B S.1 i) + 1), put_B S i (true, b_cn (a_B S.1 i) + 1, va_up (b_ck (a_B S.1 i)) (b_cn (a_B S.1 i)) k, va_up (b_cd (a_B S.1 i)) (b_cn (a_B S.1 i)) (if k = Int32.ofNat 1 then d else Int32.ofNat 0))) else (-4, S) := by rw [f_coder, ex]
    rw [fE]
    have bad : (k < Int32.ofNat 0 ∨ Int32.ofNat 3 < k ∨ (k = Int32.ofNat 1 ∧ (d < Int32.ofNat 1 ∨ Int32.ofNat 256 < d))) → am_Ev tt 140 46 [none, none, none, none] [] h1 (am_pI (fun r h' => r = (if k < Int32.ofNat 0 ∨ Int32.ofNat 3 < k ∨ (k = Int32.ofNat 1 ∧ (d < Int32.ofNat 1 ∨ Int32.ofNat 256 < d)) then (-2, S) else if b_kn (a_B S.1 i) = false then (-3, S)
    else if b_cn (a_B S.1 i) < 3 then (Int32.ofNat (b_cn (a_B S.1 i) + 1), put_B S i (true, b_cn (a_B S.1 i) + 1, va_up (b_ck (a_B S.1 i)) (b_cn (a_B S.1 i)) k, va_up (b_cd (a_B S.1 i)) (b_cn (a_B S.1 i)) (if k = Int32.ofNat 1 then d else Int32.ofNat 0))) else (-4, S)).1 ∧ okM P h m ad (if k < Int32.ofNat 0 ∨ Int32.ofNat 3 < k ∨ (k = Int32.ofNat 1 ∧ (d < Int32.ofNat 1 ∨ Int32.ofNat 256 < d)) then (-2, S) else if b_kn (a_B S.1 i) = false then (-3, S)
    else if b_cn (a_B S.1 i) < 3 then (Int32.ofNat (b_cn (a_B S.1 i) + 1), put_B S i (true, b_cn (a_B S.1 i) + 1, va_up (b_ck (a_B S.1 i)) (b_cn (a_B S.1 i)) k, va_up (b_cd (a_B S.1 i)) (b_cn (a_B S.1 i)) (if k = Int32.ofNat 1 then d else Int32.ofNat 0))) else (-4, S)).2 h') no_x) := by
      intro z
      rw [if_pos z]
      exact vc_140_46 tt _ _ _ ⟨rfl, q0⟩
    have good : (¬ (k < Int32.ofNat 0 ∨ Int32.ofNat 3 < k ∨ (k = Int32.ofNat 1 ∧ (d < Int32.ofNat 1 ∨ Int32.ofNat 256 < d)))) → am_Ev tt 140 49 [some (.ref m), some (.int (Int32.ofNat i)), some (.int k), some (.int d)] [] h1 (am_pI (fun r h' => r = (if k < Int32.ofNat 0 ∨ Int32.ofNat 3 < k ∨ (k = Int32.ofNat 1 ∧ (d < Int32.ofNat 1 ∨ Int32.ofNat 256 < d)) then (-2, S) else if b_kn (a_B S.1 i) = false then (-3, S)
    else if b_cn (a_B S.1 i) < 3 then (Int32.ofNat (b_cn (a_B S.1 i) + 1), put_B S i (true, b_cn (a_B S.1 i) + 1, va_up (b_ck (a_B S.1 i)) (b_cn (a_B S.1 i)) k, va_up (b_cd (a_B S.1 i)) (b_cn (a_B S.1 i)) (if k = Int32.ofNat 1 then d else Int32.ofNat 0))) else (-4, S)).1 ∧ okM P h m ad (if k < Int32.ofNat 0 ∨ Int32.ofNat 3 < k ∨ (k = Int32.ofNat 1 ∧ (d < Int32.ofNat 1 ∨ Int32.ofNat 256 < d)) then (-2, S) else if b_kn (a_B S.1 i) = false then (-3, S)
    else if b_cn (a_B S.1 i) < 3 then (Int32.ofNat (b_cn (a_B S.1 i) + 1), put_B S i (true, b_cn (a_B S.1 i) + 1, va_up (b_ck (a_B S.1 i)) (b_cn (a_B S.1 i)) k, va_up (b_cd (a_B S.1 i)) (b_cn (a_B S.1 i)) (if k = Int32.ofNat 1 then d else Int32.ofNat 0))) else (-4, S)).2 h') no_x) := by
      intro z
      rw [if_neg z]
      obtain ⟨y1, y2, -⟩ := q1.2.2.2.1 i hi
      obtain ⟨w1, -⟩ := wf.1.2.2.1 i hi
      cases hk : b_kn (a_B S.1 i) with
      | false =>
        have y1' : am_A h1 (ad 17) i = Int32.ofNat 1 := by rw [y1, hk]; rfl
        refine vc_140_49 tt _ _ _ _ _ _ _ ?_
        simp (disch := omega) only [s1.1, md_f s1, y1', hi, am_hs, qi_lt, qi_le, qi_eq, qi_nn, qi_in, qi_add, qi_l, ql_i, ql_lt, ql_le, ql_eq, ql_add, qc_lt, qc_eq, qc_ge, qc_gt, qc_le, true_and, and_true, and_self, true_or, or_true, false_or, or_false, false_and, and_false, not_true_eq_false, not_false_eq_true, Classical.not_not, true_implies, false_implies, implies_true, exists_eq_left, exists_eq_left', Option.some.injEq, reduceIte, Nat.reduceEqDiff, Nat.reduceLT, Nat.reduceLeDiff, Nat.reduceAdd, Nat.reduceSub, Nat.reduceMul, eq_self, ne_eq, and_imp, forall_const, reduceCtorEq, am_w, List.map_cons, List.map_nil, List.sum_cons, List.sum_nil, Value.category, Nat.zero_le, Nat.le_refl]
        exact q0
      | true =>
        have y1' : am_A h1 (ad 17) i = Int32.ofNat 0 := by rw [y1, hk]; rfl
        obtain ⟨z1, z2⟩ := y2 hk
        have up : b_cn (a_B S.1 i) < 3 → ∀ dd, dd = (if k = Int32.ofNat 1 then d else Int32.ofNat 0) → okM P h m ad (put_B S i (true, b_cn (a_B S.1 i) + 1, va_up (b_ck (a_B S.1 i)) (b_cn (a_B S.1 i)) k, va_up (b_cd (a_B S.1 i)) (b_cn (a_B S.1 i)) (if k = Int32.ofNat 1 then d else Int32.ofNat 0))) (am_sA (am_sA (am_sA h1 (ad 15) (3 * i + b_cn (a_B S.1 i)) k) (ad 16) (3 * i + b_cn (a_B S.1 i)) dd) (ad 14) i (Int32.ofNat (b_cn (a_B S.1 i) + 1))) := by
          intro c3 dd ed
          refine q0.tr ?_
          refine q1.upB wf (i := i) ((mfr.sA.tr mfr.sA).tr mfr.sA) (fun f _ => rfl) (fun k j z => ?_) (fun j => rfl) ?_ hk.symm
          · simp only [am_hs, md_i s1]
            rw [if_neg (by omega), if_neg (by omega), if_neg (by omega)]
          · refine ⟨?_, fun _ => ⟨?_, fun j hj => ?_⟩, fun z => absurd (show (true : Bool) = false from z) (by decide)⟩
            · simp only [am_hs, md_i s1, true_and, and_true, and_self, true_or, or_true, false_or, or_false, false_and, and_false, not_true_eq_false, not_false_eq_true, Classical.not_not, true_implies, false_implies, implies_true, exists_eq_left, exists_eq_left', Option.some.injEq, reduceIte, Nat.reduceEqDiff, Nat.reduceLT, Nat.reduceLeDiff, Nat.reduceAdd, Nat.reduceSub, Nat.reduceMul, eq_self, ne_eq, and_imp, forall_const, reduceCtorEq, am_w, List.map_cons, List.map_nil, List.sum_cons, List.sum_nil, Value.category, Nat.zero_le, Nat.le_refl]; exact y1'
            · simp only [am_hs, md_i s1, true_and, and_true, and_self, true_or, or_true, false_or, or_false, false_and, and_false, not_true_eq_false, not_false_eq_true, Classical.not_not, true_implies, false_implies, implies_true, exists_eq_left, exists_eq_left', Option.some.injEq, reduceIte, Nat.reduceEqDiff, Nat.reduceLT, Nat.reduceLeDiff, Nat.reduceAdd, Nat.reduceSub, Nat.reduceMul, eq_self, ne_eq, and_imp, forall_const, reduceCtorEq, am_w, List.map_cons, List.map_nil, List.sum_cons, List.sum_nil, Value.category, Nat.zero_le, Nat.le_refl]; rfl
            · have hj' : j < b_cn (a_B S.1 i) + 1 := hj
              simp only [am_hs, md_i s1, true_and, and_true, and_self, true_or, or_true, false_or, or_false, false_and, and_false, not_true_eq_false, not_false_eq_true, Classical.not_not, true_implies, false_implies, implies_true, exists_eq_left, exists_eq_left', Option.some.injEq, reduceIte, Nat.reduceEqDiff, Nat.reduceLT, Nat.reduceLeDiff, Nat.reduceAdd, Nat.reduceSub, Nat.reduceMul, eq_self, ne_eq, and_imp, forall_const, reduceCtorEq, am_w, List.map_cons, List.map_nil, List.sum_cons, List.sum_nil, Value.category, Nat.zero_le, Nat.le_refl]
              show _ = va_up (b_ck (a_B S.1 i)) (b_cn (a_B S.1 i)) k j ∧ _ = va_up (b_cd (a_B S.1 i)) (b_cn (a_B S.1 i)) (if k = Int32.ofNat 1 then d else Int32.ofNat 0) j
              unfold va_up
              by_cases e : j = b_cn (a_B S.1 i)
              · subst e
                simp only [true_and, and_true, and_self, true_or, or_true, false_or, or_false, false_and, and_false, not_true_eq_false, not_false_eq_true, Classical.not_not, true_implies, false_implies, implies_true, exists_eq_left, exists_eq_left', Option.some.injEq, reduceIte, Nat.reduceEqDiff, Nat.reduceLT, Nat.reduceLeDiff, Nat.reduceAdd, Nat.reduceSub, Nat.reduceMul, eq_self, ne_eq, and_imp, forall_const, reduceCtorEq, am_w, List.map_cons, List.map_nil, List.sum_cons, List.sum_nil, Value.category, Nat.zero_le, Nat.le_refl]
                exact ed
              · have e2 : ¬ 3 * i + j = 3 * i + b_cn (a_B S.1 i) := by omega
                simp only [e, e2, true_and, and_true, and_self, true_or, or_true, false_or, or_false, false_and, and_false, not_true_eq_false, not_false_eq_true, Classical.not_not, true_implies, false_implies, implies_true, exists_eq_left, exists_eq_left', Option.some.injEq, reduceIte, Nat.reduceEqDiff, Nat.reduceLT, Nat.reduceLeDiff, Nat.reduceAdd, Nat.reduceSub, Nat.reduceMul, eq_self, ne_eq, and_imp, forall_const, reduceCtorEq, am_w, List.map_cons, List.map_nil, List.sum_cons, List.sum_nil, Value.category, Nat.zero_le, Nat.le_refl]
                exact z2 j (by omega)
        by_cases c3 : b_cn (a_B S.1 i) = 3
        · refine vc_140_49 tt _ _ _ _ _ _ _ ?_
          simp (disch := omega) only [s1.1, md_f s1, y1', z1, c3, hi, am_hs, qi_lt, qi_le, qi_eq, qi_nn, qi_in, qi_add, qi_l, ql_i, ql_lt, ql_le, ql_eq, ql_add, qc_lt, qc_eq, qc_ge, qc_gt, qc_le, true_and, and_true, and_self, true_or, or_true, false_or, or_false, false_and, and_false, not_true_eq_false, not_false_eq_true, Classical.not_not, true_implies, false_implies, implies_true, exists_eq_left, exists_eq_left', Option.some.injEq, reduceIte, Nat.reduceEqDiff, Nat.reduceLT, Nat.reduceLeDiff, Nat.reduceAdd, Nat.reduceSub, Nat.reduceMul, eq_self, ne_eq, and_imp, forall_const, reduceCtorEq, am_w, List.map_cons, List.map_nil, List.sum_cons, List.sum_nil, Value.category, Nat.zero_le, Nat.le_refl]
          exact q0
        · have l3 : b_cn (a_B S.1 i) < 3 := by omega
          have l1 : 3 * i + b_cn (a_B S.1 i) < 18 := by omega
          refine vc_140_49 tt _ _ _ _ _ _ _ ?_
          simp (disch := omega) only [s1.1, md_f s1, y1', z1, c3, l3, l1, qi_mul, hi, am_hs, qi_lt, qi_le, qi_eq, qi_nn, qi_in, qi_add, qi_l, ql_i, ql_lt, ql_le, ql_eq, ql_add, qc_lt, qc_eq, qc_ge, qc_gt, qc_le, true_and, and_true, and_self, true_or, or_true, false_or, or_false, false_and, and_false, not_true_eq_false, not_false_eq_true, Classical.not_not, true_implies, false_implies, implies_true, exists_eq_left, exists_eq_left', Option.some.injEq, reduceIte, Nat.reduceEqDiff, Nat.reduceLT, Nat.reduceLeDiff, Nat.reduceAdd, Nat.reduceSub, Nat.reduceMul, eq_self, ne_eq, and_imp, forall_const, reduceCtorEq, am_w, List.map_cons, List.map_nil, List.sum_cons, List.sum_nil, Value.category, Nat.zero_le, Nat.le_refl]
          refine vc_140_90 tt _ _ _ _ _ _ _ ?_
          have e14 : am_A (am_sA h1 (ad 15) (3 * i + b_cn (a_B S.1 i)) k) (ad 14) i = Int32.ofNat (b_cn (a_B S.1 i)) := by
            simp only [am_hs, md_i s1, true_and, and_true, and_self, true_or, or_true, false_or, or_false, false_and, and_false, not_true_eq_false, not_false_eq_true, Classical.not_not, true_implies, false_implies, implies_true, exists_eq_left, exists_eq_left', Option.some.injEq, reduceIte, Nat.reduceEqDiff, Nat.reduceLT, Nat.reduceLeDiff, Nat.reduceAdd, Nat.reduceSub, Nat.reduceMul, eq_self, ne_eq, and_imp, forall_const, reduceCtorEq, am_w, List.map_cons, List.map_nil, List.sum_cons, List.sum_nil, Value.category, Nat.zero_le, Nat.le_refl]; exact z1
          have s2 : md_s (am_sA h1 (ad 15) (3 * i + b_cn (a_B S.1 i)) k) m ad := md_t s1 rfl rfl rfl
          simp (disch := omega) only [s1.1, md_f s1, md_i s1, z1, l1, qi_mul, hi, am_hs, qi_lt, qi_le, qi_eq, qi_nn, qi_in, qi_add, qi_l, ql_i, ql_lt, ql_le, ql_eq, ql_add, qc_lt, qc_eq, qc_ge, qc_gt, qc_le, true_and, and_true, and_self, true_or, or_true, false_or, or_false, false_and, and_false, not_true_eq_false, not_false_eq_true, Classical.not_not, true_implies, false_implies, implies_true, exists_eq_left, exists_eq_left', Option.some.injEq, reduceIte, Nat.reduceEqDiff, Nat.reduceLT, Nat.reduceLeDiff, Nat.reduceAdd, Nat.reduceSub, Nat.reduceMul, eq_self, ne_eq, and_imp, forall_const, reduceCtorEq, am_w, List.map_cons, List.map_nil, List.sum_cons, List.sum_nil, Value.category, Nat.zero_le, Nat.le_refl]
          have fin : ∀ dd, dd = (if k = Int32.ofNat 1 then d else Int32.ofNat 0) → ∀ Q : Int32 → am_H → Prop, (∀ k', k' = am_sA (am_sA (am_sA h1 (ad 15) (3 * i + b_cn (a_B S.1 i)) k) (ad 16) (3 * i + b_cn (a_B S.1 i)) dd) (ad 14) i (Int32.ofNat (b_cn (a_B S.1 i) + 1)) → Q (Int32.ofNat (b_cn (a_B S.1 i) + 1)) k') → am_Ev tt 140 115 [some (.ref m), some (.int (Int32.ofNat i)), none, none] [] (am_sA (am_sA h1 (ad 15) (3 * i + b_cn (a_B S.1 i)) k) (ad 16) (3 * i + b_cn (a_B S.1 i)) dd) (am_pI Q no_x) := by
            intro dd ed Q hQ
            refine vc_140_115 tt _ _ _ _ _ ?_
            simp (disch := omega) only [s1.1, md_f s1, md_i s1, z1, hi, am_hs, qi_lt, qi_le, qi_eq, qi_nn, qi_in, qi_add, qi_l, ql_i, ql_lt, ql_le, ql_eq, ql_add, qc_lt, qc_eq, qc_ge, qc_gt, qc_le, true_and, and_true, and_self, true_or, or_true, false_or, or_false, false_and, and_false, not_true_eq_false, not_false_eq_true, Classical.not_not, true_implies, false_implies, implies_true, exists_eq_left, exists_eq_left', Option.some.injEq, reduceIte, Nat.reduceEqDiff, Nat.reduceLT, Nat.reduceLeDiff, Nat.reduceAdd, Nat.reduceSub, Nat.reduceMul, eq_self, ne_eq, and_imp, forall_const, reduceCtorEq, am_w, List.map_cons, List.map_nil, List.sum_cons, List.sum_nil, Value.category, Nat.zero_le, Nat.le_refl]
            exact hQ _ rfl
          refine ⟨fun w2 => ?_, fun w2 => ?_⟩
          · refine fin _ (by rw [if_neg w2]) _ (fun k' e => ?_)
            subst e
            exact ⟨rfl, up l3 _ (by rw [if_neg w2])⟩
          · refine fin _ (by rw [if_pos w2]) _ (fun k' e => ?_)
            subst e
            exact ⟨rfl, up l3 _ (by rw [if_pos w2])⟩
    refine ⟨fun w => absurd w (by simp [b01]), fun _ => ⟨_, _, ct_in, fun r k' e => ?_, fun _ _ z => z⟩⟩
    obtain ⟨ek, e⟩ := e
    subst k' e
    simp (disch := omega) only [in_lu]
    by_cases c : ¬ k < Int32.ofNat 0 ∧ ¬ Int32.ofNat 3 < k
    · rw [if_pos c]
      refine ⟨fun w => absurd w (by decide), fun _ => ⟨fun w => good (fun z => ?_), fun w => ⟨_, _, ct_in, fun r k' e => ?_, fun _ _ z => z⟩⟩⟩
      · rcases z with z | z | z
        · exact c.1 z
        · exact c.2 z
        · exact w z.1
      · obtain ⟨ek, e⟩ := e
        subst k' e
        have w : k = Int32.ofNat 1 := Classical.not_not.1 w
        simp (disch := omega) only [in_lu]
        by_cases c2 : ¬ d < Int32.ofNat 1 ∧ ¬ Int32.ofNat 256 < d
        · rw [if_pos c2]
          refine ⟨fun _ => good (fun z => ?_), fun w => absurd (show ¬ Int32.ofNat 1 = Int32.ofNat 0 by decide) w⟩
          rcases z with z | z | z
          · exact c.1 z
          · exact c.2 z
          · exact z.2.elim c2.1 c2.2
        · rw [if_neg c2]
          refine ⟨fun w => absurd rfl w, fun _ => bad (Or.inr (Or.inr ⟨w, ?_⟩))⟩
          rcases Classical.not_and_iff_not_or_not.1 c2 with c | c
          · exact Or.inl (Classical.not_not.1 c)
          · exact Or.inr (Classical.not_not.1 c)
    · rw [if_neg c]
      refine ⟨fun _ => bad ?_, fun w => absurd rfl w⟩
      rcases Classical.not_and_iff_not_or_not.1 c with c | c
      · exact Or.inl (Classical.not_not.1 c)
      · exact Or.inr (Or.inl (Classical.not_not.1 c))
theorem in_01 {v : Int64} : (Int64.ofNat 0 ≤ v ∧ v ≤ Int64.ofNat 1) = (v = Int64.ofNat 0 ∨ v = Int64.ofNat 1) := by
  rw [Int64.le_iff_toInt_le, Int64.le_iff_toInt_le, ← Int64.toInt_inj, ← Int64.toInt_inj, show (Int64.ofNat 0).toInt = 0 from rfl, show (Int64.ofNat 1).toInt = 1 from rfl]
  exact propext (by omega)
theorem ct_mset (q : RM P h m ad S) (wf : wfS S) {x y : Int32} {v : Int64} : am_Ct tt 141 [.ref m, .int x, .int y, .long v] h (am_pI (fun r h' => r = (f_set S x y v).1 ∧ okM P h m ad (f_set S x y v).2 h') no_x) := by
  have q0 := q.th (Int32.ofNat 0)
  have s := q.1
  have n24 := wf.1.1
  refine vc_141_0 tt _ _ _ _ h _ _ ?_
  refine ⟨s.1, s.1, _, _, ct_isEntry (n := a_n S.1) s.1 q0.1.2.1 (by omega), fun r k e => ?_, fun _ _ z => z⟩
  obtain ⟨ek, e⟩ := e
  subst k e
  generalize am_sI h 10 0 m (Int32.ofNat 0) = h1 at q0 ⊢
  have q1 := q0.1
  have s1 := q1.1
  cases ex : ixo (a_n S.1) x with
  | none =>
    have fE : f_set S x y v = (-2, S) := by rw [f_set, ex]
    rw [fE]
    exact ⟨fun _ => vc_141_38 tt _ _ _ ⟨rfl, q0⟩, fun w => absurd rfl w⟩
  | some i =>
    obtain ⟨hi, rfl⟩ := ixo_o ex
    obtain ⟨y1, y2, y3, y4, y5, y6, y7, y8, y9, y10, y11, y12⟩ := q1.2.2.1 i hi
    obtain ⟨g1, g2, g3, g4⟩ := wf.1.2.1 i hi
    have i24 : i < 24 := by omega
    have n1z : ¬ b01 true = Int32.ofNat 0 := by decide
    have n1 : ¬ Int32.ofNat 1 = Int32.ofNat 0 := by decide
    refine ⟨fun w => absurd w n1z, fun _ => ⟨_, _, ct_inN (n := 5) (by omega) (Or.inr ⟨by omega, rfl⟩), fun r k e => ?_, fun _ _ z => z⟩⟩
    obtain ⟨ek, e⟩ := e
    subst k e
    cases ey : ixo 5 y with
    | none =>
      have fE : f_set S (Int32.ofNat i) y v = (-2, S) := by rw [f_set, ex, ey]
      rw [fE]
      exact ⟨fun _ => vc_141_38 tt _ _ _ ⟨rfl, q0⟩, fun w => absurd rfl w⟩
    | some b =>
      obtain ⟨hb, rfl⟩ := ixo_o ey
      refine ⟨fun w => absurd w n1z, fun _ => ?_⟩
      have c5 : b = 0 ∨ b = 1 ∨ b = 2 ∨ b = 3 ∨ b = 4 := by omega
      rcases c5 with rfl | rfl | rfl | rfl | rfl
      · have fE : f_set S (Int32.ofNat i) (Int32.ofNat 0) v = if v = Int64.ofNat 0 then (Int32.ofNat 1, put_E S i (e_setA (a_E S.1 i) false)) else if v = Int64.ofNat 1 then (if 0 < e_sz (a_E S.1 i) then (-3, S) else (Int32.ofNat 1, put_E S i (e_setA (a_E S.1 i) true))) else (-2, S) := by rw [f_set, ex, ey]; try rfl
        rw [fE]
        refine ⟨fun w => absurd rfl w, fun _ => ⟨_, _, ct_in, fun r k e => ?_, fun _ _ z => z⟩⟩
        obtain ⟨ek, e⟩ := e
        subst k e
        simp only [in_01]
        have up : ∀ b, okM P h m ad (put_E S i (e_setA (a_E S.1 i) b)) (am_sA h1 (ad 12) i (b01 b)) := by
          intro b
          refine q0.tr (q1.upE wf (i := i) mfr.sA (fun f _ => rfl) (fun k j z => ?_) (fun j _ => rfl) ?_)
          · simp only [am_hs, md_i s1]
            unfold tch at z
            rw [if_neg (by omega)]
          · refine ⟨?_, ?_, ?_, ?_, ?_, ?_, ?_, ?_, ?_, ?_, ?_, ?_⟩ <;> (try simp only [am_hs, md_i s1, true_and, and_true, and_self, true_or, or_true, false_or, or_false, false_and, and_false, not_true_eq_false, not_false_eq_true, Classical.not_not, true_implies, false_implies, implies_true, exists_eq_left, exists_eq_left', Option.some.injEq, reduceIte, Nat.reduceEqDiff, Nat.reduceLT, Nat.reduceLeDiff, Nat.reduceAdd, Nat.reduceSub, Nat.reduceMul, eq_self, ne_eq, and_imp, forall_const, reduceCtorEq, am_w, List.map_cons, List.map_nil, List.sum_cons, List.sum_nil, Value.category, Nat.zero_le, Nat.le_refl]) <;> first | exact y1 | exact y2 | exact y3 | exact y4 | exact y5 | exact y6 | exact y7 | exact y8 | exact y9 | exact y10 | exact y11 | exact y12 | rfl
        by_cases c0 : v = Int64.ofNat 0
        · rw [if_pos (Or.inl c0)]
          refine ⟨fun _ => ?_, fun w => absurd n1 w⟩
          rw [if_pos c0]
          subst c0
          have ne : ¬ Int64.ofNat 0 = Int64.ofNat 1 := by decide
          refine vc_141_41 tt _ _ _ _ _ _ _ ?_
          simp (disch := omega) only [ne, qi_lt, qi_le, qi_eq, qi_nn, qi_in, qi_add, qi_l, ql_i, ql_lt, ql_le, ql_eq, ql_add, qc_lt, qc_eq, qc_ge, qc_gt, qc_le, true_and, and_true, and_self, true_or, or_true, false_or, or_false, false_and, and_false, not_true_eq_false, not_false_eq_true, Classical.not_not, true_implies, false_implies, implies_true, exists_eq_left, exists_eq_left', Option.some.injEq, reduceIte, Nat.reduceEqDiff, Nat.reduceLT, Nat.reduceLeDiff, Nat.reduceAdd, Nat.reduceSub, Nat.reduceMul, eq_self, ne_eq, and_imp, forall_const, reduceCtorEq, am_w, List.map_cons, List.map_nil, List.sum_cons, List.sum_nil, Value.category, Nat.zero_le, Nat.le_refl]
          refine vc_141_63 tt _ _ _ _ _ _ _ ?_
          simp (disch := omega) only [qi_ti, s1.1, md_f s1, md_i s1, i24, z_1, o_1, ne, am_hs, qi_lt, qi_le, qi_eq, qi_nn, qi_in, qi_add, qi_l, ql_i, ql_lt, ql_le, ql_eq, ql_add, qc_lt, qc_eq, qc_ge, qc_gt, qc_le, true_and, and_true, and_self, true_or, or_true, false_or, or_false, false_and, and_false, not_true_eq_false, not_false_eq_true, Classical.not_not, true_implies, false_implies, implies_true, exists_eq_left, exists_eq_left', Option.some.injEq, reduceIte, Nat.reduceEqDiff, Nat.reduceLT, Nat.reduceLeDiff, Nat.reduceAdd, Nat.reduceSub, Nat.reduceMul, eq_self, ne_eq, and_imp, forall_const, reduceCtorEq, am_w, List.map_cons, List.map_nil, List.sum_cons, List.sum_nil, Value.category, Nat.zero_le, Nat.le_refl]
          exact ⟨by omega, fun _ => up false, by omega, by omega, by omega⟩
        · by_cases c1 : v = Int64.ofNat 1
          · rw [if_pos (Or.inr c1)]
            refine ⟨fun _ => ?_, fun w => absurd n1 w⟩
            rw [if_neg c0, if_pos c1]
            subst c1
            refine vc_141_41 tt _ _ _ _ _ _ _ ?_
            simp (disch := omega) only [s1.1, md_f s1, y4, i24, am_hs, qi_lt, qi_le, qi_eq, qi_nn, qi_in, qi_add, qi_l, ql_i, ql_lt, ql_le, ql_eq, ql_add, qc_lt, qc_eq, qc_ge, qc_gt, qc_le, true_and, and_true, and_self, true_or, or_true, false_or, or_false, false_and, and_false, not_true_eq_false, not_false_eq_true, Classical.not_not, true_implies, false_implies, implies_true, exists_eq_left, exists_eq_left', Option.some.injEq, reduceIte, Nat.reduceEqDiff, Nat.reduceLT, Nat.reduceLeDiff, Nat.reduceAdd, Nat.reduceSub, Nat.reduceMul, eq_self, ne_eq, and_imp, forall_const, reduceCtorEq, am_w, List.map_cons, List.map_nil, List.sum_cons, List.sum_nil, Value.category, Nat.zero_le, Nat.le_refl]
            refine ⟨fun w => ?_, fun w => by rw [if_pos (by omega)]; exact ⟨rfl, q0⟩⟩
            rw [if_neg (by omega)]
            refine vc_141_63 tt _ _ _ _ _ _ _ ?_
            simp (disch := omega) only [qi_ti, s1.1, md_f s1, md_i s1, i24, z_1, o_1, am_hs, qi_lt, qi_le, qi_eq, qi_nn, qi_in, qi_add, qi_l, ql_i, ql_lt, ql_le, ql_eq, ql_add, qc_lt, qc_eq, qc_ge, qc_gt, qc_le, true_and, and_true, and_self, true_or, or_true, false_or, or_false, false_and, and_false, not_true_eq_false, not_false_eq_true, Classical.not_not, true_implies, false_implies, implies_true, exists_eq_left, exists_eq_left', Option.some.injEq, reduceIte, Nat.reduceEqDiff, Nat.reduceLT, Nat.reduceLeDiff, Nat.reduceAdd, Nat.reduceSub, Nat.reduceMul, eq_self, ne_eq, and_imp, forall_const, reduceCtorEq, am_w, List.map_cons, List.map_nil, List.sum_cons, List.sum_nil, Value.category, Nat.zero_le, Nat.le_refl]
            exact ⟨by omega, fun _ => up true, by omega, by omega, by omega⟩
          · rw [if_neg (fun z => z.elim c0 c1)]
            refine ⟨fun w => absurd rfl w, fun _ => vc_141_38 tt _ _ _ ?_⟩
            rw [if_neg c0, if_neg c1]
            exact ⟨rfl, q0⟩
      · have fE : f_set S (Int32.ofNat i) (Int32.ofNat 1) v = (Int32.ofNat 1, put_E S i (e_setT (a_E S.1 i) (some v))) := by rw [f_set, ex, ey]; try rfl
        rw [fE]
        refine ⟨fun _ => ?_, fun w => absurd n1 w⟩
        refine vc_141_41 tt _ _ _ _ _ _ _ ?_
        simp (disch := omega) only [n1, qi_lt, qi_le, qi_eq, qi_nn, qi_in, qi_add, qi_l, ql_i, ql_lt, ql_le, ql_eq, ql_add, qc_lt, qc_eq, qc_ge, qc_gt, qc_le, true_and, and_true, and_self, true_or, or_true, false_or, or_false, false_and, and_false, not_true_eq_false, not_false_eq_true, Classical.not_not, true_implies, false_implies, implies_true, exists_eq_left, exists_eq_left', Option.some.injEq, reduceIte, Nat.reduceEqDiff, Nat.reduceLT, Nat.reduceLeDiff, Nat.reduceAdd, Nat.reduceSub, Nat.reduceMul, eq_self, ne_eq, and_imp, forall_const, reduceCtorEq, am_w, List.map_cons, List.map_nil, List.sum_cons, List.sum_nil, Value.category, Nat.zero_le, Nat.le_refl]
        refine vc_141_63 tt _ _ _ _ _ _ _ ?_
        simp (disch := omega) only [qi_ti, s1.1, md_f s1, md_i s1, i24, z_1, o_1, am_hs, qi_lt, qi_le, qi_eq, qi_nn, qi_in, qi_add, qi_l, ql_i, ql_lt, ql_le, ql_eq, ql_add, qc_lt, qc_eq, qc_ge, qc_gt, qc_le, true_and, and_true, and_self, true_or, or_true, false_or, or_false, false_and, and_false, not_true_eq_false, not_false_eq_true, Classical.not_not, true_implies, false_implies, implies_true, exists_eq_left, exists_eq_left', Option.some.injEq, reduceIte, Nat.reduceEqDiff, Nat.reduceLT, Nat.reduceLeDiff, Nat.reduceAdd, Nat.reduceSub, Nat.reduceMul, eq_self, ne_eq, and_imp, forall_const, reduceCtorEq, am_w, List.map_cons, List.map_nil, List.sum_cons, List.sum_nil, Value.category, Nat.zero_le, Nat.le_refl]
        refine ⟨by omega, by omega, fun _ => ?_, by omega, by omega⟩
        refine q0.tr (q1.upE wf (i := i) (mfr.sA.tr mfr.sB) (fun f _ => rfl) (fun k j z => ?_) (fun j z => ?_) ?_)
        · simp only [am_hs, md_i s1]
          unfold tch at z
          rw [if_neg (by omega)]
        · simp only [am_hs, md_i s1]
          rw [if_neg (fun w => z w.2)]
        · refine ⟨?_, ?_, ?_, ?_, ?_, ?_, ?_, ?_, ?_, ?_, ?_, ?_⟩ <;> (try simp only [am_hs, md_i s1, true_and, and_true, and_self, true_or, or_true, false_or, or_false, false_and, and_false, not_true_eq_false, not_false_eq_true, Classical.not_not, true_implies, false_implies, implies_true, exists_eq_left, exists_eq_left', Option.some.injEq, reduceIte, Nat.reduceEqDiff, Nat.reduceLT, Nat.reduceLeDiff, Nat.reduceAdd, Nat.reduceSub, Nat.reduceMul, eq_self, ne_eq, and_imp, forall_const, reduceCtorEq, am_w, List.map_cons, List.map_nil, List.sum_cons, List.sum_nil, Value.category, Nat.zero_le, Nat.le_refl]) <;> first | exact y1 | exact y2 | exact y3 | exact y4 | exact y5 | exact y6 | exact y7 | exact y8 | exact y9 | exact y10 | exact y11 | exact y12 | rfl
      · have fE : f_set S (Int32.ofNat i) (Int32.ofNat 2) v = (Int32.ofNat 1, put_E S i (e_setT (a_E S.1 i) none)) := by rw [f_set, ex, ey]; try rfl
        rw [fE]
        refine ⟨fun _ => ?_, fun w => absurd (show ¬ Int32.ofNat 2 = Int32.ofNat 0 by decide) w⟩
        refine vc_141_41 tt _ _ _ _ _ _ _ ?_
        simp (disch := omega) only [n1, qi_lt, qi_le, qi_eq, qi_nn, qi_in, qi_add, qi_l, ql_i, ql_lt, ql_le, ql_eq, ql_add, qc_lt, qc_eq, qc_ge, qc_gt, qc_le, true_and, and_true, and_self, true_or, or_true, false_or, or_false, false_and, and_false, not_true_eq_false, not_false_eq_true, Classical.not_not, true_implies, false_implies, implies_true, exists_eq_left, exists_eq_left', Option.some.injEq, reduceIte, Nat.reduceEqDiff, Nat.reduceLT, Nat.reduceLeDiff, Nat.reduceAdd, Nat.reduceSub, Nat.reduceMul, eq_self, ne_eq, and_imp, forall_const, reduceCtorEq, am_w, List.map_cons, List.map_nil, List.sum_cons, List.sum_nil, Value.category, Nat.zero_le, Nat.le_refl]
        refine vc_141_63 tt _ _ _ _ _ _ _ ?_
        simp (disch := omega) only [qi_ti, s1.1, md_f s1, md_i s1, i24, z_1, o_1, am_hs, qi_lt, qi_le, qi_eq, qi_nn, qi_in, qi_add, qi_l, ql_i, ql_lt, ql_le, ql_eq, ql_add, qc_lt, qc_eq, qc_ge, qc_gt, qc_le, true_and, and_true, and_self, true_or, or_true, false_or, or_false, false_and, and_false, not_true_eq_false, not_false_eq_true, Classical.not_not, true_implies, false_implies, implies_true, exists_eq_left, exists_eq_left', Option.some.injEq, reduceIte, Nat.reduceEqDiff, Nat.reduceLT, Nat.reduceLeDiff, Nat.reduceAdd, Nat.reduceSub, Nat.reduceMul, eq_self, ne_eq, and_imp, forall_const, reduceCtorEq, am_w, List.map_cons, List.map_nil, List.sum_cons, List.sum_nil, Value.category, Nat.zero_le, Nat.le_refl]
        refine ⟨by omega, by omega, by omega, fun _ => ?_, by omega⟩
        refine q0.tr (q1.upE wf (i := i) (mfr.sA.tr mfr.sB) (fun f _ => rfl) (fun k j z => ?_) (fun j z => ?_) ?_)
        · simp only [am_hs, md_i s1]
          unfold tch at z
          rw [if_neg (by omega)]
        · simp only [am_hs, md_i s1]
          rw [if_neg (fun w => z w.2)]
        · refine ⟨?_, ?_, ?_, ?_, ?_, ?_, ?_, ?_, ?_, ?_, ?_, ?_⟩ <;> (try simp only [am_hs, md_i s1, true_and, and_true, and_self, true_or, or_true, false_or, or_false, false_and, and_false, not_true_eq_false, not_false_eq_true, Classical.not_not, true_implies, false_implies, implies_true, exists_eq_left, exists_eq_left', Option.some.injEq, reduceIte, Nat.reduceEqDiff, Nat.reduceLT, Nat.reduceLeDiff, Nat.reduceAdd, Nat.reduceSub, Nat.reduceMul, eq_self, ne_eq, and_imp, forall_const, reduceCtorEq, am_w, List.map_cons, List.map_nil, List.sum_cons, List.sum_nil, Value.category, Nat.zero_le, Nat.le_refl]) <;> first | exact y1 | exact y2 | exact y3 | exact y4 | exact y5 | exact y6 | exact y7 | exact y8 | exact y9 | exact y10 | exact y11 | exact y12 | rfl
      · have fE : f_set S (Int32.ofNat i) (Int32.ofNat 3) v = (Int32.ofNat 1, put_E S i (e_setV (a_E S.1 i) (some v.toInt32))) := by rw [f_set, ex, ey]; try rfl
        rw [fE]
        refine ⟨fun _ => ?_, fun w => absurd (show ¬ Int32.ofNat 3 = Int32.ofNat 0 by decide) w⟩
        refine vc_141_41 tt _ _ _ _ _ _ _ ?_
        simp (disch := omega) only [n1, qi_lt, qi_le, qi_eq, qi_nn, qi_in, qi_add, qi_l, ql_i, ql_lt, ql_le, ql_eq, ql_add, qc_lt, qc_eq, qc_ge, qc_gt, qc_le, true_and, and_true, and_self, true_or, or_true, false_or, or_false, false_and, and_false, not_true_eq_false, not_false_eq_true, Classical.not_not, true_implies, false_implies, implies_true, exists_eq_left, exists_eq_left', Option.some.injEq, reduceIte, Nat.reduceEqDiff, Nat.reduceLT, Nat.reduceLeDiff, Nat.reduceAdd, Nat.reduceSub, Nat.reduceMul, eq_self, ne_eq, and_imp, forall_const, reduceCtorEq, am_w, List.map_cons, List.map_nil, List.sum_cons, List.sum_nil, Value.category, Nat.zero_le, Nat.le_refl]
        refine vc_141_63 tt _ _ _ _ _ _ _ ?_
        simp (disch := omega) only [qi_ti, s1.1, md_f s1, md_i s1, i24, z_1, o_1, am_hs, qi_lt, qi_le, qi_eq, qi_nn, qi_in, qi_add, qi_l, ql_i, ql_lt, ql_le, ql_eq, ql_add, qc_lt, qc_eq, qc_ge, qc_gt, qc_le, true_and, and_true, and_self, true_or, or_true, false_or, or_false, false_and, and_false, not_true_eq_false, not_false_eq_true, Classical.not_not, true_implies, false_implies, implies_true, exists_eq_left, exists_eq_left', Option.some.injEq, reduceIte, Nat.reduceEqDiff, Nat.reduceLT, Nat.reduceLeDiff, Nat.reduceAdd, Nat.reduceSub, Nat.reduceMul, eq_self, ne_eq, and_imp, forall_const, reduceCtorEq, am_w, List.map_cons, List.map_nil, List.sum_cons, List.sum_nil, Value.category, Nat.zero_le, Nat.le_refl]
        refine ⟨by omega, by omega, by omega, by omega, fun _ => ?_⟩
        refine q0.tr (q1.upE wf (i := i) (mfr.sA.tr mfr.sA) (fun f _ => rfl) (fun k j z => ?_) (fun j z => rfl) ?_)
        · simp only [am_hs, md_i s1]
          unfold tch at z
          rw [if_neg (by omega), if_neg (by omega)]
        · refine ⟨?_, ?_, ?_, ?_, ?_, ?_, ?_, ?_, ?_, ?_, ?_, ?_⟩ <;> (try simp only [am_hs, md_i s1, true_and, and_true, and_self, true_or, or_true, false_or, or_false, false_and, and_false, not_true_eq_false, not_false_eq_true, Classical.not_not, true_implies, false_implies, implies_true, exists_eq_left, exists_eq_left', Option.some.injEq, reduceIte, Nat.reduceEqDiff, Nat.reduceLT, Nat.reduceLeDiff, Nat.reduceAdd, Nat.reduceSub, Nat.reduceMul, eq_self, ne_eq, and_imp, forall_const, reduceCtorEq, am_w, List.map_cons, List.map_nil, List.sum_cons, List.sum_nil, Value.category, Nat.zero_le, Nat.le_refl]) <;> first | exact y1 | exact y2 | exact y3 | exact y4 | exact y5 | exact y6 | exact y7 | exact y8 | exact y9 | exact y10 | exact y11 | exact y12 | rfl
      · have fE : f_set S (Int32.ofNat i) (Int32.ofNat 4) v = (Int32.ofNat 1, put_E S i (e_setV (a_E S.1 i) none)) := by rw [f_set, ex, ey]; try rfl
        rw [fE]
        refine ⟨fun _ => ?_, fun w => absurd (show ¬ Int32.ofNat 4 = Int32.ofNat 0 by decide) w⟩
        refine vc_141_41 tt _ _ _ _ _ _ _ ?_
        simp (disch := omega) only [n1, qi_lt, qi_le, qi_eq, qi_nn, qi_in, qi_add, qi_l, ql_i, ql_lt, ql_le, ql_eq, ql_add, qc_lt, qc_eq, qc_ge, qc_gt, qc_le, true_and, and_true, and_self, true_or, or_true, false_or, or_false, false_and, and_false, not_true_eq_false, not_false_eq_true, Classical.not_not, true_implies, false_implies, implies_true, exists_eq_left, exists_eq_left', Option.some.injEq, reduceIte, Nat.reduceEqDiff, Nat.reduceLT, Nat.reduceLeDiff, Nat.reduceAdd, Nat.reduceSub, Nat.reduceMul, eq_self, ne_eq, and_imp, forall_const, reduceCtorEq, am_w, List.map_cons, List.map_nil, List.sum_cons, List.sum_nil, Value.category, Nat.zero_le, Nat.le_refl]
        refine vc_141_63 tt _ _ _ _ _ _ _ ?_
        simp (disch := omega) only [qi_ti, s1.1, md_f s1, md_i s1, i24, z_1, o_1, am_hs, qi_lt, qi_le, qi_eq, qi_nn, qi_in, qi_add, qi_l, ql_i, ql_lt, ql_le, ql_eq, ql_add, qc_lt, qc_eq, qc_ge, qc_gt, qc_le, true_and, and_true, and_self, true_or, or_true, false_or, or_false, false_and, and_false, not_true_eq_false, not_false_eq_true, Classical.not_not, true_implies, false_implies, implies_true, exists_eq_left, exists_eq_left', Option.some.injEq, reduceIte, Nat.reduceEqDiff, Nat.reduceLT, Nat.reduceLeDiff, Nat.reduceAdd, Nat.reduceSub, Nat.reduceMul, eq_self, ne_eq, and_imp, forall_const, reduceCtorEq, am_w, List.map_cons, List.map_nil, List.sum_cons, List.sum_nil, Value.category, Nat.zero_le, Nat.le_refl]
        refine ⟨fun _ => ?_, by omega, by omega, by omega, by omega⟩
        refine q0.tr (q1.upE wf (i := i) (mfr.sA.tr mfr.sA) (fun f _ => rfl) (fun k j z => ?_) (fun j z => rfl) ?_)
        · simp only [am_hs, md_i s1]
          unfold tch at z
          rw [if_neg (by omega), if_neg (by omega)]
        · refine ⟨?_, ?_, ?_, ?_, ?_, ?_, ?_, ?_, ?_, ?_, ?_, ?_⟩ <;> (try simp only [am_hs, md_i s1, true_and, and_true, and_self, true_or, or_true, false_or, or_false, false_and, and_false, not_true_eq_false, not_false_eq_true, Classical.not_not, true_implies, false_implies, implies_true, exists_eq_left, exists_eq_left', Option.some.injEq, reduceIte, Nat.reduceEqDiff, Nat.reduceLT, Nat.reduceLeDiff, Nat.reduceAdd, Nat.reduceSub, Nat.reduceMul, eq_self, ne_eq, and_imp, forall_const, reduceCtorEq, am_w, List.map_cons, List.map_nil, List.sum_cons, List.sum_nil, Value.category, Nat.zero_le, Nat.le_refl]) <;> first | exact y1 | exact y2 | exact y3 | exact y4 | exact y5 | exact y6 | exact y7 | exact y8 | exact y9 | exact y10 | exact y11 | exact y12 | rfl
end MD
