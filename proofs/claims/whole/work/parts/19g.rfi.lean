/-! deps: 19f -/
/-! ===== the class reads: files ===== -/
/-! 64 yX5_addFile -/
theorem vc_64_0 (tt : Nat → Nat) (a0 : Nat) (a1 : Int32) (a2 : Int32) (h : am_H) (Q : am_H → Prop) (Qx : String → am_H → Prop) (q :
  (am_K h a0 = 6 ∧
  (((Int32.ofNat 24) ≤ (am_I h 5 7 a0) →
   Q h) ∧
  (¬ ((Int32.ofNat 24) ≤ (am_I h 5 7 a0)) →
   (am_K h a0 = 6 ∧ ∃ q1, am_R h 5 8 a0 = some q1 ∧
   (am_K h a0 = 6 ∧
   (am_K h q1 = 21 ∧ vp_in (am_I h 5 7 a0) (am_N h q1) ∧
   (am_K h a0 = 6 ∧ ∃ q2, am_R h 5 9 a0 = some q2 ∧
   (am_K h a0 = 6 ∧
   (am_K h q2 = 21 ∧ vp_in (am_I h 5 7 a0) (am_N h q2) ∧
   (am_K h a0 = 6 ∧
   (am_K h a0 = 6 ∧
   Q (am_sI (am_sA (am_sA h q1 ((am_I h 5 7 a0)).toNatClampNeg a1) q2 ((am_I h 5 7 a0)).toNatClampNeg a2) 5 7 a0 ((am_I h 5 7 a0) + (Int32.ofNat 1))))))))))))))) :
  am_Ev tt 64 0 [some (.ref a0), some (.int a1), some (.int a2)] [] h (am_pV Q Qx) := am_vc 25 [] q

/-! 63 yX5_takeFileSizes -/
theorem vc_63_0 (tt : Nat → Nat) (a0 : Nat) (h : am_H) (Q : am_H → Prop) (Qx : String → am_H → Prop) (q :
  am_Ev tt 63 2 [some (.ref a0), some (.int (Int32.ofNat 0)), none, none, none] [] h (am_pV Q Qx)) :
  am_Ev tt 63 0 [some (.ref a0), none, none, none, none] [] h (am_pV Q Qx) := am_vc 5 [(2, [true, true, false, false, false]), (26, [true, true, true, true, false])] q
theorem vc_63_2 (tt : Nat → Nat) (a0 : Nat) (a1 : Int32) (h : am_H) (Q : am_H → Prop) (Qx : String → am_H → Prop) (q :
  (am_K h a0 = 6 ∧
  (((am_I h 5 1 a0) ≤ a1 →
   Q h) ∧
  (¬ ((am_I h 5 1 a0) ≤ a1) →
   (am_K h a0 = 6 ∧ ∃ q1, am_R h 5 5 a0 = some q1 ∧
   ((am_K h q1 = 21 ∨ am_K h q1 = 31) ∧ vp_in a1 (am_N h q1) ∧
   (am_K h a0 = 6 ∧ ∃ q2, am_R h 5 6 a0 = some q2 ∧
   ((am_K h q2 = 21 ∨ am_K h q2 = 31) ∧ vp_in a1 (am_N h q2) ∧
   am_Ev tt 63 26 [some (.ref a0), some (.int a1), some (.int (am_A h q1 (a1).toNatClampNeg)), some (.int ((am_A h q2 (a1).toNatClampNeg) - (Int32.ofNat 1))), none] [] h (am_pV Q Qx))))))))) :
  am_Ev tt 63 2 [some (.ref a0), some (.int a1), none, none, none] [] h (am_pV Q Qx) := am_vc 19 [(2, [true, true, false, false, false]), (26, [true, true, true, true, false])] q
theorem vc_63_26 (tt : Nat → Nat) (a0 : Nat) (a1 : Int32) (a2 : Int32) (a3 : Int32) (h : am_H) (Q : am_H → Prop) (Qx : String → am_H → Prop) (q :
  ((a3 ≤ (Int32.ofNat 0) →
   (am_K h a0 = 6 ∧ ∃ (Q2 : am_H → Prop) (X2 : String → am_H → Prop), am_Ct tt 64 [.ref a0, .int a1, .int a2] h (am_pV Q2 X2) ∧ (∀ h1, Q2 h1 →
    am_Ev tt 63 2 [some (.ref a0), some (.int (a1 + (Int32.ofNat 1))), none, none, none] [] h1 (am_pV Q Qx)) ∧ (∀ E3 h1, X2 E3 h1 → Qx E3 h1))) ∧
  (¬ (a3 ≤ (Int32.ofNat 0)) →
   (am_K h a0 = 6 ∧ ∃ q4, am_R h 5 0 a0 = some q4 ∧
   (am_K h q4 = 3 ∧ ∃ (Q6 : Int64 → am_H → Prop) (X6 : String → am_H → Prop), am_Ct tt 29 [.ref q4, .long (Int64.ofNat 1), .long ((a2 - a3)).toInt64] h (am_pL Q6 X6) ∧ (∀ x7 h5, Q6 x7 h5 →
    (am_K h5 a0 = 6 ∧ ∃ (Q9 : am_H → Prop) (X9 : String → am_H → Prop), am_Ct tt 64 [.ref a0, .int a1, .int (x7).toInt32] h5 (am_pV Q9 X9) ∧ (∀ h8, Q9 h8 →
     am_Ev tt 63 26 [some (.ref a0), some (.int a1), some (.int (a2 - (x7).toInt32)), some (.int (a3 + (-1 : Int32))), none] [] h8 (am_pV Q Qx)) ∧ (∀ E10 h8, X9 E10 h8 → Qx E10 h8))) ∧ (∀ E11 h5, X6 E11 h5 → Qx E11 h5)))))) :
  am_Ev tt 63 26 [some (.ref a0), some (.int a1), some (.int a2), some (.int a3), none] [] h (am_pV Q Qx) := am_vc 25 [(2, [true, true, false, false, false]), (26, [true, true, true, true, false])] q

/-! 62 yX5_takeFileCounts -/
theorem vc_62_0 (tt : Nat → Nat) (a0 : Nat) (h : am_H) (Q : am_H → Prop) (Qx : String → am_H → Prop) (q :
  (am_K h a0 = 6 ∧ ∃ q1, am_R h 5 0 a0 = some q1 ∧
  (am_K h q1 = 3 ∧
  am_Ev tt 62 14 [some (.ref a0), some (.int ((am_I h 2 2 q1) - (Int32.ofNat 1))), some (.int (Int32.ofNat 0)), some (.int (Int32.ofNat 0))] [] h (am_pV Q Qx)))) :
  am_Ev tt 62 0 [some (.ref a0), none, none, none] [] h (am_pV Q Qx) := am_vc 13 [(14, [true, true, true, true])] q
theorem vc_62_14 (tt : Nat → Nat) (a0 : Nat) (a1 : Int32) (a2 : Int32) (a3 : Int32) (h : am_H) (Q : am_H → Prop) (Qx : String → am_H → Prop) (q :
  (am_K h a0 = 6 ∧
  (((am_I h 5 1 a0) ≤ a3 →
   (am_K h a0 = 6 ∧
   ((¬ a2 = (am_I h 5 1 a0) →
    Q h) ∧
   (¬ (¬ a2 = (am_I h 5 1 a0)) →
    (am_K h a0 = 6 ∧ ∃ q1, am_R h 5 0 a0 = some q1 ∧
    (am_K h q1 = 3 ∧ ∃ (Q3 : am_H → Prop) (X3 : String → am_H → Prop), am_Ct tt 22 [.ref q1, .int (Int32.ofNat 2), .int a1] h (am_pV Q3 X3) ∧ (∀ h2, Q3 h2 →
     Q h2) ∧ (∀ E4 h2, X3 E4 h2 → Qx E4 h2))))))) ∧
  (¬ ((am_I h 5 1 a0) ≤ a3) →
   (am_K h a0 = 6 ∧ ∃ q5, am_R h 5 6 a0 = some q5 ∧
   (am_K h a0 = 6 ∧ ∃ q6, am_R h 5 0 a0 = some q6 ∧
   (am_K h q6 = 3 ∧ ∃ (Q8 : Int64 → am_H → Prop) (X8 : String → am_H → Prop), am_Ct tt 29 [.ref q6, .long (Int64.ofNat 1), .long (((Int32.ofNat 24) - a2)).toInt64] h (am_pL Q8 X8) ∧ (∀ x9 h7, Q8 x9 h7 →
    (am_K h7 q5 = 21 ∧ vp_in a3 (am_N h7 q5) ∧
    (am_K h7 a0 = 6 ∧ ∃ q10, am_R h7 5 6 a0 = some q10 ∧
    ((am_K h7 q10 = 21 ∨ am_K h7 q10 = 31) ∧ vp_in a3 (am_N h7 q10) ∧
    am_Ev tt 62 14 [some (.ref a0), some (.int a1), some (.int (a2 + (am_A (am_sA h7 q5 (a3).toNatClampNeg (x9).toInt32) q10 (a3).toNatClampNeg))), some (.int (a3 + (Int32.ofNat 1)))] [] (am_sA h7 q5 (a3).toNatClampNeg (x9).toInt32) (am_pV Q Qx))))) ∧ (∀ E11 h7, X8 E11 h7 → Qx E11 h7)))))))) :
  am_Ev tt 62 14 [some (.ref a0), some (.int a1), some (.int a2), some (.int a3)] [] h (am_pV Q Qx) := am_vc 29 [(14, [true, true, true, true])] q

/-! 61 yX5_takeFiles -/
theorem vc_61_0 (tt : Nat → Nat) (a0 : Nat) (h : am_H) (Q : am_H → Prop) (Qx : String → am_H → Prop) (q :
  (am_K h a0 = 6 ∧ ∃ q1, am_R h 5 0 a0 = some q1 ∧
  (am_K h q1 = 3 ∧ ∃ (Q3 : am_H → Prop) (X3 : String → am_H → Prop), am_Ct tt 27 [.ref q1, .int (Int32.ofNat 8)] h (am_pV Q3 X3) ∧ (∀ h2, Q3 h2 →
   (am_K h2 a0 = 6 ∧ ∃ q4, am_R h2 5 0 a0 = some q4 ∧
   (am_K h2 q4 = 3 ∧ ∃ (Q6 : Int32 → am_H → Prop) (X6 : String → am_H → Prop), am_Ct tt 26 [.ref q4] h2 (am_pI Q6 X6) ∧ (∀ x7 h5, Q6 x7 h5 →
    ((¬ x7 = (Int32.ofNat 13) →
     am_Ev tt 61 53 [some (.ref a0), some (.int x7), some (.int (Int32.ofNat 0))] [] h5 (am_pV Q Qx)) ∧
    (¬ (¬ x7 = (Int32.ofNat 13)) →
     (am_K h5 a0 = 6 ∧ ∃ (Q9 : am_H → Prop) (X9 : String → am_H → Prop), am_Ct tt 62 [.ref a0] h5 (am_pV Q9 X9) ∧ (∀ h8, Q9 h8 →
      (am_K h8 a0 = 6 ∧ ∃ q10, am_R h8 5 0 a0 = some q10 ∧
      (am_K h8 q10 = 3 ∧ ∃ (Q12 : am_H → Prop) (X12 : String → am_H → Prop), am_Ct tt 27 [.ref q10, .int (Int32.ofNat 9)] h8 (am_pV Q12 X12) ∧ (∀ h11, Q12 h11 →
       (am_K h11 a0 = 6 ∧ ∃ (Q14 : am_H → Prop) (X14 : String → am_H → Prop), am_Ct tt 63 [.ref a0] h11 (am_pV Q14 X14) ∧ (∀ h13, Q14 h13 →
        (am_K h13 a0 = 6 ∧ ∃ q15, am_R h13 5 0 a0 = some q15 ∧
        (am_K h13 q15 = 3 ∧ ∃ (Q17 : Int32 → am_H → Prop) (X17 : String → am_H → Prop), am_Ct tt 26 [.ref q15] h13 (am_pI Q17 X17) ∧ (∀ x18 h16, Q17 x18 h16 →
         am_Ev tt 61 78 [some (.ref a0), some (.int x18), none] [] h16 (am_pV Q Qx)) ∧ (∀ E19 h16, X17 E19 h16 → Qx E19 h16)))) ∧ (∀ E20 h13, X14 E20 h13 → Qx E20 h13))) ∧ (∀ E21 h11, X12 E21 h11 → Qx E21 h11)))) ∧ (∀ E22 h8, X9 E22 h8 → Qx E22 h8))))) ∧ (∀ E23 h5, X6 E23 h5 → Qx E23 h5)))) ∧ (∀ E24 h2, X3 E24 h2 → Qx E24 h2)))) :
  am_Ev tt 61 0 [some (.ref a0), none, none] [] h (am_pV Q Qx) := am_vc 27 [(53, [true, true, true]), (78, [true, true, false]), (91, [true, false, false]), (101, [true, false, true])] q
theorem vc_61_53 (tt : Nat → Nat) (a0 : Nat) (a1 : Int32) (a2 : Int32) (h : am_H) (Q : am_H → Prop) (Qx : String → am_H → Prop) (q :
  (am_K h a0 = 6 ∧
  (((am_I h 5 1 a0) ≤ a2 →
   (am_K h a0 = 6 ∧ ∃ (Q2 : am_H → Prop) (X2 : String → am_H → Prop), am_Ct tt 63 [.ref a0] h (am_pV Q2 X2) ∧ (∀ h1, Q2 h1 →
    am_Ev tt 61 78 [some (.ref a0), some (.int a1), none] [] h1 (am_pV Q Qx)) ∧ (∀ E3 h1, X2 E3 h1 → Qx E3 h1))) ∧
  (¬ ((am_I h 5 1 a0) ≤ a2) →
   (am_K h a0 = 6 ∧ ∃ q4, am_R h 5 6 a0 = some q4 ∧
   (am_K h q4 = 21 ∧ vp_in a2 (am_N h q4) ∧
   am_Ev tt 61 53 [some (.ref a0), some (.int a1), some (.int (a2 + (Int32.ofNat 1)))] [] (am_sA h q4 (a2).toNatClampNeg (Int32.ofNat 1)) (am_pV Q Qx))))))) :
  am_Ev tt 61 53 [some (.ref a0), some (.int a1), some (.int a2)] [] h (am_pV Q Qx) := am_vc 14 [(53, [true, true, true]), (78, [true, true, false]), (91, [true, false, false]), (101, [true, false, true])] q
theorem vc_61_78 (tt : Nat → Nat) (a0 : Nat) (a1 : Int32) (h : am_H) (Q : am_H → Prop) (Qx : String → am_H → Prop) (q :
  ((a1 = (Int32.ofNat 10) →
   am_Ev tt 61 91 [some (.ref a0), none, none] [] h (am_pV Q Qx)) ∧
  (¬ (a1 = (Int32.ofNat 10)) →
   (am_K h a0 = 6 ∧ ∃ q1, am_R h 5 0 a0 = some q1 ∧
   (am_K h q1 = 3 ∧ ∃ (Q3 : am_H → Prop) (X3 : String → am_H → Prop), am_Ct tt 23 [.ref q1] h (am_pV Q3 X3) ∧ (∀ h2, Q3 h2 →
    am_Ev tt 61 91 [some (.ref a0), none, none] [] h2 (am_pV Q Qx)) ∧ (∀ E4 h2, X3 E4 h2 → Qx E4 h2)))))) :
  am_Ev tt 61 78 [some (.ref a0), some (.int a1), none] [] h (am_pV Q Qx) := am_vc 9 [(53, [true, true, true]), (78, [true, true, false]), (91, [true, false, false]), (101, [true, false, true])] q
theorem vc_61_91 (tt : Nat → Nat) (a0 : Nat) (h : am_H) (Q : am_H → Prop) (Qx : String → am_H → Prop) (q :
  (am_K h a0 = 6 ∧ ∃ q1, am_R h 5 0 a0 = some q1 ∧
  (am_K h q1 = 3 ∧ ∃ (Q3 : am_H → Prop) (X3 : String → am_H → Prop), am_Ct tt 27 [.ref q1, .int (Int32.ofNat 1)] h (am_pV Q3 X3) ∧ (∀ h2, Q3 h2 →
   am_Ev tt 61 101 [some (.ref a0), none, some (.int (Int32.ofNat 0))] [] h2 (am_pV Q Qx)) ∧ (∀ E4 h2, X3 E4 h2 → Qx E4 h2)))) :
  am_Ev tt 61 91 [some (.ref a0), none, none] [] h (am_pV Q Qx) := am_vc 9 [(53, [true, true, true]), (78, [true, true, false]), (91, [true, false, false]), (101, [true, false, true])] q
theorem vc_61_101 (tt : Nat → Nat) (a0 : Nat) (a2 : Int32) (h : am_H) (Q : am_H → Prop) (Qx : String → am_H → Prop) (q :
  (am_K h a0 = 6 ∧
  (((am_I h 5 7 a0) ≤ a2 →
   (am_K h a0 = 6 ∧ ∃ q1, am_R h 5 0 a0 = some q1 ∧
   (am_K h q1 = 3 ∧ ∃ (Q3 : am_H → Prop) (X3 : String → am_H → Prop), am_Ct tt 27 [.ref q1, .int (Int32.ofNat 0)] h (am_pV Q3 X3) ∧ (∀ h2, Q3 h2 →
    Q h2) ∧ (∀ E4 h2, X3 E4 h2 → Qx E4 h2)))) ∧
  (¬ ((am_I h 5 7 a0) ≤ a2) →
   (am_K h a0 = 6 ∧ ∃ q5, am_R h 5 10 a0 = some q5 ∧
   (am_K h a0 = 6 ∧ ∃ q6, am_R h 5 0 a0 = some q6 ∧
   (am_K h q6 = 3 ∧ ∃ (Q8 : Int64 → am_H → Prop) (X8 : String → am_H → Prop), am_Ct tt 28 [.ref q6, .int (Int32.ofNat 4)] h (am_pL Q8 X8) ∧ (∀ x9 h7, Q8 x9 h7 →
    (am_K h7 q5 = 21 ∧ vp_in a2 (am_N h7 q5) ∧
    am_Ev tt 61 101 [some (.ref a0), none, some (.int (a2 + (Int32.ofNat 1)))] [] (am_sA h7 q5 (a2).toNatClampNeg (x9).toInt32) (am_pV Q Qx))) ∧ (∀ E10 h7, X8 E10 h7 → Qx E10 h7)))))))) :
  am_Ev tt 61 101 [some (.ref a0), none, some (.int a2)] [] h (am_pV Q Qx) := am_vc 18 [(53, [true, true, true]), (78, [true, true, false]), (91, [true, false, false]), (101, [true, false, true])] q

def sm (f : Nat → Nat) : Nat → Nat → Nat
  | 0, _ => 0
  | d + 1, b => f b + sm f d (b + 1)
theorem sm_c {f g : Nat → Nat} : ∀ (d b : Nat), (∀ j, b ≤ j → j < b + d → f j = g j) → sm f d b = sm g d b
  | 0, _, _ => rfl
  | d + 1, b, h => by
    rw [sm, sm, h b (Nat.le_refl b) (by omega), sm_c d (b + 1) (fun j h1 h2 => h j (by omega) (by omega))]
theorem sm_s (f : Nat → Nat) : ∀ (d b : Nat), sm f (d + 1) b = sm f d b + f (b + d)
  | 0, b => by show f b + 0 = 0 + f b; omega
  | d + 1, b => by
    rw [sm, sm_s f d (b + 1), sm]
    have : b + 1 + d = b + (d + 1) := by omega
    rw [this]; omega
theorem sm_le {f : Nat → Nat} (c : Nat) : ∀ (d b : Nat), (∀ j, b ≤ j → j < b + d → f j ≤ c) → sm f d b ≤ c * d
  | 0, _, _ => by rw [sm]; omega
  | d + 1, b, h => by
    have h1 := h b (Nat.le_refl b) (by omega)
    have h2 := sm_le c d (b + 1) (fun j h1 h2 => h j (by omega) (by omega))
    rw [sm, Nat.mul_succ]
    omega
theorem tX_B {F : Fn} {n p v : Nat} : tX F n p v = bd (tB F n p) fun x q => if x = Int32.ofNat v then .ok ((), q) else .error (2, p) := by
  unfold tX tB bd
  by_cases c : p < n
  · rw [if_pos c, if_pos c]
  · rw [if_neg c, if_neg c]
/-- a NUMBER up to a difference -/
theorem tN_d {F : Fn} {n p q a b : Nat} {v : Int64} (ha : a < 2147483648) (hb : b < 2147483648) (h : tN F n p (l64 1) (Int32.ofNat a - Int32.ofNat b).toInt64 = .ok (v, q)) : ∃ k, v = Int64.ofNat k ∧ 1 ≤ k ∧ k + b ≤ a ∧ v.toNatClampNeg = k := by
  by_cases c : b ≤ a
  · rw [qi_sub c, qi_l (by omega)] at h
    obtain ⟨k, h1, h2, h3, h4⟩ := tN_n (by omega) (by omega) h
    exact ⟨k, h1, h2, by omega, h4⟩
  · obtain ⟨-, -, h1, h2⟩ := tN_p h
    rw [Int64.lt_iff_toInt_lt] at h1 h2
    rw [show (l64 1).toInt = 1 from rfl] at h1
    have e : (Int32.ofNat a - Int32.ofNat b).toInt64.toInt = (a : Int) - b := by
      rw [Int32.toInt_toInt64, Int32.toInt_sub, qi_ti ha, qi_ti hb]
      rw [Int.bmod_eq_of_le]
      · omega
      · omega
    rw [e] at h2
    omega
section RD3
variable {tt : Nat → Nat} {h0 h h' h'' : am_H} {cd : Nat → Nat} {bb : Nat → Nat → Nat} {wa wt n p : Nat}
def Xi (k : Nat) : Prop := k = 48 ∨ k = 49
def Yi (c g k : Nat) : Prop := (c = 2 ∧ g = 2 ∧ k = 31) ∨ (c = 5 ∧ g = 7 ∧ k = 32)
theorem Xi_A {k : Nat} (h : Xi k) : XA wa k := by unfold Xi at h; unfold XA; omega
theorem Yi_A {c g k : Nat} (h : Yi c g k) : YA wa c g k := by unfold Yi at h; unfold YA; omega
/-- files so far -/
def FR (cd : Nat → Nat) (h : am_H) (x : FI) : Prop := am_I h 5 7 (cd 32) = Int32.ofNat x.1 ∧ ∀ f, f < x.1 → am_A h (cd 48) f = Int32.ofNat (x.2.1 f) ∧ am_A h (cd 49) f = Int32.ofNat (x.2.2 f)
theorem ct_addFile (x : CX tt h0 cd bb wa wt n h p) {z : FI} (fr : FR cd h z) (h24 : z.1 < 24) {b s : Nat} : am_Ct tt 64 [.ref (cd 32), .int (Int32.ofNat b), .int (Int32.ofNat s)] h (am_pV (fun h' => CX tt h0 cd bb wa wt n h' p ∧ rf cd Xi Yi h h' ∧ FR cd h' (adF z b s)) no_x) := by
  have ci := x.ci
  have f := x.f
  have n89 : cd 48 ≠ cd 49 := fun e => by have := ci.1 _ _ e; omega
  have fr1 := fr.1
  refine vc_64_0 tt _ _ _ h _ _ ?_
  simp (disch := omega) only [f, fr1, h24, am_hs, qi_lt, qi_le, qi_eq, qi_nn, qi_in, qi_add, qi_l, ql_i, ql_lt, ql_le, ql_eq, ql_add, qc_lt, qc_eq, qc_ge, qc_gt, qc_le, true_and, and_true, and_self, true_or, or_true, false_or, or_false, false_and, and_false, not_true_eq_false, not_false_eq_true, Classical.not_not, true_implies, false_implies, implies_true, exists_eq_left, exists_eq_left', Option.some.injEq, reduceIte, Nat.reduceEqDiff, Nat.reduceLT, Nat.reduceLeDiff, Nat.reduceAdd, Nat.reduceSub, Nat.reduceMul, eq_self, ne_eq, and_imp, forall_const, reduceCtorEq, am_w, List.map_cons, List.map_nil, List.sum_cons, List.sum_nil, Value.category, Nat.zero_le, Nat.le_refl]
  refine ⟨fun z => by omega, fun _ => ?_⟩
  have rr : rf cd Xi Yi h (am_sI (am_sA (am_sA h (cd 48) z.1 (Int32.ofNat b)) (cd 49) z.1 (Int32.ofNat s)) 5 7 (cd 32) (Int32.ofNat (z.1 + 1))) := ((rf.sA (Or.inl rfl)).tr (rf.sA (Or.inr rfl))).tr (rf.sI (Or.inr ⟨rfl, rfl, rfl⟩))
  refine ⟨x.on (rr.mo (fun k => Xi_A) (fun c g k => Yi_A)) rfl rfl (fun g hg => by simp only [am_hs]; rw [if_neg (fun z => by omega)]), rr, ?_, fun j hj => ?_⟩
  · simp only [am_hs, true_and, and_true, and_self, true_or, or_true, false_or, or_false, false_and, and_false, not_true_eq_false, not_false_eq_true, Classical.not_not, true_implies, false_implies, implies_true, exists_eq_left, exists_eq_left', Option.some.injEq, reduceIte, Nat.reduceEqDiff, Nat.reduceLT, Nat.reduceLeDiff, Nat.reduceAdd, Nat.reduceSub, Nat.reduceMul, eq_self, ne_eq, and_imp, forall_const, reduceCtorEq, am_w, List.map_cons, List.map_nil, List.sum_cons, List.sum_nil, Value.category, Nat.zero_le, Nat.le_refl]; rfl
  · simp only [am_hs]
    show _ = Int32.ofNat (va_up z.2.1 z.1 b j) ∧ _ = Int32.ofNat (va_up z.2.2 z.1 s j)
    have hj : j < z.1 + 1 := hj
    unfold va_up
    by_cases c : j = z.1
    · rw [if_pos c, if_pos c, if_neg (fun z => n89 z.1), if_pos ⟨trivial, c⟩, if_pos ⟨trivial, c⟩]
      exact ⟨rfl, rfl⟩
    · rw [if_neg c, if_neg c, if_neg (fun z => n89 z.1), if_neg (fun z => c z.2), if_neg (fun z => c z.2), if_neg (fun z => n89 z.1.symm)]
      exact fr.2 j (by omega)
theorem fi_in {b : Nat} (hb : b < 6) (ci : ci_s cd bb) {β : Type} {r : Except pe β} {Q : am_H → Prop} {k0 : am_H} {K : FI → Nat → Except pe β} {N : Nat} (hN : N ≤ 24) (fin : ∀ k q z, CX tt h0 cd bb wa wt n k q → rf cd Xi Yi k0 k → FR cd k z → z.1 = N → r = K z q → am_Ev tt 63 2 [some (.ref (cd 32)), some (.int (Int32.ofNat (b + 1))), none, none, none] [] k (am_pV Q (ER cd wa h0 r))) :
    ∀ (d : Nat) (k : am_H) (q left : Nat) (z : FI), CX tt h0 cd bb wa wt n k q → rf cd Xi Yi k0 k → FR cd k z → z.1 + d + 1 = N → left ≤ 2400 → r = bd (lFi (FF cd wt h0) n b d q left z) K →
      am_Ev tt 63 26 [some (.ref (cd 32)), some (.int (Int32.ofNat b)), some (.int (Int32.ofNat left)), some (.int (Int32.ofNat d)), none] [] k (am_pV Q (ER cd wa h0 r)) := by
  intro d
  induction d with
  | zero =>
    intro k q left z y fk fr h24 hl hr
    have F := y.f
    rw [lFi] at hr
    refine vc_63_26 tt _ _ _ _ _ _ _ ?_
    simp (disch := omega) only [F, qi_lt, qi_le, qi_eq, qi_nn, qi_in, qi_add, qi_l, ql_i, ql_lt, ql_le, ql_eq, ql_add, qc_lt, qc_eq, qc_ge, qc_gt, qc_le, true_and, and_true, and_self, true_or, or_true, false_or, or_false, false_and, and_false, not_true_eq_false, not_false_eq_true, Classical.not_not, true_implies, false_implies, implies_true, exists_eq_left, exists_eq_left', Option.some.injEq, reduceIte, Nat.reduceEqDiff, Nat.reduceLT, Nat.reduceLeDiff, Nat.reduceAdd, Nat.reduceSub, Nat.reduceMul, eq_self, ne_eq, and_imp, forall_const, reduceCtorEq, am_w, List.map_cons, List.map_nil, List.sum_cons, List.sum_nil, Value.category, Nat.zero_le, Nat.le_refl]
    refine ⟨_, _, ct_addFile y fr (by omega), fun k2 w => ?_, fun _ _ z => z.elim⟩
    exact fin k2 q _ w.1 (fk.tr w.2.1) w.2.2 h24 hr
  | succ d ih =>
    intro k q left z y fk fr h24 hl hr
    have F := y.f
    rw [lFi, bd_as] at hr
    refine vc_63_26 tt _ _ _ _ _ _ _ ?_
    simp (disch := omega) only [F, qi_lt, qi_le, qi_eq, qi_nn, qi_in, qi_add, qi_l, ql_i, ql_lt, ql_le, ql_eq, ql_add, qc_lt, qc_eq, qc_ge, qc_gt, qc_le, true_and, and_true, and_self, true_or, or_true, false_or, or_false, false_and, and_false, not_true_eq_false, not_false_eq_true, Classical.not_not, true_implies, false_implies, implies_true, exists_eq_left, exists_eq_left', Option.some.injEq, reduceIte, Nat.reduceEqDiff, Nat.reduceLT, Nat.reduceLeDiff, Nat.reduceAdd, Nat.reduceSub, Nat.reduceMul, eq_self, ne_eq, and_imp, forall_const, reduceCtorEq, am_w, List.map_cons, List.map_nil, List.sum_cons, List.sum_nil, Value.category, Nat.zero_le, Nat.le_refl]
    refine (y.nu hr fun v q2 h2 ev e2 x2 r2 => ?_).2
    obtain ⟨w, rfl, w1, w2, w3⟩ := tN_d (by omega) (by omega) ev
    rw [w3] at r2
    have F2 := x2.f
    have f2 : rf cd Xi Yi k h2 := by rw [e2]; exact rf.mv (Or.inl ⟨rfl, rfl, rfl⟩)
    have fr2 : FR cd h2 z := by rw [e2]; exact ⟨by rw [cp]; simp only [am_hs, true_and, and_true, and_self, true_or, or_true, false_or, or_false, false_and, and_false, not_true_eq_false, not_false_eq_true, Classical.not_not, true_implies, false_implies, implies_true, exists_eq_left, exists_eq_left', Option.some.injEq, reduceIte, Nat.reduceEqDiff, Nat.reduceLT, Nat.reduceLeDiff, Nat.reduceAdd, Nat.reduceSub, Nat.reduceMul, eq_self, ne_eq, and_imp, forall_const, reduceCtorEq, am_w, List.map_cons, List.map_nil, List.sum_cons, List.sum_nil, Value.category, Nat.zero_le, Nat.le_refl]; exact fr.1, fr.2⟩
    simp (disch := omega) only [F2, qi_sub, qi_dec, Nat.add_sub_cancel, qi_lt, qi_le, qi_eq, qi_nn, qi_in, qi_add, qi_l, ql_i, ql_lt, ql_le, ql_eq, ql_add, qc_lt, qc_eq, qc_ge, qc_gt, qc_le, true_and, and_true, and_self, true_or, or_true, false_or, or_false, false_and, and_false, not_true_eq_false, not_false_eq_true, Classical.not_not, true_implies, false_implies, implies_true, exists_eq_left, exists_eq_left', Option.some.injEq, reduceIte, Nat.reduceEqDiff, Nat.reduceLT, Nat.reduceLeDiff, Nat.reduceAdd, Nat.reduceSub, Nat.reduceMul, eq_self, ne_eq, and_imp, forall_const, reduceCtorEq, am_w, List.map_cons, List.map_nil, List.sum_cons, List.sum_nil, Value.category, Nat.zero_le, Nat.le_refl]
    refine ⟨_, _, ct_addFile x2 fr2 (by omega), fun k3 t => ?_, fun _ _ z => z.elim⟩
    exact ih k3 q2 (left - w) _ t.1 (fk.tr (f2.tr t.2.1)) t.2.2 (by show z.1 + 1 + d + 1 = N; omega) (by omega) r2
theorem lFs_1 {F : Fn} {n : Nat} {g fc : Nat → Nat} : ∀ (d b q : Nat) (z : FI) {z' : FI} {q' : Nat}, (∀ j, b ≤ j → j < b + d → fc j = 1) → lFs F n g fc d b q z = .ok (z', q') → q' = q
  | 0, b, q, z, z', q', _, h => by
    rw [lFs] at h
    cases h
    rfl
  | d + 1, b, q, z, z', q', hf, h => by
    rw [lFs, hf b (Nat.le_refl b) (by omega), lFi] at h
    exact lFs_1 d (b + 1) q _ (fun j h1 h2 => hf j (by omega) (by omega)) h
theorem ct_takeFileSizes (x : CX tt h0 cd bb wa wt n h p) {B : Nat} (hB : B ≤ 6) (hI : am_I h 5 1 (cd 32) = Int32.ofNat B) {g fc : Nat → Nat} (hg : ∀ b, b < B → am_A h (cd 45) b = Int32.ofNat (g b) ∧ g b ≤ 2400) (hf : ∀ b, b < B → am_A h (cd 46) b = Int32.ofNat (fc b) ∧ 1 ≤ fc b) (hs : sm fc B 0 ≤ 24) (h7 : am_I h 5 7 (cd 32) = Int32.ofNat 0) {r : Except pe (FI × Nat)} {p0 : Nat} (hp0 : (∀ b, b < B → fc b = 1) ∨ p0 = p) (hr : r = lFs (FF cd wt h0) n g fc B 0 p0 FI0) :
    am_Ct tt 63 [.ref (cd 32)] h (am_pV (fun h' => ∃ z p0' p', r = .ok (z, p0') ∧ CX tt h0 cd bb wa wt n h' p' ∧ rf cd Xi Yi h h' ∧ FR cd h' z ∧ z.1 ≤ 24 ∧ p0' + p = p' + p0) (ER cd wa h0 r)) := by
  have ci := x.ci
  have key : ∀ (d b : Nat) (k : am_H) (q0 q : Nat) (z : FI), d + b = B → CX tt h0 cd bb wa wt n k q → rf cd Xi Yi h k → FR cd k z → z.1 + sm fc d b ≤ 24 → q0 + p = q + p0 → r = lFs (FF cd wt h0) n g fc d b q0 z →
      am_Ev tt 63 2 [some (.ref (cd 32)), some (.int (Int32.ofNat b)), none, none, none] [] k (am_pV (fun h' => ∃ z p0' p', r = .ok (z, p0') ∧ CX tt h0 cd bb wa wt n h' p' ∧ rf cd Xi Yi h h' ∧ FR cd h' z ∧ z.1 ≤ 24 ∧ p0' + p = p' + p0) (ER cd wa h0 r)) := by
    intro d
    induction d with
    | zero =>
      intro b k q0 q z e y fk fr hz hq hr2
      have F := y.f
      have hIk : am_I k 5 1 (cd 32) = Int32.ofNat B := by rw [fk.i ci (by unfold Yi; omega)]; exact hI
      rw [lFs] at hr2
      rw [sm] at hz
      refine vc_63_2 tt _ _ _ _ _ ?_
      have : B ≤ b := by omega
      simp (disch := omega) only [F, hIk, this, qi_lt, qi_le, qi_eq, qi_nn, qi_in, qi_add, qi_l, ql_i, ql_lt, ql_le, ql_eq, ql_add, qc_lt, qc_eq, qc_ge, qc_gt, qc_le, true_and, and_true, and_self, true_or, or_true, false_or, or_false, false_and, and_false, not_true_eq_false, not_false_eq_true, Classical.not_not, true_implies, false_implies, implies_true, exists_eq_left, exists_eq_left', Option.some.injEq, reduceIte, Nat.reduceEqDiff, Nat.reduceLT, Nat.reduceLeDiff, Nat.reduceAdd, Nat.reduceSub, Nat.reduceMul, eq_self, ne_eq, and_imp, forall_const, reduceCtorEq, am_w, List.map_cons, List.map_nil, List.sum_cons, List.sum_nil, Value.category, Nat.zero_le, Nat.le_refl]
      exact ⟨z, q0, q, hr2, y, fk, fr, by omega, hq⟩
    | succ d ih =>
      intro b k q0 q z e y fk fr hz hq hr2
      have F := y.f
      have hb : b < B := by omega
      have hb6 : b < 6 := by omega
      have hIk : am_I k 5 1 (cd 32) = Int32.ofNat B := by rw [fk.i ci (by unfold Yi; omega)]; exact hI
      have e45 : am_A k (cd 45) b = Int32.ofNat (g b) := by rw [fk.a ci (by unfold Xi; omega)]; exact (hg b hb).1
      have e46 : am_A k (cd 46) b = Int32.ofNat (fc b) := by rw [fk.a ci (by unfold Xi; omega)]; exact (hf b hb).1
      have f1 := (hf b hb).2
      rw [sm] at hz
      refine vc_63_2 tt _ _ _ _ _ ?_
      have : ¬ B ≤ b := by omega
      simp (disch := omega) only [F, hIk, this, hb6, e45, e46, qi_sub, qi_lt, qi_le, qi_eq, qi_nn, qi_in, qi_add, qi_l, ql_i, ql_lt, ql_le, ql_eq, ql_add, qc_lt, qc_eq, qc_ge, qc_gt, qc_le, true_and, and_true, and_self, true_or, or_true, false_or, or_false, false_and, and_false, not_true_eq_false, not_false_eq_true, Classical.not_not, true_implies, false_implies, implies_true, exists_eq_left, exists_eq_left', Option.some.injEq, reduceIte, Nat.reduceEqDiff, Nat.reduceLT, Nat.reduceLeDiff, Nat.reduceAdd, Nat.reduceSub, Nat.reduceMul, eq_self, ne_eq, and_imp, forall_const, reduceCtorEq, am_w, List.map_cons, List.map_nil, List.sum_cons, List.sum_nil, Value.category, Nat.zero_le, Nat.le_refl]
      rcases hp0 with e3 | e1
      · rw [lFs, e3 b hb, lFi] at hr2
        rw [e3 b hb]
        rw [e3 b hb] at hz
        refine vc_63_26 tt _ _ _ _ _ _ _ ?_
        simp (disch := omega) only [F, qi_lt, qi_le, qi_eq, qi_nn, qi_in, qi_add, qi_l, ql_i, ql_lt, ql_le, ql_eq, ql_add, qc_lt, qc_eq, qc_ge, qc_gt, qc_le, true_and, and_true, and_self, true_or, or_true, false_or, or_false, false_and, and_false, not_true_eq_false, not_false_eq_true, Classical.not_not, true_implies, false_implies, implies_true, exists_eq_left, exists_eq_left', Option.some.injEq, reduceIte, Nat.reduceEqDiff, Nat.reduceLT, Nat.reduceLeDiff, Nat.reduceAdd, Nat.reduceSub, Nat.reduceMul, eq_self, ne_eq, and_imp, forall_const, reduceCtorEq, am_w, List.map_cons, List.map_nil, List.sum_cons, List.sum_nil, Value.category, Nat.zero_le, Nat.le_refl]
        refine ⟨_, _, ct_addFile y fr (by omega), fun k2 w => ?_, fun _ _ z => z.elim⟩
        exact ih (b + 1) k2 q0 q _ (by omega) w.1 (fk.tr w.2.1) w.2.2 (by show z.1 + 1 + _ ≤ 24; omega) hq hr2
      · have e2 : q0 = q := by omega
        rw [lFs, e2] at hr2
        refine fi_in hb6 ci (N := z.1 + fc b) (by omega) (k0 := k) (r := r) (fun k2 q2 z2 y2 f2 fr2 hn r2 => ?_) (fc b - 1) k q (g b) z y rf.re fr (by omega) (hg b hb).2 hr2
        exact ih (b + 1) k2 q2 q2 z2 (by omega) y2 (fk.tr f2) fr2 (by omega) (by omega) r2
  refine vc_63_0 tt _ h _ _ ?_
  exact key B 0 h p0 p FI0 (by omega) x rf.re ⟨h7, fun f hf => absurd hf (Nat.not_lt_zero f)⟩ (by show 0 + _ ≤ 24; omega) (by omega) hr
def Xj (k : Nat) : Prop := k = 46
theorem Xj_A {k : Nat} (h : Xj k) : XA wa k := by unfold Xj at h; unfold XA; omega
theorem ct_takeFileCounts (x : CX tt h0 cd bb wa wt n h p) (hp : 1 ≤ p) {B : Nat} (hB : B ≤ 6) (hI : am_I h 5 1 (cd 32) = Int32.ofNat B) {r : Except pe ((Nat → Nat) × Nat)} (hr : r = bd (lFc (FF cd wt h0) n B 0 p 0 (fun _ => 0)) fun sf p2 => if sf.1 = B then .error (2, p - 1) else .ok (sf.2, p2)) :
    am_Ct tt 62 [.ref (cd 32)] h (am_pV (fun h' => ∃ fc p', r = .ok (fc, p') ∧ CX tt h0 cd bb wa wt n h' p' ∧ rf cd Xj Yc h h' ∧ (∀ b, b < B → am_A h' (cd 46) b = Int32.ofNat (fc b) ∧ 1 ≤ fc b) ∧ sm fc B 0 ≤ 24) (ER cd wa h0 r)) := by
  have ci := x.ci
  have f := x.f
  have p5 := x.p5
  have key : ∀ (d b : Nat) (k : am_H) (q s : Nat) (fc : Nat → Nat), d + b = B → CX tt h0 cd bb wa wt n k q → rf cd Xj Yc h k → (∀ j, j < b → am_A k (cd 46) j = Int32.ofNat (fc j) ∧ 1 ≤ fc j) → sm fc b 0 = s → s ≤ 24 → r = bd (lFc (FF cd wt h0) n d b q s fc) (fun sf p2 => if sf.1 = B then .error (2, p - 1) else .ok (sf.2, p2)) →
      am_Ev tt 62 14 [some (.ref (cd 32)), some (.int (Int32.ofNat (p - 1))), some (.int (Int32.ofNat s)), some (.int (Int32.ofNat b))] [] k (am_pV (fun h' => ∃ fc p', r = .ok (fc, p') ∧ CX tt h0 cd bb wa wt n h' p' ∧ rf cd Xj Yc h h' ∧ (∀ b, b < B → am_A h' (cd 46) b = Int32.ofNat (fc b) ∧ 1 ≤ fc b) ∧ sm fc B 0 ≤ 24) (ER cd wa h0 r)) := by
    intro d
    induction d with
    | zero =>
      intro b k q s fc e y fk hf hs h24 hr2
      have F := y.f
      have eb : b = B := by omega
      rw [eb] at hf hs ⊢
      have hIk : am_I k 5 1 (cd 32) = Int32.ofNat B := by rw [fk.i ci (by unfold Yc; omega)]; exact hI
      rw [lFc] at hr2
      have hr3 : r = if s = B then .error (2, p - 1) else .ok (fc, q) := hr2
      refine vc_62_14 tt _ _ _ _ _ _ _ ?_
      simp (disch := omega) only [F, hIk, qi_lt, qi_le, qi_eq, qi_nn, qi_in, qi_add, qi_l, ql_i, ql_lt, ql_le, ql_eq, ql_add, qc_lt, qc_eq, qc_ge, qc_gt, qc_le, true_and, and_true, and_self, true_or, or_true, false_or, or_false, false_and, and_false, not_true_eq_false, not_false_eq_true, Classical.not_not, true_implies, false_implies, implies_true, exists_eq_left, exists_eq_left', Option.some.injEq, reduceIte, Nat.reduceEqDiff, Nat.reduceLT, Nat.reduceLeDiff, Nat.reduceAdd, Nat.reduceSub, Nat.reduceMul, eq_self, ne_eq, and_imp, forall_const, reduceCtorEq, am_w, List.map_cons, List.map_nil, List.sum_cons, List.sum_nil, Value.category, Nat.zero_le, Nat.le_refl]
      refine ⟨fun c => ?_, fun c => ?_⟩
      · rw [if_neg c] at hr3
        exact ⟨fc, q, hr3, y, fk, hf, by omega⟩
      · rw [if_pos c] at hr3
        exact ⟨_, _, y.fa hr3, fun _ z => z.elim, fun _ _ z => z⟩
    | succ d ih =>
      intro b k q s fc e y fk hf hs h24 hr2
      have F := y.f
      have hb : b < 6 := by omega
      have hIk : am_I k 5 1 (cd 32) = Int32.ofNat B := by rw [fk.i ci (by unfold Yc; omega)]; exact hI
      rw [lFc, bd_as] at hr2
      refine vc_62_14 tt _ _ _ _ _ _ _ ?_
      simp (disch := omega) only [F, hIk, qi_sub, qi_lt, qi_le, qi_eq, qi_nn, qi_in, qi_add, qi_l, ql_i, ql_lt, ql_le, ql_eq, ql_add, qc_lt, qc_eq, qc_ge, qc_gt, qc_le, true_and, and_true, and_self, true_or, or_true, false_or, or_false, false_and, and_false, not_true_eq_false, not_false_eq_true, Classical.not_not, true_implies, false_implies, implies_true, exists_eq_left, exists_eq_left', Option.some.injEq, reduceIte, Nat.reduceEqDiff, Nat.reduceLT, Nat.reduceLeDiff, Nat.reduceAdd, Nat.reduceSub, Nat.reduceMul, eq_self, ne_eq, and_imp, forall_const, reduceCtorEq, am_w, List.map_cons, List.map_nil, List.sum_cons, List.sum_nil, Value.category, Nat.zero_le, Nat.le_refl]
      refine ⟨fun z => by omega, fun _ => (y.nu hr2 fun v q2 h2 ev e2 x2 r2 => ?_).2⟩
      obtain ⟨w, rfl, w1, w2, w3⟩ := tN_n (by omega) (by omega) ev
      rw [w3] at r2
      have F2 := x2.f
      have f2 : rf cd Xj Yc k h2 := by rw [e2]; exact rf.mv ⟨rfl, rfl, rfl⟩
      have ea : am_A h2 = am_A k := by rw [e2]; rfl
      simp (disch := omega) only [F2, hb, am_hs, qi_lt, qi_le, qi_eq, qi_nn, qi_in, qi_add, qi_l, ql_i, ql_lt, ql_le, ql_eq, ql_add, qc_lt, qc_eq, qc_ge, qc_gt, qc_le, true_and, and_true, and_self, true_or, or_true, false_or, or_false, false_and, and_false, not_true_eq_false, not_false_eq_true, Classical.not_not, true_implies, false_implies, implies_true, exists_eq_left, exists_eq_left', Option.some.injEq, reduceIte, Nat.reduceEqDiff, Nat.reduceLT, Nat.reduceLeDiff, Nat.reduceAdd, Nat.reduceSub, Nat.reduceMul, eq_self, ne_eq, and_imp, forall_const, reduceCtorEq, am_w, List.map_cons, List.map_nil, List.sum_cons, List.sum_nil, Value.category, Nat.zero_le, Nat.le_refl]
      refine ih (b + 1) _ q2 (s + w) _ (by omega) (x2.on (rf.sA (by unfold XA; omega)) rfl rfl (fun _ _ => rfl)) (fk.tr (f2.tr (rf.sA rfl))) (fun j hj => ?_) ?_ (by omega) r2
      · simp only [am_hs, true_and, and_true, and_self, true_or, or_true, false_or, or_false, false_and, and_false, not_true_eq_false, not_false_eq_true, Classical.not_not, true_implies, false_implies, implies_true, exists_eq_left, exists_eq_left', Option.some.injEq, reduceIte, Nat.reduceEqDiff, Nat.reduceLT, Nat.reduceLeDiff, Nat.reduceAdd, Nat.reduceSub, Nat.reduceMul, eq_self, ne_eq, and_imp, forall_const, reduceCtorEq, am_w, List.map_cons, List.map_nil, List.sum_cons, List.sum_nil, Value.category, Nat.zero_le, Nat.le_refl]
        unfold va_up
        by_cases c : j = b
        · rw [if_pos c, if_pos c]; exact ⟨rfl, w1⟩
        · rw [if_neg c, if_neg c, ea]; exact hf j (by omega)
      · rw [sm_s, sm_c (g := fc) b 0 (fun j h1 h2 => by unfold va_up; rw [if_neg (by omega)]), hs]
        unfold va_up
        rw [if_pos (by omega)]
  refine vc_62_0 tt _ h _ _ ?_
  simp (disch := omega) only [f, qi_sub, qi_lt, qi_le, qi_eq, qi_nn, qi_in, qi_add, qi_l, ql_i, ql_lt, ql_le, ql_eq, ql_add, qc_lt, qc_eq, qc_ge, qc_gt, qc_le, true_and, and_true, and_self, true_or, or_true, false_or, or_false, false_and, and_false, not_true_eq_false, not_false_eq_true, Classical.not_not, true_implies, false_implies, implies_true, exists_eq_left, exists_eq_left', Option.some.injEq, reduceIte, Nat.reduceEqDiff, Nat.reduceLT, Nat.reduceLeDiff, Nat.reduceAdd, Nat.reduceSub, Nat.reduceMul, eq_self, ne_eq, and_imp, forall_const, reduceCtorEq, am_w, List.map_cons, List.map_nil, List.sum_cons, List.sum_nil, Value.category, Nat.zero_le, Nat.le_refl]
  exact key B 0 h p 0 _ (by omega) x rf.re (fun j hj => absurd hj (Nat.not_lt_zero j)) rfl (by omega) hr
def Xl (k : Nat) : Prop := k = 46 ∨ k = 48 ∨ k = 49 ∨ k = 50
theorem Xl_A {k : Nat} (h : Xl k) : XA wa k := by unfold Xl at h; unfold XA; omega
def XcK (F : Fn) (n : Nat) : FI → Nat → Except pe ((FI × (Nat → Int64)) × Nat) := fun x p => bd (tX F n p 10) fun _ p => bd (tX F n p 1) fun _ p => bd (lCk F n x.1 0 p (fun _ => Int64.ofNat 0)) fun c p => bd (tX F n p 0) fun _ p => .ok ((x, c), p)
def tfQ (tt : Nat → Nat) (h0 : am_H) (cd : Nat → Nat) (bb : Nat → Nat → Nat) (wa wt n : Nat) (h : am_H) (r : Except pe ((FI × (Nat → Int64)) × Nat)) (h' : am_H) : Prop := ∃ z c p', r = .ok ((z, c), p') ∧ CX tt h0 cd bb wa wt n h' p' ∧ rf cd Xl Yi h h' ∧ FR cd h' z ∧ z.1 ≤ 24 ∧ ∀ f, f < z.1 → am_A h' (cd 50) f = (c f).toInt32
theorem tf_tl (ci : ci_s cd bb) {r : Except pe ((FI × (Nat → Int64)) × Nat)} {k : am_H} {q : Nat} {z : FI} (y : CX tt h0 cd bb wa wt n k q) (fk : rf cd Xl Yi h k) (fr : FR cd k z) (h24 : z.1 ≤ 24) (q1 : 1 ≤ q) {a1 : Int32} (hr : r = bd (if a1 = Int32.ofNat 10 then .ok ((), q) else .error (2, q - 1)) fun _ p => bd (tX (FF cd wt h0) n p 1) fun _ p => bd (lCk (FF cd wt h0) n z.1 0 p (fun _ => Int64.ofNat 0)) fun c p => bd (tX (FF cd wt h0) n p 0) fun _ p => .ok ((z, c), p)) :
    am_Ev tt 61 78 [some (.ref (cd 32)), some (.int a1), none] [] k (am_pV (tfQ tt h0 cd bb wa wt n h r) (ER cd wa h0 r)) := by
  have F := y.f
  have lp : ∀ (d i : Nat) (k2 : am_H) (q2 : Nat) (c : Nat → Int64), d + i = z.1 → CX tt h0 cd bb wa wt n k2 q2 → rf cd Xl Yi h k2 → FR cd k2 z → (∀ j, j < i → am_A k2 (cd 50) j = (c j).toInt32) → r = bd (lCk (FF cd wt h0) n d i q2 c) (fun c p => bd (tX (FF cd wt h0) n p 0) fun _ p => .ok ((z, c), p)) →
      am_Ev tt 61 101 [some (.ref (cd 32)), none, some (.int (Int32.ofNat i))] [] k2 (am_pV (tfQ tt h0 cd bb wa wt n h r) (ER cd wa h0 r)) := by
    intro d
    induction d with
    | zero =>
      intro i k2 q2 c e y2 f2 fr2 hc hr2
      have F2 := y2.f
      have ei : i = z.1 := by omega
      rw [ei] at hc ⊢
      have i7 := fr2.1
      refine vc_61_101 tt _ _ _ _ _ ?_
      simp (disch := omega) only [F2, i7, qi_lt, qi_le, qi_eq, qi_nn, qi_in, qi_add, qi_l, ql_i, ql_lt, ql_le, ql_eq, ql_add, qc_lt, qc_eq, qc_ge, qc_gt, qc_le, true_and, and_true, and_self, true_or, or_true, false_or, or_false, false_and, and_false, not_true_eq_false, not_false_eq_true, Classical.not_not, true_implies, false_implies, implies_true, exists_eq_left, exists_eq_left', Option.some.injEq, reduceIte, Nat.reduceEqDiff, Nat.reduceLT, Nat.reduceLeDiff, Nat.reduceAdd, Nat.reduceSub, Nat.reduceMul, eq_self, ne_eq, and_imp, forall_const, reduceCtorEq, am_w, List.map_cons, List.map_nil, List.sum_cons, List.sum_nil, Value.category, Nat.zero_le, Nat.le_refl]
      refine (y2.x hr2 fun h3 e3 x3 r3 => ?_).2
      have f3 : rf cd Xl Yi k2 h3 := by rw [e3]; exact rf.mv (Or.inl ⟨rfl, rfl, rfl⟩)
      refine ⟨z, c, q2 + 1, r3, x3, f2.tr f3, ?_, h24, fun j hj => ?_⟩
      · rw [e3]; exact ⟨by rw [cp]; simp only [am_hs, true_and, and_true, and_self, true_or, or_true, false_or, or_false, false_and, and_false, not_true_eq_false, not_false_eq_true, Classical.not_not, true_implies, false_implies, implies_true, exists_eq_left, exists_eq_left', Option.some.injEq, reduceIte, Nat.reduceEqDiff, Nat.reduceLT, Nat.reduceLeDiff, Nat.reduceAdd, Nat.reduceSub, Nat.reduceMul, eq_self, ne_eq, and_imp, forall_const, reduceCtorEq, am_w, List.map_cons, List.map_nil, List.sum_cons, List.sum_nil, Value.category, Nat.zero_le, Nat.le_refl]; exact i7, fr2.2⟩
      · rw [e3]; exact hc j hj
    | succ d ih =>
      intro i k2 q2 c e y2 f2 fr2 hc hr2
      have F2 := y2.f
      have i7 := fr2.1
      have hi : i < 24 := by omega
      rw [lCk, bd_as] at hr2
      refine vc_61_101 tt _ _ _ _ _ ?_
      simp (disch := omega) only [F2, i7, qi_lt, qi_le, qi_eq, qi_nn, qi_in, qi_add, qi_l, ql_i, ql_lt, ql_le, ql_eq, ql_add, qc_lt, qc_eq, qc_ge, qc_gt, qc_le, true_and, and_true, and_self, true_or, or_true, false_or, or_false, false_and, and_false, not_true_eq_false, not_false_eq_true, Classical.not_not, true_implies, false_implies, implies_true, exists_eq_left, exists_eq_left', Option.some.injEq, reduceIte, Nat.reduceEqDiff, Nat.reduceLT, Nat.reduceLeDiff, Nat.reduceAdd, Nat.reduceSub, Nat.reduceMul, eq_self, ne_eq, and_imp, forall_const, reduceCtorEq, am_w, List.map_cons, List.map_nil, List.sum_cons, List.sum_nil, Value.category, Nat.zero_le, Nat.le_refl]
      refine ⟨fun z => by omega, fun _ => (y2.l (by omega) hr2 fun v h3 hn ev e3 x3 r3 => ?_).2⟩
      have F3 := x3.f
      have f3 : rf cd Xl Yi k2 h3 := by rw [e3]; exact rf.mv (Or.inl ⟨rfl, rfl, rfl⟩)
      have ea : am_A h3 = am_A k2 := by rw [e3]; rfl
      have n58 : cd 48 ≠ cd 50 ∧ cd 49 ≠ cd 50 := ⟨fun e => by have := ci.1 _ _ e; omega, fun e => by have := ci.1 _ _ e; omega⟩
      simp (disch := omega) only [F3, hi, qi_lt, qi_le, qi_eq, qi_nn, qi_in, qi_add, qi_l, ql_i, ql_lt, ql_le, ql_eq, ql_add, qc_lt, qc_eq, qc_ge, qc_gt, qc_le, true_and, and_true, and_self, true_or, or_true, false_or, or_false, false_and, and_false, not_true_eq_false, not_false_eq_true, Classical.not_not, true_implies, false_implies, implies_true, exists_eq_left, exists_eq_left', Option.some.injEq, reduceIte, Nat.reduceEqDiff, Nat.reduceLT, Nat.reduceLeDiff, Nat.reduceAdd, Nat.reduceSub, Nat.reduceMul, eq_self, ne_eq, and_imp, forall_const, reduceCtorEq, am_w, List.map_cons, List.map_nil, List.sum_cons, List.sum_nil, Value.category, Nat.zero_le, Nat.le_refl]
      refine ih (i + 1) _ _ _ (by omega) (x3.on (rf.sA (by unfold XA; omega)) rfl rfl (fun _ _ => rfl)) (f2.tr (f3.tr (rf.sA (by unfold Xl; omega)))) ⟨?_, fun j hj => ?_⟩ (fun j hj => ?_) r3
      · simp only [am_hs]
        rw [e3, cp]; simp only [am_hs, true_and, and_true, and_self, true_or, or_true, false_or, or_false, false_and, and_false, not_true_eq_false, not_false_eq_true, Classical.not_not, true_implies, false_implies, implies_true, exists_eq_left, exists_eq_left', Option.some.injEq, reduceIte, Nat.reduceEqDiff, Nat.reduceLT, Nat.reduceLeDiff, Nat.reduceAdd, Nat.reduceSub, Nat.reduceMul, eq_self, ne_eq, and_imp, forall_const, reduceCtorEq, am_w, List.map_cons, List.map_nil, List.sum_cons, List.sum_nil, Value.category, Nat.zero_le, Nat.le_refl]; exact i7
      · simp only [am_hs]
        rw [if_neg (fun z => n58.1 z.1), if_neg (fun z => n58.2 z.1), ea]
        exact fr2.2 j hj
      · simp only [am_hs, true_and, and_true, and_self, true_or, or_true, false_or, or_false, false_and, and_false, not_true_eq_false, not_false_eq_true, Classical.not_not, true_implies, false_implies, implies_true, exists_eq_left, exists_eq_left', Option.some.injEq, reduceIte, Nat.reduceEqDiff, Nat.reduceLT, Nat.reduceLeDiff, Nat.reduceAdd, Nat.reduceSub, Nat.reduceMul, eq_self, ne_eq, and_imp, forall_const, reduceCtorEq, am_w, List.map_cons, List.map_nil, List.sum_cons, List.sum_nil, Value.category, Nat.zero_le, Nat.le_refl]
        unfold va_up
        by_cases c : j = i
        · rw [if_pos c, if_pos c]
        · rw [if_neg c, if_neg c, ea]; exact hc j (by omega)
  have l91 : ∀ (hr2 : r = bd (tX (FF cd wt h0) n q 1) fun _ p => bd (lCk (FF cd wt h0) n z.1 0 p (fun _ => Int64.ofNat 0)) fun c p => bd (tX (FF cd wt h0) n p 0) fun _ p => .ok ((z, c), p)), am_Ev tt 61 91 [some (.ref (cd 32)), none, none] [] k (am_pV (tfQ tt h0 cd bb wa wt n h r) (ER cd wa h0 r)) := by
    intro hr2
    refine vc_61_91 tt _ _ _ _ ?_
    simp (disch := omega) only [F, qi_lt, qi_le, qi_eq, qi_nn, qi_in, qi_add, qi_l, ql_i, ql_lt, ql_le, ql_eq, ql_add, qc_lt, qc_eq, qc_ge, qc_gt, qc_le, true_and, and_true, and_self, true_or, or_true, false_or, or_false, false_and, and_false, not_true_eq_false, not_false_eq_true, Classical.not_not, true_implies, false_implies, implies_true, exists_eq_left, exists_eq_left', Option.some.injEq, reduceIte, Nat.reduceEqDiff, Nat.reduceLT, Nat.reduceLeDiff, Nat.reduceAdd, Nat.reduceSub, Nat.reduceMul, eq_self, ne_eq, and_imp, forall_const, reduceCtorEq, am_w, List.map_cons, List.map_nil, List.sum_cons, List.sum_nil, Value.category, Nat.zero_le, Nat.le_refl]
    refine (y.x hr2 fun h3 e3 x3 r3 => ?_).2
    have f3 : rf cd Xl Yi k h3 := by rw [e3]; exact rf.mv (Or.inl ⟨rfl, rfl, rfl⟩)
    refine lp z.1 0 h3 (q + 1) _ (by omega) x3 (fk.tr f3) ?_ (fun j hj => absurd hj (Nat.not_lt_zero j)) r3
    rw [e3]; exact ⟨by rw [cp]; simp only [am_hs, true_and, and_true, and_self, true_or, or_true, false_or, or_false, false_and, and_false, not_true_eq_false, not_false_eq_true, Classical.not_not, true_implies, false_implies, implies_true, exists_eq_left, exists_eq_left', Option.some.injEq, reduceIte, Nat.reduceEqDiff, Nat.reduceLT, Nat.reduceLeDiff, Nat.reduceAdd, Nat.reduceSub, Nat.reduceMul, eq_self, ne_eq, and_imp, forall_const, reduceCtorEq, am_w, List.map_cons, List.map_nil, List.sum_cons, List.sum_nil, Value.category, Nat.zero_le, Nat.le_refl]; exact fr.1, fr.2⟩
  refine vc_61_78 tt _ _ _ _ _ ⟨fun c => ?_, fun c => ?_⟩
  · rw [if_pos c] at hr
    exact l91 hr
  · rw [if_neg c] at hr
    simp (disch := omega) only [F, qi_lt, qi_le, qi_eq, qi_nn, qi_in, qi_add, qi_l, ql_i, ql_lt, ql_le, ql_eq, ql_add, qc_lt, qc_eq, qc_ge, qc_gt, qc_le, true_and, and_true, and_self, true_or, or_true, false_or, or_false, false_and, and_false, not_true_eq_false, not_false_eq_true, Classical.not_not, true_implies, false_implies, implies_true, exists_eq_left, exists_eq_left', Option.some.injEq, reduceIte, Nat.reduceEqDiff, Nat.reduceLT, Nat.reduceLeDiff, Nat.reduceAdd, Nat.reduceSub, Nat.reduceMul, eq_self, ne_eq, and_imp, forall_const, reduceCtorEq, am_w, List.map_cons, List.map_nil, List.sum_cons, List.sum_nil, Value.category, Nat.zero_le, Nat.le_refl]
    exact ⟨_, _, y.fl q1 hr, fun _ z => z.elim, fun _ _ z => z⟩
theorem ct_takeFiles (x : CX tt h0 cd bb wa wt n h p) {B : Nat} (hB : B ≤ 6) (hI : am_I h 5 1 (cd 32) = Int32.ofNat B) {g : Nat → Nat} (hg : ∀ b, b < B → am_A h (cd 45) b = Int32.ofNat (g b) ∧ g b ≤ 2400) (h7 : am_I h 5 7 (cd 32) = Int32.ofNat 0) {r : Except pe ((FI × (Nat → Int64)) × Nat)} (hr : r = pFI (FF cd wt h0) n B g p) :
    am_Ct tt 61 [.ref (cd 32)] h (am_pV (tfQ tt h0 cd bb wa wt n h r) (ER cd wa h0 r)) := by
  have ci := x.ci
  have f := x.f
  unfold pFI at hr
  refine vc_61_0 tt _ h _ _ ?_
  simp (disch := omega) only [f, qi_lt, qi_le, qi_eq, qi_nn, qi_in, qi_add, qi_l, ql_i, ql_lt, ql_le, ql_eq, ql_add, qc_lt, qc_eq, qc_ge, qc_gt, qc_le, true_and, and_true, and_self, true_or, or_true, false_or, or_false, false_and, and_false, not_true_eq_false, not_false_eq_true, Classical.not_not, true_implies, false_implies, implies_true, exists_eq_left, exists_eq_left', Option.some.injEq, reduceIte, Nat.reduceEqDiff, Nat.reduceLT, Nat.reduceLeDiff, Nat.reduceAdd, Nat.reduceSub, Nat.reduceMul, eq_self, ne_eq, and_imp, forall_const, reduceCtorEq, am_w, List.map_cons, List.map_nil, List.sum_cons, List.sum_nil, Value.category, Nat.zero_le, Nat.le_refl]
  refine (x.x hr fun h2 e2 x2 r2 => ?_).2
  have f2 := x2.f
  simp (disch := omega) only [f2, qi_lt, qi_le, qi_eq, qi_nn, qi_in, qi_add, qi_l, ql_i, ql_lt, ql_le, ql_eq, ql_add, qc_lt, qc_eq, qc_ge, qc_gt, qc_le, true_and, and_true, and_self, true_or, or_true, false_or, or_false, false_and, and_false, not_true_eq_false, not_false_eq_true, Classical.not_not, true_implies, false_implies, implies_true, exists_eq_left, exists_eq_left', Option.some.injEq, reduceIte, Nat.reduceEqDiff, Nat.reduceLT, Nat.reduceLeDiff, Nat.reduceAdd, Nat.reduceSub, Nat.reduceMul, eq_self, ne_eq, and_imp, forall_const, reduceCtorEq, am_w, List.map_cons, List.map_nil, List.sum_cons, List.sum_nil, Value.category, Nat.zero_le, Nat.le_refl]
  refine (x2.b r2 fun t h3 hn et e3 x3 r3 => ?_).2
  have f3 := x3.f
  have fr3 : rf cd Xl Yi h h3 := by rw [e3, e2]; exact (rf.mv (Or.inl ⟨rfl, rfl, rfl⟩)).tr (rf.mv (Or.inl ⟨rfl, rfl, rfl⟩))
  have ea3 : am_A h3 = am_A h := by rw [e3, e2]; rfl
  have i3 : am_I h3 5 1 (cd 32) = Int32.ofNat B := by rw [fr3.i ci (by unfold Yi; omega)]; exact hI
  have i37 : am_I h3 5 7 (cd 32) = Int32.ofNat 0 := by rw [e3, e2, cp, cp]; simp only [am_hs, true_and, and_true, and_self, true_or, or_true, false_or, or_false, false_and, and_false, not_true_eq_false, not_false_eq_true, Classical.not_not, true_implies, false_implies, implies_true, exists_eq_left, exists_eq_left', Option.some.injEq, reduceIte, Nat.reduceEqDiff, Nat.reduceLT, Nat.reduceLeDiff, Nat.reduceAdd, Nat.reduceSub, Nat.reduceMul, eq_self, ne_eq, and_imp, forall_const, reduceCtorEq, am_w, List.map_cons, List.map_nil, List.sum_cons, List.sum_nil, Value.category, Nat.zero_le, Nat.le_refl]; exact h7
  refine ⟨fun c => ?_, fun c => ?_⟩
  · rw [if_neg c] at r3
    -- one file a block
    have lp : ∀ (d i : Nat) (k : am_H), d + i = B → CX tt h0 cd bb wa wt n k (p + 1 + 1) → rf cd Xj Yc h3 k → (∀ j, j < i → am_A k (cd 46) j = Int32.ofNat 1) → am_Ev tt 61 53 [some (.ref (cd 32)), some (.int t), some (.int (Int32.ofNat i))] [] k (am_pV (tfQ tt h0 cd bb wa wt n h r) (ER cd wa h0 r)) := by
      intro d
      induction d with
      | zero =>
        intro i k e y fk hj
        have F := y.f
        have ei : i = B := by omega
        rw [ei] at hj ⊢
        have ik : am_I k 5 1 (cd 32) = Int32.ofNat B := by rw [fk.i ci (by unfold Yc; omega)]; exact i3
        refine vc_61_53 tt _ _ _ _ _ _ ?_
        simp (disch := omega) only [F, ik, qi_lt, qi_le, qi_eq, qi_nn, qi_in, qi_add, qi_l, ql_i, ql_lt, ql_le, ql_eq, ql_add, qc_lt, qc_eq, qc_ge, qc_gt, qc_le, true_and, and_true, and_self, true_or, or_true, false_or, or_false, false_and, and_false, not_true_eq_false, not_false_eq_true, Classical.not_not, true_implies, false_implies, implies_true, exists_eq_left, exists_eq_left', Option.some.injEq, reduceIte, Nat.reduceEqDiff, Nat.reduceLT, Nat.reduceLeDiff, Nat.reduceAdd, Nat.reduceSub, Nat.reduceMul, eq_self, ne_eq, and_imp, forall_const, reduceCtorEq, am_w, List.map_cons, List.map_nil, List.sum_cons, List.sum_nil, Value.category, Nat.zero_le, Nat.le_refl]
        have lf := sm_le (f := fun _ => 1) 1 B 0 (fun j _ _ => Nat.le_refl 1)
        refine ⟨_, _, ct_takeFileSizes y hB ik (g := g) (fc := fun _ => 1) (fun b hb => ?_) (fun b hb => ⟨hj b hb, Nat.le_refl 1⟩) (by omega) ?_ (p0 := p + 1) (Or.inl (fun _ _ => rfl)) rfl, fun k2 w => ?_, fun E h2 w => w.bd r3⟩
        · rw [fk.a ci (by unfold Xj; omega), ea3]; exact hg b hb
        · rw [fk.i ci (by unfold Yc; omega)]; exact i37
        · obtain ⟨z, p0', p', w1, w2, w3, w4, w5, w6⟩ := w
          have w7 := lFs_1 B 0 (p + 1) _ (fun j _ _ => rfl) w1
          have w6 : p0' = p + 1 ∧ p' = p + 1 + 1 := ⟨w7, by omega⟩
          obtain ⟨rfl, rfl⟩ := w6
          rw [bd_ok w1] at r3
          refine tf_tl ci w2 (fr3.tr ((fk.mo (fun k z => Or.inl z) (fun c g k z => Or.inl z)).tr (w3.mo (fun k z => Or.inr (by unfold Xi at z; omega)) (fun c g k z => z)))) w4 w5 (by omega) ?_
          rw [r3]
          rw [show tX (FF cd wt h0) n (p + 1) 10 = if t = Int32.ofNat 10 then .ok ((), p + 1 + 1) else .error (2, p + 1 + 1 - 1) from by unfold tX; rw [if_pos hn, et]; rfl]
      | succ d ih =>
        intro i k e y fk hj
        have F := y.f
        have hi : i < 6 := by omega
        have ik : am_I k 5 1 (cd 32) = Int32.ofNat B := by rw [fk.i ci (by unfold Yc; omega)]; exact i3
        refine vc_61_53 tt _ _ _ _ _ _ ?_
        simp (disch := omega) only [F, ik, hi, qi_lt, qi_le, qi_eq, qi_nn, qi_in, qi_add, qi_l, ql_i, ql_lt, ql_le, ql_eq, ql_add, qc_lt, qc_eq, qc_ge, qc_gt, qc_le, true_and, and_true, and_self, true_or, or_true, false_or, or_false, false_and, and_false, not_true_eq_false, not_false_eq_true, Classical.not_not, true_implies, false_implies, implies_true, exists_eq_left, exists_eq_left', Option.some.injEq, reduceIte, Nat.reduceEqDiff, Nat.reduceLT, Nat.reduceLeDiff, Nat.reduceAdd, Nat.reduceSub, Nat.reduceMul, eq_self, ne_eq, and_imp, forall_const, reduceCtorEq, am_w, List.map_cons, List.map_nil, List.sum_cons, List.sum_nil, Value.category, Nat.zero_le, Nat.le_refl]
        refine ⟨fun z => by omega, fun _ => ih (i + 1) _ (by omega) (y.on (rf.sA (by unfold XA; omega)) rfl rfl (fun _ _ => rfl)) (fk.tr (rf.sA rfl)) (fun j hj2 => ?_)⟩
        simp only [am_hs, true_and, and_true, and_self, true_or, or_true, false_or, or_false, false_and, and_false, not_true_eq_false, not_false_eq_true, Classical.not_not, true_implies, false_implies, implies_true, exists_eq_left, exists_eq_left', Option.some.injEq, reduceIte, Nat.reduceEqDiff, Nat.reduceLT, Nat.reduceLeDiff, Nat.reduceAdd, Nat.reduceSub, Nat.reduceMul, eq_self, ne_eq, and_imp, forall_const, reduceCtorEq, am_w, List.map_cons, List.map_nil, List.sum_cons, List.sum_nil, Value.category, Nat.zero_le, Nat.le_refl]
        by_cases c : j = i
        · rw [if_pos c]
        · rw [if_neg c]; exact hj j (by omega)
    exact lp B 0 h3 (by omega) x3 rf.re (fun j hj => absurd hj (Nat.not_lt_zero j))
  · rw [if_pos c] at r3
    have e13 : ∀ (X : (Nat → Nat) → Nat → Except pe (FI × Nat)), (bd (lFc (FF cd wt h0) n B 0 (p + 1 + 1) 0 (fun _ => 0)) fun sf p2 => if sf.1 = B then .error (2, p + 1) else X sf.2 p2) = bd (bd (lFc (FF cd wt h0) n B 0 (p + 1 + 1) 0 (fun _ => 0)) fun sf p2 => if sf.1 = B then .error (2, p + 1 + 1 - 1) else .ok (sf.2, p2)) X := by
      intro X
      rw [bd_as]
      congr 1
      funext sf p2
      split <;> rfl
    rw [e13 (fun fc p2 => bd (tX (FF cd wt h0) n p2 9) fun _ p3 => lFs (FF cd wt h0) n g fc B 0 p3 FI0), bd_as] at r3
    simp (disch := omega) only [f3, qi_lt, qi_le, qi_eq, qi_nn, qi_in, qi_add, qi_l, ql_i, ql_lt, ql_le, ql_eq, ql_add, qc_lt, qc_eq, qc_ge, qc_gt, qc_le, true_and, and_true, and_self, true_or, or_true, false_or, or_false, false_and, and_false, not_true_eq_false, not_false_eq_true, Classical.not_not, true_implies, false_implies, implies_true, exists_eq_left, exists_eq_left', Option.some.injEq, reduceIte, Nat.reduceEqDiff, Nat.reduceLT, Nat.reduceLeDiff, Nat.reduceAdd, Nat.reduceSub, Nat.reduceMul, eq_self, ne_eq, and_imp, forall_const, reduceCtorEq, am_w, List.map_cons, List.map_nil, List.sum_cons, List.sum_nil, Value.category, Nat.zero_le, Nat.le_refl]
    refine ⟨_, _, ct_takeFileCounts x3 (by omega) hB i3 rfl, fun k2 w => ?_, fun E h2 w => w.bd r3⟩
    obtain ⟨fc, p4, w1, y4, fr4, w4, w5⟩ := w
    rw [bd_ok w1, bd_as] at r3
    have f4 := y4.f
    simp (disch := omega) only [f4, qi_lt, qi_le, qi_eq, qi_nn, qi_in, qi_add, qi_l, ql_i, ql_lt, ql_le, ql_eq, ql_add, qc_lt, qc_eq, qc_ge, qc_gt, qc_le, true_and, and_true, and_self, true_or, or_true, false_or, or_false, false_and, and_false, not_true_eq_false, not_false_eq_true, Classical.not_not, true_implies, false_implies, implies_true, exists_eq_left, exists_eq_left', Option.some.injEq, reduceIte, Nat.reduceEqDiff, Nat.reduceLT, Nat.reduceLeDiff, Nat.reduceAdd, Nat.reduceSub, Nat.reduceMul, eq_self, ne_eq, and_imp, forall_const, reduceCtorEq, am_w, List.map_cons, List.map_nil, List.sum_cons, List.sum_nil, Value.category, Nat.zero_le, Nat.le_refl]
    refine (y4.x r3 fun h5 e5 x5 r5 => ?_).2
    have f5 := x5.f
    have fr5 : rf cd Xj Yc h3 h5 := by rw [e5]; exact fr4.tr (rf.mv ⟨rfl, rfl, rfl⟩)
    simp (disch := omega) only [f5, qi_lt, qi_le, qi_eq, qi_nn, qi_in, qi_add, qi_l, ql_i, ql_lt, ql_le, ql_eq, ql_add, qc_lt, qc_eq, qc_ge, qc_gt, qc_le, true_and, and_true, and_self, true_or, or_true, false_or, or_false, false_and, and_false, not_true_eq_false, not_false_eq_true, Classical.not_not, true_implies, false_implies, implies_true, exists_eq_left, exists_eq_left', Option.some.injEq, reduceIte, Nat.reduceEqDiff, Nat.reduceLT, Nat.reduceLeDiff, Nat.reduceAdd, Nat.reduceSub, Nat.reduceMul, eq_self, ne_eq, and_imp, forall_const, reduceCtorEq, am_w, List.map_cons, List.map_nil, List.sum_cons, List.sum_nil, Value.category, Nat.zero_le, Nat.le_refl]
    refine ⟨_, _, ct_takeFileSizes x5 hB ?_ (g := g) (fc := fc) (fun b hb => ?_) (fun b hb => ?_) w5 ?_ (Or.inr rfl) rfl, fun k6 w => ?_, fun E h2 w => w.bd r5⟩
    · rw [fr5.i ci (by unfold Yc; omega)]; exact i3
    · rw [fr5.a ci (by unfold Xj; omega), ea3]; exact hg b hb
    · rw [e5]; exact w4 b hb
    · rw [fr5.i ci (by unfold Yc; omega)]; exact i37
    · obtain ⟨z, p0', p', v1, v2, v3, v4, v5, v6⟩ := w
      have e6 : p0' = p' := by omega
      subst e6
      rw [bd_ok v1, tX_B, bd_as] at r5
      have f6 := v2.f
      have fr6 : rf cd Xl Yi h k6 := fr3.tr ((fr5.mo (fun k z => Or.inl z) (fun c g k z => Or.inl z)).tr (v3.mo (fun k z => Or.inr (by unfold Xi at z; omega)) (fun c g k z => z)))
      simp (disch := omega) only [f6, qi_lt, qi_le, qi_eq, qi_nn, qi_in, qi_add, qi_l, ql_i, ql_lt, ql_le, ql_eq, ql_add, qc_lt, qc_eq, qc_ge, qc_gt, qc_le, true_and, and_true, and_self, true_or, or_true, false_or, or_false, false_and, and_false, not_true_eq_false, not_false_eq_true, Classical.not_not, true_implies, false_implies, implies_true, exists_eq_left, exists_eq_left', Option.some.injEq, reduceIte, Nat.reduceEqDiff, Nat.reduceLT, Nat.reduceLeDiff, Nat.reduceAdd, Nat.reduceSub, Nat.reduceMul, eq_self, ne_eq, and_imp, forall_const, reduceCtorEq, am_w, List.map_cons, List.map_nil, List.sum_cons, List.sum_nil, Value.category, Nat.zero_le, Nat.le_refl]
      refine (v2.b r5 fun t7 h7 hn7 et7 e7 x7 r7 => ?_).2
      have fr7 : rf cd Xl Yi k6 h7 := by rw [e7]; exact rf.mv (Or.inl ⟨rfl, rfl, rfl⟩)
      exact tf_tl ci x7 (fr6.tr fr7) (by rw [e7]; exact ⟨by rw [cp]; simp only [am_hs, true_and, and_true, and_self, true_or, or_true, false_or, or_false, false_and, and_false, not_true_eq_false, not_false_eq_true, Classical.not_not, true_implies, false_implies, implies_true, exists_eq_left, exists_eq_left', Option.some.injEq, reduceIte, Nat.reduceEqDiff, Nat.reduceLT, Nat.reduceLeDiff, Nat.reduceAdd, Nat.reduceSub, Nat.reduceMul, eq_self, ne_eq, and_imp, forall_const, reduceCtorEq, am_w, List.map_cons, List.map_nil, List.sum_cons, List.sum_nil, Value.category, Nat.zero_le, Nat.le_refl]; exact v4.1, v4.2⟩) v5 (by omega) r7
end RD3
