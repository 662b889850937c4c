/-! deps: 19m -/
/-! ===== the class reads: the whole tape ===== -/
/-! 51 yX5_begin -/
theorem vc_51_0 (tt : Nat → Nat) (a0 : Nat) (h : am_H) (Q : am_H → Prop) (Qx : String → am_H → Prop) (q :
  (am_K h a0 = 6 ∧
  (am_K h a0 = 6 ∧
  Q (am_sI (am_sI h 5 1 a0 (Int32.ofNat 0)) 5 7 a0 (Int32.ofNat 0))))) :
  am_Ev tt 51 0 [some (.ref a0)] [] h (am_pV Q Qx) := am_vc 9 [] q

/-! 81 yX7_takeTape -/
theorem vc_81_0 (tt : Nat → Nat) (a0 : Nat) (a1 : Nat) (a2 : Nat) (h : am_H) (Q : am_H → Prop) (Qx : String → am_H → Prop) (q :
  (am_K h a0 = 8 ∧ ∃ q1, am_R h 7 0 a0 = some q1 ∧
  (am_K h q1 = 3 ∧ ∃ (Q3 : am_H → Prop) (X3 : String → am_H → Prop), am_Ct tt 21 [.ref q1, .ref a1] h (am_pV Q3 X3) ∧ (∀ h2, Q3 h2 →
   (am_K h2 a0 = 8 ∧ ∃ q4, am_R h2 7 1 a0 = some q4 ∧
   (am_K h2 q4 = 6 ∧ ∃ (Q6 : am_H → Prop) (X6 : String → am_H → Prop), am_Ct tt 51 [.ref q4] h2 (am_pV Q6 X6) ∧ (∀ h5, Q6 h5 →
    (am_K h5 a2 = 1 ∧ ∃ (Q8 : am_H → Prop) (X8 : String → am_H → Prop), am_Ct tt 1 [.ref a2] h5 (am_pV Q8 X8) ∧ (∀ h7, Q8 h7 →
     (am_K h7 a0 = 8 ∧ ∃ (Q10 : am_H → Prop) (X10 : String → am_H → Prop), am_Ct tt 82 [.ref a0, .ref a1] h7 (am_pV Q10 X10) ∧ (∀ h9, Q10 h9 →
      am_Ev tt 81 24 [some (.ref a0), some (.ref a1), some (.ref a2), none, none] [] h9 (am_pV Q Qx)) ∧ (∀ E11 h9, X10 E11 h9 → Qx E11 h9))) ∧ (∀ E12 h7, X8 E12 h7 → Qx E12 h7))) ∧ (∀ E13 h5, X6 E13 h5 → Qx E13 h5)))) ∧ (∀ E14 h2, X3 E14 h2 → Qx E14 h2)))) :
  am_Ev tt 81 0 [some (.ref a0), some (.ref a1), some (.ref a2), none, none] [] h (am_pV Q Qx) := am_vc 15 [(24, [true, true, true, false, false]), (67, [true, false, true, true, false]), (112, [true, false, true, false, false])] q
theorem vc_81_24 (tt : Nat → Nat) (a0 : Nat) (a1 : Nat) (a2 : Nat) (h : am_H) (Q : am_H → Prop) (Qx : String → am_H → Prop) (q :
  (am_K h a1 = 7 ∧ ∃ (Q2 : Int64 → am_H → Prop) (X2 : String → am_H → Prop), am_Ct tt 74 [.ref a1, .int (Int32.ofNat 20), .int (Int32.ofNat 8)] h (am_pL Q2 X2) ∧ (∀ x3 h1, Q2 x3 h1 →
   ((¬ (lg_cmp x3 (Int64.ofNat 0)) = (Int32.ofNat 0) →
    (am_K h1 a1 = 7 ∧ ∃ (Q5 : Int64 → am_H → Prop) (X5 : String → am_H → Prop), am_Ct tt 74 [.ref a1, .int (Int32.ofNat 12), .int (Int32.ofNat 8)] h1 (am_pL Q5 X5) ∧ (∀ x6 h4, Q5 x6 h4 →
     (am_K h4 a0 = 8 ∧ ∃ q7, am_R h4 7 0 a0 = some q7 ∧
     (am_K h4 q7 = 3 ∧
     (am_K h4 a0 = 8 ∧ ∃ q8, am_R h4 7 0 a0 = some q8 ∧
     (am_K h4 q8 = 3 ∧ ∃ (Q10 : am_H → Prop) (X10 : String → am_H → Prop), am_Ct tt 27 [.ref q8, .int (Int32.ofNat 1)] (am_sI h4 2 2 q7 ((Int32.ofNat 32) + (x6).toInt32)) (am_pV Q10 X10) ∧ (∀ h9, Q10 h9 →
      am_Ev tt 81 67 [some (.ref a0), none, some (.ref a2), some (.long x6), none] [] h9 (am_pV Q Qx)) ∧ (∀ E11 h9, X10 E11 h9 → Qx E11 h9)))))) ∧ (∀ E12 h4, X5 E12 h4 → Qx E12 h4))) ∧
   (¬ (¬ (lg_cmp x3 (Int64.ofNat 0)) = (Int32.ofNat 0)) →
    Q h1))) ∧ (∀ E13 h1, X2 E13 h1 → Qx E13 h1))) :
  am_Ev tt 81 24 [some (.ref a0), some (.ref a1), some (.ref a2), none, none] [] h (am_pV Q Qx) := am_vc 26 [(24, [true, true, true, false, false]), (67, [true, false, true, true, false]), (112, [true, false, true, false, false])] q
theorem vc_81_67 (tt : Nat → Nat) (a0 : Nat) (a2 : Nat) (a3 : Int64) (h : am_H) (Q : am_H → Prop) (Qx : String → am_H → Prop) (q :
  (((lg_cmp a3 (Int64.ofNat 0)) ≤ (Int32.ofNat 0) →
   am_Ev tt 81 112 [some (.ref a0), none, some (.ref a2), none, none] [] h (am_pV Q Qx)) ∧
  (¬ ((lg_cmp a3 (Int64.ofNat 0)) ≤ (Int32.ofNat 0)) →
   (am_K h a0 = 8 ∧ ∃ q1, am_R h 7 0 a0 = some q1 ∧
   (am_K h q1 = 3 ∧ ∃ (Q3 : am_H → Prop) (X3 : String → am_H → Prop), am_Ct tt 27 [.ref q1, .int (Int32.ofNat 4)] h (am_pV Q3 X3) ∧ (∀ h2, Q3 h2 →
    (am_K h2 a0 = 8 ∧ ∃ q4, am_R h2 7 1 a0 = some q4 ∧
    (am_K h2 q4 = 6 ∧ ∃ (Q6 : am_H → Prop) (X6 : String → am_H → Prop), am_Ct tt 52 [.ref q4, .long a3] h2 (am_pV Q6 X6) ∧ (∀ h5, Q6 h5 →
     (am_K h5 a0 = 8 ∧ ∃ q7, am_R h5 7 1 a0 = some q7 ∧
     (am_K h5 q7 = 6 ∧ ∃ (Q9 : am_H → Prop) (X9 : String → am_H → Prop), am_Ct tt 53 [.ref q7, .ref a2] h5 (am_pV Q9 X9) ∧ (∀ h8, Q9 h8 →
      (am_K h8 a0 = 8 ∧ ∃ q10, am_R h8 7 1 a0 = some q10 ∧
      (am_K h8 q10 = 6 ∧ ∃ (Q12 : am_H → Prop) (X12 : String → am_H → Prop), am_Ct tt 61 [.ref q10] h8 (am_pV Q12 X12) ∧ (∀ h11, Q12 h11 →
       (am_K h11 a0 = 8 ∧ ∃ q13, am_R h11 7 0 a0 = some q13 ∧
       (am_K h11 q13 = 3 ∧ ∃ (Q15 : am_H → Prop) (X15 : String → am_H → Prop), am_Ct tt 27 [.ref q13, .int (Int32.ofNat 0)] h11 (am_pV Q15 X15) ∧ (∀ h14, Q15 h14 →
        am_Ev tt 81 112 [some (.ref a0), none, some (.ref a2), none, none] [] h14 (am_pV Q Qx)) ∧ (∀ E16 h14, X15 E16 h14 → Qx E16 h14)))) ∧ (∀ E17 h11, X12 E17 h11 → Qx E17 h11)))) ∧ (∀ E18 h8, X9 E18 h8 → Qx E18 h8)))) ∧ (∀ E19 h5, X6 E19 h5 → Qx E19 h5)))) ∧ (∀ E20 h2, X3 E20 h2 → Qx E20 h2)))))) :
  am_Ev tt 81 67 [some (.ref a0), none, some (.ref a2), some (.long a3), none] [] h (am_pV Q Qx) := am_vc 26 [(24, [true, true, true, false, false]), (67, [true, false, true, true, false]), (112, [true, false, true, false, false])] q
theorem vc_81_112 (tt : Nat → Nat) (a0 : Nat) (a2 : Nat) (h : am_H) (Q : am_H → Prop) (Qx : String → am_H → Prop) (q :
  (am_K h a0 = 8 ∧ ∃ q1, am_R h 7 0 a0 = some q1 ∧
  (am_K h q1 = 3 ∧ ∃ (Q3 : am_H → Prop) (X3 : String → am_H → Prop), am_Ct tt 27 [.ref q1, .int (Int32.ofNat 5)] h (am_pV Q3 X3) ∧ (∀ h2, Q3 h2 →
   (am_K h2 a0 = 8 ∧ ∃ q4, am_R h2 7 2 a0 = some q4 ∧
   (am_K h2 a0 = 8 ∧ ∃ q5, am_R h2 7 1 a0 = some q5 ∧
   (am_K h2 q4 = 4 ∧ ∃ (Q7 : am_H → Prop) (X7 : String → am_H → Prop), am_Ct tt 32 [.ref q4, .ref q5, .ref a2] h2 (am_pV Q7 X7) ∧ (∀ h6, Q7 h6 →
    (am_K h6 a0 = 8 ∧ ∃ q8, am_R h6 7 2 a0 = some q8 ∧
    (am_K h6 q8 = 4 ∧ ∃ (Q10 : am_H → Prop) (X10 : String → am_H → Prop), am_Ct tt 37 [.ref q8, .ref a2] h6 (am_pV Q10 X10) ∧ (∀ h9, Q10 h9 →
     (am_K h9 a0 = 8 ∧ ∃ q11, am_R h9 7 2 a0 = some q11 ∧
     (am_K h9 q11 = 4 ∧ ∃ (Q13 : am_H → Prop) (X13 : String → am_H → Prop), am_Ct tt 39 [.ref q11, .ref a2] h9 (am_pV Q13 X13) ∧ (∀ h12, Q13 h12 →
      (am_K h12 a0 = 8 ∧ ∃ q14, am_R h12 7 0 a0 = some q14 ∧
      (am_K h12 q14 = 3 ∧ ∃ (Q16 : am_H → Prop) (X16 : String → am_H → Prop), am_Ct tt 27 [.ref q14, .int (Int32.ofNat 0)] h12 (am_pV Q16 X16) ∧ (∀ h15, Q16 h15 →
       (am_K h15 a0 = 8 ∧ ∃ q17, am_R h15 7 0 a0 = some q17 ∧
       (am_K h15 q17 = 3 ∧ ∃ (Q19 : am_H → Prop) (X19 : String → am_H → Prop), am_Ct tt 25 [.ref q17] h15 (am_pV Q19 X19) ∧ (∀ h18, Q19 h18 →
        Q h18) ∧ (∀ E20 h18, X19 E20 h18 → Qx E20 h18)))) ∧ (∀ E21 h15, X16 E21 h15 → Qx E21 h15)))) ∧ (∀ E22 h12, X13 E22 h12 → Qx E22 h12)))) ∧ (∀ E23 h9, X10 E23 h9 → Qx E23 h9)))) ∧ (∀ E24 h6, X7 E24 h6 → Qx E24 h6))))) ∧ (∀ E25 h2, X3 E25 h2 → Qx E25 h2)))) :
  am_Ev tt 81 112 [some (.ref a0), none, some (.ref a2), none, none] [] h (am_pV Q Qx) := am_vc 28 [(24, [true, true, true, false, false]), (67, [true, false, true, true, false]), (112, [true, false, true, false, false])] q

section RT
variable {tt : Nat → Nat} {h0 h h' h'' : am_H} {cd : Nat → Nat} {bb : Nat → Nat → Nat} {wa wt n p : Nat}
/-- begun -/
def hc (h : am_H) (cd : Nat → Nat) (wt n : Nat) : am_H := am_sI (am_sI (am_sI (am_sI (am_sR h 2 0 (cd 31) (some (cd (c_tb wt)))) 2 1 (cd 31) (Int32.ofNat n)) 2 2 (cd 31) (Int32.ofNat 0)) 2 3 (cd 31) (Int32.ofNat 0)) 2 4 (cd 31) (Int32.ofNat 0)
def hd (h : am_H) (cd : Nat → Nat) : am_H := am_sI (am_sI h 5 1 (cd 32) (Int32.ofNat 0)) 5 7 (cd 32) (Int32.ofNat 0)
def hB (h : am_H) (cd : Nat → Nat) (wa wt n : Nat) : am_H := emp (hd (hc h cd wt n) cd) cd (1 - wa) 6
theorem ct_cubegin (s : cl_s h cd bb wa wt) (hT : am_I h 6 1 (cd (c_tp wt)) = Int32.ofNat n) (h5 : n ≤ 5000) : am_Ct tt 21 [.ref (cd 31), .ref (cd (c_tp wt))] h (am_pV (fun h' => h' = hc h cd wt n) no_x) := by
  obtain ⟨s1, s2, s3, s4, s5, s6, s7⟩ := s
  obtain ⟨t1, t2, t3, t4⟩ := (s5 wt s2).2
  obtain ⟨r1, r2, r3, r4, r5, r6⟩ := s7
  refine vc_21_0 tt _ _ h _ _ ?_
  have q : ¬ 5000 < n := by omega
  have e : (if Int32.ofNat 5000 < Int32.ofNat n then Int32.ofNat 5000 else Int32.ofNat n) = Int32.ofNat n := by rw [if_neg (by rw [qi_lt (by omega) (by omega)]; exact q)]
  simp (disch := omega) only [t1, t2, r5, t3, t4, hT, am_hs, true_and, and_true, and_self, true_or, or_true, false_or, or_false, false_and, and_false, not_true_eq_false, not_false_eq_true, Classical.not_not, true_implies, false_implies, implies_true, exists_eq_left, exists_eq_left', Option.some.injEq, reduceIte, Nat.reduceEqDiff, Nat.reduceLT, Nat.reduceLeDiff, Nat.reduceAdd, Nat.reduceSub, Nat.reduceMul, eq_self, ne_eq, and_imp, forall_const, reduceCtorEq, am_w, List.map_cons, List.map_nil, List.sum_cons, List.sum_nil, Value.category, Nat.zero_le, Nat.le_refl]
  rw [e]
  rfl
theorem ct_stbegin (s : am_K h (cd 32) = 6) : am_Ct tt 51 [.ref (cd 32)] h (am_pV (fun h' => h' = hd h cd) no_x) := by
  refine vc_51_0 tt _ h _ _ ?_
  simp only [s, true_and, and_true, and_self, true_or, or_true, false_or, or_false, false_and, and_false, not_true_eq_false, not_false_eq_true, Classical.not_not, true_implies, false_implies, implies_true, exists_eq_left, exists_eq_left', Option.some.injEq, reduceIte, Nat.reduceEqDiff, Nat.reduceLT, Nat.reduceLeDiff, Nat.reduceAdd, Nat.reduceSub, Nat.reduceMul, eq_self, ne_eq, and_imp, forall_const, reduceCtorEq, am_w, List.map_cons, List.map_nil, List.sum_cons, List.sum_nil, Value.category, Nat.zero_le, Nat.le_refl]
  rfl
theorem cl_s.r2 (s : cl_s h cd bb wa wt) (hK : am_K h' = am_K h) (hN : am_N h' = am_N h) (hC : am_C h' = am_C h) (hR : ∀ c g a, c ≠ 2 → am_R h' c g a = am_R h c g a) : cl_s h' cd bb wa wt := by
  unfold cl_s cx_s car_s ce_s cb_s tp_s cw_s cr_s
  rw [hK, hN, hC]
  simp only [hR 9 _ _ (by decide), hR 0 _ _ (by decide), hR 4 _ _ (by decide), hR 1 _ _ (by decide), hR 6 _ _ (by decide), hR 8 _ _ (by decide), hR 7 _ _ (by decide), hR 5 _ _ (by decide), hR 3 _ _ (by decide)]
  exact s
theorem hc_f : am_K (hc h cd wt n) = am_K h ∧ am_N (hc h cd wt n) = am_N h ∧ am_C (hc h cd wt n) = am_C h ∧ am_A (hc h cd wt n) = am_A h ∧ am_B (hc h cd wt n) = am_B h ∧ am_J (hc h cd wt n) = am_J h ∧ am_U (hc h cd wt n) = am_U h ∧ am_V (hc h cd wt n) = am_V h ∧ (∀ c g a, ¬ (c = 2 ∧ g = 0 ∧ a = cd 31) → am_R (hc h cd wt n) c g a = am_R h c g a) := ⟨rfl, rfl, rfl, rfl, rfl, rfl, rfl, rfl, fun c g a z => by
  unfold hc
  simp only [am_hs]
  rw [if_neg z]⟩
theorem hd_f : am_K (hd h cd) = am_K h ∧ am_N (hd h cd) = am_N h ∧ am_C (hd h cd) = am_C h ∧ am_A (hd h cd) = am_A h ∧ am_B (hd h cd) = am_B h ∧ am_J (hd h cd) = am_J h ∧ am_U (hd h cd) = am_U h ∧ am_V (hd h cd) = am_V h ∧ am_R (hd h cd) = am_R h := ⟨rfl, rfl, rfl, rfl, rfl, rfl, rfl, rfl, rfl⟩
/-- what begins is little -/
theorem hB_f : am_K (hB h cd wa wt n) = am_K h ∧ am_N (hB h cd wa wt n) = am_N h ∧ am_C (hB h cd wa wt n) = am_C h ∧ am_A (hB h cd wa wt n) = am_A h ∧ am_B (hB h cd wa wt n) = am_B h ∧ am_J (hB h cd wa wt n) = am_J h ∧ am_U (hB h cd wa wt n) = am_U h ∧ am_V (hB h cd wa wt n) = am_V h ∧ (∀ c g a, ¬ (c = 2 ∧ g = 0 ∧ a = cd 31) → am_R (hB h cd wa wt n) c g a = am_R h c g a) := by
  obtain ⟨e1, e2, e3, e4, e5, e6, e7, e8, e9⟩ := emp_fr (h := hd (hc h cd wt n) cd) (cd := cd) (w := 1 - wa) (k := 6)
  obtain ⟨d1, d2, d3, d4, d5, d6, d7, d8, d9⟩ := hd_f (h := hc h cd wt n) (cd := cd)
  obtain ⟨c1, c2, c3, c4, c5, c6, c7, c8, c9⟩ := hc_f (h := h) (cd := cd) (wt := wt) (n := n)
  unfold hB
  exact ⟨e1.trans (d1.trans c1), e2.trans (d2.trans c2), e4.trans (d3.trans c3), e6.trans (d4.trans c4), e7.trans (d5.trans c5), e5.trans (d6.trans c6), e8.trans (d7.trans c7), e9.trans (d8.trans c8), fun c g a z => by rw [e3, d9]; exact c9 c g a z⟩
def YS (wa c g k : Nat) : Prop := (c = 2 ∧ g = 2 ∧ k = 31) ∨ (c = 5 ∧ k = 32) ∨ (c = 0 ∧ g = 1 ∧ k = 100 + 500 * (1 - wa)) ∨ (c = 4 ∧ 110 + 500 * (1 - wa) ≤ k ∧ k ≤ 157 + 500 * (1 - wa)) ∨ (c = 1 ∧ 200 + 500 * (1 - wa) ≤ k ∧ k ≤ 217 + 500 * (1 - wa))
theorem YS_A {c g k : Nat} (h : YS wa c g k) : YA wa c g k := by unfold YS at h; unfold YA; omega
theorem hB_i {c g a : Nat} (z : ∀ k, YA wa c g k → a ≠ cd k) : am_I (hB h cd wa wt n) c g a = am_I h c g a := by
  unfold hB
  have e1 : ∀ k, k ≤ 6 → am_I (emp (hd (hc h cd wt n) cd) cd (1 - wa) k) c g a = am_I (hd (hc h cd wt n) cd) c g a := by
    intro k
    induction k with
    | zero =>
      intro _
      show am_I (am_sI _ 0 1 _ _) c g a = _
      simp only [am_hs]
      rw [if_neg (fun w => z (c_ar (1 - wa)) (by unfold YA c_ar; omega) w.2.2)]
    | succ k ih =>
      intro hk
      show am_I (am_sI (am_sI (emp _ cd (1 - wa) k) 1 2 _ _) 1 3 _ _) c g a = _
      simp only [am_hs]
      rw [if_neg (fun w => z (c_bk (1 - wa) k) (by unfold YA c_bk; omega) w.2.2), if_neg (fun w => z (c_bk (1 - wa) k) (by unfold YA c_bk; omega) w.2.2)]
      exact ih (by omega)
  rw [e1 6 (by omega)]
  unfold hd hc
  simp only [am_hs]
  rw [if_neg (fun w => z 32 (by unfold YA; omega) w.2.2), if_neg (fun w => z 32 (by unfold YA; omega) w.2.2), if_neg (fun w => z 31 (by unfold YA; omega) w.2.2), if_neg (fun w => z 31 (by unfold YA; omega) w.2.2), if_neg (fun w => z 31 (by unfold YA; omega) w.2.2), if_neg (fun w => z 31 (by unfold YA; omega) w.2.2)]
/-- what has begun -/
theorem hB_v (ci : ci_s cd bb) : am_I (hB h cd wa wt n) 2 1 (cd 31) = Int32.ofNat n ∧ am_I (hB h cd wa wt n) 2 2 (cd 31) = Int32.ofNat 0 ∧ am_I (hB h cd wa wt n) 2 3 (cd 31) = Int32.ofNat 0 ∧ am_I (hB h cd wa wt n) 5 1 (cd 32) = Int32.ofNat 0 ∧ am_I (hB h cd wa wt n) 5 7 (cd 32) = Int32.ofNat 0 ∧ am_I (hB h cd wa wt n) 0 1 (cd (c_ar (1 - wa))) = Int32.ofNat 0 ∧ BG cd wa (hB h cd wa wt n) 0 ∧ am_R (hB h cd wa wt n) 2 0 (cd 31) = some (cd (c_tb wt)) := by
  have e1 : ∀ (c g a k : Nat), c ≠ 0 → c ≠ 1 → am_I (emp (hd (hc h cd wt n) cd) cd (1 - wa) k) c g a = am_I (hd (hc h cd wt n) cd) c g a := by
    intro c g a k h0 h1
    induction k with
    | zero =>
      show am_I (am_sI _ 0 1 _ _) c g a = _
      simp only [am_hs]
      rw [if_neg (fun w => h0 w.1)]
    | succ k ih =>
      show am_I (am_sI (am_sI (emp _ cd (1 - wa) k) 1 2 _ _) 1 3 _ _) c g a = _
      simp only [am_hs]
      rw [if_neg (fun w => h1 w.1), if_neg (fun w => h1 w.1)]
      exact ih
  have e0 : ∀ k, am_I (emp (hd (hc h cd wt n) cd) cd (1 - wa) k) 0 1 (cd (c_ar (1 - wa))) = Int32.ofNat 0 := by
    intro k
    induction k with
    | zero =>
      show am_I (am_sI _ 0 1 _ _) 0 1 _ = _
      simp only [am_hs, true_and, and_true, and_self, true_or, or_true, false_or, or_false, false_and, and_false, not_true_eq_false, not_false_eq_true, Classical.not_not, true_implies, false_implies, implies_true, exists_eq_left, exists_eq_left', Option.some.injEq, reduceIte, Nat.reduceEqDiff, Nat.reduceLT, Nat.reduceLeDiff, Nat.reduceAdd, Nat.reduceSub, Nat.reduceMul, eq_self, ne_eq, and_imp, forall_const, reduceCtorEq, am_w, List.map_cons, List.map_nil, List.sum_cons, List.sum_nil, Value.category, Nat.zero_le, Nat.le_refl]
    | succ k ih =>
      show am_I (am_sI (am_sI (emp _ cd (1 - wa) k) 1 2 _ _) 1 3 _ _) 0 1 _ = _
      simp only [am_hs, true_and, and_true, and_self, true_or, or_true, false_or, or_false, false_and, and_false, not_true_eq_false, not_false_eq_true, Classical.not_not, true_implies, false_implies, implies_true, exists_eq_left, exists_eq_left', Option.some.injEq, reduceIte, Nat.reduceEqDiff, Nat.reduceLT, Nat.reduceLeDiff, Nat.reduceAdd, Nat.reduceSub, Nat.reduceMul, eq_self, ne_eq, and_imp, forall_const, reduceCtorEq, am_w, List.map_cons, List.map_nil, List.sum_cons, List.sum_nil, Value.category, Nat.zero_le, Nat.le_refl]
      exact ih
  have eb : ∀ k b, b < k → am_I (emp (hd (hc h cd wt n) cd) cd (1 - wa) k) 1 2 (cd (c_bk (1 - wa) b)) = Int32.ofNat 0 ∧ am_I (emp (hd (hc h cd wt n) cd) cd (1 - wa) k) 1 3 (cd (c_bk (1 - wa) b)) = Int32.ofNat 1 := by
    intro k
    induction k with
    | zero => intro b hb; exact absurd hb (Nat.not_lt_zero b)
    | succ k ih =>
      intro b hb
      show am_I (am_sI (am_sI (emp _ cd (1 - wa) k) 1 2 _ _) 1 3 _ _) 1 2 _ = _ ∧ am_I (am_sI (am_sI (emp _ cd (1 - wa) k) 1 2 _ _) 1 3 _ _) 1 3 _ = _
      simp only [am_hs, true_and, and_true, and_self, true_or, or_true, false_or, or_false, false_and, and_false, not_true_eq_false, not_false_eq_true, Classical.not_not, true_implies, false_implies, implies_true, exists_eq_left, exists_eq_left', Option.some.injEq, reduceIte, Nat.reduceEqDiff, Nat.reduceLT, Nat.reduceLeDiff, Nat.reduceAdd, Nat.reduceSub, Nat.reduceMul, eq_self, ne_eq, and_imp, forall_const, reduceCtorEq, am_w, List.map_cons, List.map_nil, List.sum_cons, List.sum_nil, Value.category, Nat.zero_le, Nat.le_refl]
      by_cases c : b = k
      · rw [c]; simp only [true_and, and_true, and_self, true_or, or_true, false_or, or_false, false_and, and_false, not_true_eq_false, not_false_eq_true, Classical.not_not, true_implies, false_implies, implies_true, exists_eq_left, exists_eq_left', Option.some.injEq, reduceIte, Nat.reduceEqDiff, Nat.reduceLT, Nat.reduceLeDiff, Nat.reduceAdd, Nat.reduceSub, Nat.reduceMul, eq_self, ne_eq, and_imp, forall_const, reduceCtorEq, am_w, List.map_cons, List.map_nil, List.sum_cons, List.sum_nil, Value.category, Nat.zero_le, Nat.le_refl]
      · have ne : ¬ cd (c_bk (1 - wa) b) = cd (c_bk (1 - wa) k) := fun e => by have := ci.1 _ _ e; unfold c_bk at this; omega
        rw [if_neg ne, if_neg ne]
        exact ih b (by omega)
  unfold hB
  refine ⟨?_, ?_, ?_, ?_, ?_, e0 6, fun b _ hb => eb 6 b hb, ?_⟩
  · rw [e1 _ _ _ _ (by decide) (by decide)]; unfold hd hc; simp only [am_hs, true_and, and_true, and_self, true_or, or_true, false_or, or_false, false_and, and_false, not_true_eq_false, not_false_eq_true, Classical.not_not, true_implies, false_implies, implies_true, exists_eq_left, exists_eq_left', Option.some.injEq, reduceIte, Nat.reduceEqDiff, Nat.reduceLT, Nat.reduceLeDiff, Nat.reduceAdd, Nat.reduceSub, Nat.reduceMul, eq_self, ne_eq, and_imp, forall_const, reduceCtorEq, am_w, List.map_cons, List.map_nil, List.sum_cons, List.sum_nil, Value.category, Nat.zero_le, Nat.le_refl]
  · rw [e1 _ _ _ _ (by decide) (by decide)]; unfold hd hc; simp only [am_hs, true_and, and_true, and_self, true_or, or_true, false_or, or_false, false_and, and_false, not_true_eq_false, not_false_eq_true, Classical.not_not, true_implies, false_implies, implies_true, exists_eq_left, exists_eq_left', Option.some.injEq, reduceIte, Nat.reduceEqDiff, Nat.reduceLT, Nat.reduceLeDiff, Nat.reduceAdd, Nat.reduceSub, Nat.reduceMul, eq_self, ne_eq, and_imp, forall_const, reduceCtorEq, am_w, List.map_cons, List.map_nil, List.sum_cons, List.sum_nil, Value.category, Nat.zero_le, Nat.le_refl]
  · rw [e1 _ _ _ _ (by decide) (by decide)]; unfold hd hc; simp only [am_hs, true_and, and_true, and_self, true_or, or_true, false_or, or_false, false_and, and_false, not_true_eq_false, not_false_eq_true, Classical.not_not, true_implies, false_implies, implies_true, exists_eq_left, exists_eq_left', Option.some.injEq, reduceIte, Nat.reduceEqDiff, Nat.reduceLT, Nat.reduceLeDiff, Nat.reduceAdd, Nat.reduceSub, Nat.reduceMul, eq_self, ne_eq, and_imp, forall_const, reduceCtorEq, am_w, List.map_cons, List.map_nil, List.sum_cons, List.sum_nil, Value.category, Nat.zero_le, Nat.le_refl]
  · rw [e1 _ _ _ _ (by decide) (by decide)]; unfold hd hc; simp only [am_hs, true_and, and_true, and_self, true_or, or_true, false_or, or_false, false_and, and_false, not_true_eq_false, not_false_eq_true, Classical.not_not, true_implies, false_implies, implies_true, exists_eq_left, exists_eq_left', Option.some.injEq, reduceIte, Nat.reduceEqDiff, Nat.reduceLT, Nat.reduceLeDiff, Nat.reduceAdd, Nat.reduceSub, Nat.reduceMul, eq_self, ne_eq, and_imp, forall_const, reduceCtorEq, am_w, List.map_cons, List.map_nil, List.sum_cons, List.sum_nil, Value.category, Nat.zero_le, Nat.le_refl]
  · rw [e1 _ _ _ _ (by decide) (by decide)]; unfold hd hc; simp only [am_hs, true_and, and_true, and_self, true_or, or_true, false_or, or_false, false_and, and_false, not_true_eq_false, not_false_eq_true, Classical.not_not, true_implies, false_implies, implies_true, exists_eq_left, exists_eq_left', Option.some.injEq, reduceIte, Nat.reduceEqDiff, Nat.reduceLT, Nat.reduceLeDiff, Nat.reduceAdd, Nat.reduceSub, Nat.reduceMul, eq_self, ne_eq, and_imp, forall_const, reduceCtorEq, am_w, List.map_cons, List.map_nil, List.sum_cons, List.sum_nil, Value.category, Nat.zero_le, Nat.le_refl]
  · rw [emp_fr.2.2.1]; unfold hd hc; simp only [am_hs, true_and, and_true, and_self, true_or, or_true, false_or, or_false, false_and, and_false, not_true_eq_false, not_false_eq_true, Classical.not_not, true_implies, false_implies, implies_true, exists_eq_left, exists_eq_left', Option.some.injEq, reduceIte, Nat.reduceEqDiff, Nat.reduceLT, Nat.reduceLeDiff, Nat.reduceAdd, Nat.reduceSub, Nat.reduceMul, eq_self, ne_eq, and_imp, forall_const, reduceCtorEq, am_w, List.map_cons, List.map_nil, List.sum_cons, List.sum_nil, Value.category, Nat.zero_le, Nat.le_refl]
theorem hB_x (s : cl_s h cd bb wa wt) (tk : tk_s tt h) (h5 : n ≤ 5000) (hU : am_U h + 1 ≤ am_LC) (hV : am_V h + 6 ≤ am_LS) : CX tt (hB h cd wa wt n) cd bb wa wt n (hB h cd wa wt n) 0 := by
  obtain ⟨f1, f2, f3, f4, f5, f6, f7, f8, f9⟩ := hB_f (h := h) (cd := cd) (wa := wa) (wt := wt) (n := n)
  obtain ⟨v1, v2, v3, v4, v5, v6, v7, v8⟩ := hB_v (h := h) (wa := wa) (wt := wt) (n := n) s.2.2.1
  have sB : cl_s (hB h cd wa wt n) cd bb wa wt := s.r2 f1 f2 f3 (fun c g a z => f9 c g a (fun w => z w.1))
  obtain ⟨t1, t2, t3, t4⟩ := (sB.2.2.2.2.1 wt s.2.1).2
  refine ⟨sB, ?_, rf.re, rfl, rfl, sB.2.2.2.2.2.2.2.2.2.2.1, v8, t3, by rw [t4]; exact h5, h5, v1, v2, by omega, ?_, ?_⟩
  · unfold tk_s
    rw [f1, f2, f4]
    exact tk
  · rw [f7]; exact hU
  · rw [f8]; exact hV
end RT
