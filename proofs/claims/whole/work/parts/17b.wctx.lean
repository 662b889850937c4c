/-! deps: 17a -/
/-! ===== the class's writer: what it stands on, its steps ===== -/
/-! 88 yX8_append -/
theorem vc_88_0 (tt : Nat → Nat) (a0 : Nat) (a1 : Nat) (h : am_H) (Q : am_H → Prop) (Qx : String → am_H → Prop) (q :
  (am_K h a0 = 9 ∧
  (((Int32.ofNat 24) ≤ (am_I h 8 4 a0) →
   Q h) ∧
  (¬ ((Int32.ofNat 24) ≤ (am_I h 8 4 a0)) →
   (am_K h a0 = 9 ∧ ∃ q1, am_R h 8 0 a0 = some q1 ∧
   (am_K h a0 = 9 ∧
   (((am_K h q1 = 26 ∧ am_K h a1 = 5) ∨ (am_K h q1 = 27 ∧ am_K h a1 = 2)) ∧ vp_in (am_I h 8 4 a0) (am_N h q1) ∧
   (am_K h a0 = 9 ∧
   (am_K h a0 = 9 ∧
   Q (am_sI (am_sC h q1 ((am_I h 8 4 a0)).toNatClampNeg (some a1)) 8 4 a0 ((am_I h 8 4 a0) + (Int32.ofNat 1)))))))))))) :
  am_Ev tt 88 0 [some (.ref a0), some (.ref a1)] [] h (am_pV Q Qx) := am_vc 19 [] q

/-! 87 yX8_arrange -/
theorem vc_87_0 (tt : Nat → Nat) (a0 : Nat) (h : am_H) (Q : am_H → Prop) (Qx : String → am_H → Prop) (q :
  (am_K h a0 = 9 ∧
  (am_K h a0 = 9 ∧
  am_Ev tt 87 12 [some (.ref a0), some (.int (Int32.ofNat 0)), none, none, none] [] (am_sI (am_sI h 8 4 a0 (Int32.ofNat 0)) 8 6 a0 (Int32.ofNat 0)) (am_pV Q Qx)))) :
  am_Ev tt 87 0 [some (.ref a0), none, none, none, none] [] h (am_pV Q Qx) := am_vc 11 [(12, [true, true, false, false, false]), (25, [true, true, true, true, false]), (70, [true, true, true, true, false]), (114, [true, true, false, false, false]), (153, [true, true, false, false, false])] q
theorem vc_87_12 (tt : Nat → Nat) (a0 : Nat) (a1 : Int32) (h : am_H) (Q : am_H → Prop) (Qx : String → am_H → Prop) (q :
  (((Int32.ofNat 6) ≤ a1 →
   (am_K h a0 = 9 ∧
   (am_K h a0 = 9 ∧
   am_Ev tt 87 114 [some (.ref a0), some (.int (Int32.ofNat 0)), none, none, none] [] (am_sI h 8 5 a0 (am_I h 8 4 a0)) (am_pV Q Qx)))) ∧
  (¬ ((Int32.ofNat 6) ≤ a1) →
   (am_K h a0 = 9 ∧
   am_Ev tt 87 25 [some (.ref a0), some (.int a1), some (.int (am_I h 8 4 a0)), some (.int (Int32.ofNat 0)), none] [] h (am_pV Q Qx))))) :
  am_Ev tt 87 12 [some (.ref a0), some (.int a1), none, none, none] [] h (am_pV Q Qx) := am_vc 12 [(12, [true, true, false, false, false]), (25, [true, true, true, true, false]), (70, [true, true, true, true, false]), (114, [true, true, false, false, false]), (153, [true, true, false, false, false])] q
theorem vc_87_25 (tt : Nat → Nat) (a0 : Nat) (a1 : Int32) (a2 : Int32) (a3 : Int32) (h : am_H) (Q : am_H → Prop) (Qx : String → am_H → Prop) (q :
  (am_K h a0 = 9 ∧ ∃ q1, am_R h 8 2 a0 = some q1 ∧
  (am_K h q1 = 1 ∧
  (((am_I h 0 1 q1) ≤ a3 →
   (am_K h a0 = 9 ∧
   (am_K h a0 = 9 ∧
   (((am_I h 8 4 a0) ≤ a2 →
    (am_K h a0 = 9 ∧
    am_Ev tt 87 12 [some (.ref a0), some (.int (a1 + (Int32.ofNat 1))), none, none, none] [] (am_sI h 8 6 a0 ((am_I h 8 6 a0) + (Int32.ofNat 0))) (am_pV Q Qx))) ∧
   (¬ ((am_I h 8 4 a0) ≤ a2) →
    (am_K h a0 = 9 ∧
    am_Ev tt 87 12 [some (.ref a0), some (.int (a1 + (Int32.ofNat 1))), none, none, none] [] (am_sI h 8 6 a0 ((am_I h 8 6 a0) + (Int32.ofNat 1))) (am_pV Q Qx))))))) ∧
  (¬ ((am_I h 0 1 q1) ≤ a3) →
   (am_K h a0 = 9 ∧ ∃ q2, am_R h 8 2 a0 = some q2 ∧
   (am_K h q2 = 1 ∧ ∃ q3, am_R h 0 0 q2 = some q3 ∧
   ((am_K h q3 = 26 ∨ am_K h q3 = 27) ∧ vp_in a3 (am_N h q3) ∧ ∃ q4, am_C h q3 (a3).toNatClampNeg = some q4 ∧
   (am_K h q4 = 5 ∧
   (((am_I h 4 3 q4) ≤ (Int32.ofNat 0) →
    am_Ev tt 87 70 [some (.ref a0), some (.int a1), some (.int a2), some (.int a3), none] [] h (am_pV Q Qx)) ∧
   (¬ ((am_I h 4 3 q4) ≤ (Int32.ofNat 0)) →
    (am_K h q4 = 5 ∧
    ((¬ (am_I h 4 5 q4) = a1 →
     am_Ev tt 87 70 [some (.ref a0), some (.int a1), some (.int a2), some (.int a3), none] [] h (am_pV Q Qx)) ∧
    (¬ (¬ (am_I h 4 5 q4) = a1) →
     (am_K h a0 = 9 ∧ ∃ (Q6 : am_H → Prop) (X6 : String → am_H → Prop), am_Ct tt 88 [.ref a0, .ref q4] h (am_pV Q6 X6) ∧ (∀ h5, Q6 h5 →
      am_Ev tt 87 70 [some (.ref a0), some (.int a1), some (.int a2), some (.int a3), none] [] h5 (am_pV Q Qx)) ∧ (∀ E7 h5, X6 E7 h5 → Qx E7 h5)))))))))))))))) :
  am_Ev tt 87 25 [some (.ref a0), some (.int a1), some (.int a2), some (.int a3), none] [] h (am_pV Q Qx) := am_vc 24 [(12, [true, true, false, false, false]), (25, [true, true, true, true, false]), (70, [true, true, true, true, false]), (114, [true, true, false, false, false]), (153, [true, true, false, false, false])] q
theorem vc_87_70 (tt : Nat → Nat) (a0 : Nat) (a1 : Int32) (a2 : Int32) (a3 : Int32) (h : am_H) (Q : am_H → Prop) (Qx : String → am_H → Prop) (q :
  am_Ev tt 87 25 [some (.ref a0), some (.int a1), some (.int a2), some (.int (a3 + (Int32.ofNat 1))), none] [] h (am_pV Q Qx)) :
  am_Ev tt 87 70 [some (.ref a0), some (.int a1), some (.int a2), some (.int a3), none] [] h (am_pV Q Qx) := am_vc 5 [(12, [true, true, false, false, false]), (25, [true, true, true, true, false]), (70, [true, true, true, true, false]), (114, [true, true, false, false, false]), (153, [true, true, false, false, false])] q
theorem vc_87_114 (tt : Nat → Nat) (a0 : Nat) (a1 : Int32) (h : am_H) (Q : am_H → Prop) (Qx : String → am_H → Prop) (q :
  (am_K h a0 = 9 ∧ ∃ q1, am_R h 8 2 a0 = some q1 ∧
  (am_K h q1 = 1 ∧
  (((am_I h 0 1 q1) ≤ a1 →
   Q h) ∧
  (¬ ((am_I h 0 1 q1) ≤ a1) →
   (am_K h a0 = 9 ∧ ∃ q2, am_R h 8 2 a0 = some q2 ∧
   (am_K h q2 = 1 ∧ ∃ q3, am_R h 0 0 q2 = some q3 ∧
   ((am_K h q3 = 26 ∨ am_K h q3 = 27) ∧ vp_in a1 (am_N h q3) ∧ ∃ q4, am_C h q3 (a1).toNatClampNeg = some q4 ∧
   (am_K h q4 = 5 ∧
   ((¬ (am_I h 4 3 q4) = (Int32.ofNat 0) →
    am_Ev tt 87 153 [some (.ref a0), some (.int a1), none, none, none] [] h (am_pV Q Qx)) ∧
   (¬ (¬ (am_I h 4 3 q4) = (Int32.ofNat 0)) →
    (am_K h a0 = 9 ∧ ∃ q5, am_R h 8 2 a0 = some q5 ∧
    (am_K h q5 = 1 ∧ ∃ q6, am_R h 0 0 q5 = some q6 ∧
    ((am_K h q6 = 26 ∨ am_K h q6 = 27) ∧ vp_in a1 (am_N h q6) ∧ ∃ q7, am_C h q6 (a1).toNatClampNeg = some q7 ∧
    (am_K h a0 = 9 ∧ ∃ (Q9 : am_H → Prop) (X9 : String → am_H → Prop), am_Ct tt 88 [.ref a0, .ref q7] h (am_pV Q9 X9) ∧ (∀ h8, Q9 h8 →
     am_Ev tt 87 153 [some (.ref a0), some (.int a1), none, none, none] [] h8 (am_pV Q Qx)) ∧ (∀ E10 h8, X9 E10 h8 → Qx E10 h8)))))))))))))))) :
  am_Ev tt 87 114 [some (.ref a0), some (.int a1), none, none, none] [] h (am_pV Q Qx) := am_vc 22 [(12, [true, true, false, false, false]), (25, [true, true, true, true, false]), (70, [true, true, true, true, false]), (114, [true, true, false, false, false]), (153, [true, true, false, false, false])] q
theorem vc_87_153 (tt : Nat → Nat) (a0 : Nat) (a1 : Int32) (h : am_H) (Q : am_H → Prop) (Qx : String → am_H → Prop) (q :
  am_Ev tt 87 114 [some (.ref a0), some (.int (a1 + (Int32.ofNat 1))), none, none, none] [] h (am_pV Q Qx)) :
  am_Ev tt 87 153 [some (.ref a0), some (.int a1), none, none, none] [] h (am_pV Q Qx) := am_vc 5 [(12, [true, true, false, false, false]), (25, [true, true, true, true, false]), (70, [true, true, true, true, false]), (114, [true, true, false, false, false]), (153, [true, true, false, false, false])] q

/-! 100 yX8_countFlags -/
theorem vc_100_0 (tt : Nat → Nat) (a0 : Nat) (a1 : Int32) (h : am_H) (Q : Int32 → am_H → Prop) (Qx : String → am_H → Prop) (q :
  am_Ev tt 100 4 [some (.ref a0), some (.int a1), some (.int (Int32.ofNat 0)), some (.int (Int32.ofNat 0))] [] h (am_pI Q Qx)) :
  am_Ev tt 100 0 [some (.ref a0), some (.int a1), none, none] [] h (am_pI Q Qx) := am_vc 7 [(4, [true, true, true, true])] q
theorem vc_100_4 (tt : Nat → Nat) (a0 : Nat) (a1 : Int32) (a2 : Int32) (a3 : Int32) (h : am_H) (Q : Int32 → am_H → Prop) (Qx : String → am_H → Prop) (q :
  ((a1 ≤ a3 →
   Q a2 h) ∧
  (¬ (a1 ≤ a3) →
   (am_K h a0 = 9 ∧ ∃ q1, am_R h 8 1 a0 = some q1 ∧
   ((20 < am_K h q1 ∧ (am_K h q1 ≤ 27 ∨ am_K h q1 = 31)) ∧
   (((Int32.ofNat (am_N h q1)) ≤ a3 →
    Q a2 h) ∧
   (¬ ((Int32.ofNat (am_N h q1)) ≤ a3) →
    (am_K h a0 = 9 ∧ ∃ q2, am_R h 8 1 a0 = some q2 ∧
    ((am_K h q2 = 23 ∨ am_K h q2 = 24) ∧ vp_in a3 (am_N h q2) ∧
    (((am_A h q2 (a3).toNatClampNeg) = (Int32.ofNat 0) →
     am_Ev tt 100 4 [some (.ref a0), some (.int a1), some (.int (a2 + (Int32.ofNat 0))), some (.int (a3 + (Int32.ofNat 1)))] [] h (am_pI Q Qx)) ∧
    (¬ ((am_A h q2 (a3).toNatClampNeg) = (Int32.ofNat 0)) →
     am_Ev tt 100 4 [some (.ref a0), some (.int a1), some (.int (a2 + (Int32.ofNat 1))), some (.int (a3 + (Int32.ofNat 1)))] [] h (am_pI Q Qx)))))))))))) :
  am_Ev tt 100 4 [some (.ref a0), some (.int a1), some (.int a2), some (.int a3)] [] h (am_pI Q Qx) := am_vc 23 [(4, [true, true, true, true])] q

/-! 127 yX9_bytesForBits -/
theorem vc_127_0 (tt : Nat → Nat) (a0 : Int32) (h : am_H) (Q : Int32 → am_H → Prop) (Qx : String → am_H → Prop) (q :
  Q ((a0 + (Int32.ofNat 7)) >>> ((Int32.ofNat 3) &&& 31)) h) :
  am_Ev tt 127 0 [some (.int a0)] [] h (am_pI Q Qx) := am_vc 8 [] q

section WC
variable {tt : Nat → Nat} {h h' : am_H} {cd : Nat → Nat} {bb : Nat → Nat → Nat} {wa wt : Nat} {a : sA}
theorem cl_s.tc (s : cl_s h cd bb wa wt) (hK : am_K h' = am_K h) (hN : am_N h' = am_N h) (hR : am_R h' = am_R h) (hC : ∀ w, w < 2 → am_C h' (cd (c_ea w)) = am_C h (cd (c_ea w)) ∧ am_C h' (cd (c_ba w)) = am_C h (cd (c_ba w))) : cl_s h' cd bb wa wt := by
  obtain ⟨s1, s2, s3, s4, s5, s6, s7⟩ := s
  refine ⟨s1, s2, s3, ?_, fun w hw => ⟨?_, ?_⟩, ?_, ?_⟩
  · unfold cx_s; rw [hK, hR]; exact s4
  · have := (s5 w hw).1
    unfold car_s ce_s cb_s at this ⊢
    rw [hK, hN, hR, (hC w hw).1, (hC w hw).2]
    exact this
  · have := (s5 w hw).2
    unfold tp_s at this ⊢
    rw [hK, hN, hR]
    exact this
  · unfold cw_s; rw [hK, hN, hR]; exact s6
  · unfold cr_s; rw [hK, hN, hR]; exact s7
/-- what the writer stands on -/
def WA (tt : Nat → Nat) (h : am_H) (cd : Nat → Nat) (bb : Nat → Nat → Nat) (wa wt : Nat) (a : sA) : Prop := cl_s h cd bb wa wt ∧ car_v h cd bb wa a ∧ wfA a ∧ tk_s tt h ∧ am_R h 8 2 (cd 20) = some (cd (c_ar wa)) ∧ am_R h 8 3 (cd 20) = some (cd (c_tp (1 - wt))) ∧ ∃ l, tp_n h (cd (c_tp (1 - wt))) (cd (c_tb (1 - wt))) l
/-- and what it arranged -/
def WX (tt : Nat → Nat) (h : am_H) (cd : Nat → Nat) (bb : Nat → Nat → Nat) (wa wt : Nat) (a : sA) : Prop := WA tt h cd bb wa wt a ∧ am_I h 8 4 (cd 20) = Int32.ofNat (a_n a) ∧ am_I h 8 5 (cd 20) = Int32.ofNat (oK a).length ∧ am_I h 8 6 (cd 20) = Int32.ofNat (kb a) ∧ ∀ j, j < a_n a → am_C h (cd 21) j = some (cd (c_en wa (oo a j)))
/-- the heap behind bytes that were added -/
abbrev tw (cd : Nat → Nat) (wt : Nat) (h : am_H) (l : List Int32) : am_H := tp_l (cd (c_tp (1 - wt))) (cd (c_tb (1 - wt))) h l
theorem car_v.same (v : car_v h cd bb wa a) (n24 : a_n a ≤ 24) (hI : ∀ c f x, c = 0 ∨ c = 1 ∨ c = 4 → am_I h' c f x = am_I h c f x) (hJ : am_J h' = am_J h) (hN : am_N h' = am_N h) (hA : ∀ x, (∃ i, i < 24 ∧ (x = cd (c_un wa i) ∨ x = bb wa i)) ∨ (∃ b, b < 6 ∧ (x = cd (c_bi wa b) ∨ x = cd (c_bd wa b))) → am_A h' x = am_A h x) : car_v h' cd bb wa a := by
  refine ⟨by rw [hI _ _ _ (by omega)]; exact v.1, fun i hi => (v.2.1 i hi).same (fun k => hI _ _ _ (by omega)) (by rw [hJ]) (hA _ (Or.inl ⟨i, by omega, Or.inl rfl⟩)) (hA _ (Or.inl ⟨i, by omega, Or.inr rfl⟩)) (by rw [hN]), fun b hb => (v.2.2 b hb).same (fun k => hI _ _ _ (by omega)) (hA _ (Or.inr ⟨b, hb, Or.inl rfl⟩)) (hA _ (Or.inr ⟨b, hb, Or.inr rfl⟩))⟩
theorem WA.same (x : WA tt h cd bb wa wt a) (hK : am_K h' = am_K h) (hN : am_N h' = am_N h) (hR : am_R h' = am_R h) (hJ : am_J h' = am_J h) (hC : ∀ x, x ≠ cd 21 → am_C h' x = am_C h x) (hI : ∀ c f x, ¬ (c = 6 ∨ c = 8) → am_I h' c f x = am_I h c f x) (hA : ∀ x, x ≠ cd (c_tb (1 - wt)) → x ≠ cd 22 → am_A h' x = am_A h x) (ht : ∃ l, tp_n h' (cd (c_tp (1 - wt))) (cd (c_tb (1 - wt))) l) : WA tt h' cd bb wa wt a := by
  obtain ⟨x1, x2, x3, x4, x5, x6, x7⟩ := x
  have s1 := x1.1
  have s2 := x1.2.1
  have s3 := x1.2.2.1
  have k22 : cK 22 := by unfold cK; omega
  have w1 : 1 - wt < 2 := by omega
  refine ⟨x1.tc hK hN hR (fun w hw => ⟨hC _ (fun e => by have := s3.1 _ _ e; unfold c_ea at this; omega), hC _ (fun e => by have := s3.1 _ _ e; unfold c_ba at this; omega)⟩), x2.same x3.1 (fun c f x hc => hI c f x (by omega)) hJ hN (fun x hx => ?_), x3, tk_t x4 hK hN (fun y hy => hA y (fun e => ?_) (fun e => ?_)), by rw [hR]; exact x5, by rw [hR]; exact x6, ht⟩
  · rcases hx with ⟨i, hi, rfl | rfl⟩ | ⟨b, hb, rfl | rfl⟩
    · exact hA _ (fun e => by have := s3.1 _ _ e; unfold c_un c_tb at this; omega) (fun e => by have := s3.1 _ _ e; unfold c_un at this; omega)
    · exact hA _ (s3.2.2 _ _ _ s1 hi (cK_tb w1)) (s3.2.2 _ _ _ s1 hi k22)
    · exact hA _ (fun e => by have := s3.1 _ _ e; unfold c_bi c_tb at this; omega) (fun e => by have := s3.1 _ _ e; unfold c_bi at this; omega)
    · exact hA _ (fun e => by have := s3.1 _ _ e; unfold c_bd c_tb at this; omega) (fun e => by have := s3.1 _ _ e; unfold c_bd at this; omega)
  · have := ((x1.2.2.2.2.1 _ w1).2).2.2.1
    rw [e, this] at hy; cases hy
  · have := x1.2.2.2.2.2.1.2.2.2.2.2.1
    rw [e, this] at hy; cases hy
theorem WX.tl (x : WX tt h cd bb wa wt a) (l : List Int32) : WX tt (tw cd wt h l) cd bb wa wt a := by
  obtain ⟨x1, x2, x3, x4, x5⟩ := x
  obtain ⟨n, ht⟩ := x1.2.2.2.2.2.2
  refine ⟨x1.same (by simp only [tp_l_fr]) (by simp only [tp_l_fr]) (by simp only [tp_l_fr]) (by simp only [tp_l_fr]) (fun x _ => by simp only [tp_l_fr]) (fun c f x hc => tp_l_I (by omega)) (fun y h1 h2 => tp_l_A h1) ⟨_, tp_l_n ht⟩, by rw [tp_l_I (by omega)]; exact x2, by rw [tp_l_I (by omega)]; exact x3, by rw [tp_l_I (by omega)]; exact x4, by simp only [tp_l_fr]; exact x5⟩
theorem WX.fl (x : WX tt h cd bb wa wt a) (f : Nat → Int32) : WX tt (am_cA h (cd 22) f) cd bb wa wt a := by
  obtain ⟨x1, x2, x3, x4, x5⟩ := x
  exact ⟨x1.same rfl rfl rfl rfl (fun x _ => rfl) (fun c f x hc => rfl) (fun y h1 h2 => by simp only [am_hs]; rw [if_neg h2]) x1.2.2.2.2.2.2, x2, x3, x4, x5⟩
/-- what every step reads -/
theorem WA.f (x : WA tt h cd bb wa wt a) : am_K h (cd 20) = 9 ∧ am_R h 8 0 (cd 20) = some (cd 21) ∧ am_K h (cd 21) = 26 ∧ am_N h (cd 21) = 24 ∧ am_R h 8 1 (cd 20) = some (cd 22) ∧ am_K h (cd 22) = 24 ∧ am_N h (cd 22) = 24 ∧ am_R h 8 2 (cd 20) = some (cd (c_ar wa)) ∧ am_R h 8 3 (cd 20) = some (cd (c_tp (1 - wt))) ∧ am_K h (cd (c_tp (1 - wt))) = 7 ∧ am_K h (cd (c_ar wa)) = 1 ∧ am_I h 0 1 (cd (c_ar wa)) = Int32.ofNat (a_n a) ∧ am_R h 0 0 (cd (c_ar wa)) = some (cd (c_ea wa)) ∧ am_K h (cd (c_ea wa)) = 26 ∧ am_N h (cd (c_ea wa)) = 24 ∧ am_R h 0 2 (cd (c_ar wa)) = some (cd (c_ba wa)) ∧ am_K h (cd (c_ba wa)) = 27 ∧ am_N h (cd (c_ba wa)) = 6 := by
  obtain ⟨x1, x2, x3, x4, x5, x6, x7⟩ := x
  obtain ⟨w1, w2, w3, w4, w5, w6, w7⟩ := x1.2.2.2.2.2.1
  obtain ⟨a1, a2, a3, a4, a5, a6, a7, a8, a9⟩ := (x1.2.2.2.2.1 wa x1.1).1
  obtain ⟨n, t⟩ := x7
  exact ⟨w1, w2, w3, w4, w5, w6, w7, x5, x6, t.1.1, a1, x2.1, a2, a3, a4, a5, a6, a7⟩
/-- one byte more -/
theorem WX.b (x : WX tt h cd bb wa wt a) {v : Int32} {G : am_H → Prop} (hG : ∀ h2, h2 = tw cd wt h [v] → WX tt h2 cd bb wa wt a → G h2) :
    am_K h (cd 20) = 9 ∧ ∃ q1, am_R h 8 3 (cd 20) = some q1 ∧ (am_K h q1 = 7 ∧ ∃ (Q3 : am_H → Prop) (X3 : String → am_H → Prop), am_Ct tt 68 [.ref q1, .int v] h (am_pV Q3 X3) ∧ (∀ h2, Q3 h2 → G h2) ∧ (∀ E4 h2, X3 E4 h2 → no_x E4 h2)) := by
  have f := x.1.f
  obtain ⟨n, t⟩ := x.1.2.2.2.2.2.2
  exact ⟨f.1, _, x.1.2.2.2.2.2.1, t.1.1, _, _, ct_addByte t, fun k e => hG k e (by rw [e]; exact x.tl [v]), fun _ _ z => z⟩
/-- one number more -/
theorem WX.n (x : WX tt h cd bb wa wt a) {m : Nat} (hm : m < 16384) {v : Int64} (hv : v = Int64.ofNat m) {G : am_H → Prop} (hG : ∀ h2, h2 = tw cd wt h (nb m) → WX tt h2 cd bb wa wt a → G h2) :
    am_K h (cd 20) = 9 ∧ ∃ q1, am_R h 8 3 (cd 20) = some q1 ∧ (am_K h q1 = 7 ∧ ∃ (Q3 : am_H → Prop) (X3 : String → am_H → Prop), am_Ct tt 71 [.ref q1, .long v] h (am_pV Q3 X3) ∧ (∀ h2, Q3 h2 → G h2) ∧ (∀ E4 h2, X3 E4 h2 → no_x E4 h2)) := by
  have f := x.1.f
  obtain ⟨n, t⟩ := x.1.2.2.2.2.2.2
  subst hv
  exact ⟨f.1, _, x.1.2.2.2.2.2.1, t.1.1, _, _, ct_addNumber t hm, fun k e => hG k e (by rw [e]; exact x.tl _), fun _ _ z => z⟩
theorem WX.n' (x : WX tt h cd bb wa wt a) {m : Nat} (hm : m < 16384) {v : Int64} (hv : v = Int64.ofNat m) {G : am_H → Prop} (hG : ∀ h2, h2 = tw cd wt h (nb m) → WX tt h2 cd bb wa wt a → G h2) :
    am_K h (cd (c_tp (1 - wt))) = 7 ∧ ∃ (Q3 : am_H → Prop) (X3 : String → am_H → Prop), am_Ct tt 71 [.ref (cd (c_tp (1 - wt))), .long v] h (am_pV Q3 X3) ∧ (∀ h2, Q3 h2 → G h2) ∧ (∀ E4 h2, X3 E4 h2 → no_x E4 h2) := by
  have f := x.1.f
  obtain ⟨n, t⟩ := x.1.2.2.2.2.2.2
  subst hv
  exact ⟨t.1.1, _, _, ct_addNumber t hm, fun k e => hG k e (by rw [e]; exact x.tl _), fun _ _ z => z⟩
/-- a long more, the lowest byte first -/
theorem WX.l' (x : WX tt h cd bb wa wt a) {m : Nat} (hm : m ≤ 8) {v : Int64} {G : am_H → Prop} (hG : ∀ h2, h2 = tw cd wt h (LB m v) → WX tt h2 cd bb wa wt a → G h2) :
    am_K h (cd (c_tp (1 - wt))) = 7 ∧ ∃ (Q3 : am_H → Prop) (X3 : String → am_H → Prop), am_Ct tt 70 [.ref (cd (c_tp (1 - wt))), .long v, .int (Int32.ofNat m)] h (am_pV Q3 X3) ∧ (∀ h2, Q3 h2 → G h2) ∧ (∀ E4 h2, X3 E4 h2 → no_x E4 h2) := by
  obtain ⟨n, t⟩ := x.1.2.2.2.2.2.2
  exact ⟨t.1.1, _, _, ct_addLittle t hm, fun k e => hG k e (by rw [e]; exact x.tl _), fun _ _ z => z⟩
/-- the flags' row more -/
theorem WX.r' (x : WX tt h cd bb wa wt a) {m : Nat} (hm : m ≤ 24) {G : am_H → Prop} (hG : ∀ h2, h2 = tw cd wt h (bbl (bg (am_A h (cd 22)) m) m) → WX tt h2 cd bb wa wt a → G h2) :
    am_K h (cd (c_tp (1 - wt))) = 7 ∧ ∃ (Q3 : am_H → Prop) (X3 : String → am_H → Prop), am_Ct tt 72 [.ref (cd (c_tp (1 - wt))), .ref (cd 22), .int (Int32.ofNat m)] h (am_pV Q3 X3) ∧ (∀ h2, Q3 h2 → G h2) ∧ (∀ E4 h2, X3 E4 h2 → no_x E4 h2) := by
  have f := x.1.f
  obtain ⟨n, t⟩ := x.1.2.2.2.2.2.2
  have ne : cd 22 ≠ cd (c_tb (1 - wt)) := fun e => by have := x.1.1.2.2.1.1 _ _ e; unfold c_tb at this; omega
  exact ⟨t.1.1, _, _, ct_addBits t f.2.2.2.2.2.1 (by rw [f.2.2.2.2.2.2.1]; exact hm) (by rw [f.2.2.2.2.2.2.1]; omega) ne, fun k e => hG k e (by rw [e]; exact x.tl _), fun _ _ z => z⟩
theorem shr_3 : ∀ m, m < 32 → Int32.ofNat m >>> Int32.ofNat 3 = Int32.ofNat (m / 8) := by decide
theorem ct_bytesForBits {m : Nat} (hm : m ≤ 24) : am_Ct tt 127 [.int (Int32.ofNat m)] h (am_pI (fun x h' => x = Int32.ofNat ((m + 7) / 8) ∧ h' = h) (fun _ _ => False)) := by
  refine vc_127_0 tt _ h _ _ ⟨?_, rfl⟩
  rw [qi_add, show (Int32.ofNat 3 &&& 31) = Int32.ofNat 3 from rfl, shr_3 _ (by omega)]
theorem ct_countFlags (x : WX tt h cd bb wa wt a) {m : Nat} (hm : m ≤ 24) : am_Ct tt 100 [.ref (cd 20), .int (Int32.ofNat m)] h (am_pI (fun r h' => r = Int32.ofNat (cn (fun j => decide (¬ am_A h (cd 22) j = Int32.ofNat 0)) m) ∧ h' = h) no_x) := by
  have f := x.1.f
  have key : ∀ (d i : Nat), d + i = m → am_Ev tt 100 4 [some (.ref (cd 20)), some (.int (Int32.ofNat m)), some (.int (Int32.ofNat (cn (fun j => decide (¬ am_A h (cd 22) j = Int32.ofNat 0)) i))), some (.int (Int32.ofNat i))] [] h (am_pI (fun r h' => r = Int32.ofNat (cn (fun j => decide (¬ am_A h (cd 22) j = Int32.ofNat 0)) m) ∧ h' = h) no_x) := by
    intro d
    induction d with
    | zero =>
      intro i e
      have : i = m := by omega
      subst this
      refine vc_100_4 tt _ _ _ _ _ _ _ ?_
      simp (disch := omega) only [qi_lt, qi_le, qi_eq, qi_nn, qi_in, qi_add, qi_l, ql_i, ql_lt, ql_le, ql_eq, ql_add, qc_lt, qc_eq, qc_ge, qc_gt, qc_le, true_and, and_true, and_self, true_or, or_true, false_or, or_false, false_and, and_false, not_true_eq_false, not_false_eq_true, Classical.not_not, true_implies, false_implies, implies_true, exists_eq_left, exists_eq_left', Option.some.injEq, reduceIte, Nat.reduceEqDiff, Nat.reduceLT, Nat.reduceLeDiff, Nat.reduceAdd, Nat.reduceSub, Nat.reduceMul, eq_self, ne_eq, and_imp, forall_const, reduceCtorEq, am_w, List.map_cons, List.map_nil, List.sum_cons, List.sum_nil, Value.category, Nat.zero_le, Nat.le_refl]
    | succ d ih =>
      intro i e
      refine vc_100_4 tt _ _ _ _ _ _ _ ?_
      have i24 : i < 24 := by omega
      have l24 : ¬ 24 ≤ i := by omega
      have lm : ¬ m ≤ i := by omega
      simp (disch := omega) only [f, i24, l24, lm, am_hs, qi_lt, qi_le, qi_eq, qi_nn, qi_in, qi_add, qi_l, ql_i, ql_lt, ql_le, ql_eq, ql_add, qc_lt, qc_eq, qc_ge, qc_gt, qc_le, true_and, and_true, and_self, true_or, or_true, false_or, or_false, false_and, and_false, not_true_eq_false, not_false_eq_true, Classical.not_not, true_implies, false_implies, implies_true, exists_eq_left, exists_eq_left', Option.some.injEq, reduceIte, Nat.reduceEqDiff, Nat.reduceLT, Nat.reduceLeDiff, Nat.reduceAdd, Nat.reduceSub, Nat.reduceMul, eq_self, ne_eq, and_imp, forall_const, reduceCtorEq, am_w, List.map_cons, List.map_nil, List.sum_cons, List.sum_nil, Value.category, Nat.zero_le, Nat.le_refl]
      have := ih (i + 1) (by omega)
      refine ⟨fun z => ?_, fun z => ?_⟩
      · rw [cn, if_neg (by simpa using z)] at this
        exact this
      · rw [cn, if_pos (by simpa using z)] at this
        exact this
  exact vc_100_0 tt _ _ h _ _ (key m 0 (by omega))
end WC
