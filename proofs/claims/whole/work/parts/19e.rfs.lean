/-! deps: 19d -/
/-! ===== the class reads: folders ===== -/
/-! 60 yX5_takeGivenSizes -/
theorem vc_60_0 (tt : Nat → Nat) (a0 : Nat) (a1 : Int32) (a2 : Int32) (h : am_H) (Q : am_H → Prop) (Qx : String → am_H → Prop) (q :
  ((a2 = (Int32.ofNat 0) →
   ((a2 = (Int32.ofNat 0) →
    am_Ev tt 60 36 [some (.ref a0), some (.int a1), none, some (.int (Int32.ofNat 1)), some (.int (Int32.ofNat 2400)), some (.int (Int32.ofNat 0)), none] [] h (am_pV Q Qx)) ∧
   (¬ (a2 = (Int32.ofNat 0)) →
    (am_K h a0 = 6 ∧ ∃ q1, am_R h 5 2 a0 = some q1 ∧
    ((am_K h q1 = 21 ∨ am_K h q1 = 31) ∧ vp_in a1 (am_N h q1) ∧
    am_Ev tt 60 36 [some (.ref a0), some (.int a1), none, some (.int (Int32.ofNat 1)), some (.int (am_A h q1 (a1).toNatClampNeg)), some (.int (Int32.ofNat 0)), none] [] h (am_pV Q Qx)))))) ∧
  (¬ (a2 = (Int32.ofNat 0)) →
   (am_K h a0 = 6 ∧ ∃ q2, am_R h 5 2 a0 = some q2 ∧
   ((am_K h q2 = 21 ∨ am_K h q2 = 31) ∧ vp_in a1 (am_N h q2) ∧
   ((a2 = (Int32.ofNat 0) →
    am_Ev tt 60 36 [some (.ref a0), some (.int a1), none, some (.int (am_A h q2 (a1).toNatClampNeg)), some (.int (Int32.ofNat 2400)), some (.int (Int32.ofNat 0)), none] [] h (am_pV Q Qx)) ∧
   (¬ (a2 = (Int32.ofNat 0)) →
    (am_K h a0 = 6 ∧ ∃ q3, am_R h 5 2 a0 = some q3 ∧
    ((am_K h q3 = 21 ∨ am_K h q3 = 31) ∧ vp_in a1 (am_N h q3) ∧
    am_Ev tt 60 36 [some (.ref a0), some (.int a1), none, some (.int (am_A h q2 (a1).toNatClampNeg)), some (.int (am_A h q3 (a1).toNatClampNeg)), some (.int (Int32.ofNat 0)), none] [] h (am_pV Q Qx)))))))))) :
  am_Ev tt 60 0 [some (.ref a0), some (.int a1), some (.int a2), none, none, none, none] [] h (am_pV Q Qx) := am_vc 21 [(36, [true, true, false, true, true, true, false])] q
theorem vc_60_36 (tt : Nat → Nat) (a0 : Nat) (a1 : Int32) (a3 : Int32) (a4 : Int32) (a5 : Int32) (h : am_H) (Q : am_H → Prop) (Qx : String → am_H → Prop) (q :
  (am_K h a0 = 6 ∧ ∃ q1, am_R h 5 3 a0 = some q1 ∧
  ((am_K h q1 = 21 ∨ am_K h q1 = 31) ∧ vp_in a1 (am_N h q1) ∧
  (((am_A h q1 (a1).toNatClampNeg) ≤ a5 →
   Q h) ∧
  (¬ ((am_A h q1 (a1).toNatClampNeg) ≤ a5) →
   (am_K h a0 = 6 ∧ ∃ q2, am_R h 5 0 a0 = some q2 ∧
   (am_K h q2 = 3 ∧ ∃ (Q4 : Int64 → am_H → Prop) (X4 : String → am_H → Prop), am_Ct tt 29 [.ref q2, .long (a3).toInt64, .long (a4).toInt64] h (am_pL Q4 X4) ∧ (∀ x5 h3, Q4 x5 h3 →
    (am_K h3 a0 = 6 ∧ ∃ q6, am_R h3 5 4 a0 = some q6 ∧
    ((am_K h3 q6 = 21 ∨ am_K h3 q6 = 31) ∧ vp_in a1 (am_N h3 q6) ∧
    ((¬ a5 = (am_A h3 q6 (a1).toNatClampNeg) →
     am_Ev tt 60 36 [some (.ref a0), some (.int a1), none, some (.int a3), some (.int a4), some (.int (a5 + (Int32.ofNat 1))), none] [] h3 (am_pV Q Qx)) ∧
    (¬ (¬ a5 = (am_A h3 q6 (a1).toNatClampNeg)) →
     (am_K h3 a0 = 6 ∧ ∃ q7, am_R h3 5 5 a0 = some q7 ∧
     (am_K h3 q7 = 21 ∧ vp_in a1 (am_N h3 q7) ∧
     am_Ev tt 60 36 [some (.ref a0), some (.int a1), none, some (.int a3), some (.int a4), some (.int (a5 + (Int32.ofNat 1))), none] [] (am_sA h3 q7 (a1).toNatClampNeg (x5).toInt32) (am_pV Q Qx)))))))) ∧ (∀ E8 h3, X4 E8 h3 → Qx E8 h3)))))))) :
  am_Ev tt 60 36 [some (.ref a0), some (.int a1), none, some (.int a3), some (.int a4), some (.int a5), none] [] h (am_pV Q Qx) := am_vc 31 [(36, [true, true, false, true, true, true, false])] q

/-! 53 yX5_takeFolders -/
theorem vc_53_0 (tt : Nat → Nat) (a0 : Nat) (a1 : Nat) (h : am_H) (Q : am_H → Prop) (Qx : String → am_H → Prop) (q :
  (am_K h a0 = 6 ∧ ∃ q1, am_R h 5 0 a0 = some q1 ∧
  (am_K h q1 = 3 ∧ ∃ (Q3 : am_H → Prop) (X3 : String → am_H → Prop), am_Ct tt 27 [.ref q1, .int (Int32.ofNat 7)] h (am_pV Q3 X3) ∧ (∀ h2, Q3 h2 →
   (am_K h2 a0 = 6 ∧ ∃ q4, am_R h2 5 0 a0 = some q4 ∧
   (am_K h2 q4 = 3 ∧ ∃ (Q6 : am_H → Prop) (X6 : String → am_H → Prop), am_Ct tt 27 [.ref q4, .int (Int32.ofNat 11)] h2 (am_pV Q6 X6) ∧ (∀ h5, Q6 h5 →
    (am_K h5 a0 = 6 ∧ ∃ q7, am_R h5 5 0 a0 = some q7 ∧
    (am_K h5 a0 = 6 ∧
    (am_K h5 a0 = 6 ∧
    (am_K h5 q7 = 3 ∧ ∃ (Q9 : Int64 → am_H → Prop) (X9 : String → am_H → Prop), am_Ct tt 29 [.ref q7, .long ((am_I h5 5 1 a0)).toInt64, .long ((am_I h5 5 1 a0)).toInt64] h5 (am_pL Q9 X9) ∧ (∀ x10 h8, Q9 x10 h8 →
     (am_K h8 a0 = 6 ∧ ∃ q11, am_R h8 5 0 a0 = some q11 ∧
     (am_K h8 q11 = 3 ∧ ∃ (Q13 : am_H → Prop) (X13 : String → am_H → Prop), am_Ct tt 27 [.ref q11, .int (Int32.ofNat 0)] h8 (am_pV Q13 X13) ∧ (∀ h12, Q13 h12 →
      am_Ev tt 53 46 [some (.ref a0), some (.ref a1), some (.int (Int32.ofNat 0)), none, none] [] h12 (am_pV Q Qx)) ∧ (∀ E14 h12, X13 E14 h12 → Qx E14 h12)))) ∧ (∀ E15 h8, X9 E15 h8 → Qx E15 h8)))))) ∧ (∀ E16 h5, X6 E16 h5 → Qx E16 h5)))) ∧ (∀ E17 h2, X3 E17 h2 → Qx E17 h2)))) :
  am_Ev tt 53 0 [some (.ref a0), some (.ref a1), none, none, none] [] h (am_pV Q Qx) := am_vc 27 [(46, [true, true, true, false, false]), (70, [true, true, true, true, true]), (122, [true, true, true, false, false])] q
theorem vc_53_46 (tt : Nat → Nat) (a0 : Nat) (a1 : Nat) (a2 : Int32) (h : am_H) (Q : am_H → Prop) (Qx : String → am_H → Prop) (q :
  (am_K h a0 = 6 ∧
  (((am_I h 5 1 a0) ≤ a2 →
   (am_K h a0 = 6 ∧ ∃ q1, am_R h 5 0 a0 = some q1 ∧
   (am_K h q1 = 3 ∧ ∃ (Q3 : am_H → Prop) (X3 : String → am_H → Prop), am_Ct tt 27 [.ref q1, .int (Int32.ofNat 12)] h (am_pV Q3 X3) ∧ (∀ h2, Q3 h2 →
    am_Ev tt 53 122 [some (.ref a0), some (.ref a1), some (.int (Int32.ofNat 0)), none, none] [] h2 (am_pV Q Qx)) ∧ (∀ E4 h2, X3 E4 h2 → Qx E4 h2)))) ∧
  (¬ ((am_I h 5 1 a0) ≤ a2) →
   (am_K h a0 = 6 ∧ ∃ q5, am_R h 5 0 a0 = some q5 ∧
   (am_K h q5 = 3 ∧ ∃ (Q7 : Int64 → am_H → Prop) (X7 : String → am_H → Prop), am_Ct tt 29 [.ref q5, .long (Int64.ofNat 1), .long (Int64.ofNat 3)] h (am_pL Q7 X7) ∧ (∀ x8 h6, Q7 x8 h6 →
    am_Ev tt 53 70 [some (.ref a0), some (.ref a1), some (.int a2), some (.int (x8).toInt32), some (.int (Int32.ofNat 0))] [] h6 (am_pV Q Qx)) ∧ (∀ E9 h6, X7 E9 h6 → Qx E9 h6))))))) :
  am_Ev tt 53 46 [some (.ref a0), some (.ref a1), some (.int a2), none, none] [] h (am_pV Q Qx) := am_vc 16 [(46, [true, true, true, false, false]), (70, [true, true, true, true, true]), (122, [true, true, true, false, false])] q
theorem vc_53_70 (tt : Nat → Nat) (a0 : Nat) (a1 : Nat) (a2 : Int32) (a3 : Int32) (a4 : Int32) (h : am_H) (Q : am_H → Prop) (Qx : String → am_H → Prop) (q :
  ((a3 ≤ a4 →
   (am_K h a0 = 6 ∧ ∃ (Q2 : am_H → Prop) (X2 : String → am_H → Prop), am_Ct tt 57 [.ref a0, .int a3] h (am_pV Q2 X2) ∧ (∀ h1, Q2 h1 →
    (am_K h1 a1 = 1 ∧ ∃ q3, am_R h1 0 2 a1 = some q3 ∧
    ((am_K h1 q3 = 26 ∨ am_K h1 q3 = 27) ∧ vp_in a2 (am_N h1 q3) ∧ ∃ q4, am_C h1 q3 (a2).toNatClampNeg = some q4 ∧
    (am_K h1 a0 = 6 ∧ ∃ (Q6 : am_H → Prop) (X6 : String → am_H → Prop), am_Ct tt 54 [.ref a0, .int a2, .int a3, .ref q4] h1 (am_pV Q6 X6) ∧ (∀ h5, Q6 h5 →
     am_Ev tt 53 46 [some (.ref a0), some (.ref a1), some (.int (a2 + (Int32.ofNat 1))), none, none] [] h5 (am_pV Q Qx)) ∧ (∀ E7 h5, X6 E7 h5 → Qx E7 h5))))) ∧ (∀ E8 h1, X2 E8 h1 → Qx E8 h1))) ∧
  (¬ (a3 ≤ a4) →
   (am_K h a0 = 6 ∧ ∃ (Q10 : am_H → Prop) (X10 : String → am_H → Prop), am_Ct tt 55 [.ref a0, .int a4] h (am_pV Q10 X10) ∧ (∀ h9, Q10 h9 →
    am_Ev tt 53 70 [some (.ref a0), some (.ref a1), some (.int a2), some (.int a3), some (.int (a4 + (Int32.ofNat 1)))] [] h9 (am_pV Q Qx)) ∧ (∀ E11 h9, X10 E11 h9 → Qx E11 h9))))) :
  am_Ev tt 53 70 [some (.ref a0), some (.ref a1), some (.int a2), some (.int a3), some (.int a4)] [] h (am_pV Q Qx) := am_vc 19 [(46, [true, true, true, false, false]), (70, [true, true, true, true, true]), (122, [true, true, true, false, false])] q
theorem vc_53_122 (tt : Nat → Nat) (a0 : Nat) (a1 : Nat) (a2 : Int32) (h : am_H) (Q : am_H → Prop) (Qx : String → am_H → Prop) (q :
  (am_K h a0 = 6 ∧
  (((am_I h 5 1 a0) ≤ a2 →
   (am_K h a0 = 6 ∧ ∃ q1, am_R h 5 0 a0 = some q1 ∧
   (am_K h q1 = 3 ∧ ∃ (Q3 : am_H → Prop) (X3 : String → am_H → Prop), am_Ct tt 27 [.ref q1, .int (Int32.ofNat 0)] h (am_pV Q3 X3) ∧ (∀ h2, Q3 h2 →
    Q h2) ∧ (∀ E4 h2, X3 E4 h2 → Qx E4 h2)))) ∧
  (¬ ((am_I h 5 1 a0) ≤ a2) →
   (am_K h a1 = 1 ∧ ∃ q5, am_R h 0 2 a1 = some q5 ∧
   ((am_K h q5 = 26 ∨ am_K h q5 = 27) ∧ vp_in a2 (am_N h q5) ∧ ∃ q6, am_C h q5 (a2).toNatClampNeg = some q6 ∧
   (am_K h q6 = 2 ∧
   (am_K h a0 = 6 ∧ ∃ (Q8 : am_H → Prop) (X8 : String → am_H → Prop), am_Ct tt 60 [.ref a0, .int a2, .int (am_I h 1 3 q6)] h (am_pV Q8 X8) ∧ (∀ h7, Q8 h7 →
    am_Ev tt 53 122 [some (.ref a0), some (.ref a1), some (.int (a2 + (Int32.ofNat 1))), none, none] [] h7 (am_pV Q Qx)) ∧ (∀ E9 h7, X8 E9 h7 → Qx E9 h7))))))))) :
  am_Ev tt 53 122 [some (.ref a0), some (.ref a1), some (.int a2), none, none] [] h (am_pV Q Qx) := am_vc 17 [(46, [true, true, true, false, false]), (70, [true, true, true, true, true]), (122, [true, true, true, false, false])] q

section RD1
variable {tt : Nat → Nat} {h0 h h' h'' : am_H} {cd : Nat → Nat} {bb : Nat → Nat → Nat} {wa wt n p : Nat}
/-- the draft's blocks -/
theorem CX.bk (x : CX tt h0 cd bb wa wt n h p) {b : Nat} (hb : b < 6) : am_K h (cd (c_ar (1 - wa))) = 1 ∧ am_R h 0 2 (cd (c_ar (1 - wa))) = some (cd (c_ba (1 - wa))) ∧ am_K h (cd (c_ba (1 - wa))) = 27 ∧ am_N h (cd (c_ba (1 - wa))) = 6 ∧ am_C h (cd (c_ba (1 - wa))) b = some (cd (c_bk (1 - wa) b)) ∧ am_K h (cd (c_bk (1 - wa) b)) = 2 ∧ am_R h 1 0 (cd (c_bk (1 - wa) b)) = some (cd (c_bi (1 - wa) b)) ∧ am_K h (cd (c_bi (1 - wa) b)) = 21 ∧ am_N h (cd (c_bi (1 - wa) b)) = 3 ∧ am_R h 1 1 (cd (c_bk (1 - wa) b)) = some (cd (c_bd (1 - wa) b)) ∧ am_K h (cd (c_bd (1 - wa) b)) = 21 ∧ am_N h (cd (c_bd (1 - wa) b)) = 3 := by
  have w1 : 1 - wa < 2 := by omega
  obtain ⟨a1, a2, a3, a4, a5, a6, a7, a8, a9⟩ := (x.cl.2.2.2.2.1 _ w1).1
  obtain ⟨t1, t2, t3, t4, t5, t6, t7, t8⟩ := a9 b hb
  exact ⟨a1, a5, a6, a7, t1, t2, t3, t4, t5, t6, t7, t8⟩
/-- a block of the draft -/
def FB (cd : Nat → Nat) (wa : Nat) (h : am_H) (b : Nat) (o : FO) : Prop := am_I h 1 3 (cd (c_bk (1 - wa) b)) = b01 o.2.1 ∧ am_I h 1 2 (cd (c_bk (1 - wa) b)) = Int32.ofNat o.1 ∧ ∀ j, j < o.1 → am_A h (cd (c_bi (1 - wa) b)) j = o.2.2.1 j ∧ am_A h (cd (c_bd (1 - wa) b)) j = o.2.2.2.1 j
def Xf (wa b k : Nat) : Prop := k = 43 ∨ k = 44 ∨ k = c_bi (1 - wa) b ∨ k = c_bd (1 - wa) b
def Yf (wa b c _g k : Nat) : Prop := c = 1 ∧ k = c_bk (1 - wa) b
theorem ct_keepFolder (x : CX tt h0 cd bb wa wt n h p) {b nc : Nat} (hb : b < 6) (h1 : 1 ≤ nc) (h3 : nc ≤ 3) {bs : List (Nat × Nat)} (br : BR cd h bs) (vb : vB nc bs) (hl : bs.length = nc - 1) {ks ds : Nat → Int32} (hk : ∀ c, c < nc → am_A h (cd 51) c = ks c ∧ am_A h (cd 52) c = ds c) (i2 : am_I h 1 2 (cd (c_bk (1 - wa) b)) = Int32.ofNat 0) (i3 : am_I h 1 3 (cd (c_bk (1 - wa) b)) = Int32.ofNat 1) :
    am_Ct tt 54 [.ref (cd 32), .int (Int32.ofNat b), .int (Int32.ofNat nc), .ref (cd (c_bk (1 - wa) b))] h (am_pV (fun h' => CX tt h0 cd bb wa wt n h' p ∧ rf cd (Xf wa b) (Yf wa b) h h' ∧ am_A h' (cd 43) = va_up (am_A h (cd 43)) b (Int32.ofNat nc) ∧ am_A h' (cd 44) = va_up (am_A h (cd 44)) b (Int32.ofNat (omL bs nc)) ∧ FB cd wa h' b (mkF nc ks ds bs)) no_x) := by
  have ci := x.ci
  have f := x.f
  have hch := ch_v h1 h3 vb hl
  have hom : omL bs nc < nc := (hch 0 (by omega)).1
  have hbs := vB_b h3 vb
  have n34 : cd 43 ≠ cd 44 := fun e => by have := ci.1 _ _ e; omega
  have nid : cd (c_bi (1 - wa) b) ≠ cd (c_bd (1 - wa) b) := fun e => by have := ci.1 _ _ e; unfold c_bi c_bd at this; omega
  have XXA : ∀ k, Xf wa b k → XA wa k := fun k z => by unfold Xf c_bi c_bd at z; unfold XA; omega
  have YYA : ∀ c g k, Yf wa b c g k → YA wa c g k := fun c g k z => by unfold Yf c_bk at z; unfold YA; omega
  have key : ∀ (d i : Nat) (k : am_H), d + i = nc → CX tt h0 cd bb wa wt n k p → rf cd (Xf wa b) (Yf wa b) h k → am_A k (cd 43) = va_up (am_A h (cd 43)) b (Int32.ofNat nc) → am_A k (cd 44) = va_up (am_A h (cd 44)) b (Int32.ofNat (omL bs nc)) →
      am_I k 1 3 (cd (c_bk (1 - wa) b)) = b01 (decide (∀ j, j < i → ¬ ks (chL bs (omL bs nc) j) = -1)) → am_I k 1 2 (cd (c_bk (1 - wa) b)) = Int32.ofNat i → (∀ j, j < i → am_A k (cd (c_bi (1 - wa) b)) j = ks (chL bs (omL bs nc) j) ∧ am_A k (cd (c_bd (1 - wa) b)) j = (if ks (chL bs (omL bs nc) j) = Int32.ofNat 1 then ds (chL bs (omL bs nc) j) else Int32.ofNat 0)) →
      am_Ev tt 54 29 [some (.ref (cd 32)), none, some (.int (Int32.ofNat nc)), some (.ref (cd (c_bk (1 - wa) b))), some (.int (tkv (chL bs (omL bs nc) i))), some (.int (Int32.ofNat i))] [] k (am_pV (fun h' => CX tt h0 cd bb wa wt n h' p ∧ rf cd (Xf wa b) (Yf wa b) h h' ∧ am_A h' (cd 43) = va_up (am_A h (cd 43)) b (Int32.ofNat nc) ∧ am_A h' (cd 44) = va_up (am_A h (cd 44)) b (Int32.ofNat (omL bs nc)) ∧ FB cd wa h' b (mkF nc ks ds bs)) no_x) := by
    intro d
    induction d with
    | zero =>
      intro i k e y fk a3 a4 k3 k2 kr
      have : i = nc := by omega
      subst this
      exact vc_54_29 tt _ _ _ _ _ _ _ _ ⟨fun _ => ⟨y, fk, a3, a4, k3, k2, kr⟩, fun z => absurd (Int32.le_refl _) z⟩
    | succ d ih =>
      intro i k e y fk a3 a4 k3 k2 kr
      have F := y.f
      have G := y.bk hb
      have hc := (hch i (by omega)).1
      have hc3 : chL bs (omL bs nc) i < 3 := by omega
      have et : tkv (chL bs (omL bs nc) i) = Int32.ofNat (chL bs (omL bs nc) i) := by rw [tkv, if_neg (by omega)]
      have e51 : am_A k (cd 51) = am_A h (cd 51) := fk.a ci (by unfold Xf c_bi c_bd; omega)
      have e52 : am_A k (cd 52) = am_A h (cd 52) := fk.a ci (by unfold Xf c_bi c_bd; omega)
      have e53 : am_A k (cd 53) = am_A h (cd 53) := fk.a ci (by unfold Xf c_bi c_bd; omega)
      have v1 : am_A k (cd 51) (chL bs (omL bs nc) i) = ks (chL bs (omL bs nc) i) := by rw [e51]; exact (hk _ hc).1
      have v2 : am_A k (cd 52) (chL bs (omL bs nc) i) = ds (chL bs (omL bs nc) i) := by rw [e52]; exact (hk _ hc).2
      have v3 : am_A k (cd 53) (chL bs (omL bs nc) i) = tkv (chL bs (omL bs nc) (i + 1)) := by rw [e53]; exact br.1 _ hc3
      have nb1 : cd 53 ≠ cd (c_bi (1 - wa) b) := fun e => by have := ci.1 _ _ e; unfold c_bi at this; omega
      have nb2 : cd 53 ≠ cd (c_bd (1 - wa) b) := fun e => by have := ci.1 _ _ e; unfold c_bd at this; omega
      have m3 : ∀ q, q = 43 ∨ q = 44 → cd q ≠ cd (c_bi (1 - wa) b) ∧ cd q ≠ cd (c_bd (1 - wa) b) := fun q hq => ⟨fun e => by have := ci.1 _ _ e; unfold c_bi at this; omega, fun e => by have := ci.1 _ _ e; unfold c_bd at this; omega⟩
      have i3' : i < 3 := by omega
      -- one coder more, on a heap whose flag was told
      have nx : ∀ (k1 : am_H), k1 = k ∨ k1 = am_sI k 1 3 (cd (c_bk (1 - wa) b)) (Int32.ofNat 0) → am_I k1 1 3 (cd (c_bk (1 - wa) b)) = b01 (decide (∀ j, j < i + 1 → ¬ ks (chL bs (omL bs nc) j) = -1)) → ∀ k2', k2' = (if i < 3 then am_sI (am_sA (am_sA k1 (cd (c_bi (1 - wa) b)) i (ks (chL bs (omL bs nc) i))) (cd (c_bd (1 - wa) b)) i (if ks (chL bs (omL bs nc) i) = Int32.ofNat 1 then ds (chL bs (omL bs nc) i) else Int32.ofNat 0)) 1 2 (cd (c_bk (1 - wa) b)) (Int32.ofNat (i + 1)) else k1) →
          am_K k2' (cd 32) = 6 ∧ ∃ q6, am_R k2' 5 13 (cd 32) = some q6 ∧ ((am_K k2' q6 = 21 ∨ am_K k2' q6 = 31) ∧ vp_in (Int32.ofNat (chL bs (omL bs nc) i)) (am_N k2' q6) ∧ am_Ev tt 54 29 [some (.ref (cd 32)), none, some (.int (Int32.ofNat nc)), some (.ref (cd (c_bk (1 - wa) b))), some (.int (am_A k2' q6 (Int32.ofNat (chL bs (omL bs nc) i)).toNatClampNeg)), some (.int (Int32.ofNat i + Int32.ofNat 1))] [] k2' (am_pV (fun h' => CX tt h0 cd bb wa wt n h' p ∧ rf cd (Xf wa b) (Yf wa b) h h' ∧ am_A h' (cd 43) = va_up (am_A h (cd 43)) b (Int32.ofNat nc) ∧ am_A h' (cd 44) = va_up (am_A h (cd 44)) b (Int32.ofNat (omL bs nc)) ∧ FB cd wa h' b (mkF nc ks ds bs)) no_x)) := by
        intro k1 hk1 f3 k2' e2
        rw [if_pos i3'] at e2
        have r1 : rf cd (Xf wa b) (Yf wa b) k k1 := by
          rcases hk1 with rfl | rfl
          · exact rf.re
          · exact rf.sI ⟨rfl, rfl⟩
        have ea1 : am_A k1 = am_A k := by rcases hk1 with rfl | rfl <;> rfl
        have r2 : rf cd (Xf wa b) (Yf wa b) k k2' := by
          rw [e2]
          exact ((r1.tr (rf.sA (Or.inr (Or.inr (Or.inl rfl))))).tr (rf.sA (Or.inr (Or.inr (Or.inr rfl))))).tr (rf.sI ⟨rfl, rfl⟩)
        have uv : am_U k2' = am_U k ∧ am_V k2' = am_V k := by
          rw [e2]
          rcases hk1 with rfl | rfl <;> exact ⟨rfl, rfl⟩
        have y2 : CX tt h0 cd bb wa wt n k2' p := y.on (r2.mo XXA YYA) uv.1 uv.2 (fun g _ => r2.i ci (by unfold Yf c_bk; omega))
        have F2 := y2.f
        have w3 : am_A k2' (cd 53) (chL bs (omL bs nc) i) = tkv (chL bs (omL bs nc) (i + 1)) := by
          rw [e2]
          simp only [am_hs]
          rw [if_neg (fun z => nb2 z.1), if_neg (fun z => nb1 z.1), ea1]
          exact v3
        simp (disch := omega) only [F2, w3, hc3, qi_lt, qi_le, qi_eq, qi_nn, qi_in, qi_add, qi_l, ql_i, ql_lt, ql_le, ql_eq, ql_add, qc_lt, qc_eq, qc_ge, qc_gt, qc_le, true_and, and_true, and_self, true_or, or_true, false_or, or_false, false_and, and_false, not_true_eq_false, not_false_eq_true, Classical.not_not, true_implies, false_implies, implies_true, exists_eq_left, exists_eq_left', Option.some.injEq, reduceIte, Nat.reduceEqDiff, Nat.reduceLT, Nat.reduceLeDiff, Nat.reduceAdd, Nat.reduceSub, Nat.reduceMul, eq_self, ne_eq, and_imp, forall_const, reduceCtorEq, am_w, List.map_cons, List.map_nil, List.sum_cons, List.sum_nil, Value.category, Nat.zero_le, Nat.le_refl]
        refine ih (i + 1) k2' (by omega) y2 (fk.tr r2) ?_ ?_ ?_ ?_ (fun j hj => ?_)
        · rw [← a3, e2]
          funext j
          simp only [am_hs]
          rw [if_neg (fun z => (m3 43 (by omega)).2 z.1), if_neg (fun z => (m3 43 (by omega)).1 z.1), ea1]
        · rw [← a4, e2]
          funext j
          simp only [am_hs]
          rw [if_neg (fun z => (m3 44 (by omega)).2 z.1), if_neg (fun z => (m3 44 (by omega)).1 z.1), ea1]
        · rw [e2]
          simp only [am_hs, true_and, and_true, and_self, true_or, or_true, false_or, or_false, false_and, and_false, not_true_eq_false, not_false_eq_true, Classical.not_not, true_implies, false_implies, implies_true, exists_eq_left, exists_eq_left', Option.some.injEq, reduceIte, Nat.reduceEqDiff, Nat.reduceLT, Nat.reduceLeDiff, Nat.reduceAdd, Nat.reduceSub, Nat.reduceMul, eq_self, ne_eq, and_imp, forall_const, reduceCtorEq, am_w, List.map_cons, List.map_nil, List.sum_cons, List.sum_nil, Value.category, Nat.zero_le, Nat.le_refl]
          exact f3
        · rw [e2]
          simp only [am_hs, true_and, and_true, and_self, true_or, or_true, false_or, or_false, false_and, and_false, not_true_eq_false, not_false_eq_true, Classical.not_not, true_implies, false_implies, implies_true, exists_eq_left, exists_eq_left', Option.some.injEq, reduceIte, Nat.reduceEqDiff, Nat.reduceLT, Nat.reduceLeDiff, Nat.reduceAdd, Nat.reduceSub, Nat.reduceMul, eq_self, ne_eq, and_imp, forall_const, reduceCtorEq, am_w, List.map_cons, List.map_nil, List.sum_cons, List.sum_nil, Value.category, Nat.zero_le, Nat.le_refl]
        · rw [e2]
          simp only [am_hs]
          by_cases c : j = i
          · subst c
            rw [if_neg (fun z => nid z.1)]
            simp only [true_and, and_true, and_self, true_or, or_true, false_or, or_false, false_and, and_false, not_true_eq_false, not_false_eq_true, Classical.not_not, true_implies, false_implies, implies_true, exists_eq_left, exists_eq_left', Option.some.injEq, reduceIte, Nat.reduceEqDiff, Nat.reduceLT, Nat.reduceLeDiff, Nat.reduceAdd, Nat.reduceSub, Nat.reduceMul, eq_self, ne_eq, and_imp, forall_const, reduceCtorEq, am_w, List.map_cons, List.map_nil, List.sum_cons, List.sum_nil, Value.category, Nat.zero_le, Nat.le_refl]
          · rw [if_neg (fun z => nid z.1), if_neg (fun z => c z.2), if_neg (fun z => c z.2), if_neg (fun z => nid z.1.symm), ea1]
            exact kr j (by omega)
      have bks : ∀ k1, k1 = k ∨ k1 = am_sI k 1 3 (cd (c_bk (1 - wa) b)) (Int32.ofNat 0) → bk_s k1 (cd (c_bk (1 - wa) b)) (cd (c_bi (1 - wa) b)) (cd (c_bd (1 - wa) b)) i := by
        intro k1 hk1
        have : am_K k1 = am_K k ∧ am_R k1 = am_R k ∧ am_N k1 = am_N k ∧ am_I k1 1 2 (cd (c_bk (1 - wa) b)) = am_I k 1 2 (cd (c_bk (1 - wa) b)) := by
          rcases hk1 with rfl | rfl
          · exact ⟨rfl, rfl, rfl, rfl⟩
          · exact ⟨rfl, rfl, rfl, by simp only [am_hs, true_and, and_true, and_self, true_or, or_true, false_or, or_false, false_and, and_false, not_true_eq_false, not_false_eq_true, Classical.not_not, true_implies, false_implies, implies_true, exists_eq_left, exists_eq_left', Option.some.injEq, reduceIte, Nat.reduceEqDiff, Nat.reduceLT, Nat.reduceLeDiff, Nat.reduceAdd, Nat.reduceSub, Nat.reduceMul, eq_self, ne_eq, and_imp, forall_const, reduceCtorEq, am_w, List.map_cons, List.map_nil, List.sum_cons, List.sum_nil, Value.category, Nat.zero_le, Nat.le_refl]⟩
        obtain ⟨z1, z2, z3, z4⟩ := this
        unfold bk_s
        rw [z1, z2, z3, z4]
        exact ⟨G.2.2.2.2.2.1, G.2.2.2.2.2.2.1, G.2.2.2.2.2.2.2.1, G.2.2.2.2.2.2.2.2.1, G.2.2.2.2.2.2.2.2.2.1, G.2.2.2.2.2.2.2.2.2.2.1, G.2.2.2.2.2.2.2.2.2.2.2, k2, by omega⟩
      rw [et]
      refine vc_54_29 tt _ _ _ _ _ _ _ _ ?_
      have q1 : ¬ nc ≤ i := by omega
      have q2 : ¬ nc ≤ chL bs (omL bs nc) i := by omega
      simp (disch := omega) only [F, G, v1, v2, hc3, q1, q2, am_hs, qi_lt, qi_le, qi_eq, qi_nn, qi_in, qi_add, qi_l, ql_i, ql_lt, ql_le, ql_eq, ql_add, qc_lt, qc_eq, qc_ge, qc_gt, qc_le, true_and, and_true, and_self, true_or, or_true, false_or, or_false, false_and, and_false, not_true_eq_false, not_false_eq_true, Classical.not_not, true_implies, false_implies, implies_true, exists_eq_left, exists_eq_left', Option.some.injEq, reduceIte, Nat.reduceEqDiff, Nat.reduceLT, Nat.reduceLeDiff, Nat.reduceAdd, Nat.reduceSub, Nat.reduceMul, eq_self, ne_eq, and_imp, forall_const, reduceCtorEq, am_w, List.map_cons, List.map_nil, List.sum_cons, List.sum_nil, Value.category, Nat.zero_le, Nat.le_refl]
      refine ⟨fun z => by omega, fun _ => ⟨fun z => ⟨_, _, ct_addCoder (bks k (Or.inl rfl)), fun k2' e2 => ?_, fun _ _ z => z⟩, fun z => ⟨_, _, ct_addCoder (bks _ (Or.inr rfl)), fun k2' e2 => ?_, fun _ _ z => z⟩⟩⟩
      · have := nx k (Or.inl rfl) (by
          rw [k3]
          congr 1
          apply decide_eq_decide.2
          exact ⟨fun w j hj => by
            by_cases c : j = i
            · rw [c]; exact z
            · exact w j (by omega), fun w j hj => w j (by omega)⟩) k2' e2
        simp (disch := omega) only [qi_lt, qi_le, qi_eq, qi_nn, qi_in, qi_add, qi_l, ql_i, ql_lt, ql_le, ql_eq, ql_add, qc_lt, qc_eq, qc_ge, qc_gt, qc_le] at this
        exact this
      · have := nx _ (Or.inr rfl) (by
          simp only [am_hs, true_and, and_true, and_self, true_or, or_true, false_or, or_false, false_and, and_false, not_true_eq_false, not_false_eq_true, Classical.not_not, true_implies, false_implies, implies_true, exists_eq_left, exists_eq_left', Option.some.injEq, reduceIte, Nat.reduceEqDiff, Nat.reduceLT, Nat.reduceLeDiff, Nat.reduceAdd, Nat.reduceSub, Nat.reduceMul, eq_self, ne_eq, and_imp, forall_const, reduceCtorEq, am_w, List.map_cons, List.map_nil, List.sum_cons, List.sum_nil, Value.category, Nat.zero_le, Nat.le_refl]
          rw [decide_eq_false (fun w => w i (by omega) z)]; rfl) k2' e2
        simp (disch := omega) only [qi_lt, qi_le, qi_eq, qi_nn, qi_in, qi_add, qi_l, ql_i, ql_lt, ql_le, ql_eq, ql_add, qc_lt, qc_eq, qc_ge, qc_gt, qc_le] at this
        exact this
  have G := x.bk hb
  refine vc_54_0 tt _ _ _ _ h _ _ ?_
  have xs : CX tt h0 cd bb wa wt n (am_sA h (cd 43) b (Int32.ofNat nc)) p := x.on (rf.sA (by unfold XA; omega)) rfl rfl (fun _ _ => rfl)
  have n54 : cd 54 ≠ cd 43 := fun e => by have := ci.1 _ _ e; omega
  simp (disch := omega) only [f, hb, am_hs, qi_lt, qi_le, qi_eq, qi_nn, qi_in, qi_add, qi_l, ql_i, ql_lt, ql_le, ql_eq, ql_add, qc_lt, qc_eq, qc_ge, qc_gt, qc_le, true_and, and_true, and_self, true_or, or_true, false_or, or_false, false_and, and_false, not_true_eq_false, not_false_eq_true, Classical.not_not, true_implies, false_implies, implies_true, exists_eq_left, exists_eq_left', Option.some.injEq, reduceIte, Nat.reduceEqDiff, Nat.reduceLT, Nat.reduceLeDiff, Nat.reduceAdd, Nat.reduceSub, Nat.reduceMul, eq_self, ne_eq, and_imp, forall_const, reduceCtorEq, am_w, List.map_cons, List.map_nil, List.sum_cons, List.sum_nil, Value.category, Nat.zero_le, Nat.le_refl]
  refine ⟨_, _, ct_findOutermost xs (bs := bs) (fun c hc => by simp only [am_hs]; rw [if_neg (fun z => n54 z.1)]; exact br.2 c hc) h1 h3, fun v k e => ?_, fun _ _ z => z⟩
  obtain ⟨ek, rfl⟩ := e
  subst ek
  simp (disch := omega) only [f, hb, am_hs, qi_lt, qi_le, qi_eq, qi_nn, qi_in, qi_add, qi_l, ql_i, ql_lt, ql_le, ql_eq, ql_add, qc_lt, qc_eq, qc_ge, qc_gt, qc_le, true_and, and_true, and_self, true_or, or_true, false_or, or_false, false_and, and_false, not_true_eq_false, not_false_eq_true, Classical.not_not, true_implies, false_implies, implies_true, exists_eq_left, exists_eq_left', Option.some.injEq, reduceIte, Nat.reduceEqDiff, Nat.reduceLT, Nat.reduceLeDiff, Nat.reduceAdd, Nat.reduceSub, Nat.reduceMul, eq_self, ne_eq, and_imp, forall_const, reduceCtorEq, am_w, List.map_cons, List.map_nil, List.sum_cons, List.sum_nil, Value.category, Nat.zero_le, Nat.le_refl]
  have := key nc 0 (am_sA (am_sA h (cd 43) b (Int32.ofNat nc)) (cd 44) b (Int32.ofNat (omL bs nc))) (by omega) (xs.on (rf.sA (by unfold XA; omega)) rfl rfl (fun _ _ => rfl)) ((rf.sA (Or.inl rfl)).tr (rf.sA (Or.inr (Or.inl rfl)))) ?_ ?_ ?_ i2 (fun j hj => absurd hj (Nat.not_lt_zero j))
  · rw [show tkv (chL bs (omL bs nc) 0) = Int32.ofNat (omL bs nc) from by show tkv (omL bs nc) = _; rw [tkv, if_neg (by omega)]] at this
    exact this
  · funext j
    simp only [am_hs]
    rw [if_neg (fun z => n34 z.1)]
    simp only [true_and, and_true, and_self, true_or, or_true, false_or, or_false, false_and, and_false, not_true_eq_false, not_false_eq_true, Classical.not_not, true_implies, false_implies, implies_true, exists_eq_left, exists_eq_left', Option.some.injEq, reduceIte, Nat.reduceEqDiff, Nat.reduceLT, Nat.reduceLeDiff, Nat.reduceAdd, Nat.reduceSub, Nat.reduceMul, eq_self, ne_eq, and_imp, forall_const, reduceCtorEq, am_w, List.map_cons, List.map_nil, List.sum_cons, List.sum_nil, Value.category, Nat.zero_le, Nat.le_refl]
    rfl
  · funext j
    simp only [am_hs, true_and, and_true, and_self, true_or, or_true, false_or, or_false, false_and, and_false, not_true_eq_false, not_false_eq_true, Classical.not_not, true_implies, false_implies, implies_true, exists_eq_left, exists_eq_left', Option.some.injEq, reduceIte, Nat.reduceEqDiff, Nat.reduceLT, Nat.reduceLeDiff, Nat.reduceAdd, Nat.reduceSub, Nat.reduceMul, eq_self, ne_eq, and_imp, forall_const, reduceCtorEq, am_w, List.map_cons, List.map_nil, List.sum_cons, List.sum_nil, Value.category, Nat.zero_le, Nat.le_refl]
    unfold va_up
    by_cases c : j = b
    · rw [if_pos c, if_pos c]
    · rw [if_neg c, if_neg c, if_neg (fun z => n34 z.1.symm)]
  · simp only [am_hs]
    rw [i3, decide_eq_true (fun j hj => absurd hj (Nat.not_lt_zero j))]
    rfl
def Xg (k : Nat) : Prop := k = 45
theorem ct_takeGivenSizes (x : CX tt h0 cd bb wa wt n h p) {b nc om lo hi : Nat} (hb : b < 6) {kn : Bool} {pk : Nat} (hpk : am_A h (cd 42) b = Int32.ofNat pk) (pk5 : pk ≤ 5000) (elo : lo = if kn = true then pk else 1) (ehi : hi = if kn = true then pk else 2400) (hnc : am_A h (cd 43) b = Int32.ofNat nc) (n3 : nc ≤ 3) (hom : am_A h (cd 44) b = Int32.ofNat om) (o3 : om < nc) {r : Except pe (Nat × Nat)} (hr : r = lG1 (FF cd wt h0) n lo hi om nc 0 p 0) :
    am_Ct tt 60 [.ref (cd 32), .int (Int32.ofNat b), .int (b01 kn)] h (am_pV (fun h' => ∃ g p', r = .ok (g, p') ∧ CX tt h0 cd bb wa wt n h' p' ∧ rf cd Xg Yc h h' ∧ am_A h' (cd 45) = va_up (am_A h (cd 45)) b (Int32.ofNat g)) (ER cd wa h0 r)) := by
  have ci := x.ci
  have f := x.f
  have l5 : lo ≤ 5000 ∧ hi ≤ 5000 := by rw [elo, ehi]; split <;> omega
  have key : ∀ (d c : Nat) (k : am_H) (q g : Nat), d + c = nc → CX tt h0 cd bb wa wt n k q → rf cd Xg Yc h k → (om < c → am_A k (cd 45) = va_up (am_A h (cd 45)) b (Int32.ofNat g)) → (¬ om < c → am_A k (cd 45) = am_A h (cd 45)) → r = lG1 (FF cd wt h0) n lo hi om d c q g →
      am_Ev tt 60 36 [some (.ref (cd 32)), some (.int (Int32.ofNat b)), none, some (.int (Int32.ofNat lo)), some (.int (Int32.ofNat hi)), some (.int (Int32.ofNat c)), none] [] k (am_pV (fun h' => ∃ g p', r = .ok (g, p') ∧ CX tt h0 cd bb wa wt n h' p' ∧ rf cd Xg Yc h h' ∧ am_A h' (cd 45) = va_up (am_A h (cd 45)) b (Int32.ofNat g)) (ER cd wa h0 r)) := by
    intro d
    induction d with
    | zero =>
      intro c k q g e y fk g1 g2 hr2
      have F := y.f
      have : c = nc := by omega
      subst this
      have e43 : am_A k (cd 43) b = Int32.ofNat c := by rw [fk.a ci (by unfold Xg; omega)]; exact hnc
      refine vc_60_36 tt _ _ _ _ _ _ _ _ ?_
      simp (disch := omega) only [F, e43, hb, qi_lt, qi_le, qi_eq, qi_nn, qi_in, qi_add, qi_l, ql_i, ql_lt, ql_le, ql_eq, ql_add, qc_lt, qc_eq, qc_ge, qc_gt, qc_le, true_and, and_true, and_self, true_or, or_true, false_or, or_false, false_and, and_false, not_true_eq_false, not_false_eq_true, Classical.not_not, true_implies, false_implies, implies_true, exists_eq_left, exists_eq_left', Option.some.injEq, reduceIte, Nat.reduceEqDiff, Nat.reduceLT, Nat.reduceLeDiff, Nat.reduceAdd, Nat.reduceSub, Nat.reduceMul, eq_self, ne_eq, and_imp, forall_const, reduceCtorEq, am_w, List.map_cons, List.map_nil, List.sum_cons, List.sum_nil, Value.category, Nat.zero_le, Nat.le_refl]
      exact ⟨g, q, hr2, y, fk, g1 o3⟩
    | succ d ih =>
      intro c k q g e y fk g1 g2 hr
      have F := y.f
      have e43 : am_A k (cd 43) b = Int32.ofNat nc := by rw [fk.a ci (by unfold Xg; omega)]; exact hnc
      rw [lG1] at hr
      refine vc_60_36 tt _ _ _ _ _ _ _ _ ?_
      simp (disch := omega) only [F, e43, hb, qi_lt, qi_le, qi_eq, qi_nn, qi_in, qi_add, qi_l, ql_i, ql_lt, ql_le, ql_eq, ql_add, qc_lt, qc_eq, qc_ge, qc_gt, qc_le, true_and, and_true, and_self, true_or, or_true, false_or, or_false, false_and, and_false, not_true_eq_false, not_false_eq_true, Classical.not_not, true_implies, false_implies, implies_true, exists_eq_left, exists_eq_left', Option.some.injEq, reduceIte, Nat.reduceEqDiff, Nat.reduceLT, Nat.reduceLeDiff, Nat.reduceAdd, Nat.reduceSub, Nat.reduceMul, eq_self, ne_eq, and_imp, forall_const, reduceCtorEq, am_w, List.map_cons, List.map_nil, List.sum_cons, List.sum_nil, Value.category, Nat.zero_le, Nat.le_refl]
      refine ⟨fun z => by omega, fun _ => (y.nu hr fun v q2 h2 ev e2 x2 r2 => ?_).2⟩
      obtain ⟨w, rfl, w1, w2, w3⟩ := tN_n (by omega) (by omega) ev
      rw [w3] at r2
      have F2 := x2.f
      have f2 : rf cd Xg Yc h h2 := by rw [e2]; exact fk.tr (rf.mv ⟨rfl, rfl, rfl⟩)
      have e44 : am_A h2 (cd 44) b = Int32.ofNat om := by rw [f2.a ci (by unfold Xg; omega)]; exact hom
      have ea : am_A h2 = am_A k := by rw [e2]; rfl
      simp (disch := omega) only [F2, e44, hb, qi_lt, qi_le, qi_eq, qi_nn, qi_in, qi_add, qi_l, ql_i, ql_lt, ql_le, ql_eq, ql_add, qc_lt, qc_eq, qc_ge, qc_gt, qc_le, true_and, and_true, and_self, true_or, or_true, false_or, or_false, false_and, and_false, not_true_eq_false, not_false_eq_true, Classical.not_not, true_implies, false_implies, implies_true, exists_eq_left, exists_eq_left', Option.some.injEq, reduceIte, Nat.reduceEqDiff, Nat.reduceLT, Nat.reduceLeDiff, Nat.reduceAdd, Nat.reduceSub, Nat.reduceMul, eq_self, ne_eq, and_imp, forall_const, reduceCtorEq, am_w, List.map_cons, List.map_nil, List.sum_cons, List.sum_nil, Value.category, Nat.zero_le, Nat.le_refl]
      refine ⟨fun z => ?_, fun z => ?_⟩
      · rw [if_neg z] at r2
        exact ih (c + 1) h2 q2 g (by omega) x2 f2 (fun w => by rw [ea]; exact g1 (by omega)) (fun w => by rw [ea]; exact g2 (by omega)) r2
      · rw [if_pos z] at r2
        refine ih (c + 1) _ q2 w (by omega) (x2.on (rf.sA (by unfold XA; omega)) rfl rfl (fun _ _ => rfl)) (f2.tr (rf.sA rfl)) (fun _ => ?_) (fun w => by omega) r2
        funext j
        simp only [am_hs, true_and, and_true, and_self, true_or, or_true, false_or, or_false, false_and, and_false, not_true_eq_false, not_false_eq_true, Classical.not_not, true_implies, false_implies, implies_true, exists_eq_left, exists_eq_left', Option.some.injEq, reduceIte, Nat.reduceEqDiff, Nat.reduceLT, Nat.reduceLeDiff, Nat.reduceAdd, Nat.reduceSub, Nat.reduceMul, eq_self, ne_eq, and_imp, forall_const, reduceCtorEq, am_w, List.map_cons, List.map_nil, List.sum_cons, List.sum_nil, Value.category, Nat.zero_le, Nat.le_refl]
        rw [ea, g2 (by omega)]
        rfl
  have e42 := hpk
  refine vc_60_0 tt _ _ _ h _ _ ?_
  cases kn with
  | true =>
    have elo : lo = pk := elo
    have ehi : hi = pk := ehi
    simp (disch := omega) only [f, e42, hb, b01_z, reduceCtorEq, qi_lt, qi_le, qi_eq, qi_nn, qi_in, qi_add, qi_l, ql_i, ql_lt, ql_le, ql_eq, ql_add, qc_lt, qc_eq, qc_ge, qc_gt, qc_le, true_and, and_true, and_self, true_or, or_true, false_or, or_false, false_and, and_false, not_true_eq_false, not_false_eq_true, Classical.not_not, true_implies, false_implies, implies_true, exists_eq_left, exists_eq_left', Option.some.injEq, reduceIte, Nat.reduceEqDiff, Nat.reduceLT, Nat.reduceLeDiff, Nat.reduceAdd, Nat.reduceSub, Nat.reduceMul, eq_self, ne_eq, and_imp, forall_const, reduceCtorEq, am_w, List.map_cons, List.map_nil, List.sum_cons, List.sum_nil, Value.category, Nat.zero_le, Nat.le_refl]
    have := key nc 0 h p 0 (by omega) x rf.re (fun w => by omega) (fun _ => rfl) hr
    rw [elo, ehi] at this
    exact this
  | false =>
    have elo : lo = 1 := elo
    have ehi : hi = 2400 := ehi
    simp (disch := omega) only [f, e42, hb, b01_z, qi_lt, qi_le, qi_eq, qi_nn, qi_in, qi_add, qi_l, ql_i, ql_lt, ql_le, ql_eq, ql_add, qc_lt, qc_eq, qc_ge, qc_gt, qc_le, true_and, and_true, and_self, true_or, or_true, false_or, or_false, false_and, and_false, not_true_eq_false, not_false_eq_true, Classical.not_not, true_implies, false_implies, implies_true, exists_eq_left, exists_eq_left', Option.some.injEq, reduceIte, Nat.reduceEqDiff, Nat.reduceLT, Nat.reduceLeDiff, Nat.reduceAdd, Nat.reduceSub, Nat.reduceMul, eq_self, ne_eq, and_imp, forall_const, reduceCtorEq, am_w, List.map_cons, List.map_nil, List.sum_cons, List.sum_nil, Value.category, Nat.zero_le, Nat.le_refl]
    have := key nc 0 h p 0 (by omega) x rf.re (fun w => by omega) (fun _ => rfl) hr
    rw [elo, ehi] at this
    exact this
end RD1
