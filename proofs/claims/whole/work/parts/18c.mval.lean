/-! deps: 18b -/
/-! ===== the reference writes: values ===== -/
/-! 171 yX10_putMarks -/
theorem vc_171_0 (tt : Nat → Nat) (a0 : Nat) (a1 : Int32) (h : am_H) (Q : am_H → Prop) (Qx : String → am_H → Prop) (q :
  am_Ev tt 171 2 [some (.ref a0), some (.int a1), some (.int (Int32.ofNat 0)), none, none] [] h (am_pV Q Qx)) :
  am_Ev tt 171 0 [some (.ref a0), some (.int a1), none, none, none] [] h (am_pV Q Qx) := am_vc 5 [(2, [true, true, true, false, false]), (80, [true, true, true, true, false]), (121, [true, true, true, true, false]), (138, [true, true, true, true, false]), (154, [true, true, false, true, false]), (162, [true, true, false, true, true]), (220, [true, true, false, true, true])] q
theorem vc_171_2 (tt : Nat → Nat) (a0 : Nat) (a1 : Int32) (a2 : Int32) (h : am_H) (Q : am_H → Prop) (Qx : String → am_H → Prop) (q :
  (am_K h a0 = 11 ∧
  (((am_I h 10 1 a0) ≤ a2 →
   (am_K h a0 = 11 ∧
   (am_K h a0 = 11 ∧ ∃ (Q2 : Int32 → am_H → Prop) (X2 : String → am_H → Prop), am_Ct tt 163 [.ref a0, .int (am_I h 10 1 a0)] h (am_pI Q2 X2) ∧ (∀ x3 h1, Q2 x3 h1 →
    ((¬ x3 = (Int32.ofNat 0) →
     ((¬ a1 = (Int32.ofNat 20) →
      am_Ev tt 171 80 [some (.ref a0), some (.int a1), some (.int x3), some (.int (Int32.ofNat 4)), none] [] h1 (am_pV Q Qx)) ∧
     (¬ (¬ a1 = (Int32.ofNat 20)) →
      am_Ev tt 171 80 [some (.ref a0), some (.int a1), some (.int x3), some (.int (Int32.ofNat 8)), none] [] h1 (am_pV Q Qx)))) ∧
    (¬ (¬ x3 = (Int32.ofNat 0)) →
     Q h1))) ∧ (∀ E4 h1, X2 E4 h1 → Qx E4 h1)))) ∧
  (¬ ((am_I h 10 1 a0) ≤ a2) →
   (am_K h a0 = 11 ∧ ∃ q5, am_R h 10 26 a0 = some q5 ∧
   ((¬ a1 = (Int32.ofNat 20) →
    (am_K h a0 = 11 ∧ ∃ q6, am_R h 10 7 a0 = some q6 ∧
    (am_K h a0 = 11 ∧ ∃ q7, am_R h 10 25 a0 = some q7 ∧
    ((am_K h q7 = 21 ∨ am_K h q7 = 31) ∧ vp_in a2 (am_N h q7) ∧
    ((am_K h q6 = 23 ∨ am_K h q6 = 24) ∧ vp_in (am_A h q7 (a2).toNatClampNeg) (am_N h q6) ∧
    (vp_in a2 (am_N h q5) ∧ ∃ w8, ((am_K h q5 = 23 ∧ w8 = ((am_A h q6 ((am_A h q7 (a2).toNatClampNeg)).toNatClampNeg)).toInt8.toInt32) ∨ (am_K h q5 = 24 ∧ w8 = ((am_A h q6 ((am_A h q7 (a2).toNatClampNeg)).toNatClampNeg) &&& 1))) ∧
    am_Ev tt 171 2 [some (.ref a0), some (.int a1), some (.int (a2 + (Int32.ofNat 1))), none, none] [] (am_sA h q5 (a2).toNatClampNeg w8) (am_pV Q Qx))))))) ∧
   (¬ (¬ a1 = (Int32.ofNat 20)) →
    (am_K h a0 = 11 ∧ ∃ q9, am_R h 10 5 a0 = some q9 ∧
    (am_K h a0 = 11 ∧ ∃ q10, am_R h 10 25 a0 = some q10 ∧
    ((am_K h q10 = 21 ∨ am_K h q10 = 31) ∧ vp_in a2 (am_N h q10) ∧
    ((am_K h q9 = 23 ∨ am_K h q9 = 24) ∧ vp_in (am_A h q10 (a2).toNatClampNeg) (am_N h q9) ∧
    (vp_in a2 (am_N h q5) ∧ ∃ w11, ((am_K h q5 = 23 ∧ w11 = ((am_A h q9 ((am_A h q10 (a2).toNatClampNeg)).toNatClampNeg)).toInt8.toInt32) ∨ (am_K h q5 = 24 ∧ w11 = ((am_A h q9 ((am_A h q10 (a2).toNatClampNeg)).toNatClampNeg) &&& 1))) ∧
    am_Ev tt 171 2 [some (.ref a0), some (.int a1), some (.int (a2 + (Int32.ofNat 1))), none, none] [] (am_sA h q5 (a2).toNatClampNeg w11) (am_pV Q Qx))))))))))))) :
  am_Ev tt 171 2 [some (.ref a0), some (.int a1), some (.int a2), none, none] [] h (am_pV Q Qx) := am_vc 24 [(2, [true, true, true, false, false]), (80, [true, true, true, true, false]), (121, [true, true, true, true, false]), (138, [true, true, true, true, false]), (154, [true, true, false, true, false]), (162, [true, true, false, true, true]), (220, [true, true, false, true, true])] q
theorem vc_171_80 (tt : Nat → Nat) (a0 : Nat) (a1 : Int32) (a2 : Int32) (a3 : Int32) (h : am_H) (Q : am_H → Prop) (Qx : String → am_H → Prop) (q :
  (am_K h a0 = 11 ∧ ∃ (Q2 : am_H → Prop) (X2 : String → am_H → Prop), am_Ct tt 159 [.ref a0, .int a1] h (am_pV Q2 X2) ∧ (∀ h1, Q2 h1 →
   (am_K h1 a0 = 11 ∧
   ((¬ a2 = (am_I h1 10 1 a0) →
    (am_K h1 a0 = 11 ∧
    (¬ (Int32.ofNat 8) = (Int32.ofNat 0) ∧
    (am_K h1 a0 = 11 ∧ ∃ (Q4 : am_H → Prop) (X4 : String → am_H → Prop), am_Ct tt 160 [.ref a0, .long (((Int64.ofNat 2) + ((((am_I h1 10 1 a0) + (Int32.ofNat 7)) / (Int32.ofNat 8))).toInt64) + ((a3 * a2)).toInt64)] h1 (am_pV Q4 X4) ∧ (∀ h3, Q4 h3 →
     am_Ev tt 171 121 [some (.ref a0), some (.int a1), some (.int a2), some (.int a3), none] [] h3 (am_pV Q Qx)) ∧ (∀ E5 h3, X4 E5 h3 → Qx E5 h3))))) ∧
   (¬ (¬ a2 = (am_I h1 10 1 a0)) →
    (am_K h1 a0 = 11 ∧ ∃ (Q7 : am_H → Prop) (X7 : String → am_H → Prop), am_Ct tt 160 [.ref a0, .long (((Int64.ofNat 2) + ((Int32.ofNat 0)).toInt64) + ((a3 * a2)).toInt64)] h1 (am_pV Q7 X7) ∧ (∀ h6, Q7 h6 →
     am_Ev tt 171 121 [some (.ref a0), some (.int a1), some (.int a2), some (.int a3), none] [] h6 (am_pV Q Qx)) ∧ (∀ E8 h6, X7 E8 h6 → Qx E8 h6)))))) ∧ (∀ E9 h1, X2 E9 h1 → Qx E9 h1))) :
  am_Ev tt 171 80 [some (.ref a0), some (.int a1), some (.int a2), some (.int a3), none] [] h (am_pV Q Qx) := am_vc 26 [(2, [true, true, true, false, false]), (80, [true, true, true, true, false]), (121, [true, true, true, true, false]), (138, [true, true, true, true, false]), (154, [true, true, false, true, false]), (162, [true, true, false, true, true]), (220, [true, true, false, true, true])] q
theorem vc_171_121 (tt : Nat → Nat) (a0 : Nat) (a1 : Int32) (a2 : Int32) (a3 : Int32) (h : am_H) (Q : am_H → Prop) (Qx : String → am_H → Prop) (q :
  (am_K h a0 = 11 ∧
  ((¬ a2 = (am_I h 10 1 a0) →
   (am_K h a0 = 11 ∧ ∃ (Q2 : am_H → Prop) (X2 : String → am_H → Prop), am_Ct tt 159 [.ref a0, .int (Int32.ofNat 0)] h (am_pV Q2 X2) ∧ (∀ h1, Q2 h1 →
    am_Ev tt 171 138 [some (.ref a0), some (.int a1), some (.int a2), some (.int a3), none] [] h1 (am_pV Q Qx)) ∧ (∀ E3 h1, X2 E3 h1 → Qx E3 h1))) ∧
  (¬ (¬ a2 = (am_I h 10 1 a0)) →
   (am_K h a0 = 11 ∧ ∃ (Q5 : am_H → Prop) (X5 : String → am_H → Prop), am_Ct tt 159 [.ref a0, .int (Int32.ofNat 1)] h (am_pV Q5 X5) ∧ (∀ h4, Q5 h4 →
    am_Ev tt 171 138 [some (.ref a0), some (.int a1), some (.int a2), some (.int a3), none] [] h4 (am_pV Q Qx)) ∧ (∀ E6 h4, X5 E6 h4 → Qx E6 h4)))))) :
  am_Ev tt 171 121 [some (.ref a0), some (.int a1), some (.int a2), some (.int a3), none] [] h (am_pV Q Qx) := am_vc 11 [(2, [true, true, true, false, false]), (80, [true, true, true, true, false]), (121, [true, true, true, true, false]), (138, [true, true, true, true, false]), (154, [true, true, false, true, false]), (162, [true, true, false, true, true]), (220, [true, true, false, true, true])] q
theorem vc_171_138 (tt : Nat → Nat) (a0 : Nat) (a1 : Int32) (a2 : Int32) (a3 : Int32) (h : am_H) (Q : am_H → Prop) (Qx : String → am_H → Prop) (q :
  (am_K h a0 = 11 ∧
  (((am_I h 10 1 a0) ≤ a2 →
   am_Ev tt 171 154 [some (.ref a0), some (.int a1), none, some (.int a3), none] [] h (am_pV Q Qx)) ∧
  (¬ ((am_I h 10 1 a0) ≤ a2) →
   (am_K h a0 = 11 ∧
   (am_K h a0 = 11 ∧ ∃ (Q2 : am_H → Prop) (X2 : String → am_H → Prop), am_Ct tt 162 [.ref a0, .int (am_I h 10 1 a0)] h (am_pV Q2 X2) ∧ (∀ h1, Q2 h1 →
    am_Ev tt 171 154 [some (.ref a0), some (.int a1), none, some (.int a3), none] [] h1 (am_pV Q Qx)) ∧ (∀ E3 h1, X2 E3 h1 → Qx E3 h1))))))) :
  am_Ev tt 171 138 [some (.ref a0), some (.int a1), some (.int a2), some (.int a3), none] [] h (am_pV Q Qx) := am_vc 11 [(2, [true, true, true, false, false]), (80, [true, true, true, true, false]), (121, [true, true, true, true, false]), (138, [true, true, true, true, false]), (154, [true, true, false, true, false]), (162, [true, true, false, true, true]), (220, [true, true, false, true, true])] q
theorem vc_171_154 (tt : Nat → Nat) (a0 : Nat) (a1 : Int32) (a3 : Int32) (h : am_H) (Q : am_H → Prop) (Qx : String → am_H → Prop) (q :
  (am_K h a0 = 11 ∧ ∃ (Q2 : am_H → Prop) (X2 : String → am_H → Prop), am_Ct tt 159 [.ref a0, .int (Int32.ofNat 0)] h (am_pV Q2 X2) ∧ (∀ h1, Q2 h1 →
   am_Ev tt 171 162 [some (.ref a0), some (.int a1), none, some (.int a3), some (.int (Int32.ofNat 0))] [] h1 (am_pV Q Qx)) ∧ (∀ E3 h1, X2 E3 h1 → Qx E3 h1))) :
  am_Ev tt 171 154 [some (.ref a0), some (.int a1), none, some (.int a3), none] [] h (am_pV Q Qx) := am_vc 8 [(2, [true, true, true, false, false]), (80, [true, true, true, true, false]), (121, [true, true, true, true, false]), (138, [true, true, true, true, false]), (154, [true, true, false, true, false]), (162, [true, true, false, true, true]), (220, [true, true, false, true, true])] q
theorem vc_171_162 (tt : Nat → Nat) (a0 : Nat) (a1 : Int32) (a3 : Int32) (a4 : Int32) (h : am_H) (Q : am_H → Prop) (Qx : String → am_H → Prop) (q :
  (am_K h a0 = 11 ∧
  (((am_I h 10 1 a0) ≤ a4 →
   Q h) ∧
  (¬ ((am_I h 10 1 a0) ≤ a4) →
   (am_K h a0 = 11 ∧ ∃ q1, am_R h 10 26 a0 = some q1 ∧
   ((am_K h q1 = 23 ∨ am_K h q1 = 24) ∧ vp_in a4 (am_N h q1) ∧
   (((am_A h q1 (a4).toNatClampNeg) = (Int32.ofNat 0) →
    am_Ev tt 171 220 [some (.ref a0), some (.int a1), none, some (.int a3), some (.int a4)] [] h (am_pV Q Qx)) ∧
   (¬ ((am_A h q1 (a4).toNatClampNeg) = (Int32.ofNat 0)) →
    ((¬ a1 = (Int32.ofNat 20) →
     (am_K h a0 = 11 ∧ ∃ q2, am_R h 10 8 a0 = some q2 ∧
     (am_K h a0 = 11 ∧ ∃ q3, am_R h 10 25 a0 = some q3 ∧
     ((am_K h q3 = 21 ∨ am_K h q3 = 31) ∧ vp_in a4 (am_N h q3) ∧
     ((am_K h q2 = 21 ∨ am_K h q2 = 31) ∧ vp_in (am_A h q3 (a4).toNatClampNeg) (am_N h q2) ∧
     (am_K h a0 = 11 ∧ ∃ (Q5 : am_H → Prop) (X5 : String → am_H → Prop), am_Ct tt 161 [.ref a0, .long ((am_A h q2 ((am_A h q3 (a4).toNatClampNeg)).toNatClampNeg)).toInt64, .int a3] h (am_pV Q5 X5) ∧ (∀ h4, Q5 h4 →
      am_Ev tt 171 220 [some (.ref a0), some (.int a1), none, some (.int a3), some (.int a4)] [] h4 (am_pV Q Qx)) ∧ (∀ E6 h4, X5 E6 h4 → Qx E6 h4))))))) ∧
    (¬ (¬ a1 = (Int32.ofNat 20)) →
     (am_K h a0 = 11 ∧ ∃ q7, am_R h 10 6 a0 = some q7 ∧
     (am_K h a0 = 11 ∧ ∃ q8, am_R h 10 25 a0 = some q8 ∧
     ((am_K h q8 = 21 ∨ am_K h q8 = 31) ∧ vp_in a4 (am_N h q8) ∧
     (am_K h q7 = 22 ∧ vp_in (am_A h q8 (a4).toNatClampNeg) (am_N h q7) ∧
     (am_K h a0 = 11 ∧ ∃ (Q10 : am_H → Prop) (X10 : String → am_H → Prop), am_Ct tt 161 [.ref a0, .long (am_B h q7 ((am_A h q8 (a4).toNatClampNeg)).toNatClampNeg), .int a3] h (am_pV Q10 X10) ∧ (∀ h9, Q10 h9 →
      am_Ev tt 171 220 [some (.ref a0), some (.int a1), none, some (.int a3), some (.int a4)] [] h9 (am_pV Q Qx)) ∧ (∀ E11 h9, X10 E11 h9 → Qx E11 h9)))))))))))))))) :
  am_Ev tt 171 162 [some (.ref a0), some (.int a1), none, some (.int a3), some (.int a4)] [] h (am_pV Q Qx) := am_vc 26 [(2, [true, true, true, false, false]), (80, [true, true, true, true, false]), (121, [true, true, true, true, false]), (138, [true, true, true, true, false]), (154, [true, true, false, true, false]), (162, [true, true, false, true, true]), (220, [true, true, false, true, true])] q
theorem vc_171_220 (tt : Nat → Nat) (a0 : Nat) (a1 : Int32) (a3 : Int32) (a4 : Int32) (h : am_H) (Q : am_H → Prop) (Qx : String → am_H → Prop) (q :
  am_Ev tt 171 162 [some (.ref a0), some (.int a1), none, some (.int a3), some (.int (a4 + (Int32.ofNat 1)))] [] h (am_pV Q Qx)) :
  am_Ev tt 171 220 [some (.ref a0), some (.int a1), none, some (.int a3), some (.int a4)] [] h (am_pV Q Qx) := am_vc 5 [(2, [true, true, true, false, false]), (80, [true, true, true, true, false]), (121, [true, true, true, true, false]), (138, [true, true, true, true, false]), (154, [true, true, false, true, false]), (162, [true, true, false, true, true]), (220, [true, true, false, true, true])] q

section MQ
variable {tt : Nat → Nat} {P : Nat → Prop} {h h' h'' : am_H} {m : Nat} {ad : Nat → Nat} {S : sS}
/-- the entry at a place of the order -/
theorem MX.o {n : Nat} (x : MX P h m ad S n) {j : Nat} (hj : j < a_n S.1) : me_v h ad (oo S.1 j) (a_E S.1 (oo S.1 j)) (a_kn S.1 (oo S.1 j) = true) := x.1.2.2.1 _ (oo_lt x.2.1.1 hj)
theorem fmO {v : Nat → Option Int64} {m : Nat} : (fun j => match v j with
    | none => ([] : List Int32)
    | some x => LB m x) = (fun j => match v j with
    | none => []
    | some x => LB m x) := rfl
theorem ct_putMarks {n : Nat} (x : MX P h m ad S n) {t w : Nat} {v : Nat → Option Int64} (ht : (t = 20 ∧ w = 8 ∧ v = vT S.1) ∨ (t = 21 ∧ w = 4 ∧ v = vA S.1)) (hn : n + (wVal S.1 t w v).length ≤ 9300) : am_Ct tt 171 [.ref m, .int (Int32.ofNat t)] h (am_pV (fun h' => ∃ f, h' = ml m ad (am_cA h (ad 26) f) (wVal S.1 t w v)) no_x) := by
  have wf := x.2.1
  have n24 := wf.1.1
  have s0 := x.1.1
  have ne : ad 26 ≠ ad 23 := x.ne (by omega)
  have hw : w ≤ 8 := by omega
  have hc := cn_le (fun j => (v j).isSome) (a_n S.1)
  have xF : ∀ f l, MX P (ml m ad (am_cA h (ad 26) f) l) m ad S (n + l.length) := fun f l => (x.row (k := 26) (by omega) f).tl l
  have fA : ∀ f l, am_A (ml m ad (am_cA h (ad 26) f) l) (ad 26) = f := fun f l => by rw [ml_A ne, cA_A]
  have key : ∀ (d i : Nat) (f : Nat → Int32) (l : List Int32), d + i = a_n S.1 → (∀ j, j < a_n S.1 → f j = b01 (v j).isSome) → n + (l ++ (R0 (a_n S.1)).flatMap (fun j => match v j with
    | none => []
    | some x => LB w x)).length ≤ 9300 →
      am_Ev tt 171 162 [some (.ref m), some (.int (Int32.ofNat t)), none, some (.int (Int32.ofNat w)), some (.int (Int32.ofNat i))] [] (ml m ad (am_cA h (ad 26) f) (l ++ (R0 i).flatMap (fun j => match v j with
    | none => []
    | some x => LB w x))) (am_pV (fun h' => ∃ f, h' = ml m ad (am_cA h (ad 26) f) (l ++ (R0 (a_n S.1)).flatMap (fun j => match v j with
    | none => []
    | some x => LB w x))) no_x) := by
    intro d
    induction d with
    | zero =>
      intro i f l e hf hl
      have y := xF f (l ++ (R0 i).flatMap (fun j => match v j with
    | none => []
    | some x => LB w x))
      have : i = a_n S.1 := by omega
      subst this
      exact vc_171_162 tt _ _ _ _ _ _ _ ⟨y.1.1.1, fun _ => ⟨f, rfl⟩, fun z => absurd (by rw [y.1.2.1]; exact Int32.le_refl _) z⟩
    | succ d ih =>
      intro i f l e hf hl
      have y := xF f (l ++ (R0 i).flatMap (fun j => match v j with
    | none => []
    | some x => LB w x))
      have fl := fm_le (g := fun j => match v j with
    | none => []
    | some x => LB w x) (i := i) (n := a_n S.1) (by omega)
      have nx := ih (i + 1) f l (by omega) hf hl
      rw [fm_s] at nx
      have A1 := fA f (l ++ (R0 i).flatMap (fun j => match v j with
    | none => []
    | some x => LB w x))
      rw [List.length_append] at hl
      rw [List.length_append] at y
      generalize hk : ml m ad (am_cA h (ad 26) f) (l ++ (R0 i).flatMap (fun j => match v j with
    | none => []
    | some x => LB w x)) = k at y A1
      have s := y.1.1
      have q2 := y.1.2.1
      have yo := y.2.2.2 i (by omega)
      have hlt := oo_lt wf.1 (j := i) (by omega)
      obtain ⟨o1, o2, o3, o4, o5, o6, o7, o8, o9, o10, o11, o12⟩ := y.o (j := i) (by omega)
      have i24 : i < 24 := by omega
      have o24 : oo S.1 i < 24 := by omega
      have ef := hf i (by omega)
      refine vc_171_162 tt _ _ _ _ _ _ _ ?_
      simp (disch := omega) only [s.1, md_f s, q2, A1, yo, i24, o24, ef, b01_z, qi_lt, qi_le, qi_eq, qi_nn, qi_in, qi_add, qi_l, ql_i, ql_lt, ql_le, ql_eq, ql_add, qc_lt, qc_eq, qc_ge, qc_gt, qc_le, true_and, and_true, and_self, true_or, or_true, false_or, or_false, false_and, and_false, not_true_eq_false, not_false_eq_true, Classical.not_not, true_implies, false_implies, implies_true, exists_eq_left, exists_eq_left', Option.some.injEq, reduceIte, Nat.reduceEqDiff, Nat.reduceLT, Nat.reduceLeDiff, Nat.reduceAdd, Nat.reduceSub, Nat.reduceMul, eq_self, ne_eq, and_imp, forall_const, reduceCtorEq, am_w, List.map_cons, List.map_nil, List.sum_cons, List.sum_nil, Value.category, Nat.zero_le, Nat.le_refl]
      refine ⟨fun z => by omega, fun _ => ⟨fun z => ?_, fun z => ?_⟩⟩
      · refine vc_171_220 tt _ _ _ _ _ _ _ ?_
        rw [qi_add]
        cases ev : v i with
        | none =>
          rw [ev] at nx
          simp only [List.append_nil] at nx
          rw [hk] at nx
          exact nx
        | some q => rw [ev] at z; cases z
      · cases ev : v i with
        | none => rw [ev] at z; exact absurd rfl z
        | some q =>
          rw [ev] at nx fl
          simp only [LB_l] at fl
          have nx' : ∀ h2, h2 = ml m ad k (LB w q) → am_Ev tt 171 220 [some (.ref m), some (.int (Int32.ofNat t)), none, some (.int (Int32.ofNat w)), some (.int (Int32.ofNat i))] [] h2 (am_pV (fun h' => ∃ f, h' = ml m ad (am_cA h (ad 26) f) (l ++ (R0 (a_n S.1)).flatMap (fun j => match v j with
    | none => []
    | some x => LB w x))) no_x) := by
            intro h2 e2
            refine vc_171_220 tt _ _ _ _ _ _ _ ?_
            rw [qi_add, e2, ← hk, ml_app, List.append_assoc]
            exact nx
          rcases ht with ⟨rfl, rfl, rfl⟩ | ⟨rfl, rfl, rfl⟩
          · have ej : am_B k (ad 6) (oo S.1 i) = q := by
              rw [o8]
              have : e_tm (a_E S.1 (oo S.1 i)) = some q := ev
              rw [this]; rfl
            refine ⟨fun z => absurd rfl z, fun _ => ?_⟩
            rw [ej]
            exact (y.l (k := 8) (by omega) (by omega) (fun h2 e2 _ => nx' h2 e2)).2
          · have ej : (am_A k (ad 8) (oo S.1 i)).toInt64 = q := by
              rw [o10]
              unfold vA at ev
              cases eu : e_av (a_E S.1 (oo S.1 i)) with
              | none => rw [eu] at ev; cases ev
              | some u => rw [eu] at ev; simpa using ev
            refine ⟨fun _ => ?_, fun z => absurd z (by decide)⟩
            rw [ej]
            exact (y.l (k := 4) (by omega) (by omega) (fun h2 e2 _ => nx' h2 e2)).2
  generalize ec : cn (fun j => (v j).isSome) (a_n S.1) = c at hc
  have nn : ¬ c = 0 → wVal S.1 t w v = [Int32.ofNat t] ++ (nb (2 + (if c = a_n S.1 then 0 else (a_n S.1 + 7) / 8) + w * c) ++ ([if c = a_n S.1 then Int32.ofNat 1 else Int32.ofNat 0] ++ ((if c < a_n S.1 then bbl (bgb (a_n S.1) (fun j => (v j).isSome)) (a_n S.1) else []) ++ ([Int32.ofNat 0] ++ (R0 (a_n S.1)).flatMap (fun j => match v j with
    | none => []
    | some x => LB w x))))) := fun z => by rw [wVal, ec, if_neg z]; rfl
  have k154 : ∀ (f : Nat → Int32) (l : List Int32), (∀ j, j < a_n S.1 → f j = b01 (v j).isSome) → n + (l ++ ([Int32.ofNat 0] ++ (R0 (a_n S.1)).flatMap (fun j => match v j with
    | none => []
    | some x => LB w x))).length ≤ 9300 →
      am_Ev tt 171 154 [some (.ref m), some (.int (Int32.ofNat t)), none, some (.int (Int32.ofNat w)), none] [] (ml m ad (am_cA h (ad 26) f) l) (am_pV (fun h' => ∃ f, h' = ml m ad (am_cA h (ad 26) f) (l ++ ([Int32.ofNat 0] ++ (R0 (a_n S.1)).flatMap (fun j => match v j with
    | none => []
    | some x => LB w x)))) no_x) := by
    intro f l hf hl
    have y := xF f l
    have hl' := hl
    simp only [List.length_append, List.length_cons, List.length_nil] at hl'
    refine vc_171_154 tt _ _ _ _ _ _ (y.b (by omega) rfl fun h2 e2 x2 => ?_)
    have := key (a_n S.1) 0 f (l ++ [Int32.ofNat 0]) (by omega) hf (by rw [List.append_assoc]; exact hl)
    rw [e2, ml_app]
    simp only [List.append_assoc] at this
    exact this
  have k138 : ∀ (f : Nat → Int32) (l : List Int32), (∀ j, j < a_n S.1 → f j = b01 (v j).isSome) → n + (l ++ ((if c < a_n S.1 then bbl (bgb (a_n S.1) (fun j => (v j).isSome)) (a_n S.1) else []) ++ ([Int32.ofNat 0] ++ (R0 (a_n S.1)).flatMap (fun j => match v j with
    | none => []
    | some x => LB w x)))).length ≤ 9300 →
      am_Ev tt 171 138 [some (.ref m), some (.int (Int32.ofNat t)), some (.int (Int32.ofNat c)), some (.int (Int32.ofNat w)), none] [] (ml m ad (am_cA h (ad 26) f) l) (am_pV (fun h' => ∃ f, h' = ml m ad (am_cA h (ad 26) f) (l ++ ((if c < a_n S.1 then bbl (bgb (a_n S.1) (fun j => (v j).isSome)) (a_n S.1) else []) ++ ([Int32.ofNat 0] ++ (R0 (a_n S.1)).flatMap (fun j => match v j with
    | none => []
    | some x => LB w x))))) no_x) := by
    intro f l hf hl
    have y := xF f l
    have s := y.1.1
    have q2 := y.1.2.1
    refine vc_171_138 tt _ _ _ _ _ _ _ ?_
    rw [q2, qi_le (by omega) (by omega)]
    refine ⟨s.1, fun z => ?_, fun z => ⟨s.1, s.1, ?_⟩⟩
    · rw [if_neg (by omega), List.nil_append] at hl ⊢
      exact k154 f l hf hl
    · rw [if_pos (by omega)] at hl ⊢
      have hl' := hl
      simp only [List.length_append, bbl_l] at hl'
      refine ⟨_, _, ct_mbits (g := fun j => (v j).isSome) s y.2.2.1 (by omega) n24 (fun j hj => by rw [fA]; exact hf j hj), fun k e => ?_, fun _ _ z => z⟩
      rw [ml_app] at e
      have := k154 f (l ++ bbl (bgb (a_n S.1) (fun j => (v j).isSome)) (a_n S.1)) hf (by rw [List.append_assoc]; exact hl)
      rw [e]
      simp only [List.append_assoc] at this ⊢
      exact this
  have k80 : ∀ (f : Nat → Int32), (∀ j, j < a_n S.1 → f j = b01 (v j).isSome) → ¬ c = 0 →
      am_Ev tt 171 80 [some (.ref m), some (.int (Int32.ofNat t)), some (.int (Int32.ofNat c)), some (.int (Int32.ofNat w)), none] [] (ml m ad (am_cA h (ad 26) f) []) (am_pV (fun h' => ∃ f, h' = ml m ad (am_cA h (ad 26) f) (wVal S.1 t w v)) no_x) := by
    intro f hf z0
    have y := xF f []
    rw [List.length_nil, Nat.add_zero] at y
    have hwc : w * c ≤ 8 * 24 := Nat.mul_le_mul hw (by omega)
    have hr : (if c = a_n S.1 then 0 else (a_n S.1 + 7) / 8) ≤ 3 := by split <;> omega
    rw [nn z0] at hn ⊢
    have hn' := hn
    simp only [List.length_append, List.length_cons, List.length_nil] at hn'
    have k121 : ∀ h3, h3 = ml m ad (am_cA h (ad 26) f) ([Int32.ofNat t] ++ nb (2 + (if c = a_n S.1 then 0 else (a_n S.1 + 7) / 8) + w * c)) → am_Ev tt 171 121 [some (.ref m), some (.int (Int32.ofNat t)), some (.int (Int32.ofNat c)), some (.int (Int32.ofNat w)), none] [] h3 (am_pV (fun h' => ∃ f, h' = ml m ad (am_cA h (ad 26) f) ([Int32.ofNat t] ++ (nb (2 + (if c = a_n S.1 then 0 else (a_n S.1 + 7) / 8) + w * c) ++ ([if c = a_n S.1 then Int32.ofNat 1 else Int32.ofNat 0] ++ ((if c < a_n S.1 then bbl (bgb (a_n S.1) (fun j => (v j).isSome)) (a_n S.1) else []) ++ ([Int32.ofNat 0] ++ (R0 (a_n S.1)).flatMap (fun j => match v j with
    | none => []
    | some x => LB w x))))))) no_x) := by
      intro h3 e3
      have y3 := xF f ([Int32.ofNat t] ++ nb (2 + (if c = a_n S.1 then 0 else (a_n S.1 + 7) / 8) + w * c))
      rw [← e3] at y3
      simp only [List.length_append, List.length_cons, List.length_nil] at y3
      refine vc_171_121 tt _ _ _ _ _ _ _ ?_
      rw [y3.1.2.1, qi_eq (by omega) (by omega)]
      have go : ∀ b, b = (if c = a_n S.1 then Int32.ofNat 1 else Int32.ofNat 0) → ∀ h4, h4 = ml m ad h3 [b] → am_Ev tt 171 138 [some (.ref m), some (.int (Int32.ofNat t)), some (.int (Int32.ofNat c)), some (.int (Int32.ofNat w)), none] [] h4 (am_pV (fun h' => ∃ f, h' = ml m ad (am_cA h (ad 26) f) ([Int32.ofNat t] ++ (nb (2 + (if c = a_n S.1 then 0 else (a_n S.1 + 7) / 8) + w * c) ++ ([if c = a_n S.1 then Int32.ofNat 1 else Int32.ofNat 0] ++ ((if c < a_n S.1 then bbl (bgb (a_n S.1) (fun j => (v j).isSome)) (a_n S.1) else []) ++ ([Int32.ofNat 0] ++ (R0 (a_n S.1)).flatMap (fun j => match v j with
    | none => []
    | some x => LB w x))))))) no_x) := by
        intro b eb h4 e4
        have := k138 f ([Int32.ofNat t] ++ (nb (2 + (if c = a_n S.1 then 0 else (a_n S.1 + 7) / 8) + w * c) ++ [if c = a_n S.1 then Int32.ofNat 1 else Int32.ofNat 0])) hf (by simp only [List.append_assoc] at hn ⊢; exact hn)
        rw [e4, e3, ml_app, eb]
        simp only [List.append_assoc] at this ⊢
        exact this
      refine ⟨y3.1.1.1, fun z => y3.b (by omega) rfl fun h4 e4 _ => go _ (by rw [if_neg z]) h4 e4, fun z => y3.b (by omega) rfl fun h4 e4 _ => go _ (by rw [if_pos (Classical.not_not.1 z)]) h4 e4⟩
    refine vc_171_80 tt _ _ _ _ _ _ _ (y.b (by omega) rfl fun h1 e1 x1 => ?_)
    rw [x1.1.2.1, qi_eq (by omega) (by omega)]
    have e1' : h1 = ml m ad (am_cA h (ad 26) f) [Int32.ofNat t] := e1
    refine ⟨x1.1.1.1, fun z => ⟨x1.1.1.1, by decide, ?_⟩, fun z => ?_⟩
    · refine x1.n (k := 2 + (if c = a_n S.1 then 0 else (a_n S.1 + 7) / 8) + w * c) (by omega) (by omega) (by rw [if_neg z, qi_add, qi_div (by omega) (by omega), qi_mul, qi_l (by omega), qi_l (by omega), ql_add, ql_add]) fun h2 e2 _ => k121 h2 ?_
      rw [e2, e1', ml_app]
    · refine x1.n (k := 2 + (if c = a_n S.1 then 0 else (a_n S.1 + 7) / 8) + w * c) (by omega) (by omega) (by rw [if_pos (Classical.not_not.1 z), qi_mul, qi_l (by omega), qi_l (by omega), ql_add, ql_add]) fun h2 e2 _ => k121 h2 ?_
      rw [e2, e1', ml_app]
  have k2 : ∀ (d i : Nat) (f : Nat → Int32), d + i = a_n S.1 → (∀ j, j < i → f j = b01 (v j).isSome) →
      am_Ev tt 171 2 [some (.ref m), some (.int (Int32.ofNat t)), some (.int (Int32.ofNat i)), none, none] [] (ml m ad (am_cA h (ad 26) f) []) (am_pV (fun h' => ∃ f, h' = ml m ad (am_cA h (ad 26) f) (wVal S.1 t w v)) no_x) := by
    intro d
    induction d with
    | zero =>
      intro i f e hf
      have y := xF f []
      have : i = a_n S.1 := by omega
      subst this
      refine vc_171_2 tt _ _ _ _ _ _ ⟨y.1.1.1, fun _ => ⟨y.1.1.1, y.1.1.1, ?_⟩, fun z => absurd (by rw [y.1.2.1]; exact Int32.le_refl _) z⟩
      rw [y.1.2.1]
      refine ⟨_, _, ct_mbitsSet y.1.1 n24, fun r k e => ?_, fun _ _ z => z⟩
      obtain ⟨er, ek⟩ := e
      rw [fA, cn_b hf, ec] at er
      subst er
      rw [ek, qi_eq (by omega) (by omega)]
      refine ⟨fun z => ⟨fun z2 => ?_, fun z2 => ?_⟩, fun z => ?_⟩
      · have := k80 f hf z
        rcases ht with ⟨rfl, rfl, rfl⟩ | ⟨rfl, rfl, rfl⟩
        · exact absurd rfl z2
        · exact this
      · have := k80 f hf z
        rcases ht with ⟨rfl, rfl, rfl⟩ | ⟨rfl, rfl, rfl⟩
        · exact this
        · exact absurd z2 (by decide)
      · rw [wVal, ec, if_pos (Classical.not_not.1 z)]
        exact ⟨f, rfl⟩
    | succ d ih =>
      intro i f e hf
      have q2 := x.1.2.1
      have yo := x.2.2.2 i (by omega)
      have hlt := oo_lt wf.1 (j := i) (by omega)
      obtain ⟨o1, o2, o3, o4, o5, o6, o7, o8, o9, o10, o11, o12⟩ := x.o (j := i) (by omega)
      have i24 : i < 24 := by omega
      have o24 : oo S.1 i < 24 := by omega
      rw [ml_nil]
      refine vc_171_2 tt _ _ _ _ _ _ ?_
      simp (disch := omega) only [s0.1, md_f s0, md_i s0, q2, yo, i24, o24, o7, o9, b01_a, am_hs, qi_lt, qi_le, qi_eq, qi_nn, qi_in, qi_add, qi_l, ql_i, ql_lt, ql_le, ql_eq, ql_add, qc_lt, qc_eq, qc_ge, qc_gt, qc_le, true_and, and_true, and_self, true_or, or_true, false_or, or_false, false_and, and_false, not_true_eq_false, not_false_eq_true, Classical.not_not, true_implies, false_implies, implies_true, exists_eq_left, exists_eq_left', Option.some.injEq, reduceIte, Nat.reduceEqDiff, Nat.reduceLT, Nat.reduceLeDiff, Nat.reduceAdd, Nat.reduceSub, Nat.reduceMul, eq_self, ne_eq, and_imp, forall_const, reduceCtorEq, am_w, List.map_cons, List.map_nil, List.sum_cons, List.sum_nil, Value.category, Nat.zero_le, Nat.le_refl]
      refine ⟨fun z => by omega, fun _ => ⟨fun z => ?_, fun z => ?_⟩⟩
      · rcases ht with ⟨rfl, rfl, rfl⟩ | ⟨rfl, rfl, rfl⟩
        · exact absurd rfl z
        · rw [cA_sA]
          refine ih (i + 1) _ (by omega) (fun j hj => ?_)
          unfold va_up
          split
          · next c => rw [c]; unfold vA; rw [Option.isSome_map]
          · exact hf j (by omega)
      · rcases ht with ⟨rfl, rfl, rfl⟩ | ⟨rfl, rfl, rfl⟩
        · rw [cA_sA]
          refine ih (i + 1) _ (by omega) (fun j hj => ?_)
          unfold va_up
          split
          · next c => rw [c]; rfl
          · exact hf j (by omega)
        · exact absurd z (by decide)
  have := k2 (a_n S.1) 0 (am_A h (ad 26)) (by omega) (fun j hj => absurd hj (Nat.not_lt_zero j))
  rw [cA_id, ml_nil] at this
  exact vc_171_0 tt _ _ h _ _ this
end MQ
