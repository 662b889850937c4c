/-! deps: 19g -/
/-! ===== the class reads: rows of bits, entries laid out ===== -/
/-! 33 yX3_takeEmptyRow -/
theorem vc_33_0 (tt : Nat → Nat) (a0 : Nat) (a1 : Int32) (a2 : Int32) (h : am_H) (Q : am_H → Prop) (Qx : String → am_H → Prop) (q :
  (am_K h a0 = 4 ∧ ∃ q1, am_R h 3 0 a0 = some q1 ∧
  (am_K h q1 = 3 ∧
  (am_K h a0 = 4 ∧ ∃ q2, am_R h 3 0 a0 = some q2 ∧
  (∃ (Q4 : Int32 → am_H → Prop), am_Ct tt 127 [.int a1] h (am_pI Q4 (fun _ _ => False)) ∧ (∀ x5 h3, Q4 x5 h3 →
   (∃ (Q7 : Int32 → am_H → Prop), am_Ct tt 127 [.int a1] h3 (am_pI Q7 (fun _ _ => False)) ∧ (∀ x8 h6, Q7 x8 h6 →
    (am_K h6 q2 = 3 ∧ ∃ (Q10 : Int64 → am_H → Prop) (X10 : String → am_H → Prop), am_Ct tt 29 [.ref q2, .long (x5).toInt64, .long (x8).toInt64] h6 (am_pL Q10 X10) ∧ (∀ x11 h9, Q10 x11 h9 →
     (am_K h9 a0 = 4 ∧ ∃ q12, am_R h9 3 0 a0 = some q12 ∧
     (am_K h9 a0 = 4 ∧ ∃ q13, am_R h9 3 1 a0 = some q13 ∧
     (am_K h9 q12 = 3 ∧ ∃ (Q15 : Int32 → am_H → Prop) (X15 : String → am_H → Prop), am_Ct tt 30 [.ref q12, .ref q13, .int a1] h9 (am_pI Q15 X15) ∧ (∀ x16 h14, Q15 x16 h14 →
      ((x16 = a2 →
       Q h14) ∧
      (¬ (x16 = a2) →
       (am_K h14 a0 = 4 ∧ ∃ q17, am_R h14 3 0 a0 = some q17 ∧
       (am_K h14 q17 = 3 ∧ ∃ (Q19 : am_H → Prop) (X19 : String → am_H → Prop), am_Ct tt 22 [.ref q17, .int (Int32.ofNat 5), .int (am_I h 2 2 q1)] h14 (am_pV Q19 X19) ∧ (∀ h18, Q19 h18 →
        Q h18) ∧ (∀ E20 h18, X19 E20 h18 → Qx E20 h18)))))) ∧ (∀ E21 h14, X15 E21 h14 → Qx E21 h14))))) ∧ (∀ E22 h9, X10 E22 h9 → Qx E22 h9)))))))))) :
  am_Ev tt 33 0 [some (.ref a0), some (.int a1), some (.int a2), none] [] h (am_pV Q Qx) := am_vc 30 [] q

/-! 35 yX3_takeFlags -/
theorem vc_35_0 (tt : Nat → Nat) (a0 : Nat) (a1 : Int32) (h : am_H) (Q : am_H → Prop) (Qx : String → am_H → Prop) (q :
  (am_K h a0 = 4 ∧ ∃ q1, am_R h 3 0 a0 = some q1 ∧
  (am_K h q1 = 3 ∧
  (am_K h a0 = 4 ∧ ∃ q2, am_R h 3 0 a0 = some q2 ∧
  (∃ (Q4 : Int32 → am_H → Prop), am_Ct tt 127 [.int a1] h (am_pI Q4 (fun _ _ => False)) ∧ (∀ x5 h3, Q4 x5 h3 →
   (∃ (Q7 : Int32 → am_H → Prop), am_Ct tt 127 [.int a1] h3 (am_pI Q7 (fun _ _ => False)) ∧ (∀ x8 h6, Q7 x8 h6 →
    (am_K h6 q2 = 3 ∧ ∃ (Q10 : Int64 → am_H → Prop) (X10 : String → am_H → Prop), am_Ct tt 29 [.ref q2, .long (x5).toInt64, .long (x8).toInt64] h6 (am_pL Q10 X10) ∧ (∀ x11 h9, Q10 x11 h9 →
     (am_K h9 a0 = 4 ∧ ∃ q12, am_R h9 3 0 a0 = some q12 ∧
     (am_K h9 a0 = 4 ∧ ∃ q13, am_R h9 3 1 a0 = some q13 ∧
     (am_K h9 q12 = 3 ∧ ∃ (Q15 : Int32 → am_H → Prop) (X15 : String → am_H → Prop), am_Ct tt 30 [.ref q12, .ref q13, .int a1] h9 (am_pI Q15 X15) ∧ (∀ x16 h14, Q15 x16 h14 →
      ((¬ x16 = (Int32.ofNat 0) →
       Q h14) ∧
      (¬ (¬ x16 = (Int32.ofNat 0)) →
       (am_K h14 a0 = 4 ∧ ∃ q17, am_R h14 3 0 a0 = some q17 ∧
       (am_K h14 q17 = 3 ∧ ∃ (Q19 : am_H → Prop) (X19 : String → am_H → Prop), am_Ct tt 22 [.ref q17, .int (Int32.ofNat 2), .int ((am_I h 2 2 q1) - (Int32.ofNat 1))] h14 (am_pV Q19 X19) ∧ (∀ h18, Q19 h18 →
        Q h18) ∧ (∀ E20 h18, X19 E20 h18 → Qx E20 h18)))))) ∧ (∀ E21 h14, X15 E21 h14 → Qx E21 h14))))) ∧ (∀ E22 h9, X10 E22 h9 → Qx E22 h9)))))))))) :
  am_Ev tt 35 0 [some (.ref a0), some (.int a1), none] [] h (am_pV Q Qx) := am_vc 31 [] q

/-! 34 yX3_layOut -/
theorem vc_34_0 (tt : Nat → Nat) (a0 : Nat) (a1 : Int32) (a2 : Nat) (a3 : Nat) (h : am_H) (Q : am_H → Prop) (Qx : String → am_H → Prop) (q :
  am_Ev tt 34 6 [some (.ref a0), some (.int a1), some (.ref a2), some (.ref a3), some (.int (Int32.ofNat 0)), some (.int (Int32.ofNat 0)), none] [] h (am_pV Q Qx)) :
  am_Ev tt 34 0 [some (.ref a0), some (.int a1), some (.ref a2), some (.ref a3), none, none, none] [] h (am_pV Q Qx) := am_vc 7 [(6, [true, true, true, true, true, true, false]), (38, [true, true, true, true, true, true, false]), (105, [true, true, true, true, true, true, false])] q
theorem vc_34_6 (tt : Nat → Nat) (a0 : Nat) (a1 : Int32) (a2 : Nat) (a3 : Nat) (a4 : Int32) (a5 : Int32) (h : am_H) (Q : am_H → Prop) (Qx : String → am_H → Prop) (q :
  ((a1 ≤ a5 →
   Q h) ∧
  (¬ (a1 ≤ a5) →
   (((Int32.ofNat 24) ≤ a5 →
    Q h) ∧
   (¬ ((Int32.ofNat 24) ≤ a5) →
    (am_K h a0 = 4 ∧ ∃ q1, am_R h 3 1 a0 = some q1 ∧
    ((am_K h q1 = 23 ∨ am_K h q1 = 24) ∧ vp_in a5 (am_N h q1) ∧
    (((am_A h q1 (a5).toNatClampNeg) = (Int32.ofNat 0) →
     (am_K h a3 = 1 ∧ ∃ (Q3 : am_H → Prop) (X3 : String → am_H → Prop), am_Ct tt 2 [.ref a3, .int (Int32.ofNat 0)] h (am_pV Q3 X3) ∧ (∀ h2, Q3 h2 →
      am_Ev tt 34 38 [some (.ref a0), some (.int a1), some (.ref a2), some (.ref a3), some (.int a4), some (.int a5), none] [] h2 (am_pV Q Qx)) ∧ (∀ E4 h2, X3 E4 h2 → Qx E4 h2))) ∧
    (¬ ((am_A h q1 (a5).toNatClampNeg) = (Int32.ofNat 0)) →
     (am_K h a3 = 1 ∧ ∃ (Q6 : am_H → Prop) (X6 : String → am_H → Prop), am_Ct tt 2 [.ref a3, .int (Int32.ofNat 1)] h (am_pV Q6 X6) ∧ (∀ h5, Q6 h5 →
      am_Ev tt 34 38 [some (.ref a0), some (.int a1), some (.ref a2), some (.ref a3), some (.int a4), some (.int a5), none] [] h5 (am_pV Q Qx)) ∧ (∀ E7 h5, X6 E7 h5 → Qx E7 h5))))))))))) :
  am_Ev tt 34 6 [some (.ref a0), some (.int a1), some (.ref a2), some (.ref a3), some (.int a4), some (.int a5), none] [] h (am_pV Q Qx) := am_vc 18 [(6, [true, true, true, true, true, true, false]), (38, [true, true, true, true, true, true, false]), (105, [true, true, true, true, true, true, false])] q
theorem vc_34_38 (tt : Nat → Nat) (a0 : Nat) (a1 : Int32) (a2 : Nat) (a3 : Nat) (a4 : Int32) (a5 : Int32) (h : am_H) (Q : am_H → Prop) (Qx : String → am_H → Prop) (q :
  (am_K h a0 = 4 ∧ ∃ q1, am_R h 3 1 a0 = some q1 ∧
  ((am_K h q1 = 23 ∨ am_K h q1 = 24) ∧ vp_in a5 (am_N h q1) ∧
  ((¬ (am_A h q1 (a5).toNatClampNeg) = (Int32.ofNat 0) →
   am_Ev tt 34 105 [some (.ref a0), some (.int a1), some (.ref a2), some (.ref a3), some (.int a4), some (.int a5), none] [] h (am_pV Q Qx)) ∧
  (¬ (¬ (am_A h q1 (a5).toNatClampNeg) = (Int32.ofNat 0)) →
   (am_K h a2 = 6 ∧
   (((am_I h 5 7 a2) ≤ a4 →
    am_Ev tt 34 105 [some (.ref a0), some (.int a1), some (.ref a2), some (.ref a3), some (.int a4), some (.int a5), none] [] h (am_pV Q Qx)) ∧
   (¬ ((am_I h 5 7 a2) ≤ a4) →
    (am_K h a3 = 1 ∧ ∃ q2, am_R h 0 0 a3 = some q2 ∧
    ((am_K h q2 = 26 ∨ am_K h q2 = 27) ∧ vp_in a5 (am_N h q2) ∧ ∃ q3, am_C h q2 (a5).toNatClampNeg = some q3 ∧
    (am_K h a2 = 6 ∧ ∃ q4, am_R h 5 8 a2 = some q4 ∧
    ((am_K h q4 = 21 ∨ am_K h q4 = 31) ∧ vp_in a4 (am_N h q4) ∧
    (am_K h q3 = 5 ∧
    (am_K h a2 = 6 ∧ ∃ q5, am_R h 5 9 a2 = some q5 ∧
    ((am_K h q5 = 21 ∨ am_K h q5 = 31) ∧ vp_in a4 (am_N h q5) ∧
    (am_K h q3 = 5 ∧
    (am_K h a2 = 6 ∧ ∃ q6, am_R h 5 10 a2 = some q6 ∧
    ((am_K h q6 = 21 ∨ am_K h q6 = 31) ∧ vp_in a4 (am_N h q6) ∧
    (am_K h q3 = 5 ∧
    am_Ev tt 34 105 [some (.ref a0), some (.int a1), some (.ref a2), some (.ref a3), some (.int (a4 + (Int32.ofNat 1))), some (.int a5), none] [] (am_sI (am_sI (am_sI h 4 5 q3 (am_A h q4 (a4).toNatClampNeg)) 4 3 q3 (am_A h q5 (a4).toNatClampNeg)) 4 11 q3 (am_A h q6 (a4).toNatClampNeg)) (am_pV Q Qx)))))))))))))))))))) :
  am_Ev tt 34 38 [some (.ref a0), some (.int a1), some (.ref a2), some (.ref a3), some (.int a4), some (.int a5), none] [] h (am_pV Q Qx) := am_vc 36 [(6, [true, true, true, true, true, true, false]), (38, [true, true, true, true, true, true, false]), (105, [true, true, true, true, true, true, false])] q
theorem vc_34_105 (tt : Nat → Nat) (a0 : Nat) (a1 : Int32) (a2 : Nat) (a3 : Nat) (a4 : Int32) (a5 : Int32) (h : am_H) (Q : am_H → Prop) (Qx : String → am_H → Prop) (q :
  am_Ev tt 34 6 [some (.ref a0), some (.int a1), some (.ref a2), some (.ref a3), some (.int a4), some (.int (a5 + (Int32.ofNat 1))), none] [] h (am_pV Q Qx)) :
  am_Ev tt 34 105 [some (.ref a0), some (.int a1), some (.ref a2), some (.ref a3), some (.int a4), some (.int a5), none] [] h (am_pV Q Qx) := am_vc 5 [(6, [true, true, true, true, true, true, false]), (38, [true, true, true, true, true, true, false]), (105, [true, true, true, true, true, true, false])] q

/-! 36 yX3_markEmpties -/
theorem vc_36_0 (tt : Nat → Nat) (a0 : Nat) (a1 : Nat) (a2 : Int32) (h : am_H) (Q : am_H → Prop) (Qx : String → am_H → Prop) (q :
  am_Ev tt 36 5 [some (.ref a0), some (.ref a1), some (.int a2), some (.int (Int32.ofNat 0)), some (.int (Int32.ofNat 0)), none] [] h (am_pV Q Qx)) :
  am_Ev tt 36 0 [some (.ref a0), some (.ref a1), some (.int a2), none, none, none] [] h (am_pV Q Qx) := am_vc 7 [(5, [true, true, true, true, true, false])] q
theorem vc_36_5 (tt : Nat → Nat) (a0 : Nat) (a1 : Nat) (a2 : Int32) (a3 : Int32) (a4 : Int32) (h : am_H) (Q : am_H → Prop) (Qx : String → am_H → Prop) (q :
  (am_K h a1 = 1 ∧
  (((am_I h 0 1 a1) ≤ a4 →
   Q h) ∧
  (¬ ((am_I h 0 1 a1) ≤ a4) →
   (((Int32.ofNat 24) ≤ a3 →
    Q h) ∧
   (¬ ((Int32.ofNat 24) ≤ a3) →
    (am_K h a1 = 1 ∧ ∃ q1, am_R h 0 0 a1 = some q1 ∧
    ((am_K h q1 = 26 ∨ am_K h q1 = 27) ∧ vp_in a4 (am_N h q1) ∧ ∃ q2, am_C h q1 (a4).toNatClampNeg = some q2 ∧
    (am_K h q2 = 5 ∧
    (((am_I h 4 3 q2) ≤ (Int32.ofNat 0) →
     ((¬ a2 = (Int32.ofNat 15) →
      (am_K h a0 = 4 ∧ ∃ q3, am_R h 3 1 a0 = some q3 ∧
      ((am_K h q3 = 23 ∨ am_K h q3 = 24) ∧ vp_in a3 (am_N h q3) ∧
      (am_K h q2 = 5 ∧ ((am_A h q3 (a3).toNatClampNeg) = (Int32.ofNat 0) ∨ (am_A h q3 (a3).toNatClampNeg) = (Int32.ofNat 1)) ∧
      am_Ev tt 36 5 [some (.ref a0), some (.ref a1), some (.int a2), some (.int (a3 + (Int32.ofNat 1))), some (.int (a4 + (Int32.ofNat 1))), none] [] (am_sI h 4 6 q2 (am_A h q3 (a3).toNatClampNeg)) (am_pV Q Qx))))) ∧
     (¬ (¬ a2 = (Int32.ofNat 15)) →
      (am_K h a0 = 4 ∧ ∃ q4, am_R h 3 1 a0 = some q4 ∧
      ((am_K h q4 = 23 ∨ am_K h q4 = 24) ∧ vp_in a3 (am_N h q4) ∧
      (((am_A h q4 (a3).toNatClampNeg) = (Int32.ofNat 0) →
       (am_K h q2 = 5 ∧
       am_Ev tt 36 5 [some (.ref a0), some (.ref a1), some (.int a2), some (.int (a3 + (Int32.ofNat 1))), some (.int (a4 + (Int32.ofNat 1))), none] [] (am_sI h 4 4 q2 (Int32.ofNat 1)) (am_pV Q Qx))) ∧
      (¬ ((am_A h q4 (a3).toNatClampNeg) = (Int32.ofNat 0)) →
       (am_K h q2 = 5 ∧
       am_Ev tt 36 5 [some (.ref a0), some (.ref a1), some (.int a2), some (.int (a3 + (Int32.ofNat 1))), some (.int (a4 + (Int32.ofNat 1))), none] [] (am_sI h 4 4 q2 (Int32.ofNat 0)) (am_pV Q Qx))))))))) ∧
    (¬ ((am_I h 4 3 q2) ≤ (Int32.ofNat 0)) →
     am_Ev tt 36 5 [some (.ref a0), some (.ref a1), some (.int a2), some (.int a3), some (.int (a4 + (Int32.ofNat 1))), none] [] h (am_pV Q Qx)))))))))))) :
  am_Ev tt 36 5 [some (.ref a0), some (.ref a1), some (.int a2), some (.int a3), some (.int a4), none] [] h (am_pV Q Qx) := am_vc 34 [(5, [true, true, true, true, true, false])] q

section RE
variable {tt : Nat → Nat} {h0 h h' h'' : am_H} {cd : Nat → Nat} {bb : Nat → Nat → Nat} {wa wt n p : Nat}
def X34 (k : Nat) : Prop := k = 34
theorem X34_A {k : Nat} (h : X34 k) : XA wa k := by unfold X34 at h; unfold XA; omega
theorem CX.r (x : CX tt h0 cd bb wa wt n h p) {m : Nat} (h1 : 1 ≤ m) (h24 : m ≤ 24) {β : Type} {k : (Nat → Bool) → Nat → Except pe β} {r : Except pe β} (hr : r = bd (tR (FF cd wt h0) n p m) k) {G : Int32 → am_H → Prop} (hG : ∀ g q h2, tR (FF cd wt h0) n p m = .ok (g, q) → CX tt h0 cd bb wa wt n h2 q → rf cd X34 Yc h h2 → (∀ j, j < m → am_A h2 (cd 34) j = b01 (g j)) → r = k g q → G (Int32.ofNat (cn g m)) h2) :
    am_K h (cd 31) = 3 ∧ ∃ (Q3 : Int32 → am_H → Prop) (X3 : String → am_H → Prop), am_Ct tt 30 [.ref (cd 31), .ref (cd 34), .int (Int32.ofNat m)] h (am_pI Q3 X3) ∧ (∀ v h2, Q3 v h2 → G v h2) ∧ (∀ E h2, X3 E h2 → ER cd wa h0 r E h2) := by
  have f := x.f
  have ci := x.ci
  have ne : cd (c_tb wt) ≠ cd 34 := fun e => by have := ci.1 _ _ e; unfold c_tb at this; omega
  have c := ct_takeBits (tt := tt) (r := cd 34) (m := m) x.2.2.2.2.2 f.2.2.2.2.2.2.1 (by rw [f.2.2.2.2.2.2.2.1]; exact h24) (by rw [f.2.2.2.2.2.2.2.1]; omega) ne h1
  rw [x.F] at c
  refine ⟨f.1, _, _, c, fun v h2 e => ?_, fun E h2 e => ?_⟩
  · obtain ⟨e1, e2, e3, e4⟩ := e
    have r1 : rf cd X34 Yc h h2 := by rw [e4]; exact (rf.cA (Y := Yc) (X := X34) rfl).tr (rf.mv ⟨rfl, rfl, rfl⟩)
    have xc : CX tt h0 cd bb wa wt n h2 (p + (m + 7) / 8) := by
      rw [e4]
      exact (x.on (rf.cA (X34_A rfl)) rfl rfl (fun _ _ => rfl)).mv e2
    rw [e3]
    refine hG _ _ h2 e1 xc r1 (fun j hj => ?_) (by rw [hr, bd_ok e1])
    rw [e4]
    simp only [cp_fr, am_hs, true_and, and_true, and_self, true_or, or_true, false_or, or_false, false_and, and_false, not_true_eq_false, not_false_eq_true, Classical.not_not, true_implies, false_implies, implies_true, exists_eq_left, exists_eq_left', Option.some.injEq, reduceIte, Nat.reduceEqDiff, Nat.reduceLT, Nat.reduceLeDiff, Nat.reduceAdd, Nat.reduceSub, Nat.reduceMul, eq_self, ne_eq, and_imp, forall_const, reduceCtorEq, am_w, List.map_cons, List.map_nil, List.sum_cons, List.sum_nil, Value.category, Nat.zero_le, Nat.le_refl]
    unfold fb
    rw [if_pos hj]
  · obtain ⟨e1, g, fl, pl, p', e2, e3⟩ := e
    have xc : CX tt h0 cd bb wa wt n (am_cA h (cd 34) g) p := x.on (rf.cA (X34_A rfl)) rfl rfl (fun _ _ => rfl)
    exact xc.er (r0 := tR (FF cd wt h0) n p m) (fun e he => by rw [hr, bd_er he]) ⟨e1, fl, pl, p', e2, e3⟩
theorem ct_takeEmptyRow (x : CX tt h0 cd bb wa wt n h p) {N em : Nat} (h1 : 1 ≤ N) (h24 : N ≤ 24) (hem : em ≤ 24) {r : Except pe ((Nat → Bool) × Nat)} (hr : r = bd (tN (FF cd wt h0) n p (l64 ((N + 7) / 8)) (l64 ((N + 7) / 8))) fun _ p2 => bd (tR (FF cd wt h0) n p2 N) fun g p3 => if ¬ cn g N = em then .error (5, p) else .ok (g, p3)) :
    am_Ct tt 33 [.ref (cd 33), .int (Int32.ofNat N), .int (Int32.ofNat em)] h (am_pV (fun h' => ∃ g p', r = .ok (g, p') ∧ CX tt h0 cd bb wa wt n h' p' ∧ rf cd X34 Yc h h' ∧ cn g N = em ∧ ∀ j, j < N → am_A h' (cd 34) j = b01 (g j)) (ER cd wa h0 r)) := by
  have f := x.f
  have p5 := x.p5
  refine vc_33_0 tt _ _ _ h _ _ ?_
  simp (disch := omega) only [f, qi_lt, qi_le, qi_eq, qi_nn, qi_in, qi_add, qi_l, ql_i, ql_lt, ql_le, ql_eq, ql_add, qc_lt, qc_eq, qc_ge, qc_gt, qc_le, true_and, and_true, and_self, true_or, or_true, false_or, or_false, false_and, and_false, not_true_eq_false, not_false_eq_true, Classical.not_not, true_implies, false_implies, implies_true, exists_eq_left, exists_eq_left', Option.some.injEq, reduceIte, Nat.reduceEqDiff, Nat.reduceLT, Nat.reduceLeDiff, Nat.reduceAdd, Nat.reduceSub, Nat.reduceMul, eq_self, ne_eq, and_imp, forall_const, reduceCtorEq, am_w, List.map_cons, List.map_nil, List.sum_cons, List.sum_nil, Value.category, Nat.zero_le, Nat.le_refl]
  refine ⟨_, ct_bytesForBits h24, fun v k e => ?_⟩
  obtain ⟨rfl, rfl⟩ := e
  refine ⟨_, ct_bytesForBits h24, fun v k e => ?_⟩
  obtain ⟨rfl, rfl⟩ := e
  simp (disch := omega) only [f, qi_lt, qi_le, qi_eq, qi_nn, qi_in, qi_add, qi_l, ql_i, ql_lt, ql_le, ql_eq, ql_add, qc_lt, qc_eq, qc_ge, qc_gt, qc_le, true_and, and_true, and_self, true_or, or_true, false_or, or_false, false_and, and_false, not_true_eq_false, not_false_eq_true, Classical.not_not, true_implies, false_implies, implies_true, exists_eq_left, exists_eq_left', Option.some.injEq, reduceIte, Nat.reduceEqDiff, Nat.reduceLT, Nat.reduceLeDiff, Nat.reduceAdd, Nat.reduceSub, Nat.reduceMul, eq_self, ne_eq, and_imp, forall_const, reduceCtorEq, am_w, List.map_cons, List.map_nil, List.sum_cons, List.sum_nil, Value.category, Nat.zero_le, Nat.le_refl]
  refine (x.nu hr fun v q2 h2 ev e2 x2 r2 => ?_).2
  have f2 := x2.f
  simp (disch := omega) only [f2, qi_lt, qi_le, qi_eq, qi_nn, qi_in, qi_add, qi_l, ql_i, ql_lt, ql_le, ql_eq, ql_add, qc_lt, qc_eq, qc_ge, qc_gt, qc_le, true_and, and_true, and_self, true_or, or_true, false_or, or_false, false_and, and_false, not_true_eq_false, not_false_eq_true, Classical.not_not, true_implies, false_implies, implies_true, exists_eq_left, exists_eq_left', Option.some.injEq, reduceIte, Nat.reduceEqDiff, Nat.reduceLT, Nat.reduceLeDiff, Nat.reduceAdd, Nat.reduceSub, Nat.reduceMul, eq_self, ne_eq, and_imp, forall_const, reduceCtorEq, am_w, List.map_cons, List.map_nil, List.sum_cons, List.sum_nil, Value.category, Nat.zero_le, Nat.le_refl]
  refine (x2.r h1 h24 r2 fun g q3 h3 eg x3 fr3 g3 r3 => ?_).2
  have f3 := x3.f
  have cl := cn_le g N
  simp (disch := omega) only [f3, qi_lt, qi_le, qi_eq, qi_nn, qi_in, qi_add, qi_l, ql_i, ql_lt, ql_le, ql_eq, ql_add, qc_lt, qc_eq, qc_ge, qc_gt, qc_le, true_and, and_true, and_self, true_or, or_true, false_or, or_false, false_and, and_false, not_true_eq_false, not_false_eq_true, Classical.not_not, true_implies, false_implies, implies_true, exists_eq_left, exists_eq_left', Option.some.injEq, reduceIte, Nat.reduceEqDiff, Nat.reduceLT, Nat.reduceLeDiff, Nat.reduceAdd, Nat.reduceSub, Nat.reduceMul, eq_self, ne_eq, and_imp, forall_const, reduceCtorEq, am_w, List.map_cons, List.map_nil, List.sum_cons, List.sum_nil, Value.category, Nat.zero_le, Nat.le_refl]
  refine ⟨fun c => ?_, fun c => ?_⟩
  · rw [if_neg (fun z => z c)] at r3
    exact ⟨g, q3, r3, x3, (by rw [e2] at fr3; exact (rf.mv ⟨rfl, rfl, rfl⟩).tr fr3), c, g3⟩
  · rw [if_pos c] at r3
    exact ⟨_, _, x3.fa r3, fun _ z => z.elim, fun _ _ z => z⟩
theorem ct_takeFlags (x : CX tt h0 cd bb wa wt n h p) (hp : 1 ≤ p) {E : Nat} (h1 : 1 ≤ E) (h24 : E ≤ 24) {r : Except pe ((Nat → Bool) × Nat)} (hr : r = bd (tN (FF cd wt h0) n p (l64 ((E + 7) / 8)) (l64 ((E + 7) / 8))) fun _ q => bd (tR (FF cd wt h0) n q E) fun g q' => if cn g E = 0 then .error (2, p - 1) else .ok (g, q')) :
    am_Ct tt 35 [.ref (cd 33), .int (Int32.ofNat E)] h (am_pV (fun h' => ∃ g p', r = .ok (g, p') ∧ CX tt h0 cd bb wa wt n h' p' ∧ rf cd X34 Yc h h' ∧ ∀ j, j < E → am_A h' (cd 34) j = b01 (g j)) (ER cd wa h0 r)) := by
  have f := x.f
  have p5 := x.p5
  refine vc_35_0 tt _ _ h _ _ ?_
  simp (disch := omega) only [f, qi_lt, qi_le, qi_eq, qi_nn, qi_in, qi_add, qi_l, ql_i, ql_lt, ql_le, ql_eq, ql_add, qc_lt, qc_eq, qc_ge, qc_gt, qc_le, true_and, and_true, and_self, true_or, or_true, false_or, or_false, false_and, and_false, not_true_eq_false, not_false_eq_true, Classical.not_not, true_implies, false_implies, implies_true, exists_eq_left, exists_eq_left', Option.some.injEq, reduceIte, Nat.reduceEqDiff, Nat.reduceLT, Nat.reduceLeDiff, Nat.reduceAdd, Nat.reduceSub, Nat.reduceMul, eq_self, ne_eq, and_imp, forall_const, reduceCtorEq, am_w, List.map_cons, List.map_nil, List.sum_cons, List.sum_nil, Value.category, Nat.zero_le, Nat.le_refl]
  refine ⟨_, ct_bytesForBits h24, fun v k e => ?_⟩
  obtain ⟨rfl, rfl⟩ := e
  refine ⟨_, ct_bytesForBits h24, fun v k e => ?_⟩
  obtain ⟨rfl, rfl⟩ := e
  simp (disch := omega) only [f, qi_lt, qi_le, qi_eq, qi_nn, qi_in, qi_add, qi_l, ql_i, ql_lt, ql_le, ql_eq, ql_add, qc_lt, qc_eq, qc_ge, qc_gt, qc_le, true_and, and_true, and_self, true_or, or_true, false_or, or_false, false_and, and_false, not_true_eq_false, not_false_eq_true, Classical.not_not, true_implies, false_implies, implies_true, exists_eq_left, exists_eq_left', Option.some.injEq, reduceIte, Nat.reduceEqDiff, Nat.reduceLT, Nat.reduceLeDiff, Nat.reduceAdd, Nat.reduceSub, Nat.reduceMul, eq_self, ne_eq, and_imp, forall_const, reduceCtorEq, am_w, List.map_cons, List.map_nil, List.sum_cons, List.sum_nil, Value.category, Nat.zero_le, Nat.le_refl]
  refine (x.nu hr fun v q2 h2 ev e2 x2 r2 => ?_).2
  have f2 := x2.f
  simp (disch := omega) only [f2, qi_lt, qi_le, qi_eq, qi_nn, qi_in, qi_add, qi_l, ql_i, ql_lt, ql_le, ql_eq, ql_add, qc_lt, qc_eq, qc_ge, qc_gt, qc_le, true_and, and_true, and_self, true_or, or_true, false_or, or_false, false_and, and_false, not_true_eq_false, not_false_eq_true, Classical.not_not, true_implies, false_implies, implies_true, exists_eq_left, exists_eq_left', Option.some.injEq, reduceIte, Nat.reduceEqDiff, Nat.reduceLT, Nat.reduceLeDiff, Nat.reduceAdd, Nat.reduceSub, Nat.reduceMul, eq_self, ne_eq, and_imp, forall_const, reduceCtorEq, am_w, List.map_cons, List.map_nil, List.sum_cons, List.sum_nil, Value.category, Nat.zero_le, Nat.le_refl]
  refine (x2.r h1 h24 r2 fun g q3 h3 eg x3 fr3 g3 r3 => ?_).2
  have f3 := x3.f
  have cl := cn_le g E
  simp (disch := omega) only [f3, qi_sub, qi_lt, qi_le, qi_eq, qi_nn, qi_in, qi_add, qi_l, ql_i, ql_lt, ql_le, ql_eq, ql_add, qc_lt, qc_eq, qc_ge, qc_gt, qc_le, true_and, and_true, and_self, true_or, or_true, false_or, or_false, false_and, and_false, not_true_eq_false, not_false_eq_true, Classical.not_not, true_implies, false_implies, implies_true, exists_eq_left, exists_eq_left', Option.some.injEq, reduceIte, Nat.reduceEqDiff, Nat.reduceLT, Nat.reduceLeDiff, Nat.reduceAdd, Nat.reduceSub, Nat.reduceMul, eq_self, ne_eq, and_imp, forall_const, reduceCtorEq, am_w, List.map_cons, List.map_nil, List.sum_cons, List.sum_nil, Value.category, Nat.zero_le, Nat.le_refl]
  refine ⟨fun c => ?_, fun c => ?_⟩
  · rw [if_neg c] at r3
    exact ⟨g, q3, r3, x3, (by rw [e2] at fr3; exact (rf.mv ⟨rfl, rfl, rfl⟩).tr fr3), g3⟩
  · rw [if_pos c] at r3
    exact ⟨_, _, x3.fa r3, fun _ z => z.elim, fun _ _ z => z⟩
/-- the draft's entries -/
theorem CX.en (x : CX tt h0 cd bb wa wt n h p) {i : Nat} (hi : i < 24) : am_K h (cd (c_ar (1 - wa))) = 1 ∧ am_R h 0 0 (cd (c_ar (1 - wa))) = some (cd (c_ea (1 - wa))) ∧ am_K h (cd (c_ea (1 - wa))) = 26 ∧ am_N h (cd (c_ea (1 - wa))) = 24 ∧ am_C h (cd (c_ea (1 - wa))) i = some (cd (c_en (1 - wa) i)) ∧ am_K h (cd (c_en (1 - wa) i)) = 5 ∧ am_R h 4 0 (cd (c_en (1 - wa) i)) = some (cd (c_un (1 - wa) i)) ∧ am_K h (cd (c_un (1 - wa) i)) = 25 ∧ am_N h (cd (c_un (1 - wa) i)) = 20 := by
  have w1 : 1 - wa < 2 := by omega
  obtain ⟨a1, a2, a3, a4, a5, a6, a7, a8, a9⟩ := (x.cl.2.2.2.2.1 _ w1).1
  obtain ⟨t1, t2, t3, t4, t5, t6, t7, t8⟩ := a8 i hi
  exact ⟨a1, a2, a3, a4, t1, t2, t3, t4, t5⟩
def DE (cd : Nat → Nat) (wa : Nat) (h : am_H) (i : Nat) (v : sE) (t : Int32) : Prop := ce_v h (cd (c_en (1 - wa) i)) (cd (c_un (1 - wa) i)) 0 v False ∧ am_I h 4 11 (cd (c_en (1 - wa) i)) = t
theorem DE.k {X : Nat → Prop} {Y : Nat → Nat → Nat → Prop} (ci : ci_s cd bb) (q : rf cd X Y h h') {i : Nat} {v : sE} {t : Int32} (h1 : ¬ X (c_un (1 - wa) i)) (h2 : ∀ g, ¬ Y 4 g (c_en (1 - wa) i)) (z : DE cd wa h i v t) : DE cd wa h' i v t := by
  obtain ⟨⟨z1, z2, z3, z4, z5, z6, z7, z8, z9, z10, z11, z12⟩, z13⟩ := z
  refine ⟨⟨?_, ?_, fun j hj => ?_, ?_, ?_, ?_, ?_, fun t ht => ?_, ?_, fun t ht => ?_, ?_, fun z => z.elim⟩, ?_⟩
  · rw [q.i ci (h2 _)]; exact z1
  · rw [q.i ci (h2 _)]; exact z2
  · rw [q.a ci h1]; exact z3 j hj
  · rw [q.i ci (h2 _)]; exact z4
  · rw [q.i ci (h2 _)]; exact z5
  · rw [q.i ci (h2 _)]; exact z6
  · rw [q.i ci (h2 _)]; exact z7
  · rw [q.j ci (h2 _)]; exact z8 t ht
  · rw [q.i ci (h2 _)]; exact z9
  · rw [q.i ci (h2 _)]; exact z10 t ht
  · rw [q.i ci (h2 _)]; exact z11
  · rw [q.i ci (h2 _)]; exact z13
theorem DE.of {i kd un sz hm : Nat} {nm by' : Nat → Int32} {an wr : Bool} {tm : Option Int64} {av : Option Int32} {t : Int32} (v4 : am_I h 4 4 (cd (c_en (1 - wa) i)) = Int32.ofNat kd) (v1 : am_I h 4 1 (cd (c_en (1 - wa) i)) = Int32.ofNat un) (vn : ∀ j, j < un → am_A h (cd (c_un (1 - wa) i)) j = nm j) (v3 : am_I h 4 3 (cd (c_en (1 - wa) i)) = Int32.ofNat sz) (v5 : am_I h 4 5 (cd (c_en (1 - wa) i)) = Int32.ofNat hm) (v6 : am_I h 4 6 (cd (c_en (1 - wa) i)) = b01 an) (v7 : am_I h 4 7 (cd (c_en (1 - wa) i)) = b01 tm.isSome) (v8 : ∀ t, tm = some t → am_J h 4 8 (cd (c_en (1 - wa) i)) = t) (v9 : am_I h 4 9 (cd (c_en (1 - wa) i)) = b01 av.isSome) (v10 : ∀ t, av = some t → am_I h 4 10 (cd (c_en (1 - wa) i)) = t) (v12 : am_I h 4 12 (cd (c_en (1 - wa) i)) = b01 wr) (v11 : am_I h 4 11 (cd (c_en (1 - wa) i)) = t) : DE cd wa h i (kd, un, nm, sz, by', hm, an, tm, av, wr) t := ⟨⟨v4, v1, vn, v3, v5, v6, v7, v8, v9, v10, v12, fun z => z.elim⟩, v11⟩
def DA (cd : Nat → Nat) (wa : Nat) (h : am_H) (N : Nat) (V : Nat → sE) (T : Nat → Int32) : Prop := am_I h 0 1 (cd (c_ar (1 - wa))) = Int32.ofNat N ∧ ∀ i, i < N → DE cd wa h i (V i) (T i)
/-- an entry of the draft -/
def dE (x : FI) (em fl an : Nat → Bool) (un : Nat → Nat) (nm : Nat → Nat → Int32) (tm : Nat → Option Int64) (av : Nat → Option Int32) (i : Nat) : sE :=
  if em i = true then (if fl (i - rk em i) = true then 0 else 1, un i, nm i, 0, fun _ => 0, 0, an (i - rk em i), tm i, av i, false)
  else (0, un i, nm i, x.2.2 (rk em i), fun _ => 0, x.2.1 (rk em i), false, tm i, av i, false)
def tC (c : Nat → Int64) (em : Nat → Bool) (i : Nat) : Int32 := if em i = true then Int32.ofNat 0 else (c (rk em i)).toInt32
theorem rk_le (em : Nat → Bool) : ∀ i, rk em i ≤ i
  | 0 => Nat.le_refl _
  | i + 1 => by have := rk_le em i; unfold rk; split <;> omega
def Yl (wa c g k : Nat) : Prop := (c = 0 ∧ g = 1 ∧ k = 100 + 500 * (1 - wa)) ∨ (c = 4 ∧ 110 + 500 * (1 - wa) ≤ k ∧ k ≤ 157 + 500 * (1 - wa))
def fls : Nat → Bool := fun _ => false
def zrs : Nat → Nat := fun _ => 0
def zrr : Nat → Nat → Int32 := fun _ _ => 0
def nn6 : Nat → Option Int64 := fun _ => none
def nn3 : Nat → Option Int32 := fun _ => none
theorem b01_t : b01 true = Int32.ofNat 1 := rfl
theorem b01_f : b01 false = Int32.ofNat 0 := rfl
theorem ct_layOut (x : CX tt h0 cd bb wa wt n h p) {N : Nat} (h24 : N ≤ 24) {z : FI} (fr : FR cd h z) (z24 : z.1 ≤ 24) {c : Nat → Int64} (hc : ∀ f, f < z.1 → am_A h (cd 50) f = (c f).toInt32) {em : Nat → Bool} (he : ∀ j, j < N → am_A h (cd 34) j = b01 (em j)) (hf : ∀ i, i < N → em i = false → rk em i < z.1) (hz : am_I h 0 1 (cd (c_ar (1 - wa))) = Int32.ofNat 0) :
    am_Ct tt 34 [.ref (cd 33), .int (Int32.ofNat N), .ref (cd 32), .ref (cd (c_ar (1 - wa)))] h (am_pV (fun h' => CX tt h0 cd bb wa wt n h' p ∧ rf cd Xn (Yl wa) h h' ∧ DA cd wa h' N (dE z em fls fls zrs zrr nn6 nn3) (tC c em)) no_x) := by
  have ci := x.ci
  have key : ∀ (d i : Nat) (k : am_H), d + i = N → CX tt h0 cd bb wa wt n k p → rf cd Xn (Yl wa) h k → DA cd wa k i (dE z em fls fls zrs zrr nn6 nn3) (tC c em) →
      am_Ev tt 34 6 [some (.ref (cd 33)), some (.int (Int32.ofNat N)), some (.ref (cd 32)), some (.ref (cd (c_ar (1 - wa)))), some (.int (Int32.ofNat (rk em i))), some (.int (Int32.ofNat i)), none] [] k (am_pV (fun h' => CX tt h0 cd bb wa wt n h' p ∧ rf cd Xn (Yl wa) h h' ∧ DA cd wa h' N (dE z em fls fls zrs zrr nn6 nn3) (tC c em)) no_x) := by
    intro d
    induction d with
    | zero =>
      intro i k e y fk da
      have ei : i = N := by omega
      rw [ei] at da ⊢
      refine vc_34_6 tt _ _ _ _ _ _ _ _ _ ?_
      simp (disch := omega) only [qi_lt, qi_le, qi_eq, qi_nn, qi_in, qi_add, qi_l, ql_i, ql_lt, ql_le, ql_eq, ql_add, qc_lt, qc_eq, qc_ge, qc_gt, qc_le, true_and, and_true, and_self, true_or, or_true, false_or, or_false, false_and, and_false, not_true_eq_false, not_false_eq_true, Classical.not_not, true_implies, false_implies, implies_true, exists_eq_left, exists_eq_left', Option.some.injEq, reduceIte, Nat.reduceEqDiff, Nat.reduceLT, Nat.reduceLeDiff, Nat.reduceAdd, Nat.reduceSub, Nat.reduceMul, eq_self, ne_eq, and_imp, forall_const, reduceCtorEq, am_w, List.map_cons, List.map_nil, List.sum_cons, List.sum_nil, Value.category, Nat.zero_le, Nat.le_refl]
      exact ⟨y, fk, da⟩
    | succ d ih =>
      intro i k e y fk da
      have F := y.f
      have hi : i < 24 := by omega
      have hiN : i < N := by omega
      have G := y.en hi
      have ek : am_A k (cd 34) i = b01 (em i) := by rw [fk.a ci (fun z => z)]; exact he i hiN
      have cs : car_s k cd bb (1 - wa) := (y.cl.2.2.2.2.1 _ (by omega)).1
      have q1 : ¬ N ≤ i := by omega
      have q2 : ¬ 24 ≤ i := by omega
      have rl := rk_le em i
      -- begun
      have st : ∀ v : Nat, ∀ k2, k2 = (if i < 24 then am_sI (en_b k (cd (c_en (1 - wa) i)) (Int32.ofNat v)) 0 1 (cd (c_ar (1 - wa))) (Int32.ofNat (i + 1)) else k) → CX tt h0 cd bb wa wt n k2 p ∧ rf cd Xn (Yl wa) k k2 ∧ am_A k2 = am_A k ∧ am_I k2 5 7 = am_I k 5 7 ∧ am_I k2 0 1 (cd (c_ar (1 - wa))) = Int32.ofNat (i + 1) ∧ (∀ j, j < i → DE cd wa k2 j (dE z em fls fls zrs zrr nn6 nn3 j) (tC c em j)) ∧
          am_I k2 4 4 (cd (c_en (1 - wa) i)) = Int32.ofNat v ∧ am_I k2 4 1 (cd (c_en (1 - wa) i)) = Int32.ofNat 0 ∧ am_I k2 4 3 (cd (c_en (1 - wa) i)) = Int32.ofNat 0 ∧ am_I k2 4 5 (cd (c_en (1 - wa) i)) = Int32.ofNat 0 ∧ am_I k2 4 6 (cd (c_en (1 - wa) i)) = Int32.ofNat 0 ∧ am_I k2 4 7 (cd (c_en (1 - wa) i)) = Int32.ofNat 0 ∧ am_I k2 4 9 (cd (c_en (1 - wa) i)) = Int32.ofNat 0 ∧ am_I k2 4 11 (cd (c_en (1 - wa) i)) = Int32.ofNat 0 ∧ am_I k2 4 12 (cd (c_en (1 - wa) i)) = Int32.ofNat 0 := by
        intro v k2 e2
        rw [if_pos hi] at e2
        have yi : ∀ g, Yl wa 4 g (c_en (1 - wa) i) := fun g => by unfold Yl c_en; omega
        have r2 : rf cd Xn (Yl wa) k k2 := by
          rw [e2, en_b]
          exact (((((((((rf.sI (yi _)).tr (rf.sI (yi _))).tr (rf.sI (yi _))).tr (rf.sI (yi _))).tr (rf.sI (yi _))).tr (rf.sI (yi _))).tr (rf.sI (yi _))).tr (rf.sI (yi _))).tr (rf.sI (yi _))).tr (rf.sI (by unfold Yl c_ar; omega))
        refine ⟨y.on (r2.mo (fun k z => z.elim) (fun c g k z => by unfold Yl at z; unfold YA; omega)) (by rw [e2, en_b]; rfl) (by rw [e2, en_b]; rfl) (fun g _ => r2.i ci (by unfold Yl; omega)), r2, by rw [e2, en_b]; rfl, ?_, ?_, fun j hj => ?_, ?_⟩
        · rw [e2, en_b]; funext a; simp only [am_hs, true_and, and_true, and_self, true_or, or_true, false_or, or_false, false_and, and_false, not_true_eq_false, not_false_eq_true, Classical.not_not, true_implies, false_implies, implies_true, exists_eq_left, exists_eq_left', Option.some.injEq, reduceIte, Nat.reduceEqDiff, Nat.reduceLT, Nat.reduceLeDiff, Nat.reduceAdd, Nat.reduceSub, Nat.reduceMul, eq_self, ne_eq, and_imp, forall_const, reduceCtorEq, am_w, List.map_cons, List.map_nil, List.sum_cons, List.sum_nil, Value.category, Nat.zero_le, Nat.le_refl]
        · rw [e2]; simp only [am_hs, true_and, and_true, and_self, true_or, or_true, false_or, or_false, false_and, and_false, not_true_eq_false, not_false_eq_true, Classical.not_not, true_implies, false_implies, implies_true, exists_eq_left, exists_eq_left', Option.some.injEq, reduceIte, Nat.reduceEqDiff, Nat.reduceLT, Nat.reduceLeDiff, Nat.reduceAdd, Nat.reduceSub, Nat.reduceMul, eq_self, ne_eq, and_imp, forall_const, reduceCtorEq, am_w, List.map_cons, List.map_nil, List.sum_cons, List.sum_nil, Value.category, Nat.zero_le, Nat.le_refl]
        · obtain ⟨w1, w2⟩ := da.2 j hj
          have ne : cd (c_en (1 - wa) j) ≠ cd (c_en (1 - wa) i) := fun e => by have := ci.1 _ _ e; unfold c_en at this; omega
          have r3 : rf cd Xn (fun c g k => (c = 4 ∧ k = c_en (1 - wa) i) ∨ (c = 0 ∧ k = c_ar (1 - wa))) k k2 := by
            rw [e2, en_b]
            exact (((((((((rf.sI (Or.inl ⟨rfl, rfl⟩)).tr (rf.sI (Or.inl ⟨rfl, rfl⟩))).tr (rf.sI (Or.inl ⟨rfl, rfl⟩))).tr (rf.sI (Or.inl ⟨rfl, rfl⟩))).tr (rf.sI (Or.inl ⟨rfl, rfl⟩))).tr (rf.sI (Or.inl ⟨rfl, rfl⟩))).tr (rf.sI (Or.inl ⟨rfl, rfl⟩))).tr (rf.sI (Or.inl ⟨rfl, rfl⟩))).tr (rf.sI (Or.inl ⟨rfl, rfl⟩))).tr (rf.sI (Or.inr ⟨rfl, rfl⟩))
          exact (da.2 j hj).k ci r3 (fun z => z) (fun g z => by unfold c_en c_ar at z; omega)
        · rw [e2, en_b]
          simp only [am_hs, true_and, and_true, and_self, true_or, or_true, false_or, or_false, false_and, and_false, not_true_eq_false, not_false_eq_true, Classical.not_not, true_implies, false_implies, implies_true, exists_eq_left, exists_eq_left', Option.some.injEq, reduceIte, Nat.reduceEqDiff, Nat.reduceLT, Nat.reduceLeDiff, Nat.reduceAdd, Nat.reduceSub, Nat.reduceMul, eq_self, ne_eq, and_imp, forall_const, reduceCtorEq, am_w, List.map_cons, List.map_nil, List.sum_cons, List.sum_nil, Value.category, Nat.zero_le, Nat.le_refl]
      refine vc_34_6 tt _ _ _ _ _ _ _ _ _ ?_
      simp (disch := omega) only [F, G, ek, q1, q2, hi, b01_z, qi_lt, qi_le, qi_eq, qi_nn, qi_in, qi_add, qi_l, ql_i, ql_lt, ql_le, ql_eq, ql_add, qc_lt, qc_eq, qc_ge, qc_gt, qc_le, true_and, and_true, and_self, true_or, or_true, false_or, or_false, false_and, and_false, not_true_eq_false, not_false_eq_true, Classical.not_not, true_implies, false_implies, implies_true, exists_eq_left, exists_eq_left', Option.some.injEq, reduceIte, Nat.reduceEqDiff, Nat.reduceLT, Nat.reduceLeDiff, Nat.reduceAdd, Nat.reduceSub, Nat.reduceMul, eq_self, ne_eq, and_imp, forall_const, reduceCtorEq, am_w, List.map_cons, List.map_nil, List.sum_cons, List.sum_nil, Value.category, Nat.zero_le, Nat.le_refl]
      refine ⟨fun c1 => ?_, fun c1 => ?_⟩
      · refine ⟨_, _, ct_addEntry (k := Int32.ofNat 0) cs da.1 (by omega), fun k2 e2 => ?_, fun _ _ z => z.elim⟩
        obtain ⟨y2, r2, a2, i57, i01, od, v4, v1, v3, v5, v6, v7, v9, v11, v12⟩ := st 0 k2 e2
        have F2 := y2.f
        have G2 := y2.en hi
        have ek2 : am_A k2 (cd 34) i = b01 (em i) := by rw [a2]; exact ek
        have i7 : am_I k2 5 7 (cd 32) = Int32.ofNat z.1 := by rw [i57, fk.i ci (by unfold Yl; omega)]; exact fr.1
        have rz := hf i hiN c1
        have rz24 : rk em i < 24 := by omega
        have ea2 : ∀ q, am_A k2 (cd q) = am_A h (cd q) := fun q => by rw [a2, fk.a ci (fun z => z)]
        have e8 : am_A k2 (cd 48) (rk em i) = Int32.ofNat (z.2.1 (rk em i)) := by rw [ea2]; exact (fr.2 _ rz).1
        have e9 : am_A k2 (cd 49) (rk em i) = Int32.ofNat (z.2.2 (rk em i)) := by rw [ea2]; exact (fr.2 _ rz).2
        have e10 : am_A k2 (cd 50) (rk em i) = (c (rk em i)).toInt32 := by rw [ea2]; exact hc _ rz
        have q3 : ¬ z.1 ≤ rk em i := by omega
        refine vc_34_38 tt _ _ _ _ _ _ _ _ _ ?_
        simp (disch := omega) only [F2, G2, ek2, c1, b01_f, hi, i7, e8, e9, e10, rz24, q3, qi_lt, qi_le, qi_eq, qi_nn, qi_in, qi_add, qi_l, ql_i, ql_lt, ql_le, ql_eq, ql_add, qc_lt, qc_eq, qc_ge, qc_gt, qc_le, true_and, and_true, and_self, true_or, or_true, false_or, or_false, false_and, and_false, not_true_eq_false, not_false_eq_true, Classical.not_not, true_implies, false_implies, implies_true, exists_eq_left, exists_eq_left', Option.some.injEq, reduceIte, Nat.reduceEqDiff, Nat.reduceLT, Nat.reduceLeDiff, Nat.reduceAdd, Nat.reduceSub, Nat.reduceMul, eq_self, ne_eq, and_imp, forall_const, reduceCtorEq, am_w, List.map_cons, List.map_nil, List.sum_cons, List.sum_nil, Value.category, Nat.zero_le, Nat.le_refl]
        have yi : ∀ g, Yl wa 4 g (c_en (1 - wa) i) := fun g => by unfold Yl c_en; omega
        have r4 : rf cd Xn (Yl wa) k2 (am_sI (am_sI (am_sI k2 4 5 (cd (c_en (1 - wa) i)) (Int32.ofNat (z.2.1 (rk em i)))) 4 3 (cd (c_en (1 - wa) i)) (Int32.ofNat (z.2.2 (rk em i)))) 4 11 (cd (c_en (1 - wa) i)) ((c (rk em i)).toInt32)) := ((rf.sI (yi _)).tr (rf.sI (yi _))).tr (rf.sI (yi _))
        have er : rk em (i + 1) = rk em i + 1 := by rw [rk, c1]; rfl
        have := ih (i + 1) _ (by omega) (y2.on (r4.mo (fun k z => z.elim) (fun c g k z => by unfold Yl at z; unfold YA; omega)) rfl rfl (fun g _ => r4.i ci (by unfold Yl; omega))) (fk.tr (r2.tr r4)) ⟨?_, fun j hj => ?_⟩
        · rw [er] at this
          refine vc_34_105 tt _ _ _ _ _ _ _ _ _ ?_
          simp (disch := omega) only [qi_lt, qi_le, qi_eq, qi_nn, qi_in, qi_add, qi_l, ql_i, ql_lt, ql_le, ql_eq, ql_add, qc_lt, qc_eq, qc_ge, qc_gt, qc_le, true_and, and_true, and_self, true_or, or_true, false_or, or_false, false_and, and_false, not_true_eq_false, not_false_eq_true, Classical.not_not, true_implies, false_implies, implies_true, exists_eq_left, exists_eq_left', Option.some.injEq, reduceIte, Nat.reduceEqDiff, Nat.reduceLT, Nat.reduceLeDiff, Nat.reduceAdd, Nat.reduceSub, Nat.reduceMul, eq_self, ne_eq, and_imp, forall_const, reduceCtorEq, am_w, List.map_cons, List.map_nil, List.sum_cons, List.sum_nil, Value.category, Nat.zero_le, Nat.le_refl]
          exact this
        · simp only [am_hs, true_and, and_true, and_self, true_or, or_true, false_or, or_false, false_and, and_false, not_true_eq_false, not_false_eq_true, Classical.not_not, true_implies, false_implies, implies_true, exists_eq_left, exists_eq_left', Option.some.injEq, reduceIte, Nat.reduceEqDiff, Nat.reduceLT, Nat.reduceLeDiff, Nat.reduceAdd, Nat.reduceSub, Nat.reduceMul, eq_self, ne_eq, and_imp, forall_const, reduceCtorEq, am_w, List.map_cons, List.map_nil, List.sum_cons, List.sum_nil, Value.category, Nat.zero_le, Nat.le_refl]; exact i01
        · by_cases cj : j = i
          · subst cj
            unfold dE tC
            rw [if_neg (by rw [c1]; decide), if_neg (by rw [c1]; decide)]
            refine DE.of ?_ ?_ (fun j hj => absurd hj (Nat.not_lt_zero j)) ?_ ?_ ?_ ?_ (fun t ht => by cases ht) ?_ (fun t ht => by cases ht) ?_ ?_
            · simp only [am_hs, true_and, and_true, and_self, true_or, or_true, false_or, or_false, false_and, and_false, not_true_eq_false, not_false_eq_true, Classical.not_not, true_implies, false_implies, implies_true, exists_eq_left, exists_eq_left', Option.some.injEq, reduceIte, Nat.reduceEqDiff, Nat.reduceLT, Nat.reduceLeDiff, Nat.reduceAdd, Nat.reduceSub, Nat.reduceMul, eq_self, ne_eq, and_imp, forall_const, reduceCtorEq, am_w, List.map_cons, List.map_nil, List.sum_cons, List.sum_nil, Value.category, Nat.zero_le, Nat.le_refl]; exact v4
            · simp only [am_hs, true_and, and_true, and_self, true_or, or_true, false_or, or_false, false_and, and_false, not_true_eq_false, not_false_eq_true, Classical.not_not, true_implies, false_implies, implies_true, exists_eq_left, exists_eq_left', Option.some.injEq, reduceIte, Nat.reduceEqDiff, Nat.reduceLT, Nat.reduceLeDiff, Nat.reduceAdd, Nat.reduceSub, Nat.reduceMul, eq_self, ne_eq, and_imp, forall_const, reduceCtorEq, am_w, List.map_cons, List.map_nil, List.sum_cons, List.sum_nil, Value.category, Nat.zero_le, Nat.le_refl]; exact v1
            · simp only [am_hs, true_and, and_true, and_self, true_or, or_true, false_or, or_false, false_and, and_false, not_true_eq_false, not_false_eq_true, Classical.not_not, true_implies, false_implies, implies_true, exists_eq_left, exists_eq_left', Option.some.injEq, reduceIte, Nat.reduceEqDiff, Nat.reduceLT, Nat.reduceLeDiff, Nat.reduceAdd, Nat.reduceSub, Nat.reduceMul, eq_self, ne_eq, and_imp, forall_const, reduceCtorEq, am_w, List.map_cons, List.map_nil, List.sum_cons, List.sum_nil, Value.category, Nat.zero_le, Nat.le_refl]
            · simp only [am_hs, true_and, and_true, and_self, true_or, or_true, false_or, or_false, false_and, and_false, not_true_eq_false, not_false_eq_true, Classical.not_not, true_implies, false_implies, implies_true, exists_eq_left, exists_eq_left', Option.some.injEq, reduceIte, Nat.reduceEqDiff, Nat.reduceLT, Nat.reduceLeDiff, Nat.reduceAdd, Nat.reduceSub, Nat.reduceMul, eq_self, ne_eq, and_imp, forall_const, reduceCtorEq, am_w, List.map_cons, List.map_nil, List.sum_cons, List.sum_nil, Value.category, Nat.zero_le, Nat.le_refl]
            · simp only [am_hs, true_and, and_true, and_self, true_or, or_true, false_or, or_false, false_and, and_false, not_true_eq_false, not_false_eq_true, Classical.not_not, true_implies, false_implies, implies_true, exists_eq_left, exists_eq_left', Option.some.injEq, reduceIte, Nat.reduceEqDiff, Nat.reduceLT, Nat.reduceLeDiff, Nat.reduceAdd, Nat.reduceSub, Nat.reduceMul, eq_self, ne_eq, and_imp, forall_const, reduceCtorEq, am_w, List.map_cons, List.map_nil, List.sum_cons, List.sum_nil, Value.category, Nat.zero_le, Nat.le_refl]; exact v6
            · simp only [am_hs, true_and, and_true, and_self, true_or, or_true, false_or, or_false, false_and, and_false, not_true_eq_false, not_false_eq_true, Classical.not_not, true_implies, false_implies, implies_true, exists_eq_left, exists_eq_left', Option.some.injEq, reduceIte, Nat.reduceEqDiff, Nat.reduceLT, Nat.reduceLeDiff, Nat.reduceAdd, Nat.reduceSub, Nat.reduceMul, eq_self, ne_eq, and_imp, forall_const, reduceCtorEq, am_w, List.map_cons, List.map_nil, List.sum_cons, List.sum_nil, Value.category, Nat.zero_le, Nat.le_refl]; exact v7
            · simp only [am_hs, true_and, and_true, and_self, true_or, or_true, false_or, or_false, false_and, and_false, not_true_eq_false, not_false_eq_true, Classical.not_not, true_implies, false_implies, implies_true, exists_eq_left, exists_eq_left', Option.some.injEq, reduceIte, Nat.reduceEqDiff, Nat.reduceLT, Nat.reduceLeDiff, Nat.reduceAdd, Nat.reduceSub, Nat.reduceMul, eq_self, ne_eq, and_imp, forall_const, reduceCtorEq, am_w, List.map_cons, List.map_nil, List.sum_cons, List.sum_nil, Value.category, Nat.zero_le, Nat.le_refl]; exact v9
            · simp only [am_hs, true_and, and_true, and_self, true_or, or_true, false_or, or_false, false_and, and_false, not_true_eq_false, not_false_eq_true, Classical.not_not, true_implies, false_implies, implies_true, exists_eq_left, exists_eq_left', Option.some.injEq, reduceIte, Nat.reduceEqDiff, Nat.reduceLT, Nat.reduceLeDiff, Nat.reduceAdd, Nat.reduceSub, Nat.reduceMul, eq_self, ne_eq, and_imp, forall_const, reduceCtorEq, am_w, List.map_cons, List.map_nil, List.sum_cons, List.sum_nil, Value.category, Nat.zero_le, Nat.le_refl]; exact v12
            · simp only [am_hs, true_and, and_true, and_self, true_or, or_true, false_or, or_false, false_and, and_false, not_true_eq_false, not_false_eq_true, Classical.not_not, true_implies, false_implies, implies_true, exists_eq_left, exists_eq_left', Option.some.injEq, reduceIte, Nat.reduceEqDiff, Nat.reduceLT, Nat.reduceLeDiff, Nat.reduceAdd, Nat.reduceSub, Nat.reduceMul, eq_self, ne_eq, and_imp, forall_const, reduceCtorEq, am_w, List.map_cons, List.map_nil, List.sum_cons, List.sum_nil, Value.category, Nat.zero_le, Nat.le_refl]
          · have r5 : rf cd Xn (fun c _ k => c = 4 ∧ k = c_en (1 - wa) i) k2 (am_sI (am_sI (am_sI k2 4 5 (cd (c_en (1 - wa) i)) (Int32.ofNat (z.2.1 (rk em i)))) 4 3 (cd (c_en (1 - wa) i)) (Int32.ofNat (z.2.2 (rk em i)))) 4 11 (cd (c_en (1 - wa) i)) ((c (rk em i)).toInt32)) := ((rf.sI ⟨rfl, rfl⟩).tr (rf.sI ⟨rfl, rfl⟩)).tr (rf.sI ⟨rfl, rfl⟩)
            exact (od j (by omega)).k ci r5 (fun z => z) (fun g z => by unfold c_en at z; omega)
      · have c2 : em i = true := by cases e : em i with
          | true => rfl
          | false => exact absurd e c1
        refine ⟨_, _, ct_addEntry (k := Int32.ofNat 1) cs da.1 (by omega), fun k2 e2 => ?_, fun _ _ z => z.elim⟩
        obtain ⟨y2, r2, a2, i57, i01, od, v4, v1, v3, v5, v6, v7, v9, v11, v12⟩ := st 1 k2 e2
        have F2 := y2.f
        have ek2 : am_A k2 (cd 34) i = b01 (em i) := by rw [a2]; exact ek
        refine vc_34_38 tt _ _ _ _ _ _ _ _ _ ?_
        simp (disch := omega) only [F2, ek2, c2, b01_t, hi, qi_lt, qi_le, qi_eq, qi_nn, qi_in, qi_add, qi_l, ql_i, ql_lt, ql_le, ql_eq, ql_add, qc_lt, qc_eq, qc_ge, qc_gt, qc_le, true_and, and_true, and_self, true_or, or_true, false_or, or_false, false_and, and_false, not_true_eq_false, not_false_eq_true, Classical.not_not, true_implies, false_implies, implies_true, exists_eq_left, exists_eq_left', Option.some.injEq, reduceIte, Nat.reduceEqDiff, Nat.reduceLT, Nat.reduceLeDiff, Nat.reduceAdd, Nat.reduceSub, Nat.reduceMul, eq_self, ne_eq, and_imp, forall_const, reduceCtorEq, am_w, List.map_cons, List.map_nil, List.sum_cons, List.sum_nil, Value.category, Nat.zero_le, Nat.le_refl]
        have er : rk em (i + 1) = rk em i := by rw [rk, c2]; rfl
        have := ih (i + 1) k2 (by omega) y2 (fk.tr r2) ⟨i01, fun j hj => ?_⟩
        · rw [er] at this
          refine vc_34_105 tt _ _ _ _ _ _ _ _ _ ?_
          simp (disch := omega) only [qi_lt, qi_le, qi_eq, qi_nn, qi_in, qi_add, qi_l, ql_i, ql_lt, ql_le, ql_eq, ql_add, qc_lt, qc_eq, qc_ge, qc_gt, qc_le, true_and, and_true, and_self, true_or, or_true, false_or, or_false, false_and, and_false, not_true_eq_false, not_false_eq_true, Classical.not_not, true_implies, false_implies, implies_true, exists_eq_left, exists_eq_left', Option.some.injEq, reduceIte, Nat.reduceEqDiff, Nat.reduceLT, Nat.reduceLeDiff, Nat.reduceAdd, Nat.reduceSub, Nat.reduceMul, eq_self, ne_eq, and_imp, forall_const, reduceCtorEq, am_w, List.map_cons, List.map_nil, List.sum_cons, List.sum_nil, Value.category, Nat.zero_le, Nat.le_refl]
          exact this
        · by_cases cj : j = i
          · subst cj
            unfold dE tC
            rw [if_pos c2, if_pos c2]
            exact DE.of v4 v1 (fun j hj => absurd hj (Nat.not_lt_zero j)) v3 v5 v6 v7 (fun t ht => by cases ht) v9 (fun t ht => by cases ht) v12 v11
          · exact od j (by omega)
  refine vc_34_0 tt _ _ _ _ h _ _ ?_
  exact key N 0 h (by omega) x rf.re ⟨hz, fun j hj => absurd hj (Nat.not_lt_zero j)⟩
end RE
