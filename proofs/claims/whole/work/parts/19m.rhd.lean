/-! deps: 19l -/
/-! ===== the class reads: the head ===== -/
/-! 82 yX7_takeHead -/
theorem vc_82_0 (tt : Nat → Nat) (a0 : Nat) (a1 : Nat) (h : am_H) (Q : am_H → Prop) (Qx : String → am_H → Prop) (q :
  (am_K h a0 = 8 ∧ ∃ q1, am_R h 7 0 a0 = some q1 ∧
  (am_K h q1 = 3 ∧ ∃ (Q3 : am_H → Prop) (X3 : String → am_H → Prop), am_Ct tt 24 [.ref q1] h (am_pV Q3 X3) ∧ (∀ h2, Q3 h2 →
   am_Ev tt 82 9 [some (.ref a0), some (.ref a1), some (.int (Int32.ofNat 0))] [] h2 (am_pV Q Qx)) ∧ (∀ E4 h2, X3 E4 h2 → Qx E4 h2)))) :
  am_Ev tt 82 0 [some (.ref a0), some (.ref a1), none] [] h (am_pV Q Qx) := am_vc 8 [(9, [true, true, true]), (60, [true, true, false]), (86, [true, true, true]), (116, [true, true, true]), (126, [true, true, true])] q
theorem vc_82_9 (tt : Nat → Nat) (a0 : Nat) (a1 : Nat) (a2 : Int32) (h : am_H) (Q : am_H → Prop) (Qx : String → am_H → Prop) (q :
  ((20 < am_K h (tt 0) ∧ (am_K h (tt 0) ≤ 27 ∨ am_K h (tt 0) = 31)) ∧
  (((Int32.ofNat (am_N h (tt 0))) ≤ a2 →
   (am_K h a1 = 7 ∧ ∃ (Q2 : Int64 → am_H → Prop) (X2 : String → am_H → Prop), am_Ct tt 74 [.ref a1, .int (Int32.ofNat 8), .int (Int32.ofNat 4)] h (am_pL Q2 X2) ∧ (∀ x3 h1, Q2 x3 h1 →
    (am_K h1 a1 = 7 ∧ ∃ (Q5 : Int32 → am_H → Prop) (X5 : String → am_H → Prop), am_Ct tt 76 [.ref a1] h1 (am_pI Q5 X5) ∧ (∀ x6 h4, Q5 x6 h4 →
     (((x3).toInt32 = x6 →
      am_Ev tt 82 60 [some (.ref a0), some (.ref a1), none] [] h4 (am_pV Q Qx)) ∧
     (¬ ((x3).toInt32 = x6) →
      (am_K h4 a0 = 8 ∧ ∃ q7, am_R h4 7 0 a0 = some q7 ∧
      (am_K h4 q7 = 3 ∧ ∃ (Q9 : am_H → Prop) (X9 : String → am_H → Prop), am_Ct tt 22 [.ref q7, .int (Int32.ofNat 3), .int (Int32.ofNat 8)] h4 (am_pV Q9 X9) ∧ (∀ h8, Q9 h8 →
       am_Ev tt 82 60 [some (.ref a0), some (.ref a1), none] [] h8 (am_pV Q Qx)) ∧ (∀ E10 h8, X9 E10 h8 → Qx E10 h8)))))) ∧ (∀ E11 h4, X5 E11 h4 → Qx E11 h4))) ∧ (∀ E12 h1, X2 E12 h1 → Qx E12 h1))) ∧
  (¬ ((Int32.ofNat (am_N h (tt 0))) ≤ a2) →
   (am_K h a0 = 8 ∧ ∃ q13, am_R h 7 0 a0 = some q13 ∧
   ((am_K h (tt 0) = 21 ∨ am_K h (tt 0) = 31) ∧ vp_in a2 (am_N h (tt 0)) ∧
   (am_K h q13 = 3 ∧ ∃ (Q15 : am_H → Prop) (X15 : String → am_H → Prop), am_Ct tt 27 [.ref q13, .int (am_A h (tt 0) (a2).toNatClampNeg)] h (am_pV Q15 X15) ∧ (∀ h14, Q15 h14 →
    am_Ev tt 82 9 [some (.ref a0), some (.ref a1), some (.int (a2 + (Int32.ofNat 1)))] [] h14 (am_pV Q Qx)) ∧ (∀ E16 h14, X15 E16 h14 → Qx E16 h14)))))))) :
  am_Ev tt 82 9 [some (.ref a0), some (.ref a1), some (.int a2)] [] h (am_pV Q Qx) := am_vc 20 [(9, [true, true, true]), (60, [true, true, false]), (86, [true, true, true]), (116, [true, true, true]), (126, [true, true, true])] q
theorem vc_82_60 (tt : Nat → Nat) (a0 : Nat) (a1 : Nat) (h : am_H) (Q : am_H → Prop) (Qx : String → am_H → Prop) (q :
  (am_K h a1 = 7 ∧ ∃ (Q2 : Int64 → am_H → Prop) (X2 : String → am_H → Prop), am_Ct tt 74 [.ref a1, .int (Int32.ofNat 28), .int (Int32.ofNat 4)] h (am_pL Q2 X2) ∧ (∀ x3 h1, Q2 x3 h1 →
   (am_K h1 a1 = 7 ∧ ∃ (Q5 : Int32 → am_H → Prop) (X5 : String → am_H → Prop), am_Ct tt 75 [.ref a1] h1 (am_pI Q5 X5) ∧ (∀ x6 h4, Q5 x6 h4 →
    ((¬ x6 = (Int32.ofNat 0) →
     am_Ev tt 82 86 [some (.ref a0), some (.ref a1), some (.int (x3).toInt32)] [] h4 (am_pV Q Qx)) ∧
    (¬ (¬ x6 = (Int32.ofNat 0)) →
     (am_K h4 a0 = 8 ∧ ∃ q7, am_R h4 7 0 a0 = some q7 ∧
     (am_K h4 q7 = 3 ∧ ∃ (Q9 : am_H → Prop) (X9 : String → am_H → Prop), am_Ct tt 22 [.ref q7, .int (Int32.ofNat 5), .int (Int32.ofNat 12)] h4 (am_pV Q9 X9) ∧ (∀ h8, Q9 h8 →
      am_Ev tt 82 86 [some (.ref a0), some (.ref a1), some (.int (x3).toInt32)] [] h8 (am_pV Q Qx)) ∧ (∀ E10 h8, X9 E10 h8 → Qx E10 h8)))))) ∧ (∀ E11 h4, X5 E11 h4 → Qx E11 h4))) ∧ (∀ E12 h1, X2 E12 h1 → Qx E12 h1))) :
  am_Ev tt 82 60 [some (.ref a0), some (.ref a1), none] [] h (am_pV Q Qx) := am_vc 17 [(9, [true, true, true]), (60, [true, true, false]), (86, [true, true, true]), (116, [true, true, true]), (126, [true, true, true])] q
theorem vc_82_86 (tt : Nat → Nat) (a0 : Nat) (a1 : Nat) (a2 : Int32) (h : am_H) (Q : am_H → Prop) (Qx : String → am_H → Prop) (q :
  (am_K h a1 = 7 ∧ ∃ (Q2 : Int64 → am_H → Prop) (X2 : String → am_H → Prop), am_Ct tt 74 [.ref a1, .int (Int32.ofNat 20), .int (Int32.ofNat 8)] h (am_pL Q2 X2) ∧ (∀ x3 h1, Q2 x3 h1 →
   ((¬ (lg_cmp x3 (Int64.ofNat 0)) = (Int32.ofNat 0) →
    am_Ev tt 82 126 [some (.ref a0), some (.ref a1), some (.int a2)] [] h1 (am_pV Q Qx)) ∧
   (¬ (¬ (lg_cmp x3 (Int64.ofNat 0)) = (Int32.ofNat 0)) →
    (am_K h1 a1 = 7 ∧ ∃ (Q5 : Int64 → am_H → Prop) (X5 : String → am_H → Prop), am_Ct tt 74 [.ref a1, .int (Int32.ofNat 12), .int (Int32.ofNat 8)] h1 (am_pL Q5 X5) ∧ (∀ x6 h4, Q5 x6 h4 →
     ((¬ (lg_cmp x6 (Int64.ofNat 0)) = (Int32.ofNat 0) →
      am_Ev tt 82 116 [some (.ref a0), some (.ref a1), some (.int a2)] [] h4 (am_pV Q Qx)) ∧
     (¬ (¬ (lg_cmp x6 (Int64.ofNat 0)) = (Int32.ofNat 0)) →
      ((a2 = (Int32.ofNat 0) →
       am_Ev tt 82 126 [some (.ref a0), some (.ref a1), some (.int a2)] [] h4 (am_pV Q Qx)) ∧
      (¬ (a2 = (Int32.ofNat 0)) →
       am_Ev tt 82 116 [some (.ref a0), some (.ref a1), some (.int a2)] [] h4 (am_pV Q Qx)))))) ∧ (∀ E7 h4, X5 E7 h4 → Qx E7 h4))))) ∧ (∀ E8 h1, X2 E8 h1 → Qx E8 h1))) :
  am_Ev tt 82 86 [some (.ref a0), some (.ref a1), some (.int a2)] [] h (am_pV Q Qx) := am_vc 19 [(9, [true, true, true]), (60, [true, true, false]), (86, [true, true, true]), (116, [true, true, true]), (126, [true, true, true])] q
theorem vc_82_116 (tt : Nat → Nat) (a0 : Nat) (a1 : Nat) (a2 : Int32) (h : am_H) (Q : am_H → Prop) (Qx : String → am_H → Prop) (q :
  (am_K h a0 = 8 ∧ ∃ q1, am_R h 7 0 a0 = some q1 ∧
  (am_K h q1 = 3 ∧ ∃ (Q3 : am_H → Prop) (X3 : String → am_H → Prop), am_Ct tt 22 [.ref q1, .int (Int32.ofNat 5), .int (Int32.ofNat 12)] h (am_pV Q3 X3) ∧ (∀ h2, Q3 h2 →
   am_Ev tt 82 126 [some (.ref a0), some (.ref a1), some (.int a2)] [] h2 (am_pV Q Qx)) ∧ (∀ E4 h2, X3 E4 h2 → Qx E4 h2)))) :
  am_Ev tt 82 116 [some (.ref a0), some (.ref a1), some (.int a2)] [] h (am_pV Q Qx) := am_vc 8 [(9, [true, true, true]), (60, [true, true, false]), (86, [true, true, true]), (116, [true, true, true]), (126, [true, true, true])] q
theorem vc_82_126 (tt : Nat → Nat) (a0 : Nat) (a1 : Nat) (a2 : Int32) (h : am_H) (Q : am_H → Prop) (Qx : String → am_H → Prop) (q :
  (am_K h a1 = 7 ∧ ∃ (Q2 : Int32 → am_H → Prop) (X2 : String → am_H → Prop), am_Ct tt 77 [.ref a1] h (am_pI Q2 X2) ∧ (∀ x3 h1, Q2 x3 h1 →
   ((a2 = x3 →
    Q h1) ∧
   (¬ (a2 = x3) →
    (am_K h1 a0 = 8 ∧ ∃ q4, am_R h1 7 0 a0 = some q4 ∧
    (am_K h1 q4 = 3 ∧ ∃ (Q6 : am_H → Prop) (X6 : String → am_H → Prop), am_Ct tt 22 [.ref q4, .int (Int32.ofNat 4), .int (Int32.ofNat 28)] h1 (am_pV Q6 X6) ∧ (∀ h5, Q6 h5 →
     Q h5) ∧ (∀ E7 h5, X6 E7 h5 → Qx E7 h5)))))) ∧ (∀ E8 h1, X2 E8 h1 → Qx E8 h1))) :
  am_Ev tt 82 126 [some (.ref a0), some (.ref a1), some (.int a2)] [] h (am_pV Q Qx) := am_vc 12 [(9, [true, true, true]), (60, [true, true, false]), (86, [true, true, true]), (116, [true, true, true]), (126, [true, true, true])] q

def sgn (i : Nat) : Nat := [55, 122, 188, 175, 39, 28, 0, 4].getD i 0
theorem sgn_s : ∀ i, i < 8 → sig.getD i 0 = Int32.ofNat (sgn i) := by decide
section RH
variable {tt : Nat → Nat} {h0 h h' h'' : am_H} {cd : Nat → Nat} {bb : Nat → Nat → Nat} {wa wt n p : Nat}
theorem tk_s.k (k : tk_s tt h) (r : rf cd Xn Yc h h') : tk_s tt h' := by
  unfold tk_s
  rw [r.1, r.2.1, r.2.2.2.2.2.1 _ (fun _ z => z.elim), r.2.2.2.2.2.1 _ (fun _ z => z.elim)]
  exact k
theorem CX.tp (x : CX tt h0 cd bb wa wt n h p) (hT : am_I h0 6 1 (cd (c_tp wt)) = Int32.ofNat n) : tp_n h (cd (c_tp wt)) (cd (c_tb wt)) n := ⟨(x.cl.2.2.2.2.1 wt x.1.2.1).2, by rw [x.2.2.1.i x.ci (by unfold YA; omega)]; exact hT, x.p5.2⟩
theorem CX.rd (x : CX tt h0 cd bb wa wt n h p) : am_K h (cd 30) = 8 ∧ am_R h 7 0 (cd 30) = some (cd 31) ∧ am_R h 7 1 (cd 30) = some (cd 32) ∧ am_R h 7 2 (cd 30) = some (cd 33) := by
  obtain ⟨r1, r2, r3, r4, r5⟩ := x.cl.2.2.2.2.2.2
  exact ⟨r1, r2, r3, r4⟩
theorem ct_takeHead (x : CX tt h0 cd bb wa wt n h 0) (hX : rf cd Xn Yc h0 h) (hT : am_I h0 6 1 (cd (c_tp wt)) = Int32.ofNat n) {r : Except pe Unit} (hr : r = pHD (FF cd wt h0) n) :
    am_Ct tt 82 [.ref (cd 30), .ref (cd (c_tp wt))] h (am_pV (fun h' => r = .ok () ∧ CX tt h0 cd bb wa wt n h' 8 ∧ rf cd Xn Yc h h') (ER cd wa h0 r)) := by
  have ci := x.ci
  have f := x.f
  have g := x.rd
  have p5 := x.p5
  -- behind the signature
  have l126 : ∀ (k : am_H) (a : Int32), 32 ≤ n → CX tt h0 cd bb wa wt n k 8 → rf cd Xn Yc h k → (∃ o, lt (FF cd wt h0) 12 8 = Int64.ofNat o ∧ 32 + o ≤ n) → r = (if ¬ a = ck (FF cd wt h0) (32 + (lt (FF cd wt h0) 12 8).toNatClampNeg) (n - (32 + (lt (FF cd wt h0) 12 8).toNatClampNeg)) then .error (4, 28) else .ok ()) → am_Ev tt 82 126 [some (.ref (cd 30)), some (.ref (cd (c_tp wt))), some (.int a)] [] k (am_pV (fun h' => r = .ok () ∧ CX tt h0 cd bb wa wt n h' 8 ∧ rf cd Xn Yc h h') (ER cd wa h0 r)) := by
    intro k a hn y fk ho hr2
    obtain ⟨o, ho1, ho2⟩ := ho
    have tp := y.tp hT
    have tk := x.2.1.k (hX.tr fk)
    have F := y.f
    have G := y.rd
    have on : (Int64.ofNat o).toNatClampNeg = o := Int64.toNatClampNeg_ofNat_of_lt (by omega)
    rw [ho1, on] at hr2
    have hc := ct_headerCheck tk tp hn (o := o) (by rw [y.F]; exact ho1) ho2
    rw [y.F] at hc
    refine vc_82_126 tt _ _ _ _ _ _ ⟨tp.1.1, _, _, hc, fun v k2 e => ?_, fun _ _ z => z.elim⟩
    obtain ⟨rfl, rfl⟩ := e
    refine ⟨fun c => ?_, fun c => ?_⟩
    · rw [if_neg (fun z => z c)] at hr2
      exact ⟨hr2, y, fk⟩
    · rw [if_pos c] at hr2
      simp (disch := omega) only [G, F, qi_lt, qi_le, qi_eq, qi_nn, qi_in, qi_add, qi_l, ql_i, ql_lt, ql_le, ql_eq, ql_add, qc_lt, qc_eq, qc_ge, qc_gt, qc_le, true_and, and_true, and_self, true_or, or_true, false_or, or_false, false_and, and_false, not_true_eq_false, not_false_eq_true, Classical.not_not, true_implies, false_implies, implies_true, exists_eq_left, exists_eq_left', Option.some.injEq, reduceIte, Nat.reduceEqDiff, Nat.reduceLT, Nat.reduceLeDiff, Nat.reduceAdd, Nat.reduceSub, Nat.reduceMul, eq_self, ne_eq, and_imp, forall_const, reduceCtorEq, am_w, List.map_cons, List.map_nil, List.sum_cons, List.sum_nil, Value.category, Nat.zero_le, Nat.le_refl]
      exact ⟨_, _, y.fa hr2, fun _ z => z.elim, fun _ _ z => z⟩
  have l86 : ∀ (k : am_H), 32 ≤ n → CX tt h0 cd bb wa wt n k 8 → rf cd Xn Yc h k → (∃ o, lt (FF cd wt h0) 12 8 = Int64.ofNat o ∧ 32 + o ≤ n) → r = (if lt (FF cd wt h0) 20 8 = Int64.ofNat 0 ∧ (¬ lt (FF cd wt h0) 12 8 = Int64.ofNat 0 ∨ ¬ (lt (FF cd wt h0) 28 4).toInt32 = Int32.ofNat 0) then .error (5, 12) else if ¬ (lt (FF cd wt h0) 28 4).toInt32 = ck (FF cd wt h0) (32 + (lt (FF cd wt h0) 12 8).toNatClampNeg) (n - (32 + (lt (FF cd wt h0) 12 8).toNatClampNeg)) then .error (4, 28) else .ok ()) → am_Ev tt 82 86 [some (.ref (cd 30)), some (.ref (cd (c_tp wt))), some (.int (lt (FF cd wt h0) 28 4).toInt32)] [] k (am_pV (fun h' => r = .ok () ∧ CX tt h0 cd bb wa wt n h' 8 ∧ rf cd Xn Yc h h') (ER cd wa h0 r)) := by
    intro k hn y fk ho hr2
    have tp := y.tp hT
    have F := y.f
    have G := y.rd
    have bad : ∀ a, r = .error (5, 12) → am_Ev tt 82 116 [some (.ref (cd 30)), some (.ref (cd (c_tp wt))), some (.int a)] [] k (am_pV (fun h' => r = .ok () ∧ CX tt h0 cd bb wa wt n h' 8 ∧ rf cd Xn Yc h h') (ER cd wa h0 r)) := by
      intro a hr3
      refine vc_82_116 tt _ _ _ _ _ _ ?_
      simp (disch := omega) only [G, F, qi_lt, qi_le, qi_eq, qi_nn, qi_in, qi_add, qi_l, ql_i, ql_lt, ql_le, ql_eq, ql_add, qc_lt, qc_eq, qc_ge, qc_gt, qc_le, true_and, and_true, and_self, true_or, or_true, false_or, or_false, false_and, and_false, not_true_eq_false, not_false_eq_true, Classical.not_not, true_implies, false_implies, implies_true, exists_eq_left, exists_eq_left', Option.some.injEq, reduceIte, Nat.reduceEqDiff, Nat.reduceLT, Nat.reduceLeDiff, Nat.reduceAdd, Nat.reduceSub, Nat.reduceMul, eq_self, ne_eq, and_imp, forall_const, reduceCtorEq, am_w, List.map_cons, List.map_nil, List.sum_cons, List.sum_nil, Value.category, Nat.zero_le, Nat.le_refl]
      exact ⟨_, _, y.fa hr3, fun _ z => z.elim, fun _ _ z => z⟩
    have c20 := ct_littleAt (tt := tt) tp (m := 8) (p := 20) (by omega) (by omega)
    have c12 := ct_littleAt (tt := tt) tp (m := 8) (p := 12) (by omega) (by omega)
    rw [y.F] at c20 c12
    refine vc_82_86 tt _ _ _ _ _ _ ⟨tp.1.1, _, _, c20, fun v k2 e => ?_, fun _ _ z => z.elim⟩
    obtain ⟨rfl, rfl⟩ := e
    simp (disch := omega) only [qi_lt, qi_le, qi_eq, qi_nn, qi_in, qi_add, qi_l, ql_i, ql_lt, ql_le, ql_eq, ql_add, qc_lt, qc_eq, qc_ge, qc_gt, qc_le, true_and, and_true, and_self, true_or, or_true, false_or, or_false, false_and, and_false, not_true_eq_false, not_false_eq_true, Classical.not_not, true_implies, false_implies, implies_true, exists_eq_left, exists_eq_left', Option.some.injEq, reduceIte, Nat.reduceEqDiff, Nat.reduceLT, Nat.reduceLeDiff, Nat.reduceAdd, Nat.reduceSub, Nat.reduceMul, eq_self, ne_eq, and_imp, forall_const, reduceCtorEq, am_w, List.map_cons, List.map_nil, List.sum_cons, List.sum_nil, Value.category, Nat.zero_le, Nat.le_refl]
    refine ⟨fun c => ?_, fun c => ⟨tp.1.1, _, _, c12, fun v k2 e => ?_, fun _ _ z => z.elim⟩⟩
    · rw [if_neg (fun z => c z.1)] at hr2
      exact l126 k2 _ hn y fk ho hr2
    · obtain ⟨rfl, rfl⟩ := e
      refine ⟨fun c2 => ?_, fun c2 => ⟨fun c3 => ?_, fun c3 => ?_⟩⟩
      · rw [if_pos ⟨c, Or.inl c2⟩] at hr2
        exact bad _ hr2
      · rw [if_neg (fun z => z.2.elim (fun w => w c2) (fun w => w c3))] at hr2
        exact l126 k2 _ hn y fk ho hr2
      · rw [if_pos ⟨c, Or.inr c3⟩] at hr2
        exact bad _ hr2
  have l60 : ∀ (k : am_H), 32 ≤ n → CX tt h0 cd bb wa wt n k 8 → rf cd Xn Yc h k → r = (if toldB (FF cd wt h0) n = false then .error (5, 12) else if lt (FF cd wt h0) 20 8 = Int64.ofNat 0 ∧ (¬ lt (FF cd wt h0) 12 8 = Int64.ofNat 0 ∨ ¬ (lt (FF cd wt h0) 28 4).toInt32 = Int32.ofNat 0) then .error (5, 12) else if ¬ (lt (FF cd wt h0) 28 4).toInt32 = ck (FF cd wt h0) (32 + (lt (FF cd wt h0) 12 8).toNatClampNeg) (n - (32 + (lt (FF cd wt h0) 12 8).toNatClampNeg)) then .error (4, 28) else .ok ()) → am_Ev tt 82 60 [some (.ref (cd 30)), some (.ref (cd (c_tp wt))), none] [] k (am_pV (fun h' => r = .ok () ∧ CX tt h0 cd bb wa wt n h' 8 ∧ rf cd Xn Yc h h') (ER cd wa h0 r)) := by
    intro k hn y fk hr2
    have tp := y.tp hT
    have F := y.f
    have G := y.rd
    have c28 := ct_littleAt (tt := tt) tp (m := 4) (p := 28) (by omega) (by omega)
    have ct := ct_hasTold (tt := tt) tp hn
    rw [y.F] at c28 ct
    refine vc_82_60 tt _ _ _ _ _ ⟨tp.1.1, _, _, c28, fun v k2 e => ?_, fun _ _ z => z.elim⟩
    obtain ⟨rfl, rfl⟩ := e
    refine ⟨tp.1.1, _, _, ct, fun v k3 e => ?_, fun _ _ z => z.elim⟩
    obtain ⟨rfl, e⟩ := e
    rcases e with ⟨rfl, e⟩ | ⟨rfl, e⟩
    · rw [if_neg (by rw [toldB_t.2 e]; decide)] at hr2
      obtain ⟨o, zz, eo, ez, ln⟩ := told_o e p5.2
      refine ⟨fun _ => l86 k3 hn y fk ⟨o, eo, by omega⟩ hr2, fun z => absurd (by decide) z⟩
    · rw [if_pos (by cases w : toldB (FF cd wt h0) n with
        | false => rfl
        | true => exact absurd (toldB_t.1 w) e)] at hr2
      refine ⟨fun z => absurd rfl z, fun _ => ?_⟩
      simp (disch := omega) only [G, F, qi_lt, qi_le, qi_eq, qi_nn, qi_in, qi_add, qi_l, ql_i, ql_lt, ql_le, ql_eq, ql_add, qc_lt, qc_eq, qc_ge, qc_gt, qc_le, true_and, and_true, and_self, true_or, or_true, false_or, or_false, false_and, and_false, not_true_eq_false, not_false_eq_true, Classical.not_not, true_implies, false_implies, implies_true, exists_eq_left, exists_eq_left', Option.some.injEq, reduceIte, Nat.reduceEqDiff, Nat.reduceLT, Nat.reduceLeDiff, Nat.reduceAdd, Nat.reduceSub, Nat.reduceMul, eq_self, ne_eq, and_imp, forall_const, reduceCtorEq, am_w, List.map_cons, List.map_nil, List.sum_cons, List.sum_nil, Value.category, Nat.zero_le, Nat.le_refl]
      exact ⟨_, _, y.fa hr2, fun _ z => z.elim, fun _ _ z => z⟩
  have l9 : 32 ≤ n → ∀ (d i : Nat) (k : am_H), d + i = 8 → CX tt h0 cd bb wa wt n k i → rf cd Xn Yc h k → fX (FF cd wt h0) 8 0 = fX (FF cd wt h0) d i → am_Ev tt 82 9 [some (.ref (cd 30)), some (.ref (cd (c_tp wt))), some (.int (Int32.ofNat i))] [] k (am_pV (fun h' => r = .ok () ∧ CX tt h0 cd bb wa wt n h' 8 ∧ rf cd Xn Yc h h') (ER cd wa h0 r)) := by
    intro hn d
    unfold pHD at hr
    rw [if_neg (by omega)] at hr
    induction d with
    | zero =>
      intro i k e y fk hx
      have ei : i = 8 := by omega
      subst ei
      rw [hx, fX] at hr
      have hr2 : r = (if ¬ (lt (FF cd wt h0) 8 4).toInt32 = ck (FF cd wt h0) 12 20 then .error (3, 8) else _) := hr
      have tp := y.tp hT
      have tk := x.2.1.k (hX.tr fk)
      have F := y.f
      have G := y.rd
      have c8 := ct_littleAt (tt := tt) tp (m := 4) (p := 8) (by omega) (by omega)
      have ch := ct_headCheck tk tp
      rw [y.F] at c8 ch
      obtain ⟨-, -, -, t4, t5, -⟩ := tk
      refine vc_82_9 tt _ _ _ _ _ _ ?_
      simp (disch := omega) only [t4, t5, tp.1.1, qi_lt, qi_le, qi_eq, qi_nn, qi_in, qi_add, qi_l, ql_i, ql_lt, ql_le, ql_eq, ql_add, qc_lt, qc_eq, qc_ge, qc_gt, qc_le, true_and, and_true, and_self, true_or, or_true, false_or, or_false, false_and, and_false, not_true_eq_false, not_false_eq_true, Classical.not_not, true_implies, false_implies, implies_true, exists_eq_left, exists_eq_left', Option.some.injEq, reduceIte, Nat.reduceEqDiff, Nat.reduceLT, Nat.reduceLeDiff, Nat.reduceAdd, Nat.reduceSub, Nat.reduceMul, eq_self, ne_eq, and_imp, forall_const, reduceCtorEq, am_w, List.map_cons, List.map_nil, List.sum_cons, List.sum_nil, Value.category, Nat.zero_le, Nat.le_refl]
      refine ⟨_, _, c8, fun v k2 e => ?_, fun _ _ z => z.elim⟩
      obtain ⟨rfl, rfl⟩ := e
      refine ⟨tp.1.1, _, _, ch, fun v k3 e => ?_, fun _ _ z => z.elim⟩
      obtain ⟨rfl, rfl⟩ := e
      refine ⟨fun c => ?_, fun c => ?_⟩
      · rw [if_neg (fun z => z c)] at hr2
        exact l60 k3 hn y fk hr2
      · rw [if_pos c] at hr2
        simp (disch := omega) only [G, F, qi_lt, qi_le, qi_eq, qi_nn, qi_in, qi_add, qi_l, ql_i, ql_lt, ql_le, ql_eq, ql_add, qc_lt, qc_eq, qc_ge, qc_gt, qc_le, true_and, and_true, and_self, true_or, or_true, false_or, or_false, false_and, and_false, not_true_eq_false, not_false_eq_true, Classical.not_not, true_implies, false_implies, implies_true, exists_eq_left, exists_eq_left', Option.some.injEq, reduceIte, Nat.reduceEqDiff, Nat.reduceLT, Nat.reduceLeDiff, Nat.reduceAdd, Nat.reduceSub, Nat.reduceMul, eq_self, ne_eq, and_imp, forall_const, reduceCtorEq, am_w, List.map_cons, List.map_nil, List.sum_cons, List.sum_nil, Value.category, Nat.zero_le, Nat.le_refl]
        exact ⟨_, _, y.fa hr2, fun _ z => z.elim, fun _ _ z => z⟩
    | succ d ih =>
      intro i k e y fk hx
      have i8 : i < 8 := by omega
      have q8 : ¬ 8 ≤ i := by omega
      have tk := x.2.1.k (hX.tr fk)
      have F := y.f
      have G := y.rd
      obtain ⟨-, -, -, t4, t5, t6⟩ := tk
      have e6 := (t6 i i8).trans (sgn_s i i8)
      have hx : fX (FF cd wt h0) 8 0 = if FF cd wt h0 i &&& Int32.ofNat 255 = sig.getD i 0 then fX (FF cd wt h0) d (i + 1) else some i := hx
      have bad : ¬ FF cd wt h0 i &&& Int32.ofNat 255 = Int32.ofNat (sgn i) → r = .error (2, i) := by
        intro c
        rw [if_neg (by rw [sgn_s i i8]; exact c)] at hx
        rw [hx] at hr
        exact hr
      have hr2 : r = bd (tX (FF cd wt h0) n i (sgn i)) (fun _ _ => if FF cd wt h0 i &&& Int32.ofNat 255 = Int32.ofNat (sgn i) then r else .error (99, 0)) := by
        unfold tX
        rw [if_pos (by omega)]
        by_cases c : FF cd wt h0 i &&& Int32.ofNat 255 = Int32.ofNat (sgn i)
        · rw [if_pos c]
          show r = if _ then r else _
          rw [if_pos c]
        · rw [if_neg c]
          exact bad c
      refine vc_82_9 tt _ _ _ _ _ _ ?_
      simp (disch := omega) only [t4, t5, G, e6, i8, q8, qi_lt, qi_le, qi_eq, qi_nn, qi_in, qi_add, qi_l, ql_i, ql_lt, ql_le, ql_eq, ql_add, qc_lt, qc_eq, qc_ge, qc_gt, qc_le, true_and, and_true, and_self, true_or, or_true, false_or, or_false, false_and, and_false, not_true_eq_false, not_false_eq_true, Classical.not_not, true_implies, false_implies, implies_true, exists_eq_left, exists_eq_left', Option.some.injEq, reduceIte, Nat.reduceEqDiff, Nat.reduceLT, Nat.reduceLeDiff, Nat.reduceAdd, Nat.reduceSub, Nat.reduceMul, eq_self, ne_eq, and_imp, forall_const, reduceCtorEq, am_w, List.map_cons, List.map_nil, List.sum_cons, List.sum_nil, Value.category, Nat.zero_le, Nat.le_refl]
      have F1 := F.1
      simp (disch := omega) only [F1, true_and, and_true, and_self, true_or, or_true, false_or, or_false, false_and, and_false, not_true_eq_false, not_false_eq_true, Classical.not_not, true_implies, false_implies, implies_true, exists_eq_left, exists_eq_left', Option.some.injEq, reduceIte, Nat.reduceEqDiff, Nat.reduceLT, Nat.reduceLeDiff, Nat.reduceAdd, Nat.reduceSub, Nat.reduceMul, eq_self, ne_eq, and_imp, forall_const, reduceCtorEq, am_w, List.map_cons, List.map_nil, List.sum_cons, List.sum_nil, Value.category, Nat.zero_le, Nat.le_refl]
      refine (y.x hr2 fun h2 e2 x2 r2 => ?_).2
      by_cases c : FF cd wt h0 i &&& Int32.ofNat 255 = Int32.ofNat (sgn i)
      · rw [if_pos (by rw [sgn_s i i8]; exact c)] at hx
        exact ih (i + 1) h2 (by omega) x2 (by rw [e2]; exact fk.tr (rf.mv ⟨rfl, rfl, rfl⟩)) hx
      · rw [if_neg c] at r2
        have := bad c
        rw [r2] at this
        cases this
  refine vc_82_0 tt _ _ h _ _ ?_
  simp (disch := omega) only [g, f, qi_lt, qi_le, qi_eq, qi_nn, qi_in, qi_add, qi_l, ql_i, ql_lt, ql_le, ql_eq, ql_add, qc_lt, qc_eq, qc_ge, qc_gt, qc_le, true_and, and_true, and_self, true_or, or_true, false_or, or_false, false_and, and_false, not_true_eq_false, not_false_eq_true, Classical.not_not, true_implies, false_implies, implies_true, exists_eq_left, exists_eq_left', Option.some.injEq, reduceIte, Nat.reduceEqDiff, Nat.reduceLT, Nat.reduceLeDiff, Nat.reduceAdd, Nat.reduceSub, Nat.reduceMul, eq_self, ne_eq, and_imp, forall_const, reduceCtorEq, am_w, List.map_cons, List.map_nil, List.sum_cons, List.sum_nil, Value.category, Nat.zero_le, Nat.le_refl]
  refine ⟨_, _, ct_needHead x.2.2.2.2.2, fun k e => ?_, fun E k e => ?_⟩
  · obtain ⟨hn, rfl⟩ := e
    exact l9 hn 8 0 k (by omega) x rf.re rfl
  · obtain ⟨hn, e1, e2⟩ := e
    refine x.er (r0 := r) (fun e he => he) ⟨e1, 1, n, 0, ?_, e2⟩
    rw [hr, pHD, if_pos hn]
end RH
