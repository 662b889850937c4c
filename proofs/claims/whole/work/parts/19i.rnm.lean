/-! deps: 19h -/
/-! ===== the class reads: marks, names ===== -/
/-! 38 yX3_takeName -/
theorem vc_38_0 (tt : Nat → Nat) (a0 : Nat) (a1 : Nat) (h : am_H) (Q : am_H → Prop) (Qx : String → am_H → Prop) (q :
  (am_K h a0 = 4 ∧ ∃ q1, am_R h 3 0 a0 = some q1 ∧
  (am_K h q1 = 3 ∧
  (am_K h a0 = 4 ∧ ∃ q2, am_R h 3 0 a0 = some q2 ∧
  (am_K h q2 = 3 ∧ ∃ (Q4 : Int64 → am_H → Prop) (X4 : String → am_H → Prop), am_Ct tt 28 [.ref q2, .int (Int32.ofNat 2)] h (am_pL Q4 X4) ∧ (∀ x5 h3, Q4 x5 h3 →
   am_Ev tt 38 20 [some (.ref a0), some (.ref a1), some (.int (am_I h 2 2 q1)), some (.long x5), none, some (.int (Int32.ofNat 0))] [] h3 (am_pV Q Qx)) ∧ (∀ E6 h3, X4 E6 h3 → Qx E6 h3)))))) :
  am_Ev tt 38 0 [some (.ref a0), some (.ref a1), none, none, none, none] [] h (am_pV Q Qx) := am_vc 14 [(20, [true, true, true, true, false, true]), (55, [true, true, true, true, false, false]), (68, [true, false, true, false, false, false])] q
theorem vc_38_20 (tt : Nat → Nat) (a0 : Nat) (a1 : Nat) (a2 : Int32) (a3 : Int64) (a5 : Int32) (h : am_H) (Q : am_H → Prop) (Qx : String → am_H → Prop) (q :
  (((Int32.ofNat 20) ≤ a5 →
   am_Ev tt 38 55 [some (.ref a0), some (.ref a1), some (.int a2), some (.long a3), none, none] [] h (am_pV Q Qx)) ∧
  (¬ ((Int32.ofNat 20) ≤ a5) →
   (((lg_cmp a3 (Int64.ofNat 0)) = (Int32.ofNat 0) →
    am_Ev tt 38 55 [some (.ref a0), some (.ref a1), some (.int a2), some (.long a3), none, none] [] h (am_pV Q Qx)) ∧
   (¬ ((lg_cmp a3 (Int64.ofNat 0)) = (Int32.ofNat 0)) →
    (am_K h a1 = 5 ∧ ∃ (Q2 : am_H → Prop) (X2 : String → am_H → Prop), am_Ct tt 44 [.ref a1, .int (((a3).toInt32).toUInt32 % 65536).toInt32] h (am_pV Q2 X2) ∧ (∀ h1, Q2 h1 →
     (am_K h1 a0 = 4 ∧ ∃ q3, am_R h1 3 0 a0 = some q3 ∧
     (am_K h1 q3 = 3 ∧ ∃ (Q5 : Int64 → am_H → Prop) (X5 : String → am_H → Prop), am_Ct tt 28 [.ref q3, .int (Int32.ofNat 2)] h1 (am_pL Q5 X5) ∧ (∀ x6 h4, Q5 x6 h4 →
      am_Ev tt 38 20 [some (.ref a0), some (.ref a1), some (.int a2), some (.long x6), none, some (.int (a5 + (Int32.ofNat 1)))] [] h4 (am_pV Q Qx)) ∧ (∀ E7 h4, X5 E7 h4 → Qx E7 h4)))) ∧ (∀ E8 h1, X2 E8 h1 → Qx E8 h1))))))) :
  am_Ev tt 38 20 [some (.ref a0), some (.ref a1), some (.int a2), some (.long a3), none, some (.int a5)] [] h (am_pV Q Qx) := am_vc 22 [(20, [true, true, true, true, false, true]), (55, [true, true, true, true, false, false]), (68, [true, false, true, false, false, false])] q
theorem vc_38_55 (tt : Nat → Nat) (a0 : Nat) (a1 : Nat) (a2 : Int32) (a3 : Int64) (h : am_H) (Q : am_H → Prop) (Qx : String → am_H → Prop) (q :
  ((¬ (lg_cmp a3 (Int64.ofNat 0)) = (Int32.ofNat 0) →
   am_Ev tt 38 68 [some (.ref a0), none, some (.int a2), none, none, none] [] h (am_pV Q Qx)) ∧
  (¬ (¬ (lg_cmp a3 (Int64.ofNat 0)) = (Int32.ofNat 0)) →
   (am_K h a1 = 5 ∧
   ((¬ (am_I h 4 1 a1) = (Int32.ofNat 0) →
    Q h) ∧
   (¬ (¬ (am_I h 4 1 a1) = (Int32.ofNat 0)) →
    am_Ev tt 38 68 [some (.ref a0), none, some (.int a2), none, none, none] [] h (am_pV Q Qx))))))) :
  am_Ev tt 38 55 [some (.ref a0), some (.ref a1), some (.int a2), some (.long a3), none, none] [] h (am_pV Q Qx) := am_vc 10 [(20, [true, true, true, true, false, true]), (55, [true, true, true, true, false, false]), (68, [true, false, true, false, false, false])] q
theorem vc_38_68 (tt : Nat → Nat) (a0 : Nat) (a2 : Int32) (h : am_H) (Q : am_H → Prop) (Qx : String → am_H → Prop) (q :
  (am_K h a0 = 4 ∧ ∃ q1, am_R h 3 0 a0 = some q1 ∧
  (am_K h q1 = 3 ∧ ∃ (Q3 : am_H → Prop) (X3 : String → am_H → Prop), am_Ct tt 22 [.ref q1, .int (Int32.ofNat 8), .int a2] h (am_pV Q3 X3) ∧ (∀ h2, Q3 h2 →
   Q h2) ∧ (∀ E4 h2, X3 E4 h2 → Qx E4 h2)))) :
  am_Ev tt 38 68 [some (.ref a0), none, some (.int a2), none, none, none] [] h (am_pV Q Qx) := am_vc 8 [(20, [true, true, true, true, false, true]), (55, [true, true, true, true, false, false]), (68, [true, false, true, false, false, false])] q

/-! 37 yX3_takeNames -/
theorem vc_37_0 (tt : Nat → Nat) (a0 : Nat) (a1 : Nat) (h : am_H) (Q : am_H → Prop) (Qx : String → am_H → Prop) (q :
  (am_K h a0 = 4 ∧ ∃ q1, am_R h 3 0 a0 = some q1 ∧
  (am_K h q1 = 3 ∧
  (am_K h a0 = 4 ∧ ∃ q2, am_R h 3 0 a0 = some q2 ∧
  (am_K h q2 = 3 ∧ ∃ (Q4 : Int64 → am_H → Prop) (X4 : String → am_H → Prop), am_Ct tt 29 [.ref q2, .long (Int64.ofNat 0), .long (Int64.ofNat 9223372036854775807)] h (am_pL Q4 X4) ∧ (∀ x5 h3, Q4 x5 h3 →
   (am_K h3 a0 = 4 ∧ ∃ q6, am_R h3 3 0 a0 = some q6 ∧
   (am_K h3 q6 = 3 ∧
   (am_K h3 a0 = 4 ∧ ∃ q7, am_R h3 3 0 a0 = some q7 ∧
   (am_K h3 q7 = 3 ∧ ∃ (Q9 : am_H → Prop) (X9 : String → am_H → Prop), am_Ct tt 27 [.ref q7, .int (Int32.ofNat 0)] h3 (am_pV Q9 X9) ∧ (∀ h8, Q9 h8 →
    am_Ev tt 37 40 [some (.ref a0), some (.ref a1), some (.int (am_I h 2 2 q1)), some (.long x5), none, some (.int (am_I h3 2 2 q6)), some (.int (Int32.ofNat 0))] [] h8 (am_pV Q Qx)) ∧ (∀ E10 h8, X9 E10 h8 → Qx E10 h8)))))) ∧ (∀ E11 h3, X4 E11 h3 → Qx E11 h3)))))) :
  am_Ev tt 37 0 [some (.ref a0), some (.ref a1), none, none, none, none, none] [] h (am_pV Q Qx) := am_vc 23 [(40, [true, true, true, true, false, true, true])] q
theorem vc_37_40 (tt : Nat → Nat) (a0 : Nat) (a1 : Nat) (a2 : Int32) (a3 : Int64) (a5 : Int32) (a6 : Int32) (h : am_H) (Q : am_H → Prop) (Qx : String → am_H → Prop) (q :
  (am_K h a1 = 1 ∧
  (((am_I h 0 1 a1) ≤ a6 →
   (am_K h a0 = 4 ∧ ∃ q1, am_R h 3 0 a0 = some q1 ∧
   (am_K h q1 = 3 ∧
   (((lg_cmp (((am_I h 2 2 q1) - a5)).toInt64 a3) = (Int32.ofNat 0) →
    Q h) ∧
   (¬ ((lg_cmp (((am_I h 2 2 q1) - a5)).toInt64 a3) = (Int32.ofNat 0)) →
    (am_K h a0 = 4 ∧ ∃ q2, am_R h 3 0 a0 = some q2 ∧
    (am_K h q2 = 3 ∧ ∃ (Q4 : am_H → Prop) (X4 : String → am_H → Prop), am_Ct tt 22 [.ref q2, .int (Int32.ofNat 5), .int a2] h (am_pV Q4 X4) ∧ (∀ h3, Q4 h3 →
     Q h3) ∧ (∀ E5 h3, X4 E5 h3 → Qx E5 h3)))))))) ∧
  (¬ ((am_I h 0 1 a1) ≤ a6) →
   (am_K h a1 = 1 ∧ ∃ q6, am_R h 0 0 a1 = some q6 ∧
   ((am_K h q6 = 26 ∨ am_K h q6 = 27) ∧ vp_in a6 (am_N h q6) ∧ ∃ q7, am_C h q6 (a6).toNatClampNeg = some q7 ∧
   (am_K h a0 = 4 ∧ ∃ (Q9 : am_H → Prop) (X9 : String → am_H → Prop), am_Ct tt 38 [.ref a0, .ref q7] h (am_pV Q9 X9) ∧ (∀ h8, Q9 h8 →
    am_Ev tt 37 40 [some (.ref a0), some (.ref a1), some (.int a2), some (.long a3), none, some (.int a5), some (.int (a6 + (Int32.ofNat 1)))] [] h8 (am_pV Q Qx)) ∧ (∀ E10 h8, X9 E10 h8 → Qx E10 h8)))))))) :
  am_Ev tt 37 40 [some (.ref a0), some (.ref a1), some (.int a2), some (.long a3), none, some (.int a5), some (.int a6)] [] h (am_pV Q Qx) := am_vc 21 [(40, [true, true, true, true, false, true, true])] q

theorem dE_c {x : FI} {em fl an : Nat → Bool} {un un' : Nat → Nat} {nm nm' : Nat → Nat → Int32} {tm tm' : Nat → Option Int64} {av av' : Nat → Option Int32} {i : Nat} (h1 : un i = un' i) (h2 : nm i = nm' i) (h3 : tm i = tm' i) (h4 : av i = av' i) : dE x em fl an un nm tm av i = dE x em fl an un' nm' tm' av' i := by
  unfold dE
  rw [h1, h2, h3, h4]
theorem ch_lt {F : Fn} {p : Nat} : ch (lt F p 2).toInt32 = (lt F p 2).toInt32 := by
  apply Int32.toBitVec_inj.1
  apply BitVec.eq_of_getLsbD_eq
  intro i hi
  unfold ch
  simp only [UInt32.toBitVec_toInt32, UInt16.toBitVec_toUInt32, UInt32.toBitVec_toUInt16, Int32.toBitVec_toUInt32, Int64.toBitVec_toInt32, BitVec.getLsbD_setWidth]
  rw [BitVec.getLsbD_signExtend, if_pos (by omega), lt_bit (by omega)]
  by_cases c : i < 16
  · simp [c, hi]
  · simp [c]
theorem tL_in {F : Fn} {n p k : Nat} (h : p + k ≤ n) : tL F n p k = .ok (lt F p k, p + k) := by rw [tL, if_pos h]
theorem lU_b {F : Fn} {n st d k p : Nat} : ∃ K, lU F n st d k p = bd (tL F n p 2) K := by
  cases d with
  | zero => exact ⟨_, rfl⟩
  | succ d => exact ⟨_, rfl⟩
section RE2
variable {tt : Nat → Nat} {h0 h h' h'' : am_H} {cd : Nat → Nat} {bb : Nat → Nat → Nat} {wa wt n p : Nat}
/-- an entry of the draft, its fields -/
def DF (cd : Nat → Nat) (wa : Nat) (h : am_H) (i : Nat) (kd un : Nat) (nm : Nat → Int32) (sz hm : Nat) (an : Bool) (tm : Option Int64) (av : Option Int32) (t : Int32) : Prop := am_I h 4 4 (cd (c_en (1 - wa) i)) = Int32.ofNat kd ∧ am_I h 4 1 (cd (c_en (1 - wa) i)) = Int32.ofNat un ∧ (∀ j, j < un → am_A h (cd (c_un (1 - wa) i)) j = nm j) ∧ am_I h 4 3 (cd (c_en (1 - wa) i)) = Int32.ofNat sz ∧ am_I h 4 5 (cd (c_en (1 - wa) i)) = Int32.ofNat hm ∧ am_I h 4 6 (cd (c_en (1 - wa) i)) = b01 an ∧ am_I h 4 7 (cd (c_en (1 - wa) i)) = b01 tm.isSome ∧ (∀ t, tm = some t → am_J h 4 8 (cd (c_en (1 - wa) i)) = t) ∧ am_I h 4 9 (cd (c_en (1 - wa) i)) = b01 av.isSome ∧ (∀ t, av = some t → am_I h 4 10 (cd (c_en (1 - wa) i)) = t) ∧ am_I h 4 12 (cd (c_en (1 - wa) i)) = b01 false ∧ am_I h 4 11 (cd (c_en (1 - wa) i)) = t
theorem DE.op {x : FI} {em fl an : Nat → Bool} {un : Nat → Nat} {nm : Nat → Nat → Int32} {tm : Nat → Option Int64} {av : Nat → Option Int32} {i : Nat} {t : Int32} : DE cd wa h i (dE x em fl an un nm tm av i) t ↔ DF cd wa h i (if em i = true then (if fl (i - rk em i) = true then 0 else 1) else 0) (un i) (nm i) (if em i = true then 0 else x.2.2 (rk em i)) (if em i = true then 0 else x.2.1 (rk em i)) (if em i = true then an (i - rk em i) else false) (tm i) (av i) t := by
  unfold dE
  by_cases c : em i = true
  · simp only [if_pos c]
    exact ⟨fun ⟨⟨v4, v1, vn, v3, v5, v6, v7, v8, v9, v10, v12, _⟩, v11⟩ => ⟨v4, v1, vn, v3, v5, v6, v7, v8, v9, v10, v12, v11⟩, fun ⟨v4, v1, vn, v3, v5, v6, v7, v8, v9, v10, v12, v11⟩ => DE.of v4 v1 vn v3 v5 v6 v7 v8 v9 v10 v12 v11⟩
  · simp only [if_neg c]
    exact ⟨fun ⟨⟨v4, v1, vn, v3, v5, v6, v7, v8, v9, v10, v12, _⟩, v11⟩ => ⟨v4, v1, vn, v3, v5, v6, v7, v8, v9, v10, v12, v11⟩, fun ⟨v4, v1, vn, v3, v5, v6, v7, v8, v9, v10, v12, v11⟩ => DE.of v4 v1 vn v3 v5 v6 v7 v8 v9 v10 v12 v11⟩
def Ym (wa c g k : Nat) : Prop := (c = 4 ∧ (g = 4 ∨ g = 6) ∧ 110 + 500 * (1 - wa) ≤ k ∧ k ≤ 157 + 500 * (1 - wa))
theorem ct_markEmpties (x : CX tt h0 cd bb wa wt n h p) {N : Nat} (h24 : N ≤ 24) {z : FI} {em fl an g fl' an' : Nat → Bool} {un : Nat → Nat} {nm : Nat → Nat → Int32} {tm : Nat → Option Int64} {av : Nat → Option Int32} {T : Nat → Int32} (da : DA cd wa h N (dE z em fl an un nm tm av) T) (hs : ∀ i, i < N → em i = false → 1 ≤ z.2.2 (rk em i) ∧ z.2.2 (rk em i) ≤ 2400) (hg : ∀ i, i < N → em i = true → am_A h (cd 34) (i - rk em i) = b01 (g (i - rk em i))) {tg : Nat} (ht : tg = 15 ∧ fl' = g ∧ an' = an ∨ tg = 16 ∧ fl' = fl ∧ an' = g) :
    am_Ct tt 36 [.ref (cd 33), .ref (cd (c_ar (1 - wa))), .int (Int32.ofNat tg)] h (am_pV (fun h' => CX tt h0 cd bb wa wt n h' p ∧ rf cd Xn (Ym wa) h h' ∧ DA cd wa h' N (dE z em fl' an' un nm tm av) T) no_x) := by
  have ci := x.ci
  have key : ∀ (d i : Nat) (k : am_H), d + i = N → CX tt h0 cd bb wa wt n k p → rf cd Xn (Ym wa) h k → (∀ j, j < i → DE cd wa k j (dE z em fl' an' un nm tm av j) (T j)) → (∀ j, i ≤ j → j < N → DE cd wa k j (dE z em fl an un nm tm av j) (T j)) →
      am_Ev tt 36 5 [some (.ref (cd 33)), some (.ref (cd (c_ar (1 - wa)))), some (.int (Int32.ofNat tg)), some (.int (Int32.ofNat (i - rk em i))), some (.int (Int32.ofNat i)), none] [] k (am_pV (fun h' => CX tt h0 cd bb wa wt n h' p ∧ rf cd Xn (Ym wa) h h' ∧ DA cd wa h' N (dE z em fl' an' un nm tm av) T) no_x) := by
    intro d
    induction d with
    | zero =>
      intro i k e y fk h1 h2
      have ei : i = N := by omega
      rw [ei] at h1 ⊢
      have G := (y.cl.2.2.2.2.1 (1 - wa) (by omega)).1.1
      have iN : am_I k 0 1 (cd (c_ar (1 - wa))) = Int32.ofNat N := by rw [fk.i ci (by unfold Ym; omega)]; exact da.1
      refine vc_36_5 tt _ _ _ _ _ _ _ _ ?_
      simp (disch := omega) only [G, iN, qi_lt, qi_le, qi_eq, qi_nn, qi_in, qi_add, qi_l, ql_i, ql_lt, ql_le, ql_eq, ql_add, qc_lt, qc_eq, qc_ge, qc_gt, qc_le, true_and, and_true, and_self, true_or, or_true, false_or, or_false, false_and, and_false, not_true_eq_false, not_false_eq_true, Classical.not_not, true_implies, false_implies, implies_true, exists_eq_left, exists_eq_left', Option.some.injEq, reduceIte, Nat.reduceEqDiff, Nat.reduceLT, Nat.reduceLeDiff, Nat.reduceAdd, Nat.reduceSub, Nat.reduceMul, eq_self, ne_eq, and_imp, forall_const, reduceCtorEq, am_w, List.map_cons, List.map_nil, List.sum_cons, List.sum_nil, Value.category, Nat.zero_le, Nat.le_refl]
      exact ⟨y, fk, iN, h1⟩
    | succ d ih =>
      intro i k e y fk h1 h2
      have F := y.f
      have hi : i < 24 := by omega
      have hiN : i < N := by omega
      have G := y.en hi
      have rl := rk_le em i
      have iN : am_I k 0 1 (cd (c_ar (1 - wa))) = Int32.ofNat N := by rw [fk.i ci (by unfold Ym; omega)]; exact da.1
      have q1 : ¬ N ≤ i := by omega
      have hk : i - rk em i < 24 := by omega
      have q2 : ¬ 24 ≤ i - rk em i := by omega
      obtain ⟨v4, v1, vn, v3, v5, v6, v7, v8, v9, v10, v12, v11⟩ := DE.op.1 (h2 i (Nat.le_refl i) hiN)
      refine vc_36_5 tt _ _ _ _ _ _ _ _ ?_
      simp (disch := omega) only [F, G, iN, q1, q2, hi, qi_lt, qi_le, qi_eq, qi_nn, qi_in, qi_add, qi_l, ql_i, ql_lt, ql_le, ql_eq, ql_add, qc_lt, qc_eq, qc_ge, qc_gt, qc_le, true_and, and_true, and_self, true_or, or_true, false_or, or_false, false_and, and_false, not_true_eq_false, not_false_eq_true, Classical.not_not, true_implies, false_implies, implies_true, exists_eq_left, exists_eq_left', Option.some.injEq, reduceIte, Nat.reduceEqDiff, Nat.reduceLT, Nat.reduceLeDiff, Nat.reduceAdd, Nat.reduceSub, Nat.reduceMul, eq_self, ne_eq, and_imp, forall_const, reduceCtorEq, am_w, List.map_cons, List.map_nil, List.sum_cons, List.sum_nil, Value.category, Nat.zero_le, Nat.le_refl]
      -- on, with the entry i marked
      have nx : ∀ (k2 : am_H) (gg : Nat) (vv : Int32), em i = true → gg = 4 ∨ gg = 6 → k2 = am_sI k 4 gg (cd (c_en (1 - wa) i)) vv → (gg = 4 → vv = Int32.ofNat (if fl' (i - rk em i) = true then 0 else 1)) → (gg = 4 → an' (i - rk em i) = an (i - rk em i)) → (gg = 6 → vv = b01 (an' (i - rk em i))) → (gg = 6 → fl' (i - rk em i) = fl (i - rk em i)) → am_Ev tt 36 5 [some (.ref (cd 33)), some (.ref (cd (c_ar (1 - wa)))), some (.int (Int32.ofNat tg)), some (.int (Int32.ofNat (i - rk em i + 1))), some (.int (Int32.ofNat (i + 1))), none] [] k2 (am_pV (fun h' => CX tt h0 cd bb wa wt n h' p ∧ rf cd Xn (Ym wa) h h' ∧ DA cd wa h' N (dE z em fl' an' un nm tm av) T) no_x) := by
        intro k2 gg vv ce hgg e2 g4 g4' g6 g6'
        have r2 : rf cd Xn (fun c g k => c = 4 ∧ g = gg ∧ k = c_en (1 - wa) i) k k2 := by rw [e2]; exact rf.sI ⟨rfl, rfl, rfl⟩
        have r3 : rf cd Xn (Ym wa) k k2 := r2.mo (fun _ z => z) (fun c g k z => by unfold c_en at z; unfold Ym; omega)
        have er : rk em (i + 1) = rk em i := by rw [rk, ce]; rfl
        have := ih (i + 1) k2 (by omega) (y.on (r3.mo (fun k z => z.elim) (fun c g k z => by unfold Ym at z; unfold YA; omega)) (by rw [e2]; rfl) (by rw [e2]; rfl) (fun g _ => r3.i ci (by unfold Ym; omega))) (fk.tr r3) (fun j hj => ?_) (fun j hj hjN => ?_)
        · rw [er, show i + 1 - rk em i = i - rk em i + 1 by omega] at this
          exact this
        · by_cases cj : j = i
          · rw [cj]
            refine DE.op.2 ⟨?_, ?_, fun j hj => ?_, ?_, ?_, ?_, ?_, fun t ht => ?_, ?_, fun t ht => ?_, ?_, ?_⟩
            · rcases hgg with e | e
              · rw [e2, e, if_pos ce]; simp only [am_hs, true_and, and_true, and_self, true_or, or_true, false_or, or_false, false_and, and_false, not_true_eq_false, not_false_eq_true, Classical.not_not, true_implies, false_implies, implies_true, exists_eq_left, exists_eq_left', Option.some.injEq, reduceIte, Nat.reduceEqDiff, Nat.reduceLT, Nat.reduceLeDiff, Nat.reduceAdd, Nat.reduceSub, Nat.reduceMul, eq_self, ne_eq, and_imp, forall_const, reduceCtorEq, am_w, List.map_cons, List.map_nil, List.sum_cons, List.sum_nil, Value.category, Nat.zero_le, Nat.le_refl]; exact g4 e
              · rw [r2.i ci (by omega), v4, if_pos ce, if_pos ce, g6' e]
            · rw [r2.i ci (by omega)]; exact v1
            · rw [r2.a ci (fun z => z)]; exact vn j hj
            · rw [r2.i ci (by omega)]; exact v3
            · rw [r2.i ci (by omega)]; exact v5
            · rcases hgg with e | e
              · rw [r2.i ci (by omega), v6, if_pos ce, if_pos ce, g4' e]
              · rw [e2, e, if_pos ce]; simp only [am_hs, true_and, and_true, and_self, true_or, or_true, false_or, or_false, false_and, and_false, not_true_eq_false, not_false_eq_true, Classical.not_not, true_implies, false_implies, implies_true, exists_eq_left, exists_eq_left', Option.some.injEq, reduceIte, Nat.reduceEqDiff, Nat.reduceLT, Nat.reduceLeDiff, Nat.reduceAdd, Nat.reduceSub, Nat.reduceMul, eq_self, ne_eq, and_imp, forall_const, reduceCtorEq, am_w, List.map_cons, List.map_nil, List.sum_cons, List.sum_nil, Value.category, Nat.zero_le, Nat.le_refl]; exact g6 e
            · rw [r2.i ci (by omega)]; exact v7
            · rw [r2.j ci (by omega)]; exact v8 t ht
            · rw [r2.i ci (by omega)]; exact v9
            · rw [r2.i ci (by omega)]; exact v10 t ht
            · rw [r2.i ci (by omega)]; exact v12
            · rw [r2.i ci (by omega)]; exact v11
          · exact (h1 j (by omega)).k ci r2 (fun z => z) (fun g z => by unfold c_en at z; omega)
        · exact (h2 j (by omega) hjN).k ci r2 (fun z => z) (fun g z => by unfold c_en at z; omega)
      cases ce : em i with
      | false =>
        rw [if_neg (by rw [ce]; decide)] at v3
        obtain ⟨s1, s2⟩ := hs i hiN ce
        simp (disch := omega) only [v3, qi_lt, qi_le, qi_eq, qi_nn, qi_in, qi_add, qi_l, ql_i, ql_lt, ql_le, ql_eq, ql_add, qc_lt, qc_eq, qc_ge, qc_gt, qc_le, true_and, and_true, and_self, true_or, or_true, false_or, or_false, false_and, and_false, not_true_eq_false, not_false_eq_true, Classical.not_not, true_implies, false_implies, implies_true, exists_eq_left, exists_eq_left', Option.some.injEq, reduceIte, Nat.reduceEqDiff, Nat.reduceLT, Nat.reduceLeDiff, Nat.reduceAdd, Nat.reduceSub, Nat.reduceMul, eq_self, ne_eq, and_imp, forall_const, reduceCtorEq, am_w, List.map_cons, List.map_nil, List.sum_cons, List.sum_nil, Value.category, Nat.zero_le, Nat.le_refl]
        refine ⟨fun z => by omega, fun _ => ?_⟩
        have er : rk em (i + 1) = rk em i + 1 := by rw [rk, ce]; rfl
        have := ih (i + 1) k (by omega) y fk (fun j hj => ?_) (fun j hj hjN => h2 j (by omega) hjN)
        · rw [er, show i + 1 - (rk em i + 1) = i - rk em i by omega] at this
          exact this
        · by_cases cj : j = i
          · have := h2 i (Nat.le_refl i) hiN
            rw [cj]
            unfold dE at this ⊢
            rw [if_neg (by rw [ce]; decide)] at this ⊢
            exact this
          · exact h1 j (by omega)
      | true =>
        rw [if_pos ce] at v3
        have ek : am_A k (cd 34) (i - rk em i) = b01 (g (i - rk em i)) := by rw [fk.a ci (fun z => z)]; exact hg i hiN ce
        simp (disch := omega) only [v3, ek, F, hk, b01_01, b01_z, qi_lt, qi_le, qi_eq, qi_nn, qi_in, qi_add, qi_l, ql_i, ql_lt, ql_le, ql_eq, ql_add, qc_lt, qc_eq, qc_ge, qc_gt, qc_le, true_and, and_true, and_self, true_or, or_true, false_or, or_false, false_and, and_false, not_true_eq_false, not_false_eq_true, Classical.not_not, true_implies, false_implies, implies_true, exists_eq_left, exists_eq_left', Option.some.injEq, reduceIte, Nat.reduceEqDiff, Nat.reduceLT, Nat.reduceLeDiff, Nat.reduceAdd, Nat.reduceSub, Nat.reduceMul, eq_self, ne_eq, and_imp, forall_const, reduceCtorEq, am_w, List.map_cons, List.map_nil, List.sum_cons, List.sum_nil, Value.category, Nat.zero_le, Nat.le_refl]
        rcases ht with ⟨rfl, e1, e2⟩ | ⟨rfl, e1, e2⟩
        · refine ⟨fun z => absurd rfl z, fun _ => ⟨fun c => ?_, fun c => ?_⟩⟩
          · exact nx _ 4 _ ce (Or.inl rfl) rfl (fun _ => by rw [e1, c]; rfl) (fun _ => by rw [e2]) (fun z => by omega) (fun z => by omega)
          · exact nx _ 4 _ ce (Or.inl rfl) rfl (fun _ => by rw [e1, if_pos (by cases e : g (i - rk em i) with | true => rfl | false => exact absurd e c)]) (fun _ => by rw [e2]) (fun z => by omega) (fun z => by omega)
        · refine ⟨fun _ => ?_, fun z => by omega⟩
          refine ⟨by cases g (i - rk em i) <;> simp [b01], ?_⟩
          exact nx _ 6 _ ce (Or.inr rfl) rfl (fun z => by omega) (fun z => by omega) (fun _ => by rw [e2]) (fun _ => by rw [e1])
  refine vc_36_0 tt _ _ _ h _ _ ?_
  exact key N 0 h (by omega) x rf.re (fun j hj => absurd hj (Nat.not_lt_zero j)) (fun j _ hj => da.2 j hj)
def NMf (F : Fn) (st : Nat → Nat) (i j : Nat) : Int32 := (lt F (st i + 2 * j) 2).toInt32
def Xu (wa i k : Nat) : Prop := k = c_un (1 - wa) i
def Yu (wa i c g k : Nat) : Prop := (c = 2 ∧ g = 2 ∧ k = 31) ∨ (c = 4 ∧ g = 1 ∧ k = c_en (1 - wa) i)
theorem ct_takeName (x : CX tt h0 cd bb wa wt n h p) {i : Nat} (hi : i < 24) (h1 : am_I h 4 1 (cd (c_en (1 - wa) i)) = Int32.ofNat 0) {r : Except pe (Nat × Nat)} (hr : r = lU (FF cd wt h0) n p 20 0 p) :
    am_Ct tt 38 [.ref (cd 33), .ref (cd (c_en (1 - wa) i))] h (am_pV (fun h' => ∃ k p', r = .ok (k, p') ∧ p ≤ p' ∧ k ≤ 20 ∧ CX tt h0 cd bb wa wt n h' p' ∧ rf cd (Xu wa i) (Yu wa i) h h' ∧ am_I h' 4 1 (cd (c_en (1 - wa) i)) = Int32.ofNat k ∧ ∀ j, j < k → am_A h' (cd (c_un (1 - wa) i)) j = (lt (FF cd wt h0) (p + 2 * j) 2).toInt32) (ER cd wa h0 r)) := by
  have ci := x.ci
  have f := x.f
  have p5 := x.p5
  have key : ∀ (d k : Nat) (hh : am_H), d + k = 20 → CX tt h0 cd bb wa wt n hh (p + 2 * k + 2) → rf cd (Xu wa i) (Yu wa i) h hh → am_I hh 4 1 (cd (c_en (1 - wa) i)) = Int32.ofNat k → (∀ j, j < k → am_A hh (cd (c_un (1 - wa) i)) j = (lt (FF cd wt h0) (p + 2 * j) 2).toInt32) → p + 2 * k + 2 ≤ n → r = lU (FF cd wt h0) n p d k (p + 2 * k) →
      am_Ev tt 38 20 [some (.ref (cd 33)), some (.ref (cd (c_en (1 - wa) i))), some (.int (Int32.ofNat p)), some (.long (lt (FF cd wt h0) (p + 2 * k) 2)), none, some (.int (Int32.ofNat k))] [] hh (am_pV (fun h' => ∃ k p', r = .ok (k, p') ∧ p ≤ p' ∧ k ≤ 20 ∧ CX tt h0 cd bb wa wt n h' p' ∧ rf cd (Xu wa i) (Yu wa i) h h' ∧ am_I h' 4 1 (cd (c_en (1 - wa) i)) = Int32.ofNat k ∧ ∀ j, j < k → am_A h' (cd (c_un (1 - wa) i)) j = (lt (FF cd wt h0) (p + 2 * j) 2).toInt32) (ER cd wa h0 r)) := by
    have t55 : ∀ (k : Nat) (hh : am_H), k ≤ 20 → CX tt h0 cd bb wa wt n hh (p + 2 * k + 2) → rf cd (Xu wa i) (Yu wa i) h hh → am_I hh 4 1 (cd (c_en (1 - wa) i)) = Int32.ofNat k → (∀ j, j < k → am_A hh (cd (c_un (1 - wa) i)) j = (lt (FF cd wt h0) (p + 2 * j) 2).toInt32) → r = (if lt (FF cd wt h0) (p + 2 * k) 2 = Int64.ofNat 0 then (if k = 0 then .error (8, p) else .ok (k, p + 2 * k + 2)) else .error (8, p)) →
        am_Ev tt 38 55 [some (.ref (cd 33)), some (.ref (cd (c_en (1 - wa) i))), some (.int (Int32.ofNat p)), some (.long (lt (FF cd wt h0) (p + 2 * k) 2)), none, none] [] hh (am_pV (fun h' => ∃ k p', r = .ok (k, p') ∧ p ≤ p' ∧ k ≤ 20 ∧ CX tt h0 cd bb wa wt n h' p' ∧ rf cd (Xu wa i) (Yu wa i) h h' ∧ am_I h' 4 1 (cd (c_en (1 - wa) i)) = Int32.ofNat k ∧ ∀ j, j < k → am_A h' (cd (c_un (1 - wa) i)) j = (lt (FF cd wt h0) (p + 2 * j) 2).toInt32) (ER cd wa h0 r)) := by
      intro k hh hk y fk i1 hu hr2
      have F := y.f
      have G := y.en hi
      have bad : r = .error (8, p) → am_Ev tt 38 68 [some (.ref (cd 33)), none, some (.int (Int32.ofNat p)), none, none, none] [] hh (am_pV (fun h' => ∃ k p', r = .ok (k, p') ∧ p ≤ p' ∧ k ≤ 20 ∧ CX tt h0 cd bb wa wt n h' p' ∧ rf cd (Xu wa i) (Yu wa i) h h' ∧ am_I h' 4 1 (cd (c_en (1 - wa) i)) = Int32.ofNat k ∧ ∀ j, j < k → am_A h' (cd (c_un (1 - wa) i)) j = (lt (FF cd wt h0) (p + 2 * j) 2).toInt32) (ER cd wa h0 r)) := by
        intro hr3
        refine vc_38_68 tt _ _ _ _ _ ?_
        simp (disch := omega) only [F, qi_lt, qi_le, qi_eq, qi_nn, qi_in, qi_add, qi_l, ql_i, ql_lt, ql_le, ql_eq, ql_add, qc_lt, qc_eq, qc_ge, qc_gt, qc_le, true_and, and_true, and_self, true_or, or_true, false_or, or_false, false_and, and_false, not_true_eq_false, not_false_eq_true, Classical.not_not, true_implies, false_implies, implies_true, exists_eq_left, exists_eq_left', Option.some.injEq, reduceIte, Nat.reduceEqDiff, Nat.reduceLT, Nat.reduceLeDiff, Nat.reduceAdd, Nat.reduceSub, Nat.reduceMul, eq_self, ne_eq, and_imp, forall_const, reduceCtorEq, am_w, List.map_cons, List.map_nil, List.sum_cons, List.sum_nil, Value.category, Nat.zero_le, Nat.le_refl]
        exact ⟨_, _, y.fa hr3, fun _ z => z.elim, fun _ _ z => z⟩
      refine vc_38_55 tt _ _ _ _ _ _ _ ?_
      simp (disch := omega) only [G, i1, qi_lt, qi_le, qi_eq, qi_nn, qi_in, qi_add, qi_l, ql_i, ql_lt, ql_le, ql_eq, ql_add, qc_lt, qc_eq, qc_ge, qc_gt, qc_le, true_and, and_true, and_self, true_or, or_true, false_or, or_false, false_and, and_false, not_true_eq_false, not_false_eq_true, Classical.not_not, true_implies, false_implies, implies_true, exists_eq_left, exists_eq_left', Option.some.injEq, reduceIte, Nat.reduceEqDiff, Nat.reduceLT, Nat.reduceLeDiff, Nat.reduceAdd, Nat.reduceSub, Nat.reduceMul, eq_self, ne_eq, and_imp, forall_const, reduceCtorEq, am_w, List.map_cons, List.map_nil, List.sum_cons, List.sum_nil, Value.category, Nat.zero_le, Nat.le_refl]
      refine ⟨fun c => ?_, fun c => ⟨fun c2 => ?_, fun c2 => ?_⟩⟩
      · rw [if_neg c] at hr2
        exact bad hr2
      · rw [if_pos c, if_neg c2] at hr2
        exact ⟨k, _, hr2, by omega, hk, y, fk, rfl, hu⟩
      · rw [if_pos c, if_pos c2] at hr2
        exact bad hr2
    intro d
    induction d with
    | zero =>
      intro k hh e y fk i1 hu hn hr2
      have ek : k = 20 := by omega
      rw [lU, bd_ok (tL_in hn)] at hr2
      refine vc_38_20 tt _ _ _ _ _ _ _ _ ?_
      have q1 : 20 ≤ k := by omega
      simp (disch := omega) only [q1, qi_lt, qi_le, qi_eq, qi_nn, qi_in, qi_add, qi_l, ql_i, ql_lt, ql_le, ql_eq, ql_add, qc_lt, qc_eq, qc_ge, qc_gt, qc_le, true_and, and_true, and_self, true_or, or_true, false_or, or_false, false_and, and_false, not_true_eq_false, not_false_eq_true, Classical.not_not, true_implies, false_implies, implies_true, exists_eq_left, exists_eq_left', Option.some.injEq, reduceIte, Nat.reduceEqDiff, Nat.reduceLT, Nat.reduceLeDiff, Nat.reduceAdd, Nat.reduceSub, Nat.reduceMul, eq_self, ne_eq, and_imp, forall_const, reduceCtorEq, am_w, List.map_cons, List.map_nil, List.sum_cons, List.sum_nil, Value.category, Nat.zero_le, Nat.le_refl]
      refine t55 k hh (by omega) y fk i1 hu ?_
      rw [hr2, if_neg (show ¬ k = 0 by omega)]
    | succ d ih =>
      intro k hh e y fk i1 hu hn hr2
      have F := y.f
      have G := y.en hi
      rw [lU, bd_ok (tL_in hn)] at hr2
      refine vc_38_20 tt _ _ _ _ _ _ _ _ ?_
      have q1 : ¬ 20 ≤ k := by omega
      have k20 : k < 20 := by omega
      simp (disch := omega) only [q1, G, qi_lt, qi_le, qi_eq, qi_nn, qi_in, qi_add, qi_l, ql_i, ql_lt, ql_le, ql_eq, ql_add, qc_lt, qc_eq, qc_ge, qc_gt, qc_le, true_and, and_true, and_self, true_or, or_true, false_or, or_false, false_and, and_false, not_true_eq_false, not_false_eq_true, Classical.not_not, true_implies, false_implies, implies_true, exists_eq_left, exists_eq_left', Option.some.injEq, reduceIte, Nat.reduceEqDiff, Nat.reduceLT, Nat.reduceLeDiff, Nat.reduceAdd, Nat.reduceSub, Nat.reduceMul, eq_self, ne_eq, and_imp, forall_const, reduceCtorEq, am_w, List.map_cons, List.map_nil, List.sum_cons, List.sum_nil, Value.category, Nat.zero_le, Nat.le_refl]
      refine ⟨fun c => ?_, fun c => ?_⟩
      · rw [if_pos c] at hr2
        refine t55 k hh (by omega) y fk i1 hu ?_
        rw [hr2, if_pos c]
      · rw [if_neg c] at hr2
        refine ⟨_, _, ct_addUnit G.2.2.2.2.2.1 G.2.2.2.2.2.2.1 G.2.2.2.2.2.2.2.1 G.2.2.2.2.2.2.2.2 i1 (by omega), fun k2 e2 => ?_, fun _ _ z => z.elim⟩
        rw [if_pos k20, ch_m, ch_ch, ch_lt] at e2
        have r2 : rf cd (Xu wa i) (Yu wa i) hh k2 := by rw [e2]; exact (rf.sA (X := Xu wa i) (Y := Yu wa i) rfl).tr (rf.sI (Or.inr ⟨rfl, rfl, rfl⟩))
        have y2 : CX tt h0 cd bb wa wt n k2 (p + 2 * k + 2) := y.on (r2.mo (fun k z => by unfold Xu c_un at z; unfold XA; omega) (fun c g k z => by unfold Yu c_en at z; unfold YA; omega)) (by rw [e2]; rfl) (by rw [e2]; rfl) (fun g hg => by rw [e2]; simp only [am_hs]; rw [if_neg (fun z => by omega)])
        have F2 := y2.f
        obtain ⟨K, eK⟩ := lU_b (F := FF cd wt h0) (n := n) (st := p) (d := d) (k := k + 1) (p := p + 2 * k + 2)
        have hr3 : r = bd (tL (FF cd wt h0) n (p + 2 * k + 2) 2) K := by rw [← eK]; exact hr2
        simp (disch := omega) only [F2, qi_lt, qi_le, qi_eq, qi_nn, qi_in, qi_add, qi_l, ql_i, ql_lt, ql_le, ql_eq, ql_add, qc_lt, qc_eq, qc_ge, qc_gt, qc_le, true_and, and_true, and_self, true_or, or_true, false_or, or_false, false_and, and_false, not_true_eq_false, not_false_eq_true, Classical.not_not, true_implies, false_implies, implies_true, exists_eq_left, exists_eq_left', Option.some.injEq, reduceIte, Nat.reduceEqDiff, Nat.reduceLT, Nat.reduceLeDiff, Nat.reduceAdd, Nat.reduceSub, Nat.reduceMul, eq_self, ne_eq, and_imp, forall_const, reduceCtorEq, am_w, List.map_cons, List.map_nil, List.sum_cons, List.sum_nil, Value.category, Nat.zero_le, Nat.le_refl]
        refine (y2.l (by omega) hr3 fun v h3 hn3 ev e3 x3 r3 => ?_).2
        have r4 : rf cd (Xu wa i) (Yu wa i) k2 h3 := by rw [e3]; exact rf.mv (Or.inl ⟨rfl, rfl, rfl⟩)
        rw [ev]
        refine ih (k + 1) h3 (by omega) x3 (fk.tr (r2.tr r4)) ?_ (fun j hj => ?_) (by omega) hr2
        · rw [e3, e2, cp]; simp only [am_hs, true_and, and_true, and_self, true_or, or_true, false_or, or_false, false_and, and_false, not_true_eq_false, not_false_eq_true, Classical.not_not, true_implies, false_implies, implies_true, exists_eq_left, exists_eq_left', Option.some.injEq, reduceIte, Nat.reduceEqDiff, Nat.reduceLT, Nat.reduceLeDiff, Nat.reduceAdd, Nat.reduceSub, Nat.reduceMul, eq_self, ne_eq, and_imp, forall_const, reduceCtorEq, am_w, List.map_cons, List.map_nil, List.sum_cons, List.sum_nil, Value.category, Nat.zero_le, Nat.le_refl]
        · rw [e3, e2, cp]; simp only [am_hs, true_and, and_true, and_self, true_or, or_true, false_or, or_false, false_and, and_false, not_true_eq_false, not_false_eq_true, Classical.not_not, true_implies, false_implies, implies_true, exists_eq_left, exists_eq_left', Option.some.injEq, reduceIte, Nat.reduceEqDiff, Nat.reduceLT, Nat.reduceLeDiff, Nat.reduceAdd, Nat.reduceSub, Nat.reduceMul, eq_self, ne_eq, and_imp, forall_const, reduceCtorEq, am_w, List.map_cons, List.map_nil, List.sum_cons, List.sum_nil, Value.category, Nat.zero_le, Nat.le_refl]
          by_cases c : j = k
          · rw [if_pos c, c]
          · rw [if_neg c]; exact hu j (by omega)
  refine vc_38_0 tt _ _ h _ _ ?_
  simp (disch := omega) only [f, qi_lt, qi_le, qi_eq, qi_nn, qi_in, qi_add, qi_l, ql_i, ql_lt, ql_le, ql_eq, ql_add, qc_lt, qc_eq, qc_ge, qc_gt, qc_le, true_and, and_true, and_self, true_or, or_true, false_or, or_false, false_and, and_false, not_true_eq_false, not_false_eq_true, Classical.not_not, true_implies, false_implies, implies_true, exists_eq_left, exists_eq_left', Option.some.injEq, reduceIte, Nat.reduceEqDiff, Nat.reduceLT, Nat.reduceLeDiff, Nat.reduceAdd, Nat.reduceSub, Nat.reduceMul, eq_self, ne_eq, and_imp, forall_const, reduceCtorEq, am_w, List.map_cons, List.map_nil, List.sum_cons, List.sum_nil, Value.category, Nat.zero_le, Nat.le_refl]
  obtain ⟨K, eK⟩ := lU_b (F := FF cd wt h0) (n := n) (st := p) (d := 20) (k := 0) (p := p)
  have hr3 : r = bd (tL (FF cd wt h0) n p 2) K := by rw [← eK]; exact hr
  refine (x.l (by omega) hr3 fun v h3 hn3 ev e3 x3 r3 => ?_).2
  rw [ev]
  refine key 20 0 h3 (by omega) x3 (by rw [e3]; exact rf.mv (Or.inl ⟨rfl, rfl, rfl⟩)) ?_ (fun j hj => absurd hj (Nat.not_lt_zero j)) hn3 hr
  rw [e3, cp]; simp only [am_hs, true_and, and_true, and_self, true_or, or_true, false_or, or_false, false_and, and_false, not_true_eq_false, not_false_eq_true, Classical.not_not, true_implies, false_implies, implies_true, exists_eq_left, exists_eq_left', Option.some.injEq, reduceIte, Nat.reduceEqDiff, Nat.reduceLT, Nat.reduceLeDiff, Nat.reduceAdd, Nat.reduceSub, Nat.reduceMul, eq_self, ne_eq, and_imp, forall_const, reduceCtorEq, am_w, List.map_cons, List.map_nil, List.sum_cons, List.sum_nil, Value.category, Nat.zero_le, Nat.le_refl]; exact h1
def Xw (wa k : Nat) : Prop := 110 + 500 * (1 - wa) ≤ k ∧ k ≤ 157 + 500 * (1 - wa)
def Yw (wa c g k : Nat) : Prop := (c = 2 ∧ g = 2 ∧ k = 31) ∨ (c = 4 ∧ g = 1 ∧ 110 + 500 * (1 - wa) ≤ k ∧ k ≤ 157 + 500 * (1 - wa))
theorem ct_takeNames (x : CX tt h0 cd bb wa wt n h p) {N : Nat} (h24 : N ≤ 24) {z : FI} {em fl an : Nat → Bool} {tm : Nat → Option Int64} {av : Nat → Option Int32} {T : Nat → Int32} (da : DA cd wa h N (dE z em fl an zrs zrr tm av) T) {r : Except pe (((Nat → Nat) × (Nat → Nat)) × Nat)} (hr : r = pNM (FF cd wt h0) n N p) :
    am_Ct tt 37 [.ref (cd 33), .ref (cd (c_ar (1 - wa)))] h (am_pV (fun h' => ∃ un st p', r = .ok ((un, st), p') ∧ CX tt h0 cd bb wa wt n h' p' ∧ rf cd (Xw wa) (Yw wa) h h' ∧ DA cd wa h' N (dE z em fl an un (NMf (FF cd wt h0) st) tm av) T) (ER cd wa h0 r)) := by
  have ci := x.ci
  have f := x.f
  have p5 := x.p5
  have key : ∀ (told : Int64) (p1 : Nat), p1 ≤ 5000 → ∀ (d i : Nat) (k : am_H) (q : Nat) (un st : Nat → Nat), d + i = N → p1 ≤ q → CX tt h0 cd bb wa wt n k q → rf cd (Xw wa) (Yw wa) h k → (∀ j, j < i → DE cd wa k j (dE z em fl an un (NMf (FF cd wt h0) st) tm av j) (T j)) → (∀ j, i ≤ j → j < N → DE cd wa k j (dE z em fl an zrs zrr tm av j) (T j)) → r = bd (lNm (FF cd wt h0) n d i q un st) (fun us p3 => if told = Int64.ofNat (p3 - p1) then .ok (us, p3) else .error (5, p)) →
      am_Ev tt 37 40 [some (.ref (cd 33)), some (.ref (cd (c_ar (1 - wa)))), some (.int (Int32.ofNat p)), some (.long told), none, some (.int (Int32.ofNat p1)), some (.int (Int32.ofNat i))] [] k (am_pV (fun h' => ∃ un st p', r = .ok ((un, st), p') ∧ CX tt h0 cd bb wa wt n h' p' ∧ rf cd (Xw wa) (Yw wa) h h' ∧ DA cd wa h' N (dE z em fl an un (NMf (FF cd wt h0) st) tm av) T) (ER cd wa h0 r)) := by
    intro told p1 hp1 d
    induction d with
    | zero =>
      intro i k q un st e hq y fk h1 h2 hr2
      have ei : i = N := by omega
      rw [ei] at h1 ⊢
      have F := y.f
      have q5 := y.p5
      have G := (y.cl.2.2.2.2.1 (1 - wa) (by omega)).1.1
      have iN : am_I k 0 1 (cd (c_ar (1 - wa))) = Int32.ofNat N := by rw [fk.i ci (by unfold Yw; omega)]; exact da.1
      rw [lNm] at hr2
      have hr3 : r = if told = Int64.ofNat (q - p1) then .ok ((un, st), q) else .error (5, p) := hr2
      refine vc_37_40 tt _ _ _ _ _ _ _ _ _ ?_
      simp (disch := omega) only [G, F, iN, qi_sub, qi_lt, qi_le, qi_eq, qi_nn, qi_in, qi_add, qi_l, ql_i, ql_lt, ql_le, ql_eq, ql_add, qc_lt, qc_eq, qc_ge, qc_gt, qc_le, true_and, and_true, and_self, true_or, or_true, false_or, or_false, false_and, and_false, not_true_eq_false, not_false_eq_true, Classical.not_not, true_implies, false_implies, implies_true, exists_eq_left, exists_eq_left', Option.some.injEq, reduceIte, Nat.reduceEqDiff, Nat.reduceLT, Nat.reduceLeDiff, Nat.reduceAdd, Nat.reduceSub, Nat.reduceMul, eq_self, ne_eq, and_imp, forall_const, reduceCtorEq, am_w, List.map_cons, List.map_nil, List.sum_cons, List.sum_nil, Value.category, Nat.zero_le, Nat.le_refl]
      refine ⟨fun c => ?_, fun c => ?_⟩
      · rw [if_pos c.symm] at hr3
        exact ⟨un, st, q, hr3, y, fk, iN, h1⟩
      · rw [if_neg (fun z => c z.symm)] at hr3
        exact ⟨_, _, y.fa hr3, fun _ z => z.elim, fun _ _ z => z⟩
    | succ d ih =>
      intro i k q un st e hq y fk h1 h2 hr2
      have F := y.f
      have hi : i < 24 := by omega
      have hiN : i < N := by omega
      have G := y.en hi
      have iN : am_I k 0 1 (cd (c_ar (1 - wa))) = Int32.ofNat N := by rw [fk.i ci (by unfold Yw; omega)]; exact da.1
      have q1 : ¬ N ≤ i := by omega
      obtain ⟨v4, v1, vn, v3, v5, v6, v7, v8, v9, v10, v12, v11⟩ := DE.op.1 (h2 i (Nat.le_refl i) hiN)
      rw [lNm, bd_as] at hr2
      refine vc_37_40 tt _ _ _ _ _ _ _ _ _ ?_
      simp (disch := omega) only [G, F, iN, q1, hi, qi_lt, qi_le, qi_eq, qi_nn, qi_in, qi_add, qi_l, ql_i, ql_lt, ql_le, ql_eq, ql_add, qc_lt, qc_eq, qc_ge, qc_gt, qc_le, true_and, and_true, and_self, true_or, or_true, false_or, or_false, false_and, and_false, not_true_eq_false, not_false_eq_true, Classical.not_not, true_implies, false_implies, implies_true, exists_eq_left, exists_eq_left', Option.some.injEq, reduceIte, Nat.reduceEqDiff, Nat.reduceLT, Nat.reduceLeDiff, Nat.reduceAdd, Nat.reduceSub, Nat.reduceMul, eq_self, ne_eq, and_imp, forall_const, reduceCtorEq, am_w, List.map_cons, List.map_nil, List.sum_cons, List.sum_nil, Value.category, Nat.zero_le, Nat.le_refl]
      refine ⟨_, _, ct_takeName y hi v1 rfl, fun k2 w => ?_, fun E h2 w => w.bd hr2⟩
      obtain ⟨u, p', w1, w2, w3, y2, r2, w6, w7⟩ := w
      rw [bd_ok w1] at hr2
      have r3 : rf cd (Xw wa) (Yw wa) k k2 := r2.mo (fun k z => by unfold Xu c_un at z; unfold Xw; omega) (fun c g k z => by unfold Yu c_en at z; unfold Yw; omega)
      refine ih (i + 1) k2 p' _ _ (by omega) (by omega) y2 (fk.tr r3) (fun j hj => ?_) (fun j hj hjN => ?_) hr2
      · by_cases cj : j = i
        · rw [cj]
          have eu : va_up un i u i = u := by rw [va_up, if_pos rfl]
          refine DE.op.2 ⟨?_, ?_, fun j hj => ?_, ?_, ?_, ?_, ?_, fun t ht => ?_, ?_, fun t ht => ?_, ?_, ?_⟩
          · rw [r2.i ci (by unfold Yu; omega)]; exact v4
          · rw [eu]; exact w6
          · rw [eu] at hj
            rw [w7 j hj, NMf, va_up, if_pos rfl]
          · rw [r2.i ci (by unfold Yu; omega)]; exact v3
          · rw [r2.i ci (by unfold Yu; omega)]; exact v5
          · rw [r2.i ci (by unfold Yu; omega)]; exact v6
          · rw [r2.i ci (by unfold Yu; omega)]; exact v7
          · rw [r2.j ci (by unfold Yu; omega)]; exact v8 t ht
          · rw [r2.i ci (by unfold Yu; omega)]; exact v9
          · rw [r2.i ci (by unfold Yu; omega)]; exact v10 t ht
          · rw [r2.i ci (by unfold Yu; omega)]; exact v12
          · rw [r2.i ci (by unfold Yu; omega)]; exact v11
        · have := (h1 j (by omega)).k ci r2 (by unfold Xu c_un; omega) (fun g z => by unfold Yu c_en at z; omega)
          rw [dE_c (un' := un) (nm' := NMf (FF cd wt h0) st) (tm' := tm) (av' := av) ?_ ?_ rfl rfl]
          · exact this
          · rw [va_up, if_neg cj]
          · funext l
            rw [NMf, NMf, va_up, if_neg cj]
      · exact (h2 j (by omega) hjN).k ci r2 (by unfold Xu c_un; omega) (fun g z => by unfold Yu c_en at z; omega)
  unfold pNM at hr
  refine vc_37_0 tt _ _ h _ _ ?_
  simp (disch := omega) only [f, qi_lt, qi_le, qi_eq, qi_nn, qi_in, qi_add, qi_l, ql_i, ql_lt, ql_le, ql_eq, ql_add, qc_lt, qc_eq, qc_ge, qc_gt, qc_le, true_and, and_true, and_self, true_or, or_true, false_or, or_false, false_and, and_false, not_true_eq_false, not_false_eq_true, Classical.not_not, true_implies, false_implies, implies_true, exists_eq_left, exists_eq_left', Option.some.injEq, reduceIte, Nat.reduceEqDiff, Nat.reduceLT, Nat.reduceLeDiff, Nat.reduceAdd, Nat.reduceSub, Nat.reduceMul, eq_self, ne_eq, and_imp, forall_const, reduceCtorEq, am_w, List.map_cons, List.map_nil, List.sum_cons, List.sum_nil, Value.category, Nat.zero_le, Nat.le_refl]
  refine (x.nu hr fun v q2 h2 ev e2 x2 r2 => ?_).2
  have f2 := x2.f
  have tp := tN_p ev
  simp (disch := omega) only [f2, qi_lt, qi_le, qi_eq, qi_nn, qi_in, qi_add, qi_l, ql_i, ql_lt, ql_le, ql_eq, ql_add, qc_lt, qc_eq, qc_ge, qc_gt, qc_le, true_and, and_true, and_self, true_or, or_true, false_or, or_false, false_and, and_false, not_true_eq_false, not_false_eq_true, Classical.not_not, true_implies, false_implies, implies_true, exists_eq_left, exists_eq_left', Option.some.injEq, reduceIte, Nat.reduceEqDiff, Nat.reduceLT, Nat.reduceLeDiff, Nat.reduceAdd, Nat.reduceSub, Nat.reduceMul, eq_self, ne_eq, and_imp, forall_const, reduceCtorEq, am_w, List.map_cons, List.map_nil, List.sum_cons, List.sum_nil, Value.category, Nat.zero_le, Nat.le_refl]
  refine (x2.x r2 fun h3 e3 x3 r3 => ?_).2
  have fr3 : rf cd Xn Yc h h3 := by rw [e3, e2]; exact (rf.mv ⟨rfl, rfl, rfl⟩).tr (rf.mv ⟨rfl, rfl, rfl⟩)
  refine key v q2 (by omega) N 0 h3 (q2 + 1) _ _ (by omega) (by omega) x3 (fr3.mo (fun _ z => z.elim) (fun c g k z => Or.inl z)) (fun j hj => absurd hj (Nat.not_lt_zero j)) (fun j _ hj => (da.2 j hj).k ci fr3 (fun z => z) (fun g z => by unfold Yc at z; omega)) r3
end RE2
