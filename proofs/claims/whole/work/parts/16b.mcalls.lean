/-! deps: 16a -/
/-! ===== the reference's calls: entry, name, put, block ===== -/
/-! 135 yX10_entry -/
theorem vc_135_0 (tt : Nat → Nat) (a0 : Nat) (a1 : Int32) (h : am_H) (Q : Int32 → am_H → Prop) (Qx : String → am_H → Prop) (q :
  (am_K h a0 = 11 ∧
  (∃ (Q2 : Int32 → am_H → Prop) (X2 : String → am_H → Prop), am_Ct tt 130 [.long (a1).toInt64, .long (Int64.ofNat 0), .long (Int64.ofNat 1)] (am_sI h 10 0 a0 (Int32.ofNat 0)) (am_pI Q2 X2) ∧ (∀ x3 h1, Q2 x3 h1 →
   ((¬ x3 = (Int32.ofNat 0) →
    (am_K h1 a0 = 11 ∧
    ((¬ (am_I h1 10 1 a0) = (Int32.ofNat 24) →
     (am_K h1 a0 = 11 ∧
     (am_K h1 a0 = 11 ∧ ∃ (Q5 : am_H → Prop) (X5 : String → am_H → Prop), am_Ct tt 136 [.ref a0, .int (am_I h1 10 1 a0), .int a1] h1 (am_pV Q5 X5) ∧ (∀ h4, Q5 h4 →
      (am_K h4 a0 = 11 ∧
      (am_K h4 a0 = 11 ∧
      (am_K h4 a0 = 11 ∧
      Q ((am_I (am_sI h4 10 1 a0 ((am_I h4 10 1 a0) + (Int32.ofNat 1))) 10 1 a0) - (Int32.ofNat 1)) (am_sI h4 10 1 a0 ((am_I h4 10 1 a0) + (Int32.ofNat 1))))))) ∧ (∀ E6 h4, X5 E6 h4 → Qx E6 h4)))) ∧
    (¬ (¬ (am_I h1 10 1 a0) = (Int32.ofNat 24)) →
     Q (-4 : Int32) h1)))) ∧
   (¬ (¬ x3 = (Int32.ofNat 0)) →
    Q (-2 : Int32) h1))) ∧ (∀ E7 h1, X2 E7 h1 → Qx E7 h1)))) :
  am_Ev tt 135 0 [some (.ref a0), some (.int a1)] [] h (am_pI Q Qx) := am_vc 31 [] q

/-! 137 yX10_name -/
theorem vc_137_0 (tt : Nat → Nat) (a0 : Nat) (a1 : Int32) (a2 : Int32) (h : am_H) (Q : Int32 → am_H → Prop) (Qx : String → am_H → Prop) (q :
  (am_K h a0 = 11 ∧
  (am_K h a0 = 11 ∧ ∃ (Q2 : Int32 → am_H → Prop) (X2 : String → am_H → Prop), am_Ct tt 134 [.ref a0, .int a1] (am_sI h 10 0 a0 (Int32.ofNat 0)) (am_pI Q2 X2) ∧ (∀ x3 h1, Q2 x3 h1 →
   ((x3 = (Int32.ofNat 0) →
    Q (-2 : Int32) h1) ∧
   (¬ (x3 = (Int32.ofNat 0)) →
    ((¬ a2 = (Int32.ofNat 0) →
     (am_K h1 a0 = 11 ∧ ∃ q4, am_R h1 10 3 a0 = some q4 ∧
     ((am_K h1 q4 = 21 ∨ am_K h1 q4 = 31) ∧ vp_in a1 (am_N h1 q4) ∧
     ((¬ (am_A h1 q4 (a1).toNatClampNeg) = (Int32.ofNat 20) →
      (am_K h1 a0 = 11 ∧ ∃ q5, am_R h1 10 4 a0 = some q5 ∧
      (am_K h1 a0 = 11 ∧ ∃ q6, am_R h1 10 3 a0 = some q6 ∧
      ((am_K h1 q6 = 21 ∨ am_K h1 q6 = 31) ∧ vp_in a1 (am_N h1 q6) ∧
      (am_K h1 q5 = 21 ∧ vp_in (((Int32.ofNat 20) * a1) + (am_A h1 q6 (a1).toNatClampNeg)) (am_N h1 q5) ∧
      (am_K h1 a0 = 11 ∧ ∃ q7, am_R h1 10 3 a0 = some q7 ∧
      ((am_K h1 q7 = 21 ∨ am_K h1 q7 = 31) ∧ vp_in a1 (am_N h1 q7) ∧
      (am_K h1 q7 = 21 ∧ vp_in a1 (am_N h1 q7) ∧
      (am_K h1 a0 = 11 ∧ ∃ q8, am_R h1 10 3 a0 = some q8 ∧
      ((am_K h1 q8 = 21 ∨ am_K h1 q8 = 31) ∧ vp_in a1 (am_N h1 q8) ∧
      Q (am_A (am_sA (am_sA h1 q5 ((((Int32.ofNat 20) * a1) + (am_A h1 q6 (a1).toNatClampNeg))).toNatClampNeg a2) q7 (a1).toNatClampNeg ((am_A (am_sA h1 q5 ((((Int32.ofNat 20) * a1) + (am_A h1 q6 (a1).toNatClampNeg))).toNatClampNeg a2) q7 (a1).toNatClampNeg) + (Int32.ofNat 1))) q8 (a1).toNatClampNeg) (am_sA (am_sA h1 q5 ((((Int32.ofNat 20) * a1) + (am_A h1 q6 (a1).toNatClampNeg))).toNatClampNeg a2) q7 (a1).toNatClampNeg ((am_A (am_sA h1 q5 ((((Int32.ofNat 20) * a1) + (am_A h1 q6 (a1).toNatClampNeg))).toNatClampNeg a2) q7 (a1).toNatClampNeg) + (Int32.ofNat 1))))))))))))) ∧
     (¬ (¬ (am_A h1 q4 (a1).toNatClampNeg) = (Int32.ofNat 20)) →
      Q (-4 : Int32) h1))))) ∧
    (¬ (¬ a2 = (Int32.ofNat 0)) →
     Q (-2 : Int32) h1))))) ∧ (∀ E9 h1, X2 E9 h1 → Qx E9 h1)))) :
  am_Ev tt 137 0 [some (.ref a0), some (.int a1), some (.int a2)] [] h (am_pI Q Qx) := am_vc 42 [] q

section MB
variable {tt : Nat → Nat} {P : Nat → Prop} {h h' h'' : am_H} {m : Nat} {ad : Nat → Nat} {S : sS}
theorem z_1 : (Int32.ofNat 0 &&& 1) = Int32.ofNat 0 := rfl
theorem o_1 : (Int32.ofNat 1 &&& 1) = Int32.ofNat 1 := rfl
theorem b_1 {b : Bool} : (b01 b &&& 1) = b01 b := by cases b <;> rfl
/-- the reference's entry i begun anew -/
def mf_b (h : am_H) (ad : Nat → Nat) (i : Nat) (v : Int32) : am_H := am_sA (am_sA (am_sA (am_sA (am_sA (am_sA (am_sB (am_sA (am_sA (am_sA h (ad 2) i v) (ad 3) i (Int32.ofNat 0)) (ad 5) i (Int32.ofNat 0)) (ad 6) i (Int64.ofNat 0)) (ad 7) i (Int32.ofNat 0)) (ad 8) i (Int32.ofNat 0)) (ad 9) i (Int32.ofNat 0)) (ad 11) i (Int32.ofNat 0)) (ad 12) i (Int32.ofNat 0)) (ad 13) i (Int32.ofNat 0)
theorem ct_fresh {i : Nat} {v : Int32} (s : md_s h m ad) (hi : i < 24) : am_Ct tt 136 [.ref m, .int (Int32.ofNat i), .int v] h (am_pV (fun h' => h' = mf_b h ad i v) no_x) := by
  refine vc_136_0 tt _ _ _ h _ _ ?_
  simp (disch := omega) only [s.1, hi, md_f s, z_1, am_hs, qi_lt, qi_le, qi_eq, qi_nn, qi_in, qi_add, qi_l, ql_i, ql_lt, ql_le, ql_eq, ql_add, qc_lt, qc_eq, qc_ge, qc_gt, qc_le, true_and, and_true, and_self, true_or, or_true, false_or, or_false, false_and, and_false, not_true_eq_false, not_false_eq_true, Classical.not_not, true_implies, false_implies, implies_true, exists_eq_left, exists_eq_left', Option.some.injEq, reduceIte, Nat.reduceEqDiff, Nat.reduceLT, Nat.reduceLeDiff, Nat.reduceAdd, Nat.reduceSub, Nat.reduceMul, eq_self, ne_eq, and_imp, forall_const, reduceCtorEq, am_w, List.map_cons, List.map_nil, List.sum_cons, List.sum_nil, Value.category, Nat.zero_le, Nat.le_refl]
  refine vc_136_21 tt _ _ _ _ _ ?_
  simp (disch := omega) only [s.1, hi, md_f s, z_1, am_hs, qi_lt, qi_le, qi_eq, qi_nn, qi_in, qi_add, qi_l, ql_i, ql_lt, ql_le, ql_eq, ql_add, qc_lt, qc_eq, qc_ge, qc_gt, qc_le, true_and, and_true, and_self, true_or, or_true, false_or, or_false, false_and, and_false, not_true_eq_false, not_false_eq_true, Classical.not_not, true_implies, false_implies, implies_true, exists_eq_left, exists_eq_left', Option.some.injEq, reduceIte, Nat.reduceEqDiff, Nat.reduceLT, Nat.reduceLeDiff, Nat.reduceAdd, Nat.reduceSub, Nat.reduceMul, eq_self, ne_eq, and_imp, forall_const, reduceCtorEq, am_w, List.map_cons, List.map_nil, List.sum_cons, List.sum_nil, Value.category, Nat.zero_le, Nat.le_refl]
  refine vc_136_42 tt _ _ _ _ _ ?_
  simp (disch := omega) only [s.1, hi, md_f s, z_1, mf_b, am_hs, qi_lt, qi_le, qi_eq, qi_nn, qi_in, qi_add, qi_l, ql_i, ql_lt, ql_le, ql_eq, ql_add, qc_lt, qc_eq, qc_ge, qc_gt, qc_le, true_and, and_true, and_self, true_or, or_true, false_or, or_false, false_and, and_false, not_true_eq_false, not_false_eq_true, Classical.not_not, true_implies, false_implies, implies_true, exists_eq_left, exists_eq_left', Option.some.injEq, reduceIte, Nat.reduceEqDiff, Nat.reduceLT, Nat.reduceLeDiff, Nat.reduceAdd, Nat.reduceSub, Nat.reduceMul, eq_self, ne_eq, and_imp, forall_const, reduceCtorEq, am_w, List.map_cons, List.map_nil, List.sum_cons, List.sum_nil, Value.category, Nat.zero_le, Nat.le_refl]
theorem mf_b_p (s : md_s h m ad) {i : Nat} {v : Int32} : mfr h m ad (mf_b h ad i v) ∧ am_I (mf_b h ad i v) = am_I h ∧ (∀ k j, ¬ tch i k j → am_A (mf_b h ad i v) (ad k) j = am_A h (ad k) j) ∧ (∀ j, ¬ j = i → am_B (mf_b h ad i v) (ad 6) j = am_B h (ad 6) j) ∧ am_A (mf_b h ad i v) (ad 2) i = v ∧ am_A (mf_b h ad i v) (ad 3) i = Int32.ofNat 0 ∧ am_A (mf_b h ad i v) (ad 5) i = Int32.ofNat 0 ∧ am_B (mf_b h ad i v) (ad 6) i = Int64.ofNat 0 ∧ am_A (mf_b h ad i v) (ad 7) i = Int32.ofNat 0 ∧ am_A (mf_b h ad i v) (ad 8) i = Int32.ofNat 0 ∧ am_A (mf_b h ad i v) (ad 9) i = Int32.ofNat 0 ∧ am_A (mf_b h ad i v) (ad 11) i = Int32.ofNat 0 ∧ am_A (mf_b h ad i v) (ad 12) i = Int32.ofNat 0 ∧ am_A (mf_b h ad i v) (ad 13) i = Int32.ofNat 0 := by
  refine ⟨mfr.sA.tr (mfr.sA.tr (mfr.sA.tr (mfr.sB.tr (mfr.sA.tr (mfr.sA.tr (mfr.sA.tr (mfr.sA.tr (mfr.sA.tr mfr.sA)))))))), ?_, fun k j z => ?_, fun j z => ?_, ?_⟩
  · unfold mf_b
    simp only [am_hs]
  · unfold mf_b
    simp only [am_hs, md_i s]
    unfold tch at z
    repeat rw [if_neg (by omega)]
  · unfold mf_b
    simp only [am_hs]
    rw [if_neg (fun w => z w.2)]
  · unfold mf_b
    simp only [am_hs, md_i s, true_and, and_true, and_self, true_or, or_true, false_or, or_false, false_and, and_false, not_true_eq_false, not_false_eq_true, Classical.not_not, true_implies, false_implies, implies_true, exists_eq_left, exists_eq_left', Option.some.injEq, reduceIte, Nat.reduceEqDiff, Nat.reduceLT, Nat.reduceLeDiff, Nat.reduceAdd, Nat.reduceSub, Nat.reduceMul, eq_self, ne_eq, and_imp, forall_const, reduceCtorEq, am_w, List.map_cons, List.map_nil, List.sum_cons, List.sum_nil, Value.category, Nat.zero_le, Nat.le_refl]
theorem RM.add' (q : RM P h m ad S) (wf : wfS S) {i : Nat} {k : am_H} (f1 : mfr h m ad k) (f2 : am_I k = am_I h) (f3 : ∀ l j, ¬ tch (a_n S.1) l j → am_A k (ad l) j = am_A h (ad l) j) (f4 : ∀ j, ¬ j = a_n S.1 → am_B k (ad 6) j = am_B h (ad 6) j)
    (f5 : am_A k (ad 2) (a_n S.1) = Int32.ofNat i) (f6 : am_A k (ad 3) (a_n S.1) = Int32.ofNat 0) (f7 : am_A k (ad 5) (a_n S.1) = Int32.ofNat 0) (f8 : am_B k (ad 6) (a_n S.1) = Int64.ofNat 0) (f9 : am_A k (ad 7) (a_n S.1) = Int32.ofNat 0) (f10 : am_A k (ad 8) (a_n S.1) = Int32.ofNat 0) (f11 : am_A k (ad 9) (a_n S.1) = Int32.ofNat 0) (f12 : am_A k (ad 11) (a_n S.1) = Int32.ofNat 0) (f13 : am_A k (ad 12) (a_n S.1) = Int32.ofNat 0) (f14 : am_A k (ad 13) (a_n S.1) = Int32.ofNat 0) :
    okM P h m ad ((a_n S.1 + 1, va_up (a_E S.1) (a_n S.1) (frE i), a_B S.1), S.2) (am_sI k 10 1 m (Int32.ofNat (a_n S.1 + 1))) := by
  have q' := q
  obtain ⟨-, q2, q3, q4, q5, q6, q7, q8⟩ := q
  refine RM.mk' q' (f1.tr mfr.sI) (by simp only [am_hs, true_and, and_true, and_self, true_or, or_true, false_or, or_false, false_and, and_false, not_true_eq_false, not_false_eq_true, Classical.not_not, true_implies, false_implies, implies_true, exists_eq_left, exists_eq_left', Option.some.injEq, reduceIte, Nat.reduceEqDiff, Nat.reduceLT, Nat.reduceLeDiff, Nat.reduceAdd, Nat.reduceSub, Nat.reduceMul, eq_self, ne_eq, and_imp, forall_const, reduceCtorEq, am_w, List.map_cons, List.map_nil, List.sum_cons, List.sum_nil, Value.category, Nat.zero_le, Nat.le_refl]; rfl) (fun j hj => ?_) (fun b hb => ?_) (by simp only [am_hs, true_and, and_true, and_self, true_or, or_true, false_or, or_false, false_and, and_false, not_true_eq_false, not_false_eq_true, Classical.not_not, true_implies, false_implies, implies_true, exists_eq_left, exists_eq_left', Option.some.injEq, reduceIte, Nat.reduceEqDiff, Nat.reduceLT, Nat.reduceLeDiff, Nat.reduceAdd, Nat.reduceSub, Nat.reduceMul, eq_self, ne_eq, and_imp, forall_const, reduceCtorEq, am_w, List.map_cons, List.map_nil, List.sum_cons, List.sum_nil, Value.category, Nat.zero_le, Nat.le_refl, f2]; exact q5) (fun j hj => ?_) (by simp only [am_hs, true_and, and_true, and_self, true_or, or_true, false_or, or_false, false_and, and_false, not_true_eq_false, not_false_eq_true, Classical.not_not, true_implies, false_implies, implies_true, exists_eq_left, exists_eq_left', Option.some.injEq, reduceIte, Nat.reduceEqDiff, Nat.reduceLT, Nat.reduceLeDiff, Nat.reduceAdd, Nat.reduceSub, Nat.reduceMul, eq_self, ne_eq, and_imp, forall_const, reduceCtorEq, am_w, List.map_cons, List.map_nil, List.sum_cons, List.sum_nil, Value.category, Nat.zero_le, Nat.le_refl, f2]; exact q7)
  · have hj' : j < a_n S.1 + 1 := hj
    show me_v k ad j (va_up (a_E S.1) (a_n S.1) (frE i) j) (b_kn (a_B S.1 (e_hm (va_up (a_E S.1) (a_n S.1) (frE i) j))) = true)
    by_cases c : j = a_n S.1
    · subst c
      rw [va_up, if_pos rfl]
      exact ⟨f5, f6, fun j hj => absurd hj (Nat.not_lt_zero j), f11, f12, f13, f7, f8, f9, f10, f14, fun _ j hj => absurd hj (Nat.not_lt_zero j)⟩
    · rw [va_up, if_neg c]
      obtain ⟨w1, w2, w3, w4⟩ := wf.1.2.1 j (by omega)
      exact (q3 j (by omega)).same w2 w3 (fun k hk => f3 _ _ (by unfold tch; omega)) (f4 j c) (fun k hk => f3 _ _ (by unfold tch; omega)) (fun k hk => f3 _ _ (by unfold tch; omega))
  · exact (q4 b hb).same (wf.1.2.2.1 b hb).1 (f3 _ _ (by unfold tch; omega)) (f3 _ _ (by unfold tch; omega)) (fun j hj => f3 _ _ (by unfold tch; omega)) (fun j hj => f3 _ _ (by unfold tch; omega))
  · show am_A k (ad 18) j = _
    rw [f3 _ _ (by unfold tch; omega)]; exact q6 j hj
theorem ct_mentry (q : RM P h m ad S) (wf : wfS S) {x : Int32} : am_Ct tt 135 [.ref m, .int x] h (am_pI (fun r h' => r = (f_entry S x).1 ∧ okM P h m ad (f_entry S x).2 h') no_x) := by
  have q0 := q.th (Int32.ofNat 0)
  have s := q.1
  have n24 := wf.1.1
  refine vc_135_0 tt _ _ h _ _ ?_
  refine ⟨s.1, _, _, ct_inN (n := 2) (by omega) (Or.inr ⟨by omega, rfl⟩), fun r k e => ?_, fun _ _ z => z⟩
  obtain ⟨ek, e⟩ := e
  subst k e
  generalize am_sI h 10 0 m (Int32.ofNat 0) = h1 at q0 ⊢
  have q1 := q0.1
  have s1 := q1.1
  simp (disch := omega) only [s1.1, q1.2.1, b01_z, am_hs, qi_lt, qi_le, qi_eq, qi_nn, qi_in, qi_add, qi_l, ql_i, ql_lt, ql_le, ql_eq, ql_add, qc_lt, qc_eq, qc_ge, qc_gt, qc_le, true_and, and_true, and_self, true_or, or_true, false_or, or_false, false_and, and_false, not_true_eq_false, not_false_eq_true, Classical.not_not, true_implies, false_implies, implies_true, exists_eq_left, exists_eq_left', Option.some.injEq, reduceIte, Nat.reduceEqDiff, Nat.reduceLT, Nat.reduceLeDiff, Nat.reduceAdd, Nat.reduceSub, Nat.reduceMul, eq_self, ne_eq, and_imp, forall_const, reduceCtorEq, am_w, List.map_cons, List.map_nil, List.sum_cons, List.sum_nil, Value.category, Nat.zero_le, Nat.le_refl]
  cases ex : ixo 2 x with
  | none =>
    have fE : f_entry S x = (-2, S) := by
      rw [f_entry, if_neg]
      intro w
      rcases w with w | w <;> rw [w, ixo_n (by omega) (by omega)] at ex <;> cases ex
    rw [fE]
    refine ⟨fun w => absurd rfl w, fun _ => ⟨rfl, q0⟩⟩
  | some i =>
    obtain ⟨hi, rfl⟩ := ixo_o ex
    have fE : f_entry S (Int32.ofNat i) = if a_n S.1 < 24 then (Int32.ofNat (a_n S.1), ((a_n S.1 + 1, va_up (a_E S.1) (a_n S.1) (frE i), a_B S.1), S.2)) else (-4, S) := by
      rw [f_entry, if_pos (by have : i = 0 ∨ i = 1 := by omega
                              rcases this with rfl | rfl <;> simp), qi_nn (by omega)]
    rw [fE]
    refine ⟨fun _ => ⟨fun w => ?_, fun w => by rw [if_neg (by omega)]; exact ⟨rfl, q0⟩⟩, fun w => absurd w (by simp)⟩
    rw [if_pos (by omega)]
    refine ⟨_, _, ct_fresh s1 (by omega), fun k e => ?_, fun _ _ z => z⟩
    subst e
    obtain ⟨f1, f2, f3, f4, f5, f6, f7, f8, f9, f10, f11, f12, f13, f14⟩ := mf_b_p s1 (i := a_n S.1) (v := Int32.ofNat i)
    have ad' := q1.add' wf f1 f2 f3 f4 f5 f6 f7 f8 f9 f10 f11 f12 f13 f14
    have kk := (f1.md s1).1
    clear f1 f3 f4 f5 f6 f7 f8 f9 f10 f11 f12 f13 f14
    generalize mf_b h1 ad (a_n S.1) (Int32.ofNat i) = k at *
    simp (disch := omega) only [kk, f2, q1.2.1, am_hs, qi_lt, qi_le, qi_eq, qi_nn, qi_in, qi_add, qi_l, ql_i, ql_lt, ql_le, ql_eq, ql_add, qc_lt, qc_eq, qc_ge, qc_gt, qc_le, true_and, and_true, and_self, true_or, or_true, false_or, or_false, false_and, and_false, not_true_eq_false, not_false_eq_true, Classical.not_not, true_implies, false_implies, implies_true, exists_eq_left, exists_eq_left', Option.some.injEq, reduceIte, Nat.reduceEqDiff, Nat.reduceLT, Nat.reduceLeDiff, Nat.reduceAdd, Nat.reduceSub, Nat.reduceMul, eq_self, ne_eq, and_imp, forall_const, reduceCtorEq, am_w, List.map_cons, List.map_nil, List.sum_cons, List.sum_nil, Value.category, Nat.zero_le, Nat.le_refl]
    rw [qi_sub (by omega), Nat.add_sub_cancel]
    exact ⟨rfl, q0.tr ad'⟩
theorem ct_mname (q : RM P h m ad S) (wf : wfS S) {x c : Int32} : am_Ct tt 137 [.ref m, .int x, .int c] h (am_pI (fun r h' => r = (f_name S x c).1 ∧ okM P h m ad (f_name S x c).2 h') no_x) := by
  have q0 := q.th (Int32.ofNat 0)
  have s := q.1
  have n24 := wf.1.1
  refine vc_137_0 tt _ _ _ h _ _ ?_
  refine ⟨s.1, s.1, _, _, ct_isEntry (n := a_n S.1) s.1 q0.1.2.1 (by omega), fun r k e => ?_, fun _ _ z => z⟩
  obtain ⟨ek, e⟩ := e
  subst k e
  generalize am_sI h 10 0 m (Int32.ofNat 0) = h1 at q0 ⊢
  have q1 := q0.1
  have s1 := q1.1
  cases ex : ixo (a_n S.1) x with
  | none =>
    have fE : f_name S x c = (-2, S) := by rw [f_name, ex]
    rw [fE]
    exact ⟨fun _ => ⟨rfl, q0⟩, fun w => absurd rfl w⟩
  | some i =>
    obtain ⟨hi, rfl⟩ := ixo_o ex
    obtain ⟨y1, y2, y3, y4, y5, y6, y7, y8, y9, y10, y11, y12⟩ := q1.2.2.1 i hi
    obtain ⟨g1, g2, g3, g4⟩ := wf.1.2.1 i hi
    have fE : f_name S (Int32.ofNat i) c = if c = Int32.ofNat 0 then (-2, S) else if e_un (a_E S.1 i) < 20 then (Int32.ofNat (e_un (a_E S.1 i) + 1), put_E S i (e_setN (a_E S.1 i) c)) else (-4, S) := by
      rw [f_name, ex]
    rw [fE]
    simp (disch := omega) only [s1.1, md_f s1, md_i s1, y2, qi_mul, b01_z, am_hs, qi_lt, qi_le, qi_eq, qi_nn, qi_in, qi_add, qi_l, ql_i, ql_lt, ql_le, ql_eq, ql_add, qc_lt, qc_eq, qc_ge, qc_gt, qc_le, true_and, and_true, and_self, true_or, or_true, false_or, or_false, false_and, and_false, not_true_eq_false, not_false_eq_true, Classical.not_not, true_implies, false_implies, implies_true, exists_eq_left, exists_eq_left', Option.some.injEq, reduceIte, Nat.reduceEqDiff, Nat.reduceLT, Nat.reduceLeDiff, Nat.reduceAdd, Nat.reduceSub, Nat.reduceMul, eq_self, ne_eq, and_imp, forall_const, reduceCtorEq, am_w, List.map_cons, List.map_nil, List.sum_cons, List.sum_nil, Value.category, Nat.zero_le, Nat.le_refl]
    refine ⟨fun w => absurd w (by simp), fun _ => ⟨fun w => ?_, fun w => by rw [if_pos w]; exact ⟨rfl, q0⟩⟩⟩
    rw [if_neg w]
    refine ⟨by omega, fun w2 => ?_, fun w2 => by rw [if_neg (by omega)]; exact ⟨rfl, q0⟩⟩
    rw [if_pos (by omega)]
    refine ⟨by omega, by omega, by omega, by omega, by omega, rfl, q0.tr ?_⟩
    refine q1.upE wf (i := i) (mfr.sA.tr mfr.sA) (fun f _ => rfl) (fun k j z => ?_) (fun j _ => rfl) ?_
    · simp only [am_hs, md_i s1]
      unfold tch at z
      rw [if_neg (by omega), if_neg (by omega)]
    · refine ⟨?_, ?_, ?_, ?_, ?_, ?_, ?_, ?_, ?_, ?_, ?_, ?_⟩ <;> (try simp only [am_hs, md_i s1, true_and, and_true, and_self, true_or, or_true, false_or, or_false, false_and, and_false, not_true_eq_false, not_false_eq_true, Classical.not_not, true_implies, false_implies, implies_true, exists_eq_left, exists_eq_left', Option.some.injEq, reduceIte, Nat.reduceEqDiff, Nat.reduceLT, Nat.reduceLeDiff, Nat.reduceAdd, Nat.reduceSub, Nat.reduceMul, eq_self, ne_eq, and_imp, forall_const, reduceCtorEq, am_w, List.map_cons, List.map_nil, List.sum_cons, List.sum_nil, Value.category, Nat.zero_le, Nat.le_refl]) <;> (try first | exact y1 | exact y4 | exact y5 | exact y6 | exact y7 | exact y8 | exact y9 | exact y10 | exact y11 | exact y12 | rfl)
      intro j hj
      have hj' : j < e_un (a_E S.1 i) + 1 := hj
      show _ = va_up (e_nm (a_E S.1 i)) (e_un (a_E S.1 i)) c j
      unfold va_up
      by_cases e : j = e_un (a_E S.1 i)
      · subst e; rw [if_pos rfl, if_pos rfl]
      · rw [if_neg (by omega), if_neg e]
        exact y3 j (by omega)
end MB
