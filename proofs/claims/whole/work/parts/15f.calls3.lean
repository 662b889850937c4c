/-! deps: 15e -/
/-! ===== the class's calls: seal, clear, entry, number, at, coderAt, coder, peek, poke ===== -/
section PE
variable {tt : Nat → Nat} {P : Nat → Prop} {h h' : am_H} {cd : Nat → Nat} {bb : Nat → Nat → Nat} {wa wt : Nat} {S : sS}
theorem ct_seal (q : RC tt P h cd bb wa wt S) {x : Int32} : am_Ct tt 123 [.ref (cd 0), .int x] h (am_pI (fun r h' => r = (f_seal S x).1 ∧ okC tt P h cd bb wa wt (f_seal S x).2 h') no_x) := by
  have q' := q
  have qt := q.tp
  obtain ⟨⟨s1, s2, s3, s4, s5, s6, s7⟩, v, q3, q4, q5, q6, q7⟩ := q
  obtain ⟨x1, x2, x3, x4, x5, x6, x7⟩ := s4
  have st := (s5 wt s2).2
  have n5 := q4.2.1
  have eA : ∀ j, j < S.2.1 → am_A h (cd (c_tb wt)) j = S.2.2.1 j := fun j hj => (q4.2.2 j hj).1
  refine vc_123_0 tt _ _ h _ _ ?_
  have n01 : ¬ Int32.ofNat 0 = Int32.ofNat 1 := by decide
  have n10 : ¬ Int32.ofNat 1 = Int32.ofNat 0 := by decide
  -- the head sealed
  have hd : 32 ≤ S.2.1 → okC tt P h cd bb wa wt (put_T S S.2.1 (slh S.2.2.1)) (am_cA h (cd (c_tb wt)) (lay (am_A h (cd (c_tb wt))) 8 (ck (am_A h (cd (c_tb wt))) 12 20).toInt64 4)) := by
    intro h32
    refine q'.upS (fun j hj => ?_)
    rw [ck_fr (f := am_A h (cd (c_tb wt))) (g := S.2.2.1) (fun j h1 h2 => eA j (by omega))]
    refine ⟨?_, lay_8 (q4.2.2 j hj).2⟩
    unfold slh lay
    rw [eA j hj]
  by_cases c0 : x = Int32.ofNat 0
  · subst c0
    simp (disch := omega) only [x1, x4, st.1, q4.1, n01, am_hs, qi_lt, qi_le, qi_eq, qi_nn, qi_in, qi_add, qi_l, ql_i, ql_lt, ql_le, ql_eq, ql_add, qc_lt, qc_eq, qc_ge, qc_gt, qc_le, true_and, and_true, and_self, true_or, or_true, false_or, or_false, false_and, and_false, not_true_eq_false, not_false_eq_true, Classical.not_not, true_implies, false_implies, implies_true, exists_eq_left, exists_eq_left', Option.some.injEq, reduceIte, Nat.reduceEqDiff, Nat.reduceLT, Nat.reduceLeDiff, Nat.reduceAdd, Nat.reduceSub, Nat.reduceMul, eq_self, ne_eq, and_imp, forall_const, reduceCtorEq, am_w, List.map_cons, List.map_nil, List.sum_cons, List.sum_nil, Value.category, Nat.zero_le, Nat.le_refl]
    refine ⟨fun z => ?_, fun z => ⟨_, _, ct_sealHead q6 qt (by omega), fun k e => ?_, fun _ _ z => z⟩⟩
    · rw [f_seal, if_pos rfl, if_pos z]; exact ⟨rfl, okC.rf q'⟩
    · subst e
      rw [f_seal, if_pos rfl, if_neg z]
      exact ⟨rfl, hd (by omega)⟩
  · by_cases c1 : x = Int32.ofNat 1
    · subst c1
      simp (disch := omega) only [x1, x4, st.1, q4.1, n10, am_hs, qi_lt, qi_le, qi_eq, qi_nn, qi_in, qi_add, qi_l, ql_i, ql_lt, ql_le, ql_eq, ql_add, qc_lt, qc_eq, qc_ge, qc_gt, qc_le, true_and, and_true, and_self, true_or, or_true, false_or, or_false, false_and, and_false, not_true_eq_false, not_false_eq_true, Classical.not_not, true_implies, false_implies, implies_true, exists_eq_left, exists_eq_left', Option.some.injEq, reduceIte, Nat.reduceEqDiff, Nat.reduceLT, Nat.reduceLeDiff, Nat.reduceAdd, Nat.reduceSub, Nat.reduceMul, eq_self, ne_eq, and_imp, forall_const, reduceCtorEq, am_w, List.map_cons, List.map_nil, List.sum_cons, List.sum_nil, Value.category, Nat.zero_le, Nat.le_refl]
      rw [f_seal, if_neg n10, if_pos rfl]
      refine ⟨fun z => ?_, fun z => ⟨_, _, ct_hasTold qt (by omega), fun r k e => ?_, fun _ _ z => z⟩⟩
      · rw [if_pos (Or.inl z)]; exact ⟨rfl, okC.rf q'⟩
      · obtain ⟨ek, e⟩ := e
        subst k
        rw [told_fr eA (by omega)] at e
        rcases e with ⟨e1, e2⟩ | ⟨e1, e2⟩
        · subst e1
          obtain ⟨o, zz, eo, ez, ln⟩ := told_o e2 n5
          have eo' : lt (am_A h (cd (c_tb wt))) 12 8 = Int64.ofNat o := by rw [lt_fr (g := S.2.2.1) (fun j _ h2 => eA j (by omega)), eo]
          rw [if_neg (fun w => w.elim z (fun w => by rw [toldB_t.2 e2] at w; cases w))]
          simp (disch := omega) only [x1, x4, st.1, q4.1, n10, am_hs, qi_lt, qi_le, qi_eq, qi_nn, qi_in, qi_add, qi_l, ql_i, ql_lt, ql_le, ql_eq, ql_add, qc_lt, qc_eq, qc_ge, qc_gt, qc_le, true_and, and_true, and_self, true_or, or_true, false_or, or_false, false_and, and_false, not_true_eq_false, not_false_eq_true, Classical.not_not, true_implies, false_implies, implies_true, exists_eq_left, exists_eq_left', Option.some.injEq, reduceIte, Nat.reduceEqDiff, Nat.reduceLT, Nat.reduceLeDiff, Nat.reduceAdd, Nat.reduceSub, Nat.reduceMul, eq_self, ne_eq, and_imp, forall_const, reduceCtorEq, am_w, List.map_cons, List.map_nil, List.sum_cons, List.sum_nil, Value.category, Nat.zero_le, Nat.le_refl]
          refine ⟨_, _, ct_sealHeader q6 qt (by omega) eo' (by omega), fun k e => ?_, fun _ _ z => z⟩
          subst e
          simp (disch := omega) only [x1, x4, st.1, am_hs, qi_lt, qi_le, qi_eq, qi_nn, qi_in, qi_add, qi_l, ql_i, ql_lt, ql_le, ql_eq, ql_add, qc_lt, qc_eq, qc_ge, qc_gt, qc_le, true_and, and_true, and_self, true_or, or_true, false_or, or_false, false_and, and_false, not_true_eq_false, not_false_eq_true, Classical.not_not, true_implies, false_implies, implies_true, exists_eq_left, exists_eq_left', Option.some.injEq, reduceIte, Nat.reduceEqDiff, Nat.reduceLT, Nat.reduceLeDiff, Nat.reduceAdd, Nat.reduceSub, Nat.reduceMul, eq_self, ne_eq, and_imp, forall_const, reduceCtorEq, am_w, List.map_cons, List.map_nil, List.sum_cons, List.sum_nil, Value.category, Nat.zero_le, Nat.le_refl]
          have up : okC tt P h cd bb wa wt (put_T S S.2.1 (slo S.2.2.1 S.2.1)) (am_cA h (cd (c_tb wt)) (lay (am_A h (cd (c_tb wt))) 28 (ck (am_A h (cd (c_tb wt))) (32 + o) (S.2.1 - (32 + o))).toInt64 4)) := by
            refine q'.upS (fun j hj => ?_)
            rw [ck_fr (f := am_A h (cd (c_tb wt))) (g := S.2.2.1) (fun j h1 h2 => eA j (by omega))]
            have on : (Int64.ofNat o).toNatClampNeg = o := Int64.toNatClampNeg_ofNat_of_lt (by omega)
            refine ⟨?_, lay_8 (q4.2.2 j hj).2⟩
            unfold slo lay
            rw [eA j hj, eo, on]
          have qk := up.1
          generalize am_cA h (cd (c_tb wt)) (lay (am_A h (cd (c_tb wt))) 28 (ck (am_A h (cd (c_tb wt))) (32 + o) (S.2.1 - (32 + o))).toInt64 4) = k at up qk ⊢
          refine ⟨_, _, ct_sealHead qk.2.2.2.2.2.1 qk.tp (by show 32 ≤ S.2.1; omega), fun k' e => ?_, fun _ _ z => z⟩
          subst e
          refine up.tr ?_
          have eK : ∀ j, j < S.2.1 → am_A k (cd (c_tb wt)) j = slo S.2.2.1 S.2.1 j := fun j hj => (qk.2.2.2.1.2.2 j hj).1
          have := qk.upS (T := slh (slo S.2.2.1 S.2.1)) (f := lay (am_A k (cd (c_tb wt))) 8 (ck (am_A k (cd (c_tb wt))) 12 20).toInt64 4) (fun j hj => by
            have hj' : j < S.2.1 := hj
            rw [ck_fr (f := am_A k (cd (c_tb wt))) (g := slo S.2.2.1 S.2.1) (fun j h1 h2 => eK j (by omega))]
            refine ⟨?_, lay_8 (qk.2.2.2.1.2.2 j hj).2⟩
            unfold slh lay
            rw [eK j hj'])
          exact this
        · subst e1
          rw [if_pos (Or.inr (by cases w : toldB S.2.2.1 S.2.1 with
            | false => rfl
            | true => exact absurd (toldB_t.1 w) e2))]
          simp (disch := omega) only [qi_lt, qi_le, qi_eq, qi_nn, qi_in, qi_add, qi_l, ql_i, ql_lt, ql_le, ql_eq, ql_add, qc_lt, qc_eq, qc_ge, qc_gt, qc_le, true_and, and_true, and_self, true_or, or_true, false_or, or_false, false_and, and_false, not_true_eq_false, not_false_eq_true, Classical.not_not, true_implies, false_implies, implies_true, exists_eq_left, exists_eq_left', Option.some.injEq, reduceIte, Nat.reduceEqDiff, Nat.reduceLT, Nat.reduceLeDiff, Nat.reduceAdd, Nat.reduceSub, Nat.reduceMul, eq_self, ne_eq, and_imp, forall_const, reduceCtorEq, am_w, List.map_cons, List.map_nil, List.sum_cons, List.sum_nil, Value.category, Nat.zero_le, Nat.le_refl]
          exact okC.rf q'
    · simp (disch := omega) only [c0, c1, am_hs, qi_lt, qi_le, qi_eq, qi_nn, qi_in, qi_add, qi_l, ql_i, ql_lt, ql_le, ql_eq, ql_add, qc_lt, qc_eq, qc_ge, qc_gt, qc_le, true_and, and_true, and_self, true_or, or_true, false_or, or_false, false_and, and_false, not_true_eq_false, not_false_eq_true, Classical.not_not, true_implies, false_implies, implies_true, exists_eq_left, exists_eq_left', Option.some.injEq, reduceIte, Nat.reduceEqDiff, Nat.reduceLT, Nat.reduceLeDiff, Nat.reduceAdd, Nat.reduceSub, Nat.reduceMul, eq_self, ne_eq, and_imp, forall_const, reduceCtorEq, am_w, List.map_cons, List.map_nil, List.sum_cons, List.sum_nil, Value.category, Nat.zero_le, Nat.le_refl]
      rw [f_seal, if_neg c0, if_neg c1]
      exact ⟨rfl, okC.rf q'⟩
/-- the archive changes: its count, kinds of its objects -/
theorem RC.upA (q : RC tt P h cd bb wa wt S) {a' : sA} (hK : am_K h' = am_K h) (hN : am_N h' = am_N h) (hR : am_R h' = am_R h) (hC : am_C h' = am_C h)
    (hI : ∀ c k a, (¬ (c = 0 ∨ c = 1 ∨ c = 4)) ∨ (∀ j, a ≠ cd j) → am_I h' c k a = am_I h c k a) (hJ : ∀ c k a, (∀ j, a ≠ cd j) → am_J h' c k a = am_J h c k a) (hA : am_A h' = am_A h) (hB : am_B h' = am_B h)
    (hv : car_v h' cd bb wa a') (hw : wfA a') (hU : am_U h' = am_U h) (hV : am_V h' = am_V h) : okC tt P h cd bb wa wt (a', S.2) h' := by
  obtain ⟨q1, q2, q3, q4, q5, q6, q7⟩ := q
  refine ⟨⟨q1.t hK hN hR hC, hv, hw, ⟨?_, q4.2.1, ?_⟩, ?_, ?_, ?_⟩, ?_, hU, hV, hN⟩
  · rw [hI _ _ _ (Or.inl (by omega))]; exact q4.1
  · intro j hj
    rw [hA]
    exact q4.2.2 j hj
  · rw [hI _ _ _ (Or.inl (by omega))]; exact q5
  · exact tk_t q6 hK hN (fun a _ => by rw [hA])
  · intro a ha
    rw [hK]
    exact q7 a ha
  · intro a ha
    obtain ⟨p1, p2, p3⟩ := q7 a ha
    exact ⟨by rw [hK], by rw [hN], by rw [hA], by rw [hB], by rw [hC], fun c k => hI c k a (Or.inr p2), fun c k => hJ c k a p2, fun c k => by rw [hR]⟩
theorem emp_I {w k : Nat} : ∀ {n : Nat}, (∀ c f a, (¬ (c = 0 ∨ c = 1)) ∨ (∀ j, a ≠ cd j) → am_I (emp h cd w n) c f a = am_I h c f a) ∧ (ci_s cd bb → am_I (emp h cd w n) 0 1 (cd (c_ar w)) = Int32.ofNat 0 ∧ ∀ b, b < n → am_I (emp h cd w n) 1 2 (cd (c_bk w b)) = Int32.ofNat 0 ∧ am_I (emp h cd w n) 1 3 (cd (c_bk w b)) = Int32.ofNat 1)
  | 0 => ⟨fun c f a z => by
      unfold emp
      simp only [am_hs]
      rw [if_neg (fun w => by rcases z with z | z; exact z (Or.inl w.1); exact z _ w.2.2)], fun i => ⟨by unfold emp; simp only [am_hs, true_and, and_true, and_self, true_or, or_true, false_or, or_false, false_and, and_false, not_true_eq_false, not_false_eq_true, Classical.not_not, true_implies, false_implies, implies_true, exists_eq_left, exists_eq_left', Option.some.injEq, reduceIte, Nat.reduceEqDiff, Nat.reduceLT, Nat.reduceLeDiff, Nat.reduceAdd, Nat.reduceSub, Nat.reduceMul, eq_self, ne_eq, and_imp, forall_const, reduceCtorEq, am_w, List.map_cons, List.map_nil, List.sum_cons, List.sum_nil, Value.category, Nat.zero_le, Nat.le_refl], fun b hb => by omega⟩⟩
  | n + 1 => by
    obtain ⟨i1, i2⟩ := emp_I (k := k) (n := n) (w := w)
    refine ⟨fun c f a z => ?_, fun i => ⟨?_, fun b hb => ?_⟩⟩
    · unfold emp
      simp only [am_hs]
      have : ¬ (c = 1 ∧ a = cd (c_bk w n)) := fun w => by rcases z with z | z; exact z (Or.inr w.1); exact z _ w.2
      rw [if_neg (fun w => this ⟨w.1, w.2.2⟩), if_neg (fun w => this ⟨w.1, w.2.2⟩)]
      exact i1 c f a z
    · unfold emp
      simp only [am_hs, true_and, and_true, and_self, true_or, or_true, false_or, or_false, false_and, and_false, not_true_eq_false, not_false_eq_true, Classical.not_not, true_implies, false_implies, implies_true, exists_eq_left, exists_eq_left', Option.some.injEq, reduceIte, Nat.reduceEqDiff, Nat.reduceLT, Nat.reduceLeDiff, Nat.reduceAdd, Nat.reduceSub, Nat.reduceMul, eq_self, ne_eq, and_imp, forall_const, reduceCtorEq, am_w, List.map_cons, List.map_nil, List.sum_cons, List.sum_nil, Value.category, Nat.zero_le, Nat.le_refl]
      exact (i2 i).1
    · unfold emp
      simp only [am_hs, ci_bk i, true_and, and_true, and_self, true_or, or_true, false_or, or_false, false_and, and_false, not_true_eq_false, not_false_eq_true, Classical.not_not, true_implies, false_implies, implies_true, exists_eq_left, exists_eq_left', Option.some.injEq, reduceIte, Nat.reduceEqDiff, Nat.reduceLT, Nat.reduceLeDiff, Nat.reduceAdd, Nat.reduceSub, Nat.reduceMul, eq_self, ne_eq, and_imp, forall_const, reduceCtorEq, am_w, List.map_cons, List.map_nil, List.sum_cons, List.sum_nil, Value.category, Nat.zero_le, Nat.le_refl]
      by_cases c : b = n
      · subst c; simp only [true_and, and_true, and_self, true_or, or_true, false_or, or_false, false_and, and_false, not_true_eq_false, not_false_eq_true, Classical.not_not, true_implies, false_implies, implies_true, exists_eq_left, exists_eq_left', Option.some.injEq, reduceIte, Nat.reduceEqDiff, Nat.reduceLT, Nat.reduceLeDiff, Nat.reduceAdd, Nat.reduceSub, Nat.reduceMul, eq_self, ne_eq, and_imp, forall_const, reduceCtorEq, am_w, List.map_cons, List.map_nil, List.sum_cons, List.sum_nil, Value.category, Nat.zero_le, Nat.le_refl]
      · simp only [c, true_and, and_true, and_self, true_or, or_true, false_or, or_false, false_and, and_false, not_true_eq_false, not_false_eq_true, Classical.not_not, true_implies, false_implies, implies_true, exists_eq_left, exists_eq_left', Option.some.injEq, reduceIte, Nat.reduceEqDiff, Nat.reduceLT, Nat.reduceLeDiff, Nat.reduceAdd, Nat.reduceSub, Nat.reduceMul, eq_self, ne_eq, and_imp, forall_const, reduceCtorEq, am_w, List.map_cons, List.map_nil, List.sum_cons, List.sum_nil, Value.category, Nat.zero_le, Nat.le_refl]
        exact (i2 i).2 b (by omega)
theorem ct_clear (q : RC tt P h cd bb wa wt S) : am_Ct tt 125 [.ref (cd 0)] h (am_pI (fun r h' => r = (f_clear S).1 ∧ okC tt P h cd bb wa wt (f_clear S).2 h') no_x) := by
  have q' := q
  obtain ⟨⟨s1, s2, s3, s4, s5, s6, s7⟩, ⟨v1, v2, v3⟩, q3, q4, q5, q6, q7⟩ := q
  obtain ⟨x1, x2, x3, x4, x5, x6, x7⟩ := s4
  have sa := (s5 wa s1).1
  refine vc_125_0 tt _ h _ _ ?_
  simp (disch := omega) only [x1, x2, sa.1, v1, am_hs, qi_lt, qi_le, qi_eq, qi_nn, qi_in, qi_add, qi_l, ql_i, ql_lt, ql_le, ql_eq, ql_add, qc_lt, qc_eq, qc_ge, qc_gt, qc_le, true_and, and_true, and_self, true_or, or_true, false_or, or_false, false_and, and_false, not_true_eq_false, not_false_eq_true, Classical.not_not, true_implies, false_implies, implies_true, exists_eq_left, exists_eq_left', Option.some.injEq, reduceIte, Nat.reduceEqDiff, Nat.reduceLT, Nat.reduceLeDiff, Nat.reduceAdd, Nat.reduceSub, Nat.reduceMul, eq_self, ne_eq, and_imp, forall_const, reduceCtorEq, am_w, List.map_cons, List.map_nil, List.sum_cons, List.sum_nil, Value.category, Nat.zero_le, Nat.le_refl]
  refine ⟨_, _, ct_aempty sa, fun k e => ?_, fun _ _ z => z⟩
  subst e
  refine ⟨rfl, ?_⟩
  obtain ⟨e1, e2, e3, e4, e5, e6, e7, e8, e9⟩ := emp_fr (h := h) (cd := cd) (w := wa) (k := 6)
  obtain ⟨i1, i2⟩ := emp_I (h := h) (cd := cd) (bb := bb) (w := wa) (k := 0) (n := 6)
  have i3 := i2 s3
  refine q'.upA e1 e2 e3 e4 (fun c k a z => i1 c k a (z.imp (fun z => by omega) id)) (fun c k a _ => by rw [e5]) e6 e7 ⟨i3.1, fun i hi => absurd hi (Nat.not_lt_zero i), fun b hb => ?_⟩ ⟨Nat.zero_le _, fun i hi => absurd hi (Nat.not_lt_zero i), fun b hb => ⟨Nat.zero_le _, fun _ c hc => absurd hc (Nat.not_lt_zero c)⟩, Nat.zero_le _⟩ e8 e9
  obtain ⟨j1, j2⟩ := i3.2 b hb
  exact ⟨j2, 0, Nat.zero_le _, j1, fun c hc => absurd hc (Nat.not_lt_zero c), fun _ => ⟨rfl, fun c hc => absurd hc (Nat.not_lt_zero c)⟩⟩
theorem sbg_up {a : sA} {n : Nat} {e : sE} : ∀ {k : Nat}, k ≤ n → sbg (a_n a + 1, va_up (a_E a) n e, a_B a) k = sbg a k
  | 0, _ => rfl
  | k + 1, hk => by
    have e1 : va_up (a_E a) n e k = a_E a k := by rw [va_up, if_neg (by omega)]
    have ih := sbg_up (a := a) (n := n) (e := e) (k := k) (by omega)
    unfold sbg
    rw [ih]
    show _ + (if b_kn (a_B a (e_hm (va_up (a_E a) n e k))) = true ∧ 120 < e_sz (va_up (a_E a) n e k) then e_sz (va_up (a_E a) n e k) else 0) = _
    rw [e1]
    rfl
theorem en_b_fr {e : Nat} {k : Int32} : am_K (en_b h e k) = am_K h ∧ am_N (en_b h e k) = am_N h ∧ am_R (en_b h e k) = am_R h ∧ am_C (en_b h e k) = am_C h ∧ am_J (en_b h e k) = am_J h ∧ am_A (en_b h e k) = am_A h ∧ am_B (en_b h e k) = am_B h ∧ am_U (en_b h e k) = am_U h ∧ am_V (en_b h e k) = am_V h := by
  unfold en_b
  simp only [am_hs, and_self]
theorem en_b_I {e : Nat} {k : Int32} : (∀ c f a, ¬ (c = 4 ∧ a = e) → am_I (en_b h e k) c f a = am_I h c f a) ∧ am_I (en_b h e k) 4 4 e = k ∧ am_I (en_b h e k) 4 1 e = Int32.ofNat 0 ∧ am_I (en_b h e k) 4 3 e = Int32.ofNat 0 ∧ am_I (en_b h e k) 4 5 e = Int32.ofNat 0 ∧ am_I (en_b h e k) 4 6 e = Int32.ofNat 0 ∧ am_I (en_b h e k) 4 7 e = Int32.ofNat 0 ∧ am_I (en_b h e k) 4 9 e = Int32.ofNat 0 ∧ am_I (en_b h e k) 4 11 e = Int32.ofNat 0 ∧ am_I (en_b h e k) 4 12 e = Int32.ofNat 0 := by
  refine ⟨fun c f a z1 => ?_, ?_⟩
  · unfold en_b
    simp only [am_hs]
    have z : ∀ g, ¬ (c = 4 ∧ f = g ∧ a = e) := fun g w => z1 ⟨w.1, w.2.2⟩
    rw [if_neg (z _), if_neg (z _), if_neg (z _), if_neg (z _), if_neg (z _), if_neg (z _), if_neg (z _), if_neg (z _), if_neg (z _)]
  · unfold en_b
    simp only [am_hs, true_and, and_true, and_self, true_or, or_true, false_or, or_false, false_and, and_false, not_true_eq_false, not_false_eq_true, Classical.not_not, true_implies, false_implies, implies_true, exists_eq_left, exists_eq_left', Option.some.injEq, reduceIte, Nat.reduceEqDiff, Nat.reduceLT, Nat.reduceLeDiff, Nat.reduceAdd, Nat.reduceSub, Nat.reduceMul, eq_self, ne_eq, and_imp, forall_const, reduceCtorEq, am_w, List.map_cons, List.map_nil, List.sum_cons, List.sum_nil, Value.category, Nat.zero_le, Nat.le_refl]
theorem RC.add' (q : RC tt P h cd bb wa wt S) {k : Nat} (hk : k ≤ 1) (hn : a_n S.1 < 24) {h2 : am_H} (f1 : am_K h2 = am_K h) (f2 : am_N h2 = am_N h) (f3 : am_R h2 = am_R h) (f4 : am_C h2 = am_C h) (f5 : am_J h2 = am_J h) (f6 : am_A h2 = am_A h) (f7 : am_B h2 = am_B h) (f8 : am_U h2 = am_U h) (f9 : am_V h2 = am_V h)
    (i1 : ∀ c f a, ¬ (c = 4 ∧ a = cd (c_en wa (a_n S.1))) → am_I h2 c f a = am_I h c f a) (i2 : am_I h2 4 4 (cd (c_en wa (a_n S.1))) = Int32.ofNat k) (i3 : am_I h2 4 1 (cd (c_en wa (a_n S.1))) = Int32.ofNat 0) (i4 : am_I h2 4 3 (cd (c_en wa (a_n S.1))) = Int32.ofNat 0) (i5 : am_I h2 4 5 (cd (c_en wa (a_n S.1))) = Int32.ofNat 0) (i6 : am_I h2 4 6 (cd (c_en wa (a_n S.1))) = Int32.ofNat 0) (i7 : am_I h2 4 7 (cd (c_en wa (a_n S.1))) = Int32.ofNat 0) (i8 : am_I h2 4 9 (cd (c_en wa (a_n S.1))) = Int32.ofNat 0) (i10 : am_I h2 4 12 (cd (c_en wa (a_n S.1))) = Int32.ofNat 0) :
    okC tt P h cd bb wa wt ((a_n S.1 + 1, va_up (a_E S.1) (a_n S.1) (frE k), a_B S.1), S.2) (am_sI h2 0 1 (cd (c_ar wa)) (Int32.ofNat (a_n S.1 + 1))) := by
  have q' := q
  obtain ⟨⟨s1, s2, s3, s4, s5, s6, s7⟩, ⟨v1, v2, v3⟩, q3, q4, q5, q6, q7⟩ := q
  have nI : ∀ c f a, ¬ (c = 4 ∧ a = cd (c_en wa (a_n S.1))) → ¬ (c = 0 ∧ a = cd (c_ar wa)) → am_I (am_sI h2 0 1 (cd (c_ar wa)) (Int32.ofNat (a_n S.1 + 1))) c f a = am_I h c f a := by
    intro c f a z1 z2
    simp only [am_hs]
    rw [if_neg (fun w => z2 ⟨w.1, w.2.2⟩)]
    exact i1 c f a z1
  refine q'.upA (h' := am_sI h2 0 1 (cd (c_ar wa)) (Int32.ofNat (a_n S.1 + 1))) f1 f2 f3 f4 (fun c f a z => nI c f a (fun w => ?_) (fun w => ?_)) (fun _ _ _ _ => congrFun (congrFun (congrFun f5 _) _) _) f6 f7 ⟨?_, fun i hi => ?_, fun b hb => ?_⟩ ⟨?_, fun i hi => ?_, q3.2.2.1, ?_⟩ f8 f9
  · rcases z with z | z
    · exact z (by omega)
    · exact z _ w.2
  · rcases z with z | z
    · exact z (by omega)
    · exact z _ w.2
  · simp only [am_hs, true_and, and_true, and_self, true_or, or_true, false_or, or_false, false_and, and_false, not_true_eq_false, not_false_eq_true, Classical.not_not, true_implies, false_implies, implies_true, exists_eq_left, exists_eq_left', Option.some.injEq, reduceIte, Nat.reduceEqDiff, Nat.reduceLT, Nat.reduceLeDiff, Nat.reduceAdd, Nat.reduceSub, Nat.reduceMul, eq_self, ne_eq, and_imp, forall_const, reduceCtorEq, am_w, List.map_cons, List.map_nil, List.sum_cons, List.sum_nil, Value.category, Nat.zero_le, Nat.le_refl]
    rfl
  · have hi' : i < a_n S.1 + 1 := hi
    show ce_v _ _ _ _ (va_up (a_E S.1) (a_n S.1) (frE k) i) (b_kn (a_B S.1 (e_hm (va_up (a_E S.1) (a_n S.1) (frE k) i))) = true)
    by_cases c : i = a_n S.1
    · subst c
      rw [va_up, if_pos rfl]
      refine ⟨?_, ?_, ?_, ?_, ?_, ?_, ?_, ?_, ?_, ?_, ?_, ?_⟩ <;> (try simp only [am_hs, true_and, and_true, and_self, true_or, or_true, false_or, or_false, false_and, and_false, not_true_eq_false, not_false_eq_true, Classical.not_not, true_implies, false_implies, implies_true, exists_eq_left, exists_eq_left', Option.some.injEq, reduceIte, Nat.reduceEqDiff, Nat.reduceLT, Nat.reduceLeDiff, Nat.reduceAdd, Nat.reduceSub, Nat.reduceMul, eq_self, ne_eq, and_imp, forall_const, reduceCtorEq, am_w, List.map_cons, List.map_nil, List.sum_cons, List.sum_nil, Value.category, Nat.zero_le, Nat.le_refl]) <;> first | exact i2 | exact i3 | exact i4 | exact i5 | exact i6 | exact i7 | exact i8 | exact i10 | exact (fun j hj => absurd hj (Nat.not_lt_zero j)) | exact (fun t ht => absurd (show none = some t from ht) (by simp)) | exact (fun _ => ⟨Nat.zero_le _, fun j hj => absurd hj (Nat.not_lt_zero j)⟩)
    · rw [va_up, if_neg c]
      exact (v2 i (by omega)).same (fun f => nI _ _ _ (fun w => c (by have := w.2; rw [ci_en s3] at this; exact this)) (by omega)) (congrFun (congrFun (congrFun f5 _) _) _) (congrFun f6 _) (congrFun f6 _) (congrFun f2 _)
  · exact (v3 b hb).same (fun f => nI _ _ _ (by omega) (by omega)) (congrFun f6 _) (congrFun f6 _)
  · show a_n S.1 + 1 ≤ 24
    omega
  · have hi' : i < a_n S.1 + 1 := hi
    show wfE (va_up (a_E S.1) (a_n S.1) (frE k) i)
    by_cases c : i = a_n S.1
    · subst c
      rw [va_up, if_pos rfl]
      exact ⟨hk, Nat.zero_le _, Nat.zero_le _, by show 0 < 6; omega⟩
    · rw [va_up, if_neg c]
      exact q3.2.1 i (by omega)
  · show sbg (a_n S.1 + 1, va_up (a_E S.1) (a_n S.1) (frE k), a_B S.1) (a_n S.1 + 1) ≤ 4968
    unfold sbg
    rw [sbg_up (Nat.le_refl _), if_neg]
    · exact q3.2.2.2
    · intro w
      have := w.2
      show False
      have e1 : a_E (a_n S.1 + 1, va_up (a_E S.1) (a_n S.1) (frE k), a_B S.1) (a_n S.1) = frE k := by
        show va_up (a_E S.1) (a_n S.1) (frE k) (a_n S.1) = _
        rw [va_up, if_pos rfl]
      rw [e1] at this
      exact absurd this (by show ¬ 120 < 0; omega)
theorem RC.add (q : RC tt P h cd bb wa wt S) {k : Nat} (hk : k ≤ 1) (hn : a_n S.1 < 24) : okC tt P h cd bb wa wt ((a_n S.1 + 1, va_up (a_E S.1) (a_n S.1) (frE k), a_B S.1), S.2) (am_sI (en_b h (cd (c_en wa (a_n S.1))) (Int32.ofNat k)) 0 1 (cd (c_ar wa)) (Int32.ofNat (a_n S.1 + 1))) := by
  obtain ⟨f1, f2, f3, f4, f5, f6, f7, f8, f9⟩ := en_b_fr (h := h) (e := cd (c_en wa (a_n S.1))) (k := Int32.ofNat k)
  obtain ⟨i1, i2, i3, i4, i5, i6, i7, i8, i9, i10⟩ := en_b_I (h := h) (e := cd (c_en wa (a_n S.1))) (k := Int32.ofNat k)
  exact q.add' hk hn f1 f2 f3 f4 f5 f6 f7 f8 f9 i1 i2 i3 i4 i5 i6 i7 i8 i10
theorem ct_entry (q : RC tt P h cd bb wa wt S) {x : Int32} : am_Ct tt 104 [.ref (cd 0), .int x] h (am_pI (fun r h' => r = (f_entry S x).1 ∧ okC tt P h cd bb wa wt (f_entry S x).2 h') no_x) := by
  have q' := q
  obtain ⟨⟨s1, s2, s3, s4, s5, s6, s7⟩, ⟨v1, v2, v3⟩, q3, q4, q5, q6, q7⟩ := q
  obtain ⟨x1, x2, x3, x4, x5, x6, x7⟩ := s4
  have sa := (s5 wa s1).1
  have n24 := q3.1
  have n01 : ¬ Int32.ofNat 0 = Int32.ofNat 1 := by decide
  have n10 : ¬ Int32.ofNat 1 = Int32.ofNat 0 := by decide
  refine vc_104_0 tt _ _ h _ _ ?_
  have go : ∀ k, k ≤ 1 → x = Int32.ofNat k → f_entry S x = if a_n S.1 < 24 then (Int32.ofNat (a_n S.1), ((a_n S.1 + 1, va_up (a_E S.1) (a_n S.1) (frE k), a_B S.1), S.2)) else (-4, S) := by
    intro k hk e
    subst e
    rw [f_entry, if_pos (by have : k = 0 ∨ k = 1 := by omega
                            rcases this with rfl | rfl <;> simp), qi_nn (by omega)]
  have st : ∀ k, k ≤ 1 → x = Int32.ofNat k → ∀ h3, (h3 = if a_n S.1 < 24 then am_sI (en_b h (cd (c_en wa (a_n S.1))) x) 0 1 (cd (c_ar wa)) (Int32.ofNat (a_n S.1 + 1)) else h) → a_n S.1 < 24 → am_K h3 (cd 0) = 10 ∧ ∃ q2, am_R h3 9 0 (cd 0) = some q2 ∧ am_K h3 q2 = 1 ∧ (am_I h3 0 1 q2 - Int32.ofNat 1 = (f_entry S x).1 ∧ okC tt P h cd bb wa wt (f_entry S x).2 h3) := by
    intro k hk e h3 e3 hn
    rw [if_pos hn] at e3
    rw [go k hk e, if_pos hn]
    subst e3 e
    refine ⟨x1, _, x2, sa.1, ?_, q'.add hk hn⟩
    simp only [am_hs, true_and, and_true, and_self, true_or, or_true, false_or, or_false, false_and, and_false, not_true_eq_false, not_false_eq_true, Classical.not_not, true_implies, false_implies, implies_true, exists_eq_left, exists_eq_left', Option.some.injEq, reduceIte, Nat.reduceEqDiff, Nat.reduceLT, Nat.reduceLeDiff, Nat.reduceAdd, Nat.reduceSub, Nat.reduceMul, eq_self, ne_eq, and_imp, forall_const, reduceCtorEq, am_w, List.map_cons, List.map_nil, List.sum_cons, List.sum_nil, Value.category, Nat.zero_le, Nat.le_refl]
    rw [qi_sub (by omega), Nat.add_sub_cancel]
  by_cases c0 : x = Int32.ofNat 0
  · simp (disch := omega) only [x1, x2, sa.1, v1, c0, n01, am_hs, qi_lt, qi_le, qi_eq, qi_nn, qi_in, qi_add, qi_l, ql_i, ql_lt, ql_le, ql_eq, ql_add, qc_lt, qc_eq, qc_ge, qc_gt, qc_le, true_and, and_true, and_self, true_or, or_true, false_or, or_false, false_and, and_false, not_true_eq_false, not_false_eq_true, Classical.not_not, true_implies, false_implies, implies_true, exists_eq_left, exists_eq_left', Option.some.injEq, reduceIte, Nat.reduceEqDiff, Nat.reduceLT, Nat.reduceLeDiff, Nat.reduceAdd, Nat.reduceSub, Nat.reduceMul, eq_self, ne_eq, and_imp, forall_const, reduceCtorEq, am_w, List.map_cons, List.map_nil, List.sum_cons, List.sum_nil, Value.category, Nat.zero_le, Nat.le_refl]
    refine ⟨fun z => ⟨_, _, ct_addEntry sa v1 n24, fun k e => ?_, fun _ _ z => z⟩, fun z => ?_⟩
    · exact c0 ▸ st 0 (by omega) c0 k (c0 ▸ e) z
    · have := go 0 (by omega) c0
      rw [c0] at this
      rw [this, if_neg z]; exact ⟨rfl, okC.rf q'⟩
  · by_cases c1 : x = Int32.ofNat 1
    · simp (disch := omega) only [x1, x2, sa.1, v1, c1, n10, am_hs, qi_lt, qi_le, qi_eq, qi_nn, qi_in, qi_add, qi_l, ql_i, ql_lt, ql_le, ql_eq, ql_add, qc_lt, qc_eq, qc_ge, qc_gt, qc_le, true_and, and_true, and_self, true_or, or_true, false_or, or_false, false_and, and_false, not_true_eq_false, not_false_eq_true, Classical.not_not, true_implies, false_implies, implies_true, exists_eq_left, exists_eq_left', Option.some.injEq, reduceIte, Nat.reduceEqDiff, Nat.reduceLT, Nat.reduceLeDiff, Nat.reduceAdd, Nat.reduceSub, Nat.reduceMul, eq_self, ne_eq, and_imp, forall_const, reduceCtorEq, am_w, List.map_cons, List.map_nil, List.sum_cons, List.sum_nil, Value.category, Nat.zero_le, Nat.le_refl]
      refine ⟨fun z => ⟨_, _, ct_addEntry sa v1 n24, fun k e => ?_, fun _ _ z => z⟩, fun z => ?_⟩
      · exact c1 ▸ st 1 (by omega) c1 k (c1 ▸ e) z
      · have := go 1 (by omega) c1
        rw [c1] at this
        rw [this, if_neg z]; exact ⟨rfl, okC.rf q'⟩
    · simp (disch := omega) only [c0, c1, am_hs, qi_lt, qi_le, qi_eq, qi_nn, qi_in, qi_add, qi_l, ql_i, ql_lt, ql_le, ql_eq, ql_add, qc_lt, qc_eq, qc_ge, qc_gt, qc_le, true_and, and_true, and_self, true_or, or_true, false_or, or_false, false_and, and_false, not_true_eq_false, not_false_eq_true, Classical.not_not, true_implies, false_implies, implies_true, exists_eq_left, exists_eq_left', Option.some.injEq, reduceIte, Nat.reduceEqDiff, Nat.reduceLT, Nat.reduceLeDiff, Nat.reduceAdd, Nat.reduceSub, Nat.reduceMul, eq_self, ne_eq, and_imp, forall_const, reduceCtorEq, am_w, List.map_cons, List.map_nil, List.sum_cons, List.sum_nil, Value.category, Nat.zero_le, Nat.le_refl]
      rw [f_entry, if_neg (fun w => w.elim c0 c1)]
      exact ⟨rfl, okC.rf q'⟩
end PE
