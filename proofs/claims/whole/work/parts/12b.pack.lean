/-! deps: 12a -/
/-! ===== the class's blocks: all coders ===== -/
theorem cdd_loc {d n : Nat} {g g' : Nat → Int32} (e : ∀ j, j < n → g j = g' j) : ∀ j, j < n → cdd d n g j = cdd d n g' j := by
  intro j hj
  simp only [cdd]
  rw [e j hj, e (j - d) (by omega)]
theorem cud_p {d n j : Nat} {g : Nat → Int32} (c : 0 < d ∧ d ≤ j ∧ j < n) : cud d n g j = by8 (g j + cud d n g (j - d)) := by rw [cud, dif_pos c]
theorem cud_n {d n j : Nat} {g : Nat → Int32} (c : ¬ (0 < d ∧ d ≤ j ∧ j < n)) : cud d n g j = g j := by rw [cud, dif_neg c]
theorem cud_loc {d n : Nat} {g g' : Nat → Int32} (e : ∀ j, j < n → g j = g' j) : ∀ j, j < n → cud d n g j = cud d n g' j := by
  intro j
  induction j using Nat.strongRecOn with
  | ind j ih =>
    intro hj
    by_cases c : 0 < d ∧ d ≤ j ∧ j < n
    · rw [cud_p c, cud_p c, e j hj, ih (j - d) (by omega) (by omega)]
    · rw [cud_n c, cud_n c, e j hj]
theorem ctn_ix {w n j : Nat} (hw : w = 2 ∨ w = 4) (h : j < w * (n / w)) : w * (j / w) + (w - 1 - j % w) < n := by
  rcases hw with rfl | rfl <;> omega
theorem ctn_loc {w n : Nat} (hw : w = 2 ∨ w = 4) {g g' : Nat → Int32} (e : ∀ j, j < n → g j = g' j) : ∀ j, j < n → ctn w n g j = ctn w n g' j := by
  intro j hj
  simp only [ctn]
  split
  · next c => rw [e _ (ctn_ix hw c)]
  · exact e j hj
theorem cop_loc {k : Int32} {d n : Nat} {g g' : Nat → Int32} (e : ∀ j, j < n → g j = g' j) : ∀ j, j < n → cop k d n g j = cop k d n g' j := by
  intro j hj
  unfold cop
  split
  · exact cdd_loc e j hj
  · split
    · exact ctn_loc (Or.inl rfl) e j hj
    · split
      · exact ctn_loc (Or.inr rfl) e j hj
      · exact e j hj
theorem cou_loc {k : Int32} {d n : Nat} {g g' : Nat → Int32} (e : ∀ j, j < n → g j = g' j) : ∀ j, j < n → cou k d n g j = cou k d n g' j := by
  intro j hj
  unfold cou
  split
  · exact cud_loc e j hj
  · split
    · exact ctn_loc (Or.inl rfl) e j hj
    · split
      · exact ctn_loc (Or.inr rfl) e j hj
      · exact e j hj
theorem ov_ext {f : Nat → Int32} {p n : Nat} {u v : Nat → Int32} (e : ∀ j, j < n → u j = v j) : ov f p n u = ov f p n v := by
  funext j
  simp only [ov]
  split
  · exact e _ (by omega)
  · rfl
/-- distances of DELTAs -/
def dl_s (ks ds : Nat → Int32) (n : Nat) : Prop := ∀ c, c < n → ks c = Int32.ofNat 1 → ∃ d, ds c = Int32.ofNat d ∧ 1 ≤ d ∧ d ≤ 256
theorem ct_pack {tt : Nat → Nat} {h : am_H} {k ka da n r p m : Nat} (s : bk_s h k ka da n) (hd : dl_s (am_A h ka) (am_A h da) n) (hr : am_K h r = 23) (hN : p + m ≤ am_N h r) (hL : am_N h r ≤ 60000) (hp : 1 ≤ p + m) : am_Ct tt 14 [.ref k, .ref r, .int (Int32.ofNat p), .int (Int32.ofNat (p + m))] h (am_pV (fun h' => h' = am_cA h r (ov (am_A h r) p m (cops (am_A h ka) (am_A h da) m 0 n (sl (am_A h r) p)))) no_x) := by
  obtain ⟨s1, s2, s3, s4, s5, s6, s7, s8, s9⟩ := s
  have na : ka ≠ r := fun e => by rw [e, hr] at s3; cases s3
  have nd : da ≠ r := fun e => by rw [e, hr] at s6; cases s6
  have key : ∀ (d i : Nat) (u : Nat → Int32), d + i = n →
      am_Ev tt 14 3 [some (.ref k), some (.ref r), some (.int (Int32.ofNat p)), some (.int (Int32.ofNat (p + m))), some (.int (Int32.ofNat i))] [] (am_cA h r (ov (am_A h r) p m u)) (am_pV (fun h' => h' = am_cA h r (ov (am_A h r) p m (cops (am_A h ka) (am_A h da) m i d u))) no_x) := by
    intro d
    induction d with
    | zero =>
      intro i u e
      refine vc_14_3 tt k r _ _ _ _ _ _ ?_
      simp (disch := omega) only [s1, s8, am_hs, qi_lt, qi_le, qi_eq, qi_nn, qi_in, qi_add, qi_l, ql_i, ql_lt, ql_le, ql_eq, ql_add, qc_lt, qc_eq, qc_ge, qc_gt, qc_le, true_and, and_true, and_self, true_or, or_true, false_or, or_false, false_and, and_false, not_true_eq_false, not_false_eq_true, Classical.not_not, true_implies, false_implies, implies_true, exists_eq_left, exists_eq_left', Option.some.injEq, reduceIte, Nat.reduceEqDiff, Nat.reduceLT, Nat.reduceLeDiff, Nat.reduceAdd, Nat.reduceSub, Nat.reduceMul, eq_self, ne_eq, and_imp, forall_const, reduceCtorEq, am_w, List.map_cons, List.map_nil, List.sum_cons, List.sum_nil, Value.category, Nat.zero_le, Nat.le_refl]
      exact ⟨fun _ => rfl, fun z => by omega⟩
    | succ d ih =>
      intro i u e
      refine vc_14_3 tt k r _ _ _ _ _ _ ?_
      simp (disch := omega) only [s1, s2, s3, s4, s5, s6, s7, s8, if_neg na, if_neg nd, am_hs, qi_lt, qi_le, qi_eq, qi_nn, qi_in, qi_add, qi_l, ql_i, ql_lt, ql_le, ql_eq, ql_add, qc_lt, qc_eq, qc_ge, qc_gt, qc_le, true_and, and_true, and_self, true_or, or_true, false_or, or_false, false_and, and_false, not_true_eq_false, not_false_eq_true, Classical.not_not, true_implies, false_implies, implies_true, exists_eq_left, exists_eq_left', Option.some.injEq, reduceIte, Nat.reduceEqDiff, Nat.reduceLT, Nat.reduceLeDiff, Nat.reduceAdd, Nat.reduceSub, Nat.reduceMul, eq_self, ne_eq, and_imp, forall_const, reduceCtorEq, am_w, List.map_cons, List.map_nil, List.sum_cons, List.sum_nil, Value.category, Nat.zero_le, Nat.le_refl]
      have go : ∀ u', (∀ j, j < m → u' j = cop (am_A h ka i) (am_A h da i).toNatClampNeg m u j) → am_Ev tt 14 3 [some (.ref k), some (.ref r), some (.int (Int32.ofNat p)), some (.int (Int32.ofNat (p + m))), some (.int (Int32.ofNat (i + 1)))] [] (am_cA h r (ov (am_A h r) p m u')) (am_pV (fun h' => h' = am_cA h r (ov (am_A h r) p m (cops (am_A h ka) (am_A h da) m i (d + 1) u))) no_x) := by
        intro u' e'
        rw [ov_ext e']
        exact ih (i + 1) _ (by omega)
      refine ⟨fun z => by omega, fun _ => ⟨by omega, fun z => ⟨by omega, _, _, ct_groupOf, fun x k' e' => ?_, fun _ _ z => z⟩, fun z => ⟨by omega, ?_⟩⟩⟩
      · obtain ⟨rfl, e2⟩ := e'
        have ew : ∃ w, x = Int32.ofNat w ∧ (w = 1 ∧ ¬ am_A h ka i = Int32.ofNat 2 ∧ ¬ am_A h ka i = Int32.ofNat 3 ∨ w = 2 ∧ am_A h ka i = Int32.ofNat 2 ∨ w = 4 ∧ ¬ am_A h ka i = Int32.ofNat 2 ∧ am_A h ka i = Int32.ofNat 3) := by
          subst e2
          by_cases c1 : am_A h ka i = Int32.ofNat 2
          · exact ⟨2, by rw [if_pos c1], by simp [c1]⟩
          · by_cases c2 : am_A h ka i = Int32.ofNat 3
            · exact ⟨4, by rw [if_neg c1, if_pos c2], Or.inr (Or.inr ⟨rfl, c1, c2⟩)⟩
            · exact ⟨1, by rw [if_neg c1, if_neg c2], Or.inl ⟨rfl, c1, c2⟩⟩
        obtain ⟨w, rfl, ew⟩ := ew
        refine ⟨_, _, ct_turnGroups (r := r) (p := p) (n := m) (w := w) hr hN hL (by omega), fun k' e' => ?_, fun _ _ z => z⟩
        subst e'
        rcases ew with ⟨rfl, w1, w2⟩ | ⟨rfl, w1⟩ | ⟨rfl, w1, w2⟩
        · rw [if_pos rfl]
          exact go u (fun j _ => by rw [cop, if_neg z, if_neg w1, if_neg w2])
        · rw [if_neg (by omega), cA_A, cA_cA, ov_ov]
          exact go _ (fun j hj => by rw [cop, if_neg z, if_pos w1]; exact ctn_loc (Or.inl rfl) (fun j hj => sl_ov hj) j hj)
        · rw [if_neg (by omega), cA_A, cA_cA, ov_ov]
          exact go _ (fun j hj => by rw [cop, if_neg z, if_neg w1, if_pos w2]; exact ctn_loc (Or.inr rfl) (fun j hj => sl_ov hj) j hj)
      · obtain ⟨dd, d1, d2, d3⟩ := hd i (by omega) z
        rw [d1]
        refine ⟨_, _, ct_packDelta (r := r) (p := p) (n := m) (d := dd) hr hN hL d2 (by omega) hp, fun k' e' => ?_, fun _ _ z => z⟩
        subst e'
        rw [cA_A, cA_cA, ov_ov]
        refine go _ (fun j hj => ?_)
        rw [cop, if_pos z, d1, qi_nn (by omega)]
        exact cdd_loc (fun j hj => sl_ov hj) j hj
  have h0 := key n 0 (sl (am_A h r) p) (by omega)
  rw [ov_id, cA_id] at h0
  exact vc_14_0 tt k r _ _ h _ _ h0
theorem ct_unpack {tt : Nat → Nat} {h : am_H} {k ka da n r p m : Nat} (s : bk_s h k ka da n) (hd : dl_s (am_A h ka) (am_A h da) n) (hr : am_K h r = 23) (hN : p + m ≤ am_N h r) (hL : am_N h r ≤ 60000) : am_Ct tt 15 [.ref k, .ref r, .int (Int32.ofNat p), .int (Int32.ofNat (p + m))] h (am_pV (fun h' => h' = am_cA h r (ov (am_A h r) p m (cous (am_A h ka) (am_A h da) m n (sl (am_A h r) p)))) no_x) := by
  obtain ⟨s1, s2, s3, s4, s5, s6, s7, s8, s9⟩ := s
  have na : ka ≠ r := fun e => by rw [e, hr] at s3; cases s3
  have nd : da ≠ r := fun e => by rw [e, hr] at s6; cases s6
  have key : ∀ (i : Nat) (u : Nat → Int32), i ≤ n →
      am_Ev tt 15 8 [some (.ref k), some (.ref r), some (.int (Int32.ofNat p)), some (.int (Int32.ofNat (p + m))), some (.int (Int32.ofNat i + (-1 : Int32)))] [] (am_cA h r (ov (am_A h r) p m u)) (am_pV (fun h' => h' = am_cA h r (ov (am_A h r) p m (cous (am_A h ka) (am_A h da) m i u))) no_x) := by
    intro i
    induction i with
    | zero =>
      intro u e
      refine vc_15_8 tt k r _ _ _ _ _ _ ?_
      exact ⟨fun _ => rfl, fun z => absurd (show Int32.ofNat 0 + (-1 : Int32) < Int32.ofNat 0 by decide) z⟩
    | succ i ih =>
      intro u e
      rw [qi_dec (by omega), Nat.add_sub_cancel]
      refine vc_15_8 tt k r _ _ _ _ _ _ ?_
      simp (disch := omega) only [s1, s2, s3, s4, s5, s6, s7, s8, if_neg na, if_neg nd, am_hs, qi_lt, qi_le, qi_eq, qi_nn, qi_in, qi_add, qi_l, ql_i, ql_lt, ql_le, ql_eq, ql_add, qc_lt, qc_eq, qc_ge, qc_gt, qc_le, true_and, and_true, and_self, true_or, or_true, false_or, or_false, false_and, and_false, not_true_eq_false, not_false_eq_true, Classical.not_not, true_implies, false_implies, implies_true, exists_eq_left, exists_eq_left', Option.some.injEq, reduceIte, Nat.reduceEqDiff, Nat.reduceLT, Nat.reduceLeDiff, Nat.reduceAdd, Nat.reduceSub, Nat.reduceMul, eq_self, ne_eq, and_imp, forall_const, reduceCtorEq, am_w, List.map_cons, List.map_nil, List.sum_cons, List.sum_nil, Value.category, Nat.zero_le, Nat.le_refl]
      have go : ∀ u', (∀ j, j < m → u' j = cou (am_A h ka i) (am_A h da i).toNatClampNeg m u j) → am_Ev tt 15 8 [some (.ref k), some (.ref r), some (.int (Int32.ofNat p)), some (.int (Int32.ofNat (p + m))), some (.int (Int32.ofNat i + (-1 : Int32)))] [] (am_cA h r (ov (am_A h r) p m u')) (am_pV (fun h' => h' = am_cA h r (ov (am_A h r) p m (cous (am_A h ka) (am_A h da) m (i + 1) u))) no_x) := by
        intro u' e'
        rw [ov_ext e']
        exact ih _ (by omega)
      refine ⟨fun z => by omega, fun _ => ⟨by omega, fun z => ⟨by omega, _, _, ct_groupOf, fun x k' e' => ?_, fun _ _ z => z⟩, fun z => ⟨by omega, ?_⟩⟩⟩
      · obtain ⟨rfl, e2⟩ := e'
        have ew : ∃ w, x = Int32.ofNat w ∧ (w = 1 ∧ ¬ am_A h ka i = Int32.ofNat 2 ∧ ¬ am_A h ka i = Int32.ofNat 3 ∨ w = 2 ∧ am_A h ka i = Int32.ofNat 2 ∨ w = 4 ∧ ¬ am_A h ka i = Int32.ofNat 2 ∧ am_A h ka i = Int32.ofNat 3) := by
          subst e2
          by_cases c1 : am_A h ka i = Int32.ofNat 2
          · exact ⟨2, by rw [if_pos c1], by simp [c1]⟩
          · by_cases c2 : am_A h ka i = Int32.ofNat 3
            · exact ⟨4, by rw [if_neg c1, if_pos c2], Or.inr (Or.inr ⟨rfl, c1, c2⟩)⟩
            · exact ⟨1, by rw [if_neg c1, if_neg c2], Or.inl ⟨rfl, c1, c2⟩⟩
        obtain ⟨w, rfl, ew⟩ := ew
        refine ⟨_, _, ct_turnGroups (r := r) (p := p) (n := m) (w := w) hr hN hL (by omega), fun k' e' => ?_, fun _ _ z => z⟩
        subst e'
        rcases ew with ⟨rfl, w1, w2⟩ | ⟨rfl, w1⟩ | ⟨rfl, w1, w2⟩
        · rw [if_pos rfl]
          exact go u (fun j _ => by rw [cou, if_neg z, if_neg w1, if_neg w2])
        · rw [if_neg (by omega), cA_A, cA_cA, ov_ov]
          exact go _ (fun j hj => by rw [cou, if_neg z, if_pos w1]; exact ctn_loc (Or.inl rfl) (fun j hj => sl_ov hj) j hj)
        · rw [if_neg (by omega), cA_A, cA_cA, ov_ov]
          exact go _ (fun j hj => by rw [cou, if_neg z, if_neg w1, if_pos w2]; exact ctn_loc (Or.inr rfl) (fun j hj => sl_ov hj) j hj)
      · obtain ⟨dd, d1, d2, d3⟩ := hd i (by omega) z
        rw [d1]
        refine ⟨_, _, ct_unpackDelta (r := r) (p := p) (n := m) (d := dd) hr hN hL d2 (by omega), fun k' e' => ?_, fun _ _ z => z⟩
        subst e'
        rw [cA_A, cA_cA, ov_ov]
        refine go _ (fun j hj => ?_)
        rw [cou, if_pos z, d1, qi_nn (by omega)]
        exact cud_loc (fun j hj => sl_ov hj) j hj
  have h0 := key n (sl (am_A h r) p) (by omega)
  rw [ov_id, cA_id] at h0
  refine vc_15_0 tt k r _ _ h _ _ ?_
  rw [s8]
  refine ⟨s1, ?_⟩
  rw [show Int32.ofNat n - Int32.ofNat 1 = Int32.ofNat n + (-1 : Int32) from Int32.sub_eq_add_neg _ _]
  exact h0
theorem ct_bbegin {tt : Nat → Nat} {h : am_H} {k : Nat} (s : am_K h k = 2) : am_Ct tt 12 [.ref k] h (am_pV (fun h' => h' = am_sI (am_sI h 1 2 k (Int32.ofNat 0)) 1 3 k (Int32.ofNat 1)) no_x) := by
  refine vc_12_0 tt k h _ _ ?_
  simp (disch := omega) only [s, am_hs, qi_lt, qi_le, qi_eq, qi_nn, qi_in, qi_add, qi_l, ql_i, ql_lt, ql_le, ql_eq, ql_add, qc_lt, qc_eq, qc_ge, qc_gt, qc_le, true_and, and_true, and_self, true_or, or_true, false_or, or_false, false_and, and_false, not_true_eq_false, not_false_eq_true, Classical.not_not, true_implies, false_implies, implies_true, exists_eq_left, exists_eq_left', Option.some.injEq, reduceIte, Nat.reduceEqDiff, Nat.reduceLT, Nat.reduceLeDiff, Nat.reduceAdd, Nat.reduceSub, Nat.reduceMul, eq_self, ne_eq, and_imp, forall_const, reduceCtorEq, am_w, List.map_cons, List.map_nil, List.sum_cons, List.sum_nil, Value.category, Nat.zero_le, Nat.le_refl]
theorem ct_addCoder {tt : Nat → Nat} {h : am_H} {k ka da n : Nat} {x d : Int32} (s : bk_s h k ka da n) : am_Ct tt 13 [.ref k, .int x, .int d] h (am_pV (fun h' => h' = if n < 3 then am_sI (am_sA (am_sA h ka n x) da n (if x = Int32.ofNat 1 then d else Int32.ofNat 0)) 1 2 k (Int32.ofNat (n + 1)) else h) no_x) := by
  obtain ⟨s1, s2, s3, s4, s5, s6, s7, s8, s9⟩ := s
  refine vc_13_0 tt k _ _ h _ _ ?_
  simp (disch := omega) only [s1, s2, s3, s4, s5, s6, s7, s8, am_hs, qi_lt, qi_le, qi_eq, qi_nn, qi_in, qi_add, qi_l, ql_i, ql_lt, ql_le, ql_eq, ql_add, qc_lt, qc_eq, qc_ge, qc_gt, qc_le, true_and, and_true, and_self, true_or, or_true, false_or, or_false, false_and, and_false, not_true_eq_false, not_false_eq_true, Classical.not_not, true_implies, false_implies, implies_true, exists_eq_left, exists_eq_left', Option.some.injEq, reduceIte, Nat.reduceEqDiff, Nat.reduceLT, Nat.reduceLeDiff, Nat.reduceAdd, Nat.reduceSub, Nat.reduceMul, eq_self, ne_eq, and_imp, forall_const, reduceCtorEq, am_w, List.map_cons, List.map_nil, List.sum_cons, List.sum_nil, Value.category, Nat.zero_le, Nat.le_refl]
  grind
