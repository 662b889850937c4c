/-! deps: 20w -/
/-! ===== the reference reads: an entry stands, but for its bytes ===== -/
section MSE
variable {tt : Nat → Nat} {F : Fn} {n m : Nat} {ad : Nat → Nat} {h h' h'' k k' k0 : am_H} {X Y X' Y' : Nat → Prop} {rd : RD} {e : Nat} {a2 a3 a4 a5 : Int32}
abbrev Xe (l : Nat) : Prop := 2 ≤ l ∧ l ≤ 13
/-- only the entry e changes -/
def sdF (m : Nat) (ad : Nat → Nat) (e : Nat) (k0 k : am_H) : Prop := mg m ad Xe Yz k0 k ∧ (∀ l j, ¬ tch e l j → am_A k (ad l) j = am_A k0 (ad l) j) ∧ ∀ j, ¬ j = e → am_B k (ad 6) j = am_B k0 (ad 6) j
theorem sdF.re : sdF m ad e h h := ⟨mg.re, fun _ _ _ => rfl, fun _ _ => rfl⟩
theorem sdF.tr (p : sdF m ad e h h') (q : sdF m ad e h' h'') : sdF m ad e h h'' := ⟨p.1.tr q.1, fun l j z => (q.2.1 l j z).trans (p.2.1 l j z), fun j z => (q.2.2 j z).trans (p.2.2 j z)⟩
theorem sdF.sA (sm : md_s h m ad) {l i : Nat} {v : Int32} (hl : Xe l) (ht : tch e l i) : sdF m ad e h (am_sA h (ad l) i v) := ⟨mg.sA sm hl, fun l' j z => by
  simp only [am_hs]
  rw [if_neg (fun w => z (by rw [sm.2.2 _ _ w.1, w.2]; exact ht))], fun _ _ => rfl⟩
theorem sdF.sB (sm : md_s h m ad) {v : Int64} : sdF m ad e h (am_sB h (ad 6) e v) := ⟨mg.sB sm (by omega), fun _ _ _ => rfl, fun j z => by
  simp only [am_hs]
  rw [if_neg (fun w => z w.2)]⟩
theorem mf_J {v : Int32} : am_J (mf_b h ad e v) = am_J h := by
  unfold mf_b
  simp only [am_hs]
theorem mf_B (sm : md_s h m ad) {v : Int32} {l : Nat} (z6 : ¬ l = 6) : am_B (mf_b h ad e v) (ad l) = am_B h (ad l) := by
  unfold mf_b
  funext j
  simp only [am_hs]
  rw [if_neg (fun w => z6 (sm.2.2 _ _ w.1))]
theorem sdF.mf (sm : md_s h m ad) {v : Int32} : sdF m ad e h (mf_b h ad e v) := by
  obtain ⟨f1, f2, f3, f4, _⟩ := mf_b_p sm (i := e) (v := v)
  have fJ := mf_J (h := h) (ad := ad) (e := e) (v := v)
  have fB := fun l z => mf_B (e := e) sm (v := v) (l := l) z
  generalize mf_b h ad e v = k at *
  refine ⟨⟨f1, fun l z => ⟨funext fun j => f3 l j (by unfold tch; omega), fB l (by omega)⟩, fun f _ => ⟨by rw [f2], by rw [fJ]⟩⟩, f3, f4⟩
theorem sdF.r4 (g : mg m ad (fun r => r = 4) Yz k0 k) (ho : ∀ j, ¬ (20 * e ≤ j ∧ j < 20 * e + 20) → am_A k (ad 4) j = am_A k0 (ad 4) j) : sdF m ad e k0 k := by
  refine ⟨g.mo (fun _ z => by omega) (fun _ z => z), fun l j z => ?_, fun j _ => by rw [(g.2.1 6 (by omega)).2]⟩
  by_cases c : l = 4
  · subst c
    exact ho j (fun w => z (Or.inr (Or.inl ⟨rfl, w.1, w.2⟩)))
  · rw [(g.2.1 l c).1]
/-- what is put down of an entry -/
def sdV (F : Fn) (ad : Nat → Nat) (rd : RD) (e : Nat) (k : am_H) : Prop :=
  am_A k (ad 2) e = Int32.ofNat (if rd.2.1.2.1 e = true ∧ rd.2.1.2.2.1 (e - rk rd.2.1.2.1 e) = false then 1 else 0) ∧ am_A k (ad 3) e = Int32.ofNat (rd.2.2.1.1 e) ∧ (∀ j, j < rd.2.2.1.1 e → am_A k (ad 4) (20 * e + j) = NMf F rd.2.2.1.2 e j) ∧ am_A k (ad 9) e = Int32.ofNat 0 ∧ am_A k (ad 11) e = Int32.ofNat 0 ∧ am_A k (ad 12) e = b01 (rd.2.1.2.1 e && rd.2.1.2.2.2 (e - rk rd.2.1.2.1 e)) ∧ am_A k (ad 5) e = b01 (rd.2.2.2.1 e).isSome ∧ am_B k (ad 6) e = (rd.2.2.2.1 e).getD (Int64.ofNat 0) ∧ am_A k (ad 7) e = b01 (rd.2.2.2.2 e).isSome ∧ am_A k (ad 8) e = ((rd.2.2.2.2 e).map Int64.toInt32).getD (Int32.ofNat 0) ∧ am_A k (ad 13) e = Int32.ofNat 0
theorem sd_198 {Q : am_H → Prop} (he : e < 24) (sm : md_s k0 m ad)
    (nx : ∀ k, mg m ad (fun r => r = 4) Yz k0 k → (∀ j, j < 20 → am_A k (ad 4) (20 * e + j) = am_A k0 (ad 46) (20 * e + j)) → (∀ j, ¬ (20 * e ≤ j ∧ j < 20 * e + 20) → am_A k (ad 4) j = am_A k0 (ad 4) j) → am_Ev tt 202 237 [some (.ref m), none, some (.int a2), some (.int a3), some (.int a4), some (.int a5), some (.int (Int32.ofNat e)), none, none] [] k (am_pV Q no_x)) :
    ∀ (d i : Nat) (k : am_H), d + i = 20 → mg m ad (fun r => r = 4) Yz k0 k → (∀ j, j < i → am_A k (ad 4) (20 * e + j) = am_A k0 (ad 46) (20 * e + j)) → (∀ j, ¬ (20 * e ≤ j ∧ j < 20 * e + 20) → am_A k (ad 4) j = am_A k0 (ad 4) j) → am_Ev tt 202 198 [some (.ref m), none, some (.int a2), some (.int a3), some (.int a4), some (.int a5), some (.int (Int32.ofNat e)), some (.int (Int32.ofNat i)), none] [] k (am_pV Q no_x) := by
  intro d
  induction d with
  | zero =>
    intro i k ei g h1 h2
    have : i = 20 := by omega
    subst this
    refine vc_202_198 tt _ _ _ _ _ _ _ _ _ _ ?_
    simp (disch := omega) only [qi_lt, qi_le, qi_eq, qi_nn, qi_in, qi_add, qi_l, ql_i, ql_lt, ql_le, ql_eq, ql_add, qc_lt, qc_eq, qc_ge, qc_gt, qc_le, true_and, and_true, and_self, true_or, or_true, false_or, or_false, false_and, and_false, not_true_eq_false, not_false_eq_true, Classical.not_not, true_implies, false_implies, implies_true, exists_eq_left, exists_eq_left', Option.some.injEq, reduceIte, Nat.reduceEqDiff, Nat.reduceLT, Nat.reduceLeDiff, Nat.reduceAdd, Nat.reduceSub, Nat.reduceMul, eq_self, ne_eq, and_imp, forall_const, reduceCtorEq, am_w, List.map_cons, List.map_nil, List.sum_cons, List.sum_nil, Value.category, Nat.zero_le, Nat.le_refl]
    exact nx k g h1 h2
  | succ d ih =>
    intro i k ei g h1 h2
    have sk := g.1.md sm
    have kk := sk.1
    have i4 : 20 * e + i < 480 := by omega
    have q1 : ¬ 20 ≤ i := by omega
    obtain ⟨a1, a2, a3⟩ := md_r sk (k := 4) (by decide) rfl (by decide)
    obtain ⟨b1, b2, b3⟩ := md_r sk (k := 46) (by decide) rfl (by decide)
    have e46 : am_A k (ad 46) (20 * e + i) = am_A k0 (ad 46) (20 * e + i) := by rw [(g.2.1 46 (by omega)).1]
    refine vc_202_198 tt _ _ _ _ _ _ _ _ _ _ ?_
    simp (disch := omega) only [kk, a1, a2, a3, b1, b2, b3, i4, q1, e46, qi_mul, qi_lt, qi_le, qi_eq, qi_nn, qi_in, qi_add, qi_l, ql_i, ql_lt, ql_le, ql_eq, ql_add, qc_lt, qc_eq, qc_ge, qc_gt, qc_le, true_and, and_true, and_self, true_or, or_true, false_or, or_false, false_and, and_false, not_true_eq_false, not_false_eq_true, Classical.not_not, true_implies, false_implies, implies_true, exists_eq_left, exists_eq_left', Option.some.injEq, reduceIte, Nat.reduceEqDiff, Nat.reduceLT, Nat.reduceLeDiff, Nat.reduceAdd, Nat.reduceSub, Nat.reduceMul, eq_self, ne_eq, and_imp, forall_const, reduceCtorEq, am_w, List.map_cons, List.map_nil, List.sum_cons, List.sum_nil, Value.category, Nat.zero_le, Nat.le_refl]
    have s1 : mg m ad (fun r => r = 4) Yz k (am_sA k (ad 4) (20 * e + i) (am_A k0 (ad 46) (20 * e + i))) := mg.sA sk rfl
    refine ih (i + 1) _ (by omega) (g.tr s1) (fun j hj => ?_) (fun j hj => ?_)
    · by_cases c : j = i
      · subst c
        simp only [am_hs, true_and, and_true, and_self, true_or, or_true, false_or, or_false, false_and, and_false, not_true_eq_false, not_false_eq_true, Classical.not_not, true_implies, false_implies, implies_true, exists_eq_left, exists_eq_left', Option.some.injEq, reduceIte, Nat.reduceEqDiff, Nat.reduceLT, Nat.reduceLeDiff, Nat.reduceAdd, Nat.reduceSub, Nat.reduceMul, eq_self, ne_eq, and_imp, forall_const, reduceCtorEq, am_w, List.map_cons, List.map_nil, List.sum_cons, List.sum_nil, Value.category, Nat.zero_le, Nat.le_refl]
      · have q : ¬ 20 * e + j = 20 * e + i := by omega
        simp (disch := omega) only [am_hs, q, true_and, and_true, and_self, true_or, or_true, false_or, or_false, false_and, and_false, not_true_eq_false, not_false_eq_true, Classical.not_not, true_implies, false_implies, implies_true, exists_eq_left, exists_eq_left', Option.some.injEq, reduceIte, Nat.reduceEqDiff, Nat.reduceLT, Nat.reduceLeDiff, Nat.reduceAdd, Nat.reduceSub, Nat.reduceMul, eq_self, ne_eq, and_imp, forall_const, reduceCtorEq, am_w, List.map_cons, List.map_nil, List.sum_cons, List.sum_nil, Value.category, Nat.zero_le, Nat.le_refl]
        exact h1 j (by omega)
    · have q : ¬ j = 20 * e + i := by omega
      simp (disch := omega) only [am_hs, q, true_and, and_true, and_self, true_or, or_true, false_or, or_false, false_and, and_false, not_true_eq_false, not_false_eq_true, Classical.not_not, true_implies, false_implies, implies_true, exists_eq_left, exists_eq_left', Option.some.injEq, reduceIte, Nat.reduceEqDiff, Nat.reduceLT, Nat.reduceLeDiff, Nat.reduceAdd, Nat.reduceSub, Nat.reduceMul, eq_self, ne_eq, and_imp, forall_const, reduceCtorEq, am_w, List.map_cons, List.map_nil, List.sum_cons, List.sum_nil, Value.category, Nat.zero_le, Nat.le_refl]
      exact h2 j hj
/-- times, attributes, anti -/
theorem sd_237 {Q : am_H → Prop} (he : e < 24) (sk : md_s k m ad) {tm av : Option Int64} {an : Bool} (e47 : am_A k (ad 47) e = b01 tm.isSome) (e48 : ∀ x, tm = some x → am_B k (ad 48) e = x) (e49 : am_A k (ad 49) e = b01 av.isSome) (e50 : ∀ x, av = some x → am_A k (ad 50) e = x.toInt32) (e44 : am_A k (ad 44) e = b01 an)
    (nx : am_Ev tt 202 335 [some (.ref m), none, some (.int a2), some (.int a3), some (.int a4), some (.int a5), some (.int (Int32.ofNat e)), none, none] [] (am_sA (am_sA (am_sA (am_sB (am_sA k (ad 5) e (b01 tm.isSome)) (ad 6) e (tm.getD (Int64.ofNat 0))) (ad 7) e (b01 av.isSome)) (ad 8) e ((av.map Int64.toInt32).getD (Int32.ofNat 0))) (ad 12) e (b01 an)) (am_pV Q no_x)) : am_Ev tt 202 237 [some (.ref m), none, some (.int a2), some (.int a3), some (.int a4), some (.int a5), some (.int (Int32.ofNat e)), none, none] [] k (am_pV Q no_x) := by
  have kk := sk.1
  have dj := ad_ne sk
  obtain ⟨a51, a52, a53⟩ := md_r sk (k := 5) (by decide) rfl (by decide)
  obtain ⟨a61, a62, a63⟩ := md_r sk (k := 6) (by decide) rfl (by decide)
  obtain ⟨a71, a72, a73⟩ := md_r sk (k := 7) (by decide) rfl (by decide)
  obtain ⟨a81, a82, a83⟩ := md_r sk (k := 8) (by decide) rfl (by decide)
  obtain ⟨a121, a122, a123⟩ := md_r sk (k := 12) (by decide) rfl (by decide)
  obtain ⟨b471, b472, b473⟩ := md_r sk (k := 47) (by decide) rfl (by decide)
  obtain ⟨b481, b482, b483⟩ := md_r sk (k := 48) (by decide) rfl (by decide)
  obtain ⟨b491, b492, b493⟩ := md_r sk (k := 49) (by decide) rfl (by decide)
  obtain ⟨b501, b502, b503⟩ := md_r sk (k := 50) (by decide) rfl (by decide)
  obtain ⟨b441, b442, b443⟩ := md_r sk (k := 44) (by decide) rfl (by decide)
  have l321 : am_Ev tt 202 321 [some (.ref m), none, some (.int a2), some (.int a3), some (.int a4), some (.int a5), some (.int (Int32.ofNat e)), none, none] [] (am_sA (am_sA (am_sB (am_sA k (ad 5) e (b01 tm.isSome)) (ad 6) e (tm.getD (Int64.ofNat 0))) (ad 7) e (b01 av.isSome)) (ad 8) e ((av.map Int64.toInt32).getD (Int32.ofNat 0))) (am_pV Q no_x) := by
    refine vc_202_321 tt _ _ _ _ _ _ _ _ _ ?_
    simp (disch := omega) only [kk, a121, a122, a123, b441, b442, b443, he, e44, dj, b_1, am_hs, qi_lt, qi_le, qi_eq, qi_nn, qi_in, qi_add, qi_l, ql_i, ql_lt, ql_le, ql_eq, ql_add, qc_lt, qc_eq, qc_ge, qc_gt, qc_le, true_and, and_true, and_self, true_or, or_true, false_or, or_false, false_and, and_false, not_true_eq_false, not_false_eq_true, Classical.not_not, true_implies, false_implies, implies_true, exists_eq_left, exists_eq_left', Option.some.injEq, reduceIte, Nat.reduceEqDiff, Nat.reduceLT, Nat.reduceLeDiff, Nat.reduceAdd, Nat.reduceSub, Nat.reduceMul, eq_self, ne_eq, and_imp, forall_const, reduceCtorEq, am_w, List.map_cons, List.map_nil, List.sum_cons, List.sum_nil, Value.category, Nat.zero_le, Nat.le_refl]
    exact nx
  have l293 : am_Ev tt 202 293 [some (.ref m), none, some (.int a2), some (.int a3), some (.int a4), some (.int a5), some (.int (Int32.ofNat e)), none, none] [] (am_sA (am_sB (am_sA k (ad 5) e (b01 tm.isSome)) (ad 6) e (tm.getD (Int64.ofNat 0))) (ad 7) e (b01 av.isSome)) (am_pV Q no_x) := by
    refine vc_202_293 tt _ _ _ _ _ _ _ _ _ ?_
    simp (disch := omega) only [kk, a81, a82, a83, a71, a72, a73, b501, b502, b503, he, dj, am_hs, qi_lt, qi_le, qi_eq, qi_nn, qi_in, qi_add, qi_l, ql_i, ql_lt, ql_le, ql_eq, ql_add, qc_lt, qc_eq, qc_ge, qc_gt, qc_le, true_and, and_true, and_self, true_or, or_true, false_or, or_false, false_and, and_false, not_true_eq_false, not_false_eq_true, Classical.not_not, true_implies, false_implies, implies_true, exists_eq_left, exists_eq_left', Option.some.injEq, reduceIte, Nat.reduceEqDiff, Nat.reduceLT, Nat.reduceLeDiff, Nat.reduceAdd, Nat.reduceSub, Nat.reduceMul, eq_self, ne_eq, and_imp, forall_const, reduceCtorEq, am_w, List.map_cons, List.map_nil, List.sum_cons, List.sum_nil, Value.category, Nat.zero_le, Nat.le_refl]
    cases av with
    | none => exact ⟨fun _ => l321, fun z => absurd rfl z⟩
    | some x =>
      rw [e50 x rfl]
      exact ⟨fun z => absurd z (show ¬ Int32.ofNat 1 = Int32.ofNat 0 by decide), fun _ => l321⟩
  have l279 : am_Ev tt 202 279 [some (.ref m), none, some (.int a2), some (.int a3), some (.int a4), some (.int a5), some (.int (Int32.ofNat e)), none, none] [] (am_sB (am_sA k (ad 5) e (b01 tm.isSome)) (ad 6) e (tm.getD (Int64.ofNat 0))) (am_pV Q no_x) := by
    refine vc_202_279 tt _ _ _ _ _ _ _ _ _ ?_
    simp (disch := omega) only [kk, a71, a72, a73, b491, b492, b493, he, e49, dj, b_1, am_hs, qi_lt, qi_le, qi_eq, qi_nn, qi_in, qi_add, qi_l, ql_i, ql_lt, ql_le, ql_eq, ql_add, qc_lt, qc_eq, qc_ge, qc_gt, qc_le, true_and, and_true, and_self, true_or, or_true, false_or, or_false, false_and, and_false, not_true_eq_false, not_false_eq_true, Classical.not_not, true_implies, false_implies, implies_true, exists_eq_left, exists_eq_left', Option.some.injEq, reduceIte, Nat.reduceEqDiff, Nat.reduceLT, Nat.reduceLeDiff, Nat.reduceAdd, Nat.reduceSub, Nat.reduceMul, eq_self, ne_eq, and_imp, forall_const, reduceCtorEq, am_w, List.map_cons, List.map_nil, List.sum_cons, List.sum_nil, Value.category, Nat.zero_le, Nat.le_refl]
    exact l293
  have l251 : am_Ev tt 202 251 [some (.ref m), none, some (.int a2), some (.int a3), some (.int a4), some (.int a5), some (.int (Int32.ofNat e)), none, none] [] (am_sA k (ad 5) e (b01 tm.isSome)) (am_pV Q no_x) := by
    refine vc_202_251 tt _ _ _ _ _ _ _ _ _ ?_
    simp (disch := omega) only [kk, a51, a52, a53, a61, a62, a63, b481, b482, b483, he, dj, am_hs, qi_lt, qi_le, qi_eq, qi_nn, qi_in, qi_add, qi_l, ql_i, ql_lt, ql_le, ql_eq, ql_add, qc_lt, qc_eq, qc_ge, qc_gt, qc_le, true_and, and_true, and_self, true_or, or_true, false_or, or_false, false_and, and_false, not_true_eq_false, not_false_eq_true, Classical.not_not, true_implies, false_implies, implies_true, exists_eq_left, exists_eq_left', Option.some.injEq, reduceIte, Nat.reduceEqDiff, Nat.reduceLT, Nat.reduceLeDiff, Nat.reduceAdd, Nat.reduceSub, Nat.reduceMul, eq_self, ne_eq, and_imp, forall_const, reduceCtorEq, am_w, List.map_cons, List.map_nil, List.sum_cons, List.sum_nil, Value.category, Nat.zero_le, Nat.le_refl]
    cases tm with
    | none => exact ⟨fun _ => l279, fun z => absurd rfl z⟩
    | some x =>
      rw [e48 x rfl]
      exact ⟨fun z => absurd z (show ¬ Int32.ofNat 1 = Int32.ofNat 0 by decide), fun _ => l279⟩
  refine vc_202_237 tt _ _ _ _ _ _ _ _ _ ?_
  simp (disch := omega) only [kk, a51, a52, a53, b471, b472, b473, he, e47, b_1, qi_lt, qi_le, qi_eq, qi_nn, qi_in, qi_add, qi_l, ql_i, ql_lt, ql_le, ql_eq, ql_add, qc_lt, qc_eq, qc_ge, qc_gt, qc_le, true_and, and_true, and_self, true_or, or_true, false_or, or_false, false_and, and_false, not_true_eq_false, not_false_eq_true, Classical.not_not, true_implies, false_implies, implies_true, exists_eq_left, exists_eq_left', Option.some.injEq, reduceIte, Nat.reduceEqDiff, Nat.reduceLT, Nat.reduceLeDiff, Nat.reduceAdd, Nat.reduceSub, Nat.reduceMul, eq_self, ne_eq, and_imp, forall_const, reduceCtorEq, am_w, List.map_cons, List.map_nil, List.sum_cons, List.sum_nil, Value.category, Nat.zero_le, Nat.le_refl]
  exact l251
/-- from where an entry begins to where its bytes come -/
theorem sd_141 {Q : am_H → Prop} (he : e < rd.2.1.1) (h24 : rd.2.1.1 ≤ 24) (hu : rd.2.2.1.1 e ≤ 20) (sk : md_s k m ad) (hen : enR F m ad rd.2 k)
    (nx : ∀ k', sdF m ad e k k' → sdV F ad rd e k' → am_Ev tt 202 335 [some (.ref m), none, some (.int a2), some (.int a3), some (.int a4), some (.int a5), some (.int (Int32.ofNat e)), none, none] [] k' (am_pV Q no_x)) : am_Ev tt 202 141 [some (.ref m), none, some (.int a2), some (.int a3), some (.int a4), some (.int a5), some (.int (Int32.ofNat e)), none, none] [] k (am_pV Q no_x) := by
  have kk := sk.1
  have dj := ad_ne sk
  have e24 : e < 24 := by omega
  obtain ⟨q41, qA, qB, qB2, qC, qD, qE⟩ := hen
  have e42 := qA e he
  have e43 := qB e he
  have e44 := qB2 e he
  obtain ⟨e45, e46⟩ := qC e he
  obtain ⟨e47, e48⟩ := qD e he
  obtain ⟨e49, e50⟩ := qE e he
  have l181 : ∀ v, v = Int32.ofNat (if rd.2.1.2.1 e = true ∧ rd.2.1.2.2.1 (e - rk rd.2.1.2.1 e) = false then 1 else 0) → am_Ev tt 202 181 [some (.ref m), none, some (.int a2), some (.int a3), some (.int a4), some (.int a5), some (.int (Int32.ofNat e)), none, none] [] (mf_b k ad e v) (am_pV Q no_x) := by
    intro v hv
    have F1 : sdF m ad e k (mf_b k ad e v) := sdF.mf sk
    have s1 := F1.1.1.md sk
    have kk1 := s1.1
    obtain ⟨p1, p2, p3, p4, p5, p6, p7, p8, p9, p10, p11, p12, p13, p14⟩ := mf_b_p sk (i := e) (v := v)
    obtain ⟨a1, a2', a3'⟩ := md_r s1 (k := 3) (by decide) rfl (by decide)
    obtain ⟨b1, b2, b3⟩ := md_r s1 (k := 45) (by decide) rfl (by decide)
    have e45' : am_A (mf_b k ad e v) (ad 45) e = Int32.ofNat (rd.2.2.1.1 e) := by rw [(F1.1.2.1 45 (by omega)).1]; exact e45
    refine vc_202_181 tt _ _ _ _ _ _ _ _ _ ?_
    simp (disch := omega) only [kk1, a1, a2', a3', b1, b2, b3, e24, e45', qi_lt, qi_le, qi_eq, qi_nn, qi_in, qi_add, qi_l, ql_i, ql_lt, ql_le, ql_eq, ql_add, qc_lt, qc_eq, qc_ge, qc_gt, qc_le, true_and, and_true, and_self, true_or, or_true, false_or, or_false, false_and, and_false, not_true_eq_false, not_false_eq_true, Classical.not_not, true_implies, false_implies, implies_true, exists_eq_left, exists_eq_left', Option.some.injEq, reduceIte, Nat.reduceEqDiff, Nat.reduceLT, Nat.reduceLeDiff, Nat.reduceAdd, Nat.reduceSub, Nat.reduceMul, eq_self, ne_eq, and_imp, forall_const, reduceCtorEq, am_w, List.map_cons, List.map_nil, List.sum_cons, List.sum_nil, Value.category, Nat.zero_le, Nat.le_refl]
    have F2 : sdF m ad e (mf_b k ad e v) (am_sA (mf_b k ad e v) (ad 3) e (Int32.ofNat (rd.2.2.1.1 e))) := sdF.sA s1 (by omega) (by unfold tch; omega)
    have F12 := F1.tr F2
    have s2 := F12.1.1.md sk
    refine sd_198 (k0 := am_sA (mf_b k ad e v) (ad 3) e (Int32.ofNat (rd.2.2.1.1 e))) e24 s2 (fun k3 g3 n1 n2 => ?_) 20 0 _ (by omega) mg.re (fun j hj => absurd hj (Nat.not_lt_zero j)) (fun j hj => rfl)
    have F13 : sdF m ad e k k3 := F12.tr (sdF.r4 g3 n2)
    have s3 := F13.1.1.md sk
    have dj3 := ad_ne s3
    have tr : ∀ l, ¬ Xe l → am_A k3 (ad l) = am_A k (ad l) ∧ am_B k3 (ad l) = am_B k (ad l) := fun l z => F13.1.2.1 l z
    have v3 : ∀ l, ¬ l = 4 → ¬ l = 3 → am_A k3 (ad l) e = am_A (mf_b k ad e v) (ad l) e := fun l z w => by
      rw [(g3.2.1 l z).1]
      simp (disch := omega) only [am_hs, dj, w, true_and, and_true, and_self, true_or, or_true, false_or, or_false, false_and, and_false, not_true_eq_false, not_false_eq_true, Classical.not_not, true_implies, false_implies, implies_true, exists_eq_left, exists_eq_left', Option.some.injEq, reduceIte, Nat.reduceEqDiff, Nat.reduceLT, Nat.reduceLeDiff, Nat.reduceAdd, Nat.reduceSub, Nat.reduceMul, eq_self, ne_eq, and_imp, forall_const, reduceCtorEq, am_w, List.map_cons, List.map_nil, List.sum_cons, List.sum_nil, Value.category, Nat.zero_le, Nat.le_refl]
    refine sd_237 e24 s3 (tm := rd.2.2.2.1 e) (av := rd.2.2.2.2 e) (an := rd.2.1.2.1 e && rd.2.1.2.2.2 (e - rk rd.2.1.2.1 e)) (by rw [(tr 47 (by omega)).1]; exact e47) (fun x hx => by rw [(tr 48 (by omega)).2]; exact e48 x hx) (by rw [(tr 49 (by omega)).1]; exact e49) (fun x hx => by rw [(tr 50 (by omega)).1]; exact e50 x hx) (by rw [(tr 44 (by omega)).1]; exact e44) ?_
    have G1 : sdF m ad e k3 (am_sA k3 (ad 5) e (b01 (rd.2.2.2.1 e).isSome)) := sdF.sA s3 (by omega) (by unfold tch; omega)
    have G2 := G1.tr (sdF.sB (G1.1.1.md s3) (v := (rd.2.2.2.1 e).getD (Int64.ofNat 0)))
    have G3 := G2.tr (sdF.sA (G2.1.1.md s3) (l := 7) (i := e) (v := b01 (rd.2.2.2.2 e).isSome) (by omega) (by unfold tch; omega))
    have G4 := G3.tr (sdF.sA (G3.1.1.md s3) (l := 8) (i := e) (v := ((rd.2.2.2.2 e).map Int64.toInt32).getD (Int32.ofNat 0)) (by omega) (by unfold tch; omega))
    have G5 := G4.tr (sdF.sA (G4.1.1.md s3) (l := 12) (i := e) (v := b01 (rd.2.1.2.1 e && rd.2.1.2.2.2 (e - rk rd.2.1.2.1 e))) (by omega) (by unfold tch; omega))
    refine nx _ (F13.tr G5) ⟨?_, ?_, fun j hj => ?_, ?_, ?_, ?_, ?_, ?_, ?_, ?_, ?_⟩
    · simp (disch := omega) only [am_hs, dj3, true_and, and_true, and_self, true_or, or_true, false_or, or_false, false_and, and_false, not_true_eq_false, not_false_eq_true, Classical.not_not, true_implies, false_implies, implies_true, exists_eq_left, exists_eq_left', Option.some.injEq, reduceIte, Nat.reduceEqDiff, Nat.reduceLT, Nat.reduceLeDiff, Nat.reduceAdd, Nat.reduceSub, Nat.reduceMul, eq_self, ne_eq, and_imp, forall_const, reduceCtorEq, am_w, List.map_cons, List.map_nil, List.sum_cons, List.sum_nil, Value.category, Nat.zero_le, Nat.le_refl]; rw [v3 2 (by omega) (by omega), p5]; exact hv
    · simp (disch := omega) only [am_hs, dj3, true_and, and_true, and_self, true_or, or_true, false_or, or_false, false_and, and_false, not_true_eq_false, not_false_eq_true, Classical.not_not, true_implies, false_implies, implies_true, exists_eq_left, exists_eq_left', Option.some.injEq, reduceIte, Nat.reduceEqDiff, Nat.reduceLT, Nat.reduceLeDiff, Nat.reduceAdd, Nat.reduceSub, Nat.reduceMul, eq_self, ne_eq, and_imp, forall_const, reduceCtorEq, am_w, List.map_cons, List.map_nil, List.sum_cons, List.sum_nil, Value.category, Nat.zero_le, Nat.le_refl]
      rw [(g3.2.1 3 (by omega)).1]
      simp (disch := omega) only [am_hs, dj, true_and, and_true, and_self, true_or, or_true, false_or, or_false, false_and, and_false, not_true_eq_false, not_false_eq_true, Classical.not_not, true_implies, false_implies, implies_true, exists_eq_left, exists_eq_left', Option.some.injEq, reduceIte, Nat.reduceEqDiff, Nat.reduceLT, Nat.reduceLeDiff, Nat.reduceAdd, Nat.reduceSub, Nat.reduceMul, eq_self, ne_eq, and_imp, forall_const, reduceCtorEq, am_w, List.map_cons, List.map_nil, List.sum_cons, List.sum_nil, Value.category, Nat.zero_le, Nat.le_refl]
    · simp (disch := omega) only [am_hs, dj3, true_and, and_true, and_self, true_or, or_true, false_or, or_false, false_and, and_false, not_true_eq_false, not_false_eq_true, Classical.not_not, true_implies, false_implies, implies_true, exists_eq_left, exists_eq_left', Option.some.injEq, reduceIte, Nat.reduceEqDiff, Nat.reduceLT, Nat.reduceLeDiff, Nat.reduceAdd, Nat.reduceSub, Nat.reduceMul, eq_self, ne_eq, and_imp, forall_const, reduceCtorEq, am_w, List.map_cons, List.map_nil, List.sum_cons, List.sum_nil, Value.category, Nat.zero_le, Nat.le_refl]
      rw [n1 j (by omega), (F12.1.2.1 46 (by omega)).1]
      exact e46 j hj
    · simp (disch := omega) only [am_hs, dj3, true_and, and_true, and_self, true_or, or_true, false_or, or_false, false_and, and_false, not_true_eq_false, not_false_eq_true, Classical.not_not, true_implies, false_implies, implies_true, exists_eq_left, exists_eq_left', Option.some.injEq, reduceIte, Nat.reduceEqDiff, Nat.reduceLT, Nat.reduceLeDiff, Nat.reduceAdd, Nat.reduceSub, Nat.reduceMul, eq_self, ne_eq, and_imp, forall_const, reduceCtorEq, am_w, List.map_cons, List.map_nil, List.sum_cons, List.sum_nil, Value.category, Nat.zero_le, Nat.le_refl]; rw [v3 9 (by omega) (by omega)]; exact p11
    · simp (disch := omega) only [am_hs, dj3, true_and, and_true, and_self, true_or, or_true, false_or, or_false, false_and, and_false, not_true_eq_false, not_false_eq_true, Classical.not_not, true_implies, false_implies, implies_true, exists_eq_left, exists_eq_left', Option.some.injEq, reduceIte, Nat.reduceEqDiff, Nat.reduceLT, Nat.reduceLeDiff, Nat.reduceAdd, Nat.reduceSub, Nat.reduceMul, eq_self, ne_eq, and_imp, forall_const, reduceCtorEq, am_w, List.map_cons, List.map_nil, List.sum_cons, List.sum_nil, Value.category, Nat.zero_le, Nat.le_refl]; rw [v3 11 (by omega) (by omega)]; exact p12
    · simp (disch := omega) only [am_hs, dj3, true_and, and_true, and_self, true_or, or_true, false_or, or_false, false_and, and_false, not_true_eq_false, not_false_eq_true, Classical.not_not, true_implies, false_implies, implies_true, exists_eq_left, exists_eq_left', Option.some.injEq, reduceIte, Nat.reduceEqDiff, Nat.reduceLT, Nat.reduceLeDiff, Nat.reduceAdd, Nat.reduceSub, Nat.reduceMul, eq_self, ne_eq, and_imp, forall_const, reduceCtorEq, am_w, List.map_cons, List.map_nil, List.sum_cons, List.sum_nil, Value.category, Nat.zero_le, Nat.le_refl]
    · simp (disch := omega) only [am_hs, dj3, true_and, and_true, and_self, true_or, or_true, false_or, or_false, false_and, and_false, not_true_eq_false, not_false_eq_true, Classical.not_not, true_implies, false_implies, implies_true, exists_eq_left, exists_eq_left', Option.some.injEq, reduceIte, Nat.reduceEqDiff, Nat.reduceLT, Nat.reduceLeDiff, Nat.reduceAdd, Nat.reduceSub, Nat.reduceMul, eq_self, ne_eq, and_imp, forall_const, reduceCtorEq, am_w, List.map_cons, List.map_nil, List.sum_cons, List.sum_nil, Value.category, Nat.zero_le, Nat.le_refl]
    · simp (disch := omega) only [am_hs, dj3, true_and, and_true, and_self, true_or, or_true, false_or, or_false, false_and, and_false, not_true_eq_false, not_false_eq_true, Classical.not_not, true_implies, false_implies, implies_true, exists_eq_left, exists_eq_left', Option.some.injEq, reduceIte, Nat.reduceEqDiff, Nat.reduceLT, Nat.reduceLeDiff, Nat.reduceAdd, Nat.reduceSub, Nat.reduceMul, eq_self, ne_eq, and_imp, forall_const, reduceCtorEq, am_w, List.map_cons, List.map_nil, List.sum_cons, List.sum_nil, Value.category, Nat.zero_le, Nat.le_refl]
    · simp (disch := omega) only [am_hs, dj3, true_and, and_true, and_self, true_or, or_true, false_or, or_false, false_and, and_false, not_true_eq_false, not_false_eq_true, Classical.not_not, true_implies, false_implies, implies_true, exists_eq_left, exists_eq_left', Option.some.injEq, reduceIte, Nat.reduceEqDiff, Nat.reduceLT, Nat.reduceLeDiff, Nat.reduceAdd, Nat.reduceSub, Nat.reduceMul, eq_self, ne_eq, and_imp, forall_const, reduceCtorEq, am_w, List.map_cons, List.map_nil, List.sum_cons, List.sum_nil, Value.category, Nat.zero_le, Nat.le_refl]
    · simp (disch := omega) only [am_hs, dj3, true_and, and_true, and_self, true_or, or_true, false_or, or_false, false_and, and_false, not_true_eq_false, not_false_eq_true, Classical.not_not, true_implies, false_implies, implies_true, exists_eq_left, exists_eq_left', Option.some.injEq, reduceIte, Nat.reduceEqDiff, Nat.reduceLT, Nat.reduceLeDiff, Nat.reduceAdd, Nat.reduceSub, Nat.reduceMul, eq_self, ne_eq, and_imp, forall_const, reduceCtorEq, am_w, List.map_cons, List.map_nil, List.sum_cons, List.sum_nil, Value.category, Nat.zero_le, Nat.le_refl]
    · simp (disch := omega) only [am_hs, dj3, true_and, and_true, and_self, true_or, or_true, false_or, or_false, false_and, and_false, not_true_eq_false, not_false_eq_true, Classical.not_not, true_implies, false_implies, implies_true, exists_eq_left, exists_eq_left', Option.some.injEq, reduceIte, Nat.reduceEqDiff, Nat.reduceLT, Nat.reduceLeDiff, Nat.reduceAdd, Nat.reduceSub, Nat.reduceMul, eq_self, ne_eq, and_imp, forall_const, reduceCtorEq, am_w, List.map_cons, List.map_nil, List.sum_cons, List.sum_nil, Value.category, Nat.zero_le, Nat.le_refl]; rw [v3 13 (by omega) (by omega)]; exact p14
  obtain ⟨a1, a2', a3'⟩ := md_r sk (k := 42) (by decide) rfl (by decide)
  obtain ⟨b1, b2, b3⟩ := md_r sk (k := 43) (by decide) rfl (by decide)
  have q1 : ¬ rd.2.1.1 ≤ e := by omega
  refine vc_202_141 tt _ _ _ _ _ _ _ _ _ ?_
  simp (disch := omega) only [kk, a1, a2', a3', b1, b2, b3, e24, q1, q41, e42, e43, qi_lt, qi_le, qi_eq, qi_nn, qi_in, qi_add, qi_l, ql_i, ql_lt, ql_le, ql_eq, ql_add, qc_lt, qc_eq, qc_ge, qc_gt, qc_le, true_and, and_true, and_self, true_or, or_true, false_or, or_false, false_and, and_false, not_true_eq_false, not_false_eq_true, Classical.not_not, true_implies, false_implies, implies_true, exists_eq_left, exists_eq_left', Option.some.injEq, reduceIte, Nat.reduceEqDiff, Nat.reduceLT, Nat.reduceLeDiff, Nat.reduceAdd, Nat.reduceSub, Nat.reduceMul, eq_self, ne_eq, and_imp, forall_const, reduceCtorEq, am_w, List.map_cons, List.map_nil, List.sum_cons, List.sum_nil, Value.category, Nat.zero_le, Nat.le_refl]
  cases hem : rd.2.1.2.1 e with
  | false =>
    refine ⟨fun _ => ⟨_, _, ct_fresh sk e24, fun k2 e2 => ?_, fun _ _ z => z.elim⟩, fun z => absurd rfl z⟩
    subst e2
    exact l181 _ (by rw [hem, if_neg (fun z => by cases z.1)])
  | true =>
    refine ⟨fun z => absurd z (show ¬ Int32.ofNat 1 = Int32.ofNat 0 by decide), fun _ => ?_⟩
    cases hfl : rd.2.1.2.2.1 (e - rk rd.2.1.2.1 e) with
    | true =>
      refine ⟨fun _ => ⟨_, _, ct_fresh sk e24, fun k2 e2 => ?_, fun _ _ z => z.elim⟩, fun z => absurd z (show ¬ b01 (true && true) = Int32.ofNat 0 by decide)⟩
      subst e2
      exact l181 _ (by rw [hfl, if_neg (fun z => by cases z.2)])
    | false =>
      refine ⟨fun z => absurd rfl z, fun _ => ⟨_, _, ct_fresh sk e24, fun k2 e2 => ?_, fun _ _ z => z.elim⟩⟩
      subst e2
      exact l181 _ (by rw [hem, hfl, if_pos ⟨rfl, rfl⟩])
end MSE
