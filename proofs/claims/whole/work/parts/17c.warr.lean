/-! deps: 17b -/
/-! ===== the class's writer: the order ===== -/
theorem oBn_p {E : Nat → sE} {b i : Nat} : ∀ {d : Nat}, ∃ r, oBn E b (i + d) = oBn E b i ++ r
  | 0 => ⟨[], by rw [List.append_nil]; rfl⟩
  | d + 1 => by
    obtain ⟨r, e⟩ := oBn_p (E := E) (b := b) (i := i) (d := d)
    exact ⟨r ++ (if 0 < e_sz (E (i + d)) ∧ e_hm (E (i + d)) = b then [i + d] else []), by rw [← Nat.add_assoc, oBn_s, e, List.append_assoc]⟩
theorem oZn_p {E : Nat → sE} {i : Nat} : ∀ {d : Nat}, ∃ r, oZn E (i + d) = oZn E i ++ r
  | 0 => ⟨[], by rw [List.append_nil]; rfl⟩
  | d + 1 => by
    obtain ⟨r, e⟩ := oZn_p (E := E) (i := i) (d := d)
    exact ⟨r ++ (if e_sz (E (i + d)) = 0 then [i + d] else []), by rw [← Nat.add_assoc, oZn_s, e, List.append_assoc]⟩
theorem fm_s {α : Type} {g : Nat → List α} {b : Nat} : (R0 (b + 1)).flatMap g = (R0 b).flatMap g ++ g b := by
  rw [R0_s, List.flatMap_append, List.flatMap_cons, List.flatMap_nil, List.append_nil]
theorem fm_p {α : Type} {g : Nat → List α} {b : Nat} : ∀ {d : Nat}, ∃ r, (R0 (b + d)).flatMap g = (R0 b).flatMap g ++ r
  | 0 => ⟨[], by rw [List.append_nil]; rfl⟩
  | d + 1 => by
    obtain ⟨r, e⟩ := fm_p (g := g) (b := b) (d := d)
    exact ⟨r ++ g (b + d), by rw [← Nat.add_assoc, fm_s, e, List.append_assoc]⟩
/-- so far -/
def oP (a : sA) (b i : Nat) : List Nat := (R0 b).flatMap (fun b => oBn (a_E a) b (a_n a)) ++ oBn (a_E a) b i
theorem oP_p {a : sA} {b i : Nat} (hb : b < 6) (hi : i ≤ a_n a) : ∃ r, oA a = oP a b i ++ r := by
  obtain ⟨r1, e1⟩ := fm_p (g := fun b => oBn (a_E a) b (a_n a)) (b := b + 1) (d := 6 - (b + 1))
  obtain ⟨r2, e2⟩ := oBn_p (E := a_E a) (b := b) (i := i) (d := a_n a - i)
  rw [show i + (a_n a - i) = a_n a by omega] at e2
  rw [show b + 1 + (6 - (b + 1)) = 6 by omega, fm_s (b := b)] at e1
  refine ⟨r2 ++ r1 ++ oZn (a_E a) (a_n a), ?_⟩
  unfold oA oK oP
  rw [e1, e2]
  simp only [List.append_assoc]
def kbn (a : sA) (b : Nat) : Nat := ((R0 b).map (fun b => if 0 < sfo (a_E a) b (a_n a) then 1 else 0)).sum
theorem kbn_s {a : sA} {b : Nat} : kbn a (b + 1) = kbn a b + (if 0 < sfo (a_E a) b (a_n a) then 1 else 0) := by
  unfold kbn
  rw [R0_s, List.map_append, List.sum_append]
  simp
theorem kbn_le {a : sA} : ∀ {b : Nat}, kbn a b ≤ b
  | 0 => Nat.le_refl _
  | b + 1 => by
    have := kbn_le (a := a) (b := b)
    rw [kbn_s]
    split <;> omega
section WD
variable {tt : Nat → Nat} {h h' : am_H} {cd : Nat → Nat} {bb : Nat → Nat → Nat} {wa wt : Nat} {a : sA}
/-- what arranging leaves as it is -/
def afr (cd : Nat → Nat) (h h' : am_H) : Prop := am_K h' = am_K h ∧ am_N h' = am_N h ∧ am_R h' = am_R h ∧ am_J h' = am_J h ∧ am_B h' = am_B h ∧ am_A h' = am_A h ∧ am_U h' = am_U h ∧ am_V h' = am_V h ∧ (∀ x, x ≠ cd 21 → am_C h' x = am_C h x) ∧ (∀ c f x, ¬ (c = 8 ∧ x = cd 20) → am_I h' c f x = am_I h c f x)
theorem afr.rf : afr cd h h := ⟨rfl, rfl, rfl, rfl, rfl, rfl, rfl, rfl, fun _ _ => rfl, fun _ _ _ _ => rfl⟩
theorem afr.sI {f : Nat} {v : Int32} {h0 : am_H} (q : afr cd h0 h) : afr cd h0 (am_sI h 8 f (cd 20) v) := by
  obtain ⟨q1, q2, q3, q4, q5, q6, q7, q8, q9, q10⟩ := q
  exact ⟨q1, q2, q3, q4, q5, q6, q7, q8, q9, fun c g x z => by simp only [am_hs]; rw [if_neg (fun w => z ⟨w.1, w.2.2⟩)]; exact q10 c g x z⟩
theorem afr.sC {i : Nat} {v : Option Nat} {h0 : am_H} (q : afr cd h0 h) : afr cd h0 (am_sC h (cd 21) i v) := by
  obtain ⟨q1, q2, q3, q4, q5, q6, q7, q8, q9, q10⟩ := q
  exact ⟨q1, q2, q3, q4, q5, q6, q7, q8, fun x z => by rw [← q9 x z]; funext j; simp only [am_hs]; rw [if_neg (fun w => z w.1)], q10⟩
/-- the row of those arranged so far -/
def WL (tt : Nat → Nat) (h : am_H) (cd : Nat → Nat) (bb : Nat → Nat → Nat) (wa wt : Nat) (a : sA) (h0 : am_H) (l : List Nat) : Prop := WA tt h cd bb wa wt a ∧ am_I h 8 4 (cd 20) = Int32.ofNat l.length ∧ (∀ j, j < l.length → am_C h (cd 21) j = some (cd (c_en wa (l.getD j 0)))) ∧ afr cd h0 h
theorem ct_append {h0 : am_H} {l : List Nat} (x : WL tt h cd bb wa wt a h0 l) {i : Nat} (hi : i < 24) (hl : l.length < 24) : am_Ct tt 88 [.ref (cd 20), .ref (cd (c_en wa i))] h (am_pV (fun h' => WL tt h' cd bb wa wt a h0 (l ++ [i]) ∧ am_I h' 8 5 (cd 20) = am_I h 8 5 (cd 20) ∧ am_I h' 8 6 (cd 20) = am_I h 8 6 (cd 20)) no_x) := by
  obtain ⟨x1, x2, x3, x4⟩ := x
  have f := x1.f
  have ke : am_K h (cd (c_en wa i)) = 5 := ((x1.1.2.2.2.2.1 wa x1.1.1).1.2.2.2.2.2.2.2.1 i hi).2.1
  refine vc_88_0 tt _ _ h _ _ ?_
  have c1 : ¬ 24 ≤ l.length := by omega
  simp (disch := omega) only [f, x2, ke, hl, c1, am_hs, qi_lt, qi_le, qi_eq, qi_nn, qi_in, qi_add, qi_l, ql_i, ql_lt, ql_le, ql_eq, ql_add, qc_lt, qc_eq, qc_ge, qc_gt, qc_le, true_and, and_true, and_self, true_or, or_true, false_or, or_false, false_and, and_false, not_true_eq_false, not_false_eq_true, Classical.not_not, true_implies, false_implies, implies_true, exists_eq_left, exists_eq_left', Option.some.injEq, reduceIte, Nat.reduceEqDiff, Nat.reduceLT, Nat.reduceLeDiff, Nat.reduceAdd, Nat.reduceSub, Nat.reduceMul, eq_self, ne_eq, and_imp, forall_const, reduceCtorEq, am_w, List.map_cons, List.map_nil, List.sum_cons, List.sum_nil, Value.category, Nat.zero_le, Nat.le_refl]
  refine ⟨x1.same rfl rfl rfl rfl (fun y hy => ?_) (fun c g y hc => ?_) (fun _ _ _ => rfl) ?_, ?_, fun j hj => ?_, (afr.sC x4).sI⟩
  · funext j
    simp only [am_hs]
    rw [if_neg (fun z => hy z.1)]
  · simp only [am_hs]
    rw [if_neg (by omega)]
  · obtain ⟨n, t⟩ := x1.2.2.2.2.2.2
    refine ⟨n, t.1, ?_, t.2.2⟩
    simp only [am_hs, true_and, and_true, and_self, true_or, or_true, false_or, or_false, false_and, and_false, not_true_eq_false, not_false_eq_true, Classical.not_not, true_implies, false_implies, implies_true, exists_eq_left, exists_eq_left', Option.some.injEq, reduceIte, Nat.reduceEqDiff, Nat.reduceLT, Nat.reduceLeDiff, Nat.reduceAdd, Nat.reduceSub, Nat.reduceMul, eq_self, ne_eq, and_imp, forall_const, reduceCtorEq, am_w, List.map_cons, List.map_nil, List.sum_cons, List.sum_nil, Value.category, Nat.zero_le, Nat.le_refl]
    exact t.2.1
  · simp only [am_hs, true_and, and_true, and_self, true_or, or_true, false_or, or_false, false_and, and_false, not_true_eq_false, not_false_eq_true, Classical.not_not, true_implies, false_implies, implies_true, exists_eq_left, exists_eq_left', Option.some.injEq, reduceIte, Nat.reduceEqDiff, Nat.reduceLT, Nat.reduceLeDiff, Nat.reduceAdd, Nat.reduceSub, Nat.reduceMul, eq_self, ne_eq, and_imp, forall_const, reduceCtorEq, am_w, List.map_cons, List.map_nil, List.sum_cons, List.sum_nil, Value.category, Nat.zero_le, Nat.le_refl]
    rw [List.length_append]
    rfl
  · rw [List.length_append, List.length_singleton] at hj
    simp only [am_hs, true_and, and_true, and_self, true_or, or_true, false_or, or_false, false_and, and_false, not_true_eq_false, not_false_eq_true, Classical.not_not, true_implies, false_implies, implies_true, exists_eq_left, exists_eq_left', Option.some.injEq, reduceIte, Nat.reduceEqDiff, Nat.reduceLT, Nat.reduceLeDiff, Nat.reduceAdd, Nat.reduceSub, Nat.reduceMul, eq_self, ne_eq, and_imp, forall_const, reduceCtorEq, am_w, List.map_cons, List.map_nil, List.sum_cons, List.sum_nil, Value.category, Nat.zero_le, Nat.le_refl]
    by_cases c : j = l.length
    · subst c
      rw [if_pos rfl, List.getD_eq_getElem?_getD, List.getElem?_append_right (Nat.le_refl _), Nat.sub_self]
      rfl
    · have hj' : j < l.length := by omega
      rw [if_neg c, x3 j hj', List.getD_eq_getElem?_getD, List.getD_eq_getElem?_getD, List.getElem?_append_left hj']
theorem ct_arrange (x : WA tt h cd bb wa wt a) : am_Ct tt 87 [.ref (cd 20)] h (am_pV (fun h' => WX tt h' cd bb wa wt a ∧ afr cd h h') no_x) := by
  have wf := x.2.2.1
  have n24 := wf.1
  have lA := oA_n wf
  -- those without bytes
  have keyZ : ∀ (d i : Nat) (k : am_H), d + i = a_n a → WL tt k cd bb wa wt a h (oK a ++ oZn (a_E a) i) → am_I k 8 5 (cd 20) = Int32.ofNat (oK a).length → am_I k 8 6 (cd 20) = Int32.ofNat (kb a) →
      am_Ev tt 87 114 [some (.ref (cd 20)), some (.int (Int32.ofNat i)), none, none, none] [] k (am_pV (fun h' => WX tt h' cd bb wa wt a ∧ afr cd h h') no_x) := by
    intro d
    induction d with
    | zero =>
      intro i k e y y5 y6
      have f := y.1.f
      have : i = a_n a := by omega
      subst this
      refine vc_87_114 tt _ _ _ _ _ ?_
      simp (disch := omega) only [f, am_hs, qi_lt, qi_le, qi_eq, qi_nn, qi_in, qi_add, qi_l, ql_i, ql_lt, ql_le, ql_eq, ql_add, qc_lt, qc_eq, qc_ge, qc_gt, qc_le, true_and, and_true, and_self, true_or, or_true, false_or, or_false, false_and, and_false, not_true_eq_false, not_false_eq_true, Classical.not_not, true_implies, false_implies, implies_true, exists_eq_left, exists_eq_left', Option.some.injEq, reduceIte, Nat.reduceEqDiff, Nat.reduceLT, Nat.reduceLeDiff, Nat.reduceAdd, Nat.reduceSub, Nat.reduceMul, eq_self, ne_eq, and_imp, forall_const, reduceCtorEq, am_w, List.map_cons, List.map_nil, List.sum_cons, List.sum_nil, Value.category, Nat.zero_le, Nat.le_refl]
      have ly : (oK a ++ oZn (a_E a) (a_n a)).length = a_n a := lA
      refine ⟨⟨y.1, by have := y.2.1; rw [ly] at this; exact this, y5, y6, fun j hj => y.2.2.1 j (by rw [ly]; exact hj)⟩, y.2.2.2⟩
    | succ d ih =>
      intro i k e y y5 y6
      have f := y.1.f
      have i24 : i < 24 := by omega
      have ni : ¬ a_n a ≤ i := by omega
      obtain ⟨e1, e2⟩ := (y.1.1.2.2.2.2.1 wa y.1.1.1).1.2.2.2.2.2.2.2.1 i i24
      have v4 := (y.1.2.1.2.1 i (by omega)).2.2.2.1
      have g3 := (wf.2.1 i (by omega)).2.2.1
      refine vc_87_114 tt _ _ _ _ _ ?_
      simp (disch := omega) only [f, e1, e2.1, v4, i24, ni, am_hs, qi_lt, qi_le, qi_eq, qi_nn, qi_in, qi_add, qi_l, ql_i, ql_lt, ql_le, ql_eq, ql_add, qc_lt, qc_eq, qc_ge, qc_gt, qc_le, true_and, and_true, and_self, true_or, or_true, false_or, or_false, false_and, and_false, not_true_eq_false, not_false_eq_true, Classical.not_not, true_implies, false_implies, implies_true, exists_eq_left, exists_eq_left', Option.some.injEq, reduceIte, Nat.reduceEqDiff, Nat.reduceLT, Nat.reduceLeDiff, Nat.reduceAdd, Nat.reduceSub, Nat.reduceMul, eq_self, ne_eq, and_imp, forall_const, reduceCtorEq, am_w, List.map_cons, List.map_nil, List.sum_cons, List.sum_nil, Value.category, Nat.zero_le, Nat.le_refl]
      refine ⟨fun z => ?_, fun z => ⟨_, _, ct_append y i24 ?_, fun k' e' => ?_, fun _ _ z => z⟩⟩
      · refine vc_87_153 tt _ _ _ _ _ ?_
        rw [qi_add]
        refine ih (i + 1) k (by omega) ?_ y5 y6
        rw [oZn_s, if_neg z, List.append_nil]
        exact y
      · obtain ⟨r, er⟩ := oZn_p (E := a_E a) (i := i + 1) (d := d)
        rw [show i + 1 + d = a_n a by omega, oZn_s, if_pos z] at er
        unfold oA at lA
        rw [er] at lA
        simp only [List.length_append, List.length_singleton] at lA ⊢
        omega
      · obtain ⟨y', y5', y6'⟩ := e'
        refine vc_87_153 tt _ _ _ _ _ ?_
        rw [qi_add]
        refine ih (i + 1) k' (by omega) ?_ (y5'.trans y5) (y6'.trans y6)
        rw [oZn_s, if_pos z, ← List.append_assoc]
        exact y'
  -- a block's
  have keyB : ∀ (b : Nat), b < 6 → ∀ (d i : Nat) (k : am_H) (Q : am_H → Prop), d + i = a_n a → WL tt k cd bb wa wt a h (oP a b i) → am_I k 8 6 (cd 20) = Int32.ofNat (kbn a b) →
      (∀ k', WL tt k' cd bb wa wt a h ((R0 (b + 1)).flatMap (fun b => oBn (a_E a) b (a_n a))) → am_I k' 8 6 (cd 20) = Int32.ofNat (kbn a (b + 1)) → am_Ev tt 87 12 [some (.ref (cd 20)), some (.int (Int32.ofNat (b + 1))), none, none, none] [] k' (am_pV Q no_x)) →
      am_Ev tt 87 25 [some (.ref (cd 20)), some (.int (Int32.ofNat b)), some (.int (Int32.ofNat ((R0 b).flatMap (fun b => oBn (a_E a) b (a_n a))).length)), some (.int (Int32.ofNat i)), none] [] k (am_pV Q no_x) := by
    intro b hb d
    induction d with
    | zero =>
      intro i k Q e y y6 hQ
      have f := y.1.f
      have : i = a_n a := by omega
      subst this
      refine vc_87_25 tt _ _ _ _ _ _ _ ?_
      obtain ⟨r, er⟩ := oP_p (a := a) hb (Nat.le_refl _)
      have lP : (oP a b (a_n a)).length ≤ 24 := by
        rw [er, List.length_append] at lA
        omega
      have lQ : (oP a b (a_n a)).length = ((R0 b).flatMap (fun b => oBn (a_E a) b (a_n a))).length + sfo (a_E a) b (a_n a) := by
        unfold oP
        rw [List.length_append, oBn_l]
      have kl := kbn_le (a := a) (b := b)
      have up : ∀ v, WL tt k cd bb wa wt a h (oP a b (a_n a)) → WL tt (am_sI k 8 6 (cd 20) v) cd bb wa wt a h ((R0 (b + 1)).flatMap (fun b => oBn (a_E a) b (a_n a))) := by
        intro v y
        rw [fm_s]
        refine ⟨y.1.same rfl rfl rfl rfl (fun _ _ => rfl) (fun c g z hc => by simp only [am_hs]; rw [if_neg (by omega)]) (fun _ _ _ => rfl) ?_, by simp only [am_hs, true_and, and_true, and_self, true_or, or_true, false_or, or_false, false_and, and_false, not_true_eq_false, not_false_eq_true, Classical.not_not, true_implies, false_implies, implies_true, exists_eq_left, exists_eq_left', Option.some.injEq, reduceIte, Nat.reduceEqDiff, Nat.reduceLT, Nat.reduceLeDiff, Nat.reduceAdd, Nat.reduceSub, Nat.reduceMul, eq_self, ne_eq, and_imp, forall_const, reduceCtorEq, am_w, List.map_cons, List.map_nil, List.sum_cons, List.sum_nil, Value.category, Nat.zero_le, Nat.le_refl]; exact y.2.1, y.2.2.1, y.2.2.2.sI⟩
        obtain ⟨n, t⟩ := y.1.2.2.2.2.2.2
        exact ⟨n, t.1, by simp only [am_hs, true_and, and_true, and_self, true_or, or_true, false_or, or_false, false_and, and_false, not_true_eq_false, not_false_eq_true, Classical.not_not, true_implies, false_implies, implies_true, exists_eq_left, exists_eq_left', Option.some.injEq, reduceIte, Nat.reduceEqDiff, Nat.reduceLT, Nat.reduceLeDiff, Nat.reduceAdd, Nat.reduceSub, Nat.reduceMul, eq_self, ne_eq, and_imp, forall_const, reduceCtorEq, am_w, List.map_cons, List.map_nil, List.sum_cons, List.sum_nil, Value.category, Nat.zero_le, Nat.le_refl]; exact t.2.1, t.2.2⟩
      have y2 := y.2.1
      have l0 : ((R0 b).flatMap (fun b => oBn (a_E a) b (a_n a))).length ≤ 24 := by omega
      simp (disch := omega) only [f, y2, y6, am_hs, qi_lt, qi_le, qi_eq, qi_nn, qi_in, qi_add, qi_l, ql_i, ql_lt, ql_le, ql_eq, ql_add, qc_lt, qc_eq, qc_ge, qc_gt, qc_le, true_and, and_true, and_self, true_or, or_true, false_or, or_false, false_and, and_false, not_true_eq_false, not_false_eq_true, Classical.not_not, true_implies, false_implies, implies_true, exists_eq_left, exists_eq_left', Option.some.injEq, reduceIte, Nat.reduceEqDiff, Nat.reduceLT, Nat.reduceLeDiff, Nat.reduceAdd, Nat.reduceSub, Nat.reduceMul, eq_self, ne_eq, and_imp, forall_const, reduceCtorEq, am_w, List.map_cons, List.map_nil, List.sum_cons, List.sum_nil, Value.category, Nat.zero_le, Nat.le_refl]
      refine ⟨fun z => ?_, fun z => ?_⟩
      · refine hQ _ (up _ y) ?_
        simp only [am_hs, true_and, and_true, and_self, true_or, or_true, false_or, or_false, false_and, and_false, not_true_eq_false, not_false_eq_true, Classical.not_not, true_implies, false_implies, implies_true, exists_eq_left, exists_eq_left', Option.some.injEq, reduceIte, Nat.reduceEqDiff, Nat.reduceLT, Nat.reduceLeDiff, Nat.reduceAdd, Nat.reduceSub, Nat.reduceMul, eq_self, ne_eq, and_imp, forall_const, reduceCtorEq, am_w, List.map_cons, List.map_nil, List.sum_cons, List.sum_nil, Value.category, Nat.zero_le, Nat.le_refl]
        rw [kbn_s, if_neg (by omega)]
      · refine hQ _ (up _ y) ?_
        simp only [am_hs, true_and, and_true, and_self, true_or, or_true, false_or, or_false, false_and, and_false, not_true_eq_false, not_false_eq_true, Classical.not_not, true_implies, false_implies, implies_true, exists_eq_left, exists_eq_left', Option.some.injEq, reduceIte, Nat.reduceEqDiff, Nat.reduceLT, Nat.reduceLeDiff, Nat.reduceAdd, Nat.reduceSub, Nat.reduceMul, eq_self, ne_eq, and_imp, forall_const, reduceCtorEq, am_w, List.map_cons, List.map_nil, List.sum_cons, List.sum_nil, Value.category, Nat.zero_le, Nat.le_refl]
        rw [kbn_s, if_pos (by omega)]
    | succ d ih =>
      intro i k Q e y y6 hQ
      have f := y.1.f
      have i24 : i < 24 := by omega
      have ni : ¬ a_n a ≤ i := by omega
      obtain ⟨e1, e2⟩ := (y.1.1.2.2.2.2.1 wa y.1.1.1).1.2.2.2.2.2.2.2.1 i i24
      have v4 := (y.1.2.1.2.1 i (by omega)).2.2.2.1
      have v5 := (y.1.2.1.2.1 i (by omega)).2.2.2.2.1
      obtain ⟨g1, g2, g3, g4⟩ := wf.2.1 i (by omega)
      have st : ¬ (0 < e_sz (a_E a i) ∧ e_hm (a_E a i) = b) → oP a b (i + 1) = oP a b i := by
        intro z
        unfold oP
        rw [oBn_s, if_neg z, List.append_nil]
      refine vc_87_25 tt _ _ _ _ _ _ _ ?_
      simp (disch := omega) only [f, e1, e2.1, v4, v5, i24, ni, am_hs, qi_lt, qi_le, qi_eq, qi_nn, qi_in, qi_add, qi_l, ql_i, ql_lt, ql_le, ql_eq, ql_add, qc_lt, qc_eq, qc_ge, qc_gt, qc_le, true_and, and_true, and_self, true_or, or_true, false_or, or_false, false_and, and_false, not_true_eq_false, not_false_eq_true, Classical.not_not, true_implies, false_implies, implies_true, exists_eq_left, exists_eq_left', Option.some.injEq, reduceIte, Nat.reduceEqDiff, Nat.reduceLT, Nat.reduceLeDiff, Nat.reduceAdd, Nat.reduceSub, Nat.reduceMul, eq_self, ne_eq, and_imp, forall_const, reduceCtorEq, am_w, List.map_cons, List.map_nil, List.sum_cons, List.sum_nil, Value.category, Nat.zero_le, Nat.le_refl]
      refine ⟨fun z => ?_, fun z => ⟨fun z2 => ?_, fun z2 => ⟨_, _, ct_append y i24 ?_, fun k' e' => ?_, fun _ _ z => z⟩⟩⟩
      · refine vc_87_70 tt _ _ _ _ _ _ _ ?_
        rw [qi_add]
        refine ih (i + 1) k Q (by omega) ?_ y6 hQ
        rw [st (by omega)]
        exact y
      · refine vc_87_70 tt _ _ _ _ _ _ _ ?_
        rw [qi_add]
        refine ih (i + 1) k Q (by omega) ?_ y6 hQ
        rw [st (by omega)]
        exact y
      · obtain ⟨r, er⟩ := oP_p (a := a) (i := i + 1) hb (by omega)
        unfold oP at er ⊢
        rw [oBn_s, if_pos (by omega)] at er
        rw [er] at lA
        simp only [List.length_append, List.length_singleton] at lA ⊢
        omega
      · obtain ⟨y', -, y6'⟩ := e'
        refine vc_87_70 tt _ _ _ _ _ _ _ ?_
        rw [qi_add]
        refine ih (i + 1) k' Q (by omega) ?_ (y6'.trans y6) hQ
        unfold oP
        rw [oBn_s, if_pos (by omega), ← List.append_assoc]
        exact y'
  -- the blocks
  have keyA : ∀ (d b : Nat) (k : am_H), d + b = 6 → WL tt k cd bb wa wt a h ((R0 b).flatMap (fun b => oBn (a_E a) b (a_n a))) → am_I k 8 6 (cd 20) = Int32.ofNat (kbn a b) → am_Ev tt 87 12 [some (.ref (cd 20)), some (.int (Int32.ofNat b)), none, none, none] [] k (am_pV (fun h' => WX tt h' cd bb wa wt a ∧ afr cd h h') no_x) := by
    intro d
    induction d with
    | zero =>
      intro b k e y y6
      have f := y.1.f
      have : b = 6 := by omega
      subst this
      have y2 := y.2.1
      refine vc_87_12 tt _ _ _ _ _ ?_
      simp (disch := omega) only [f, y2, am_hs, qi_lt, qi_le, qi_eq, qi_nn, qi_in, qi_add, qi_l, ql_i, ql_lt, ql_le, ql_eq, ql_add, qc_lt, qc_eq, qc_ge, qc_gt, qc_le, true_and, and_true, and_self, true_or, or_true, false_or, or_false, false_and, and_false, not_true_eq_false, not_false_eq_true, Classical.not_not, true_implies, false_implies, implies_true, exists_eq_left, exists_eq_left', Option.some.injEq, reduceIte, Nat.reduceEqDiff, Nat.reduceLT, Nat.reduceLeDiff, Nat.reduceAdd, Nat.reduceSub, Nat.reduceMul, eq_self, ne_eq, and_imp, forall_const, reduceCtorEq, am_w, List.map_cons, List.map_nil, List.sum_cons, List.sum_nil, Value.category, Nat.zero_le, Nat.le_refl]
      refine keyZ (a_n a) 0 _ (by omega) ⟨y.1.same rfl rfl rfl rfl (fun _ _ => rfl) (fun c g z hc => by simp only [am_hs]; rw [if_neg (by omega)]) (fun _ _ _ => rfl) ?_, ?_, ?_, y.2.2.2.sI⟩ (by simp only [am_hs, true_and, and_true, and_self, true_or, or_true, false_or, or_false, false_and, and_false, not_true_eq_false, not_false_eq_true, Classical.not_not, true_implies, false_implies, implies_true, exists_eq_left, exists_eq_left', Option.some.injEq, reduceIte, Nat.reduceEqDiff, Nat.reduceLT, Nat.reduceLeDiff, Nat.reduceAdd, Nat.reduceSub, Nat.reduceMul, eq_self, ne_eq, and_imp, forall_const, reduceCtorEq, am_w, List.map_cons, List.map_nil, List.sum_cons, List.sum_nil, Value.category, Nat.zero_le, Nat.le_refl]; rfl) (by simp only [am_hs, true_and, and_true, and_self, true_or, or_true, false_or, or_false, false_and, and_false, not_true_eq_false, not_false_eq_true, Classical.not_not, true_implies, false_implies, implies_true, exists_eq_left, exists_eq_left', Option.some.injEq, reduceIte, Nat.reduceEqDiff, Nat.reduceLT, Nat.reduceLeDiff, Nat.reduceAdd, Nat.reduceSub, Nat.reduceMul, eq_self, ne_eq, and_imp, forall_const, reduceCtorEq, am_w, List.map_cons, List.map_nil, List.sum_cons, List.sum_nil, Value.category, Nat.zero_le, Nat.le_refl]; exact y6)
      · obtain ⟨n, t⟩ := y.1.2.2.2.2.2.2
        exact ⟨n, t.1, by simp only [am_hs, true_and, and_true, and_self, true_or, or_true, false_or, or_false, false_and, and_false, not_true_eq_false, not_false_eq_true, Classical.not_not, true_implies, false_implies, implies_true, exists_eq_left, exists_eq_left', Option.some.injEq, reduceIte, Nat.reduceEqDiff, Nat.reduceLT, Nat.reduceLeDiff, Nat.reduceAdd, Nat.reduceSub, Nat.reduceMul, eq_self, ne_eq, and_imp, forall_const, reduceCtorEq, am_w, List.map_cons, List.map_nil, List.sum_cons, List.sum_nil, Value.category, Nat.zero_le, Nat.le_refl]; exact t.2.1, t.2.2⟩
      · rw [show oK a ++ oZn (a_E a) 0 = (R0 6).flatMap (fun b => oBn (a_E a) b (a_n a)) from List.append_nil _]
        simp only [am_hs, true_and, and_true, and_self, true_or, or_true, false_or, or_false, false_and, and_false, not_true_eq_false, not_false_eq_true, Classical.not_not, true_implies, false_implies, implies_true, exists_eq_left, exists_eq_left', Option.some.injEq, reduceIte, Nat.reduceEqDiff, Nat.reduceLT, Nat.reduceLeDiff, Nat.reduceAdd, Nat.reduceSub, Nat.reduceMul, eq_self, ne_eq, and_imp, forall_const, reduceCtorEq, am_w, List.map_cons, List.map_nil, List.sum_cons, List.sum_nil, Value.category, Nat.zero_le, Nat.le_refl]
        exact y2
      · rw [show oK a ++ oZn (a_E a) 0 = (R0 6).flatMap (fun b => oBn (a_E a) b (a_n a)) from List.append_nil _]
        exact y.2.2.1
    | succ d ih =>
      intro b k e y y6
      have f := y.1.f
      have y2 := y.2.1
      have nb' : ¬ 6 ≤ b := by omega
      refine vc_87_12 tt _ _ _ _ _ ?_
      simp (disch := omega) only [f, y2, nb', am_hs, qi_lt, qi_le, qi_eq, qi_nn, qi_in, qi_add, qi_l, ql_i, ql_lt, ql_le, ql_eq, ql_add, qc_lt, qc_eq, qc_ge, qc_gt, qc_le, true_and, and_true, and_self, true_or, or_true, false_or, or_false, false_and, and_false, not_true_eq_false, not_false_eq_true, Classical.not_not, true_implies, false_implies, implies_true, exists_eq_left, exists_eq_left', Option.some.injEq, reduceIte, Nat.reduceEqDiff, Nat.reduceLT, Nat.reduceLeDiff, Nat.reduceAdd, Nat.reduceSub, Nat.reduceMul, eq_self, ne_eq, and_imp, forall_const, reduceCtorEq, am_w, List.map_cons, List.map_nil, List.sum_cons, List.sum_nil, Value.category, Nat.zero_le, Nat.le_refl]
      refine keyB b (by omega) (a_n a) 0 k _ (by omega) ?_ y6 (fun k' y' y6' => ih (b + 1) k' (by omega) y' y6')
      rw [show oP a b 0 = (R0 b).flatMap (fun b => oBn (a_E a) b (a_n a)) from List.append_nil _]
      exact y
  have f := x.f
  refine vc_87_0 tt _ h _ _ ⟨f.1, f.1, ?_⟩
  refine keyA 6 0 _ (by omega) ⟨x.same rfl rfl rfl rfl (fun _ _ => rfl) (fun c g z hc => by simp only [am_hs]; rw [if_neg (by omega), if_neg (by omega)]) (fun _ _ _ => rfl) ?_, by simp only [am_hs, true_and, and_true, and_self, true_or, or_true, false_or, or_false, false_and, and_false, not_true_eq_false, not_false_eq_true, Classical.not_not, true_implies, false_implies, implies_true, exists_eq_left, exists_eq_left', Option.some.injEq, reduceIte, Nat.reduceEqDiff, Nat.reduceLT, Nat.reduceLeDiff, Nat.reduceAdd, Nat.reduceSub, Nat.reduceMul, eq_self, ne_eq, and_imp, forall_const, reduceCtorEq, am_w, List.map_cons, List.map_nil, List.sum_cons, List.sum_nil, Value.category, Nat.zero_le, Nat.le_refl]; rfl, fun j hj => absurd hj (Nat.not_lt_zero j), afr.rf.sI.sI⟩ (by simp only [am_hs, true_and, and_true, and_self, true_or, or_true, false_or, or_false, false_and, and_false, not_true_eq_false, not_false_eq_true, Classical.not_not, true_implies, false_implies, implies_true, exists_eq_left, exists_eq_left', Option.some.injEq, reduceIte, Nat.reduceEqDiff, Nat.reduceLT, Nat.reduceLeDiff, Nat.reduceAdd, Nat.reduceSub, Nat.reduceMul, eq_self, ne_eq, and_imp, forall_const, reduceCtorEq, am_w, List.map_cons, List.map_nil, List.sum_cons, List.sum_nil, Value.category, Nat.zero_le, Nat.le_refl]; rfl)
  obtain ⟨n, t⟩ := x.2.2.2.2.2.2
  exact ⟨n, t.1, by simp only [am_hs, true_and, and_true, and_self, true_or, or_true, false_or, or_false, false_and, and_false, not_true_eq_false, not_false_eq_true, Classical.not_not, true_implies, false_implies, implies_true, exists_eq_left, exists_eq_left', Option.some.injEq, reduceIte, Nat.reduceEqDiff, Nat.reduceLT, Nat.reduceLeDiff, Nat.reduceAdd, Nat.reduceSub, Nat.reduceMul, eq_self, ne_eq, and_imp, forall_const, reduceCtorEq, am_w, List.map_cons, List.map_nil, List.sum_cons, List.sum_nil, Value.category, Nat.zero_le, Nat.le_refl]; exact t.2.1, t.2.2⟩
end WD
