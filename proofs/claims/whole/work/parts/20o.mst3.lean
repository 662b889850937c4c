/-! deps: 20n -/
/-! ===== the reference reads: STREAMS ===== -/
section MSV
variable {tt : Nat → Nat} {F : Fn} {n m : Nat} {ad : Nat → Nat} {h h' h'' k k' : am_H} {s : Ms} {X Y X' Y' : Nat → Prop}
theorem st_109 {r : Except pe (ST × Nat)} {B : Nat} (hB : B ≤ 6) {pk : Nat → Nat} (y : MY F n k m ad s) (g : mg m ad Xst Yst h k) (e30 : am_I k 10 30 m = Int32.ofNat B) (hr : r = bs s (kS2 F n B pk)) (hv : isOk s = true → (∀ b, b < B → 1 ≤ pk b ∧ pk b ≤ 2400) ∧ pkR ad B pk k) : am_Ev tt 189 109 [some (.ref m), none, none, none, none, none, none, none] [] k (am_pV (stQ F n m ad h r) no_x) := by
  unfold kS2 at hr
  rw [bs_n (), bs_n (), bs_n (), bs_n (Int64.ofNat 0), bs_n ()] at hr
  refine vc_189_109 tt _ _ _ _ ⟨y.1.1, _, _, ct_mneed y rfl, fun k1 w1 => ⟨w1.1.1.1, _, _, ct_mneed w1.1 rfl, fun k2 w2 => ⟨w2.1.1.1, _, _, ct_mneed w2.1 rfl, fun k3 w3 => ?_, fun _ _ z => z.elim⟩, fun _ _ z => z.elim⟩, fun _ _ z => z.elim⟩
  have g13 := w1.2.tr (w2.2.tr w3.2)
  have e30' : am_I k3 10 30 m = Int32.ofNat B := by rw [(g13.2.2 30 (by omega)).1]; exact e30
  have kk3 := w3.1.1.1
  have el : (Int32.ofNat B).toInt64 = l64 B := qi_l (by omega)
  simp only [kk3, e30', el, true_and, and_true, and_self, true_or, or_true, false_or, or_false, false_and, and_false, not_true_eq_false, not_false_eq_true, Classical.not_not, true_implies, false_implies, implies_true, exists_eq_left, exists_eq_left', Option.some.injEq, reduceIte, Nat.reduceEqDiff, Nat.reduceLT, Nat.reduceLeDiff, Nat.reduceAdd, Nat.reduceSub, Nat.reduceMul, eq_self, ne_eq, and_imp, forall_const, reduceCtorEq, am_w, List.map_cons, List.map_nil, List.sum_cons, List.sum_nil, Value.category, Nat.zero_le, Nat.le_refl]
  refine ⟨_, _, ct_rnumberIn w3.1 (l := l64 B) (u := l64 B) (by rw [ql_le (by omega) (by omega)]; omega) rfl, fun x k4 w4 => ⟨w4.1.1.1, _, _, ct_mneed w4.1 rfl, fun k5 w5 => ?_, fun _ _ z => z.elim⟩, fun _ _ z => z.elim⟩
  refine vc_189_147 tt _ _ _ _ ?_
  have g15 : mg m ad Xn Yn k k5 := g13.qn.tr (w4.2.1.tr w5.2.qn)
  have gg : mg m ad Xst Yst h k5 := g.tr (g15.mo (fun _ z => z.elim) (fun _ z => by omega))
  have e305 : am_I k5 10 30 m = Int32.ofNat B := by rw [(g15.2.2 30 (by omega)).1]; exact e30
  have y5 := w5.1
  have hv' : isOk (st (bs (st (bs (st (bs (st (bs (st (bs s fun p => tX F n p 0)) fun p => tX F n p 7)) fun p => tX F n p 11)) fun p => tN F n p (l64 B) (l64 B))) fun p => tX F n p 0)) = true → _ := fun z => hv (ok_b (ok_b (ok_b (ok_b (ok_b z)))))
  generalize st (bs (st (bs (st (bs (st (bs (st (bs s fun p => tX F n p 0)) fun p => tX F n p 7)) fun p => tX F n p 11)) fun p => tN F n p (l64 B) (l64 B))) fun p => tX F n p 0) = s1 at *
  cases s1 with
  | error e => exact st_150b hB y5 gg e305 hr
  | ok q =>
    obtain ⟨v1, v3⟩ := hv' rfl
    exact st_150 hB v1 B 0 k5 q _ (by omega) y5 gg e305 (v3.mo g15 (fun z => z)) (fun f hf => absurd hf (by omega)) (fun f hf => absurd hf (by omega)) hr
theorem st_88b {r : Except pe (ST × Nat)} {B : Nat} (hB : B ≤ 6) {e : pe} {a1 a3 : Int32} (y : MY F n k m ad (.error e)) (g : mg m ad Xst Yst h k) (e30 : am_I k 10 30 m = Int32.ofNat B) (er : r = .error e) : am_Ev tt 189 88 [some (.ref m), some (.int a1), none, some (.int a3), none, none, none, none] [] k (am_pV (stQ F n m ad h r) no_x) := by
  refine vc_189_88 tt _ _ _ _ _ _ ⟨y.1.1, _, _, ct_mfine y, fun z k2 e2 => ?_, fun _ _ z => z.elim⟩
  obtain ⟨rfl, rfl⟩ := e2
  exact ⟨fun _ => st_109 (pk := fun _ => 0) hB y g e30 er (fun z => by cases z), fun z => absurd rfl z⟩
theorem st_41b {r : Except pe (ST × Nat)} {B : Nat} (hB : B ≤ 6) {e : pe} {a1 a3 a4 : Int32} (y : MY F n k m ad (.error e)) (g : mg m ad Xst Yst h k) (e30 : am_I k 10 30 m = Int32.ofNat B) (er : r = .error e) : am_Ev tt 189 41 [some (.ref m), some (.int a1), none, some (.int a3), some (.int a4), none, none, none] [] k (am_pV (stQ F n m ad h r) no_x) := by
  refine vc_189_41 tt _ _ _ _ _ _ _ ⟨y.1.1, fun _ => st_88b hB y g e30 er, fun _ => ⟨y.1.1, _, _, ct_mfine y, fun z k2 e2 => ?_, fun _ _ z => z.elim⟩⟩
  obtain ⟨rfl, rfl⟩ := e2
  exact ⟨fun _ => st_88b hB y g e30 er, fun z => absurd rfl z⟩
theorem st_41 {r : Except pe (ST × Nat)} {B off : Nat} (hB : B ≤ 6) (ho : off ≤ 60000) : ∀ (d i : Nat) (k : am_H) (q sm : Nat) (pk : Nat → Nat), d + 1 + i = B → MY F n k m ad (.ok q) → mg m ad Xst Yst h k → am_I k 10 30 m = Int32.ofNat B → pkR ad i pk k → (∀ f, f < i → 1 ≤ pk f ∧ pk f ≤ 2400) → sm ≤ 2400 * i → r = bd (lPS F n off (d + 1) i q sm pk) (fun pk p => kS2 F n B pk p) → am_Ev tt 189 41 [some (.ref m), some (.int (Int32.ofNat off)), none, some (.int (Int32.ofNat sm)), some (.int (Int32.ofNat i)), none, none, none] [] k (am_pV (stQ F n m ad h r) no_x) := by
  intro d
  induction d with
  | zero =>
    intro i k q sm pk ei y g e30 hpk hp hs hr
    have kk := y.1.1
    have q1 : ¬ B ≤ i := by omega
    have i6 : i < 6 := by omega
    obtain ⟨b1, b2, b3⟩ := md_r y.1 (k := 31) (by decide) rfl (by decide)
    refine vc_189_41 tt _ _ _ _ _ _ _ ?_
    simp (disch := omega) only [kk, e30, q1, qi_lt, qi_le, qi_eq, qi_nn, qi_in, qi_add, qi_l, ql_i, ql_lt, ql_le, ql_eq, ql_add, qc_lt, qc_eq, qc_ge, qc_gt, qc_le, true_and, and_true, and_self, true_or, or_true, false_or, or_false, false_and, and_false, not_true_eq_false, not_false_eq_true, Classical.not_not, true_implies, false_implies, implies_true, exists_eq_left, exists_eq_left', Option.some.injEq, reduceIte, Nat.reduceEqDiff, Nat.reduceLT, Nat.reduceLeDiff, Nat.reduceAdd, Nat.reduceSub, Nat.reduceMul, eq_self, ne_eq, and_imp, forall_const, reduceCtorEq, am_w, List.map_cons, List.map_nil, List.sum_cons, List.sum_nil, Value.category, Nat.zero_le, Nat.le_refl]
    refine ⟨_, _, ct_mfine y, fun z k2 e2 => ?_, fun _ _ z => z.elim⟩
    obtain ⟨rfl, rfl⟩ := e2
    refine ⟨fun z => absurd z (show ¬ Int32.ofNat 1 = Int32.ofNat 0 by decide), fun _ => ⟨kk, _, b1, kk, _, _, ct_rnumberIn y (l := l64 1) (u := l64 2400) (by decide) rfl, fun x k3 e3 => ?_, fun _ _ z => z.elim⟩⟩
    obtain ⟨y3, g3, v3, _, e51⟩ := e3
    have y3 : MY F n k3 m ad (st (tN F n q (l64 1) (l64 2400))) := y3
    have v3 : ∀ a p', tN F n q (l64 1) (l64 2400) = .ok (a, p') → x = a.toInt32 := v3
    have e51 := e51 q rfl
    have kk3 := y3.1.1
    obtain ⟨d1, d2, d3⟩ := md_r y3.1 (k := 31) (by decide) rfl (by decide)
    simp (disch := omega) only [kk3, d1, d2, d3, i6, am_hs, qi_lt, qi_le, qi_eq, qi_nn, qi_in, qi_add, qi_l, ql_i, ql_lt, ql_le, ql_eq, ql_add, qc_lt, qc_eq, qc_ge, qc_gt, qc_le, true_and, and_true, and_self, true_or, or_true, false_or, or_false, false_and, and_false, not_true_eq_false, not_false_eq_true, Classical.not_not, true_implies, false_implies, implies_true, exists_eq_left, exists_eq_left', Option.some.injEq, reduceIte, Nat.reduceEqDiff, Nat.reduceLT, Nat.reduceLeDiff, Nat.reduceAdd, Nat.reduceSub, Nat.reduceMul, eq_self, ne_eq, and_imp, forall_const, reduceCtorEq, am_w, List.map_cons, List.map_nil, List.sum_cons, List.sum_nil, Value.category, Nat.zero_le, Nat.le_refl]
    have s1 : mg m ad (fun r => r = 31) Yz k3 (am_sA k3 (ad 31) i x) := mg.sA y3.1 rfl
    have y4 := y3.on s1 (by omega) id id id id
    have g4 : mg m ad (fun r => r = 31) Yn k2 (am_sA k3 (ad 31) i x) := (g3.mo (fun _ z => z.elim) (fun _ z => z)).tr (s1.mo (fun _ z => z) (fun _ z => z.elim))
    have gg : mg m ad Xst Yst h (am_sA k3 (ad 31) i x) := g.tr (g4.mo (fun _ z => by omega) (fun _ z => by omega))
    have e30' : am_I (am_sA k3 (ad 31) i x) 10 30 m = Int32.ofNat B := by rw [(g4.2.2 30 (by omega)).1]; exact e30
    rw [lPS] at hr
    cases e1 : tN F n q (l64 1) (l64 2400) with
    | error e =>
      rw [e1] at y4 hr
      exact st_41b hB y4 gg e30' hr
    | ok a =>
      obtain ⟨a, q'⟩ := a
      obtain ⟨v', rfl, u1, u2, u3⟩ := tN_n (by omega) (by omega) e1
      have ev : x = Int32.ofNat v' := by rw [v3 _ _ e1]; exact ql_i
      subst ev
      rw [e1] at y4 hr
      have hr : r = bd (if 0 = 0 ∧ ¬ sm + (Int64.ofNat v').toNatClampNeg = off then .error (5, q) else lPS F n off 0 (i + 1) q' (sm + (Int64.ofNat v').toNatClampNeg) (va_up pk i (Int64.ofNat v').toNatClampNeg)) (fun pk p => kS2 F n B pk p) := hr
      rw [u3] at hr
      have kk4 := y4.1.1
      have q2 : B ≤ i + 1 := by omega
      have y4 : MY F n (am_sA k3 (ad 31) i (Int32.ofNat v')) m ad (.ok q') := y4
      refine vc_189_41 tt _ _ _ _ _ _ _ ?_
      simp (disch := omega) only [kk4, e30', q2, am_hs, qi_lt, qi_le, qi_eq, qi_nn, qi_in, qi_add, qi_l, ql_i, ql_lt, ql_le, ql_eq, ql_add, qc_lt, qc_eq, qc_ge, qc_gt, qc_le, true_and, and_true, and_self, true_or, or_true, false_or, or_false, false_and, and_false, not_true_eq_false, not_false_eq_true, Classical.not_not, true_implies, false_implies, implies_true, exists_eq_left, exists_eq_left', Option.some.injEq, reduceIte, Nat.reduceEqDiff, Nat.reduceLT, Nat.reduceLeDiff, Nat.reduceAdd, Nat.reduceSub, Nat.reduceMul, eq_self, ne_eq, and_imp, forall_const, reduceCtorEq, am_w, List.map_cons, List.map_nil, List.sum_cons, List.sum_nil, Value.category, Nat.zero_le, Nat.le_refl]
      refine vc_189_88 tt _ _ _ _ _ _ ⟨kk4, _, _, ct_mfine y4, fun z k5 e5 => ?_, fun _ _ z => z.elim⟩
      obtain ⟨rfl, rfl⟩ := e5
      refine ⟨fun z => absurd z (show ¬ Int32.ofNat 1 = Int32.ofNat 0 by decide), fun _ => ⟨fun c => ?_, fun c => ?_⟩⟩
      · rw [qi_eq (by omega) (by omega)] at c
        rw [if_neg (fun z => z.2 c)] at hr
        refine st_109 (s := .ok q') hB y4 gg e30' hr (fun _ => ⟨fun f hf => ?_, fun f hf => ?_⟩)
        · unfold va_up
          by_cases cf : f = i
          · rw [if_pos cf]; exact ⟨u1, u2⟩
          · rw [if_neg cf]; exact hp f (by omega)
        · unfold va_up
          by_cases cf : f = i
          · subst cf
            simp only [am_hs, true_and, and_true, and_self, true_or, or_true, false_or, or_false, false_and, and_false, not_true_eq_false, not_false_eq_true, Classical.not_not, true_implies, false_implies, implies_true, exists_eq_left, exists_eq_left', Option.some.injEq, reduceIte, Nat.reduceEqDiff, Nat.reduceLT, Nat.reduceLeDiff, Nat.reduceAdd, Nat.reduceSub, Nat.reduceMul, eq_self, ne_eq, and_imp, forall_const, reduceCtorEq, am_w, List.map_cons, List.map_nil, List.sum_cons, List.sum_nil, Value.category, Nat.zero_le, Nat.le_refl]
          · simp (disch := omega) only [am_hs, cf, true_and, and_true, and_self, true_or, or_true, false_or, or_false, false_and, and_false, not_true_eq_false, not_false_eq_true, Classical.not_not, true_implies, false_implies, implies_true, exists_eq_left, exists_eq_left', Option.some.injEq, reduceIte, Nat.reduceEqDiff, Nat.reduceLT, Nat.reduceLeDiff, Nat.reduceAdd, Nat.reduceSub, Nat.reduceMul, eq_self, ne_eq, and_imp, forall_const, reduceCtorEq, am_w, List.map_cons, List.map_nil, List.sum_cons, List.sum_nil, Value.category, Nat.zero_le, Nat.le_refl]
            rw [(g3.2.1 31 (fun z => z)).1]
            exact hpk f (by omega)
      · rw [qi_eq (by omega) (by omega)] at c
        rw [if_pos ⟨rfl, c⟩] at hr
        have e51' : am_I (am_sA k3 (ad 31) i (Int32.ofNat v')) 10 51 m = Int32.ofNat q := by simp only [am_hs]; exact e51
        rw [e51']
        refine ⟨kk4, kk4, _, _, ct_mfails y4 (f := 5) (pl := q) (by omega) (by omega), fun k6 w6 => ?_, fun _ _ z => z.elim⟩
        exact st_109 (pk := fun _ => 0) (s := .error (5, q)) hB w6.1 (gg.tr (w6.2.mo (fun _ z => z.elim) (fun _ z => by omega))) (by rw [(w6.2.2.2 30 (by omega)).1]; exact e30') hr (fun z => by cases z)
  | succ d ih =>
    intro i k q sm pk ei y g e30 hpk hp hs hr
    have kk := y.1.1
    have q1 : ¬ B ≤ i := by omega
    have i6 : i < 6 := by omega
    obtain ⟨b1, b2, b3⟩ := md_r y.1 (k := 31) (by decide) rfl (by decide)
    refine vc_189_41 tt _ _ _ _ _ _ _ ?_
    simp (disch := omega) only [kk, e30, q1, qi_lt, qi_le, qi_eq, qi_nn, qi_in, qi_add, qi_l, ql_i, ql_lt, ql_le, ql_eq, ql_add, qc_lt, qc_eq, qc_ge, qc_gt, qc_le, true_and, and_true, and_self, true_or, or_true, false_or, or_false, false_and, and_false, not_true_eq_false, not_false_eq_true, Classical.not_not, true_implies, false_implies, implies_true, exists_eq_left, exists_eq_left', Option.some.injEq, reduceIte, Nat.reduceEqDiff, Nat.reduceLT, Nat.reduceLeDiff, Nat.reduceAdd, Nat.reduceSub, Nat.reduceMul, eq_self, ne_eq, and_imp, forall_const, reduceCtorEq, am_w, List.map_cons, List.map_nil, List.sum_cons, List.sum_nil, Value.category, Nat.zero_le, Nat.le_refl]
    refine ⟨_, _, ct_mfine y, fun z k2 e2 => ?_, fun _ _ z => z.elim⟩
    obtain ⟨rfl, rfl⟩ := e2
    refine ⟨fun z => absurd z (show ¬ Int32.ofNat 1 = Int32.ofNat 0 by decide), fun _ => ⟨kk, _, b1, kk, _, _, ct_rnumberIn y (l := l64 1) (u := l64 2400) (by decide) rfl, fun x k3 e3 => ?_, fun _ _ z => z.elim⟩⟩
    obtain ⟨y3, g3, v3, _, e51⟩ := e3
    have y3 : MY F n k3 m ad (st (tN F n q (l64 1) (l64 2400))) := y3
    have v3 : ∀ a p', tN F n q (l64 1) (l64 2400) = .ok (a, p') → x = a.toInt32 := v3
    have kk3 := y3.1.1
    obtain ⟨d1, d2, d3⟩ := md_r y3.1 (k := 31) (by decide) rfl (by decide)
    simp (disch := omega) only [kk3, d1, d2, d3, i6, am_hs, qi_lt, qi_le, qi_eq, qi_nn, qi_in, qi_add, qi_l, ql_i, ql_lt, ql_le, ql_eq, ql_add, qc_lt, qc_eq, qc_ge, qc_gt, qc_le, true_and, and_true, and_self, true_or, or_true, false_or, or_false, false_and, and_false, not_true_eq_false, not_false_eq_true, Classical.not_not, true_implies, false_implies, implies_true, exists_eq_left, exists_eq_left', Option.some.injEq, reduceIte, Nat.reduceEqDiff, Nat.reduceLT, Nat.reduceLeDiff, Nat.reduceAdd, Nat.reduceSub, Nat.reduceMul, eq_self, ne_eq, and_imp, forall_const, reduceCtorEq, am_w, List.map_cons, List.map_nil, List.sum_cons, List.sum_nil, Value.category, Nat.zero_le, Nat.le_refl]
    have s1 : mg m ad (fun r => r = 31) Yz k3 (am_sA k3 (ad 31) i x) := mg.sA y3.1 rfl
    have y4 := y3.on s1 (by omega) id id id id
    have g4 : mg m ad (fun r => r = 31) Yn k2 (am_sA k3 (ad 31) i x) := (g3.mo (fun _ z => z.elim) (fun _ z => z)).tr (s1.mo (fun _ z => z) (fun _ z => z.elim))
    have gg : mg m ad Xst Yst h (am_sA k3 (ad 31) i x) := g.tr (g4.mo (fun _ z => by omega) (fun _ z => by omega))
    have e30' : am_I (am_sA k3 (ad 31) i x) 10 30 m = Int32.ofNat B := by rw [(g4.2.2 30 (by omega)).1]; exact e30
    rw [lPS] at hr
    cases e1 : tN F n q (l64 1) (l64 2400) with
    | error e =>
      rw [e1] at y4 hr
      exact st_41b hB y4 gg e30' hr
    | ok a =>
      obtain ⟨a, q'⟩ := a
      obtain ⟨v', rfl, u1, u2, u3⟩ := tN_n (by omega) (by omega) e1
      have ev : x = Int32.ofNat v' := by rw [v3 _ _ e1]; exact ql_i
      subst ev
      rw [e1] at y4 hr
      have hr : r = bd (if d + 1 = 0 ∧ ¬ sm + (Int64.ofNat v').toNatClampNeg = off then .error (5, q) else lPS F n off (d + 1) (i + 1) q' (sm + (Int64.ofNat v').toNatClampNeg) (va_up pk i (Int64.ofNat v').toNatClampNeg)) (fun pk p => kS2 F n B pk p) := hr
      rw [u3, if_neg (fun z => absurd z.1 (by omega))] at hr
      rw [qi_add]
      refine ih (i + 1) _ q' (sm + v') _ (by omega) y4 gg e30' (fun f hf => ?_) (fun f hf => ?_) (by omega) hr
      · unfold va_up
        by_cases cf : f = i
        · subst cf
          simp only [am_hs, true_and, and_true, and_self, true_or, or_true, false_or, or_false, false_and, and_false, not_true_eq_false, not_false_eq_true, Classical.not_not, true_implies, false_implies, implies_true, exists_eq_left, exists_eq_left', Option.some.injEq, reduceIte, Nat.reduceEqDiff, Nat.reduceLT, Nat.reduceLeDiff, Nat.reduceAdd, Nat.reduceSub, Nat.reduceMul, eq_self, ne_eq, and_imp, forall_const, reduceCtorEq, am_w, List.map_cons, List.map_nil, List.sum_cons, List.sum_nil, Value.category, Nat.zero_le, Nat.le_refl]
        · simp (disch := omega) only [am_hs, cf, true_and, and_true, and_self, true_or, or_true, false_or, or_false, false_and, and_false, not_true_eq_false, not_false_eq_true, Classical.not_not, true_implies, false_implies, implies_true, exists_eq_left, exists_eq_left', Option.some.injEq, reduceIte, Nat.reduceEqDiff, Nat.reduceLT, Nat.reduceLeDiff, Nat.reduceAdd, Nat.reduceSub, Nat.reduceMul, eq_self, ne_eq, and_imp, forall_const, reduceCtorEq, am_w, List.map_cons, List.map_nil, List.sum_cons, List.sum_nil, Value.category, Nat.zero_le, Nat.le_refl]
          rw [(g3.2.1 31 (fun z => z)).1]
          exact hpk f (by omega)
      · unfold va_up
        by_cases cf : f = i
        · rw [if_pos cf]; exact ⟨u1, u2⟩
        · rw [if_neg cf]; exact hp f (by omega)
theorem ct_rstreams (y : MY F n h m ad s) {off : Nat} (ho : off ≤ 60000) {r : Except pe (ST × Nat)} (hr : r = bs s (pST F n off)) : am_Ct tt 189 [.ref m, .int (Int32.ofNat off)] h (am_pV (stQ F n m ad h r) no_x) := by
  have hr : r = bs s (kS1 F n off) := by
    rw [hr]
    congr 1
    funext p
    exact pST_k
  unfold kS1 at hr
  rw [bs_n (), bs_n (), bs_n (Int64.ofNat 0), bs_n (Int64.ofNat 0), bs_n ()] at hr
  refine vc_189_0 tt _ _ h _ _ ⟨y.1.1, _, _, ct_mneed y rfl, fun k1 w1 => ⟨w1.1.1.1, _, _, ct_mneed w1.1 rfl, fun k2 w2 => ⟨w2.1.1.1, _, _, ct_rnumberIn w2.1 (l := l64 0) (u := l64 0) (by decide) rfl, fun x3 k3 w3 => ⟨w3.1.1.1, _, _, ct_rnumberIn w3.1 (l := l64 1) (u := l64 6) (by decide) rfl, fun x4 k4 w4 => ?_, fun _ _ z => z.elim⟩, fun _ _ z => z.elim⟩, fun _ _ z => z.elim⟩, fun _ _ z => z.elim⟩
  obtain ⟨y4, g4, v4, v4e, _⟩ := w4
  have s1 : mg m ad Xn (fun f => f = 30) k4 (am_sI k4 10 30 m x4) := mg.sI rfl
  have y5 := y4.on s1 (fun z => z) (by omega) (by omega) (by omega) (by omega)
  refine ⟨y4.1.1, y4.1.1, _, _, ct_mneed y5 rfl, fun k6 w6 => ?_, fun _ _ z => z.elim⟩
  obtain ⟨y6, g6⟩ := w6
  refine vc_189_36 tt _ _ _ _ _ ?_
  have g14 : mg m ad Xn Yn h k4 := w1.2.qn.tr (w2.2.qn.tr (w3.2.1.tr g4))
  have gg : mg m ad Xst Yst h k6 := (g14.mo (fun _ z => z.elim) (fun _ z => by omega)).tr ((s1.mo (fun _ z => z.elim) (fun _ z => by omega)).tr (g6.mo (fun _ z => z.elim) (fun _ z => by omega)))
  generalize e3 : st (bs (st (bs (st (bs s fun p => tX F n p 4)) fun p => tX F n p 6)) fun p => tN F n p (l64 0) (l64 0)) = s3 at *
  generalize e4 : (bs s3 fun p => tN F n p (l64 1) (l64 6)) = r4 at *
  have hB : ∃ B, B ≤ 6 ∧ x4 = Int32.ofNat B ∧ (isOk (st r4) = true → 1 ≤ B ∧ (vl r4 (Int64.ofNat 0)).toNatClampNeg = B) := by
    cases r4 with
    | error e => exact ⟨0, by omega, v4e e rfl, fun z => by cases z⟩
    | ok a =>
      obtain ⟨a, q⟩ := a
      cases s3 with
      | error e => cases e4
      | ok p3 =>
        have e4 : tN F n p3 (l64 1) (l64 6) = .ok (a, q) := e4
        obtain ⟨B, rfl, u1, u2, u3⟩ := tN_n (by omega) (by omega) e4
        exact ⟨B, u2, by rw [v4 _ _ rfl]; exact ql_i, fun _ => ⟨u1, u3⟩⟩
  obtain ⟨B, B6, ex, eB⟩ := hB
  subst ex
  have e30 : am_I k6 10 30 m = Int32.ofNat B := by rw [(g6.2.2 30 (by omega)).1]; simp only [am_hs, true_and, and_true, and_self, true_or, or_true, false_or, or_false, false_and, and_false, not_true_eq_false, not_false_eq_true, Classical.not_not, true_implies, false_implies, implies_true, exists_eq_left, exists_eq_left', Option.some.injEq, reduceIte, Nat.reduceEqDiff, Nat.reduceLT, Nat.reduceLeDiff, Nat.reduceAdd, Nat.reduceSub, Nat.reduceMul, eq_self, ne_eq, and_imp, forall_const, reduceCtorEq, am_w, List.map_cons, List.map_nil, List.sum_cons, List.sum_nil, Value.category, Nat.zero_le, Nat.le_refl]
  have eB' : isOk (st (bs (st r4) fun p => tX F n p 9)) = true → _ := fun z => eB (ok_b z)
  generalize st (bs (st r4) fun p => tX F n p 9) = s6 at *
  cases s6 with
  | error e => exact st_41b B6 y6 gg e30 hr
  | ok q =>
    obtain ⟨B1, e⟩ := eB' rfl
    rw [e] at hr
    have hr : r = bd (lPS F n off B 0 q 0 (fun _ => 0)) fun pk p => kS2 F n B pk p := hr
    have := st_41 (h := h) (tt := tt) (r := r) B6 ho (B - 1) 0 k6 q 0 (fun _ => 0) (by omega) y6 gg e30 (fun f hf => absurd hf (by omega)) (fun f hf => absurd hf (by omega)) (by omega) (by rw [hr, show B - 1 + 1 = B by omega])
    exact this
end MSV
