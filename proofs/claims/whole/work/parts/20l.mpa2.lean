/-! deps: 20k -/
/-! ===== the reference reads: files, the rest ===== -/
section MPB
variable {tt : Nat → Nat} {F : Fn} {n m : Nat} {ad : Nat → Nat} {h h' h'' k k' : am_H} {s : Ms} {X Y X' Y' : Nat → Prop}
theorem sm_0 (f : Nat → Nat) : ∀ (d b : Nat), sm f (d + 1) b = f b + sm f d (b + 1) := fun _ _ => rfl
theorem pa_158 {B N : Nat} (hB : B ≤ 6) (hN : N ≤ 24) {g fc : Nat → Nat} {r : Except pe (FI × Nat)} (hg : ∀ b, b < B → 1 ≤ g b ∧ g b ≤ 2400) (hf : ∀ b, b < B → 1 ≤ fc b ∧ fc b ≤ 24) : ∀ (d b : Nat) (k : am_H) (x : FI) (q : Nat), d + b = B → MY F n k m ad (.ok q) → mg m ad Xpa Ypa h k → fiR ad x k → r = lFs F n g fc d b q x → x.1 + sm fc d b = N → am_I k 10 30 m = Int32.ofNat B → am_I k 10 29 m = Int32.ofNat N → (∀ f, f < B → am_A k (ad 60) f = Int32.ofNat (fc f) ∧ am_A k (ad 32) f = Int32.ofNat (g f)) → am_Ev tt 190 158 [some (.ref m), none, none, some (.int (Int32.ofNat x.1)), some (.int (Int32.ofNat b)), none, none, none] [] k (am_pV (paQ F n m ad h r) no_x) := by
  intro d
  induction d with
  | zero =>
    intro b k x q eb y gk hx hr eN e30 e29 hrow
    have : b = B := by omega
    subst this
    have kk := y.1.1
    have hr : r = .ok (x, q) := hr
    have eN : x.1 = N := eN
    refine vc_190_158 tt _ _ _ _ _ _ ?_
    simp (disch := omega) only [kk, e30, qi_lt, qi_le, qi_eq, qi_nn, qi_in, qi_add, qi_l, ql_i, ql_lt, ql_le, ql_eq, ql_add, qc_lt, qc_eq, qc_ge, qc_gt, qc_le, true_and, and_true, and_self, true_or, or_true, false_or, or_false, false_and, and_false, not_true_eq_false, not_false_eq_true, Classical.not_not, true_implies, false_implies, implies_true, exists_eq_left, exists_eq_left', Option.some.injEq, reduceIte, Nat.reduceEqDiff, Nat.reduceLT, Nat.reduceLeDiff, Nat.reduceAdd, Nat.reduceSub, Nat.reduceMul, eq_self, ne_eq, and_imp, forall_const, reduceCtorEq, am_w, List.map_cons, List.map_nil, List.sum_cons, List.sum_nil, Value.category, Nat.zero_le, Nat.le_refl]
    rw [hr]
    exact ⟨y, gk, fun x' p' z => by cases z; exact ⟨by rw [e29, eN], hx⟩⟩
  | succ d ih =>
    intro b k x q eb y gk hx hr eN e30 e29 hrow
    have kk := y.1.1
    have b6 : b < 6 := by omega
    have q1 : ¬ B ≤ b := by omega
    obtain ⟨b1, b2, b3⟩ := md_r y.1 (k := 32) (by decide) rfl (by decide)
    have e32 := (hrow b (by omega)).2
    have ef := hf b (by omega)
    have eg := hg b (by omega)
    rw [sm_0] at eN
    refine vc_190_158 tt _ _ _ _ _ _ ?_
    simp (disch := omega) only [kk, e30, q1, qi_lt, qi_le, qi_eq, qi_nn, qi_in, qi_add, qi_l, ql_i, ql_lt, ql_le, ql_eq, ql_add, qc_lt, qc_eq, qc_ge, qc_gt, qc_le, true_and, and_true, and_self, true_or, or_true, false_or, or_false, false_and, and_false, not_true_eq_false, not_false_eq_true, Classical.not_not, true_implies, false_implies, implies_true, exists_eq_left, exists_eq_left', Option.some.injEq, reduceIte, Nat.reduceEqDiff, Nat.reduceLT, Nat.reduceLeDiff, Nat.reduceAdd, Nat.reduceSub, Nat.reduceMul, eq_self, ne_eq, and_imp, forall_const, reduceCtorEq, am_w, List.map_cons, List.map_nil, List.sum_cons, List.sum_nil, Value.category, Nat.zero_le, Nat.le_refl]
    refine ⟨_, _, ct_mfine y, fun z k2 e2 => ?_, fun _ _ z => z.elim⟩
    obtain ⟨rfl, rfl⟩ := e2
    refine ⟨fun z => absurd z (show ¬ Int32.ofNat 1 = Int32.ofNat 0 by decide), fun _ => ?_⟩
    simp (disch := omega) only [kk, b1, b2, b3, b6, e32, qi_lt, qi_le, qi_eq, qi_nn, qi_in, qi_add, qi_l, ql_i, ql_lt, ql_le, ql_eq, ql_add, qc_lt, qc_eq, qc_ge, qc_gt, qc_le, true_and, and_true, and_self, true_or, or_true, false_or, or_false, false_and, and_false, not_true_eq_false, not_false_eq_true, Classical.not_not, true_implies, false_implies, implies_true, exists_eq_left, exists_eq_left', Option.some.injEq, reduceIte, Nat.reduceEqDiff, Nat.reduceLT, Nat.reduceLeDiff, Nat.reduceAdd, Nat.reduceSub, Nat.reduceMul, eq_self, ne_eq, and_imp, forall_const, reduceCtorEq, am_w, List.map_cons, List.map_nil, List.sum_cons, List.sum_nil, Value.category, Nat.zero_le, Nat.le_refl]
    refine pa_186 (h' := k2) (W := x.1 + fc b) (K := fun x' p' => lFs F n g fc d (b + 1) p' x') b6 (by omega) (fun k3 x' q' y3 g3 g3' hx3 hr3 eW => ?_) (fc b - 1) 0 k2 x q (g b) y gk mg.re hx (by rw [hr, lFs]) (by omega) (by omega) (by rw [(hrow b (by omega)).1]; congr 1; omega) (by omega)
    refine vc_190_274 tt _ _ _ _ _ _ ?_
    simp (disch := omega) only [qi_lt, qi_le, qi_eq, qi_nn, qi_in, qi_add, qi_l, ql_i, ql_lt, ql_le, ql_eq, ql_add, qc_lt, qc_eq, qc_ge, qc_gt, qc_le]
    refine ih (b + 1) k3 x' q' (by omega) y3 g3 hx3 hr3 (by omega) (by rw [(g3'.2.2 30 (by omega)).1]; exact e30) (by rw [(g3'.2.2 29 (by omega)).1]; exact e29) (fun f hf => by rw [(g3'.2.1 60 (by omega)).1, (g3'.2.1 32 (by omega)).1]; exact hrow f hf)
theorem pa_123b {r : Except pe (FI × Nat)} {e : pe} (er : r = .error e) (y : MY F n k m ad (.error e)) (g : mg m ad Xpa Ypa h k) {a2 : Int32} : am_Ev tt 190 123 [some (.ref m), none, some (.int a2), none, none, none, none, none] [] k (am_pV (paQ F n m ad h r) no_x) := by
  have n147 : am_Ev tt 190 147 [some (.ref m), none, none, none, none, none, none, none] [] k (am_pV (paQ F n m ad h r) no_x) := by
    refine vc_190_147 tt _ _ _ _ ⟨y.1.1, _, _, ct_mneed y rfl, fun k2 w => ?_, fun _ _ z => z.elim⟩
    exact vc_190_153 tt _ _ _ _ (pa_158b er w.1 (g.tr (w.2.mo (fun _ z => z.elim) (fun _ z => by omega))))
  refine vc_190_123 tt _ _ _ _ _ ⟨y.1.1, _, _, ct_mfine y, fun z k2 e2 => ?_, fun _ _ z => z.elim⟩
  obtain ⟨rfl, rfl⟩ := e2
  exact ⟨fun _ => n147, fun z => absurd rfl z⟩
theorem pa_68b {r : Except pe (FI × Nat)} {e : pe} (er : r = .error e) (y : MY F n k m ad (.error e)) (g : mg m ad Xpa Ypa h k) {a2 a3 : Int32} : am_Ev tt 190 68 [some (.ref m), none, some (.int a2), some (.int a3), none, none, none, none] [] k (am_pV (paQ F n m ad h r) no_x) := by
  refine vc_190_68 tt _ _ _ _ _ _ ⟨y.1.1, fun _ => pa_123b er y g, fun _ => ⟨y.1.1, _, _, ct_mfine y, fun z k2 e2 => ?_, fun _ _ z => z.elim⟩⟩
  obtain ⟨rfl, rfl⟩ := e2
  exact ⟨fun _ => pa_123b er y g, fun z => absurd rfl z⟩
/-- how many files each block has -/
theorem pa_68 {B p : Nat} (hB : B ≤ 6) {g : Nat → Nat} {r : Except pe (FI × Nat)} (hg : ∀ b, b < B → 1 ≤ g b ∧ g b ≤ 2400) : ∀ (d b : Nat) (k : am_H) (q s : Nat) (fc : Nat → Nat), d + b = B → MY F n k m ad (.ok q) → mg m ad Xpa Ypa h k → s = sm fc b 0 → s ≤ 24 → (∀ j, j < b → 1 ≤ fc j ∧ fc j ≤ 24) → am_I k 10 30 m = Int32.ofNat B → am_I k 10 29 m = Int32.ofNat s → (∀ f, f < b → am_A k (ad 60) f = Int32.ofNat (fc f)) → (∀ f, f < B → am_A k (ad 32) f = Int32.ofNat (g f)) → r = bd (lFc F n d b q s fc) (fun sf p2 => if sf.1 = B then .error (2, p) else bd (tX F n p2 9) fun _ p3 => lFs F n g sf.2 B 0 p3 FI0) → am_Ev tt 190 68 [some (.ref m), none, some (.int (Int32.ofNat p)), some (.int (Int32.ofNat b)), none, none, none, none] [] k (am_pV (paQ F n m ad h r) no_x) := by
  intro d
  induction d with
  | zero =>
    intro b k q s fc eb y gk es s24 hf e30 e29 e60 e32 hr
    have : b = B := by omega
    subst this
    have kk := y.1.1
    have hr : r = if s = b then .error (2, p) else bd (tX F n q 9) fun _ p3 => lFs F n g fc b 0 p3 FI0 := hr
    refine vc_190_68 tt _ _ _ _ _ _ ?_
    simp (disch := omega) only [kk, e30, qi_lt, qi_le, qi_eq, qi_nn, qi_in, qi_add, qi_l, ql_i, ql_lt, ql_le, ql_eq, ql_add, qc_lt, qc_eq, qc_ge, qc_gt, qc_le, true_and, and_true, and_self, true_or, or_true, false_or, or_false, false_and, and_false, not_true_eq_false, not_false_eq_true, Classical.not_not, true_implies, false_implies, implies_true, exists_eq_left, exists_eq_left', Option.some.injEq, reduceIte, Nat.reduceEqDiff, Nat.reduceLT, Nat.reduceLeDiff, Nat.reduceAdd, Nat.reduceSub, Nat.reduceMul, eq_self, ne_eq, and_imp, forall_const, reduceCtorEq, am_w, List.map_cons, List.map_nil, List.sum_cons, List.sum_nil, Value.category, Nat.zero_le, Nat.le_refl]
    refine vc_190_123 tt _ _ _ _ _ ⟨kk, _, _, ct_mfine y, fun z k2 e2 => ?_, fun _ _ z => z.elim⟩
    obtain ⟨rfl, rfl⟩ := e2
    refine ⟨fun z => absurd z (show ¬ Int32.ofNat 1 = Int32.ofNat 0 by decide), fun _ => ?_⟩
    simp (disch := omega) only [kk, e30, e29, qi_lt, qi_le, qi_eq, qi_nn, qi_in, qi_add, qi_l, ql_i, ql_lt, ql_le, ql_eq, ql_add, qc_lt, qc_eq, qc_ge, qc_gt, qc_le, true_and, and_true, and_self, true_or, or_true, false_or, or_false, false_and, and_false, not_true_eq_false, not_false_eq_true, Classical.not_not, true_implies, false_implies, implies_true, exists_eq_left, exists_eq_left', Option.some.injEq, reduceIte, Nat.reduceEqDiff, Nat.reduceLT, Nat.reduceLeDiff, Nat.reduceAdd, Nat.reduceSub, Nat.reduceMul, eq_self, ne_eq, and_imp, forall_const, reduceCtorEq, am_w, List.map_cons, List.map_nil, List.sum_cons, List.sum_nil, Value.category, Nat.zero_le, Nat.le_refl]
    refine ⟨fun c => ?_, fun c => ?_⟩
    · rw [if_neg c] at hr
      refine vc_190_147 tt _ _ _ _ ⟨kk, _, _, ct_mneed y rfl, fun k3 w => ?_, fun _ _ z => z.elim⟩
      obtain ⟨y3, g3⟩ := w
      have y3 : MY F n k3 m ad (st (tX F n q 9)) := y3
      have gg : mg m ad Xpa Ypa h k3 := gk.tr (g3.mo (fun _ z => z.elim) (fun _ z => by omega))
      refine vc_190_153 tt _ _ _ _ ?_
      cases e1 : tX F n q 9 with
      | error e =>
        rw [e1] at y3 hr
        exact pa_158b (e := e) hr y3 gg
      | ok a =>
        obtain ⟨_, q'⟩ := a
        rw [e1] at y3 hr
        exact pa_158 (g := g) (fc := fc) hB s24 hg hf b 0 k3 FI0 q' (by omega) y3 gg (fun f hf => absurd hf (Nat.not_lt_zero f)) hr (by rw [es]; exact Nat.zero_add _) (by rw [(g3.2.2 30 (by omega)).1]; exact e30) (by rw [(g3.2.2 29 (by omega)).1]; exact e29) (fun f hf => by rw [(g3.2.1 60 (fun z => z)).1, (g3.2.1 32 (fun z => z)).1]; exact ⟨e60 f hf, e32 f hf⟩)
    · rw [if_pos c] at hr
      refine ⟨_, _, ct_mfails y (f := 2) (pl := p) (by omega) (by omega), fun k3 w => ?_, fun _ _ z => z.elim⟩
      have gg : mg m ad Xpa Ypa h k3 := gk.tr (w.2.mo (fun _ z => z.elim) (fun _ z => by omega))
      refine vc_190_147 tt _ _ _ _ ⟨w.1.1.1, _, _, ct_mneed w.1 rfl, fun k4 w4 => ?_, fun _ _ z => z.elim⟩
      exact vc_190_153 tt _ _ _ _ (pa_158b (e := (2, p)) hr w4.1 (gg.tr (w4.2.mo (fun _ z => z.elim) (fun _ z => by omega))))
  | succ d ih =>
    intro b k q s fc eb y gk es s24 hf e30 e29 e60 e32 hr
    have kk := y.1.1
    have b6 : b < 6 := by omega
    have q1 : ¬ B ≤ b := by omega
    obtain ⟨b1, b2, b3⟩ := md_r y.1 (k := 60) (by decide) rfl (by decide)
    refine vc_190_68 tt _ _ _ _ _ _ ?_
    simp (disch := omega) only [kk, e30, q1, qi_lt, qi_le, qi_eq, qi_nn, qi_in, qi_add, qi_l, ql_i, ql_lt, ql_le, ql_eq, ql_add, qc_lt, qc_eq, qc_ge, qc_gt, qc_le, true_and, and_true, and_self, true_or, or_true, false_or, or_false, false_and, and_false, not_true_eq_false, not_false_eq_true, Classical.not_not, true_implies, false_implies, implies_true, exists_eq_left, exists_eq_left', Option.some.injEq, reduceIte, Nat.reduceEqDiff, Nat.reduceLT, Nat.reduceLeDiff, Nat.reduceAdd, Nat.reduceSub, Nat.reduceMul, eq_self, ne_eq, and_imp, forall_const, reduceCtorEq, am_w, List.map_cons, List.map_nil, List.sum_cons, List.sum_nil, Value.category, Nat.zero_le, Nat.le_refl]
    refine ⟨_, _, ct_mfine y, fun z k2 e2 => ?_, fun _ _ z => z.elim⟩
    obtain ⟨rfl, rfl⟩ := e2
    refine ⟨fun z => absurd z (show ¬ Int32.ofNat 1 = Int32.ofNat 0 by decide), fun _ => ?_⟩
    have eu : (Int32.ofNat 24 - Int32.ofNat s).toInt64 = l64 (24 - s) := by rw [qi_sub s24, qi_l (by omega)]
    simp (disch := omega) only [kk, b1, e29, eu, true_and, and_true, and_self, true_or, or_true, false_or, or_false, false_and, and_false, not_true_eq_false, not_false_eq_true, Classical.not_not, true_implies, false_implies, implies_true, exists_eq_left, exists_eq_left', Option.some.injEq, reduceIte, Nat.reduceEqDiff, Nat.reduceLT, Nat.reduceLeDiff, Nat.reduceAdd, Nat.reduceSub, Nat.reduceMul, eq_self, ne_eq, and_imp, forall_const, reduceCtorEq, am_w, List.map_cons, List.map_nil, List.sum_cons, List.sum_nil, Value.category, Nat.zero_le, Nat.le_refl]
    refine ⟨_, _, ct_rnumberIn y (l := l64 1) (u := l64 (24 - s)) (by decide) rfl, fun v k3 e3 => ?_, fun _ _ z => z.elim⟩
    obtain ⟨y3, g3, v3, _, _⟩ := e3
    have y3 : MY F n k3 m ad (st (tN F n q (l64 1) (l64 (24 - s)))) := y3
    have v3 : ∀ a p', tN F n q (l64 1) (l64 (24 - s)) = .ok (a, p') → v = a.toInt32 := v3
    have kk3 := y3.1.1
    have dj := ad_ne y3.1
    obtain ⟨d1, d2, d3⟩ := md_r y3.1 (k := 60) (by decide) rfl (by decide)
    have e29' : am_I k3 10 29 m = Int32.ofNat s := by rw [(g3.2.2 29 (by omega)).1]; exact e29
    simp (disch := omega) only [kk3, d1, d2, d3, b6, e29', am_hs, qi_lt, qi_le, qi_eq, qi_nn, qi_in, qi_add, qi_l, ql_i, ql_lt, ql_le, ql_eq, ql_add, qc_lt, qc_eq, qc_ge, qc_gt, qc_le, true_and, and_true, and_self, true_or, or_true, false_or, or_false, false_and, and_false, not_true_eq_false, not_false_eq_true, Classical.not_not, true_implies, false_implies, implies_true, exists_eq_left, exists_eq_left', Option.some.injEq, reduceIte, Nat.reduceEqDiff, Nat.reduceLT, Nat.reduceLeDiff, Nat.reduceAdd, Nat.reduceSub, Nat.reduceMul, eq_self, ne_eq, and_imp, forall_const, reduceCtorEq, am_w, List.map_cons, List.map_nil, List.sum_cons, List.sum_nil, Value.category, Nat.zero_le, Nat.le_refl]
    have s1 : mg m ad Xpa Yz k3 (am_sA k3 (ad 60) b v) := mg.sA y3.1 (by omega)
    have s2 : mg m ad Xpa (fun f => f = 29) (am_sA k3 (ad 60) b v) (am_sI (am_sA k3 (ad 60) b v) 10 29 m (Int32.ofNat s + v)) := mg.sI rfl
    have s12 : mg m ad Xpa (fun f => f = 29) k3 (am_sI (am_sA k3 (ad 60) b v) 10 29 m (Int32.ofNat s + v)) := (s1.mo (fun _ z => z) (fun _ z => z.elim)).tr s2
    have y' := y3.on s12 (by omega) (by omega) (by omega) (by omega) (by omega)
    have gg : mg m ad Xpa Ypa h (am_sI (am_sA k3 (ad 60) b v) 10 29 m (Int32.ofNat s + v)) := gk.tr ((g3.mo (fun _ z => z.elim) (fun _ z => by omega)).tr (s12.mo (fun _ z => z) (fun _ z => by omega)))
    rw [lFc] at hr
    cases e1 : tN F n q (l64 1) (l64 (24 - s)) with
    | error e =>
      rw [e1] at y' hr
      exact pa_68b (e := e) hr y' gg
    | ok a =>
      obtain ⟨a, q'⟩ := a
      obtain ⟨v', rfl, u1, u2, u3⟩ := tN_n (by omega) (by omega) e1
      have ev : v = Int32.ofNat v' := by rw [v3 _ _ e1]; exact ql_i
      subst ev
      rw [e1] at y' hr
      have hr : r = bd (lFc F n d (b + 1) q' (s + (Int64.ofNat v').toNatClampNeg) (va_up fc b (Int64.ofNat v').toNatClampNeg)) (fun sf p2 => if sf.1 = B then .error (2, p) else bd (tX F n p2 9) fun _ p3 => lFs F n g sf.2 B 0 p3 FI0) := hr
      rw [u3] at hr
      refine ih (b + 1) _ q' (s + v') _ (by omega) y' gg ?_ (by omega) ?_ ?_ ?_ ?_ ?_ hr
      · rw [sm_s, Nat.zero_add, es]
        congr 1
        · exact sm_c b 0 (fun j _ hj => by unfold va_up; rw [if_neg (by omega)])
        · unfold va_up; rw [if_pos rfl]
      · intro j hj
        unfold va_up
        by_cases cj : j = b
        · rw [if_pos cj]; omega
        · rw [if_neg cj]; exact hf j (by omega)
      · rw [(s12.2.2 30 (by omega)).1, (g3.2.2 30 (by omega)).1]; exact e30
      · simp (disch := omega) only [am_hs, qi_lt, qi_le, qi_eq, qi_nn, qi_in, qi_add, qi_l, ql_i, ql_lt, ql_le, ql_eq, ql_add, qc_lt, qc_eq, qc_ge, qc_gt, qc_le, true_and, and_true, and_self, true_or, or_true, false_or, or_false, false_and, and_false, not_true_eq_false, not_false_eq_true, Classical.not_not, true_implies, false_implies, implies_true, exists_eq_left, exists_eq_left', Option.some.injEq, reduceIte, Nat.reduceEqDiff, Nat.reduceLT, Nat.reduceLeDiff, Nat.reduceAdd, Nat.reduceSub, Nat.reduceMul, eq_self, ne_eq, and_imp, forall_const, reduceCtorEq, am_w, List.map_cons, List.map_nil, List.sum_cons, List.sum_nil, Value.category, Nat.zero_le, Nat.le_refl]
      · intro f hf
        unfold va_up
        by_cases cf : f = b
        · subst cf
          simp (disch := omega) only [am_hs, true_and, and_true, and_self, true_or, or_true, false_or, or_false, false_and, and_false, not_true_eq_false, not_false_eq_true, Classical.not_not, true_implies, false_implies, implies_true, exists_eq_left, exists_eq_left', Option.some.injEq, reduceIte, Nat.reduceEqDiff, Nat.reduceLT, Nat.reduceLeDiff, Nat.reduceAdd, Nat.reduceSub, Nat.reduceMul, eq_self, ne_eq, and_imp, forall_const, reduceCtorEq, am_w, List.map_cons, List.map_nil, List.sum_cons, List.sum_nil, Value.category, Nat.zero_le, Nat.le_refl]
        · simp (disch := omega) only [am_hs, dj, cf, true_and, and_true, and_self, true_or, or_true, false_or, or_false, false_and, and_false, not_true_eq_false, not_false_eq_true, Classical.not_not, true_implies, false_implies, implies_true, exists_eq_left, exists_eq_left', Option.some.injEq, reduceIte, Nat.reduceEqDiff, Nat.reduceLT, Nat.reduceLeDiff, Nat.reduceAdd, Nat.reduceSub, Nat.reduceMul, eq_self, ne_eq, and_imp, forall_const, reduceCtorEq, am_w, List.map_cons, List.map_nil, List.sum_cons, List.sum_nil, Value.category, Nat.zero_le, Nat.le_refl]
          rw [(g3.2.1 60 (fun z => z)).1]
          exact e60 f (by omega)
      · intro f hf
        rw [(s12.2.1 32 (by omega)).1, (g3.2.1 32 (fun z => z)).1]
        exact e32 f hf
theorem ct_rparts (y : MY F n h m ad s) {B : Nat} (hB : B ≤ 6) (e30 : am_I h 10 30 m = Int32.ofNat B) {g : Nat → Nat} (hg : ∀ p, s = .ok p → ∀ b, b < B → am_A h (ad 32) b = Int32.ofNat (g b) ∧ 1 ≤ g b ∧ g b ≤ 2400) {r : Except pe (FI × Nat)} (hr : r = bs s (pFX F n B g)) : am_Ct tt 190 [.ref m] h (am_pV (paQ F n m ad h r) no_x) := by
  have kk := y.1.1
  have g0 : mg m ad Xpa (fun f => f = 29) h (am_sI h 10 29 m (am_I h 10 30 m)) := mg.sI rfl
  have y0 := y.on g0 (by omega) (by omega) (by omega) (by omega) (by omega)
  -- a file in each
  have key : ∀ (w : Bool) (a2 : Int32) (d i : Nat) (k : am_H) (s' : Ms), d + i = B → MY F n k m ad s' → mg m ad Xpa Ypa h k → am_I k 10 30 m = Int32.ofNat B → am_I k 10 29 m = Int32.ofNat B → (∀ f, f < i → am_A k (ad 60) f = Int32.ofNat 1) → (∀ f, am_A k (ad 32) f = am_A h (ad 32) f) →
      (∀ k', MY F n k' m ad s' → mg m ad Xpa Ypa h k' → am_I k' 10 30 m = Int32.ofNat B → am_I k' 10 29 m = Int32.ofNat B → (∀ f, f < B → am_A k' (ad 60) f = Int32.ofNat 1) → (∀ f, am_A k' (ad 32) f = am_A h (ad 32) f) → (w = false → am_Ev tt 190 153 [some (.ref m), none, none, none, none, none, none, none] [] k' (am_pV (paQ F n m ad h r) no_x)) ∧ (w = true → ∃ (Q2 : am_H → Prop) (X2 : String → am_H → Prop), am_Ct tt 180 [.ref m, .int (Int32.ofNat 13)] k' (am_pV Q2 X2) ∧ (∀ h1, Q2 h1 → (am_K h1 m = 11 ∧ am_Ev tt 190 68 [some (.ref m), none, some (.int a2), some (.int (Int32.ofNat 0)), none, none, none, none] [] (am_sI h1 10 29 m (Int32.ofNat 0)) (am_pV (paQ F n m ad h r) no_x))) ∧ (∀ E h1, X2 E h1 → no_x E h1))) →
      am_Ev tt 190 30 [some (.ref m), some (.int (b01 w)), some (.int a2), some (.int (Int32.ofNat i)), none, none, none, none] [] k (am_pV (paQ F n m ad h r) no_x) := by
    intro w a2 d
    induction d with
    | zero =>
      intro i k s' ei y g e30 e29 e60 e32 nx
      have : i = B := by omega
      subst this
      have kk := y.1.1
      obtain ⟨n1, n2⟩ := nx k y g e30 e29 e60 e32
      refine vc_190_30 tt _ _ _ _ _ _ _ ?_
      simp (disch := omega) only [kk, e30, qi_lt, qi_le, qi_eq, qi_nn, qi_in, qi_add, qi_l, ql_i, ql_lt, ql_le, ql_eq, ql_add, qc_lt, qc_eq, qc_ge, qc_gt, qc_le, true_and, and_true, and_self, true_or, or_true, false_or, or_false, false_and, and_false, not_true_eq_false, not_false_eq_true, Classical.not_not, true_implies, false_implies, implies_true, exists_eq_left, exists_eq_left', Option.some.injEq, reduceIte, Nat.reduceEqDiff, Nat.reduceLT, Nat.reduceLeDiff, Nat.reduceAdd, Nat.reduceSub, Nat.reduceMul, eq_self, ne_eq, and_imp, forall_const, reduceCtorEq, am_w, List.map_cons, List.map_nil, List.sum_cons, List.sum_nil, Value.category, Nat.zero_le, Nat.le_refl]
      cases w with
      | false => exact ⟨fun _ => n1 rfl, fun z => absurd rfl z⟩
      | true => exact ⟨fun z => absurd z (show ¬ Int32.ofNat 1 = Int32.ofNat 0 by decide), fun _ => n2 rfl⟩
    | succ d ih =>
      intro i k s' ei y g e30 e29 e60 e32 nx
      have kk := y.1.1
      have q1 : ¬ B ≤ i := by omega
      have i6 : i < 6 := by omega
      have dj := ad_ne y.1
      obtain ⟨b1, b2, b3⟩ := md_r y.1 (k := 60) (by decide) rfl (by decide)
      refine vc_190_30 tt _ _ _ _ _ _ _ ?_
      simp (disch := omega) only [kk, e30, q1, b1, b2, b3, i6, qi_lt, qi_le, qi_eq, qi_nn, qi_in, qi_add, qi_l, ql_i, ql_lt, ql_le, ql_eq, ql_add, qc_lt, qc_eq, qc_ge, qc_gt, qc_le, true_and, and_true, and_self, true_or, or_true, false_or, or_false, false_and, and_false, not_true_eq_false, not_false_eq_true, Classical.not_not, true_implies, false_implies, implies_true, exists_eq_left, exists_eq_left', Option.some.injEq, reduceIte, Nat.reduceEqDiff, Nat.reduceLT, Nat.reduceLeDiff, Nat.reduceAdd, Nat.reduceSub, Nat.reduceMul, eq_self, ne_eq, and_imp, forall_const, reduceCtorEq, am_w, List.map_cons, List.map_nil, List.sum_cons, List.sum_nil, Value.category, Nat.zero_le, Nat.le_refl]
      have s1 : mg m ad Xpa Yz k (am_sA k (ad 60) i (Int32.ofNat 1)) := mg.sA y.1 (by omega)
      refine ih (i + 1) _ s' (by omega) (y.on s1 (by omega) id id id id) (g.tr (s1.mo (fun _ z => z) (fun _ z => z.elim))) e30 e29 (fun f hf => ?_) (fun f => by rw [(s1.2.1 32 (by omega)).1]; exact e32 f) nx
      by_cases cf : f = i
      · subst cf
        simp only [am_hs, true_and, and_true, and_self, true_or, or_true, false_or, or_false, false_and, and_false, not_true_eq_false, not_false_eq_true, Classical.not_not, true_implies, false_implies, implies_true, exists_eq_left, exists_eq_left', Option.some.injEq, reduceIte, Nat.reduceEqDiff, Nat.reduceLT, Nat.reduceLeDiff, Nat.reduceAdd, Nat.reduceSub, Nat.reduceMul, eq_self, ne_eq, and_imp, forall_const, reduceCtorEq, am_w, List.map_cons, List.map_nil, List.sum_cons, List.sum_nil, Value.category, Nat.zero_le, Nat.le_refl]
      · simp (disch := omega) only [am_hs, cf, true_and, and_true, and_self, true_or, or_true, false_or, or_false, false_and, and_false, not_true_eq_false, not_false_eq_true, Classical.not_not, true_implies, false_implies, implies_true, exists_eq_left, exists_eq_left', Option.some.injEq, reduceIte, Nat.reduceEqDiff, Nat.reduceLT, Nat.reduceLeDiff, Nat.reduceAdd, Nat.reduceSub, Nat.reduceMul, eq_self, ne_eq, and_imp, forall_const, reduceCtorEq, am_w, List.map_cons, List.map_nil, List.sum_cons, List.sum_nil, Value.category, Nat.zero_le, Nat.le_refl]
        exact e60 f (by omega)
  refine vc_190_0 tt _ h _ _ ⟨kk, kk, kk, _, _, ct_mnext y0, fun v k e => ?_, fun _ _ z => z.elim⟩
  obtain ⟨y1, g1, ev, eh⟩ := e
  have kk1 := y1.1.1
  have gg : mg m ad Xpa Ypa h k := (g0.mo (fun _ z => z) (fun _ z => by omega)).tr (g1.mo (fun _ z => z.elim) (fun _ z => by omega))
  have f30 : am_I k 10 30 m = Int32.ofNat B := by rw [(g1.2.2 30 (by omega)).1, (g0.2.2 30 (by omega)).1]; exact e30
  have f29 : am_I k 10 29 m = Int32.ofNat B := by rw [(g1.2.2 29 (by omega)).1]; simp only [am_hs, true_and, and_true, and_self, true_or, or_true, false_or, or_false, false_and, and_false, not_true_eq_false, not_false_eq_true, Classical.not_not, true_implies, false_implies, implies_true, exists_eq_left, exists_eq_left', Option.some.injEq, reduceIte, Nat.reduceEqDiff, Nat.reduceLT, Nat.reduceLeDiff, Nat.reduceAdd, Nat.reduceSub, Nat.reduceMul, eq_self, ne_eq, and_imp, forall_const, reduceCtorEq, am_w, List.map_cons, List.map_nil, List.sum_cons, List.sum_nil, Value.category, Nat.zero_le, Nat.le_refl]; exact e30
  have f32 : ∀ f, am_A k (ad 32) f = am_A h (ad 32) f := fun f => by rw [(gg.2.1 32 (by omega)).1]
  -- a fault
  have bad : ∀ (e : pe) (a2 : Int32), MY F n k m ad (.error e) → r = .error e → am_Ev tt 190 30 [some (.ref m), some (.int (Int32.ofNat 0)), some (.int a2), some (.int (Int32.ofNat 0)), none, none, none, none] [] k (am_pV (paQ F n m ad h r) no_x) := by
    intro e a2 y2 er
    exact key false a2 B 0 k _ (by omega) y2 gg f30 f29 (fun f hf => absurd hf (by omega)) f32 (fun k' y' g' _ _ _ _ => ⟨fun _ => vc_190_153 tt _ _ _ _ (pa_158b er y' g'), fun z => by cases z⟩)
  cases s with
  | error e =>
    have ev : v = -1 := ev
    refine ⟨fun _ => ⟨kk1, bad e _ y1 hr⟩, fun z => absurd (show ¬ v = Int32.ofNat 13 by rw [ev]; decide) z⟩
  | ok p =>
    have hr : r = pFX F n B g p := hr
    rw [pFX] at hr
    by_cases cp : p < n
    · have ev : v = F p &&& Int32.ofNat 255 := by rw [ev]; show (if p < n then _ else _) = _; rw [if_pos cp]
      have eb : (bs (Except.ok p : Ms) fun p => if p < n then .ok p else .error (1, n)) = .ok p := by show (if p < n then _ else _) = _; rw [if_pos cp]
      rw [eb] at y1
      have e27 := y1.2.2.2.2.1.2
      rw [e27]
      rw [tB, if_pos cp] at hr
      have hr : r = if F p &&& Int32.ofNat 255 = Int32.ofNat 13 then bd (lFc F n B 0 (p + 1) 0 (fun _ => 0)) fun sf p2 => if sf.1 = B then .error (2, p) else bd (tX F n p2 9) fun _ p3 => lFs F n g sf.2 B 0 p3 FI0 else lFs F n g (fun _ => 1) B 0 p FI0 := hr
      rw [← ev] at hr
      refine ⟨fun c => ⟨kk1, ?_⟩, fun c => ⟨kk1, ?_⟩⟩
      · rw [if_neg c] at hr
        refine key false _ B 0 k _ (by omega) y1 gg f30 f29 (fun f hf => absurd hf (by omega)) f32 (fun k' y' g' h30 h29 h60 h32 => ⟨fun _ => vc_190_153 tt _ _ _ _ ?_, fun z => by cases z⟩)
        have e1 : ∀ d b, sm (fun _ => 1) d b = d := by
          intro d
          induction d with
          | zero => intro b; rfl
          | succ d ih => intro b; rw [sm_0, ih]; omega
        exact pa_158 (g := g) (fc := fun _ => 1) (N := B) hB (by omega) (fun b hb => (hg p rfl b hb).2) (fun b hb => by omega) B 0 k' FI0 p (by omega) y' g' (fun f hf => absurd hf (Nat.not_lt_zero f)) hr (by rw [e1]; exact Nat.zero_add _) h30 h29 (fun f hf => ⟨h60 f hf, by rw [h32 f]; exact (hg p rfl f hf).1⟩)
      · have c : v = Int32.ofNat 13 := Classical.not_not.1 c
        rw [if_pos c] at hr
        refine key true _ B 0 k _ (by omega) y1 gg f30 f29 (fun f hf => absurd hf (by omega)) f32 (fun k' y' g' h30 h29 h60 h32 => ⟨(fun z => by cases z), fun _ => ⟨_, _, ct_mneed y' rfl, fun k2 w => ?_, fun _ _ z => z.elim⟩⟩)
        obtain ⟨y2, g2⟩ := w
        have et : bs (Except.ok p : Ms) (fun p => tX F n p 13) = .ok ((), p + 1) := by show tX F n p 13 = _; rw [tX, if_pos cp, ← ev, if_pos c]
        rw [et] at y2
        have s1 : mg m ad Xpa (fun f => f = 29) k2 (am_sI k2 10 29 m (Int32.ofNat 0)) := mg.sI rfl
        refine ⟨y2.1.1, pa_68 hB (fun b hb => (hg p rfl b hb).2) B 0 _ (p + 1) 0 (fun _ => 0) (by omega) (MY.on (s := .ok (p + 1)) y2 s1 (by omega) (by omega) (by omega) (by omega) (by omega)) (g'.tr ((g2.mo (fun _ z => z.elim) (fun _ z => by omega)).tr (s1.mo (fun _ z => z) (fun _ z => by omega)))) rfl (by omega) (fun j hj => absurd hj (by omega)) ?_ ?_ (fun f hf => absurd hf (by omega)) ?_ hr⟩
        · rw [(s1.2.2 30 (by omega)).1, (g2.2.2 30 (by omega)).1]; exact h30
        · simp only [am_hs, true_and, and_true, and_self, true_or, or_true, false_or, or_false, false_and, and_false, not_true_eq_false, not_false_eq_true, Classical.not_not, true_implies, false_implies, implies_true, exists_eq_left, exists_eq_left', Option.some.injEq, reduceIte, Nat.reduceEqDiff, Nat.reduceLT, Nat.reduceLeDiff, Nat.reduceAdd, Nat.reduceSub, Nat.reduceMul, eq_self, ne_eq, and_imp, forall_const, reduceCtorEq, am_w, List.map_cons, List.map_nil, List.sum_cons, List.sum_nil, Value.category, Nat.zero_le, Nat.le_refl]
        · intro f hf
          rw [(s1.2.1 32 (by omega)).1, (g2.2.1 32 (fun z => z)).1, h32 f]
          exact (hg p rfl f hf).1
    · have ev : v = -1 := by rw [ev]; show (if p < n then _ else _) = _; rw [if_neg cp]
      have eb : (bs (Except.ok p : Ms) fun p => if p < n then .ok p else .error (1, n)) = .error (1, n) := by show (if p < n then _ else _) = _; rw [if_neg cp]
      rw [eb] at y1
      rw [tB, if_neg cp] at hr
      refine ⟨fun _ => ⟨kk1, bad (1, n) _ y1 hr⟩, fun z => absurd (show ¬ v = Int32.ofNat 13 by rw [ev]; decide) z⟩
end MPB
