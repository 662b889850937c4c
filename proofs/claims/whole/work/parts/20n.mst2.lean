/-! deps: 20m -/
/-! ===== the reference reads: STREAMS, sizes and folders ===== -/
section MSU
variable {tt : Nat → Nat} {F : Fn} {n m : Nat} {ad : Nat → Nat} {h h' h'' k k' : am_H} {s : Ms} {X Y X' Y' : Nat → Prop}
theorem st_187b {r : Except pe (ST × Nat)} {B : Nat} (hB : B ≤ 6) {e : pe} {i : Int32} (y : MY F n k m ad (.error e)) (g : mg m ad Xst Yst h k) (e30 : am_I k 10 30 m = Int32.ofNat B) (er : r = .error e) : am_Ev tt 189 187 [some (.ref m), none, none, none, none, some (.int i), none, none] [] k (am_pV (stQ F n m ad h r) no_x) := by
  have nx : am_Ev tt 189 311 [some (.ref m), none, none, none, none, none, none, none] [] k (am_pV (stQ F n m ad h r) no_x) := st_311 (pk := fun _ => 0) (fo := fun _ => (0, true, fun _ => 0, fun _ => 0, 0)) (gv := fun _ => 0) hB y g e30 er (fun z => by cases z)
  refine vc_189_187 tt _ _ _ _ _ ⟨y.1.1, fun _ => nx, fun _ => ⟨y.1.1, _, _, ct_mfine y, fun z k2 e2 => ?_, fun _ _ z => z.elim⟩⟩
  obtain ⟨rfl, rfl⟩ := e2
  exact ⟨fun _ => nx, fun z => absurd rfl z⟩
theorem st_206b {r : Except pe (ST × Nat)} {B : Nat} (hB : B ≤ 6) {e : pe} {i : Int32} {b : Nat} (hb : b < 6) (y : MY F n k m ad (.error e)) (g : mg m ad Xst Yst h k) (e30 : am_I k 10 30 m = Int32.ofNat B) (er : r = .error e) : am_Ev tt 189 206 [some (.ref m), none, none, none, none, some (.int (Int32.ofNat b)), some (.int i), none] [] k (am_pV (stQ F n m ad h r) no_x) := by
  have kk := y.1.1
  have nx : am_Ev tt 189 305 [some (.ref m), none, none, none, none, some (.int (Int32.ofNat b)), none, none] [] k (am_pV (stQ F n m ad h r) no_x) := vc_189_305 tt _ _ _ _ _ (st_187b hB y g e30 er)
  obtain ⟨b1, b2, b3⟩ := md_r y.1 (k := 33) (by decide) rfl (by decide)
  refine vc_189_206 tt _ _ _ _ _ _ ?_
  simp (disch := omega) only [kk, b1, b2, b3, hb, qi_lt, qi_le, qi_eq, qi_nn, qi_in, qi_add, qi_l, ql_i, ql_lt, ql_le, ql_eq, ql_add, qc_lt, qc_eq, qc_ge, qc_gt, qc_le, true_and, and_true, and_self, true_or, or_true, false_or, or_false, false_and, and_false, not_true_eq_false, not_false_eq_true, Classical.not_not, true_implies, false_implies, implies_true, exists_eq_left, exists_eq_left', Option.some.injEq, reduceIte, Nat.reduceEqDiff, Nat.reduceLT, Nat.reduceLeDiff, Nat.reduceAdd, Nat.reduceSub, Nat.reduceMul, eq_self, ne_eq, and_imp, forall_const, reduceCtorEq, am_w, List.map_cons, List.map_nil, List.sum_cons, List.sum_nil, Value.category, Nat.zero_le, Nat.le_refl]
  refine ⟨fun _ => nx, fun _ => ⟨_, _, ct_mfine y, fun z k2 e2 => ?_, fun _ _ z => z.elim⟩⟩
  obtain ⟨rfl, rfl⟩ := e2
  exact ⟨fun _ => nx, fun z => absurd rfl z⟩
/-- the sizes of one block -/
theorem st_206 {r : Except pe (ST × Nat)} {B : Nat} (hB : B ≤ 6) {b nc om lo hi pkb : Nat} {kn : Bool} (hb : b < B) (hnc : nc ≤ 3) (elo : lo = if kn = true then pkb else 1) (ehi : hi = if kn = true then pkb else 2400) (p1 : 1 ≤ pkb) (p2 : pkb ≤ 2400) {K : Nat → Nat → Except pe (ST × Nat)}
    (nx : ∀ (k' : am_H) (q v : Nat), MY F n k' m ad (.ok q) → mg m ad Xst Yst h k' → mg m ad (fun r => r = 32) Yn k k' → (∀ f, ¬ f = b → am_A k' (ad 32) f = am_A k (ad 32) f) → (om < nc → am_A k' (ad 32) b = Int32.ofNat v ∧ lo ≤ v ∧ v ≤ hi) → r = K v q → am_Ev tt 189 305 [some (.ref m), none, none, none, none, some (.int (Int32.ofNat b)), none, none] [] k' (am_pV (stQ F n m ad h r) no_x)) :
    ∀ (d c : Nat) (k' : am_H) (q v : Nat), d + c = nc → MY F n k' m ad (.ok q) → mg m ad Xst Yst h k' → mg m ad (fun r => r = 32) Yn k k' → am_I k' 10 30 m = Int32.ofNat B → am_A k' (ad 33) b = Int32.ofNat nc → am_A k' (ad 34) b = b01 kn → am_A k' (ad 59) b = Int32.ofNat om → om < 3 → am_A k' (ad 31) b = Int32.ofNat pkb → (∀ f, ¬ f = b → am_A k' (ad 32) f = am_A k (ad 32) f) → (om < c → am_A k' (ad 32) b = Int32.ofNat v ∧ lo ≤ v ∧ v ≤ hi) → r = bd (lG1 F n lo hi om d c q v) K → am_Ev tt 189 206 [some (.ref m), none, none, none, none, some (.int (Int32.ofNat b)), some (.int (Int32.ofNat c)), none] [] k' (am_pV (stQ F n m ad h r) no_x) := by
  have lo24 : lo ≤ 2400 := by rw [elo]; split <;> omega
  have hi24 : hi ≤ 2400 := by rw [ehi]; split <;> omega
  have lo1 : 1 ≤ lo := by rw [elo]; split <;> omega
  intro d
  induction d with
  | zero =>
    intro c k' q v ec y g g' e30 e33 e34 e59 om3 e31 ho hv hr
    have : c = nc := by omega
    subst this
    have kk := y.1.1
    have b6 : b < 6 := by omega
    obtain ⟨b1, b2, b3⟩ := md_r y.1 (k := 33) (by decide) rfl (by decide)
    refine vc_189_206 tt _ _ _ _ _ _ ?_
    simp (disch := omega) only [kk, b1, b2, b3, b6, e33, qi_lt, qi_le, qi_eq, qi_nn, qi_in, qi_add, qi_l, ql_i, ql_lt, ql_le, ql_eq, ql_add, qc_lt, qc_eq, qc_ge, qc_gt, qc_le, true_and, and_true, and_self, true_or, or_true, false_or, or_false, false_and, and_false, not_true_eq_false, not_false_eq_true, Classical.not_not, true_implies, false_implies, implies_true, exists_eq_left, exists_eq_left', Option.some.injEq, reduceIte, Nat.reduceEqDiff, Nat.reduceLT, Nat.reduceLeDiff, Nat.reduceAdd, Nat.reduceSub, Nat.reduceMul, eq_self, ne_eq, and_imp, forall_const, reduceCtorEq, am_w, List.map_cons, List.map_nil, List.sum_cons, List.sum_nil, Value.category, Nat.zero_le, Nat.le_refl]
    exact nx k' q v y g g' ho hv hr
  | succ d ih =>
    intro c k' q v ec y g g' e30 e33 e34 e59 om3 e31 ho hv hr
    have kk := y.1.1
    have b6 : b < 6 := by omega
    have q1 : ¬ nc ≤ c := by omega
    obtain ⟨b1, b2, b3⟩ := md_r y.1 (k := 33) (by decide) rfl (by decide)
    obtain ⟨c1, c2, c3⟩ := md_r y.1 (k := 34) (by decide) rfl (by decide)
    obtain ⟨d1, d2, d3⟩ := md_r y.1 (k := 31) (by decide) rfl (by decide)
    rw [lG1] at hr
    have rest : ∀ (x w : Int32) (k6 : am_H), MY F n k6 m ad (st (tN F n q (l64 lo) (l64 hi))) → mg m ad Xn Yn k' k6 → (∀ a p', tN F n q (l64 lo) (l64 hi) = .ok (a, p') → x = a.toInt32) → (c = om → w = x) → (¬ c = om → w = am_A k6 (ad 32) b) → am_Ev tt 189 206 [some (.ref m), none, none, none, none, some (.int (Int32.ofNat b)), some (.int (Int32.ofNat (c + 1))), none] [] (am_sA k6 (ad 32) b w) (am_pV (stQ F n m ad h r) no_x) := by
      intro x w k6 y6 g6 v6 w1 w2
      have s1 : mg m ad (fun r => r = 32) Yz k6 (am_sA k6 (ad 32) b w) := mg.sA y6.1 rfl
      have y7 := y6.on s1 (by omega) id id id id
      have g7 : mg m ad (fun r => r = 32) Yn k' (am_sA k6 (ad 32) b w) := (g6.mo (fun _ z => z.elim) (fun _ z => z)).tr (s1.mo (fun _ z => z) (fun _ z => z.elim))
      have gg : mg m ad Xst Yst h (am_sA k6 (ad 32) b w) := g.tr (g7.mo (fun _ z => by omega) (fun _ z => by omega))
      have e30' : am_I (am_sA k6 (ad 32) b w) 10 30 m = Int32.ofNat B := by rw [(g7.2.2 30 (by omega)).1]; exact e30
      cases e1 : tN F n q (l64 lo) (l64 hi) with
      | error e =>
        rw [e1] at y7 hr
        exact st_206b hB b6 y7 gg e30' hr
      | ok a =>
        obtain ⟨a, q'⟩ := a
        obtain ⟨v', rfl, u1, u2, u3⟩ := tN_n (by omega) (by omega) e1
        have ev : x = Int32.ofNat v' := by rw [v6 _ _ e1]; exact ql_i
        rw [e1] at y7 hr
        have hr : r = bd (lG1 F n lo hi om d (c + 1) q' (if c = om then (Int64.ofNat v').toNatClampNeg else v)) K := hr
        rw [u3] at hr
        refine ih (c + 1) _ q' _ (by omega) y7 gg (g'.tr g7) e30' (by rw [(g7.2.1 33 (by omega)).1]; exact e33) (by rw [(g7.2.1 34 (by omega)).1]; exact e34) (by rw [(g7.2.1 59 (by omega)).1]; exact e59) om3 (by rw [(g7.2.1 31 (by omega)).1]; exact e31) (fun f hf => ?_) (fun z => ?_) hr
        · simp (disch := omega) only [am_hs, hf, true_and, and_true, and_self, true_or, or_true, false_or, or_false, false_and, and_false, not_true_eq_false, not_false_eq_true, Classical.not_not, true_implies, false_implies, implies_true, exists_eq_left, exists_eq_left', Option.some.injEq, reduceIte, Nat.reduceEqDiff, Nat.reduceLT, Nat.reduceLeDiff, Nat.reduceAdd, Nat.reduceSub, Nat.reduceMul, eq_self, ne_eq, and_imp, forall_const, reduceCtorEq, am_w, List.map_cons, List.map_nil, List.sum_cons, List.sum_nil, Value.category, Nat.zero_le, Nat.le_refl]
          rw [(g6.2.1 32 (fun z => z)).1]
          exact ho f hf
        · simp only [am_hs, true_and, and_true, and_self, true_or, or_true, false_or, or_false, false_and, and_false, not_true_eq_false, not_false_eq_true, Classical.not_not, true_implies, false_implies, implies_true, exists_eq_left, exists_eq_left', Option.some.injEq, reduceIte, Nat.reduceEqDiff, Nat.reduceLT, Nat.reduceLeDiff, Nat.reduceAdd, Nat.reduceSub, Nat.reduceMul, eq_self, ne_eq, and_imp, forall_const, reduceCtorEq, am_w, List.map_cons, List.map_nil, List.sum_cons, List.sum_nil, Value.category, Nat.zero_le, Nat.le_refl]
          by_cases co : c = om
          · rw [if_pos co, w1 co, ev]
            exact ⟨rfl, u1, u2⟩
          · rw [if_neg co, w2 co, (g6.2.1 32 (fun z => z)).1]
            exact hv (by omega)
    refine vc_189_206 tt _ _ _ _ _ _ ?_
    simp (disch := omega) only [kk, b1, b2, b3, b6, e33, q1, qi_lt, qi_le, qi_eq, qi_nn, qi_in, qi_add, qi_l, ql_i, ql_lt, ql_le, ql_eq, ql_add, qc_lt, qc_eq, qc_ge, qc_gt, qc_le, true_and, and_true, and_self, true_or, or_true, false_or, or_false, false_and, and_false, not_true_eq_false, not_false_eq_true, Classical.not_not, true_implies, false_implies, implies_true, exists_eq_left, exists_eq_left', Option.some.injEq, reduceIte, Nat.reduceEqDiff, Nat.reduceLT, Nat.reduceLeDiff, Nat.reduceAdd, Nat.reduceSub, Nat.reduceMul, eq_self, ne_eq, and_imp, forall_const, reduceCtorEq, am_w, List.map_cons, List.map_nil, List.sum_cons, List.sum_nil, Value.category, Nat.zero_le, Nat.le_refl]
    refine ⟨_, _, ct_mfine y, fun z k2 e2 => ?_, fun _ _ z => z.elim⟩
    obtain ⟨rfl, rfl⟩ := e2
    refine ⟨fun z => absurd z (show ¬ Int32.ofNat 1 = Int32.ofNat 0 by decide), fun _ => ?_⟩
    refine vc_189_225 tt _ _ _ _ _ _ ?_
    simp (disch := omega) only [kk, c1, c2, c3, d1, d2, d3, b6, e34, e31, qi_lt, qi_le, qi_eq, qi_nn, qi_in, qi_add, qi_l, ql_i, ql_lt, ql_le, ql_eq, ql_add, qc_lt, qc_eq, qc_ge, qc_gt, qc_le, true_and, and_true, and_self, true_or, or_true, false_or, or_false, false_and, and_false, not_true_eq_false, not_false_eq_true, Classical.not_not, true_implies, false_implies, implies_true, exists_eq_left, exists_eq_left', Option.some.injEq, reduceIte, Nat.reduceEqDiff, Nat.reduceLT, Nat.reduceLeDiff, Nat.reduceAdd, Nat.reduceSub, Nat.reduceMul, eq_self, ne_eq, and_imp, forall_const, reduceCtorEq, am_w, List.map_cons, List.map_nil, List.sum_cons, List.sum_nil, Value.category, Nat.zero_le, Nat.le_refl]
    cases kn with
    | false =>
      have elo : lo = 1 := elo
      have ehi : hi = 2400 := ehi
      subst elo
      subst ehi
      refine ⟨fun _ => ⟨_, _, ct_rnumberIn y (l := l64 1) (u := l64 2400) (by decide) rfl, fun x k6 e6 => ?_, fun _ _ z => z.elim⟩, fun z => absurd rfl z⟩
      obtain ⟨y6, g6, v6, _, _⟩ := e6
      have kk6 := y6.1.1
      obtain ⟨f1, f2, f3⟩ := md_r y6.1 (k := 32) (by decide) rfl (by decide)
      obtain ⟨i1, i2, i3⟩ := md_r y6.1 (k := 59) (by decide) rfl (by decide)
      have e59' : am_A k6 (ad 59) b = Int32.ofNat om := by rw [(g6.2.1 59 (fun z => z)).1]; exact e59
      simp (disch := omega) only [kk6, f1, f2, f3, i1, i2, i3, b6, e59', qi_lt, qi_le, qi_eq, qi_nn, qi_in, qi_add, qi_l, ql_i, ql_lt, ql_le, ql_eq, ql_add, qc_lt, qc_eq, qc_ge, qc_gt, qc_le, true_and, and_true, and_self, true_or, or_true, false_or, or_false, false_and, and_false, not_true_eq_false, not_false_eq_true, Classical.not_not, true_implies, false_implies, implies_true, exists_eq_left, exists_eq_left', Option.some.injEq, reduceIte, Nat.reduceEqDiff, Nat.reduceLT, Nat.reduceLeDiff, Nat.reduceAdd, Nat.reduceSub, Nat.reduceMul, eq_self, ne_eq, and_imp, forall_const, reduceCtorEq, am_w, List.map_cons, List.map_nil, List.sum_cons, List.sum_nil, Value.category, Nat.zero_le, Nat.le_refl]
      exact ⟨fun z => rest x _ k6 y6 g6 v6 (fun w => absurd w z) (fun _ => rfl), fun z => rest x _ k6 y6 g6 v6 (fun _ => rfl) (fun w => absurd z w)⟩
    | true =>
      have elo : lo = pkb := elo
      have ehi : hi = pkb := ehi
      subst elo
      subst ehi
      refine ⟨fun z => absurd z (show ¬ Int32.ofNat 1 = Int32.ofNat 0 by decide), fun _ => ⟨_, _, ct_rnumberIn y (l := l64 hi) (u := l64 hi) (by rw [ql_le (by omega) (by omega)]; omega) rfl, fun x k6 e6 => ?_, fun _ _ z => z.elim⟩⟩
      obtain ⟨y6, g6, v6, _, _⟩ := e6
      have kk6 := y6.1.1
      obtain ⟨f1, f2, f3⟩ := md_r y6.1 (k := 32) (by decide) rfl (by decide)
      obtain ⟨i1, i2, i3⟩ := md_r y6.1 (k := 59) (by decide) rfl (by decide)
      have e59' : am_A k6 (ad 59) b = Int32.ofNat om := by rw [(g6.2.1 59 (fun z => z)).1]; exact e59
      simp (disch := omega) only [kk6, f1, f2, f3, i1, i2, i3, b6, e59', qi_lt, qi_le, qi_eq, qi_nn, qi_in, qi_add, qi_l, ql_i, ql_lt, ql_le, ql_eq, ql_add, qc_lt, qc_eq, qc_ge, qc_gt, qc_le, true_and, and_true, and_self, true_or, or_true, false_or, or_false, false_and, and_false, not_true_eq_false, not_false_eq_true, Classical.not_not, true_implies, false_implies, implies_true, exists_eq_left, exists_eq_left', Option.some.injEq, reduceIte, Nat.reduceEqDiff, Nat.reduceLT, Nat.reduceLeDiff, Nat.reduceAdd, Nat.reduceSub, Nat.reduceMul, eq_self, ne_eq, and_imp, forall_const, reduceCtorEq, am_w, List.map_cons, List.map_nil, List.sum_cons, List.sum_nil, Value.category, Nat.zero_le, Nat.le_refl]
      exact ⟨fun z => rest x _ k6 y6 g6 v6 (fun w => absurd w z) (fun _ => rfl), fun z => rest x _ k6 y6 g6 v6 (fun _ => rfl) (fun w => absurd z w)⟩
theorem st_187 {r : Except pe (ST × Nat)} {B : Nat} (hB : B ≤ 6) {pk : Nat → Nat} {fo : Nat → FO} (hp : ∀ b, b < B → 1 ≤ pk b ∧ pk b ≤ 2400) (hf : ∀ b, b < B → fV (fo b)) : ∀ (d b : Nat) (k : am_H) (q : Nat) (gv : Nat → Nat), d + b = B → MY F n k m ad (.ok q) → mg m ad Xst Yst h k → am_I k 10 30 m = Int32.ofNat B → pkR ad B pk k → foR ad B fo k → (∀ f, f < b → am_A k (ad 32) f = Int32.ofNat (gv f) ∧ 1 ≤ gv f ∧ gv f ≤ 2400) → r = bd (lGi F n pk fo d b q gv) (fun g p => kS4 F n B pk fo g p) → am_Ev tt 189 187 [some (.ref m), none, none, none, none, some (.int (Int32.ofNat b)), none, none] [] k (am_pV (stQ F n m ad h r) no_x) := by
  intro d
  induction d with
  | zero =>
    intro b k q gv eb y g e30 hpk hfo hg hr
    have : b = B := by omega
    subst this
    have kk := y.1.1
    refine vc_189_187 tt _ _ _ _ _ ?_
    simp (disch := omega) only [kk, e30, qi_lt, qi_le, qi_eq, qi_nn, qi_in, qi_add, qi_l, ql_i, ql_lt, ql_le, ql_eq, ql_add, qc_lt, qc_eq, qc_ge, qc_gt, qc_le, true_and, and_true, and_self, true_or, or_true, false_or, or_false, false_and, and_false, not_true_eq_false, not_false_eq_true, Classical.not_not, true_implies, false_implies, implies_true, exists_eq_left, exists_eq_left', Option.some.injEq, reduceIte, Nat.reduceEqDiff, Nat.reduceLT, Nat.reduceLeDiff, Nat.reduceAdd, Nat.reduceSub, Nat.reduceMul, eq_self, ne_eq, and_imp, forall_const, reduceCtorEq, am_w, List.map_cons, List.map_nil, List.sum_cons, List.sum_nil, Value.category, Nat.zero_le, Nat.le_refl]
    exact st_311 (s := .ok q) hB y g e30 hr (fun _ => ⟨hpk, hfo, hg⟩)
  | succ d ih =>
    intro b k q gv eb y g e30 hpk hfo hg hr
    have kk := y.1.1
    have q1 : ¬ B ≤ b := by omega
    refine vc_189_187 tt _ _ _ _ _ ?_
    simp (disch := omega) only [kk, e30, q1, qi_lt, qi_le, qi_eq, qi_nn, qi_in, qi_add, qi_l, ql_i, ql_lt, ql_le, ql_eq, ql_add, qc_lt, qc_eq, qc_ge, qc_gt, qc_le, true_and, and_true, and_self, true_or, or_true, false_or, or_false, false_and, and_false, not_true_eq_false, not_false_eq_true, Classical.not_not, true_implies, false_implies, implies_true, exists_eq_left, exists_eq_left', Option.some.injEq, reduceIte, Nat.reduceEqDiff, Nat.reduceLT, Nat.reduceLeDiff, Nat.reduceAdd, Nat.reduceSub, Nat.reduceMul, eq_self, ne_eq, and_imp, forall_const, reduceCtorEq, am_w, List.map_cons, List.map_nil, List.sum_cons, List.sum_nil, Value.category, Nat.zero_le, Nat.le_refl]
    refine ⟨_, _, ct_mfine y, fun z k2 e2 => ?_, fun _ _ z => z.elim⟩
    obtain ⟨rfl, rfl⟩ := e2
    refine ⟨fun z => absurd z (show ¬ Int32.ofNat 1 = Int32.ofNat 0 by decide), fun _ => ?_⟩
    rw [lGi, bd_as] at hr
    obtain ⟨p1, p2⟩ := hp b (by omega)
    obtain ⟨v1, v2, v3⟩ := hf b (by omega)
    obtain ⟨r1, r2, r3, r4, r5⟩ := hfo b (by omega)
    refine st_206 (k := k2) (b := b) (nc := (fo b).1) (om := (fo b).2.2.2.2) (pkb := pk b) (kn := (fo b).2.1) hB (by omega) v2 rfl rfl p1 p2 (fun k3 q3 v y3 g3 g3' ho hv hr3 => ?_) (fo b).1 0 k2 q 0 (by omega) y g mg.re e30 r1 r2 r4 (by omega) (hpk b (by omega)) (fun f _ => rfl) (fun z => absurd z (by omega)) hr
    refine vc_189_305 tt _ _ _ _ _ ?_
    simp (disch := omega) only [qi_lt, qi_le, qi_eq, qi_nn, qi_in, qi_add, qi_l, ql_i, ql_lt, ql_le, ql_eq, ql_add, qc_lt, qc_eq, qc_ge, qc_gt, qc_le]
    refine ih (b + 1) k3 q3 _ (by omega) y3 g3 (by rw [(g3'.2.2 30 (by omega)).1]; exact e30) (hpk.mo g3' (by omega)) (hfo.mo g3' (fun r _ _ => by omega)) (fun f hf' => ?_) hr3
    unfold va_up
    by_cases cf : f = b
    · subst cf
      rw [if_pos rfl]
      obtain ⟨w1, w2, w3⟩ := hv v3
      have : ∀ x : Nat, (if (fo f).2.1 = true then pk f else 1) ≤ x → x ≤ (if (fo f).2.1 = true then pk f else 2400) → 1 ≤ x ∧ x ≤ 2400 := by
        intro x
        split <;> omega
      exact ⟨w1, this v w2 w3⟩
    · rw [if_neg cf, ho f cf]
      exact hg f (by omega)
theorem st_178 {r : Except pe (ST × Nat)} {B : Nat} (hB : B ≤ 6) {pk : Nat → Nat} {fo : Nat → FO} (y : MY F n k m ad s) (g : mg m ad Xst Yst h k) (e30 : am_I k 10 30 m = Int32.ofNat B) (hr : r = bs s (kS3 F n B pk fo)) (hv : isOk s = true → (∀ b, b < B → 1 ≤ pk b ∧ pk b ≤ 2400) ∧ (∀ b, b < B → fV (fo b)) ∧ pkR ad B pk k ∧ foR ad B fo k) : am_Ev tt 189 178 [some (.ref m), none, none, none, none, none, none, none] [] k (am_pV (stQ F n m ad h r) no_x) := by
  unfold kS3 at hr
  rw [bs_n ()] at hr
  refine vc_189_178 tt _ _ _ _ ⟨y.1.1, _, _, ct_mneed y rfl, fun k1 w1 => ?_, fun _ _ z => z.elim⟩
  obtain ⟨y1, g1⟩ := w1
  have gg : mg m ad Xst Yst h k1 := g.tr (g1.mo (fun _ z => z.elim) (fun _ z => by omega))
  have e30' : am_I k1 10 30 m = Int32.ofNat B := by rw [(g1.2.2 30 (by omega)).1]; exact e30
  have hv' : isOk (st (bs s fun p => tX F n p 12)) = true → _ := fun z => hv (ok_b z)
  generalize st (bs s fun p => tX F n p 12) = s1 at *
  cases s1 with
  | error e => exact st_187b hB y1 gg e30' hr
  | ok q =>
    obtain ⟨v1, v2, v3, v4⟩ := hv' rfl
    exact st_187 hB v1 v2 B 0 k1 q (fun _ => 0) (by omega) y1 gg e30' (v3.mo g1 (fun z => z)) (v4.mo g1 (fun _ _ _ z => z)) (fun f hf => absurd hf (by omega)) hr
theorem st_150b {r : Except pe (ST × Nat)} {B : Nat} (hB : B ≤ 6) {e : pe} {i : Int32} (y : MY F n k m ad (.error e)) (g : mg m ad Xst Yst h k) (e30 : am_I k 10 30 m = Int32.ofNat B) (er : r = .error e) : am_Ev tt 189 150 [some (.ref m), none, none, none, none, some (.int i), none, none] [] k (am_pV (stQ F n m ad h r) no_x) := by
  have nx : am_Ev tt 189 178 [some (.ref m), none, none, none, none, none, none, none] [] k (am_pV (stQ F n m ad h r) no_x) := st_178 (pk := fun _ => 0) (fo := fun _ => (0, true, fun _ => 0, fun _ => 0, 0)) hB y g e30 er (fun z => by cases z)
  refine vc_189_150 tt _ _ _ _ _ ⟨y.1.1, fun _ => nx, fun _ => ⟨y.1.1, _, _, ct_mfine y, fun z k2 e2 => ?_, fun _ _ z => z.elim⟩⟩
  obtain ⟨rfl, rfl⟩ := e2
  exact ⟨fun _ => nx, fun z => absurd rfl z⟩
theorem st_150 {r : Except pe (ST × Nat)} {B : Nat} (hB : B ≤ 6) {pk : Nat → Nat} (hp : ∀ b, b < B → 1 ≤ pk b ∧ pk b ≤ 2400) : ∀ (d b : Nat) (k : am_H) (q : Nat) (fo : Nat → FO), d + b = B → MY F n k m ad (.ok q) → mg m ad Xst Yst h k → am_I k 10 30 m = Int32.ofNat B → pkR ad B pk k → foR ad b fo k → (∀ f, f < b → fV (fo f)) → r = bd (lFo F n d b q fo) (fun fo p => kS3 F n B pk fo p) → am_Ev tt 189 150 [some (.ref m), none, none, none, none, some (.int (Int32.ofNat b)), none, none] [] k (am_pV (stQ F n m ad h r) no_x) := by
  intro d
  induction d with
  | zero =>
    intro b k q fo eb y g e30 hpk hfo hf hr
    have : b = B := by omega
    subst this
    have kk := y.1.1
    refine vc_189_150 tt _ _ _ _ _ ?_
    simp (disch := omega) only [kk, e30, qi_lt, qi_le, qi_eq, qi_nn, qi_in, qi_add, qi_l, ql_i, ql_lt, ql_le, ql_eq, ql_add, qc_lt, qc_eq, qc_ge, qc_gt, qc_le, true_and, and_true, and_self, true_or, or_true, false_or, or_false, false_and, and_false, not_true_eq_false, not_false_eq_true, Classical.not_not, true_implies, false_implies, implies_true, exists_eq_left, exists_eq_left', Option.some.injEq, reduceIte, Nat.reduceEqDiff, Nat.reduceLT, Nat.reduceLeDiff, Nat.reduceAdd, Nat.reduceSub, Nat.reduceMul, eq_self, ne_eq, and_imp, forall_const, reduceCtorEq, am_w, List.map_cons, List.map_nil, List.sum_cons, List.sum_nil, Value.category, Nat.zero_le, Nat.le_refl]
    exact st_178 (s := .ok q) hB y g e30 hr (fun _ => ⟨hp, hf, hpk, hfo⟩)
  | succ d ih =>
    intro b k q fo eb y g e30 hpk hfo hf hr
    have kk := y.1.1
    have q1 : ¬ B ≤ b := by omega
    refine vc_189_150 tt _ _ _ _ _ ?_
    simp (disch := omega) only [kk, e30, q1, qi_lt, qi_le, qi_eq, qi_nn, qi_in, qi_add, qi_l, ql_i, ql_lt, ql_le, ql_eq, ql_add, qc_lt, qc_eq, qc_ge, qc_gt, qc_le, true_and, and_true, and_self, true_or, or_true, false_or, or_false, false_and, and_false, not_true_eq_false, not_false_eq_true, Classical.not_not, true_implies, false_implies, implies_true, exists_eq_left, exists_eq_left', Option.some.injEq, reduceIte, Nat.reduceEqDiff, Nat.reduceLT, Nat.reduceLeDiff, Nat.reduceAdd, Nat.reduceSub, Nat.reduceMul, eq_self, ne_eq, and_imp, forall_const, reduceCtorEq, am_w, List.map_cons, List.map_nil, List.sum_cons, List.sum_nil, Value.category, Nat.zero_le, Nat.le_refl]
    refine ⟨_, _, ct_mfine y, fun z k2 e2 => ?_, fun _ _ z => z.elim⟩
    obtain ⟨rfl, rfl⟩ := e2
    refine ⟨fun z => absurd z (show ¬ Int32.ofNat 1 = Int32.ofNat 0 by decide), fun _ => ⟨kk, _, _, ct_rfolder y (f := b) (by omega) rfl, fun k3 w => ?_, fun _ _ z => z.elim⟩⟩
    obtain ⟨y3, g3, l3, f3⟩ := w
    have y3 : MY F n k3 m ad (st (pFo F n q)) := y3
    have f3 : ∀ o p', pFo F n q = .ok (o, p') → FRo ad b o k3 := f3
    have gg : mg m ad Xst Yst h k3 := g.tr (g3.mo (fun _ z => by omega) (fun _ z => by omega))
    have e30' : am_I k3 10 30 m = Int32.ofNat B := by rw [(g3.2.2 30 (by omega)).1]; exact e30
    rw [lFo] at hr
    cases e1 : pFo F n q with
    | error e =>
      rw [e1] at y3 hr
      exact st_150b hB y3 gg e30' hr
    | ok a =>
      obtain ⟨o, q'⟩ := a
      have fw := pFo_v e1
      have fr := f3 _ _ e1
      rw [e1] at y3 hr
      refine ih (b + 1) k3 q' _ (by omega) y3 gg e30' (hpk.mo g3 (by omega)) (fun f hf' => ?_) (fun f hf' => ?_) hr
      · unfold va_up
        by_cases cf : f = b
        · subst cf
          rw [if_pos rfl]
          exact fr
        · rw [if_neg cf]
          obtain ⟨w1, w2, w3, w4, w5⟩ := hfo f (by omega)
          obtain ⟨u1, u2, u3⟩ := hf f (by omega)
          exact ⟨by rw [l3 33 f (Or.inl ⟨by omega, cf⟩)]; exact w1, by rw [l3 34 f (Or.inl ⟨by omega, cf⟩)]; exact w2, by rw [l3 37 f (Or.inl ⟨by omega, cf⟩)]; exact w3, by rw [l3 59 f (Or.inl ⟨by omega, cf⟩)]; exact w4, fun j hj => by rw [l3 35 _ (Or.inr ⟨by omega, by omega⟩), l3 36 _ (Or.inr ⟨by omega, by omega⟩)]; exact w5 j hj⟩
      · unfold va_up
        by_cases cf : f = b
        · rw [if_pos cf]; exact fw.1
        · rw [if_neg cf]; exact hf f (by omega)
end MSU
