/-! deps: 20p -/
/-! ===== the reference reads: those without bytes, spread ===== -/
def pEm (F : Fn) (n N files p : Nat) : Except pe ((Nat → Bool) × Nat) := if N = files then .ok (fun _ => false, p) else bd (tX F n p 14) fun _ p1 => bd (tN F n p1 (l64 ((N + 7) / 8)) (l64 ((N + 7) / 8))) fun _ p2 => bd (tR F n p2 N) fun em p3 => if ¬ cn em N = N - files then .error (5, p1) else .ok (em, p3)
section MEM
variable {tt : Nat → Nat} {F : Fn} {n m : Nat} {ad : Nat → Nat} {h h' h'' k k' : am_H} {s : Ms} {X Y X' Y' : Nat → Prop}
abbrev Xem (k : Nat) : Prop := k = 26 ∨ k = 42
def emQ (F : Fn) (n m : Nat) (ad : Nat → Nat) (h : am_H) (N : Nat) (r : Except pe ((Nat → Bool) × Nat)) (k : am_H) : Prop := MY F n k m ad (st r) ∧ mg m ad Xem Ybg h k ∧ ∀ em p', r = .ok (em, p') → ∀ j, j < N → am_A k (ad 42) j = b01 (em j)
theorem b_and1 {v : Int32} {b : Bool} (e : v = b01 b) : v &&& 1 = b01 b := by
  rw [e]
  cases b <;> rfl
/-- they are put down -/
theorem em_106 {N : Nat} (hN : N ≤ 24) {r : Except pe ((Nat → Bool) × Nat)} : ∀ (d i : Nat) (k : am_H), d + i = N → MY F n k m ad (st r) → mg m ad Xem Ybg h k → am_I k 10 41 m = Int32.ofNat N → (∀ em p', r = .ok (em, p') → ∀ j, j < N → am_A k (ad 26) j = b01 (em j)) → (∀ em p', r = .ok (em, p') → ∀ j, j < i → am_A k (ad 42) j = b01 (em j)) → am_Ev tt 194 106 [some (.ref m), some (.int (Int32.ofNat i))] [] k (am_pV (emQ F n m ad h N r) no_x) := by
  intro d
  induction d with
  | zero =>
    intro i k ei y g e41 e26 e42
    have : i = N := by omega
    subst this
    have kk := y.1.1
    refine vc_194_106 tt _ _ _ _ _ ?_
    simp (disch := omega) only [kk, e41, qi_lt, qi_le, qi_eq, qi_nn, qi_in, qi_add, qi_l, ql_i, ql_lt, ql_le, ql_eq, ql_add, qc_lt, qc_eq, qc_ge, qc_gt, qc_le, true_and, and_true, and_self, true_or, or_true, false_or, or_false, false_and, and_false, not_true_eq_false, not_false_eq_true, Classical.not_not, true_implies, false_implies, implies_true, exists_eq_left, exists_eq_left', Option.some.injEq, reduceIte, Nat.reduceEqDiff, Nat.reduceLT, Nat.reduceLeDiff, Nat.reduceAdd, Nat.reduceSub, Nat.reduceMul, eq_self, ne_eq, and_imp, forall_const, reduceCtorEq, am_w, List.map_cons, List.map_nil, List.sum_cons, List.sum_nil, Value.category, Nat.zero_le, Nat.le_refl]
    exact ⟨y, g, e42⟩
  | succ d ih =>
    intro i k ei y g e41 e26 e42
    have kk := y.1.1
    have q1 : ¬ N ≤ i := by omega
    have i24 : i < 24 := by omega
    have dj := ad_ne y.1
    obtain ⟨b1, b2, b3⟩ := md_r y.1 (k := 26) (by decide) rfl (by decide)
    obtain ⟨c1, c2, c3⟩ := md_r y.1 (k := 42) (by decide) rfl (by decide)
    refine vc_194_106 tt _ _ _ _ _ ?_
    simp (disch := omega) only [kk, e41, q1, b1, b2, b3, c1, c2, c3, i24, qi_lt, qi_le, qi_eq, qi_nn, qi_in, qi_add, qi_l, ql_i, ql_lt, ql_le, ql_eq, ql_add, qc_lt, qc_eq, qc_ge, qc_gt, qc_le, true_and, and_true, and_self, true_or, or_true, false_or, or_false, false_and, and_false, not_true_eq_false, not_false_eq_true, Classical.not_not, true_implies, false_implies, implies_true, exists_eq_left, exists_eq_left', Option.some.injEq, reduceIte, Nat.reduceEqDiff, Nat.reduceLT, Nat.reduceLeDiff, Nat.reduceAdd, Nat.reduceSub, Nat.reduceMul, eq_self, ne_eq, and_imp, forall_const, reduceCtorEq, am_w, List.map_cons, List.map_nil, List.sum_cons, List.sum_nil, Value.category, Nat.zero_le, Nat.le_refl]
    have s1 : mg m ad Xem Yz k (am_sA k (ad 42) i (am_A k (ad 26) i &&& 1)) := mg.sA y.1 (by omega)
    refine ih (i + 1) _ (by omega) (y.on s1 (by omega) id id id id) (g.tr (s1.mo (fun _ z => z) (fun _ z => z.elim))) (by simp only [am_hs]; exact e41) (fun em p' z j hj => ?_) (fun em p' z j hj => ?_)
    · simp (disch := omega) only [am_hs, dj, true_and, and_true, and_self, true_or, or_true, false_or, or_false, false_and, and_false, not_true_eq_false, not_false_eq_true, Classical.not_not, true_implies, false_implies, implies_true, exists_eq_left, exists_eq_left', Option.some.injEq, reduceIte, Nat.reduceEqDiff, Nat.reduceLT, Nat.reduceLeDiff, Nat.reduceAdd, Nat.reduceSub, Nat.reduceMul, eq_self, ne_eq, and_imp, forall_const, reduceCtorEq, am_w, List.map_cons, List.map_nil, List.sum_cons, List.sum_nil, Value.category, Nat.zero_le, Nat.le_refl]
      exact e26 em p' z j hj
    · by_cases cj : j = i
      · subst cj
        simp only [am_hs, true_and, and_true, and_self, true_or, or_true, false_or, or_false, false_and, and_false, not_true_eq_false, not_false_eq_true, Classical.not_not, true_implies, false_implies, implies_true, exists_eq_left, exists_eq_left', Option.some.injEq, reduceIte, Nat.reduceEqDiff, Nat.reduceLT, Nat.reduceLeDiff, Nat.reduceAdd, Nat.reduceSub, Nat.reduceMul, eq_self, ne_eq, and_imp, forall_const, reduceCtorEq, am_w, List.map_cons, List.map_nil, List.sum_cons, List.sum_nil, Value.category, Nat.zero_le, Nat.le_refl]
        exact b_and1 (e26 em p' z j (by omega))
      · simp (disch := omega) only [am_hs, cj, true_and, and_true, and_self, true_or, or_true, false_or, or_false, false_and, and_false, not_true_eq_false, not_false_eq_true, Classical.not_not, true_implies, false_implies, implies_true, exists_eq_left, exists_eq_left', Option.some.injEq, reduceIte, Nat.reduceEqDiff, Nat.reduceLT, Nat.reduceLeDiff, Nat.reduceAdd, Nat.reduceSub, Nat.reduceMul, eq_self, ne_eq, and_imp, forall_const, reduceCtorEq, am_w, List.map_cons, List.map_nil, List.sum_cons, List.sum_nil, Value.category, Nat.zero_le, Nat.le_refl]
        exact e42 em p' z j (by omega)
theorem ct_rempties {p : Nat} (y : MY F n h m ad (.ok p)) {N files : Nat} (hN : N ≤ 24) (hf : files ≤ N) (e41 : am_I h 10 41 m = Int32.ofNat N) (e29 : am_I h 10 29 m = Int32.ofNat files) {r : Except pe ((Nat → Bool) × Nat)} (hr : r = pEm F n N files p) : am_Ct tt 194 [.ref m] h (am_pV (emQ F n m ad h N r) no_x) := by
  have key : ∀ (d i : Nat) (k : am_H), d + i = N → MY F n k m ad (.ok p) → mg m ad Xem Ybg h k → am_I k 10 41 m = Int32.ofNat N → am_I k 10 29 m = Int32.ofNat files → (∀ j, j < i → am_A k (ad 42) j = Int32.ofNat 0) → am_Ev tt 194 2 [some (.ref m), some (.int (Int32.ofNat i))] [] k (am_pV (emQ F n m ad h N r) no_x) := by
    intro d
    induction d with
    | zero =>
      intro i k ei y g e41 e29 e42
      have : i = N := by omega
      subst this
      have kk := y.1.1
      unfold pEm at hr
      refine vc_194_2 tt _ _ _ _ _ ?_
      simp (disch := omega) only [kk, e41, e29, qi_lt, qi_le, qi_eq, qi_nn, qi_in, qi_add, qi_l, ql_i, ql_lt, ql_le, ql_eq, ql_add, qc_lt, qc_eq, qc_ge, qc_gt, qc_le, true_and, and_true, and_self, true_or, or_true, false_or, or_false, false_and, and_false, not_true_eq_false, not_false_eq_true, Classical.not_not, true_implies, false_implies, implies_true, exists_eq_left, exists_eq_left', Option.some.injEq, reduceIte, Nat.reduceEqDiff, Nat.reduceLT, Nat.reduceLeDiff, Nat.reduceAdd, Nat.reduceSub, Nat.reduceMul, eq_self, ne_eq, and_imp, forall_const, reduceCtorEq, am_w, List.map_cons, List.map_nil, List.sum_cons, List.sum_nil, Value.category, Nat.zero_le, Nat.le_refl]
      refine ⟨fun c => ?_, fun c => ?_⟩
      · rw [if_neg c] at hr
        refine vc_194_35 tt _ _ _ _ ⟨kk, _, _, ct_mneed y rfl, fun k3 w3 => ⟨w3.1.1.1, _, _, ct_rbegins w3.1 rfl, fun k4 w4 => ?_, fun _ _ z => z.elim⟩, fun _ _ z => z.elim⟩
        obtain ⟨y3, g3⟩ := w3
        obtain ⟨y4, g4, v4, e61⟩ := w4
        have g34 : mg m ad Xn Ybg k k4 := (g3.mo (fun _ z => z) (fun _ z => by omega)).tr g4
        have e41' : am_I k4 10 41 m = Int32.ofNat i := by rw [(g34.2.2 41 (by omega)).1]; exact e41
        have kk4 := y4.1.1
        refine ⟨kk4, by decide, kk4, ?_⟩
        rw [e41', d8 i hN]
        have y3 : MY F n k3 m ad (st (tX F n p 14)) := y3
        -- where it began
        have hpl : ∃ pl, (∀ q, st (tX F n p 14) = .ok q → q = pl) ∧ (isOk (st (tX F n p 14)) = true → am_I k4 10 61 m = Int32.ofNat pl) := by
          cases e1 : tX F n p 14 with
          | error e => exact ⟨0, (fun q z => by cases z), (fun z => by cases z)⟩
          | ok a =>
            refine ⟨a.2, fun q z => by cases z; rfl, fun _ => e61 a.2 ?_⟩
            show st (tX F n p 14) = _
            rw [e1]; rfl
        obtain ⟨pl, hpl, hp61⟩ := hpl
        refine ⟨_, _, ct_risLong y4 (v := am_J k4 10 62 m) (pl := pl) (fun z => ⟨rfl, hp61 (ok_b z)⟩), fun k5 w5 => ?_, fun _ _ z => z.elim⟩
        obtain ⟨y5, g5⟩ := w5
        rw [bg_w (w := (i + 7) / 8) (by omega) (fun a p' z => (v4 a p' z).symm) hpl] at y5
        have g35 : mg m ad Xn Ybg k k5 := g34.tr (g5.mo (fun _ z => z) (fun _ z => by omega))
        have e415 : am_I k5 10 41 m = Int32.ofNat i := by rw [(g35.2.2 41 (by omega)).1]; exact e41
        have e295 : am_I k5 10 29 m = Int32.ofNat files := by rw [(g35.2.2 29 (by omega)).1]; exact e29
        refine ⟨y5.1.1, y5.1.1, ?_⟩
        rw [e415]
        refine ⟨_, _, ct_rrow y5 hN rfl, fun k6 w6 => ?_, fun _ _ z => z.elim⟩
        obtain ⟨y6, g6, v6⟩ := w6
        have g26 : mg m ad Xem Ybg h k6 := g.tr ((g35.mo (fun _ z => z.elim) (fun _ z => z)).tr (g6.mo (fun _ z => by omega) (fun _ z => by omega)))
        have e416 : am_I k6 10 41 m = Int32.ofNat i := by rw [(g6.2.2 41 (by omega)).1]; exact e415
        have e296 : am_I k6 10 29 m = Int32.ofNat files := by rw [(g6.2.2 29 (by omega)).1]; exact e295
        refine vc_194_68 tt _ _ _ _ ⟨y6.1.1, _, _, ct_mfine y6, fun z k7 e7 => ?_, fun _ _ z => z.elim⟩
        obtain ⟨rfl, rfl⟩ := e7
        -- what it is then
        have hr2 : r = bs (st (bs (st (tX F n p 14)) fun p => tN F n p (l64 ((i + 7) / 8)) (l64 ((i + 7) / 8)))) (fun p2 => bd (tR F n p2 i) fun em p3 => if ¬ cn em i = i - files then .error (5, pl) else .ok (em, p3)) := by
          rw [hr]
          cases e1 : tX F n p 14 with
          | error e => rfl
          | ok a =>
            obtain ⟨u, q⟩ := a
            have := hpl q (by rw [e1]; rfl)
            subst this
            show bd (tN F n q (l64 ((i + 7) / 8)) (l64 ((i + 7) / 8))) _ = bs (st (tN F n q (l64 ((i + 7) / 8)) (l64 ((i + 7) / 8)))) _
            cases tN F n q (l64 ((i + 7) / 8)) (l64 ((i + 7) / 8)) with
            | error e => rfl
            | ok a => rfl
        have hs61 : isOk (st (bs (st (tX F n p 14)) fun p => tN F n p (l64 ((i + 7) / 8)) (l64 ((i + 7) / 8)))) = true → am_I k7 10 61 m = Int32.ofNat pl := fun z => by rw [(g6.2.2 61 (by omega)).1, (g5.2.2 61 (by omega)).1]; exact hp61 (ok_b z)
        have y6 : MY F n k7 m ad (st (bs (st (bs (st (tX F n p 14)) fun p => tN F n p (l64 ((i + 7) / 8)) (l64 ((i + 7) / 8)))) fun p => tR F n p i)) := y6
        have v6 : ∀ g p', (bs (st (bs (st (tX F n p 14)) fun p => tN F n p (l64 ((i + 7) / 8)) (l64 ((i + 7) / 8)))) fun p => tR F n p i) = .ok (g, p') → ∀ j, j < i → am_A k7 (ad 26) j = b01 (g j) := v6
        show (b01 (isOk (st (bs (st (bs (st (tX F n p 14)) fun p => tN F n p (l64 ((i + 7) / 8)) (l64 ((i + 7) / 8)))) fun p => tR F n p i))) = _ → _) ∧ (¬ b01 (isOk (st (bs (st (bs (st (tX F n p 14)) fun p => tN F n p (l64 ((i + 7) / 8)) (l64 ((i + 7) / 8)))) fun p => tR F n p i))) = _ → _)
        generalize st (bs (st (tX F n p 14)) fun p => tN F n p (l64 ((i + 7) / 8)) (l64 ((i + 7) / 8))) = s5 at *
        cases s5 with
        | error e =>
          refine ⟨fun _ => em_106 hN i 0 k7 (by omega) (by rw [hr2]; exact y6) g26 e416 (fun em p' z => by rw [hr2] at z; cases z) (fun em p' z => by rw [hr2] at z; cases z), fun z => absurd rfl z⟩
        | ok q =>
          have y6 : MY F n k7 m ad (st (tR F n q i)) := y6
          have v6 : ∀ g p', tR F n q i = .ok (g, p') → ∀ j, j < i → am_A k7 (ad 26) j = b01 (g j) := v6
          have hr2 : r = bd (tR F n q i) fun em p3 => if ¬ cn em i = i - files then .error (5, pl) else .ok (em, p3) := hr2
          show (b01 (isOk (st (tR F n q i))) = _ → _) ∧ (¬ b01 (isOk (st (tR F n q i))) = _ → _)
          cases e2 : tR F n q i with
          | error e =>
            rw [e2] at y6 hr2
            refine ⟨fun _ => em_106 hN i 0 k7 (by omega) (by rw [hr2]; exact y6) g26 e416 (fun em p' z => by rw [hr2] at z; cases z) (fun em p' z => by rw [hr2] at z; cases z), fun z => absurd rfl z⟩
          | ok b =>
            obtain ⟨gb, q'⟩ := b
            have vv := v6 _ _ e2
            rw [e2] at y6 hr2
            have y6 : MY F n k7 m ad (.ok q') := y6
            have hr2 : r = if ¬ cn gb i = i - files then .error (5, pl) else .ok (gb, q') := hr2
            refine ⟨fun z => absurd z (show ¬ Int32.ofNat 1 = Int32.ofNat 0 by decide), fun _ => ⟨y6.1.1, y6.1.1, ?_⟩⟩
            rw [e416]
            refine ⟨_, _, ct_mbitsSet y6.1 hN, fun x k8 e8 => ?_, fun _ _ z => z.elim⟩
            obtain ⟨rfl, rfl⟩ := e8
            have c24 := cn_le gb i
            refine ⟨y6.1.1, y6.1.1, ?_⟩
            rw [cn_b vv, e416, e296, qi_sub hf, qi_eq (by omega) (by omega)]
            refine ⟨fun c3 => ?_, fun c3 => ?_⟩
            · rw [if_neg (fun z => z c3)] at hr2
              exact em_106 hN i 0 k8 (by omega) (by rw [hr2]; exact y6) g26 e416 (fun em p' z => by rw [hr2] at z; cases z; exact vv) (fun em p' z j hj => absurd hj (by omega))
            · rw [if_pos c3] at hr2
              rw [hs61 rfl]
              refine ⟨y6.1.1, y6.1.1, _, _, ct_mfails y6 (f := 5) (pl := pl) (by omega) (by omega), fun k9 w9 => ?_, fun _ _ z => z.elim⟩
              exact em_106 hN i 0 k9 (by omega) (by rw [hr2]; exact w9.1) (g26.tr (w9.2.mo (fun _ z => z.elim) (fun _ z => by omega))) (by rw [(w9.2.2.2 41 (by omega)).1]; exact e416) (fun em p' z => by rw [hr2] at z; cases z) (fun em p' z => by rw [hr2] at z; cases z)
      · rw [if_pos c] at hr
        rw [hr]
        exact ⟨y, g, fun em p' z j hj => by cases z; exact e42 j hj⟩
    | succ d ih =>
      intro i k ei y g e41 e29 e42
      have kk := y.1.1
      have q1 : ¬ N ≤ i := by omega
      have i24 : i < 24 := by omega
      obtain ⟨c1, c2, c3⟩ := md_r y.1 (k := 42) (by decide) rfl (by decide)
      refine vc_194_2 tt _ _ _ _ _ ?_
      simp (disch := omega) only [kk, e41, q1, c1, c2, c3, i24, z_1, qi_lt, qi_le, qi_eq, qi_nn, qi_in, qi_add, qi_l, ql_i, ql_lt, ql_le, ql_eq, ql_add, qc_lt, qc_eq, qc_ge, qc_gt, qc_le, true_and, and_true, and_self, true_or, or_true, false_or, or_false, false_and, and_false, not_true_eq_false, not_false_eq_true, Classical.not_not, true_implies, false_implies, implies_true, exists_eq_left, exists_eq_left', Option.some.injEq, reduceIte, Nat.reduceEqDiff, Nat.reduceLT, Nat.reduceLeDiff, Nat.reduceAdd, Nat.reduceSub, Nat.reduceMul, eq_self, ne_eq, and_imp, forall_const, reduceCtorEq, am_w, List.map_cons, List.map_nil, List.sum_cons, List.sum_nil, Value.category, Nat.zero_le, Nat.le_refl]
      have s1 : mg m ad Xem Yz k (am_sA k (ad 42) i (Int32.ofNat 0)) := mg.sA y.1 (by omega)
      refine ih (i + 1) _ (by omega) (y.on s1 (by omega) id id id id) (g.tr (s1.mo (fun _ z => z) (fun _ z => z.elim))) (by simp only [am_hs]; exact e41) (by simp only [am_hs]; exact e29) (fun j hj => ?_)
      by_cases cj : j = i
      · subst cj
        simp only [am_hs, true_and, and_true, and_self, true_or, or_true, false_or, or_false, false_and, and_false, not_true_eq_false, not_false_eq_true, Classical.not_not, true_implies, false_implies, implies_true, exists_eq_left, exists_eq_left', Option.some.injEq, reduceIte, Nat.reduceEqDiff, Nat.reduceLT, Nat.reduceLeDiff, Nat.reduceAdd, Nat.reduceSub, Nat.reduceMul, eq_self, ne_eq, and_imp, forall_const, reduceCtorEq, am_w, List.map_cons, List.map_nil, List.sum_cons, List.sum_nil, Value.category, Nat.zero_le, Nat.le_refl]
      · simp (disch := omega) only [am_hs, cj, true_and, and_true, and_self, true_or, or_true, false_or, or_false, false_and, and_false, not_true_eq_false, not_false_eq_true, Classical.not_not, true_implies, false_implies, implies_true, exists_eq_left, exists_eq_left', Option.some.injEq, reduceIte, Nat.reduceEqDiff, Nat.reduceLT, Nat.reduceLeDiff, Nat.reduceAdd, Nat.reduceSub, Nat.reduceMul, eq_self, ne_eq, and_imp, forall_const, reduceCtorEq, am_w, List.map_cons, List.map_nil, List.sum_cons, List.sum_nil, Value.category, Nat.zero_le, Nat.le_refl]
        exact e42 j (by omega)
  exact vc_194_0 tt _ h _ _ (key N 0 h (by omega) y mg.re e41 e29 (fun j hj => absurd hj (by omega)))
theorem rk_c {em em' : Nat → Bool} : ∀ (i : Nat), (∀ j, j < i → em j = em' j) → rk em i = rk em' i
  | 0, _ => rfl
  | i + 1, h => by rw [rk, rk, rk_c i (fun j hj => h j (by omega)), h i (by omega)]
/-- spread over all -/
theorem ct_rspread (sm : md_s h m ad) {a N : Nat} (ha : a = 43 ∨ a = 44) (hN : N ≤ 24) (e41 : am_I h 10 41 m = Int32.ofNat N) : am_Ct tt 195 [.ref m, .ref (ad a)] h (am_pV (fun k => mg m ad (fun r => r = a) Yz h k ∧ ∀ j, j < N → am_A k (ad a) j = b01 (decide (¬ am_A h (ad 42) j = Int32.ofNat 0) && decide (¬ am_A h (ad 26) (j - rk (fun j => decide (¬ am_A h (ad 42) j = Int32.ofNat 0)) j) = Int32.ofNat 0))) no_x) := by
  have key : ∀ (d i : Nat) (k : am_H), d + i = N → mg m ad (fun r => r = a) Yz h k → (∀ j, j < i → am_A k (ad a) j = b01 (decide (¬ am_A h (ad 42) j = Int32.ofNat 0) && decide (¬ am_A h (ad 26) (j - rk (fun j => decide (¬ am_A h (ad 42) j = Int32.ofNat 0)) j) = Int32.ofNat 0))) → am_Ev tt 195 4 [some (.ref m), some (.ref (ad a)), some (.int (Int32.ofNat (i - rk (fun j => decide (¬ am_A h (ad 42) j = Int32.ofNat 0)) i))), some (.int (Int32.ofNat i))] [] k (am_pV (fun k => mg m ad (fun r => r = a) Yz h k ∧ ∀ j, j < N → am_A k (ad a) j = b01 (decide (¬ am_A h (ad 42) j = Int32.ofNat 0) && decide (¬ am_A h (ad 26) (j - rk (fun j => decide (¬ am_A h (ad 42) j = Int32.ofNat 0)) j) = Int32.ofNat 0))) no_x) := by
    intro d
    induction d with
    | zero =>
      intro i k ei g hx
      have : i = N := by omega
      subst this
      have kk := (g.1.md sm).1
      have e41' : am_I k 10 41 m = Int32.ofNat i := by rw [(g.2.2 41 id).1]; exact e41
      refine vc_195_4 tt _ _ _ _ _ _ _ ?_
      simp (disch := omega) only [kk, e41', qi_lt, qi_le, qi_eq, qi_nn, qi_in, qi_add, qi_l, ql_i, ql_lt, ql_le, ql_eq, ql_add, qc_lt, qc_eq, qc_ge, qc_gt, qc_le, true_and, and_true, and_self, true_or, or_true, false_or, or_false, false_and, and_false, not_true_eq_false, not_false_eq_true, Classical.not_not, true_implies, false_implies, implies_true, exists_eq_left, exists_eq_left', Option.some.injEq, reduceIte, Nat.reduceEqDiff, Nat.reduceLT, Nat.reduceLeDiff, Nat.reduceAdd, Nat.reduceSub, Nat.reduceMul, eq_self, ne_eq, and_imp, forall_const, reduceCtorEq, am_w, List.map_cons, List.map_nil, List.sum_cons, List.sum_nil, Value.category, Nat.zero_le, Nat.le_refl]
      exact ⟨g, hx⟩
    | succ d ih =>
      intro i k ei g hx
      have sk := g.1.md sm
      have kk := sk.1
      have dj := ad_ne sk
      have e41' : am_I k 10 41 m = Int32.ofNat N := by rw [(g.2.2 41 id).1]; exact e41
      have q1 : ¬ N ≤ i := by omega
      have i24 : i < 24 := by omega
      have rl := rk_le (fun j => decide (¬ am_A h (ad 42) j = Int32.ofNat 0)) i
      have rs : rk (fun j => decide (¬ am_A h (ad 42) j = Int32.ofNat 0)) (i + 1) = rk (fun j => decide (¬ am_A h (ad 42) j = Int32.ofNat 0)) i + (if decide (¬ am_A h (ad 42) i = Int32.ofNat 0) then 0 else 1) := rfl
      generalize erk : rk (fun j => decide (¬ am_A h (ad 42) j = Int32.ofNat 0)) i = R at *
      have iR : i - R < 24 := by omega
      obtain ⟨b1, b2, b3⟩ := md_r sk (k := 26) (by decide) rfl (by decide)
      obtain ⟨c1, c2, c3⟩ := md_r sk (k := 42) (by decide) rfl (by decide)
      have e42 : am_A k (ad 42) i = am_A h (ad 42) i := by rw [(g.2.1 42 (by omega)).1]
      have e26 : am_A k (ad 26) (i - R) = am_A h (ad 26) (i - R) := by rw [(g.2.1 26 (by omega)).1]
      have da : am_K k (ad a) = 24 ∧ am_N k (ad a) = 24 := by
        rcases ha with rfl | rfl
        · exact ⟨(md_r sk (k := 43) (by decide) rfl (by decide)).2.1, (md_r sk (k := 43) (by decide) rfl (by decide)).2.2⟩
        · exact ⟨(md_r sk (k := 44) (by decide) rfl (by decide)).2.1, (md_r sk (k := 44) (by decide) rfl (by decide)).2.2⟩
      obtain ⟨d2, d3⟩ := da
      have nx : ∀ (v : Bool) (R' : Nat), R' = i + 1 - rk (fun j => decide (¬ am_A h (ad 42) j = Int32.ofNat 0)) (i + 1) → v = (decide (¬ am_A h (ad 42) i = Int32.ofNat 0) && decide (¬ am_A h (ad 26) (i - R) = Int32.ofNat 0)) → am_Ev tt 195 4 [some (.ref m), some (.ref (ad a)), some (.int (Int32.ofNat R')), some (.int (Int32.ofNat (i + 1)))] [] (am_sA k (ad a) i (b01 v)) (am_pV (fun k => mg m ad (fun r => r = a) Yz h k ∧ ∀ j, j < N → am_A k (ad a) j = b01 (decide (¬ am_A h (ad 42) j = Int32.ofNat 0) && decide (¬ am_A h (ad 26) (j - rk (fun j => decide (¬ am_A h (ad 42) j = Int32.ofNat 0)) j) = Int32.ofNat 0))) no_x) := by
        intro v R' eR ev
        subst eR
        have s1 : mg m ad (fun r => r = a) Yz k (am_sA k (ad a) i (b01 v)) := mg.sA sk rfl
        refine ih (i + 1) _ (by omega) (g.tr s1) (fun j hj => ?_)
        by_cases cj : j = i
        · subst cj
          simp only [am_hs, true_and, and_true, and_self, true_or, or_true, false_or, or_false, false_and, and_false, not_true_eq_false, not_false_eq_true, Classical.not_not, true_implies, false_implies, implies_true, exists_eq_left, exists_eq_left', Option.some.injEq, reduceIte, Nat.reduceEqDiff, Nat.reduceLT, Nat.reduceLeDiff, Nat.reduceAdd, Nat.reduceSub, Nat.reduceMul, eq_self, ne_eq, and_imp, forall_const, reduceCtorEq, am_w, List.map_cons, List.map_nil, List.sum_cons, List.sum_nil, Value.category, Nat.zero_le, Nat.le_refl]
          rw [ev, erk]
        · simp (disch := omega) only [am_hs, cj, true_and, and_true, and_self, true_or, or_true, false_or, or_false, false_and, and_false, not_true_eq_false, not_false_eq_true, Classical.not_not, true_implies, false_implies, implies_true, exists_eq_left, exists_eq_left', Option.some.injEq, reduceIte, Nat.reduceEqDiff, Nat.reduceLT, Nat.reduceLeDiff, Nat.reduceAdd, Nat.reduceSub, Nat.reduceMul, eq_self, ne_eq, and_imp, forall_const, reduceCtorEq, am_w, List.map_cons, List.map_nil, List.sum_cons, List.sum_nil, Value.category, Nat.zero_le, Nat.le_refl]
          exact hx j (by omega)
      have a42 : ¬ 42 = a := by omega
      refine vc_195_4 tt _ _ _ _ _ _ _ ?_
      simp (disch := omega) only [kk, e41', q1, b1, b2, b3, c1, c2, c3, d2, d3, i24, iR, e42, e26, dj, am_hs, z_1, o_1, qi_lt, qi_le, qi_eq, qi_nn, qi_in, qi_add, qi_l, ql_i, ql_lt, ql_le, ql_eq, ql_add, qc_lt, qc_eq, qc_ge, qc_gt, qc_le, true_and, and_true, and_self, true_or, or_true, false_or, or_false, false_and, and_false, not_true_eq_false, not_false_eq_true, Classical.not_not, true_implies, false_implies, implies_true, exists_eq_left, exists_eq_left', Option.some.injEq, reduceIte, Nat.reduceEqDiff, Nat.reduceLT, Nat.reduceLeDiff, Nat.reduceAdd, Nat.reduceSub, Nat.reduceMul, eq_self, ne_eq, and_imp, forall_const, reduceCtorEq, am_w, List.map_cons, List.map_nil, List.sum_cons, List.sum_nil, Value.category, Nat.zero_le, Nat.le_refl]
      refine ⟨fun z => ⟨fun _ => ?_, fun w => absurd z w⟩, fun z => ⟨fun z2 => ⟨fun w => absurd w z, fun _ => ?_⟩, fun z2 => ⟨fun w => absurd w z, fun _ => ?_⟩⟩⟩
      · refine nx false _ ?_ ?_
        · rw [rs, decide_eq_false (fun w => w z), if_neg (by decide)]; omega
        · rw [decide_eq_false (fun w => w z), Bool.false_and]
      · refine nx false _ ?_ ?_
        · rw [rs, decide_eq_true z, if_pos rfl]; omega
        · rw [show decide (¬ am_A h (ad 26) (i - R) = Int32.ofNat 0) = false from decide_eq_false (fun w => w z2), Bool.and_false]
      · refine nx true _ ?_ ?_
        · rw [rs, decide_eq_true z, if_pos rfl]; omega
        · rw [decide_eq_true z, decide_eq_true z2]; rfl
  exact vc_195_0 tt _ _ h _ _ (key N 0 h (by omega) mg.re (fun j hj => absurd hj (by omega)))
end MEM
