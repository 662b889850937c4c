/-! deps: 20c -/
/-! ===== the reference reads: number_, numberIn ===== -/
section MN
variable {tt : Nat → Nat} {F : Fn} {n m : Nat} {ad : Nat → Nat} {h h' h'' k k' : am_H} {s : Ms} {X Y X' Y' : Nat → Prop}
/-- fields that reading uses -/
abbrev Yn (f : Nat) : Prop := f = 20 ∨ f = 27 ∨ f = 28 ∨ f = 51
theorem mg.qn (q : mg m ad Xn Yq h h') : mg m ad Xn Yn h h' := q.mo (fun _ z => z) (fun f z => by omega)
def nuQ (F : Fn) (n m : Nat) (ad : Nat → Nat) (h : am_H) (s : Ms) (r : Except pe (Int64 × Nat)) (v : Int64) (k : am_H) : Prop := MY F n k m ad (st r) ∧ mg m ad Xn Yn h k ∧ (∀ a p', r = .ok (a, p') → v = a) ∧ ∀ p, s = .ok p → am_I k 10 51 m = Int32.ofNat p
theorem ct_rnumber (y : MY F n h m ad s) {r : Except pe (Int64 × Nat)} (hr : r = bs s (nN F n)) : am_Ct tt 181 [.ref m] h (am_pL (nuQ F n m ad h s r) no_x) := by
  have k1 := y.1.1
  have n5 := y.2.2.1
  have g1 : mg m ad Xn (fun f => f = 51) h (am_sI h 10 51 m (am_I h 10 27 m)) := mg.sI rfl
  have y1 : MY F n (am_sI h 10 51 m (am_I h 10 27 m)) m ad s := y.on g1 (fun z => z) (by omega) (by omega) (by omega) (by omega)
  have g1n : mg m ad Xn Yn h (am_sI h 10 51 m (am_I h 10 27 m)) := g1.mo (fun _ z => z) (fun f z => by omega)
  have e51 : ∀ p, s = .ok p → am_I (am_sI h 10 51 m (am_I h 10 27 m)) 10 51 m = Int32.ofNat p := fun p e => by
    subst e
    simp only [am_hs, true_and, and_true, and_self, true_or, or_true, false_or, or_false, false_and, and_false, not_true_eq_false, not_false_eq_true, Classical.not_not, true_implies, false_implies, implies_true, exists_eq_left, exists_eq_left', Option.some.injEq, reduceIte, Nat.reduceEqDiff, Nat.reduceLT, Nat.reduceLeDiff, Nat.reduceAdd, Nat.reduceSub, Nat.reduceMul, eq_self, ne_eq, and_imp, forall_const, reduceCtorEq, am_w, List.map_cons, List.map_nil, List.sum_cons, List.sum_nil, Value.category, Nat.zero_le, Nat.le_refl]
    exact y.2.2.2.2.1.2
  refine vc_181_0 tt _ h _ _ ⟨k1, k1, k1, _, _, ct_mtake y1 rfl, fun x k e => ?_, fun _ _ z => z.elim⟩
  obtain ⟨y2, g2, v2⟩ := e
  have k2 := y2.1.1
  have e51k : ∀ p, s = .ok p → am_I k 10 51 m = Int32.ofNat p := fun p e => by rw [(g2.2.2 51 (by omega)).1]; exact e51 p e
  have gk : mg m ad Xn Yn h k := g1n.tr g2.qn
  refine ⟨k2, _, _, ct_mfine y2, fun w k' e => ?_, fun _ _ z => z.elim⟩
  obtain ⟨rfl, rfl⟩ := e
  cases s with
  | error e =>
    refine ⟨fun z => absurd rfl z, fun _ => ?_⟩
    have er : r = .error e := hr
    rw [er]
    exact ⟨y2, gk, (fun a p' z => by cases z), e51k⟩
  | ok p =>
    by_cases c : p < n
    · have et : bs (Except.ok p : Ms) (tB F n) = .ok (F p &&& Int32.ofNat 255, p + 1) := by show tB F n p = _; rw [tB, if_pos c]
      rw [et] at y2 v2 ⊢
      have ex := v2 _ _ rfl
      have e51p := e51k p rfl
      refine ⟨fun _ => ?_, fun z => absurd (show ¬ Int32.ofNat 1 = Int32.ofNat 0 by decide) z⟩
      obtain ⟨b, hb, eb⟩ := a255 (F p)
      have exb : x = Int32.ofNat b := ex.trans eb
      have lk := lo_le (F p &&& Int32.ofNat 255) 8 0
      have hr2 : r = (if p + 1 + lo (F p &&& Int32.ofNat 255) 8 0 ≤ n then (if 0 < lo (F p &&& Int32.ofNat 255) 8 0 ∧ ((nv F p (F p &&& Int32.ofNat 255) (lo (F p &&& Int32.ofNat 255) 8 0)).toUInt64 >>> UInt64.ofNat (7 * lo (F p &&& Int32.ofNat 255) 8 0)).toInt64 = Int64.ofNat 0 then .error (2, p) else if nv F p (F p &&& Int32.ofNat 255) (lo (F p &&& Int32.ofNat 255) 8 0) < l64 0 ∨ mx64 < nv F p (F p &&& Int32.ofNat 255) (lo (F p &&& Int32.ofNat 255) 8 0) then .error (5, p) else .ok (nv F p (F p &&& Int32.ofNat 255) (lo (F p &&& Int32.ofNat 255) 8 0), p + 1 + lo (F p &&& Int32.ofNat 255) 8 0)) else .error (1, n)) := by
        rw [hr]
        show tN F n p (l64 0) mx64 = _
        unfold tN
        rw [if_pos c]
      generalize hL : lo (F p &&& Int32.ofNat 255) 8 0 = L at hr2 lk
      have e27 := y2.2.2.2.2.1.2
      have e20 := y2.2.2.2.2.1.1
      have e19 := y2.2.1
      have eM : L < 8 → ((x &&& ((Int32.ofNat 1 <<< ((Int32.ofNat 7 - Int32.ofNat L) &&& 31)) - Int32.ofNat 1)).toInt64 <<< (((Int32.ofNat 8 * Int32.ofNat L).toInt64) &&& 63)) ||| lt F (p + 1) L = nv F p (F p &&& Int32.ofNat 255) L := fun h8 => by
        rw [nv_7 h8, nr_b L h8, ex, qi_mul, qi_l (by omega), sh_s8 L h8]
      have e8 : L = 8 → lt F (p + 1) L = nv F p (F p &&& Int32.ofNat 255) L := fun h8 => by
        unfold nv
        rw [if_neg (by omega)]
      -- all bytes are in
      have l102 : ∀ (M : Int64), M ||| lt F (p + 1) L = nv F p (F p &&& Int32.ofNat 255) L → p + 1 + L ≤ n → ∀ (d i : Nat), d + i = L → am_Ev tt 181 102 [some (.ref m), none, some (.int (Int32.ofNat L)), some (.long (M ||| lt F (p + 1) i)), none, some (.int (Int32.ofNat i))] [] k' (am_pL (nuQ F n m ad h (.ok p) r) no_x) := by
        intro M hM hn d
        rw [if_pos hn] at hr2
        have l174 : ∀ (k3 : am_H) (s3 : Ms), MY F n k3 m ad s3 → mg m ad Xn Yn h k3 → am_I k3 10 51 m = Int32.ofNat p → (s3 = .ok (p + 1 + L) ∧ r = (if nv F p (F p &&& Int32.ofNat 255) L < l64 0 ∨ mx64 < nv F p (F p &&& Int32.ofNat 255) L then .error (5, p) else .ok (nv F p (F p &&& Int32.ofNat 255) L, p + 1 + L)) ∨ s3 = .error (2, p) ∧ r = .error (2, p)) → am_Ev tt 181 174 [some (.ref m), none, none, some (.long (nv F p (F p &&& Int32.ofNat 255) L)), none, none] [] k3 (am_pL (nuQ F n m ad h (.ok p) r) no_x) := by
          intro k3 s3 y3 g3 e3 hs
          have k31 := y3.1.1
          refine vc_181_174 tt _ _ _ _ _ ?_
          simp (disch := omega) only [k31, e3, qi_lt, qi_le, qi_eq, qi_nn, qi_in, qi_add, qi_l, ql_i, ql_lt, ql_le, ql_eq, ql_add, qc_lt, qc_eq, qc_ge, qc_gt, qc_le, true_and, and_true, and_self, true_or, or_true, false_or, or_false, false_and, and_false, not_true_eq_false, not_false_eq_true, Classical.not_not, true_implies, false_implies, implies_true, exists_eq_left, exists_eq_left', Option.some.injEq, reduceIte, Nat.reduceEqDiff, Nat.reduceLT, Nat.reduceLeDiff, Nat.reduceAdd, Nat.reduceSub, Nat.reduceMul, eq_self, ne_eq, and_imp, forall_const, reduceCtorEq, am_w, List.map_cons, List.map_nil, List.sum_cons, List.sum_nil, Value.category, Nat.zero_le, Nat.le_refl]
          refine ⟨fun c1 => ?_, fun c1 => ?_⟩
          · rcases hs with ⟨rfl, hs⟩ | ⟨rfl, hs⟩
            · rw [if_neg (fun z => z.elim (fun w => absurd c1 (Int64.not_le.2 w)) (fun w => mx_n _ w))] at hs
              rw [hs]
              exact ⟨y3, g3, (fun a p' z => by cases z; rfl), fun q z => by cases z; exact e3⟩
            · rw [hs]
              exact ⟨y3, g3, (fun a p' z => by cases z), fun q z => by cases z; exact e3⟩
          · refine ⟨_, _, ct_mfails y3 (f := 5) (pl := p) (by omega) (by omega), fun k4 w => ?_, fun _ _ z => z.elim⟩
            have e4 : am_I k4 10 51 m = Int32.ofNat p := by rw [(w.2.2.2 51 (by omega)).1]; exact e3
            rcases hs with ⟨rfl, hs⟩ | ⟨rfl, hs⟩
            · rw [if_pos (Or.inl (Int64.not_le.1 c1))] at hs
              rw [hs]
              exact ⟨w.1, g3.tr w.2.qn, (fun a p' z => by cases z), fun q z => by cases z; exact e4⟩
            · rw [hs]
              exact ⟨w.1, g3.tr w.2.qn, (fun a p' z => by cases z), fun q z => by cases z; exact e4⟩
        induction d with
        | zero =>
          intro i ei
          have e : i = L := by omega
          rw [e, hM]
          refine vc_181_102 tt _ _ _ _ _ _ _ ?_
          have nc := nr_c L (by omega)
          have g5 : mg m ad Xn Yq k' (am_sI k' 10 27 m (Int32.ofNat (p + 1 + L))) := mg.sI (by omega)
          have y5 : MY F n (am_sI k' 10 27 m (Int32.ofNat (p + 1 + L))) m ad (.ok (p + 1 + L)) := y2.to g5 ⟨by simp only [am_hs, true_and, and_true, and_self, true_or, or_true, false_or, or_false, false_and, and_false, not_true_eq_false, not_false_eq_true, Classical.not_not, true_implies, false_implies, implies_true, exists_eq_left, exists_eq_left', Option.some.injEq, reduceIte, Nat.reduceEqDiff, Nat.reduceLT, Nat.reduceLeDiff, Nat.reduceAdd, Nat.reduceSub, Nat.reduceMul, eq_self, ne_eq, and_imp, forall_const, reduceCtorEq, am_w, List.map_cons, List.map_nil, List.sum_cons, List.sum_nil, Value.category, Nat.zero_le, Nat.le_refl]; exact e20, by simp only [am_hs, true_and, and_true, and_self, true_or, or_true, false_or, or_false, false_and, and_false, not_true_eq_false, not_false_eq_true, Classical.not_not, true_implies, false_implies, implies_true, exists_eq_left, exists_eq_left', Option.some.injEq, reduceIte, Nat.reduceEqDiff, Nat.reduceLT, Nat.reduceLeDiff, Nat.reduceAdd, Nat.reduceSub, Nat.reduceMul, eq_self, ne_eq, and_imp, forall_const, reduceCtorEq, am_w, List.map_cons, List.map_nil, List.sum_cons, List.sum_nil, Value.category, Nat.zero_le, Nat.le_refl]⟩ (fun q z => by cases z; exact hn)
          have e515 : am_I (am_sI k' 10 27 m (Int32.ofNat (p + 1 + L))) 10 51 m = Int32.ofNat p := by simp only [am_hs, true_and, and_true, and_self, true_or, or_true, false_or, or_false, false_and, and_false, not_true_eq_false, not_false_eq_true, Classical.not_not, true_implies, false_implies, implies_true, exists_eq_left, exists_eq_left', Option.some.injEq, reduceIte, Nat.reduceEqDiff, Nat.reduceLT, Nat.reduceLeDiff, Nat.reduceAdd, Nat.reduceSub, Nat.reduceMul, eq_self, ne_eq, and_imp, forall_const, reduceCtorEq, am_w, List.map_cons, List.map_nil, List.sum_cons, List.sum_nil, Value.category, Nat.zero_le, Nat.le_refl]; exact e51p
          simp (disch := omega) only [k2, e27, e51p, nc, qi_lt, qi_le, qi_eq, qi_nn, qi_in, qi_add, qi_l, ql_i, ql_lt, ql_le, ql_eq, ql_add, qc_lt, qc_eq, qc_ge, qc_gt, qc_le, true_and, and_true, and_self, true_or, or_true, false_or, or_false, false_and, and_false, not_true_eq_false, not_false_eq_true, Classical.not_not, true_implies, false_implies, implies_true, exists_eq_left, exists_eq_left', Option.some.injEq, reduceIte, Nat.reduceEqDiff, Nat.reduceLT, Nat.reduceLeDiff, Nat.reduceAdd, Nat.reduceSub, Nat.reduceMul, eq_self, ne_eq, and_imp, forall_const, reduceCtorEq, am_w, List.map_cons, List.map_nil, List.sum_cons, List.sum_nil, Value.category, Nat.zero_le, Nat.le_refl]
          refine ⟨fun c1 => ?_, fun c1 => ⟨fun c2 => ?_, fun c2 => ?_⟩⟩
          · rw [if_neg (fun z => by omega)] at hr2
            exact l174 _ _ y5 (gk.tr g5.qn) e515 (Or.inl ⟨rfl, hr2⟩)
          · rw [if_neg (fun z => c2 z.2)] at hr2
            exact l174 _ _ y5 (gk.tr g5.qn) e515 (Or.inl ⟨rfl, hr2⟩)
          · rw [if_pos ⟨by omega, c2⟩] at hr2
            refine ⟨_, _, ct_mfails y5 (f := 2) (pl := p) (by omega) (by omega), fun k4 w => ?_, fun _ _ z => z.elim⟩
            exact l174 k4 _ w.1 (gk.tr (g5.qn.tr w.2.qn)) (by rw [(w.2.2.2 51 (by omega)).1]; exact e515) (Or.inr ⟨rfl, hr2⟩)
        | succ d ih =>
          intro i ei
          have q1 : ¬ L ≤ i := by omega
          obtain ⟨r1, r2, r3⟩ := md_r y2.1 (k := 18) (by decide) rfl (by decide)
          have eF := y2.2.2.2.1 (p + 1 + i) (by omega)
          refine vc_181_102 tt _ _ _ _ _ _ _ ?_
          have es : (((Int32.ofNat 8 * Int32.ofNat i).toInt64) &&& 63) = Int64.ofNat (8 * i) := by rw [qi_mul, qi_l (by omega), sh_s8 i (by omega)]
          simp (disch := omega) only [k2, e27, q1, r1, r2, r3, eF, es, qi_lt, qi_le, qi_eq, qi_nn, qi_in, qi_add, qi_l, ql_i, ql_lt, ql_le, ql_eq, ql_add, qc_lt, qc_eq, qc_ge, qc_gt, qc_le, true_and, and_true, and_self, true_or, or_true, false_or, or_false, false_and, and_false, not_true_eq_false, not_false_eq_true, Classical.not_not, true_implies, false_implies, implies_true, exists_eq_left, exists_eq_left', Option.some.injEq, reduceIte, Nat.reduceEqDiff, Nat.reduceLT, Nat.reduceLeDiff, Nat.reduceAdd, Nat.reduceSub, Nat.reduceMul, eq_self, ne_eq, and_imp, forall_const, reduceCtorEq, am_w, List.map_cons, List.map_nil, List.sum_cons, List.sum_nil, Value.category, Nat.zero_le, Nat.le_refl]
          refine ⟨by omega, ?_⟩
          have := ih (i + 1) (by omega)
          rw [show M ||| lt F (p + 1) (i + 1) = M ||| lt F (p + 1) i ||| (((F (p + 1 + i)).toInt64 &&& Int64.ofNat 255) <<< Int64.ofNat (8 * i)) from by
            rw [lt]
            apply Int64.toBitVec_inj.1
            rw [Int64.toBitVec_or, Int64.toBitVec_or, Int64.toBitVec_or, Int64.toBitVec_or, BitVec.or_assoc]] at this
          exact this
      have l48 : am_Ev tt 181 48 [some (.ref m), some (.int x), some (.int (Int32.ofNat L)), none, none, none] [] k' (am_pL (nuQ F n m ad h (.ok p) r) no_x) := by
        refine vc_181_48 tt _ _ _ _ _ _ ?_
        simp (disch := omega) only [k2, e27, e19, qi_lt, qi_le, qi_eq, qi_nn, qi_in, qi_add, qi_l, ql_i, ql_lt, ql_le, ql_eq, ql_add, qc_lt, qc_eq, qc_ge, qc_gt, qc_le, true_and, and_true, and_self, true_or, or_true, false_or, or_false, false_and, and_false, not_true_eq_false, not_false_eq_true, Classical.not_not, true_implies, false_implies, implies_true, exists_eq_left, exists_eq_left', Option.some.injEq, reduceIte, Nat.reduceEqDiff, Nat.reduceLT, Nat.reduceLeDiff, Nat.reduceAdd, Nat.reduceSub, Nat.reduceMul, eq_self, ne_eq, and_imp, forall_const, reduceCtorEq, am_w, List.map_cons, List.map_nil, List.sum_cons, List.sum_nil, Value.category, Nat.zero_le, Nat.le_refl]
        refine ⟨fun c1 => ⟨fun c2 => ?_, fun c2 => ?_⟩, fun c1 => ?_⟩
        · have := l102 _ (eM (by omega)) c1 L 0 (by omega)
          rw [show ∀ M : Int64, M ||| lt F (p + 1) 0 = M from fun M => by
            apply Int64.toBitVec_inj.1
            rw [Int64.toBitVec_or, show (lt F (p + 1) 0).toBitVec = 0#64 from rfl, BitVec.or_zero]] at this
          exact this
        · have := l102 (Int64.ofNat 0) (by rw [← e8 (by omega)]; apply Int64.toBitVec_inj.1; rw [Int64.toBitVec_or, show (Int64.ofNat 0).toBitVec = 0#64 from rfl, BitVec.zero_or]) c1 L 0 (by omega)
          rw [show Int64.ofNat 0 ||| lt F (p + 1) 0 = Int64.ofNat 0 from by rw [lt]; decide] at this
          exact this
        · rw [if_neg c1] at hr2
          refine ⟨_, _, ct_mfails y2 (f := 1) (pl := n) (by omega) (by omega), fun k3 w => ?_, fun _ _ z => z.elim⟩
          rw [hr2]
          exact ⟨w.1, gk.tr w.2.qn, (fun a p' z => by cases z), fun q z => by rw [(w.2.2.2 51 (by omega)).1]; exact e51k q z⟩
      have l24 : ∀ (d j : Nat), d + j = 8 → lo (F p &&& Int32.ofNat 255) d j = L → am_Ev tt 181 24 [some (.ref m), some (.int x), some (.int (Int32.ofNat j)), none, none, none] [] k' (am_pL (nuQ F n m ad h (.ok p) r) no_x) := by
        intro d
        induction d with
        | zero =>
          intro j e e2
          have e3 : j = L := e2
          have : 8 ≤ j := by omega
          refine vc_181_24 tt _ _ _ _ _ _ ?_
          simp (disch := omega) only [this, qi_lt, qi_le, qi_eq, qi_nn, qi_in, qi_add, qi_l, ql_i, ql_lt, ql_le, ql_eq, ql_add, qc_lt, qc_eq, qc_ge, qc_gt, qc_le, true_and, and_true, and_self, true_or, or_true, false_or, or_false, false_and, and_false, not_true_eq_false, not_false_eq_true, Classical.not_not, true_implies, false_implies, implies_true, exists_eq_left, exists_eq_left', Option.some.injEq, reduceIte, Nat.reduceEqDiff, Nat.reduceLT, Nat.reduceLeDiff, Nat.reduceAdd, Nat.reduceSub, Nat.reduceMul, eq_self, ne_eq, and_imp, forall_const, reduceCtorEq, am_w, List.map_cons, List.map_nil, List.sum_cons, List.sum_nil, Value.category, Nat.zero_le, Nat.le_refl]
          rw [e3]
          exact l48
        | succ d ih =>
          intro j e e2
          have q8 : ¬ 8 ≤ j := by omega
          rw [lo] at e2
          have na := nr_a b hb j (by omega)
          rw [← exb, ex] at na
          refine vc_181_24 tt _ _ _ _ _ _ ?_
          rw [ex]
          simp (disch := omega) only [q8, qi_lt, qi_le, qi_eq, qi_nn, qi_in, qi_add, qi_l, ql_i, ql_lt, ql_le, ql_eq, ql_add, qc_lt, qc_eq, qc_ge, qc_gt, qc_le, true_and, and_true, and_self, true_or, or_true, false_or, or_false, false_and, and_false, not_true_eq_false, not_false_eq_true, Classical.not_not, true_implies, false_implies, implies_true, exists_eq_left, exists_eq_left', Option.some.injEq, reduceIte, Nat.reduceEqDiff, Nat.reduceLT, Nat.reduceLeDiff, Nat.reduceAdd, Nat.reduceSub, Nat.reduceMul, eq_self, ne_eq, and_imp, forall_const, reduceCtorEq, am_w, List.map_cons, List.map_nil, List.sum_cons, List.sum_nil, Value.category, Nat.zero_le, Nat.le_refl]
          refine ⟨fun c1 => ?_, fun c1 => ?_⟩
          · rw [if_pos (Classical.not_not.1 (fun z => c1 (na.2 z)))] at e2
            rw [e2, ← ex]
            exact l48
          · rw [if_neg (na.1 c1)] at e2
            rw [← ex]
            exact ih (j + 1) (by omega) e2
      exact l24 8 0 (by omega) hL
    · have et : bs (Except.ok p : Ms) (tB F n) = .error (1, n) := by show tB F n p = _; rw [tB, if_neg c]
      rw [et] at y2 ⊢
      refine ⟨fun z => absurd rfl z, fun _ => ?_⟩
      have er : r = .error (1, n) := by rw [hr]; show tN F n p _ _ = _; unfold tN; rw [if_neg c]
      rw [er]
      exact ⟨y2, gk, (fun a p' z => by cases z), e51k⟩
end MN
