/-! deps: 20d -/
/-! ===== the reference reads: numberIn ===== -/
theorem tN_b {F : Fn} {n p : Nat} {l u : Int64} (hl : Int64.ofNat 0 ≤ l) : tN F n p l u = bd (nN F n p) fun v q => if l ≤ v ∧ v ≤ u then .ok (v, q) else .error (5, p) := by
  unfold nN tN
  by_cases c1 : p < n
  · rw [if_pos c1, if_pos c1]
    simp only []
    by_cases c2 : p + 1 + lo (F p &&& Int32.ofNat 255) 8 0 ≤ n
    · rw [if_pos c2, if_pos c2]
      generalize nv F p (F p &&& Int32.ofNat 255) (lo (F p &&& Int32.ofNat 255) 8 0) = v
      generalize lo (F p &&& Int32.ofNat 255) 8 0 = L
      by_cases c3 : 0 < L ∧ (v.toUInt64 >>> UInt64.ofNat (7 * L)).toInt64 = Int64.ofNat 0
      · rw [if_pos c3, if_pos c3]; rfl
      · rw [if_neg c3, if_neg c3]
        by_cases c4 : v < Int64.ofNat 0
        · rw [if_pos (Or.inl c4), if_pos (Or.inl (Int64.lt_of_lt_of_le c4 hl))]; rfl
        · rw [show (if v < l64 0 ∨ mx64 < v then (.error (5, p) : Except pe (Int64 × Nat)) else .ok (v, p + 1 + L)) = .ok (v, p + 1 + L) from if_neg (fun z => z.elim c4 (mx_n v))]
          show _ = if l ≤ v ∧ v ≤ u then _ else _
          by_cases c5 : v < l ∨ u < v
          · rw [if_pos c5, if_neg (fun z => c5.elim (fun w => absurd z.1 (Int64.not_le.2 w)) (fun w => absurd z.2 (Int64.not_le.2 w)))]
          · rw [if_neg c5, if_pos ⟨Int64.not_lt.1 (fun w => c5 (Or.inl w)), Int64.not_lt.1 (fun w => c5 (Or.inr w))⟩]
    · rw [if_neg c2, if_neg c2]; rfl
  · rw [if_neg c1, if_neg c1]; rfl
section MNI
variable {tt : Nat → Nat} {F : Fn} {n m : Nat} {ad : Nat → Nat} {h h' h'' k k' : am_H} {s : Ms} {X Y X' Y' : Nat → Prop}
theorem ct_rnumberIn (y : MY F n h m ad s) {l u : Int64} (hl : Int64.ofNat 0 ≤ l) {r : Except pe (Int64 × Nat)} (hr : r = bs s fun p => tN F n p l u) : am_Ct tt 182 [.ref m, .long l, .long u] h (am_pI (fun v k => MY F n k m ad (st r) ∧ mg m ad Xn Yn h k ∧ (∀ a p', r = .ok (a, p') → v = a.toInt32) ∧ (∀ e, r = .error e → v = Int32.ofNat 0) ∧ ∀ p, s = .ok p → am_I k 10 51 m = Int32.ofNat p) no_x) := by
  have k1 := y.1.1
  have l32 : ∀ (k : am_H) (x : Int64), MY F n k m ad (st r) → mg m ad Xn Yn h k → (∀ a p', r = .ok (a, p') → x = a) → (∀ p, s = .ok p → am_I k 10 51 m = Int32.ofNat p) → am_Ev tt 182 32 [some (.ref m), none, none, none, none, some (.long x), none] [] k (am_pI (fun v k => MY F n k m ad (st r) ∧ mg m ad Xn Yn h k ∧ (∀ a p', r = .ok (a, p') → v = a.toInt32) ∧ (∀ e, r = .error e → v = Int32.ofNat 0) ∧ ∀ p, s = .ok p → am_I k 10 51 m = Int32.ofNat p) no_x) := by
    intro k x y2 g v e51
    refine vc_182_32 tt _ _ _ _ _ ⟨y2.1.1, _, _, ct_mfine y2, fun w k3 e => ?_, fun _ _ z => z.elim⟩
    obtain ⟨rfl, rfl⟩ := e
    cases er : r with
    | ok a =>
      obtain ⟨a, q⟩ := a
      have ex := v a q er
      rw [er] at y2
      refine ⟨fun z => absurd z (show ¬ Int32.ofNat 1 = Int32.ofNat 0 by decide), fun _ => ⟨y2, g, (fun a' p' z => by cases z; rw [ex]), (fun e z => by cases z), e51⟩⟩
    | error e =>
      rw [er] at y2
      refine ⟨fun _ => ⟨y2, g, (fun a' p' z => by cases z), (fun e z => rfl), e51⟩, fun z => absurd rfl z⟩
  refine vc_182_0 tt _ _ _ h _ _ ⟨k1, _, _, ct_rnumber y rfl, fun x k e => ?_, fun _ _ z => z.elim⟩
  obtain ⟨y2, g2, v2, e51⟩ := e
  refine ⟨y2.1.1, _, _, ct_mfine y2, fun w k3 e => ?_, fun _ _ z => z.elim⟩
  obtain ⟨rfl, rfl⟩ := e
  cases s with
  | error e =>
    have er : r = .error e := hr
    refine ⟨fun _ => l32 k3 x (by rw [er]; exact y2) g2 (fun a p' z => by rw [er] at z; cases z) e51, fun z => absurd rfl z⟩
  | ok p =>
    have hr2 : r = bd (nN F n p) fun v q => if l ≤ v ∧ v ≤ u then .ok (v, q) else .error (5, p) := by rw [hr]; exact tN_b hl
    have y2 : MY F n k3 m ad (st (nN F n p)) := y2
    have v2 : ∀ a p', nN F n p = .ok (a, p') → x = a := v2
    have e51p := e51 p rfl
    have eb : bs (Except.ok p : Ms) (nN F n) = nN F n p := rfl
    rw [eb]
    cases en : nN F n p with
    | error e =>
      rw [en] at y2 hr2
      have er : r = .error e := hr2
      refine ⟨fun _ => l32 k3 x (by rw [er]; exact y2) g2 (fun a p' z => by rw [er] at z; cases z) e51, fun z => absurd rfl z⟩
    | ok a =>
      obtain ⟨a, q⟩ := a
      have ex := v2 a q en
      rw [en] at y2 hr2
      have hr3 : r = if l ≤ a ∧ a ≤ u then .ok (a, q) else .error (5, p) := hr2
      refine ⟨fun z => absurd z (show ¬ Int32.ofNat 1 = Int32.ofNat 0 by decide), fun _ => ⟨_, _, ct_in, fun w2 k4 e => ?_, fun _ _ z => z.elim⟩⟩
      obtain ⟨rfl, rfl⟩ := e
      rw [ex]
      by_cases c : l ≤ a ∧ a ≤ u
      · rw [if_pos c] at hr3
        rw [if_pos c]
        refine ⟨fun _ => l32 k4 a (by rw [hr3]; exact y2) g2 (fun a' p' z => by rw [hr3] at z; cases z; rfl) e51, fun z => absurd (show ¬ Int32.ofNat 1 = Int32.ofNat 0 by decide) z⟩
      · rw [if_neg c] at hr3
        rw [if_neg c]
        refine ⟨fun z => absurd rfl z, fun _ => ?_⟩
        have kk := y2.1.1
        simp (disch := omega) only [kk, e51p, qi_lt, qi_le, qi_eq, qi_nn, qi_in, qi_add, qi_l, ql_i, ql_lt, ql_le, ql_eq, ql_add, qc_lt, qc_eq, qc_ge, qc_gt, qc_le, true_and, and_true, and_self, true_or, or_true, false_or, or_false, false_and, and_false, not_true_eq_false, not_false_eq_true, Classical.not_not, true_implies, false_implies, implies_true, exists_eq_left, exists_eq_left', Option.some.injEq, reduceIte, Nat.reduceEqDiff, Nat.reduceLT, Nat.reduceLeDiff, Nat.reduceAdd, Nat.reduceSub, Nat.reduceMul, eq_self, ne_eq, and_imp, forall_const, reduceCtorEq, am_w, List.map_cons, List.map_nil, List.sum_cons, List.sum_nil, Value.category, Nat.zero_le, Nat.le_refl]
        refine ⟨_, _, ct_mfails y2 (f := 5) (pl := p) (by omega) (by omega), fun k5 w5 => ?_, fun _ _ z => z.elim⟩
        exact l32 k5 a (by rw [hr3]; exact w5.1) (g2.tr w5.2.qn) (fun a' p' z => by rw [hr3] at z; cases z) (fun q' z => by rw [(w5.2.2.2 51 (by omega)).1]; exact e51 q' z)
end MNI
