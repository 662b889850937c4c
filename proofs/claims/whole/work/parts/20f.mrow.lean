/-! deps: 20e -/
/-! ===== the reference reads: rows of bits ===== -/
/-! 184 yX10_row -/
theorem vc_184_0 (tt : Nat → Nat) (a0 : Nat) (a1 : Int32) (h : am_H) (Q : am_H → Prop) (Qx : String → am_H → Prop) (q :
  am_Ev tt 184 2 [some (.ref a0), some (.int a1), some (.int (Int32.ofNat 0)), none, none, none, none] [] h (am_pV Q Qx)) :
  am_Ev tt 184 0 [some (.ref a0), some (.int a1), none, none, none, none, none] [] h (am_pV Q Qx) := am_vc 5 [(2, [true, true, true, false, false, false, false]), (28, [true, true, true, true, true, true, false]), (96, [true, true, true, true, true, true, false]), (102, [true, true, true, false, false, false, false])] q
theorem vc_184_2 (tt : Nat → Nat) (a0 : Nat) (a1 : Int32) (a2 : Int32) (h : am_H) (Q : am_H → Prop) (Qx : String → am_H → Prop) (q :
  ((a1 ≤ a2 →
   Q h) ∧
  (¬ (a1 ≤ a2) →
   (am_K h a0 = 11 ∧ ∃ (Q2 : Int32 → am_H → Prop) (X2 : String → am_H → Prop), am_Ct tt 176 [.ref a0] h (am_pI Q2 X2) ∧ (∀ x3 h1, Q2 x3 h1 →
    ((x3 = (Int32.ofNat 0) →
     Q h1) ∧
    (¬ (x3 = (Int32.ofNat 0)) →
     (am_K h1 a0 = 11 ∧
     (am_K h1 a0 = 11 ∧ ∃ (Q5 : Int32 → am_H → Prop) (X5 : String → am_H → Prop), am_Ct tt 179 [.ref a0] h1 (am_pI Q5 X5) ∧ (∀ x6 h4, Q5 x6 h4 →
      am_Ev tt 184 28 [some (.ref a0), some (.int a1), some (.int a2), some (.int (am_I h1 10 27 a0)), some (.int x6), some (.int (Int32.ofNat 0)), none] [] h4 (am_pV Q Qx)) ∧ (∀ E7 h4, X5 E7 h4 → Qx E7 h4)))))) ∧ (∀ E8 h1, X2 E8 h1 → Qx E8 h1))))) :
  am_Ev tt 184 2 [some (.ref a0), some (.int a1), some (.int a2), none, none, none, none] [] h (am_pV Q Qx) := am_vc 17 [(2, [true, true, true, false, false, false, false]), (28, [true, true, true, true, true, true, false]), (96, [true, true, true, true, true, true, false]), (102, [true, true, true, false, false, false, false])] q
theorem vc_184_28 (tt : Nat → Nat) (a0 : Nat) (a1 : Int32) (a2 : Int32) (a3 : Int32) (a4 : Int32) (a5 : Int32) (h : am_H) (Q : am_H → Prop) (Qx : String → am_H → Prop) (q :
  (((Int32.ofNat 8) ≤ a5 →
   am_Ev tt 184 102 [some (.ref a0), some (.int a1), some (.int a2), none, none, none, none] [] h (am_pV Q Qx)) ∧
  (¬ ((Int32.ofNat 8) ≤ a5) →
   (am_K h a0 = 11 ∧ ∃ (Q2 : Int32 → am_H → Prop) (X2 : String → am_H → Prop), am_Ct tt 176 [.ref a0] h (am_pI Q2 X2) ∧ (∀ x3 h1, Q2 x3 h1 →
    ((x3 = (Int32.ofNat 0) →
     am_Ev tt 184 102 [some (.ref a0), some (.int a1), some (.int a2), none, none, none, none] [] h1 (am_pV Q Qx)) ∧
    (¬ (x3 = (Int32.ofNat 0)) →
     ((¬ ((a4 >>> (((Int32.ofNat 7) - a5) &&& 31)) &&& (Int32.ofNat 1)) = (Int32.ofNat 1) →
      ((a1 ≤ (a2 + a5) →
       (((Int32.ofNat 0) = (Int32.ofNat 0) →
        am_Ev tt 184 96 [some (.ref a0), some (.int a1), some (.int a2), some (.int a3), some (.int a4), some (.int a5), none] [] h1 (am_pV Q Qx)) ∧
       (¬ ((Int32.ofNat 0) = (Int32.ofNat 0)) →
        (am_K h1 a0 = 11 ∧ ∃ (Q5 : am_H → Prop) (X5 : String → am_H → Prop), am_Ct tt 177 [.ref a0, .int (Int32.ofNat 2), .int a3] h1 (am_pV Q5 X5) ∧ (∀ h4, Q5 h4 →
         am_Ev tt 184 96 [some (.ref a0), some (.int a1), some (.int a2), some (.int a3), some (.int a4), some (.int a5), none] [] h4 (am_pV Q Qx)) ∧ (∀ E6 h4, X5 E6 h4 → Qx E6 h4))))) ∧
      (¬ (a1 ≤ (a2 + a5)) →
       (am_K h1 a0 = 11 ∧ ∃ q7, am_R h1 10 26 a0 = some q7 ∧
       (vp_in (a2 + a5) (am_N h1 q7) ∧ ∃ w8, ((am_K h1 q7 = 23 ∧ w8 = ((Int32.ofNat 0)).toInt8.toInt32) ∨ (am_K h1 q7 = 24 ∧ w8 = ((Int32.ofNat 0) &&& 1))) ∧
       am_Ev tt 184 96 [some (.ref a0), some (.int a1), some (.int a2), some (.int a3), some (.int a4), some (.int a5), none] [] (am_sA h1 q7 ((a2 + a5)).toNatClampNeg w8) (am_pV Q Qx)))))) ∧
     (¬ (¬ ((a4 >>> (((Int32.ofNat 7) - a5) &&& 31)) &&& (Int32.ofNat 1)) = (Int32.ofNat 1)) →
      ((a1 ≤ (a2 + a5) →
       (((Int32.ofNat 1) = (Int32.ofNat 0) →
        am_Ev tt 184 96 [some (.ref a0), some (.int a1), some (.int a2), some (.int a3), some (.int a4), some (.int a5), none] [] h1 (am_pV Q Qx)) ∧
       (¬ ((Int32.ofNat 1) = (Int32.ofNat 0)) →
        (am_K h1 a0 = 11 ∧ ∃ (Q10 : am_H → Prop) (X10 : String → am_H → Prop), am_Ct tt 177 [.ref a0, .int (Int32.ofNat 2), .int a3] h1 (am_pV Q10 X10) ∧ (∀ h9, Q10 h9 →
         am_Ev tt 184 96 [some (.ref a0), some (.int a1), some (.int a2), some (.int a3), some (.int a4), some (.int a5), none] [] h9 (am_pV Q Qx)) ∧ (∀ E11 h9, X10 E11 h9 → Qx E11 h9))))) ∧
      (¬ (a1 ≤ (a2 + a5)) →
       (am_K h1 a0 = 11 ∧ ∃ q12, am_R h1 10 26 a0 = some q12 ∧
       (vp_in (a2 + a5) (am_N h1 q12) ∧ ∃ w13, ((am_K h1 q12 = 23 ∧ w13 = ((Int32.ofNat 1)).toInt8.toInt32) ∨ (am_K h1 q12 = 24 ∧ w13 = ((Int32.ofNat 1) &&& 1))) ∧
       am_Ev tt 184 96 [some (.ref a0), some (.int a1), some (.int a2), some (.int a3), some (.int a4), some (.int a5), none] [] (am_sA h1 q12 ((a2 + a5)).toNatClampNeg w13) (am_pV Q Qx)))))))))) ∧ (∀ E14 h1, X2 E14 h1 → Qx E14 h1))))) :
  am_Ev tt 184 28 [some (.ref a0), some (.int a1), some (.int a2), some (.int a3), some (.int a4), some (.int a5), none] [] h (am_pV Q Qx) := am_vc 34 [(2, [true, true, true, false, false, false, false]), (28, [true, true, true, true, true, true, false]), (96, [true, true, true, true, true, true, false]), (102, [true, true, true, false, false, false, false])] q
theorem vc_184_96 (tt : Nat → Nat) (a0 : Nat) (a1 : Int32) (a2 : Int32) (a3 : Int32) (a4 : Int32) (a5 : Int32) (h : am_H) (Q : am_H → Prop) (Qx : String → am_H → Prop) (q :
  am_Ev tt 184 28 [some (.ref a0), some (.int a1), some (.int a2), some (.int a3), some (.int a4), some (.int (a5 + (Int32.ofNat 1))), none] [] h (am_pV Q Qx)) :
  am_Ev tt 184 96 [some (.ref a0), some (.int a1), some (.int a2), some (.int a3), some (.int a4), some (.int a5), none] [] h (am_pV Q Qx) := am_vc 5 [(2, [true, true, true, false, false, false, false]), (28, [true, true, true, true, true, true, false]), (96, [true, true, true, true, true, true, false]), (102, [true, true, true, false, false, false, false])] q
theorem vc_184_102 (tt : Nat → Nat) (a0 : Nat) (a1 : Int32) (a2 : Int32) (h : am_H) (Q : am_H → Prop) (Qx : String → am_H → Prop) (q :
  am_Ev tt 184 2 [some (.ref a0), some (.int a1), some (.int (a2 + (Int32.ofNat 8))), none, none, none, none] [] h (am_pV Q Qx)) :
  am_Ev tt 184 102 [some (.ref a0), some (.int a1), some (.int a2), none, none, none, none] [] h (am_pV Q Qx) := am_vc 5 [(2, [true, true, true, false, false, false, false]), (28, [true, true, true, true, true, true, false]), (96, [true, true, true, true, true, true, false]), (102, [true, true, true, false, false, false, false])] q

section MRW
variable {tt : Nat → Nat} {F : Fn} {n m : Nat} {ad : Nat → Nat} {h h' h'' k k' : am_H} {s : Ms} {X Y X' Y' : Nat → Prop}
abbrev X26 (k : Nat) : Prop := k = 26
theorem bt_q {F : Fn} {p q j : Nat} (hj : j < 8) : bt F p (8 * q + j) = decide (((F (p + q) &&& Int32.ofNat 255) >>> ((Int32.ofNat 7 - Int32.ofNat j) &&& 31)) &&& Int32.ofNat 1 = Int32.ofNat 1) := by
  unfold bt
  rw [qi_sub (by omega), show (8 * q + j) / 8 = q by omega, show (8 * q + j) % 8 = j by omega]
theorem ct_rrow (y : MY F n h m ad s) {w : Nat} (hw : w ≤ 24) {r : Except pe ((Nat → Bool) × Nat)} (hr : r = bs s fun p => tR F n p w) : am_Ct tt 184 [.ref m, .int (Int32.ofNat w)] h (am_pV (fun k => MY F n k m ad (st r) ∧ mg m ad X26 Yq h k ∧ ∀ g p', r = .ok (g, p') → ∀ j, j < w → am_A k (ad 26) j = b01 (g j)) no_x) := by
  have n5 := y.2.2.1
  have bad : ∀ (e : pe) (b : Nat) (k : am_H), b ≤ 32 → MY F n k m ad (.error e) → mg m ad X26 Yq h k → r = .error e → am_Ev tt 184 2 [some (.ref m), some (.int (Int32.ofNat w)), some (.int (Int32.ofNat b)), none, none, none, none] [] k (am_pV (fun k => MY F n k m ad (st r) ∧ mg m ad X26 Yq h k ∧ ∀ g p', r = .ok (g, p') → ∀ j, j < w → am_A k (ad 26) j = b01 (g j)) no_x) := by
    intro e b k hb y2 g er
    have k2 := y2.1.1
    refine vc_184_2 tt _ _ _ _ _ _ ⟨fun _ => ?_, fun _ => ⟨k2, _, _, ct_mfine y2, fun w2 k3 e2 => ?_, fun _ _ z => z.elim⟩⟩
    · rw [er]; exact ⟨y2, g, fun a p' z => by cases z⟩
    · obtain ⟨rfl, rfl⟩ := e2
      refine ⟨fun _ => ?_, fun z => absurd rfl z⟩
      rw [er]; exact ⟨y2, g, fun a p' z => by cases z⟩
  have bad28 : ∀ (e : pe) (b j : Nat) (x3 x4 : Int32) (k : am_H), b ≤ 24 → j ≤ 8 → MY F n k m ad (.error e) → mg m ad X26 Yq h k → r = .error e → am_Ev tt 184 28 [some (.ref m), some (.int (Int32.ofNat w)), some (.int (Int32.ofNat b)), some (.int x3), some (.int x4), some (.int (Int32.ofNat j)), none] [] k (am_pV (fun k => MY F n k m ad (st r) ∧ mg m ad X26 Yq h k ∧ ∀ g p', r = .ok (g, p') → ∀ j, j < w → am_A k (ad 26) j = b01 (g j)) no_x) := by
    intro e b j x3 x4 k hb hj y2 g er
    have k2 := y2.1.1
    have nx : am_Ev tt 184 102 [some (.ref m), some (.int (Int32.ofNat w)), some (.int (Int32.ofNat b)), none, none, none, none] [] k (am_pV (fun k => MY F n k m ad (st r) ∧ mg m ad X26 Yq h k ∧ ∀ g p', r = .ok (g, p') → ∀ j, j < w → am_A k (ad 26) j = b01 (g j)) no_x) := by
      refine vc_184_102 tt _ _ _ _ _ _ ?_
      simp (disch := omega) only [qi_lt, qi_le, qi_eq, qi_nn, qi_in, qi_add, qi_l, ql_i, ql_lt, ql_le, ql_eq, ql_add, qc_lt, qc_eq, qc_ge, qc_gt, qc_le]
      exact bad e (b + 8) k (by omega) y2 g er
    refine vc_184_28 tt _ _ _ _ _ _ _ _ _ ⟨fun _ => nx, fun _ => ⟨k2, _, _, ct_mfine y2, fun w2 k3 e2 => ?_, fun _ _ z => z.elim⟩⟩
    obtain ⟨rfl, rfl⟩ := e2
    exact ⟨fun _ => nx, fun z => absurd rfl z⟩
  cases s with
  | error e => exact vc_184_0 tt _ _ h _ _ (bad e 0 h (by omega) y mg.re hr)
  | ok p =>
    have pn := y.2.2.2.2.2 p rfl
    have hr0 : r = tR F n p w := hr
    have key : ∀ (d q : Nat) (k : am_H), d + q = (w + 7) / 8 → MY F n k m ad (.ok (p + q)) → mg m ad X26 Yq h k → (∀ j, j < 8 * q → j < w → am_A k (ad 26) j = b01 (bt F p j)) → (∀ j, j < 8 * q → w ≤ j → bt F p j = false) → am_Ev tt 184 2 [some (.ref m), some (.int (Int32.ofNat w)), some (.int (Int32.ofNat (8 * q))), none, none, none, none] [] k (am_pV (fun k => MY F n k m ad (st r) ∧ mg m ad X26 Yq h k ∧ ∀ g p', r = .ok (g, p') → ∀ j, j < w → am_A k (ad 26) j = b01 (g j)) no_x) := by
      intro d
      induction d with
      | zero =>
        intro q k e y2 g hrow hst
        have pn2 := y2.2.2.2.2.2 _ rfl
        have eq : q = (w + 7) / 8 := by omega
        have er : r = .ok (bt F p, p + q) := by
          rw [hr0, tR, ← eq, if_pos (by omega), if_neg]
          intro ⟨j, j1, j2, j3⟩
          rw [hst j j1 j2] at j3
          cases j3
        refine vc_184_2 tt _ _ _ _ _ _ ?_
        have q1 : w ≤ 8 * q := by omega
        simp (disch := omega) only [q1, qi_lt, qi_le, qi_eq, qi_nn, qi_in, qi_add, qi_l, ql_i, ql_lt, ql_le, ql_eq, ql_add, qc_lt, qc_eq, qc_ge, qc_gt, qc_le, true_and, and_true, and_self, true_or, or_true, false_or, or_false, false_and, and_false, not_true_eq_false, not_false_eq_true, Classical.not_not, true_implies, false_implies, implies_true, exists_eq_left, exists_eq_left', Option.some.injEq, reduceIte, Nat.reduceEqDiff, Nat.reduceLT, Nat.reduceLeDiff, Nat.reduceAdd, Nat.reduceSub, Nat.reduceMul, eq_self, ne_eq, and_imp, forall_const, reduceCtorEq, am_w, List.map_cons, List.map_nil, List.sum_cons, List.sum_nil, Value.category, Nat.zero_le, Nat.le_refl]
        rw [er]
        exact ⟨y2, g, fun a p' z j hj => by cases z; exact hrow j (by omega) hj⟩
      | succ d ih =>
        intro q k e y2 g hrow hst
        have pn2 := y2.2.2.2.2.2 _ rfl
        have k2 := y2.1.1
        have e27 := y2.2.2.2.2.1.2
        refine vc_184_2 tt _ _ _ _ _ _ ?_
        have q1 : ¬ w ≤ 8 * q := by omega
        simp (disch := omega) only [q1, k2, qi_lt, qi_le, qi_eq, qi_nn, qi_in, qi_add, qi_l, ql_i, ql_lt, ql_le, ql_eq, ql_add, qc_lt, qc_eq, qc_ge, qc_gt, qc_le, true_and, and_true, and_self, true_or, or_true, false_or, or_false, false_and, and_false, not_true_eq_false, not_false_eq_true, Classical.not_not, true_implies, false_implies, implies_true, exists_eq_left, exists_eq_left', Option.some.injEq, reduceIte, Nat.reduceEqDiff, Nat.reduceLT, Nat.reduceLeDiff, Nat.reduceAdd, Nat.reduceSub, Nat.reduceMul, eq_self, ne_eq, and_imp, forall_const, reduceCtorEq, am_w, List.map_cons, List.map_nil, List.sum_cons, List.sum_nil, Value.category, Nat.zero_le, Nat.le_refl]
        refine ⟨_, _, ct_mfine y2, fun w2 k3 e2 => ?_, fun _ _ z => z.elim⟩
        obtain ⟨rfl, rfl⟩ := e2
        refine ⟨fun z => absurd z (show ¬ Int32.ofNat 1 = Int32.ofNat 0 by decide), fun _ => ⟨k2, k2, _, _, ct_mtake y2 rfl, fun x k4 e4 => ?_, fun _ _ z => z.elim⟩⟩
        obtain ⟨y4, g4, v4⟩ := e4
        rw [e27]
        have g4' : mg m ad X26 Yq h k4 := g.tr (g4.mo (fun _ z => z.elim) (fun _ z => z))
        by_cases c : p + q < n
        · have et : bs (Except.ok (p + q) : Ms) (tB F n) = .ok (F (p + q) &&& Int32.ofNat 255, p + q + 1) := by show tB F n (p + q) = _; rw [tB, if_pos c]
          rw [et] at y4 v4
          have ex := v4 _ _ rfl
          have ea4 : am_A k4 (ad 26) = am_A k3 (ad 26) := (g4.2.1 26 (fun z => z)).1
          have l28 : ∀ (d' j : Nat) (k5 : am_H), d' + j = 8 → MY F n k5 m ad (.ok (p + q + 1)) → mg m ad X26 Yq h k5 → (∀ i, i < 8 * q + j → i < w → am_A k5 (ad 26) i = b01 (bt F p i)) → (∀ i, i < 8 * q + j → w ≤ i → bt F p i = false) → am_Ev tt 184 28 [some (.ref m), some (.int (Int32.ofNat w)), some (.int (Int32.ofNat (8 * q))), some (.int (Int32.ofNat (p + q))), some (.int x), some (.int (Int32.ofNat j)), none] [] k5 (am_pV (fun k => MY F n k m ad (st r) ∧ mg m ad X26 Yq h k ∧ ∀ g p', r = .ok (g, p') → ∀ j, j < w → am_A k (ad 26) j = b01 (g j)) no_x) := by
            intro d'
            induction d' with
            | zero =>
              intro j k5 e5 y5 g5 hr5 hs5
              have : j = 8 := by omega
              subst this
              refine vc_184_28 tt _ _ _ _ _ _ _ _ _ ⟨fun _ => ?_, fun z => absurd (Int32.le_refl _) z⟩
              refine vc_184_102 tt _ _ _ _ _ _ ?_
              simp (disch := omega) only [qi_lt, qi_le, qi_eq, qi_nn, qi_in, qi_add, qi_l, ql_i, ql_lt, ql_le, ql_eq, ql_add, qc_lt, qc_eq, qc_ge, qc_gt, qc_le]
              have := ih (q + 1) k5 (by omega) y5 g5 (fun i hi => hr5 i (by omega)) (fun i hi => hs5 i (by omega))
              rw [show 8 * (q + 1) = 8 * q + 8 by omega] at this
              exact this
            | succ d' ih' =>
              intro j k5 e5 y5 g5 hr5 hs5
              have k51 := y5.1.1
              have q8 : ¬ 8 ≤ j := by omega
              have bq := bt_q (F := F) (p := p) (q := q) (j := j) (by omega)
              rw [← ex] at bq
              obtain ⟨t1, t2, t3⟩ := md_r y5.1 (k := 26) (by decide) rfl (by decide)
              have nx : ∀ k6, MY F n k6 m ad (.ok (p + q + 1)) → mg m ad X26 Yq h k6 → (∀ i, i < 8 * q + (j + 1) → i < w → am_A k6 (ad 26) i = b01 (bt F p i)) → (∀ i, i < 8 * q + (j + 1) → w ≤ i → bt F p i = false) → am_Ev tt 184 96 [some (.ref m), some (.int (Int32.ofNat w)), some (.int (Int32.ofNat (8 * q))), some (.int (Int32.ofNat (p + q))), some (.int x), some (.int (Int32.ofNat j)), none] [] k6 (am_pV (fun k => MY F n k m ad (st r) ∧ mg m ad X26 Yq h k ∧ ∀ g p', r = .ok (g, p') → ∀ j, j < w → am_A k (ad 26) j = b01 (g j)) no_x) := by
                intro k6 y6 g6 hr6 hs6
                refine vc_184_96 tt _ _ _ _ _ _ _ _ _ ?_
                simp (disch := omega) only [qi_lt, qi_le, qi_eq, qi_nn, qi_in, qi_add, qi_l, ql_i, ql_lt, ql_le, ql_eq, ql_add, qc_lt, qc_eq, qc_ge, qc_gt, qc_le]
                exact ih' (j + 1) k6 (by omega) y6 g6 hr6 hs6
              have put : ∀ v : Bool, bt F p (8 * q + j) = v → 8 * q + j < w → am_Ev tt 184 96 [some (.ref m), some (.int (Int32.ofNat w)), some (.int (Int32.ofNat (8 * q))), some (.int (Int32.ofNat (p + q))), some (.int x), some (.int (Int32.ofNat j)), none] [] (am_sA k5 (ad 26) (8 * q + j) (b01 v)) (am_pV (fun k => MY F n k m ad (st r) ∧ mg m ad X26 Yq h k ∧ ∀ g p', r = .ok (g, p') → ∀ j, j < w → am_A k (ad 26) j = b01 (g j)) no_x) := by
                intro v ev hlt
                have g6 : mg m ad X26 Yq k5 (am_sA k5 (ad 26) (8 * q + j) (b01 v)) := mg.sA y5.1 rfl
                have g6' : mg m ad X26 (fun _ => False) k5 (am_sA k5 (ad 26) (8 * q + j) (b01 v)) := mg.sA y5.1 rfl
                refine nx _ (y5.on g6' (by omega) id id id id) (g5.tr g6) (fun i hi hiw => ?_) (fun i hi hiw => ?_)
                · simp only [am_hs, true_and, and_true, and_self, true_or, or_true, false_or, or_false, false_and, and_false, not_true_eq_false, not_false_eq_true, Classical.not_not, true_implies, false_implies, implies_true, exists_eq_left, exists_eq_left', Option.some.injEq, reduceIte, Nat.reduceEqDiff, Nat.reduceLT, Nat.reduceLeDiff, Nat.reduceAdd, Nat.reduceSub, Nat.reduceMul, eq_self, ne_eq, and_imp, forall_const, reduceCtorEq, am_w, List.map_cons, List.map_nil, List.sum_cons, List.sum_nil, Value.category, Nat.zero_le, Nat.le_refl]
                  by_cases ci : i = 8 * q + j
                  · rw [if_pos ci, ci, ev]
                  · rw [if_neg ci]; exact hr5 i (by omega) hiw
                · by_cases ci : i = 8 * q + j
                  · omega
                  · exact hs5 i (by omega) hiw
              refine vc_184_28 tt _ _ _ _ _ _ _ _ _ ?_
              simp (disch := omega) only [q8, k51, t1, t2, t3, z_1, o_1, qi_lt, qi_le, qi_eq, qi_nn, qi_in, qi_add, qi_l, ql_i, ql_lt, ql_le, ql_eq, ql_add, qc_lt, qc_eq, qc_ge, qc_gt, qc_le, true_and, and_true, and_self, true_or, or_true, false_or, or_false, false_and, and_false, not_true_eq_false, not_false_eq_true, Classical.not_not, true_implies, false_implies, implies_true, exists_eq_left, exists_eq_left', Option.some.injEq, reduceIte, Nat.reduceEqDiff, Nat.reduceLT, Nat.reduceLeDiff, Nat.reduceAdd, Nat.reduceSub, Nat.reduceMul, eq_self, ne_eq, and_imp, forall_const, reduceCtorEq, am_w, List.map_cons, List.map_nil, List.sum_cons, List.sum_nil, Value.category, Nat.zero_le, Nat.le_refl]
              refine ⟨_, _, ct_mfine y5, fun w6 k6 e6 => ?_, fun _ _ z => z.elim⟩
              obtain ⟨rfl, rfl⟩ := e6
              refine ⟨fun z => absurd z (show ¬ Int32.ofNat 1 = Int32.ofNat 0 by decide), fun _ => ?_⟩
              simp (disch := omega) only [k51, t1, t2, t3, z_1, o_1, qi_lt, qi_le, qi_eq, qi_nn, qi_in, qi_add, qi_l, ql_i, ql_lt, ql_le, ql_eq, ql_add, qc_lt, qc_eq, qc_ge, qc_gt, qc_le, true_and, and_true, and_self, true_or, or_true, false_or, or_false, false_and, and_false, not_true_eq_false, not_false_eq_true, Classical.not_not, true_implies, false_implies, implies_true, exists_eq_left, exists_eq_left', Option.some.injEq, reduceIte, Nat.reduceEqDiff, Nat.reduceLT, Nat.reduceLeDiff, Nat.reduceAdd, Nat.reduceSub, Nat.reduceMul, eq_self, ne_eq, and_imp, forall_const, reduceCtorEq, am_w, List.map_cons, List.map_nil, List.sum_cons, List.sum_nil, Value.category, Nat.zero_le, Nat.le_refl]
              refine ⟨fun c1 => ⟨fun c2 => ?_, fun c2 => ⟨by omega, ?_⟩⟩, fun c1 => ⟨fun c2 => ?_, fun c2 => ⟨by omega, ?_⟩⟩⟩
              · have ef : bt F p (8 * q + j) = false := by rw [bq]; exact decide_eq_false c1
                refine nx k6 y5 g5 (fun i hi hiw => hr5 i (by omega) hiw) (fun i hi hiw => ?_)
                by_cases ci : i = 8 * q + j
                · rw [ci]; exact ef
                · exact hs5 i (by omega) hiw
              · exact put false (by rw [bq]; exact decide_eq_false c1) (by omega)
              · have ef : bt F p (8 * q + j) = true := by rw [bq]; exact decide_eq_true c1
                have er : r = .error (2, p + q) := by
                  rw [hr0, tR, if_pos (by omega), if_pos ⟨8 * q + j, by omega, c2, ef⟩, show p + (w + 7) / 8 - 1 = p + q by omega]
                refine ⟨_, _, ct_mfails y5 (f := 2) (pl := p + q) (by omega) (by omega), fun k7 w7 => ?_, fun _ _ z => z.elim⟩
                refine vc_184_96 tt _ _ _ _ _ _ _ _ _ ?_
                simp (disch := omega) only [qi_lt, qi_le, qi_eq, qi_nn, qi_in, qi_add, qi_l, ql_i, ql_lt, ql_le, ql_eq, ql_add, qc_lt, qc_eq, qc_ge, qc_gt, qc_le]
                exact bad28 (2, p + q) (8 * q) (j + 1) _ _ k7 (by omega) (by omega) w7.1 (g5.tr (w7.2.mo (fun _ z => z.elim) (fun _ z => z))) er
              · exact put true (by rw [bq]; exact decide_eq_true c1) (by omega)
          exact l28 8 0 k4 (by omega) y4 g4' (fun i hi hiw => by rw [ea4]; exact hrow i (by omega) hiw) (fun i hi => hst i (by omega))
        · have et : bs (Except.ok (p + q) : Ms) (tB F n) = .error (1, n) := by show tB F n (p + q) = _; rw [tB, if_neg c]
          rw [et] at y4
          exact bad28 (1, n) (8 * q) 0 _ _ k4 (by omega) (by omega) y4 g4' (by rw [hr0, tR, if_neg (by omega)])
    refine vc_184_0 tt _ _ h _ _ ?_
    have := key ((w + 7) / 8) 0 h (by omega) y mg.re (fun j hj => absurd hj (by omega)) (fun j hj => absurd hj (by omega))
    exact this
end MRW
