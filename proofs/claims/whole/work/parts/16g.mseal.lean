/-! deps: 16f -/
/-! ===== the reference's call: seal ===== -/
section MG
variable {tt : Nat → Nat} {P : Nat → Prop} {h h' h'' : am_H} {m : Nat} {ad : Nat → Nat} {S : sS}
theorem in_tape {v : Int64} : (if Int64.ofNat 0 ≤ v ∧ v ≤ Int64.ofNat 5000 then Int32.ofNat 1 else Int32.ofNat 0) = b01 (decide (¬ v < Int64.ofNat 0 ∧ v ≤ Int64.ofNat 5000)) := by
  unfold b01
  simp only [decide_eq_true_iff, Int64.not_lt]
theorem told_5 {f : Nat → Int32} {n : Nat} (hn : n ≤ 5000) : told f n ↔ (¬ lt f 12 8 < Int64.ofNat 0 ∧ lt f 12 8 ≤ Int64.ofNat 5000) ∧ (¬ lt f 20 8 < Int64.ofNat 0 ∧ lt f 20 8 ≤ Int64.ofNat 5000) ∧ Int64.ofNat 32 + lt f 12 8 + lt f 20 8 = Int64.ofNat n := by
  constructor
  · intro t
    obtain ⟨o, z, eo, ez, e⟩ := told_o t hn
    rw [eo, ez]
    simp (disch := omega) only [qi_lt, qi_le, qi_eq, qi_nn, qi_in, qi_add, qi_l, ql_i, ql_lt, ql_le, ql_eq, ql_add, qc_lt, qc_eq, qc_ge, qc_gt, qc_le]
    omega
  · intro ⟨⟨a1, a2⟩, ⟨b1, b2⟩, c⟩
    obtain ⟨o, ho, eo⟩ := ql_ge0 _ a1
    obtain ⟨z, hz, ez⟩ := ql_ge0 _ b1
    unfold told
    rw [eo] at a2 c
    rw [ez] at b2 c
    rw [eo, ez]
    simp (disch := omega) only [qi_lt, qi_le, qi_eq, qi_nn, qi_in, qi_add, qi_l, ql_i, ql_lt, ql_le, ql_eq, ql_add, qc_lt, qc_eq, qc_ge, qc_gt, qc_le] at a2 b2
    simp (disch := omega) only [qi_lt, qi_le, qi_eq, qi_nn, qi_in, qi_add, qi_l, ql_i, ql_lt, ql_le, ql_eq, ql_add, qc_lt, qc_eq, qc_ge, qc_gt, qc_le] at c ⊢
    omega
theorem ct_isMeasured (s : md_s h m ad) {n : Nat} (hn : n ≤ 5000) (h19 : am_I h 10 19 m = Int32.ofNat n) : am_Ct tt 155 [.ref m] h (am_pI (fun r h' => h' = h ∧ (r = Int32.ofNat 1 ∧ told (am_A h (ad 18)) n ∨ r = Int32.ofNat 0 ∧ ¬ told (am_A h (ad 18)) n)) no_x) := by
  refine vc_155_0 tt _ h _ _ ⟨s.1, _, _, ct_little s (by omega) (by omega), fun x k e => ?_, fun _ _ z => z⟩
  obtain ⟨ek, e⟩ := e
  subst k e
  refine ⟨s.1, _, _, ct_little s (by omega) (by omega), fun x k e => ?_, fun _ _ z => z⟩
  obtain ⟨ek, e⟩ := e
  subst k e
  refine ⟨_, _, ct_in, fun r k e => ?_, fun _ _ z => z⟩
  obtain ⟨ek, e⟩ := e
  subst k e
  rw [told_5 hn, in_tape]
  have o1 : Int32.ofNat 1 = Int32.ofNat 0 ∨ Int32.ofNat 1 = Int32.ofNat 1 := Or.inr rfl
  have o0 : Int32.ofNat 0 = Int32.ofNat 0 ∨ Int32.ofNat 0 = Int32.ofNat 1 := Or.inl rfl
  refine ⟨fun w => ⟨o0, rfl, Or.inr ⟨rfl, fun t => ?_⟩⟩, fun w => ⟨_, _, ct_in, fun r k e => ?_, fun _ _ z => z⟩⟩
  · rw [b01_z, decide_eq_false_iff_not] at w; exact w t.1
  · obtain ⟨ek, e⟩ := e
    subst k e
    rw [in_tape]
    refine ⟨fun w2 => ⟨o0, rfl, Or.inr ⟨rfl, fun t => ?_⟩⟩, fun w2 => ⟨s.1, ?_⟩⟩
    · rw [b01_z, decide_eq_false_iff_not] at w2; exact w2 t.2.1
    · rw [b01_z, Bool.not_eq_false, decide_eq_true_iff] at w w2
      rw [h19, qi_l (by omega), qc_eq]
      exact ⟨fun z => ⟨o0, rfl, Or.inr ⟨rfl, fun t => z t.2.2⟩⟩, fun z => ⟨o1, rfl, Or.inl ⟨rfl, w, w2, Classical.not_not.1 z⟩⟩⟩
theorem ct_mseal (q : RM P h m ad S) (wf : wfS S) {x : Int32} : am_Ct tt 156 [.ref m, .int x] h (am_pI (fun r h' => r = (f_seal S x).1 ∧ okM P h m ad (f_seal S x).2 h') no_x) := by
  have q0 := q.th (Int32.ofNat 0)
  have s := q.1
  have n5 := wf.2.1
  refine vc_156_0 tt _ _ h _ _ ⟨s.1, _, _, ct_inN (n := 2) (by omega) (Or.inr ⟨by omega, rfl⟩), fun r k e => ?_, fun _ _ z => z⟩
  obtain ⟨ek, e⟩ := e
  subst k e
  generalize am_sI h 10 0 m (Int32.ofNat 0) = h1 at q0 ⊢
  have q1 := q0.1
  have s1 := q1.1
  have eA : ∀ j, j < S.2.1 → am_A h1 (ad 18) j = S.2.2.1 j := q1.2.2.2.2.2.1
  have n01 : ¬ Int32.ofNat 0 = Int32.ofNat 1 := by decide
  have n10 : ¬ Int32.ofNat 1 = Int32.ofNat 0 := by decide
  -- the tape's bytes changed
  have K18 : ∀ {k : am_H}, md_s k m ad → am_K k (ad 18) = 23 ∧ am_N k (ad 18) = 5000 := fun sk => ⟨(md_r sk (k := 18) (by decide) rfl (by decide)).2.1, (md_r sk (k := 18) (by decide) rfl (by decide)).2.2⟩
  have R18 : ∀ {k : am_H}, md_s k m ad → am_R k 10 18 m = some (ad 18) := fun sk => (md_r sk (k := 18) (by decide) rfl (by decide)).1
  have upS : ∀ {k : am_H} {T' T f : Nat → Int32}, RM P k m ad (put_T S S.2.1 T') → (∀ j, j < S.2.1 → f j = T j) → okM P k m ad (put_T S S.2.1 T) (am_cA k (ad 18) f) := by
    intro k T' T f qk hf
    have sk := qk.1
    have wk : wfS (put_T S S.2.1 S.2.2.1) := wf
    refine RM.mk' (S' := put_T S S.2.1 T) qk mfr.cA qk.2.1 (fun i hi => ?_) (fun b hb => ?_) qk.2.2.2.2.1 (fun j hj => by simp only [am_hs, true_and, and_true, and_self, true_or, or_true, false_or, or_false, false_and, and_false, not_true_eq_false, not_false_eq_true, Classical.not_not, true_implies, false_implies, implies_true, exists_eq_left, exists_eq_left', Option.some.injEq, reduceIte, Nat.reduceEqDiff, Nat.reduceLT, Nat.reduceLeDiff, Nat.reduceAdd, Nat.reduceSub, Nat.reduceMul, eq_self, ne_eq, and_imp, forall_const, reduceCtorEq, am_w, List.map_cons, List.map_nil, List.sum_cons, List.sum_nil, Value.category, Nat.zero_le, Nat.le_refl]; exact hf j hj) qk.2.2.2.2.2.2.1
    · have hi' : i < a_n S.1 := hi
      obtain ⟨w1, w2, w3, w4⟩ := wf.1.2.1 i hi'
      exact (qk.2.2.1 i hi).same w2 w3 (fun t ht => by simp only [am_hs, md_i sk]; rw [if_neg (by omega)]) rfl (fun j hj => by simp only [am_hs, md_i sk, true_and, and_true, and_self, true_or, or_true, false_or, or_false, false_and, and_false, not_true_eq_false, not_false_eq_true, Classical.not_not, true_implies, false_implies, implies_true, exists_eq_left, exists_eq_left', Option.some.injEq, reduceIte, Nat.reduceEqDiff, Nat.reduceLT, Nat.reduceLeDiff, Nat.reduceAdd, Nat.reduceSub, Nat.reduceMul, eq_self, ne_eq, and_imp, forall_const, reduceCtorEq, am_w, List.map_cons, List.map_nil, List.sum_cons, List.sum_nil, Value.category, Nat.zero_le, Nat.le_refl]) (fun j hj => by simp only [am_hs, md_i sk, true_and, and_true, and_self, true_or, or_true, false_or, or_false, false_and, and_false, not_true_eq_false, not_false_eq_true, Classical.not_not, true_implies, false_implies, implies_true, exists_eq_left, exists_eq_left', Option.some.injEq, reduceIte, Nat.reduceEqDiff, Nat.reduceLT, Nat.reduceLeDiff, Nat.reduceAdd, Nat.reduceSub, Nat.reduceMul, eq_self, ne_eq, and_imp, forall_const, reduceCtorEq, am_w, List.map_cons, List.map_nil, List.sum_cons, List.sum_nil, Value.category, Nat.zero_le, Nat.le_refl])
    · exact (qk.2.2.2.1 b hb).same (wf.1.2.2.1 b hb).1 (by simp only [am_hs, md_i sk, true_and, and_true, and_self, true_or, or_true, false_or, or_false, false_and, and_false, not_true_eq_false, not_false_eq_true, Classical.not_not, true_implies, false_implies, implies_true, exists_eq_left, exists_eq_left', Option.some.injEq, reduceIte, Nat.reduceEqDiff, Nat.reduceLT, Nat.reduceLeDiff, Nat.reduceAdd, Nat.reduceSub, Nat.reduceMul, eq_self, ne_eq, and_imp, forall_const, reduceCtorEq, am_w, List.map_cons, List.map_nil, List.sum_cons, List.sum_nil, Value.category, Nat.zero_le, Nat.le_refl]) (by simp only [am_hs, md_i sk, true_and, and_true, and_self, true_or, or_true, false_or, or_false, false_and, and_false, not_true_eq_false, not_false_eq_true, Classical.not_not, true_implies, false_implies, implies_true, exists_eq_left, exists_eq_left', Option.some.injEq, reduceIte, Nat.reduceEqDiff, Nat.reduceLT, Nat.reduceLeDiff, Nat.reduceAdd, Nat.reduceSub, Nat.reduceMul, eq_self, ne_eq, and_imp, forall_const, reduceCtorEq, am_w, List.map_cons, List.map_nil, List.sum_cons, List.sum_nil, Value.category, Nat.zero_le, Nat.le_refl]) (fun j hj => by simp only [am_hs, md_i sk, true_and, and_true, and_self, true_or, or_true, false_or, or_false, false_and, and_false, not_true_eq_false, not_false_eq_true, Classical.not_not, true_implies, false_implies, implies_true, exists_eq_left, exists_eq_left', Option.some.injEq, reduceIte, Nat.reduceEqDiff, Nat.reduceLT, Nat.reduceLeDiff, Nat.reduceAdd, Nat.reduceSub, Nat.reduceMul, eq_self, ne_eq, and_imp, forall_const, reduceCtorEq, am_w, List.map_cons, List.map_nil, List.sum_cons, List.sum_nil, Value.category, Nat.zero_le, Nat.le_refl]) (fun j hj => by simp only [am_hs, md_i sk, true_and, and_true, and_self, true_or, or_true, false_or, or_false, false_and, and_false, not_true_eq_false, not_false_eq_true, Classical.not_not, true_implies, false_implies, implies_true, exists_eq_left, exists_eq_left', Option.some.injEq, reduceIte, Nat.reduceEqDiff, Nat.reduceLT, Nat.reduceLeDiff, Nat.reduceAdd, Nat.reduceSub, Nat.reduceMul, eq_self, ne_eq, and_imp, forall_const, reduceCtorEq, am_w, List.map_cons, List.map_nil, List.sum_cons, List.sum_nil, Value.category, Nat.zero_le, Nat.le_refl])
  -- the head sealed
  have hd : ∀ {k : am_H} {T : Nat → Int32} (Q : Int32 → am_H → Prop), 32 ≤ S.2.1 → RM P k m ad (put_T S S.2.1 T) → (∀ k', okM P k m ad (put_T S S.2.1 (slh T)) k' → Q (Int32.ofNat 1) k') → am_Ev tt 156 79 [some (.ref m), none, none] [] k (am_pI Q no_x) := by
    intro k T Q h32 qk hQ
    have sk := qk.1
    have eK : ∀ j, j < S.2.1 → am_A k (ad 18) j = T j := qk.2.2.2.2.2.1
    refine vc_156_79 tt _ _ _ _ ⟨sk.1, _, R18 sk, _, _, ct_check (K18 sk).1 (by rw [(K18 sk).2]; omega) (by rw [(K18 sk).2]; omega), fun r k' e => ?_, fun _ _ z => z⟩
    obtain ⟨ek, e⟩ := e
    subst k' e
    refine ⟨sk.1, _, _, ct_putLittle sk (by omega) (by omega), fun k' e => ?_, fun _ _ z => z⟩
    subst e
    refine hQ _ (upS qk (fun j hj => ?_))
    rw [ck_fr (f := am_A k (ad 18)) (g := T) (fun j h1 h2 => eK j (by omega))]
    unfold slh lay
    rw [eK j hj]
  have qT : RM P h1 m ad (put_T S S.2.1 S.2.2.1) := q1
  cases ex : ixo 2 x with
  | none =>
    have fE : f_seal S x = (-2, S) := by
      rw [f_seal, if_neg, if_neg]
      · intro w; rw [w, ixo_n (by omega) (by omega)] at ex; cases ex
      · intro w; rw [w, ixo_n (by omega) (by omega)] at ex; cases ex
    rw [fE]
    exact ⟨fun w => absurd rfl w, fun _ => ⟨rfl, q0⟩⟩
  | some b =>
    obtain ⟨hb, rfl⟩ := ixo_o ex
    refine ⟨fun _ => ⟨s1.1, ?_⟩, fun w => absurd (show ¬ b01 true = Int32.ofNat 0 by decide) w⟩
    rw [q1.2.2.2.2.1]
    simp (disch := omega) only [qi_lt, qi_le, qi_eq, qi_nn, qi_in, qi_add, qi_l, ql_i, ql_lt, ql_le, ql_eq, ql_add, qc_lt, qc_eq, qc_ge, qc_gt, qc_le]
    have c2 : b = 0 ∨ b = 1 := by omega
    rcases c2 with rfl | rfl
    · refine ⟨fun z => vc_156_39 tt _ _ _ ?_, fun z => ⟨fun z2 => ?_, fun z2 => by omega⟩⟩
      · rw [f_seal, if_pos rfl, if_pos z]; exact ⟨rfl, q0⟩
      · rw [f_seal, if_pos rfl, if_neg z]
        refine vc_156_42 tt _ _ _ _ _ ⟨fun _ => ?_, fun w => absurd n01 w⟩
        exact hd _ (by omega) qT (fun k' e => ⟨rfl, q0.tr e⟩)
    · rw [f_seal, if_neg n10, if_pos rfl]
      refine ⟨fun z => vc_156_39 tt _ _ _ ?_, fun z => ⟨fun z2 => absurd rfl z2, fun _ => ⟨s1.1, _, _, ct_isMeasured s1 n5 q1.2.2.2.2.1, fun r k e => ?_, fun _ _ z => z⟩⟩⟩
      · rw [if_pos (Or.inl z)]; exact ⟨rfl, q0⟩
      · obtain ⟨ek, e⟩ := e
        subst k
        rw [told_fr eA (by omega)] at e
        rcases e with ⟨e1, e2⟩ | ⟨e1, e2⟩
        · subst e1
          rw [if_neg (fun w => w.elim z (fun w => by rw [toldB_t.2 e2] at w; cases w))]
          refine ⟨fun _ => ?_, fun w => absurd n10 w⟩
          obtain ⟨o, zz, eo, ez, ln⟩ := told_o e2 n5
          have eo' : lt (am_A h1 (ad 18)) 12 8 = Int64.ofNat o := by rw [lt_fr (g := S.2.2.1) (fun j _ h2 => eA j (by omega)), eo]
          have ez' : lt (am_A h1 (ad 18)) 20 8 = Int64.ofNat zz := by rw [lt_fr (g := S.2.2.1) (fun j _ h2 => eA j (by omega)), ez]
          refine vc_156_42 tt _ _ _ _ _ ⟨fun w => absurd rfl w, fun _ => ⟨s1.1, _, _, ct_little s1 (by omega) (by omega), fun r k e => ?_, fun _ _ z => z⟩⟩
          obtain ⟨ek, e⟩ := e
          subst k e
          rw [ez']
          refine ⟨s1.1, _, R18 s1, s1.1, ?_⟩
          rw [q1.2.2.2.2.1, ql_i, qi_sub (by omega)]
          refine ⟨_, _, ct_check (K18 s1).1 (by rw [(K18 s1).2]; omega) (by rw [(K18 s1).2]; omega), fun r k' e => ?_, fun _ _ z => z⟩
          obtain ⟨ek, e⟩ := e
          subst k' e
          refine ⟨s1.1, _, _, ct_putLittle s1 (by omega) (by omega), fun k' e => ?_, fun _ _ z => z⟩
          subst e
          have on : (Int64.ofNat o).toNatClampNeg = o := Int64.toNatClampNeg_ofNat_of_lt (by omega)
          have u := upS (T := slo S.2.2.1 S.2.1) (f := lay (am_A h1 (ad 18)) 28 (ck (am_A h1 (ad 18)) (S.2.1 - zz) zz).toInt64 4) qT (fun j hj => by
            rw [ck_fr (f := am_A h1 (ad 18)) (g := S.2.2.1) (fun j h1 h2 => eA j (by omega))]
            unfold slo lay
            rw [eA j hj, eo, on, show S.2.1 - zz = 32 + o by omega, show S.2.1 - (32 + o) = zz by omega])
          exact hd _ (by omega) u.1 (fun k' e => ⟨rfl, (q0.tr u).tr e⟩)
        · subst e1
          refine ⟨fun w => absurd rfl w, fun _ => vc_156_39 tt _ _ _ ?_⟩
          rw [if_pos (Or.inr (by cases w : toldB S.2.2.1 S.2.1 with
            | false => rfl
            | true => exact absurd (toldB_t.1 w) e2))]
          exact ⟨rfl, q0⟩
end MG
