/-! deps: 17d -/
/-! ===== the class's writer: folders, files ===== -/
section WF
variable {tt : Nat → Nat} {h h' : am_H} {cd : Nat → Nat} {bb : Nat → Nat → Nat} {wa wt : Nat} {a : sA}
theorem mx_2 {n : Nat} (h : n ≤ 3) : (if 1 < n then Int32.ofNat n else Int32.ofNat 1) = Int32.ofNat (if n = 0 then 1 else n) := by
  have := mx_1 h
  simp (disch := omega) only [qi_lt, qi_le, qi_eq, qi_nn, qi_in, qi_add, qi_l, ql_i, ql_lt, ql_le, ql_eq, ql_add, qc_lt, qc_eq, qc_ge, qc_gt, qc_le] at this
  exact this
theorem ct_addFolders (x : WX tt h cd bb wa wt a) (w : wok a) : am_Ct tt 91 [.ref (cd 20)] h (am_pV (fun h' => h' = tw cd wt h ([Int32.ofNat 7, Int32.ofNat 11] ++ (nb (kb a) ++ ([Int32.ofNat 0] ++ (wFo a ++ ([Int32.ofNat 12] ++ (wGi a ++ [Int32.ofNat 0]))))))) no_x) := by
  have hk := kb_le (a := a)
  -- sizes
  have key3 : ∀ (i : Nat), i < 6 → ∀ (d c : Nat) (k : am_H) (l : List Int32) (n : Nat) (Q : am_H → Prop), d + c = n → n ≤ 3 → WX tt k cd bb wa wt a → k = tw cd wt h (l ++ (if 0 < sbo (a_E a) i (a_n a) then (R0 c).flatMap (fun _ => nb (sbo (a_E a) i (a_n a))) else [])) →
      (∀ k', WX tt k' cd bb wa wt a → k' = tw cd wt h (l ++ (if 0 < sbo (a_E a) i (a_n a) then (R0 n).flatMap (fun _ => nb (sbo (a_E a) i (a_n a))) else [])) → am_Ev tt 91 87 [some (.ref (cd 20)), some (.int (Int32.ofNat (i + 1))), none, none, none] [] k' (am_pV Q no_x)) →
      am_Ev tt 91 122 [some (.ref (cd 20)), some (.int (Int32.ofNat i)), some (.int (Int32.ofNat (sbo (a_E a) i (a_n a)))), some (.int (Int32.ofNat n)), some (.int (Int32.ofNat c))] [] k (am_pV Q no_x) := by
    intro i hi d
    have hs := w.2 i hi
    induction d with
    | zero =>
      intro c k l n Q e hn y ek hQ
      have : c = n := by omega
      subst this
      refine vc_91_122 tt _ _ _ _ _ _ _ _ ?_
      simp (disch := omega) only [qi_lt, qi_le, qi_eq, qi_nn, qi_in, qi_add, qi_l, ql_i, ql_lt, ql_le, ql_eq, ql_add, qc_lt, qc_eq, qc_ge, qc_gt, qc_le, true_and, and_true, and_self, true_or, or_true, false_or, or_false, false_and, and_false, not_true_eq_false, not_false_eq_true, Classical.not_not, true_implies, false_implies, implies_true, exists_eq_left, exists_eq_left', Option.some.injEq, reduceIte, Nat.reduceEqDiff, Nat.reduceLT, Nat.reduceLeDiff, Nat.reduceAdd, Nat.reduceSub, Nat.reduceMul, eq_self, ne_eq, and_imp, forall_const, reduceCtorEq, am_w, List.map_cons, List.map_nil, List.sum_cons, List.sum_nil, Value.category, Nat.zero_le, Nat.le_refl]
      exact hQ k y ek
    | succ d ih =>
      intro c k l n Q e hn y ek hQ
      refine vc_91_122 tt _ _ _ _ _ _ _ _ ?_
      simp (disch := omega) only [qi_lt, qi_le, qi_eq, qi_nn, qi_in, qi_add, qi_l, ql_i, ql_lt, ql_le, ql_eq, ql_add, qc_lt, qc_eq, qc_ge, qc_gt, qc_le, true_and, and_true, and_self, true_or, or_true, false_or, or_false, false_and, and_false, not_true_eq_false, not_false_eq_true, Classical.not_not, true_implies, false_implies, implies_true, exists_eq_left, exists_eq_left', Option.some.injEq, reduceIte, Nat.reduceEqDiff, Nat.reduceLT, Nat.reduceLeDiff, Nat.reduceAdd, Nat.reduceSub, Nat.reduceMul, eq_self, ne_eq, and_imp, forall_const, reduceCtorEq, am_w, List.map_cons, List.map_nil, List.sum_cons, List.sum_nil, Value.category, Nat.zero_le, Nat.le_refl]
      refine ⟨fun z => by omega, fun _ => ⟨fun z => hQ k y ?_, fun z => y.n (by omega) rfl fun h2 e2 x2 => ih (c + 1) h2 l n Q (by omega) hn x2 ?_ hQ⟩⟩
      · rw [ek, if_neg (by omega), if_neg (by omega)]
      · rw [e2, ek, tw_a, if_pos (by omega), if_pos (by omega), fm_s, List.append_assoc]
  have key2 : ∀ (d i : Nat) (k : am_H) (l : List Int32), d + i = 6 → WX tt k cd bb wa wt a → k = tw cd wt h (l ++ (R0 i).flatMap (fun b => if 0 < sbo (a_E a) b (a_n a) then (R0 (cno (a_B a b))).flatMap (fun _ => nb (sbo (a_E a) b (a_n a))) else [])) →
      am_Ev tt 91 87 [some (.ref (cd 20)), some (.int (Int32.ofNat i)), none, none, none] [] k (am_pV (fun h' => h' = tw cd wt h (l ++ (wGi a ++ [Int32.ofNat 0]))) no_x) := by
    intro d
    induction d with
    | zero =>
      intro i k l e y ek
      have : i = 6 := by omega
      subst this
      refine vc_91_87 tt _ _ _ _ _ ⟨fun _ => y.b fun h2 e2 x2 => ?_, fun z => absurd (show Int32.ofNat 6 ≤ Int32.ofNat 6 by decide) z⟩
      rw [e2, ek, tw_a, List.append_assoc]; rfl
    | succ d ih =>
      intro i k l e y ek
      have f := y.1.f
      have g := y.1.bk (b := i) (by omega)
      obtain ⟨v1, c, v2, v3, v4, v5⟩ := y.1.2.1.2.2 i (by omega)
      refine vc_91_87 tt _ _ _ _ _ ?_
      simp (disch := omega) only [f, qi_lt, qi_le, qi_eq, qi_nn, qi_in, qi_add, qi_l, ql_i, ql_lt, ql_le, ql_eq, ql_add, qc_lt, qc_eq, qc_ge, qc_gt, qc_le, true_and, and_true, and_self, true_or, or_true, false_or, or_false, false_and, and_false, not_true_eq_false, not_false_eq_true, Classical.not_not, true_implies, false_implies, implies_true, exists_eq_left, exists_eq_left', Option.some.injEq, reduceIte, Nat.reduceEqDiff, Nat.reduceLT, Nat.reduceLeDiff, Nat.reduceAdd, Nat.reduceSub, Nat.reduceMul, eq_self, ne_eq, and_imp, forall_const, reduceCtorEq, am_w, List.map_cons, List.map_nil, List.sum_cons, List.sum_nil, Value.category, Nat.zero_le, Nat.le_refl]
      refine ⟨fun z => by omega, fun _ => ⟨_, _, y.bo (by omega), fun r k' e' => ?_, fun _ _ z => z⟩⟩
      obtain ⟨e1, e2⟩ := e'
      subst e1 e2
      simp (disch := omega) only [f, g, v3, mx_2, am_hs, qi_lt, qi_le, qi_eq, qi_nn, qi_in, qi_add, qi_l, ql_i, ql_lt, ql_le, ql_eq, ql_add, qc_lt, qc_eq, qc_ge, qc_gt, qc_le, true_and, and_true, and_self, true_or, or_true, false_or, or_false, false_and, and_false, not_true_eq_false, not_false_eq_true, Classical.not_not, true_implies, false_implies, implies_true, exists_eq_left, exists_eq_left', Option.some.injEq, reduceIte, Nat.reduceEqDiff, Nat.reduceLT, Nat.reduceLeDiff, Nat.reduceAdd, Nat.reduceSub, Nat.reduceMul, eq_self, ne_eq, and_imp, forall_const, reduceCtorEq, am_w, List.map_cons, List.map_nil, List.sum_cons, List.sum_nil, Value.category, Nat.zero_le, Nat.le_refl]
      refine ⟨by omega, key3 i (by omega) (if c = 0 then 1 else c) 0 k' _ (if c = 0 then 1 else c) _ (by omega) (by split <;> omega) y (by rw [ek]; congr 1; split <;> exact (List.append_nil _).symm) fun k2 y2 e2 => ih (i + 1) k2 l (by omega) y2 ?_⟩
      rw [e2, fm_s, List.append_assoc]
      by_cases z : 0 < sbo (a_E a) i (a_n a)
      · rw [if_pos z, if_pos z, (v5 (wok_kn w z)).1]; rfl
      · rw [if_neg z, if_neg z]
  have key : ∀ (d i : Nat) (k : am_H) (l : List Int32), d + i = 6 → WX tt k cd bb wa wt a → k = tw cd wt h (l ++ (R0 i).flatMap (fun b => if 0 < sbo (a_E a) b (a_n a) then fold (a_B a b) else [])) →
      am_Ev tt 91 40 [some (.ref (cd 20)), some (.int (Int32.ofNat i)), none, none, none] [] k (am_pV (fun h' => h' = tw cd wt h (l ++ (wFo a ++ ([Int32.ofNat 12] ++ (wGi a ++ [Int32.ofNat 0]))))) no_x) := by
    intro d
    induction d with
    | zero =>
      intro i k l e y ek
      have : i = 6 := by omega
      subst this
      refine vc_91_40 tt _ _ _ _ _ ⟨fun _ => y.b fun h2 e2 x2 => ?_, fun z => absurd (show Int32.ofNat 6 ≤ Int32.ofNat 6 by decide) z⟩
      have := key2 6 0 h2 (l ++ (wFo a ++ [Int32.ofNat 12])) (by omega) x2 (by rw [e2, ek, tw_a]; congr 1; simp only [List.append_assoc]; rfl)
      simp only [List.append_assoc] at this ⊢
      exact this
    | succ d ih =>
      intro i k l e y ek
      have f := y.1.f
      have g := y.1.bk (b := i) (by omega)
      have hs := w.2 i (by omega)
      refine vc_91_40 tt _ _ _ _ _ ?_
      simp (disch := omega) only [f, qi_lt, qi_le, qi_eq, qi_nn, qi_in, qi_add, qi_l, ql_i, ql_lt, ql_le, ql_eq, ql_add, qc_lt, qc_eq, qc_ge, qc_gt, qc_le, true_and, and_true, and_self, true_or, or_true, false_or, or_false, false_and, and_false, not_true_eq_false, not_false_eq_true, Classical.not_not, true_implies, false_implies, implies_true, exists_eq_left, exists_eq_left', Option.some.injEq, reduceIte, Nat.reduceEqDiff, Nat.reduceLT, Nat.reduceLeDiff, Nat.reduceAdd, Nat.reduceSub, Nat.reduceMul, eq_self, ne_eq, and_imp, forall_const, reduceCtorEq, am_w, List.map_cons, List.map_nil, List.sum_cons, List.sum_nil, Value.category, Nat.zero_le, Nat.le_refl]
      refine ⟨fun z => by omega, fun _ => ⟨_, _, y.bo (by omega), fun r k' e' => ?_, fun _ _ z => z⟩⟩
      obtain ⟨e1, e2⟩ := e'
      subst e1 e2
      simp (disch := omega) only [f, g, am_hs, qi_lt, qi_le, qi_eq, qi_nn, qi_in, qi_add, qi_l, ql_i, ql_lt, ql_le, ql_eq, ql_add, qc_lt, qc_eq, qc_ge, qc_gt, qc_le, true_and, and_true, and_self, true_or, or_true, false_or, or_false, false_and, and_false, not_true_eq_false, not_false_eq_true, Classical.not_not, true_implies, false_implies, implies_true, exists_eq_left, exists_eq_left', Option.some.injEq, reduceIte, Nat.reduceEqDiff, Nat.reduceLT, Nat.reduceLeDiff, Nat.reduceAdd, Nat.reduceSub, Nat.reduceMul, eq_self, ne_eq, and_imp, forall_const, reduceCtorEq, am_w, List.map_cons, List.map_nil, List.sum_cons, List.sum_nil, Value.category, Nat.zero_le, Nat.le_refl]
      refine ⟨fun z => ih (i + 1) k' l (by omega) y ?_, fun z => ⟨by omega, _, _, ct_addFolder y (by omega) (wok_kn w (by omega)), fun k2 e2 => ih (i + 1) k2 l (by omega) (by rw [e2]; exact y.tl _) ?_, fun _ _ z => z⟩⟩
      · rw [ek, fm_s, if_neg (by omega), List.append_nil]
      · rw [e2, ek, tw_a, fm_s, if_pos (by omega), List.append_assoc]
  refine vc_91_0 tt _ h _ _ (x.b fun h1 e1 x1 => x1.b fun h2 e2 x2 => ?_)
  have f := x2.1.f
  refine ⟨f.1, _, x2.1.2.2.2.2.2.1, f.1, x2.n' (m := kb a) (by omega) (by rw [x2.2.2.2.1, qi_l (by omega)]) fun h3 e3 x3 => x3.b fun h4 e4 x4 => ?_⟩
  have := key 6 0 h4 ([Int32.ofNat 7, Int32.ofNat 11] ++ (nb (kb a) ++ [Int32.ofNat 0])) (by omega) x4 (by rw [e4, e3, e2, e1, tw_a, tw_a, tw_a]; congr 1; simp only [List.append_assoc]; rfl)
  simp only [List.append_assoc] at this ⊢
  exact this
theorem ct_addFiles (x : WX tt h cd bb wa wt a) (w : wok a) : am_Ct tt 94 [.ref (cd 20)] h (am_pV (fun h' => h' = tw cd wt h ([Int32.ofNat 8] ++ ((if kb a < (oK a).length then [Int32.ofNat 13] ++ (wFc a ++ ([Int32.ofNat 9] ++ wFs a)) else []) ++ ([Int32.ofNat 10, Int32.ofNat 1] ++ (wCk a ++ [Int32.ofNat 0]))))) no_x) := by
  have hk := kb_le (a := a)
  have wf := x.1.2.2.1
  have n24 := wf.1
  have hK := oK_le wf
  have key : ∀ (d i : Nat) (k : am_H) (l : List Int32), d + i = (oK a).length → WX tt k cd bb wa wt a → k = tw cd wt h (l ++ (R0 i).flatMap (fun i => (fun i => LB 4 (ck (e_by (a_E a i)) 0 (e_sz (a_E a i))).toInt64) (oo a i))) →
      am_Ev tt 94 47 [some (.ref (cd 20)), some (.int (Int32.ofNat i))] [] k (am_pV (fun h' => h' = tw cd wt h (l ++ (wCk a ++ [Int32.ofNat 0]))) no_x) := by
    intro d
    induction d with
    | zero =>
      intro i k l e y ek
      have f := y.1.f
      have y3 := y.2.2.1
      have : i = (oK a).length := by omega
      subst this
      refine vc_94_47 tt _ _ _ _ _ ⟨f.1, fun _ => y.b fun h2 e2 x2 => ?_, fun z => absurd (show am_I k 8 5 (cd 20) ≤ _ by rw [y3]; simp (disch := omega) only [qi_lt, qi_le, qi_eq, qi_nn, qi_in, qi_add, qi_l, ql_i, ql_lt, ql_le, ql_eq, ql_add, qc_lt, qc_eq, qc_ge, qc_gt, qc_le]; omega) z⟩
      rw [e2, ek, tw_a, List.append_assoc, fm_K (g := fun i => LB 4 (ck (e_by (a_E a i)) 0 (e_sz (a_E a i))).toInt64)]; rfl
    | succ d ih =>
      intro i k l e y ek
      have f := y.1.f
      have y3 := y.2.2.1
      have g := y.en (j := i) (by omega)
      have gN := y.bN (j := i) (by omega)
      have v := y.ev (j := i) (by omega)
      have hp := oo_K (a := a) (j := i) (by omega)
      have hlt := oo_lt wf (j := i) (by omega)
      have w13 := (wf.2.1 _ hlt).2.2.1
      have vb := v.2.2.2.2.2.2.2.2.2.2.2 ((w.1 _ hlt).2 hp)
      have v4 := v.2.2.2.1
      refine vc_94_47 tt _ _ _ _ _ ?_
      simp (disch := omega) only [f, y3, g, v4, qi_lt, qi_le, qi_eq, qi_nn, qi_in, qi_add, qi_l, ql_i, ql_lt, ql_le, ql_eq, ql_add, qc_lt, qc_eq, qc_ge, qc_gt, qc_le, true_and, and_true, and_self, true_or, or_true, false_or, or_false, false_and, and_false, not_true_eq_false, not_false_eq_true, Classical.not_not, true_implies, false_implies, implies_true, exists_eq_left, exists_eq_left', Option.some.injEq, reduceIte, Nat.reduceEqDiff, Nat.reduceLT, Nat.reduceLeDiff, Nat.reduceAdd, Nat.reduceSub, Nat.reduceMul, eq_self, ne_eq, and_imp, forall_const, reduceCtorEq, am_w, List.map_cons, List.map_nil, List.sum_cons, List.sum_nil, Value.category, Nat.zero_le, Nat.le_refl]
      refine ⟨fun z => by omega, fun _ => ⟨by omega, by omega, _, ct_checkOf (p := 0) y.1.2.2.2.1 g.2.2.2.2.2.2 (by omega) vb.1 (by omega), fun r k' e' => ?_⟩⟩
      obtain ⟨e1, e2⟩ := e'
      subst e1 e2
      refine y.l' (m := 4) (by omega) fun h2 e2 x2 => ih (i + 1) h2 l (by omega) x2 ?_
      rw [e2, Nat.sub_zero, ck_fr (f := am_A k' (bb wa (oo a i))) (g := e_by (a_E a (oo a i))) (p := 0) (n := e_sz (a_E a (oo a i))) (fun j _ h2 => vb.2 j (by omega)), ek, tw_a, fm_s, List.append_assoc]
  have x3 := x.2.2.1
  have go : ∀ k l, WX tt k cd bb wa wt a → k = tw cd wt h l → am_K k (cd 20) = 9 ∧ ∃ q4, am_R k 8 3 (cd 20) = some q4 ∧ (am_K k q4 = 7 ∧ ∃ (Q6 : am_H → Prop) (X6 : String → am_H → Prop), am_Ct tt 68 [.ref q4, .int (Int32.ofNat 10)] k (am_pV Q6 X6) ∧ (∀ h5, Q6 h5 → (am_K h5 (cd 20) = 9 ∧ ∃ q7, am_R h5 8 3 (cd 20) = some q7 ∧ (am_K h5 q7 = 7 ∧ ∃ (Q9 : am_H → Prop) (X9 : String → am_H → Prop), am_Ct tt 68 [.ref q7, .int (Int32.ofNat 1)] h5 (am_pV Q9 X9) ∧ (∀ h8, Q9 h8 → am_Ev tt 94 47 [some (.ref (cd 20)), some (.int (Int32.ofNat 0))] [] h8 (am_pV (fun h' => h' = tw cd wt h (l ++ ([Int32.ofNat 10, Int32.ofNat 1] ++ (wCk a ++ [Int32.ofNat 0])))) no_x)) ∧ (∀ E10 h8, X9 E10 h8 → no_x E10 h8)))) ∧ (∀ E11 h5, X6 E11 h5 → no_x E11 h5)) := by
    intro k l y ek
    refine y.b fun h5 e5 x5 => x5.b fun h6 e6 x6 => ?_
    have := key (oK a).length 0 h6 (l ++ [Int32.ofNat 10, Int32.ofNat 1]) (by omega) x6 (by rw [e6, e5, ek, tw_a, tw_a]; congr 1; simp only [List.append_assoc]; rfl)
    simp only [List.append_assoc] at this ⊢
    exact this
  refine vc_94_0 tt _ h _ _ (x.b fun h1 e1 x1 => ?_)
  have f := x1.1.f
  refine ⟨f.1, f.1, fun z => ?_, fun z => ?_⟩
  · rw [x1.2.2.1, x1.2.2.2.1, qi_le (by omega) (by omega)] at z
    have := go h1 _ x1 e1
    rw [if_neg (by omega), List.nil_append]
    exact this
  · rw [x1.2.2.1, x1.2.2.2.1, qi_le (by omega) (by omega)] at z
    refine ⟨f.1, _, _, ct_addFileCounts x1, fun h2 e2 => ?_, fun _ _ z => z⟩
    have x2 : WX tt h2 cd bb wa wt a := by rw [e2]; exact x1.tl _
    refine ⟨x2.1.f.1, _, _, ct_addFileSizes x2, fun h3 e3 => ?_, fun _ _ z => z⟩
    have x3 : WX tt h3 cd bb wa wt a := by rw [e3]; exact x2.tl _
    have := go h3 ([Int32.ofNat 8] ++ ([Int32.ofNat 13] ++ (wFc a ++ ([Int32.ofNat 9] ++ wFs a)))) x3 (by rw [e3, e2, e1, tw_a, tw_a] <;> simp only [List.append_assoc])
    rw [if_pos (by omega)]
    simp only [List.append_assoc] at this ⊢
    exact this
end WF
