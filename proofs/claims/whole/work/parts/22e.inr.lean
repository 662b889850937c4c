/-! deps: 22d -/
/-! ===== the class's small parts are made ===== -/
/-! 20 yX2_init -/
theorem vc_20_0 (tt : Nat → Nat) (a0 : Nat) (h : am_H) (Q : am_H → Prop) (Qx : String → am_H → Prop) (q :
  (am_w [] ≤ 8 ∧
  am_Ev tt 20 4 [some (.ref a0)] [] h (am_pV Q Qx))) :
  am_Ev tt 20 0 [some (.ref a0)] [] h (am_pV Q Qx) := am_vc 5 [(4, [true])] q
theorem vc_20_4 (tt : Nat → Nat) (a0 : Nat) (h : am_H) (Q : am_H → Prop) (Qx : String → am_H → Prop) (q :
  (¬ (Int32.ofNat 0) < (Int32.ofNat 0) ∧ ((Int32.ofNat 0)).toNatClampNeg ≤ 60000 ∧ am_U h + 1 ≤ am_LC ∧ am_V h + ((Int32.ofNat 0)).toNatClampNeg ≤ am_LS ∧ ∀ q1, am_K h q1 = 0 →
  (am_K (am_nA h q1 23 ((Int32.ofNat 0)).toNatClampNeg) a0 = 3 ∧
  Q (am_sR (am_nA h q1 23 ((Int32.ofNat 0)).toNatClampNeg) 2 0 a0 (some q1))))) :
  am_Ev tt 20 4 [some (.ref a0)] [] h (am_pV Q Qx) := am_vc 7 [(4, [true])] q

/-! 31 yX3_init -/
theorem vc_31_0 (tt : Nat → Nat) (a0 : Nat) (a1 : Nat) (h : am_H) (Q : am_H → Prop) (Qx : String → am_H → Prop) (q :
  (am_w [] ≤ 8 ∧
  am_Ev tt 31 4 [some (.ref a0), some (.ref a1)] [] h (am_pV Q Qx))) :
  am_Ev tt 31 0 [some (.ref a0), some (.ref a1)] [] h (am_pV Q Qx) := am_vc 5 [(4, [true, true]), (12, [true, true])] q
theorem vc_31_4 (tt : Nat → Nat) (a0 : Nat) (a1 : Nat) (h : am_H) (Q : am_H → Prop) (Qx : String → am_H → Prop) (q :
  (¬ (Int32.ofNat 24) < (Int32.ofNat 0) ∧ ((Int32.ofNat 24)).toNatClampNeg ≤ 60000 ∧ am_U h + 1 ≤ am_LC ∧ am_V h + ((Int32.ofNat 24)).toNatClampNeg ≤ am_LS ∧ ∀ q1, am_K h q1 = 0 →
  (am_K (am_nA h q1 24 ((Int32.ofNat 24)).toNatClampNeg) a0 = 4 ∧
  am_Ev tt 31 12 [some (.ref a0), some (.ref a1)] [] (am_sR (am_nA h q1 24 ((Int32.ofNat 24)).toNatClampNeg) 3 1 a0 (some q1)) (am_pV Q Qx)))) :
  am_Ev tt 31 4 [some (.ref a0), some (.ref a1)] [] h (am_pV Q Qx) := am_vc 7 [(4, [true, true]), (12, [true, true])] q
theorem vc_31_12 (tt : Nat → Nat) (a0 : Nat) (a1 : Nat) (h : am_H) (Q : am_H → Prop) (Qx : String → am_H → Prop) (q :
  (am_K h a0 = 4 ∧
  Q (am_sR h 3 0 a0 (some a1)))) :
  am_Ev tt 31 12 [some (.ref a0), some (.ref a1)] [] h (am_pV Q Qx) := am_vc 6 [(4, [true, true]), (12, [true, true])] q

/-! 65 yX6_init -/
theorem vc_65_0 (tt : Nat → Nat) (a0 : Nat) (h : am_H) (Q : am_H → Prop) (Qx : String → am_H → Prop) (q :
  (am_w [] ≤ 8 ∧
  am_Ev tt 65 4 [some (.ref a0)] [] h (am_pV Q Qx))) :
  am_Ev tt 65 0 [some (.ref a0)] [] h (am_pV Q Qx) := am_vc 5 [(4, [true])] q
theorem vc_65_4 (tt : Nat → Nat) (a0 : Nat) (h : am_H) (Q : am_H → Prop) (Qx : String → am_H → Prop) (q :
  (¬ (Int32.ofNat 5000) < (Int32.ofNat 0) ∧ ((Int32.ofNat 5000)).toNatClampNeg ≤ 60000 ∧ am_U h + 1 ≤ am_LC ∧ am_V h + ((Int32.ofNat 5000)).toNatClampNeg ≤ am_LS ∧ ∀ q1, am_K h q1 = 0 →
  (am_K (am_nA h q1 23 ((Int32.ofNat 5000)).toNatClampNeg) a0 = 7 ∧
  Q (am_sR (am_nA h q1 23 ((Int32.ofNat 5000)).toNatClampNeg) 6 0 a0 (some q1))))) :
  am_Ev tt 65 4 [some (.ref a0)] [] h (am_pV Q Qx) := am_vc 7 [(4, [true])] q

/-! 85 yX8_init -/
theorem vc_85_0 (tt : Nat → Nat) (a0 : Nat) (h : am_H) (Q : am_H → Prop) (Qx : String → am_H → Prop) (q :
  (am_w [] ≤ 8 ∧
  am_Ev tt 85 4 [some (.ref a0)] [] h (am_pV Q Qx))) :
  am_Ev tt 85 0 [some (.ref a0)] [] h (am_pV Q Qx) := am_vc 5 [(4, [true]), (13, [true])] q
theorem vc_85_4 (tt : Nat → Nat) (a0 : Nat) (h : am_H) (Q : am_H → Prop) (Qx : String → am_H → Prop) (q :
  (¬ (Int32.ofNat 24) < (Int32.ofNat 0) ∧ ((Int32.ofNat 24)).toNatClampNeg ≤ 60000 ∧ am_U h + 1 ≤ am_LC ∧ am_V h + ((Int32.ofNat 24)).toNatClampNeg ≤ am_LS ∧ ∀ q1, am_K h q1 = 0 →
  (am_K (am_nA h q1 26 ((Int32.ofNat 24)).toNatClampNeg) a0 = 9 ∧
  am_Ev tt 85 13 [some (.ref a0)] [] (am_sR (am_nA h q1 26 ((Int32.ofNat 24)).toNatClampNeg) 8 0 a0 (some q1)) (am_pV Q Qx)))) :
  am_Ev tt 85 4 [some (.ref a0)] [] h (am_pV Q Qx) := am_vc 7 [(4, [true]), (13, [true])] q
theorem vc_85_13 (tt : Nat → Nat) (a0 : Nat) (h : am_H) (Q : am_H → Prop) (Qx : String → am_H → Prop) (q :
  (¬ (Int32.ofNat 24) < (Int32.ofNat 0) ∧ ((Int32.ofNat 24)).toNatClampNeg ≤ 60000 ∧ am_U h + 1 ≤ am_LC ∧ am_V h + ((Int32.ofNat 24)).toNatClampNeg ≤ am_LS ∧ ∀ q1, am_K h q1 = 0 →
  (am_K (am_nA h q1 24 ((Int32.ofNat 24)).toNatClampNeg) a0 = 9 ∧
  Q (am_sR (am_nA h q1 24 ((Int32.ofNat 24)).toNatClampNeg) 8 1 a0 (some q1))))) :
  am_Ev tt 85 13 [some (.ref a0)] [] h (am_pV Q Qx) := am_vc 7 [(4, [true]), (13, [true])] q

section INR
variable {tt : Nat → Nat} {h h' k k' : am_H} {c c' : Nat → Nat} {D : Nat → Prop}
/-- a tape -/
theorem ct_iT {e : Nat} (he : am_K h e = 7) (hU : am_U h + 1 ≤ am_LC) (hV : am_V h + 5000 ≤ am_LS) : am_Ct tt 65 [.ref e] h (am_pV (fun h' => ∃ b, am_K h b = 0 ∧ tp_s h' e b ∧ am_I h' 6 1 e = am_I h 6 1 e ∧ gs (fun a => a = e) h h' ∧ gK h h' ∧ am_U h' = am_U h + 1 ∧ am_V h' = am_V h + 5000) (fun _ _ => False)) := by
  have e0 : am_K h e ≠ 0 := by rw [he]; decide
  refine vc_65_0 tt _ h _ _ ⟨by decide, vc_65_4 tt _ _ _ _ (al_step (X := fun h1 => (∃ b, am_K h b = 0 ∧ tp_s h1 e b ∧ am_I h1 6 1 e = am_I h 6 1 e ∧ gs (fun a => a = e) h h1 ∧ gK h h1 ∧ am_U h1 = am_U h + 1 ∧ am_V h1 = am_V h + 5000)) he (by decide) (by decide) (by omega) (by omega) (fun u h1 l => ?_))⟩
  obtain ⟨l1, l2, l3, l4, l5, l6, l7, l8, l9, l10, l11⟩ := l
  exact ⟨u, l1, ⟨by rw [l9 e e0]; exact he, l5, l2, l3⟩, (l7 6 1).1, l8, l9, l10, l11⟩
/-- the cursor -/
theorem ct_iCu {e : Nat} (he : am_K h e = 3) (hU : am_U h + 1 ≤ am_LC) (hV : am_V h ≤ am_LS) : am_Ct tt 20 [.ref e] h (am_pV (fun h' => am_I h' 2 3 e = am_I h 2 3 e ∧ gs (fun a => a = e) h h' ∧ gK h h' ∧ am_U h' = am_U h + 1 ∧ am_V h' = am_V h) (fun _ _ => False)) := by
  refine vc_20_0 tt _ h _ _ ⟨by decide, vc_20_4 tt _ _ _ _ (al_step (X := fun h1 => (am_I h1 2 3 e = am_I h 2 3 e ∧ gs (fun a => a = e) h h1 ∧ gK h h1 ∧ am_U h1 = am_U h + 1 ∧ am_V h1 = am_V h)) he (by decide) (by decide) (by omega) (by omega) (fun u h1 l => ?_))⟩
  obtain ⟨l1, l2, l3, l4, l5, l6, l7, l8, l9, l10, l11⟩ := l
  exact ⟨(l7 2 3).1, l8, l9, l10, l11⟩
/-- the writer -/
theorem ct_iW {e : Nat} (he : am_K h e = 9) (hU : am_U h + 2 ≤ am_LC) (hV : am_V h + 48 ≤ am_LS) : am_Ct tt 85 [.ref e] h (am_pV (fun h' => ∃ u b, am_K h u = 0 ∧ am_K h b = 0 ∧ u ≠ b ∧ am_R h' 8 0 e = some u ∧ am_K h' u = 26 ∧ am_N h' u = 24 ∧ am_R h' 8 1 e = some b ∧ am_K h' b = 24 ∧ am_N h' b = 24 ∧ gs (fun a => a = e) h h' ∧ gK h h' ∧ am_U h' = am_U h + 2 ∧ am_V h' = am_V h + 48) (fun _ _ => False)) := by
  have e0 : am_K h e ≠ 0 := by rw [he]; decide
  have o0 : OB h h e 8 (fun j => if j = 0 then (26, 24) else (24, 24)) (fun _ => 0) [] 0 0 := OB.re e0
  refine vc_85_0 tt _ h _ _ ⟨by decide, vc_85_4 tt _ _ _ _ (al_step (X := fun h1 => am_Ev tt 85 13 [some (.ref e)] [] h1 (am_pV _ (fun _ _ => False))) he (by decide) (by decide) (by omega) (by omega) (fun u h1 l => ?_))⟩
  obtain ⟨c1, o1⟩ := o0.al l (by decide) rfl (by decide)
  have o1u := o1.2.2.2.2.2.2.2.1
  have o1v := o1.2.2.2.2.2.2.2.2
  refine vc_85_13 tt _ _ _ _ (al_step (X := fun h1 => (∃ u b, am_K h u = 0 ∧ am_K h b = 0 ∧ u ≠ b ∧ am_R h1 8 0 e = some u ∧ am_K h1 u = 26 ∧ am_N h1 u = 24 ∧ am_R h1 8 1 e = some b ∧ am_K h1 b = 24 ∧ am_N h1 b = 24 ∧ gs (fun a => a = e) h h1 ∧ gK h h1 ∧ am_U h1 = am_U h + 2 ∧ am_V h1 = am_V h + 48)) (o1.kk he) (by decide) (by decide) (by omega) (by omega) (fun b h2 l2 => ?_))
  obtain ⟨c2, o2⟩ := o1.al l2 (by decide) rfl (by decide)
  obtain ⟨n1, n2, n3, n4, n5, n6, n7, n8, n9⟩ := o2
  obtain ⟨a1, a2, a3, a4⟩ := n5 0 (by decide)
  obtain ⟨b1, b2, b3, b4⟩ := n5 1 (by decide)
  exact ⟨c2 0, c2 1, (n1.2 0 (by decide)).1, (n1.2 1 (by decide)).1, fun z => absurd (n1.1 0 1 (by decide) (by decide) z) (by decide), a1, a2, a3, b1, b2, b3, n2, n3, n8, n9⟩
/-- the reader of entries -/
theorem ct_iEn {e x : Nat} (he : am_K h e = 4) (hU : am_U h + 1 ≤ am_LC) (hV : am_V h + 24 ≤ am_LS) : am_Ct tt 31 [.ref e, .ref x] h (am_pV (fun h' => ∃ b, am_K h b = 0 ∧ am_R h' 3 0 e = some x ∧ am_R h' 3 1 e = some b ∧ am_K h' b = 24 ∧ am_N h' b = 24 ∧ gs (fun a => a = e) h h' ∧ gK h h' ∧ am_U h' = am_U h + 1 ∧ am_V h' = am_V h + 24) (fun _ _ => False)) := by
  have e0 : am_K h e ≠ 0 := by rw [he]; decide
  refine vc_31_0 tt _ _ h _ _ ⟨by decide, vc_31_4 tt _ _ _ _ _ (al_step (X := fun h1 => am_Ev tt 31 12 [some (.ref e), some (.ref x)] [] h1 (am_pV _ (fun _ _ => False))) he (by decide) (by decide) (by omega) (by omega) (fun u h1 l => ?_))⟩
  obtain ⟨l1, l2, l3, l4, l5, l6, l7, l8, l9, l10, l11⟩ := l
  have q1 : gs (fun a => a = e) h1 (am_sR h1 3 0 e (some x)) := gs.sR rfl
  refine vc_31_12 tt _ _ _ _ _ ⟨by rw [l9 e e0]; exact he, u, l1, by simp only [am_hs, true_and, and_true, and_self, true_or, or_true, false_or, or_false, false_and, and_false, not_true_eq_false, not_false_eq_true, Classical.not_not, true_implies, false_implies, implies_true, exists_eq_left, exists_eq_left', Option.some.injEq, reduceIte, Nat.reduceEqDiff, Nat.reduceLT, Nat.reduceLeDiff, Nat.reduceAdd, Nat.reduceSub, Nat.reduceMul, eq_self, ne_eq, and_imp, forall_const, reduceCtorEq, am_w, List.map_cons, List.map_nil, List.sum_cons, List.sum_nil, Value.category, Nat.zero_le, Nat.le_refl], ?_, l2, l3, l8.tt' l9 q1, l9, l10, l11⟩
  simp only [am_hs, true_and, and_true, and_self, true_or, or_true, false_or, or_false, false_and, and_false, not_true_eq_false, not_false_eq_true, Classical.not_not, true_implies, false_implies, implies_true, exists_eq_left, exists_eq_left', Option.some.injEq, reduceIte, Nat.reduceEqDiff, Nat.reduceLT, Nat.reduceLeDiff, Nat.reduceAdd, Nat.reduceSub, Nat.reduceMul, eq_self, ne_eq, and_imp, forall_const, reduceCtorEq, am_w, List.map_cons, List.map_nil, List.sum_cons, List.sum_nil, Value.category, Nat.zero_le, Nat.le_refl]
  exact l5
/-- the reader of STREAMS -/
theorem ct_iSt {e x : Nat} (he : am_K h e = 6) (hU : am_U h + 12 ≤ am_LC) (hV : am_V h + 114 ≤ am_LS) : am_Ct tt 50 [.ref e, .ref x] h (am_pV (fun h' => ∃ c, NW h h' c (fun j => j < 15 ∧ ¬ (skl.getD j (0, 0)).1 = 0) ∧ am_R h' 5 0 e = some x ∧ (∀ j, j < 15 → ¬ (skl.getD j (0, 0)).1 = 0 → am_R h' 5 j e = some (c j) ∧ am_K h' (c j) = (skl.getD j (0, 0)).1 ∧ am_N h' (c j) = (skl.getD j (0, 0)).2) ∧ gs (fun a => a = e) h h' ∧ gK h h' ∧ am_U h' = am_U h + 12 ∧ am_V h' = am_V h + 114) (fun _ _ => False)) := by
  refine ob_50 he hU hV (fun k c o => ?_)
  have ke := o.kk he
  obtain ⟨n1, n2, n3, n4, n5, n6, n7, n8, n9⟩ := o
  have mem : ∀ j, j < 15 → ¬ (skl.getD j (0, 0)).1 = 0 → j ∈ [14, 13, 12, 11, 10, 9, 8, 6, 5, 4, 3, 2] := by decide
  have q1 : gs (fun a => a = e) k (am_sR k 5 0 e (some x)) := gs.sR rfl
  refine vc_50_96 tt _ _ _ _ _ ⟨ke, c, n1.wk (fun j hj => mem j hj.1 hj.2), by simp only [am_hs, true_and, and_true, and_self, true_or, or_true, false_or, or_false, false_and, and_false, not_true_eq_false, not_false_eq_true, Classical.not_not, true_implies, false_implies, implies_true, exists_eq_left, exists_eq_left', Option.some.injEq, reduceIte, Nat.reduceEqDiff, Nat.reduceLT, Nat.reduceLeDiff, Nat.reduceAdd, Nat.reduceSub, Nat.reduceMul, eq_self, ne_eq, and_imp, forall_const, reduceCtorEq, am_w, List.map_cons, List.map_nil, List.sum_cons, List.sum_nil, Value.category, Nat.zero_le, Nat.le_refl], fun j h1 h2 => ?_, n2.tt' n3 q1, n3, n8, n9⟩
  obtain ⟨a1, a2, a3, a4⟩ := n5 j (mem j h1 h2)
  refine ⟨?_, a2, a3⟩
  have j0 : ¬ j = 0 := fun z => h2 (by rw [z]; rfl)
  simp only [am_hs, j0, true_and, and_true, and_self, true_or, or_true, false_or, or_false, false_and, and_false, not_true_eq_false, not_false_eq_true, Classical.not_not, true_implies, false_implies, implies_true, exists_eq_left, exists_eq_left', Option.some.injEq, reduceIte, Nat.reduceEqDiff, Nat.reduceLT, Nat.reduceLeDiff, Nat.reduceAdd, Nat.reduceSub, Nat.reduceMul, eq_self, ne_eq, and_imp, forall_const, reduceCtorEq, am_w, List.map_cons, List.map_nil, List.sum_cons, List.sum_nil, Value.category, Nat.zero_le, Nat.le_refl]
  exact a1
end INR
