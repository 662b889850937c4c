/-! deps: 19n -/
/-! ===== the class reads: behind the streams ===== -/
section RT2
variable {tt : Nat → Nat} {h0 h h' h'' : am_H} {cd : Nat → Nat} {bb : Nat → Nat → Nat} {wa wt n p : Nat}
theorem Yc_S {c g k : Nat} (h : Yc c g k) : YS wa c g k := Or.inl h
theorem Ye_S {c g k : Nat} (h : Ye wa c g k) : YS wa c g k := by unfold Ye at h; unfold YS; omega
theorem Yw_S {c g k : Nat} (h : Yw wa c g k) : YS wa c g k := by unfold Yw at h; unfold YS; omega
theorem Yp_S {c g k : Nat} (h : Yp c g k) : YS wa c g k := by unfold Yp at h; unfold YS; omega
theorem YF_S {c g k : Nat} (h : YF wa c g k) : YS wa c g k := by unfold YF at h; unfold YS; omega
theorem Yi_S {c g k : Nat} (h : Yi c g k) : YS wa c g k := by unfold Yi at h; unfold YS; omega
theorem Xw_A {k : Nat} (h : Xw wa k) : XA wa k := by unfold Xw at h; unfold XA; omega
theorem XF_A {k : Nat} (h : XF wa k) : XA wa k := by unfold XF at h; unfold XA; omega
theorem rf.cS (q : rf cd Xn Yc h h') : rf cd (XA wa) (YS wa) h h' := q.mo (fun _ z => z.elim) (fun _ _ _ z => Yc_S z)
theorem rf.eS (q : rf cd X34 (Ye wa) h h') : rf cd (XA wa) (YS wa) h h' := q.mo (fun _ z => X34_A z) (fun _ _ _ z => Ye_S z)
theorem rf.wS (q : rf cd (Xw wa) (Yw wa) h h') : rf cd (XA wa) (YS wa) h h' := q.mo (fun _ z => Xw_A z) (fun _ _ _ z => Yw_S z)
theorem rf.pS (q : rf cd Xp Yp h h') : rf cd (XA wa) (YS wa) h h' := q.mo (fun _ z => Xp_A z) (fun _ _ _ z => Yp_S z)
theorem rf.fS (q : rf cd (XF wa) (YF wa) h h') : rf cd (XA wa) (YS wa) h h' := q.mo (fun _ z => XF_A z) (fun _ _ _ z => YF_S z)
theorem rf.iS (q : rf cd Xl Yi h h') : rf cd (XA wa) (YS wa) h h' := q.mo (fun _ z => Xl_A z) (fun _ _ _ z => Yi_S z)
theorem bd3 {α β γ : Type} {A : Except pe (α × Nat)} {B : α → Nat → Except pe (β × Nat)} {C : Nat → Except pe (Unit × Nat)} {K : α × β → Nat → Except pe γ} : (bd A fun tm p => bd (B tm p) fun av p => bd (C p) fun _ p => K (tm, av) p) = bd (bd A fun tm p => bd (B tm p) fun av p => bd (C p) fun _ p => .ok ((tm, av), p)) K := by
  rw [bd_as]
  congr 1
  funext tm p
  rw [bd_as]
  congr 1
  funext av p
  rw [bd_as]
  rfl
/-- the folders that stand -/
def MS (cd : Nat → Nat) (wa : Nat) (h : am_H) (st : ST) : Prop := am_I h 5 1 (cd 32) = Int32.ofNat st.1 ∧ st.1 ≤ 6 ∧ (∀ b, b < st.1 → am_A h (cd 42) b = Int32.ofNat (st.2.1 b)) ∧ (∀ b, b < st.1 → FB cd wa h b (st.2.2.1 b)) ∧ BG cd wa h st.1
theorem MS.k {X : Nat → Prop} {Y : Nat → Nat → Nat → Prop} (ci : ci_s cd bb) (q : rf cd X Y h h') {st : ST} (z : MS cd wa h st) (h1 : ¬ X 42) (h2 : ∀ b, ¬ X (c_bi (1 - wa) b) ∧ ¬ X (c_bd (1 - wa) b)) (h3 : ¬ Y 5 1 32) (h4 : ∀ b g, ¬ Y 1 g (c_bk (1 - wa) b)) : MS cd wa h' st := by
  obtain ⟨z1, z2, z3, z4, z5⟩ := z
  refine ⟨by rw [q.i ci h3]; exact z1, z2, fun b hb => by rw [q.a ci h1]; exact z3 b hb, fun b hb => (z4 b hb).k ci q (h2 b).1 (h2 b).2 (h4 b 2) (h4 b 3), fun b h5 h6 => ?_⟩
  rw [q.i ci (h4 b 2), q.i ci (h4 b 3)]
  exact z5 b h5 h6
theorem MS.kc (ci : ci_s cd bb) (q : rf cd Xn Yc h h') {st : ST} (z : MS cd wa h st) : MS cd wa h' st := z.k ci q (fun z => z) (fun b => ⟨fun z => z, fun z => z⟩) (by unfold Yc; omega) (fun b g => by unfold Yc; omega)
theorem MS.ke (ci : ci_s cd bb) (q : rf cd X34 (Ye wa) h h') {st : ST} (z : MS cd wa h st) : MS cd wa h' st := z.k ci q (by unfold X34; omega) (fun b => ⟨by unfold X34 c_bi; omega, by unfold X34 c_bd; omega⟩) (by unfold Ye; omega) (fun b g => by unfold Ye; omega)
theorem MS.kw (ci : ci_s cd bb) (q : rf cd (Xw wa) (Yw wa) h h') {st : ST} (z : MS cd wa h st) : MS cd wa h' st := z.k ci q (by unfold Xw; omega) (fun b => ⟨by unfold Xw c_bi; omega, by unfold Xw c_bd; omega⟩) (by unfold Yw; omega) (fun b g => by unfold Yw; omega)
theorem DA.kc (ci : ci_s cd bb) (q : rf cd Xn Yc h h') {N : Nat} {V : Nat → sE} {T : Nat → Int32} (z : DA cd wa h N V T) : DA cd wa h' N V T := z.k ci q (by unfold Yc; omega) (fun i hi z => z) (fun i g hi => by unfold Yc; omega)
/-- all is read -/
def TD (tt : Nat → Nat) (h0 : am_H) (cd : Nat → Nat) (bb : Nat → Nat → Nat) (wa wt n : Nat) (h : am_H) (r : RD) : Prop := ∃ p, CX tt h0 cd bb wa wt n h p ∧ rf cd (XA wa) (YS wa) h0 h ∧ MS cd wa h r.1 ∧ DA cd wa h r.2.1.1 (dE r.1.2.2.2.1 r.2.1.2.1 r.2.1.2.2.1 r.2.1.2.2.2 r.2.2.1.1 (NMf (FF cd wt h0) r.2.2.1.2) r.2.2.2.1 (fun i => (r.2.2.2.2 i).map Int64.toInt32)) (tC r.1.2.2.2.2 r.2.1.2.1) ∧ r.2.1.1 ≤ 24 ∧ ∀ i, i < r.2.1.1 → r.2.1.2.1 i = false → rk r.2.1.2.1 i < r.1.2.2.2.1.1
theorem tt_en (ci : ci_s cd bb) {r : Except pe RD} {st : ST} {k : am_H} {q : Nat} (y : CX tt h0 cd bb wa wt n k q) (fk : rf cd (XA wa) (YS wa) h0 k) (ms : MS cd wa k st) (fr : FR cd k st.2.2.2.1) (x24 : st.2.2.2.1.1 ≤ 24) (hck : ∀ f, f < st.2.2.2.1.1 → am_A k (cd 50) f = (st.2.2.2.2 f).toInt32) (hs : ∀ f, f < st.2.2.2.1.1 → 1 ≤ st.2.2.2.1.2.2 f ∧ st.2.2.2.1.2.2 f ≤ 2400) (hz : am_I k 0 1 (cd (c_ar (1 - wa))) = Int32.ofNat 0) (hr : r = bd (tX (FF cd wt h0) n q 5) fun _ p => bd (pEN (FF cd wt h0) n st.2.2.2.1.1 p) fun en p => bd (pNM (FF cd wt h0) n en.1 p) fun nm p => bd (pVA (FF cd wt h0) n en.1 20 8 p) fun tm p => bd (pVA (FF cd wt h0) n en.1 21 4 p) fun av p => bd (tX (FF cd wt h0) n p 0) fun _ p => bd (tX (FF cd wt h0) n p 0) fun _ p => if p < n then .error (6, p) else .ok (st, en, nm, tm, av)) :
    am_Ev tt 81 112 [some (.ref (cd 30)), none, some (.ref (cd (c_ar (1 - wa)))), none, none] [] k (am_pV (fun h' => ∃ rd, r = .ok rd ∧ TD tt h0 cd bb wa wt n h' rd) (ER cd wa h0 r)) := by
  have F := y.f
  have G := y.rd
  refine vc_81_112 tt _ _ _ _ _ ?_
  simp (disch := omega) only [G, F, qi_lt, qi_le, qi_eq, qi_nn, qi_in, qi_add, qi_l, ql_i, ql_lt, ql_le, ql_eq, ql_add, qc_lt, qc_eq, qc_ge, qc_gt, qc_le, true_and, and_true, and_self, true_or, or_true, false_or, or_false, false_and, and_false, not_true_eq_false, not_false_eq_true, Classical.not_not, true_implies, false_implies, implies_true, exists_eq_left, exists_eq_left', Option.some.injEq, reduceIte, Nat.reduceEqDiff, Nat.reduceLT, Nat.reduceLeDiff, Nat.reduceAdd, Nat.reduceSub, Nat.reduceMul, eq_self, ne_eq, and_imp, forall_const, reduceCtorEq, am_w, List.map_cons, List.map_nil, List.sum_cons, List.sum_nil, Value.category, Nat.zero_le, Nat.le_refl]
  refine (y.x hr fun h2 e2 x2 r2 => ?_).2
  have F2 := x2.f
  have G2 := x2.rd
  have f2 : rf cd Xn Yc k h2 := by rw [e2]; exact rf.mv ⟨rfl, rfl, rfl⟩
  simp (disch := omega) only [G2, F2, qi_lt, qi_le, qi_eq, qi_nn, qi_in, qi_add, qi_l, ql_i, ql_lt, ql_le, ql_eq, ql_add, qc_lt, qc_eq, qc_ge, qc_gt, qc_le, true_and, and_true, and_self, true_or, or_true, false_or, or_false, false_and, and_false, not_true_eq_false, not_false_eq_true, Classical.not_not, true_implies, false_implies, implies_true, exists_eq_left, exists_eq_left', Option.some.injEq, reduceIte, Nat.reduceEqDiff, Nat.reduceLT, Nat.reduceLeDiff, Nat.reduceAdd, Nat.reduceSub, Nat.reduceMul, eq_self, ne_eq, and_imp, forall_const, reduceCtorEq, am_w, List.map_cons, List.map_nil, List.sum_cons, List.sum_nil, Value.category, Nat.zero_le, Nat.le_refl]
  refine ⟨_, _, ct_takeEntries x2 (z := st.2.2.2.1) ⟨?_, fun f hf => ?_⟩ x24 (c := st.2.2.2.2) (fun f hf => ?_) hs ?_ rfl, fun h3 w => ?_, fun E h2 w => w.bd r2⟩
  · rw [f2.i ci (by unfold Yc; omega)]; exact fr.1
  · rw [f2.a ci (fun z => z), f2.a ci (fun z => z)]; exact fr.2 f hf
  · rw [f2.a ci (fun z => z)]; exact hck f hf
  · rw [f2.i ci (by unfold Yc; omega)]; exact hz
  · obtain ⟨en, p3, w1, x3, f3, da3, n1, n24, hm⟩ := w
    rw [bd_ok w1] at r2
    have F3 := x3.f
    have G3 := x3.rd
    simp (disch := omega) only [G3, F3, qi_lt, qi_le, qi_eq, qi_nn, qi_in, qi_add, qi_l, ql_i, ql_lt, ql_le, ql_eq, ql_add, qc_lt, qc_eq, qc_ge, qc_gt, qc_le, true_and, and_true, and_self, true_or, or_true, false_or, or_false, false_and, and_false, not_true_eq_false, not_false_eq_true, Classical.not_not, true_implies, false_implies, implies_true, exists_eq_left, exists_eq_left', Option.some.injEq, reduceIte, Nat.reduceEqDiff, Nat.reduceLT, Nat.reduceLeDiff, Nat.reduceAdd, Nat.reduceSub, Nat.reduceMul, eq_self, ne_eq, and_imp, forall_const, reduceCtorEq, am_w, List.map_cons, List.map_nil, List.sum_cons, List.sum_nil, Value.category, Nat.zero_le, Nat.le_refl]
    refine ⟨_, _, ct_takeNames x3 n24 da3 rfl, fun h4 w => ?_, fun E h2 w => w.bd r2⟩
    obtain ⟨un, sn, p4, v1, x4, f4, da4⟩ := w
    rw [bd_ok v1] at r2
    have F4 := x4.f
    have G4 := x4.rd
    have r3 := r2.trans (bd3 (K := fun ta p => bd (tX (FF cd wt h0) n p 0) fun _ p => if p < n then .error (6, p) else .ok (st, en, (un, sn), ta.1, ta.2)))
    simp (disch := omega) only [G4, F4, qi_lt, qi_le, qi_eq, qi_nn, qi_in, qi_add, qi_l, ql_i, ql_lt, ql_le, ql_eq, ql_add, qc_lt, qc_eq, qc_ge, qc_gt, qc_le, true_and, and_true, and_self, true_or, or_true, false_or, or_false, false_and, and_false, not_true_eq_false, not_false_eq_true, Classical.not_not, true_implies, false_implies, implies_true, exists_eq_left, exists_eq_left', Option.some.injEq, reduceIte, Nat.reduceEqDiff, Nat.reduceLT, Nat.reduceLeDiff, Nat.reduceAdd, Nat.reduceSub, Nat.reduceMul, eq_self, ne_eq, and_imp, forall_const, reduceCtorEq, am_w, List.map_cons, List.map_nil, List.sum_cons, List.sum_nil, Value.category, Nat.zero_le, Nat.le_refl]
    refine ⟨_, _, ct_takeTimesAndAttributes x4 n1 n24 da4 rfl, fun h5 w => ?_, fun E h2 w => w.bd r3⟩
    obtain ⟨tm, av, p5, u1, x5, f5, da5⟩ := w
    rw [bd_ok u1] at r3
    have F5 := x5.f
    have G5 := x5.rd
    simp (disch := omega) only [G5, F5, qi_lt, qi_le, qi_eq, qi_nn, qi_in, qi_add, qi_l, ql_i, ql_lt, ql_le, ql_eq, ql_add, qc_lt, qc_eq, qc_ge, qc_gt, qc_le, true_and, and_true, and_self, true_or, or_true, false_or, or_false, false_and, and_false, not_true_eq_false, not_false_eq_true, Classical.not_not, true_implies, false_implies, implies_true, exists_eq_left, exists_eq_left', Option.some.injEq, reduceIte, Nat.reduceEqDiff, Nat.reduceLT, Nat.reduceLeDiff, Nat.reduceAdd, Nat.reduceSub, Nat.reduceMul, eq_self, ne_eq, and_imp, forall_const, reduceCtorEq, am_w, List.map_cons, List.map_nil, List.sum_cons, List.sum_nil, Value.category, Nat.zero_le, Nat.le_refl]
    refine (x5.x r3 fun h6 e6 x6 r6 => ?_).2
    have F6 := x6.f
    have G6 := x6.rd
    simp (disch := omega) only [G6, F6, qi_lt, qi_le, qi_eq, qi_nn, qi_in, qi_add, qi_l, ql_i, ql_lt, ql_le, ql_eq, ql_add, qc_lt, qc_eq, qc_ge, qc_gt, qc_le, true_and, and_true, and_self, true_or, or_true, false_or, or_false, false_and, and_false, not_true_eq_false, not_false_eq_true, Classical.not_not, true_implies, false_implies, implies_true, exists_eq_left, exists_eq_left', Option.some.injEq, reduceIte, Nat.reduceEqDiff, Nat.reduceLT, Nat.reduceLeDiff, Nat.reduceAdd, Nat.reduceSub, Nat.reduceMul, eq_self, ne_eq, and_imp, forall_const, reduceCtorEq, am_w, List.map_cons, List.map_nil, List.sum_cons, List.sum_nil, Value.category, Nat.zero_le, Nat.le_refl]
    refine ⟨_, _, ct_needEnd x6.2.2.2.2.2, fun h7 w => ?_, fun E h7 w => ?_⟩
    · obtain ⟨w7, rfl⟩ := w
      rw [if_neg (by omega)] at r6
      have f6 : rf cd Xn Yc h5 h7 := by rw [e6]; exact rf.mv ⟨rfl, rfl, rfl⟩
      have M := ((((ms.kc ci f2).ke ci f3).kw ci f4).ke ci f5).kc ci f6
      have D := da5.kc ci f6
      have FR6 := fk.tr (f2.cS.tr (f3.eS.tr (f4.wS.tr (f5.eS.tr f6.cS))))
      exact ⟨_, r6, p5 + 1, x6, FR6, M, D, n24, hm⟩
    · obtain ⟨w1, w2, w3⟩ := w
      rw [if_pos w1] at r6
      exact x6.er (r0 := r) (fun e he => he) ⟨w2, 6, p5 + 1, p5 + 1, r6, w3⟩
end RT2
