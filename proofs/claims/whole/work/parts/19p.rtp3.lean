/-! deps: 19o -/
/-! ===== the class reads: the whole tape, from its head on ===== -/
section RT3
variable {tt : Nat → Nat} {h0 h h' h'' : am_H} {cd : Nat → Nat} {bb : Nat → Nat → Nat} {wa wt n p : Nat}
def tlK (F : Fn) (n : Nat) (st : ST) (p : Nat) : Except pe RD := bd (tX F n p 5) fun _ p => bd (pEN F n st.2.2.2.1.1 p) fun en p => bd (pNM F n en.1 p) fun nm p => bd (pVA F n en.1 20 8 p) fun tm p => bd (pVA F n en.1 21 4 p) fun av p => bd (tX F n p 0) fun _ p => bd (tX F n p 0) fun _ p => if p < n then .error (6, p) else .ok (st, en, nm, tm, av)
theorem tt_67 (ci : ci_s cd bb) {r : Except pe RD} {k : am_H} {q o : Nat} (y : CX tt h0 cd bb wa wt n k q) (fk : rf cd Xn Yc h0 k) (v4 : am_I h0 5 1 (cd 32) = Int32.ofNat 0) (v5 : am_I h0 5 7 (cd 32) = Int32.ofNat 0) (v6 : am_I h0 0 1 (cd (c_ar (1 - wa))) = Int32.ofNat 0) (v7 : BG cd wa h0 0) (ho : o ≤ 5000) (hr : r = bd (if 0 < o then pST (FF cd wt h0) n o q else .ok (ST0, q)) (tlK (FF cd wt h0) n)) :
    am_Ev tt 81 67 [some (.ref (cd 30)), none, some (.ref (cd (c_ar (1 - wa)))), some (.long (Int64.ofNat o)), none] [] k (am_pV (fun h' => ∃ rd, r = .ok rd ∧ TD tt h0 cd bb wa wt n h' rd) (ER cd wa h0 r)) := by
  have F := y.f
  have G := y.rd
  refine vc_81_67 tt _ _ _ _ _ _ ?_
  simp (disch := omega) only [G, F, qi_lt, qi_le, qi_eq, qi_nn, qi_in, qi_add, qi_l, ql_i, ql_lt, ql_le, ql_eq, ql_add, qc_lt, qc_eq, qc_ge, qc_gt, qc_le, true_and, and_true, and_self, true_or, or_true, false_or, or_false, false_and, and_false, not_true_eq_false, not_false_eq_true, Classical.not_not, true_implies, false_implies, implies_true, exists_eq_left, exists_eq_left', Option.some.injEq, reduceIte, Nat.reduceEqDiff, Nat.reduceLT, Nat.reduceLeDiff, Nat.reduceAdd, Nat.reduceSub, Nat.reduceMul, eq_self, ne_eq, and_imp, forall_const, reduceCtorEq, am_w, List.map_cons, List.map_nil, List.sum_cons, List.sum_nil, Value.category, Nat.zero_le, Nat.le_refl]
  refine ⟨fun c => ?_, fun c => ?_⟩
  · rw [if_neg (by omega)] at hr
    refine tt_en ci (st := ST0) y fk.cS ⟨?_, by show 0 ≤ 6; omega, fun b hb => absurd hb (Nat.not_lt_zero b), fun b hb => absurd hb (Nat.not_lt_zero b), fun b hb hb6 => ?_⟩ ⟨?_, fun f hf => absurd hf (Nat.not_lt_zero f)⟩ (by show 0 ≤ 24; omega) (fun f hf => absurd hf (Nat.not_lt_zero f)) (fun f hf => absurd hf (Nat.not_lt_zero f)) ?_ hr
    · rw [fk.i ci (by unfold Yc; omega)]; exact v4
    · rw [fk.i ci (by unfold Yc; omega), fk.i ci (by unfold Yc; omega)]; exact v7 b hb hb6
    · rw [fk.i ci (by unfold Yc; omega)]; exact v5
    · rw [fk.i ci (by unfold Yc; omega)]; exact v6
  · rw [if_pos (by omega), pST, bd_as] at hr
    refine (y.x hr fun h2 e2 x2 r2 => ?_).2
    have F2 := x2.f
    have G2 := x2.rd
    have f2 : rf cd Xn Yc h0 h2 := by rw [e2]; exact fk.tr (rf.mv ⟨rfl, rfl, rfl⟩)
    rw [bd_as] at r2
    simp (disch := omega) only [G2, F2, qi_lt, qi_le, qi_eq, qi_nn, qi_in, qi_add, qi_l, ql_i, ql_lt, ql_le, ql_eq, ql_add, qc_lt, qc_eq, qc_ge, qc_gt, qc_le, true_and, and_true, and_self, true_or, or_true, false_or, or_false, false_and, and_false, not_true_eq_false, not_false_eq_true, Classical.not_not, true_implies, false_implies, implies_true, exists_eq_left, exists_eq_left', Option.some.injEq, reduceIte, Nat.reduceEqDiff, Nat.reduceLT, Nat.reduceLeDiff, Nat.reduceAdd, Nat.reduceSub, Nat.reduceMul, eq_self, ne_eq, and_imp, forall_const, reduceCtorEq, am_w, List.map_cons, List.map_nil, List.sum_cons, List.sum_nil, Value.category, Nat.zero_le, Nat.le_refl]
    refine ⟨_, _, ct_takePackedSizes x2 ho rfl, fun h3 w => ?_, fun E h2 w => w.bd r2⟩
    obtain ⟨B, pk, p3, w1, x3, f3, hB, iB, hpk⟩ := w
    rw [bd_ok w1, bd_as] at r2
    obtain ⟨b1, b6, hp1, hsum⟩ := pPS_v w1
    have F3 := x3.f
    have G3 := x3.rd
    have bg3 : BG cd wa h3 0 := fun b hb hb6 => by
      rw [f3.i ci (by unfold Yp; omega), f3.i ci (by unfold Yp; omega), f2.i ci (by unfold Yc; omega), f2.i ci (by unfold Yc; omega)]
      exact v7 b hb hb6
    simp (disch := omega) only [G3, F3, qi_lt, qi_le, qi_eq, qi_nn, qi_in, qi_add, qi_l, ql_i, ql_lt, ql_le, ql_eq, ql_add, qc_lt, qc_eq, qc_ge, qc_gt, qc_le, true_and, and_true, and_self, true_or, or_true, false_or, or_false, false_and, and_false, not_true_eq_false, not_false_eq_true, Classical.not_not, true_implies, false_implies, implies_true, exists_eq_left, exists_eq_left', Option.some.injEq, reduceIte, Nat.reduceEqDiff, Nat.reduceLT, Nat.reduceLeDiff, Nat.reduceAdd, Nat.reduceSub, Nat.reduceMul, eq_self, ne_eq, and_imp, forall_const, reduceCtorEq, am_w, List.map_cons, List.map_nil, List.sum_cons, List.sum_nil, Value.category, Nat.zero_le, Nat.le_refl]
    refine ⟨_, _, ct_takeFolders x3 hB iB hpk bg3 rfl, fun h4 w => ?_, fun E h2 w => w.bd r2⟩
    obtain ⟨fo, g, p4, u1, x4, f4, fs4, bg4, hg4⟩ := w
    rw [bd_ok u1, bd_as] at r2
    obtain ⟨fw, gw⟩ := pFS_v hp1 u1
    have F4 := x4.f
    have G4 := x4.rd
    have iB4 : am_I h4 5 1 (cd 32) = Int32.ofNat B := by rw [f4.i ci (by unfold YF; omega)]; exact iB
    have i74 : am_I h4 5 7 (cd 32) = Int32.ofNat 0 := by rw [f4.i ci (by unfold YF; omega), f3.i ci (by unfold Yp; omega), f2.i ci (by unfold Yc; omega)]; exact v5
    simp (disch := omega) only [G4, F4, qi_lt, qi_le, qi_eq, qi_nn, qi_in, qi_add, qi_l, ql_i, ql_lt, ql_le, ql_eq, ql_add, qc_lt, qc_eq, qc_ge, qc_gt, qc_le, true_and, and_true, and_self, true_or, or_true, false_or, or_false, false_and, and_false, not_true_eq_false, not_false_eq_true, Classical.not_not, true_implies, false_implies, implies_true, exists_eq_left, exists_eq_left', Option.some.injEq, reduceIte, Nat.reduceEqDiff, Nat.reduceLT, Nat.reduceLeDiff, Nat.reduceAdd, Nat.reduceSub, Nat.reduceMul, eq_self, ne_eq, and_imp, forall_const, reduceCtorEq, am_w, List.map_cons, List.map_nil, List.sum_cons, List.sum_nil, Value.category, Nat.zero_le, Nat.le_refl]
    refine ⟨_, _, ct_takeFiles x4 hB iB4 (g := g) (fun b hb => ⟨hg4 b hb, (gw b hb).2.1⟩) i74 rfl, fun h5 w => ?_, fun E h2 w => w.bd r2⟩
    obtain ⟨z, c, p5, t1, x5, f5, fr5, z24, hc5⟩ := w
    rw [bd_ok t1, bd_as] at r2
    obtain ⟨xv, -, -⟩ := pFI_v hB (fun b hb => ⟨(gw b hb).1, (gw b hb).2.1⟩) t1
    have F5 := x5.f
    have G5 := x5.rd
    simp (disch := omega) only [G5, F5, qi_lt, qi_le, qi_eq, qi_nn, qi_in, qi_add, qi_l, ql_i, ql_lt, ql_le, ql_eq, ql_add, qc_lt, qc_eq, qc_ge, qc_gt, qc_le, true_and, and_true, and_self, true_or, or_true, false_or, or_false, false_and, and_false, not_true_eq_false, not_false_eq_true, Classical.not_not, true_implies, false_implies, implies_true, exists_eq_left, exists_eq_left', Option.some.injEq, reduceIte, Nat.reduceEqDiff, Nat.reduceLT, Nat.reduceLeDiff, Nat.reduceAdd, Nat.reduceSub, Nat.reduceMul, eq_self, ne_eq, and_imp, forall_const, reduceCtorEq, am_w, List.map_cons, List.map_nil, List.sum_cons, List.sum_nil, Value.category, Nat.zero_le, Nat.le_refl]
    refine (x5.x r2 fun h6 e6 x6 r6 => ?_).2
    have f6 : rf cd Xn Yc h5 h6 := by rw [e6]; exact rf.mv ⟨rfl, rfl, rfl⟩
    refine tt_en ci (st := (B, pk, fo, z, c)) x6 ?_ ⟨?_, hB, fun b hb => ?_, fun b hb => ?_, fun b hb hb6 => ?_⟩ ⟨?_, fun f hf => ?_⟩ z24 (fun f hf => ?_) (fun f hf => (xv f hf).2) ?_ r6
    · exact f2.cS.tr (f3.pS.tr (f4.fS.tr (f5.iS.tr f6.cS)))
    · rw [f6.i ci (by unfold Yc; omega), f5.i ci (by unfold Yi; omega)]; exact iB4
    · rw [f6.a ci (fun z => z), f5.a ci (by unfold Xl; omega), f4.a ci (by unfold XF; omega)]; exact (hpk b hb).1
    · exact ((fs4 b hb).1.k ci f5 (by unfold Xl c_bi; omega) (by unfold Xl c_bd; omega) (by unfold Yi; omega) (by unfold Yi; omega)).k ci f6 (fun z => z) (fun z => z) (by unfold Yc; omega) (by unfold Yc; omega)
    · rw [f6.i ci (by unfold Yc; omega), f6.i ci (by unfold Yc; omega), f5.i ci (by unfold Yi; omega), f5.i ci (by unfold Yi; omega)]; exact bg4 b hb hb6
    · rw [f6.i ci (by unfold Yc; omega)]; exact fr5.1
    · rw [f6.a ci (fun z => z), f6.a ci (fun z => z)]; exact fr5.2 f hf
    · rw [f6.a ci (fun z => z)]; exact hc5 f hf
    · rw [f6.i ci (by unfold Yc; omega), f5.i ci (by unfold Yi; omega), f4.i ci (by unfold YF c_ar; omega), f3.i ci (by unfold Yp c_ar; omega), f2.i ci (by unfold Yc; omega)]; exact v6
theorem ct_takeTape (s : cl_s h cd bb wa wt) (tk : tk_s tt h) (hT : am_I h 6 1 (cd (c_tp wt)) = Int32.ofNat n) (h5 : n ≤ 5000) (hU : am_U h + 1 ≤ am_LC) (hV : am_V h + 6 ≤ am_LS) {r : Except pe RD} (hr : r = pRD (am_A h (cd (c_tb wt))) n) :
    am_Ct tt 81 [.ref (cd 30), .ref (cd (c_tp wt)), .ref (cd (c_ar (1 - wa)))] h (am_pV (fun h' => ∃ rd, r = .ok rd ∧ TD tt (hB h cd wa wt n) cd bb wa wt n h' rd) (ER cd wa (hB h cd wa wt n) r)) := by
  have x := hB_x (n := n) s tk h5 hU hV
  have ci := s.2.2.1
  obtain ⟨f1, f2, f3, f4, f5, f6, f7, f8, f9⟩ := hB_f (h := h) (cd := cd) (wa := wa) (wt := wt) (n := n)
  obtain ⟨v1, v2, v3, v4, v5, v6, v7, v8⟩ := hB_v (h := h) (wa := wa) (wt := wt) (n := n) ci
  obtain ⟨r1, r2, r3, r4, r5, r6⟩ := s.2.2.2.2.2.2
  have cs : car_s h cd bb (1 - wa) := (s.2.2.2.2.1 _ (by omega)).1
  have hT0 : am_I (hB h cd wa wt n) 6 1 (cd (c_tp wt)) = Int32.ofNat n := by rw [hB_i (fun k z => by unfold YA at z; omega)]; exact hT
  have hF : FF cd wt (hB h cd wa wt n) = am_A h (cd (c_tb wt)) := by show am_A (hB h cd wa wt n) _ = _; rw [f4]
  rw [← hF] at hr
  refine vc_81_0 tt _ _ _ h _ _ ?_
  simp (disch := omega) only [r1, r2, r5, qi_lt, qi_le, qi_eq, qi_nn, qi_in, qi_add, qi_l, ql_i, ql_lt, ql_le, ql_eq, ql_add, qc_lt, qc_eq, qc_ge, qc_gt, qc_le, true_and, and_true, and_self, true_or, or_true, false_or, or_false, false_and, and_false, not_true_eq_false, not_false_eq_true, Classical.not_not, true_implies, false_implies, implies_true, exists_eq_left, exists_eq_left', Option.some.injEq, reduceIte, Nat.reduceEqDiff, Nat.reduceLT, Nat.reduceLeDiff, Nat.reduceAdd, Nat.reduceSub, Nat.reduceMul, eq_self, ne_eq, and_imp, forall_const, reduceCtorEq, am_w, List.map_cons, List.map_nil, List.sum_cons, List.sum_nil, Value.category, Nat.zero_le, Nat.le_refl]
  refine ⟨_, _, ct_cubegin s hT h5, fun k e => ?_, fun _ _ z => z.elim⟩
  obtain ⟨c1, c2, c3, c4, c5, c6, c7, c8, c9⟩ := hc_f (h := h) (cd := cd) (wt := wt) (n := n)
  have sc : cl_s (hc h cd wt n) cd bb wa wt := s.r2 c1 c2 c3 (fun c g a z => c9 c g a (fun w => z w.1))
  rw [← e] at sc
  obtain ⟨k1, k2, k3, k4, k5, k6, k7⟩ := sc.2.2.2.2.2.2
  simp (disch := omega) only [k1, k3, k6, qi_lt, qi_le, qi_eq, qi_nn, qi_in, qi_add, qi_l, ql_i, ql_lt, ql_le, ql_eq, ql_add, qc_lt, qc_eq, qc_ge, qc_gt, qc_le, true_and, and_true, and_self, true_or, or_true, false_or, or_false, false_and, and_false, not_true_eq_false, not_false_eq_true, Classical.not_not, true_implies, false_implies, implies_true, exists_eq_left, exists_eq_left', Option.some.injEq, reduceIte, Nat.reduceEqDiff, Nat.reduceLT, Nat.reduceLeDiff, Nat.reduceAdd, Nat.reduceSub, Nat.reduceMul, eq_self, ne_eq, and_imp, forall_const, reduceCtorEq, am_w, List.map_cons, List.map_nil, List.sum_cons, List.sum_nil, Value.category, Nat.zero_le, Nat.le_refl]
  refine ⟨_, _, ct_stbegin k6, fun k' e' => ?_, fun _ _ z => z.elim⟩
  have sd : cl_s k' cd bb wa wt := by rw [e']; exact sc.t rfl rfl rfl rfl
  have cd' : car_s k' cd bb (1 - wa) := (sd.2.2.2.2.1 _ (by omega)).1
  refine ⟨cd'.1, _, _, ct_aempty cd', fun k2' e2 => ?_, fun _ _ z => z.elim⟩
  have ehB : k2' = hB h cd wa wt n := by rw [e2, e', e]; rfl
  rw [ehB]
  refine ⟨x.rd.1, _, _, ct_takeHead x rf.re hT0 rfl, fun k3' w => ?_, fun E h2 w => w.up (fun e he => by rw [hr, pRD, he])⟩
  obtain ⟨w1, x3, fr3⟩ := w
  rw [pRD, w1] at hr
  have tp := x3.tp hT0
  have n32 : 32 ≤ n := by
    unfold pHD at w1
    split at w1
    · cases w1
    · omega
  have ho : ∃ o, lt (FF cd wt (hB h cd wa wt n)) 12 8 = Int64.ofNat o ∧ 32 + o ≤ n := by
    unfold pHD at w1
    rw [if_neg (by omega)] at w1
    split at w1
    · cases w1
    · split at w1
      · cases w1
      · split at w1
        · cases w1
        · next c =>
          obtain ⟨o, zz, eo, ez, ln⟩ := told_o (toldB_t.1 (by cases z : toldB (FF cd wt (hB h cd wa wt n)) n with
            | true => rfl
            | false => exact absurd z c)) h5
          exact ⟨o, eo, by omega⟩
  obtain ⟨o, ho1, ho2⟩ := ho
  have on : (Int64.ofNat o).toNatClampNeg = o := Int64.toNatClampNeg_ofNat_of_lt (by omega)
  have c20 := ct_littleAt (tt := tt) tp (m := 8) (p := 20) (by omega) (by omega)
  have c12 := ct_littleAt (tt := tt) tp (m := 8) (p := 12) (by omega) (by omega)
  rw [x3.F] at c20 c12
  refine vc_81_24 tt _ _ _ _ _ _ ⟨tp.1.1, _, _, c20, fun v k4 e => ?_, fun _ _ z => z.elim⟩
  obtain ⟨rfl, rfl⟩ := e
  simp (disch := omega) only [qi_lt, qi_le, qi_eq, qi_nn, qi_in, qi_add, qi_l, ql_i, ql_lt, ql_le, ql_eq, ql_add, qc_lt, qc_eq, qc_ge, qc_gt, qc_le, true_and, and_true, and_self, true_or, or_true, false_or, or_false, false_and, and_false, not_true_eq_false, not_false_eq_true, Classical.not_not, true_implies, false_implies, implies_true, exists_eq_left, exists_eq_left', Option.some.injEq, reduceIte, Nat.reduceEqDiff, Nat.reduceLT, Nat.reduceLeDiff, Nat.reduceAdd, Nat.reduceSub, Nat.reduceMul, eq_self, ne_eq, and_imp, forall_const, reduceCtorEq, am_w, List.map_cons, List.map_nil, List.sum_cons, List.sum_nil, Value.category, Nat.zero_le, Nat.le_refl]
  have hr2 : r = if lt (FF cd wt (hB h cd wa wt n)) 20 8 = Int64.ofNat 0 then .ok RD0 else pBY (FF cd wt (hB h cd wa wt n)) n (lt (FF cd wt (hB h cd wa wt n)) 12 8).toNatClampNeg := hr
  refine ⟨fun c => ⟨tp.1.1, _, _, c12, fun v k5 e => ?_, fun _ _ z => z.elim⟩, fun c => ?_⟩
  · obtain ⟨rfl, rfl⟩ := e
    rw [if_neg c] at hr2
    have F3 := x3.f
    have G3 := x3.rd
    rw [ho1, on] at hr2
    rw [show lt (am_A (hB h cd wa wt n) (cd (c_tb wt))) 12 8 = Int64.ofNat o from ho1]
    unfold pBY at hr2
    simp (disch := omega) only [F3, G3, qi_lt, qi_le, qi_eq, qi_nn, qi_in, qi_add, qi_l, ql_i, ql_lt, ql_le, ql_eq, ql_add, qc_lt, qc_eq, qc_ge, qc_gt, qc_le, true_and, and_true, and_self, true_or, or_true, false_or, or_false, false_and, and_false, not_true_eq_false, not_false_eq_true, Classical.not_not, true_implies, false_implies, implies_true, exists_eq_left, exists_eq_left', Option.some.injEq, reduceIte, Nat.reduceEqDiff, Nat.reduceLT, Nat.reduceLeDiff, Nat.reduceAdd, Nat.reduceSub, Nat.reduceMul, eq_self, ne_eq, and_imp, forall_const, reduceCtorEq, am_w, List.map_cons, List.map_nil, List.sum_cons, List.sum_nil, Value.category, Nat.zero_le, Nat.le_refl]
    refine ((x3.mv (q := 32 + o) (by omega)).x hr2 fun h6 e6 x6 r6 => ?_).2
    exact tt_67 ci x6 (by rw [e6]; exact fr3.tr ((rf.mv ⟨rfl, rfl, rfl⟩).tr (rf.mv ⟨rfl, rfl, rfl⟩))) v4 v5 v6 v7 (by omega) r6
  · rw [if_pos c] at hr2
    refine ⟨RD0, hr2, 8, x3, fr3.cS, ⟨?_, by show 0 ≤ 6; omega, fun b hb => absurd hb (Nat.not_lt_zero b), fun b hb => absurd hb (Nat.not_lt_zero b), fun b hb hb6 => ?_⟩, ⟨?_, fun i hi => absurd hi (Nat.not_lt_zero i)⟩, by show 0 ≤ 24; omega, fun i hi => absurd hi (Nat.not_lt_zero i)⟩
    · rw [fr3.i ci (by unfold Yc; omega)]; exact v4
    · rw [fr3.i ci (by unfold Yc; omega), fr3.i ci (by unfold Yc; omega)]; exact v7 b hb hb6
    · rw [fr3.i ci (by unfold Yc; omega)]; exact v6
end RT3
