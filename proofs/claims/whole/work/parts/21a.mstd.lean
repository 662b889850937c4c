/-! deps: 20z -/
/-! ===== the reference reads: stand, the whole of it ===== -/
section MTD
variable {tt : Nat → Nat} {F : Fn} {n m : Nat} {ad : Nat → Nat} {h h' h'' k k' k0 k1 : am_H} {X Y X' Y' : Nat → Prop} {rd : RD} {e : Nat} {a2 a3 a4 a5 : Int32}
theorem sd_335 {Q : am_H → Prop} (rv : RV n rd) (rw' : RW F rd) (h5 : n ≤ 5000) (f8 : ∀ j, j < n → by8 (F j) = F j) (he : e < rd.2.1.1) (sm : md_s k m ad) (hA : ∀ j, j < n → am_A k (ad 18) j = F j) (hst : stR m ad rd.1 k) (hen : enR F m ad rd.2 k) (j : sdJ F m ad h rd e k a2 a3 a4 a5) (gF : sdF m ad e k k1) (hV : sdV F ad rd e k1)
    (nx : ∀ k' b2 b3 b4 b5, sdJ F m ad h rd (e + 1) k' b2 b3 b4 b5 → am_Ev tt 202 543 [some (.ref m), none, some (.int b2), some (.int b3), some (.int b4), some (.int b5), some (.int (Int32.ofNat e)), none, none] [] k' (am_pV Q no_x)) :
    am_Ev tt 202 335 [some (.ref m), none, some (.int a2), some (.int a3), some (.int a4), some (.int a5), some (.int (Int32.ofNat e)), none, none] [] k1 (am_pV Q no_x) := by
  have wf := rdA_w (F := F) rv h5
  have e24 : e < 24 := by have := rv.1; omega
  have s1 := gF.1.1.md sm
  have kk1 := s1.1
  have e42 : am_A k1 (ad 42) e = b01 (rd.2.1.2.1 e) := by rw [(gF.1.2.1 42 (by omega)).1]; exact hen.2.1 e he
  obtain ⟨b1, b2, b3⟩ := md_r s1 (k := 42) (by decide) rfl (by decide)
  refine vc_202_335 tt _ _ _ _ _ _ _ _ _ ?_
  simp (disch := omega) only [kk1, b1, b2, b3, e24, e42, qi_lt, qi_le, qi_eq, qi_nn, qi_in, qi_add, qi_l, ql_i, ql_lt, ql_le, ql_eq, ql_add, qc_lt, qc_eq, qc_ge, qc_gt, qc_le, true_and, and_true, and_self, true_or, or_true, false_or, or_false, false_and, and_false, not_true_eq_false, not_false_eq_true, Classical.not_not, true_implies, false_implies, implies_true, exists_eq_left, exists_eq_left', Option.some.injEq, reduceIte, Nat.reduceEqDiff, Nat.reduceLT, Nat.reduceLeDiff, Nat.reduceAdd, Nat.reduceSub, Nat.reduceMul, eq_self, ne_eq, and_imp, forall_const, reduceCtorEq, am_w, List.map_cons, List.map_nil, List.sum_cons, List.sum_nil, Value.category, Nat.zero_le, Nat.le_refl]
  obtain ⟨j1, j2, j3, j4, j5, j6⟩ := j
  have j : sdJ F m ad h rd e k a2 a3 a4 a5 := ⟨j1, j2, j3, j4, j5, j6⟩
  cases hem : rd.2.1.2.1 e with
  | true =>
    refine ⟨fun _ => ?_, fun z => absurd z (show ¬ b01 true = Int32.ofNat 0 by decide)⟩
    have rs : rk rd.2.1.2.1 (e + 1) = rk rd.2.1.2.1 e := by rw [rk, hem]; rfl
    obtain ⟨v1, v2, v3, v4, v5, v6, v7, v8, v9, v10, v11⟩ := hV
    refine nx _ _ _ _ _ (j.up gF.G wf he ?_ (by rw [rs]; exact j5) ?_)
    · rw [rdE_t hem]
      rw [hem] at v1 v6
      refine ⟨?_, v2, v3, v4, v5, ?_, v7, v8, ?_, v10, v11, fun _ i hi => absurd hi (Nat.not_lt_zero i)⟩
      · rw [v1]
        show Int32.ofNat _ = Int32.ofNat (if rd.2.1.2.2.1 (e - rk rd.2.1.2.1 e) = true then 0 else 1)
        cases rd.2.1.2.2.1 (e - rk rd.2.1.2.1 e) with
        | true => rfl
        | false => rfl
      · rw [v6, Bool.true_and]; rfl
      · rw [v9]
        show b01 _ = b01 ((rd.2.2.2.2 e).map Int64.toInt32).isSome
        rw [Option.isSome_map]
    · rw [rs]
      refine ⟨j6.1, fun z => ?_⟩
      obtain ⟨l1, l2, l3, l4⟩ := j6.2 z
      exact ⟨l1, l2, l3, fun i hi => by rw [(gF.1.2.1 21 (by omega)).1]; exact l4 i hi⟩
  | false =>
    refine ⟨fun z => absurd rfl z, fun _ => ?_⟩
    have cf : rk rd.2.1.2.1 e < (xI rd).1 := rv.2.2.2.2.2.2.2.1 e he hem
    have x24 : (xI rd).1 ≤ 24 := rv.2.2.2.1
    have c24 : rk rd.2.1.2.1 e < 24 := by omega
    obtain ⟨hB, z1, z2⟩ := rv_h rv he hem
    have B6 := rv.2.1
    have hst1 : stR m ad rd.1 k1 := hst.mo gF.1 (fun r _ _ => by omega) id id
    have e39 := (hst1.2.2.2.2.1 _ cf).2
    have e39 : am_A k1 (ad 39) (rk rd.2.1.2.1 e) = Int32.ofNat (hmE rd e) := e39
    obtain ⟨c1, c2, c3⟩ := md_r s1 (k := 39) (by decide) rfl (by decide)
    obtain ⟨bb, HMx⟩ := rw'.1
    have HMx : HM (xI rd) bb := HMx
    have xv : xV rd.1.1 (xI rd) := rv.2.2.1
    have hf6 : hmE rd e < 6 := by omega
    obtain ⟨p1, p2, fw, bt, bk⟩ := rv.2.2.2.2.1 (hmE rd e) hB
    have pq : pfr rd.1.2.1 (hmE rd e) + rd.1.2.1 (hmE rd e) ≤ n := by
      have q1 := pfr_s (pk := rd.1.2.1) (hmE rd e)
      have q2 := sm_mo (f := rd.1.2.1) rd.1.1 (hmE rd e + 1) (by omega)
      rw [sm_s, Nat.zero_add] at q2
      have q3 := rv.2.2.2.2.2.1 (by omega)
      omega
    -- a block is unpacked
    have un : bef (xI rd).2.1 (xI rd).2.2 (hmE rd e) (rk rd.2.1.2.1 e) = 0 → am_Ev tt 202 380 [some (.ref m), none, some (.int (Int32.ofNat (pfr rd.1.2.1 (hmE rd e)))), some (.int (Int32.ofNat (rk rd.2.1.2.1 e))), none, none, some (.int (Int32.ofNat e)), some (.int (Int32.ofNat (hmE rd e))), none] [] k1 (am_pV Q no_x) := by
      intro b0
      obtain ⟨r1, r2, r3, r4, r5⟩ := hst1.2.2.1 (hmE rd e) hB
      refine vc_202_380 tt _ _ _ _ _ _ _ _ ⟨kk1, _, _, ct_runpack (ks := (rd.1.2.2.1 (hmE rd e)).2.2.1) (ds := (rd.1.2.2.1 (hmE rd e)).2.2.2.1) s1 hf6 p2 (by omega) fw.1.2.1 (hst1.2.1 _ hB) r3 (fun t ht => ⟨(r5 t ht).1, (r5 t ht).2, ?_⟩), fun k2 w2 => ?_, fun _ _ z => z.elim⟩
      · obtain ⟨w1, w2⟩ := fw.2.1 t ht
        by_cases c : (rd.1.2.2.1 (hmE rd e)).2.2.1 t = Int32.ofNat 1
        · rcases w1 with w | w | w | w | ⟨w, d, w3, w4, w5⟩
          · rw [w] at c; exact absurd c (by decide)
          · rw [w] at c; exact absurd c (by decide)
          · rw [w] at c; exact absurd c (by decide)
          · rw [w] at c; exact absurd c (by decide)
          · exact ⟨d, w3, w5, fun _ => w4⟩
        · exact ⟨0, w2 c, by omega, fun z => absurd z c⟩
      · obtain ⟨g2, w2⟩ := w2
        have hb0 : frm rd e = 0 := b0
        have := sd_394 (k1 := k2) (Q := Q) (tt := tt) rv rw' h5 f8 he hem sm hst j (gF.G.tr (sdG.un g2)) (hV.mo g2 (fun l _ _ => by omega)) (fun t ht => ?_) nx
        · rw [hb0] at this
          exact this
        · rw [w2 t ht]
          refine cous_fr _ _ _ (fun c _ => ⟨rfl, rfl⟩) (fun i hi => ?_) t ht
          show by8 (am_A k1 (ad 18) (pfr rd.1.2.1 (hmE rd e) + i)) = F (pfr rd.1.2.1 (hmE rd e) + i)
          rw [(gF.1.2.1 18 (by omega)).1, hA _ (by omega)]
          exact f8 _ (by omega)
    refine vc_202_345 tt _ _ _ _ _ _ _ _ _ ?_
    rw [j5]
    simp (disch := omega) only [kk1, c1, c2, c3, c24, e39, qi_lt, qi_le, qi_eq, qi_nn, qi_in, qi_add, qi_l, ql_i, ql_lt, ql_le, ql_eq, ql_add, qc_lt, qc_eq, qc_ge, qc_gt, qc_le, true_and, and_true, and_self, true_or, or_true, false_or, or_false, false_and, and_false, not_true_eq_false, not_false_eq_true, Classical.not_not, true_implies, false_implies, implies_true, exists_eq_left, exists_eq_left', Option.some.injEq, reduceIte, Nat.reduceEqDiff, Nat.reduceLT, Nat.reduceLeDiff, Nat.reduceAdd, Nat.reduceSub, Nat.reduceMul, eq_self, ne_eq, and_imp, forall_const, reduceCtorEq, am_w, List.map_cons, List.map_nil, List.sum_cons, List.sum_nil, Value.category, Nat.zero_le, Nat.le_refl]
    by_cases c0 : rk rd.2.1.2.1 e = 0
    · obtain ⟨l1, l2⟩ := j6.1 c0
      rw [l1, l2]
      have h0 : hmE rd e = 0 := by
        show (xI rd).2.1 (rk rd.2.1.2.1 e) = 0
        rw [c0]
        exact HMx.2.1 (by omega)
      have ne : ¬ Int32.ofNat (hmE rd e) = -1 := by rw [qi_m1 (by omega)]; exact id
      refine ⟨fun z => absurd z ne, fun _ => ?_⟩
      refine vc_202_360 tt _ _ _ _ _ _ _ _ _ ⟨fun z => absurd rfl z, fun _ => ?_⟩
      have := un (by rw [c0]; rfl)
      rw [show pfr rd.1.2.1 (hmE rd e) = 32 from by rw [h0]; rfl] at this
      exact this
    · obtain ⟨l1, l2, l3, l4⟩ := j6.2 (by omega)
      rw [l1, l2]
      have hm1 : (xI rd).2.1 (rk rd.2.1.2.1 e - 1) < 6 := by
        have := (xv (rk rd.2.1.2.1 e - 1) (by omega)).1
        omega
      have hst2 := HMx.1 (rk rd.2.1.2.1 e - 1) (by omega)
      rw [show rk rd.2.1.2.1 e - 1 + 1 = rk rd.2.1.2.1 e by omega] at hst2
      have hst2 : hmE rd e = (xI rd).2.1 (rk rd.2.1.2.1 e - 1) ∨ hmE rd e = (xI rd).2.1 (rk rd.2.1.2.1 e - 1) + 1 := hst2
      rw [qi_eq (by omega) (by omega)]
      refine ⟨fun c => ?_, fun c => ?_⟩
      · rw [← c, l3, ← c]
        exact sd_394 (k1 := k1) rv rw' h5 f8 he hem sm hst j gF.G hV (fun t ht => by rw [c, (gF.1.2.1 21 (by omega)).1]; exact l4 t (by rw [← c]; exact ht)) nx
      · have cs : hmE rd e = (xI rd).2.1 (rk rd.2.1.2.1 e - 1) + 1 := by omega
        have ne : ¬ Int32.ofNat ((xI rd).2.1 (rk rd.2.1.2.1 e - 1)) = -1 := by rw [qi_m1 (by omega)]; exact id
        have e31 : am_A k1 (ad 31) ((xI rd).2.1 (rk rd.2.1.2.1 e - 1)) = Int32.ofNat (rd.1.2.1 ((xI rd).2.1 (rk rd.2.1.2.1 e - 1))) := hst1.2.1 _ (by omega)
        obtain ⟨d1, d2, d3⟩ := md_r s1 (k := 31) (by decide) rfl (by decide)
        refine vc_202_360 tt _ _ _ _ _ _ _ _ _ ?_
        simp (disch := omega) only [kk1, d1, d2, d3, ne, hm1, e31, qi_lt, qi_le, qi_eq, qi_nn, qi_in, qi_add, qi_l, ql_i, ql_lt, ql_le, ql_eq, ql_add, qc_lt, qc_eq, qc_ge, qc_gt, qc_le, true_and, and_true, and_self, true_or, or_true, false_or, or_false, false_and, and_false, not_true_eq_false, not_false_eq_true, Classical.not_not, true_implies, false_implies, implies_true, exists_eq_left, exists_eq_left', Option.some.injEq, reduceIte, Nat.reduceEqDiff, Nat.reduceLT, Nat.reduceLeDiff, Nat.reduceAdd, Nat.reduceSub, Nat.reduceMul, eq_self, ne_eq, and_imp, forall_const, reduceCtorEq, am_w, List.map_cons, List.map_nil, List.sum_cons, List.sum_nil, Value.category, Nat.zero_le, Nat.le_refl]
        have := un (bef_z _ (fun f hf z => ?_))
        · rw [cs] at this ⊢
          exact this
        · have := HMx.mo (rk rd.2.1.2.1 e - 1 - f) f (by omega)
          rw [show f + (rk rd.2.1.2.1 e - 1 - f) = rk rd.2.1.2.1 e - 1 by omega] at this
          omega
def sdQ (F : Fn) (m : Nat) (ad : Nat → Nat) (h : am_H) (rd : RD) (k : am_H) : Prop := mg m ad Xsd Ysd h k ∧ am_I k 10 1 m = Int32.ofNat rd.2.1.1 ∧ (∀ b, b < 6 → mb_v k ad b (rdB rd b)) ∧ ∀ i, i < rd.2.1.1 → me_v k ad i (rdE F rd i) (a_kn (rdA F rd) i = true)
theorem ct_rstand (sm : md_s h m ad) (rv : RV n rd) (rw' : RW F rd) (h5 : n ≤ 5000) (f8 : ∀ j, j < n → by8 (F j) = F j) (hA : ∀ j, j < n → am_A h (ad 18) j = F j) (hst : stR m ad rd.1 h) (hen : enR F m ad rd.2 h) : am_Ct tt 202 [.ref m] h (am_pV (sdQ F m ad h rd) no_x) := by
  have key : ∀ (d e : Nat) (k : am_H) (a2 a3 a4 a5 : Int32), d + e = rd.2.1.1 → sdJ F m ad h rd e k a2 a3 a4 a5 → am_Ev tt 202 141 [some (.ref m), none, some (.int a2), some (.int a3), some (.int a4), some (.int a5), some (.int (Int32.ofNat e)), none, none] [] k (am_pV (sdQ F m ad h rd) no_x) := by
    intro d
    induction d with
    | zero =>
      intro e k a2 a3 a4 a5 ee j
      have sk := j.1.1.md sm
      have kk := sk.1
      have e41 : am_I k 10 41 m = Int32.ofNat rd.2.1.1 := by rw [(j.1.2.2 41 (by omega)).1]; exact hen.1
      have q1 : rd.2.1.1 ≤ e := by omega
      have N24 := rv.1
      refine vc_202_141 tt _ _ _ _ _ _ _ _ _ ?_
      simp (disch := omega) only [kk, e41, q1, qi_lt, qi_le, qi_eq, qi_nn, qi_in, qi_add, qi_l, ql_i, ql_lt, ql_le, ql_eq, ql_add, qc_lt, qc_eq, qc_ge, qc_gt, qc_le, true_and, and_true, and_self, true_or, or_true, false_or, or_false, false_and, and_false, not_true_eq_false, not_false_eq_true, Classical.not_not, true_implies, false_implies, implies_true, exists_eq_left, exists_eq_left', Option.some.injEq, reduceIte, Nat.reduceEqDiff, Nat.reduceLT, Nat.reduceLeDiff, Nat.reduceAdd, Nat.reduceSub, Nat.reduceMul, eq_self, ne_eq, and_imp, forall_const, reduceCtorEq, am_w, List.map_cons, List.map_nil, List.sum_cons, List.sum_nil, Value.category, Nat.zero_le, Nat.le_refl]
      exact ⟨j.1, j.2.1, j.2.2.1, fun i hi => j.2.2.2.1 i (by omega)⟩
    | succ d ih =>
      intro e k a2 a3 a4 a5 ee j
      have sk := j.1.1.md sm
      have hst' : stR m ad rd.1 k := hst.mo j.1 (fun r _ _ => by omega) (by omega) (by omega)
      have hen' : enR F m ad rd.2 k := hen.mo j.1 (fun r _ _ => by omega) (by omega)
      have he : e < rd.2.1.1 := by omega
      refine sd_141 he rv.1 (rv.2.2.2.2.2.2.1 e he).1 sk hen' (fun k1 gF hV => ?_)
      refine sd_335 rv rw' h5 f8 he sk (fun i hi => by rw [(j.1.2.1 18 (by omega)).1]; exact hA i hi) hst' hen' j gF hV (fun k2 b2 b3 b4 b5 j2 => ?_)
      refine vc_202_543 tt _ _ _ _ _ _ _ _ _ ?_
      rw [qi_add]
      exact ih (e + 1) k2 b2 b3 b4 b5 (by omega) j2
  refine vc_202_0 tt _ h _ _ ⟨sm.1, _, _, ct_rclear sm, fun v k1 w1 => ?_, fun _ _ z => z.elim⟩
  obtain ⟨g1, c1⟩ := w1
  have s1 := g1.1.md sm
  have hst1 : stR m ad rd.1 k1 := hst.mo g1 (fun r _ _ => by omega) (by omega) (by omega)
  have hen1 : enR F m ad rd.2 k1 := hen.mo g1 (fun r _ _ => by omega) (by omega)
  refine sd_7 (rd := rd) s1 hst1 rv.2.1 (fun b hb => (rv.2.2.2.2.1 b hb).2.2.1.1.2.1) hen1.1 (fun k2 g2 e1 hb => ?_) rd.1.1 0 k1 (by omega) mg.re (fun b hb => absurd hb (Nat.not_lt_zero b)) (fun b _ hb => c1 b hb)
  exact key rd.2.1.1 0 k2 _ _ _ _ (by omega) ⟨(g1.mo (fun _ z => by omega) (fun _ z => z)).tr (g2.mo (fun _ z => by omega) (fun _ z => z)), e1, hb, fun i hi => absurd hi (Nat.not_lt_zero i), rfl, fun _ => ⟨rfl, rfl⟩, fun z => absurd z (Nat.not_lt_zero 0)⟩
end MTD
