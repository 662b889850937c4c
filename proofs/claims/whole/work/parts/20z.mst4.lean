/-! deps: 20y -/
/-! ===== the reference reads: stand ===== -/
section MSX
variable {tt : Nat → Nat} {F : Fn} {n m : Nat} {ad : Nat → Nat} {h h' h'' k k' k0 k1 : am_H} {X Y X' Y' : Nat → Prop} {rd : RD} {e : Nat} {a2 a3 a4 a5 : Int32}
theorem sdV.mo (v : sdV F ad rd e k) (g : mg m ad X Y k k') (h1 : ∀ l, 2 ≤ l → l ≤ 13 → ¬ X l) : sdV F ad rd e k' := by
  obtain ⟨v1, v2, v3, v4, v5, v6, v7, v8, v9, v10, v11⟩ := v
  have t := fun l a b => g.2.1 l (h1 l a b)
  exact ⟨by rw [(t 2 (by omega) (by omega)).1]; exact v1, by rw [(t 3 (by omega) (by omega)).1]; exact v2, fun j hj => by rw [(t 4 (by omega) (by omega)).1]; exact v3 j hj, by rw [(t 9 (by omega) (by omega)).1]; exact v4, by rw [(t 11 (by omega) (by omega)).1]; exact v5, by rw [(t 12 (by omega) (by omega)).1]; exact v6, by rw [(t 5 (by omega) (by omega)).1]; exact v7, by rw [(t 6 (by omega) (by omega)).2]; exact v8, by rw [(t 7 (by omega) (by omega)).1]; exact v9, by rw [(t 8 (by omega) (by omega)).1]; exact v10, by rw [(t 13 (by omega) (by omega)).1]; exact v11⟩
/-- with its bytes -/
theorem sd_394 {Q : am_H → Prop} (rv : RV n rd) (rw' : RW F rd) (h5 : n ≤ 5000) (f8 : ∀ j, j < n → by8 (F j) = F j) (he : e < rd.2.1.1) (hem : rd.2.1.2.1 e = false) (sm : md_s k m ad) (hst : stR m ad rd.1 k) (j : sdJ F m ad h rd e k a2 a3 a4 a5) (gG : sdG m ad e k k1) (hV : sdV F ad rd e k1) (hW : ∀ t, t < rd.1.2.1 (hmE rd e) → am_A k1 (ad 21) t = unp F rd.1.2.1 rd.1.2.2.1 (hmE rd e) t)
    (nx : ∀ k' b2 b3 b4 b5, sdJ F m ad h rd (e + 1) k' b2 b3 b4 b5 → am_Ev tt 202 543 [some (.ref m), none, some (.int b2), some (.int b3), some (.int b4), some (.int b5), some (.int (Int32.ofNat e)), none, none] [] k' (am_pV Q no_x)) :
    am_Ev tt 202 394 [some (.ref m), none, some (.int (Int32.ofNat (pfr rd.1.2.1 (hmE rd e)))), some (.int (Int32.ofNat (rk rd.2.1.2.1 e))), some (.int (Int32.ofNat (hmE rd e))), some (.int (Int32.ofNat (frm rd e))), some (.int (Int32.ofNat e)), some (.int (Int32.ofNat (hmE rd e))), none] [] k1 (am_pV Q no_x) := by
  have wf := rdA_w (F := F) rv h5
  have e24 : e < 24 := by have := rv.1; omega
  have cf : rk rd.2.1.2.1 e < (xI rd).1 := rv.2.2.2.2.2.2.2.1 e he hem
  have x24 : (xI rd).1 ≤ 24 := rv.2.2.2.1
  obtain ⟨hB, z1, z2⟩ := rv_h rv he hem
  have B6 := rv.2.1
  obtain ⟨p1, p2, fw, bt, bk⟩ := rv.2.2.2.2.1 (hmE rd e) hB
  have s1 := gG.1.1.md sm
  have kk1 := s1.1
  have dj := ad_ne s1
  have hst1 : stR m ad rd.1 k1 := hst.mo gG.1 (fun r _ _ => by omega) id id
  obtain ⟨t1, t2, t3, t4, t5, t6⟩ := hst1
  have e38 := (t5 _ cf).1
  have e38 : am_A k1 (ad 38) (rk rd.2.1.2.1 e) = Int32.ofNat (szE rd e) := e38
  obtain ⟨_, e34, _⟩ := t3 (hmE rd e) hB
  obtain ⟨qp, eq40⟩ := rw'.2 _ cf
  have e40 := t6 _ cf
  have rs : rk rd.2.1.2.1 (e + 1) = rk rd.2.1.2.1 e + 1 := by rw [rk, hem]; rfl
  have hf6 : hmE rd e < 6 := by omega
  have c24 : rk rd.2.1.2.1 e < 24 := by omega
  have bin : frm rd e + szE rd e ≤ bef (xI rd).2.1 (xI rd).2.2 (hmE rd e) (xI rd).1 := bef_in cf rfl
  have hU : knE rd e = true → frm rd e + szE rd e ≤ rd.1.2.1 (hmE rd e) ∧ rd.1.2.1 (hmE rd e) ≤ 2400 := fun z => by
    have this : bef (xI rd).2.1 (xI rd).2.2 (hmE rd e) (xI rd).1 = rd.1.2.1 (hmE rd e) := bk z
    exact ⟨by rw [← this]; exact bin, p2⟩
  have u8 : ∀ t, t < rd.1.2.1 (hmE rd e) → by8 (unp F rd.1.2.1 rd.1.2.2.1 (hmE rd e) t) = unp F rd.1.2.1 rd.1.2.2.1 (hmE rd e) t := by
    intro t ht
    refine cous_8 _ _ (fun i hi => ?_) t ht
    refine f8 _ ?_
    have q1 := pfr_s (pk := rd.1.2.1) (hmE rd e)
    have q2 := sm_mo (f := rd.1.2.1) rd.1.1 (hmE rd e + 1) (by omega)
    rw [sm_s, Nat.zero_add] at q2
    have q3 := rv.2.2.2.2.2.1 (by omega)
    omega
  obtain ⟨a91, a92, a93⟩ := md_r s1 (k := 9) (by decide) rfl (by decide)
  obtain ⟨a381, a382, a383⟩ := md_r s1 (k := 38) (by decide) rfl (by decide)
  obtain ⟨a111, a112, a113⟩ := md_r s1 (k := 11) (by decide) rfl (by decide)
  refine vc_202_394 tt _ _ _ _ _ _ _ _ _ _ ?_
  simp (disch := omega) only [kk1, a91, a92, a93, a381, a382, a383, a111, a112, a113, e24, c24, e38, qi_lt, qi_le, qi_eq, qi_nn, qi_in, qi_add, qi_l, ql_i, ql_lt, ql_le, ql_eq, ql_add, qc_lt, qc_eq, qc_ge, qc_gt, qc_le, true_and, and_true, and_self, true_or, or_true, false_or, or_false, false_and, and_false, not_true_eq_false, not_false_eq_true, Classical.not_not, true_implies, false_implies, implies_true, exists_eq_left, exists_eq_left', Option.some.injEq, reduceIte, Nat.reduceEqDiff, Nat.reduceLT, Nat.reduceLeDiff, Nat.reduceAdd, Nat.reduceSub, Nat.reduceMul, eq_self, ne_eq, and_imp, forall_const, reduceCtorEq, am_w, List.map_cons, List.map_nil, List.sum_cons, List.sum_nil, Value.category, Nat.zero_le, Nat.le_refl]
  have F1 : sdF m ad e k1 (am_sA k1 (ad 9) e (Int32.ofNat (szE rd e))) := sdF.sA s1 (by omega) (by unfold tch; omega)
  have F2 : sdF m ad e (am_sA k1 (ad 9) e (Int32.ofNat (szE rd e))) (am_sA (am_sA k1 (ad 9) e (Int32.ofNat (szE rd e))) (ad 11) e (Int32.ofNat (hmE rd e))) := sdF.sA (F1.1.1.md s1) (by omega) (by unfold tch; omega)
  have F12 := F1.tr F2
  have M12 : mg m ad (fun l => l = 9 ∨ l = 10 ∨ l = 11 ∨ l = 13) Yz k1 (am_sA (am_sA k1 (ad 9) e (Int32.ofNat (szE rd e))) (ad 11) e (Int32.ofNat (hmE rd e))) := (mg.sA s1 (by omega)).tr (mg.sA (F1.1.1.md s1) (by omega))
  generalize ek2 : am_sA (am_sA k1 (ad 9) e (Int32.ofNat (szE rd e))) (ad 11) e (Int32.ofNat (hmE rd e)) = k2 at *
  have e9 : am_A k2 (ad 9) e = Int32.ofNat (szE rd e) := by rw [← ek2]; simp (disch := omega) only [am_hs, dj, true_and, and_true, and_self, true_or, or_true, false_or, or_false, false_and, and_false, not_true_eq_false, not_false_eq_true, Classical.not_not, true_implies, false_implies, implies_true, exists_eq_left, exists_eq_left', Option.some.injEq, reduceIte, Nat.reduceEqDiff, Nat.reduceLT, Nat.reduceLeDiff, Nat.reduceAdd, Nat.reduceSub, Nat.reduceMul, eq_self, ne_eq, and_imp, forall_const, reduceCtorEq, am_w, List.map_cons, List.map_nil, List.sum_cons, List.sum_nil, Value.category, Nat.zero_le, Nat.le_refl]
  have e11 : am_A k2 (ad 11) e = Int32.ofNat (hmE rd e) := by rw [← ek2]; simp (disch := omega) only [am_hs, dj, true_and, and_true, and_self, true_or, or_true, false_or, or_false, false_and, and_false, not_true_eq_false, not_false_eq_true, Classical.not_not, true_implies, false_implies, implies_true, exists_eq_left, exists_eq_left', Option.some.injEq, reduceIte, Nat.reduceEqDiff, Nat.reduceLT, Nat.reduceLeDiff, Nat.reduceAdd, Nat.reduceSub, Nat.reduceMul, eq_self, ne_eq, and_imp, forall_const, reduceCtorEq, am_w, List.map_cons, List.map_nil, List.sum_cons, List.sum_nil, Value.category, Nat.zero_le, Nat.le_refl]
  have s2 := F12.1.1.md s1
  refine sd_419 (k0 := k2) (f := hmE rd e) (Z := szE rd e) (U := frm rd e) (Pz := rd.1.2.1 (hmE rd e)) (kn := knE rd e) (W := unp F rd.1.2.1 rd.1.2.2.1 (hmE rd e)) e24 hf6 z2 hU s2 (by rw [(M12.2.1 34 (by omega)).1]; exact e34) e9 (fun t ht => ⟨by rw [(M12.2.1 21 (by omega)).1]; exact hW t ht, u8 t ht⟩) (fun k3 F3 g3 n3 => ?_) (szE rd e) 0 k2 (by omega) sdF.re mg.re (fun _ j hj => absurd hj (Nat.not_lt_zero j))
  have s3 := g3.1.md s2
  have kk3 := s3.1
  have dj3 := ad_ne s3
  have M13 : mg m ad (fun l => l = 9 ∨ l = 10 ∨ l = 11 ∨ l = 13) Yz k1 k3 := M12.tr (g3.mo (fun _ z => by omega) (fun _ z => z))
  have e9' : am_A k3 (ad 9) e = Int32.ofNat (szE rd e) := by rw [(g3.2.1 9 (by omega)).1]; exact e9
  have e34' : am_A k3 (ad 34) (hmE rd e) = b01 (knE rd e) := by rw [(M13.2.1 34 (by omega)).1]; exact e34
  have e40' : am_B k3 (ad 40) (rk rd.2.1.2.1 e) = lt F qp 4 := by rw [(M13.2.1 40 (by omega)).2, e40]; exact eq40
  obtain ⟨b91, b92, b93⟩ := md_r s3 (k := 9) (by decide) rfl (by decide)
  obtain ⟨b131, b132, b133⟩ := md_r s3 (k := 13) (by decide) rfl (by decide)
  obtain ⟨b341, b342, b343⟩ := md_r s3 (k := 34) (by decide) rfl (by decide)
  obtain ⟨b101, b102, b103⟩ := md_r s3 (k := 10) (by decide) rfl (by decide)
  obtain ⟨b401, b402, b403⟩ := md_r s3 (k := 40) (by decide) rfl (by decide)
  -- when all is put down
  have fin : ∀ wr : Bool, wr = (knE rd e && decide (¬ ck (fun j => unp F rd.1.2.1 rd.1.2.2.1 (hmE rd e) (frm rd e + j)) 0 (szE rd e) = (rd.1.2.2.2.2 (rk rd.2.1.2.1 e)).toInt32)) → am_Ev tt 202 543 [some (.ref m), none, some (.int (Int32.ofNat (pfr rd.1.2.1 (hmE rd e)))), some (.int (Int32.ofNat (rk rd.2.1.2.1 e + 1))), some (.int (Int32.ofNat (hmE rd e))), some (.int (Int32.ofNat (frm rd e + szE rd e))), some (.int (Int32.ofNat e)), none, none] [] (am_sA k3 (ad 13) e (b01 wr)) (am_pV Q no_x) := by
    intro wr hwr
    have F4 : sdF m ad e k3 (am_sA k3 (ad 13) e (b01 wr)) := sdF.sA s3 (by omega) (by unfold tch; omega)
    have M14 : mg m ad (fun l => l = 9 ∨ l = 10 ∨ l = 11 ∨ l = 13) Yz k1 (am_sA k3 (ad 13) e (b01 wr)) := M13.tr (mg.sA s3 (by omega))
    have gA : sdG m ad e k (am_sA k3 (ad 13) e (b01 wr)) := gG.tr (F12.tr (F3.tr F4)).G
    obtain ⟨v1, v2, v3, v4, v5, v6, v7, v8, v9, v10, v11⟩ := hV
    have t := fun l z => M14.2.1 l z
    refine nx _ _ _ _ _ (j.up gA wf he ?_ (by rw [rs]) ?_)
    · rw [rdE_f hem]
      rw [hem] at v1 v6
      refine ⟨?_, ?_, fun i hi => ?_, ?_, ?_, ?_, ?_, ?_, ?_, ?_, ?_, fun hp i hi => ?_⟩
      · rw [(t 2 (by omega)).1, v1, if_neg (fun z => by cases z.1)]; rfl
      · rw [(t 3 (by omega)).1]; exact v2
      · rw [(t 4 (by omega)).1]; exact v3 i hi
      · simp (disch := omega) only [am_hs, dj3, true_and, and_true, and_self, true_or, or_true, false_or, or_false, false_and, and_false, not_true_eq_false, not_false_eq_true, Classical.not_not, true_implies, false_implies, implies_true, exists_eq_left, exists_eq_left', Option.some.injEq, reduceIte, Nat.reduceEqDiff, Nat.reduceLT, Nat.reduceLeDiff, Nat.reduceAdd, Nat.reduceSub, Nat.reduceMul, eq_self, ne_eq, and_imp, forall_const, reduceCtorEq, am_w, List.map_cons, List.map_nil, List.sum_cons, List.sum_nil, Value.category, Nat.zero_le, Nat.le_refl]; exact e9'
      · simp (disch := omega) only [am_hs, dj3, true_and, and_true, and_self, true_or, or_true, false_or, or_false, false_and, and_false, not_true_eq_false, not_false_eq_true, Classical.not_not, true_implies, false_implies, implies_true, exists_eq_left, exists_eq_left', Option.some.injEq, reduceIte, Nat.reduceEqDiff, Nat.reduceLT, Nat.reduceLeDiff, Nat.reduceAdd, Nat.reduceSub, Nat.reduceMul, eq_self, ne_eq, and_imp, forall_const, reduceCtorEq, am_w, List.map_cons, List.map_nil, List.sum_cons, List.sum_nil, Value.category, Nat.zero_le, Nat.le_refl]; rw [(g3.2.1 11 (by omega)).1]; exact e11
      · rw [(t 12 (by omega)).1, v6]; rfl
      · rw [(t 5 (by omega)).1]; exact v7
      · rw [(t 6 (by omega)).2]; exact v8
      · rw [(t 7 (by omega)).1, v9]
        show b01 _ = b01 ((rd.2.2.2.2 e).map Int64.toInt32).isSome
        rw [Option.isSome_map]
      · rw [(t 8 (by omega)).1]; exact v10
      · simp (disch := omega) only [am_hs, dj3, true_and, and_true, and_self, true_or, or_true, false_or, or_false, false_and, and_false, not_true_eq_false, not_false_eq_true, Classical.not_not, true_implies, false_implies, implies_true, exists_eq_left, exists_eq_left', Option.some.injEq, reduceIte, Nat.reduceEqDiff, Nat.reduceLT, Nat.reduceLeDiff, Nat.reduceAdd, Nat.reduceSub, Nat.reduceMul, eq_self, ne_eq, and_imp, forall_const, reduceCtorEq, am_w, List.map_cons, List.map_nil, List.sum_cons, List.sum_nil, Value.category, Nat.zero_le, Nat.le_refl]; rw [hwr]; rfl
      · rw [a_kn_f rv he hem] at hp
        simp (disch := omega) only [am_hs, dj3, true_and, and_true, and_self, true_or, or_true, false_or, or_false, false_and, and_false, not_true_eq_false, not_false_eq_true, Classical.not_not, true_implies, false_implies, implies_true, exists_eq_left, exists_eq_left', Option.some.injEq, reduceIte, Nat.reduceEqDiff, Nat.reduceLT, Nat.reduceLeDiff, Nat.reduceAdd, Nat.reduceSub, Nat.reduceMul, eq_self, ne_eq, and_imp, forall_const, reduceCtorEq, am_w, List.map_cons, List.map_nil, List.sum_cons, List.sum_nil, Value.category, Nat.zero_le, Nat.le_refl]
        exact n3 hp i hi
    · rw [rs]
      refine ⟨fun z => absurd z (by omega), fun _ => ?_⟩
      rw [Nat.add_sub_cancel]
      refine ⟨rfl, rfl, ?_, fun i hi => ?_⟩
      · congr 1
        show _ = bef _ _ _ _ + (if _ then _ else _)
        rw [if_pos rfl]
        rfl
      · rw [(t 21 (by omega)).1]; exact hW i hi
  refine vc_202_471 tt _ _ _ _ _ _ _ _ _ _ ?_
  simp (disch := omega) only [kk3, b91, b92, b93, e24, e9', qi_lt, qi_le, qi_eq, qi_nn, qi_in, qi_add, qi_l, ql_i, ql_lt, ql_le, ql_eq, ql_add, qc_lt, qc_eq, qc_ge, qc_gt, qc_le, true_and, and_true, and_self, true_or, or_true, false_or, or_false, false_and, and_false, not_true_eq_false, not_false_eq_true, Classical.not_not, true_implies, false_implies, implies_true, exists_eq_left, exists_eq_left', Option.some.injEq, reduceIte, Nat.reduceEqDiff, Nat.reduceLT, Nat.reduceLeDiff, Nat.reduceAdd, Nat.reduceSub, Nat.reduceMul, eq_self, ne_eq, and_imp, forall_const, reduceCtorEq, am_w, List.map_cons, List.map_nil, List.sum_cons, List.sum_nil, Value.category, Nat.zero_le, Nat.le_refl]
  refine vc_202_483 tt _ _ _ _ _ _ _ _ _ _ ?_
  simp (disch := omega) only [kk3, b131, b132, b133, b341, b342, b343, b91, b92, b93, b101, e24, hf6, e34', e9', z_1, o_1, qi_mul, qi_lt, qi_le, qi_eq, qi_nn, qi_in, qi_add, qi_l, ql_i, ql_lt, ql_le, ql_eq, ql_add, qc_lt, qc_eq, qc_ge, qc_gt, qc_le, true_and, and_true, and_self, true_or, or_true, false_or, or_false, false_and, and_false, not_true_eq_false, not_false_eq_true, Classical.not_not, true_implies, false_implies, implies_true, exists_eq_left, exists_eq_left', Option.some.injEq, reduceIte, Nat.reduceEqDiff, Nat.reduceLT, Nat.reduceLeDiff, Nat.reduceAdd, Nat.reduceSub, Nat.reduceMul, eq_self, ne_eq, and_imp, forall_const, reduceCtorEq, am_w, List.map_cons, List.map_nil, List.sum_cons, List.sum_nil, Value.category, Nat.zero_le, Nat.le_refl]
  cases hkn : knE rd e with
  | false =>
    refine ⟨fun _ => fin false (by rw [hkn]; rfl), fun z => absurd rfl z⟩
  | true =>
    refine ⟨fun z => absurd z (show ¬ Int32.ofNat 1 = Int32.ofNat 0 by decide), fun _ => ⟨_, _, ct_check b102 (by rw [b103]; omega) (by rw [b103]; omega), fun x k5 e5 => ?_, fun _ _ z => z.elim⟩⟩
    obtain ⟨rfl, rfl⟩ := e5
    have ec : ck (am_A k5 (ad 10)) (2400 * e) (szE rd e) = ck (fun j => unp F rd.1.2.1 rd.1.2.2.1 (hmE rd e) (frm rd e + j)) 0 (szE rd e) := by
      rw [ck_sh]
      exact ck_fr (fun i _ hi => n3 hkn i (by omega))
    simp (disch := omega) only [kk3, b401, b402, b403, b132, b133, c24, e24, e40', z_1, o_1, ck_l, ec, qi_lt, qi_le, qi_eq, qi_nn, qi_in, qi_add, qi_l, ql_i, ql_lt, ql_le, ql_eq, ql_add, qc_lt, qc_eq, qc_ge, qc_gt, qc_le, true_and, and_true, and_self, true_or, or_true, false_or, or_false, false_and, and_false, not_true_eq_false, not_false_eq_true, Classical.not_not, true_implies, false_implies, implies_true, exists_eq_left, exists_eq_left', Option.some.injEq, reduceIte, Nat.reduceEqDiff, Nat.reduceLT, Nat.reduceLeDiff, Nat.reduceAdd, Nat.reduceSub, Nat.reduceMul, eq_self, ne_eq, and_imp, forall_const, reduceCtorEq, am_w, List.map_cons, List.map_nil, List.sum_cons, List.sum_nil, Value.category, Nat.zero_le, Nat.le_refl]
    refine ⟨fun c => fin false ?_, fun c => fin true ?_⟩
    · rw [hkn, eq40, decide_eq_false (fun z => z c)]; rfl
    · rw [hkn, eq40, decide_eq_true c]; rfl
end MSX
