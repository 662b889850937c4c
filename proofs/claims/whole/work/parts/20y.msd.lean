/-! deps: 20x -/
/-! ===== the reference reads: what was read stands ===== -/
theorem HM.mo {x : FI} {b : Nat} (h : HM x b) : ∀ (d f : Nat), f + d < x.1 → x.2.1 f ≤ x.2.1 (f + d)
  | 0, _, _ => Nat.le_refl _
  | d + 1, f, hf => by
    have h1 := HM.mo h d f (by omega)
    have h2 := h.1 (f + d) (by omega)
    rw [show f + (d + 1) = f + d + 1 by omega]
    omega
theorem bef_z {hm sz : Nat → Nat} {b : Nat} : ∀ (c : Nat), (∀ f, f < c → ¬ hm f = b) → bef hm sz b c = 0
  | 0, _ => rfl
  | c + 1, h => by
    rw [bef, bef_z c (fun f hf => h f (by omega)), if_neg (h c (by omega))]
section MSD
variable {tt : Nat → Nat} {F : Fn} {n m : Nat} {ad : Nat → Nat} {h h' h'' k k' k0 : am_H} {X Y X' Y' : Nat → Prop} {rd : RD} {e : Nat} {a2 a3 a4 a5 : Int32}
abbrev Xsd (l : Nat) : Prop := (2 ≤ l ∧ l ≤ 17) ∨ l = 21 ∨ l = 22
abbrev XeU (l : Nat) : Prop := Xe l ∨ Xun l
def sdG (m : Nat) (ad : Nat → Nat) (e : Nat) (k0 k : am_H) : Prop := mg m ad XeU Yz k0 k ∧ (∀ l j, ¬ tch e l j → ¬ l = 21 → ¬ l = 22 → am_A k (ad l) j = am_A k0 (ad l) j) ∧ ∀ j, ¬ j = e → am_B k (ad 6) j = am_B k0 (ad 6) j
theorem sdF.G (p : sdF m ad e h h') : sdG m ad e h h' := ⟨p.1.mo (fun _ z => Or.inl z) (fun _ z => z), fun l j z _ _ => p.2.1 l j z, p.2.2⟩
theorem sdG.tr (p : sdG m ad e h h') (q : sdG m ad e h' h'') : sdG m ad e h h'' := ⟨p.1.tr q.1, fun l j z u w => (q.2.1 l j z u w).trans (p.2.1 l j z u w), fun j z => (q.2.2 j z).trans (p.2.2 j z)⟩
theorem sdG.un (p : mg m ad Xun Yz h h') : sdG m ad e h h' := ⟨p.mo (fun _ z => Or.inr z) (fun _ z => z), fun l j _ u w => by rw [(p.2.1 l (by omega)).1], fun j _ => by rw [(p.2.1 6 (by omega)).2]⟩
abbrev xI (rd : RD) : FI := rd.1.2.2.2.1
/-- the block that was unpacked last -/
def sdL (F : Fn) (ad : Nat → Nat) (rd : RD) (c : Nat) (k : am_H) (a2 a4 a5 : Int32) : Prop := (c = 0 → a4 = -1 ∧ a2 = Int32.ofNat 32) ∧ (0 < c → a4 = Int32.ofNat ((xI rd).2.1 (c - 1)) ∧ a2 = Int32.ofNat (pfr rd.1.2.1 ((xI rd).2.1 (c - 1))) ∧ a5 = Int32.ofNat (bef (xI rd).2.1 (xI rd).2.2 ((xI rd).2.1 (c - 1)) c) ∧ ∀ j, j < rd.1.2.1 ((xI rd).2.1 (c - 1)) → am_A k (ad 21) j = unp F rd.1.2.1 rd.1.2.2.1 ((xI rd).2.1 (c - 1)) j)
def sdJ (F : Fn) (m : Nat) (ad : Nat → Nat) (h : am_H) (rd : RD) (e : Nat) (k : am_H) (a2 a3 a4 a5 : Int32) : Prop := mg m ad Xsd Ysd h k ∧ am_I k 10 1 m = Int32.ofNat rd.2.1.1 ∧ (∀ b, b < 6 → mb_v k ad b (rdB rd b)) ∧ (∀ i, i < e → me_v k ad i (rdE F rd i) (a_kn (rdA F rd) i = true)) ∧ a3 = Int32.ofNat (rk rd.2.1.2.1 e) ∧ sdL F ad rd (rk rd.2.1.2.1 e) k a2 a4 a5
theorem sdJ.up (j : sdJ F m ad h rd e k a2 a3 a4 a5) (g : sdG m ad e k k') (wf : wfA (rdA F rd)) (he : e < rd.2.1.1) (hv : me_v k' ad e (rdE F rd e) (a_kn (rdA F rd) e = true)) {b2 b3 b4 b5 : Int32} (h3 : b3 = Int32.ofNat (rk rd.2.1.2.1 (e + 1))) (hL : sdL F ad rd (rk rd.2.1.2.1 (e + 1)) k' b2 b4 b5) : sdJ F m ad h rd (e + 1) k' b2 b3 b4 b5 := by
  obtain ⟨j1, j2, j3, j4, j5, j6⟩ := j
  refine ⟨j1.tr (g.1.mo (fun _ z => by omega) (fun _ z => z.elim)), by rw [(g.1.2.2 1 id).1]; exact j2, fun b hb => ?_, fun i hi => ?_, h3, hL⟩
  · refine (j3 b hb).same ?_ (g.2.1 _ _ (by unfold tch; omega) (by omega) (by omega)) (g.2.1 _ _ (by unfold tch; omega) (by omega) (by omega)) (fun j hj => g.2.1 _ _ (by unfold tch; omega) (by omega) (by omega)) (fun j hj => g.2.1 _ _ (by unfold tch; omega) (by omega) (by omega))
    exact (wf.2.2.1 b hb).1
  · by_cases c : i = e
    · subst c; exact hv
    · have hi' : i < rd.2.1.1 := by omega
      obtain ⟨w1, w2, w3, w4⟩ := wf.2.1 i hi'
      have hc : i < e := by omega
      exact (j4 i hc).same w2 w3 (fun l hl => g.2.1 _ _ (by unfold tch; omega) (by omega) (by omega)) (g.2.2 i c) (fun t ht => g.2.1 _ _ (by unfold tch; omega) (by omega) (by omega)) (fun t ht => g.2.1 _ _ (by unfold tch; omega) (by omega) (by omega))
/-- an entry's bytes -/
theorem sd_419 {Q : am_H → Prop} {f Z U Pz : Nat} {kn : Bool} (he : e < 24) (hf : f < 6) (hZ : Z ≤ 2400) (hU : kn = true → U + Z ≤ Pz ∧ Pz ≤ 2400) {W : Nat → Int32} (sm : md_s k0 m ad) (e34 : am_A k0 (ad 34) f = b01 kn) (e9 : am_A k0 (ad 9) e = Int32.ofNat Z) (hW : ∀ j, j < Pz → am_A k0 (ad 21) j = W j ∧ by8 (W j) = W j)
    (nx : ∀ k, sdF m ad e k0 k → mg m ad (fun r => r = 10) Yz k0 k → (kn = true → ∀ j, j < Z → am_A k (ad 10) (2400 * e + j) = W (U + j)) → am_Ev tt 202 471 [some (.ref m), none, some (.int a2), some (.int a3), some (.int a4), some (.int (Int32.ofNat U)), some (.int (Int32.ofNat e)), some (.int (Int32.ofNat f)), none] [] k (am_pV Q no_x)) :
    ∀ (d i : Nat) (k : am_H), d + i = Z → sdF m ad e k0 k → mg m ad (fun r => r = 10) Yz k0 k → (kn = true → ∀ j, j < i → am_A k (ad 10) (2400 * e + j) = W (U + j)) → am_Ev tt 202 419 [some (.ref m), none, some (.int a2), some (.int a3), some (.int a4), some (.int (Int32.ofNat U)), some (.int (Int32.ofNat e)), some (.int (Int32.ofNat f)), some (.int (Int32.ofNat i))] [] k (am_pV Q no_x) := by
  intro d
  induction d with
  | zero =>
    intro i k ei gF g hj
    have : i = Z := by omega
    subst this
    have sk := g.1.md sm
    have kk := sk.1
    obtain ⟨a1, a2, a3⟩ := md_r sk (k := 34) (by decide) rfl (by decide)
    obtain ⟨b1, b2, b3⟩ := md_r sk (k := 9) (by decide) rfl (by decide)
    have e34' : am_A k (ad 34) f = b01 kn := by rw [(g.2.1 34 (by omega)).1]; exact e34
    have e9' : am_A k (ad 9) e = Int32.ofNat i := by rw [(g.2.1 9 (by omega)).1]; exact e9
    refine vc_202_419 tt _ _ _ _ _ _ _ _ _ _ _ ?_
    simp (disch := omega) only [kk, a1, a2, a3, b1, b2, b3, he, hf, e34', e9', qi_lt, qi_le, qi_eq, qi_nn, qi_in, qi_add, qi_l, ql_i, ql_lt, ql_le, ql_eq, ql_add, qc_lt, qc_eq, qc_ge, qc_gt, qc_le, true_and, and_true, and_self, true_or, or_true, false_or, or_false, false_and, and_false, not_true_eq_false, not_false_eq_true, Classical.not_not, true_implies, false_implies, implies_true, exists_eq_left, exists_eq_left', Option.some.injEq, reduceIte, Nat.reduceEqDiff, Nat.reduceLT, Nat.reduceLeDiff, Nat.reduceAdd, Nat.reduceSub, Nat.reduceMul, eq_self, ne_eq, and_imp, forall_const, reduceCtorEq, am_w, List.map_cons, List.map_nil, List.sum_cons, List.sum_nil, Value.category, Nat.zero_le, Nat.le_refl]
    exact ⟨fun _ => nx k gF g hj, fun _ => nx k gF g hj⟩
  | succ d ih =>
    intro i k ei gF g hj
    have sk := g.1.md sm
    have kk := sk.1
    obtain ⟨a1, a2, a3⟩ := md_r sk (k := 34) (by decide) rfl (by decide)
    obtain ⟨b1, b2, b3⟩ := md_r sk (k := 9) (by decide) rfl (by decide)
    obtain ⟨c1, c2, c3⟩ := md_r sk (k := 10) (by decide) rfl (by decide)
    obtain ⟨d1, d2, d3⟩ := md_r sk (k := 21) (by decide) rfl (by decide)
    have e34' : am_A k (ad 34) f = b01 kn := by rw [(g.2.1 34 (by omega)).1]; exact e34
    have e9' : am_A k (ad 9) e = Int32.ofNat Z := by rw [(g.2.1 9 (by omega)).1]; exact e9
    have q1 : ¬ Z ≤ i := by omega
    cases kn with
    | false =>
      have e34' : am_A k (ad 34) f = Int32.ofNat 0 := e34'
      refine vc_202_419 tt _ _ _ _ _ _ _ _ _ _ _ ?_
      simp (disch := omega) only [kk, a1, a2, a3, hf, e34', qi_lt, qi_le, qi_eq, qi_nn, qi_in, qi_add, qi_l, ql_i, ql_lt, ql_le, ql_eq, ql_add, qc_lt, qc_eq, qc_ge, qc_gt, qc_le, true_and, and_true, and_self, true_or, or_true, false_or, or_false, false_and, and_false, not_true_eq_false, not_false_eq_true, Classical.not_not, true_implies, false_implies, implies_true, exists_eq_left, exists_eq_left', Option.some.injEq, reduceIte, Nat.reduceEqDiff, Nat.reduceLT, Nat.reduceLeDiff, Nat.reduceAdd, Nat.reduceSub, Nat.reduceMul, eq_self, ne_eq, and_imp, forall_const, reduceCtorEq, am_w, List.map_cons, List.map_nil, List.sum_cons, List.sum_nil, Value.category, Nat.zero_le, Nat.le_refl]
      exact nx k gF g (fun z => by cases z)
    | true =>
      obtain ⟨u1, u2⟩ := hU rfl
      have e34' : am_A k (ad 34) f = Int32.ofNat 1 := e34'
      obtain ⟨w1, w2⟩ := hW (U + i) (by omega)
      have e21 : am_A k (ad 21) (U + i) = W (U + i) := by rw [(g.2.1 21 (by omega)).1]; exact w1
      have i1 : U + i < 2880 := by omega
      have i2 : 2400 * e + i < 57600 := by omega
      have w2' : (W (U + i)).toInt8.toInt32 = W (U + i) := w2
      refine vc_202_419 tt _ _ _ _ _ _ _ _ _ _ _ ?_
      simp (disch := omega) only [kk, a1, a2, a3, b1, b2, b3, c1, c2, c3, d1, d2, d3, he, hf, e34', e9', e21, i1, i2, q1, w2', qi_mul, qi_lt, qi_le, qi_eq, qi_nn, qi_in, qi_add, qi_l, ql_i, ql_lt, ql_le, ql_eq, ql_add, qc_lt, qc_eq, qc_ge, qc_gt, qc_le, true_and, and_true, and_self, true_or, or_true, false_or, or_false, false_and, and_false, not_true_eq_false, not_false_eq_true, Classical.not_not, true_implies, false_implies, implies_true, exists_eq_left, exists_eq_left', Option.some.injEq, reduceIte, Nat.reduceEqDiff, Nat.reduceLT, Nat.reduceLeDiff, Nat.reduceAdd, Nat.reduceSub, Nat.reduceMul, eq_self, ne_eq, and_imp, forall_const, reduceCtorEq, am_w, List.map_cons, List.map_nil, List.sum_cons, List.sum_nil, Value.category, Nat.zero_le, Nat.le_refl]
      have s1 : mg m ad (fun r => r = 10) Yz k (am_sA k (ad 10) (2400 * e + i) (W (U + i))) := mg.sA sk rfl
      have F1 : sdF m ad e k (am_sA k (ad 10) (2400 * e + i) (W (U + i))) := sdF.sA sk (by omega) (by unfold tch; omega)
      refine ih (i + 1) _ (by omega) (gF.tr F1) (g.tr s1) (fun _ j hj' => ?_)
      by_cases c : j = i
      · subst c
        simp only [am_hs, true_and, and_true, and_self, true_or, or_true, false_or, or_false, false_and, and_false, not_true_eq_false, not_false_eq_true, Classical.not_not, true_implies, false_implies, implies_true, exists_eq_left, exists_eq_left', Option.some.injEq, reduceIte, Nat.reduceEqDiff, Nat.reduceLT, Nat.reduceLeDiff, Nat.reduceAdd, Nat.reduceSub, Nat.reduceMul, eq_self, ne_eq, and_imp, forall_const, reduceCtorEq, am_w, List.map_cons, List.map_nil, List.sum_cons, List.sum_nil, Value.category, Nat.zero_le, Nat.le_refl]
      · have q : ¬ 2400 * e + j = 2400 * e + i := by omega
        simp (disch := omega) only [am_hs, q, true_and, and_true, and_self, true_or, or_true, false_or, or_false, false_and, and_false, not_true_eq_false, not_false_eq_true, Classical.not_not, true_implies, false_implies, implies_true, exists_eq_left, exists_eq_left', Option.some.injEq, reduceIte, Nat.reduceEqDiff, Nat.reduceLT, Nat.reduceLeDiff, Nat.reduceAdd, Nat.reduceSub, Nat.reduceMul, eq_self, ne_eq, and_imp, forall_const, reduceCtorEq, am_w, List.map_cons, List.map_nil, List.sum_cons, List.sum_nil, Value.category, Nat.zero_le, Nat.le_refl]
        exact hj rfl j (by omega)
end MSD
