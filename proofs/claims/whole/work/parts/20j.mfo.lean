/-! deps: 20i -/
/-! ===== the reference reads: a folder ===== -/
section MFO
variable {tt : Nat → Nat} {F : Fn} {n m : Nat} {ad : Nat → Nat} {h h' h'' k k' : am_H} {s : Ms} {X Y X' Y' : Nat → Prop}
abbrev Xfo (k : Nat) : Prop := (52 ≤ k ∧ k ≤ 59) ∨ (33 ≤ k ∧ k ≤ 37)
def foQ (F : Fn) (n m : Nat) (ad : Nat → Nat) (h : am_H) (f : Nat) (r : Except pe (FO × Nat)) (k : am_H) : Prop := MY F n k m ad (st r) ∧ mg m ad Xfo Yn h k ∧ ly f ad h k ∧ ∀ o p', r = .ok (o, p') → FRo ad f o k
theorem ly.re {f : Nat} : ly f ad h h := fun _ _ _ => rfl
theorem ly.tr {f : Nat} (p : ly f ad h h') (q : ly f ad h' h'') : ly f ad h h'' := fun r j z => (q r j z).trans (p r j z)
theorem ly.g {f : Nat} (g : mg m ad X Y h h') (hX : ∀ r, 33 ≤ r → r ≤ 37 ∨ r = 59 → ¬ X r) : ly f ad h h' := fun r j z => by rw [(g.2.1 r (hX r (by omega) (by omega))).1]
/-- no bond yet -/
theorem fo_223 (y : MY F n h m ad s) {a1 a2 : Int32} {Q : am_H → Prop} {Qx : String → am_H → Prop} (nx : ∀ k, MY F n k m ad s → mg m ad Xbd Yz h k → MBR ad k [] → am_Ev tt 185 252 [some (.ref m), some (.int a1), some (.int a2), some (.int (Int32.ofNat 0)), none, none, none, none] [] k (am_pV Q Qx)) : am_Ev tt 185 223 [some (.ref m), some (.int a1), some (.int a2), none, none, none, none, none] [] h (am_pV Q Qx) := by
  refine vc_185_223 tt _ _ _ _ _ _ ?_
  have key : ∀ (d i : Nat) (k : am_H), d + i = 3 → MY F n k m ad s → mg m ad Xbd Yz h k → (∀ c, c < i → am_A k (ad 57) c = -1 ∧ am_A k (ad 58) c = -1) → am_Ev tt 185 225 [some (.ref m), some (.int a1), some (.int a2), some (.int (Int32.ofNat i)), none, none, none, none] [] k (am_pV Q Qx) := by
    intro d
    induction d with
    | zero =>
      intro i k ei y g hb
      have : i = 3 := by omega
      subst this
      refine vc_185_225 tt _ _ _ _ _ _ _ ⟨fun _ => ?_, fun z => absurd (Int32.le_refl _) z⟩
      exact nx k y g ⟨fun c hc => (hb c hc).1, fun c hc => (hb c hc).2⟩
    | succ d ih =>
      intro i k ei y g hb
      have kk := y.1.1
      have dj := ad_ne y.1
      obtain ⟨b1, b2, b3⟩ := md_r y.1 (k := 57) (by decide) rfl (by decide)
      obtain ⟨c1, c2, c3⟩ := md_r y.1 (k := 58) (by decide) rfl (by decide)
      have i3 : ¬ 3 ≤ i := by omega
      have i3' : i < 3 := by omega
      refine vc_185_225 tt _ _ _ _ _ _ _ ?_
      simp (disch := omega) only [kk, b1, b2, b3, c1, c2, c3, i3, i3', am_hs, qi_lt, qi_le, qi_eq, qi_nn, qi_in, qi_add, qi_l, ql_i, ql_lt, ql_le, ql_eq, ql_add, qc_lt, qc_eq, qc_ge, qc_gt, qc_le, true_and, and_true, and_self, true_or, or_true, false_or, or_false, false_and, and_false, not_true_eq_false, not_false_eq_true, Classical.not_not, true_implies, false_implies, implies_true, exists_eq_left, exists_eq_left', Option.some.injEq, reduceIte, Nat.reduceEqDiff, Nat.reduceLT, Nat.reduceLeDiff, Nat.reduceAdd, Nat.reduceSub, Nat.reduceMul, eq_self, ne_eq, and_imp, forall_const, reduceCtorEq, am_w, List.map_cons, List.map_nil, List.sum_cons, List.sum_nil, Value.category, Nat.zero_le, Nat.le_refl]
      have s1 : mg m ad Xbd Yz k (am_sA k (ad 57) i (-1)) := mg.sA y.1 (by omega)
      have s2 : mg m ad Xbd Yz (am_sA k (ad 57) i (-1)) (am_sA (am_sA k (ad 57) i (-1)) (ad 58) i (-1)) := mg.sA (s1.1.md y.1) (by omega)
      refine ih (i + 1) _ (by omega) (y.on (s1.tr s2) (by omega) id id id id) (g.tr (s1.tr s2)) (fun c hc => ?_)
      by_cases ci : c = i
      · subst ci
        simp (disch := omega) only [am_hs, dj, true_and, and_true, and_self, true_or, or_true, false_or, or_false, false_and, and_false, not_true_eq_false, not_false_eq_true, Classical.not_not, true_implies, false_implies, implies_true, exists_eq_left, exists_eq_left', Option.some.injEq, reduceIte, Nat.reduceEqDiff, Nat.reduceLT, Nat.reduceLeDiff, Nat.reduceAdd, Nat.reduceSub, Nat.reduceMul, eq_self, ne_eq, and_imp, forall_const, reduceCtorEq, am_w, List.map_cons, List.map_nil, List.sum_cons, List.sum_nil, Value.category, Nat.zero_le, Nat.le_refl]
      · simp (disch := omega) only [am_hs, dj, ci, true_and, and_true, and_self, true_or, or_true, false_or, or_false, false_and, and_false, not_true_eq_false, not_false_eq_true, Classical.not_not, true_implies, false_implies, implies_true, exists_eq_left, exists_eq_left', Option.some.injEq, reduceIte, Nat.reduceEqDiff, Nat.reduceLT, Nat.reduceLeDiff, Nat.reduceAdd, Nat.reduceSub, Nat.reduceMul, eq_self, ne_eq, and_imp, forall_const, reduceCtorEq, am_w, List.map_cons, List.map_nil, List.sum_cons, List.sum_nil, Value.category, Nat.zero_le, Nat.le_refl]
        exact hb c (by omega)
  exact key 3 0 h (by omega) y mg.re (fun c hc => absurd hc (by omega))
theorem fo_277b {f : Nat} {a2 : Int32} {r : Except pe (FO × Nat)} {e : pe} (er : r = .error e) {k : am_H} (y : MY F n k m ad (.error e)) (g : mg m ad Xfo Yn h k) (l : ly f ad h k) : am_Ev tt 185 277 [some (.ref m), some (.int (Int32.ofNat f)), some (.int a2), none, none, none, none, none] [] k (am_pV (foQ F n m ad h f r) no_x) := by
  refine vc_185_277 tt _ _ _ _ _ _ ⟨y.1.1, _, _, ct_mfine y, fun x k2 e2 => ?_, fun _ _ z => z.elim⟩
  obtain ⟨rfl, rfl⟩ := e2
  refine ⟨fun _ => ?_, fun z => absurd rfl z⟩
  rw [er]
  exact ⟨y, g, l, fun o p' z => by cases z⟩
theorem fo_252b {f : Nat} {a2 i : Int32} {r : Except pe (FO × Nat)} {e : pe} (er : r = .error e) {k : am_H} (y : MY F n k m ad (.error e)) (g : mg m ad Xfo Yn h k) (l : ly f ad h k) : am_Ev tt 185 252 [some (.ref m), some (.int (Int32.ofNat f)), some (.int a2), some (.int i), none, none, none, none] [] k (am_pV (foQ F n m ad h f r) no_x) := by
  refine vc_185_252 tt _ _ _ _ _ _ _ ⟨fun _ => fo_277b er y g l, fun _ => ⟨y.1.1, _, _, ct_mfine y, fun x k2 e2 => ?_, fun _ _ z => z.elim⟩⟩
  obtain ⟨rfl, rfl⟩ := e2
  exact ⟨fun _ => fo_277b er y g l, fun z => absurd rfl z⟩
theorem fo_11b {f : Nat} {a2 i : Int32} {r : Except pe (FO × Nat)} {e : pe} (er : r = .error e) {k : am_H} (y : MY F n k m ad (.error e)) (g : mg m ad Xfo Yn h k) (l : ly f ad h k) : am_Ev tt 185 11 [some (.ref m), some (.int (Int32.ofNat f)), some (.int a2), some (.int i), none, none, none, none] [] k (am_pV (foQ F n m ad h f r) no_x) := by
  have nx : am_Ev tt 185 223 [some (.ref m), some (.int (Int32.ofNat f)), some (.int a2), none, none, none, none, none] [] k (am_pV (foQ F n m ad h f r) no_x) :=
    fo_223 y (fun k2 y2 g2 _ => fo_252b er y2 (g.tr (g2.mo (fun _ z => by omega) (fun _ z => z.elim))) (l.tr (ly.g g2 (fun r _ _ => by omega))))
  refine vc_185_11 tt _ _ _ _ _ _ _ ⟨fun _ => nx, fun _ => ⟨y.1.1, _, _, ct_mfine y, fun x k2 e2 => ?_, fun _ _ z => z.elim⟩⟩
  obtain ⟨rfl, rfl⟩ := e2
  exact ⟨fun _ => nx, fun z => absurd rfl z⟩
/-- its bonds, and then how they lie -/
theorem fo_252 {f nc : Nat} (hf : f < 6) (h1 : 1 ≤ nc) (h3 : nc ≤ 3) {ks ds : Nat → Int32} {r : Except pe (FO × Nat)} : ∀ (d i : Nat) (k : am_H) (q : Nat) (b : List (Nat × Nat)), d + i = nc - 1 → MY F n k m ad (.ok q) → mg m ad Xfo Yn h k → ly f ad h k → MBR ad k b → vB nc b → b.length = i → (∀ c, c < nc → am_A k (ad 52) c = ks c ∧ (ks c = Int32.ofNat 1 → am_A k (ad 56) c + Int32.ofNat 1 = ds c)) → r = bd (lBo F n nc d q b) (fun bs p => .ok (mkF nc ks ds bs, p)) → am_Ev tt 185 252 [some (.ref m), some (.int (Int32.ofNat f)), some (.int (Int32.ofNat nc)), some (.int (Int32.ofNat i)), none, none, none, none] [] k (am_pV (foQ F n m ad h f r) no_x) := by
  intro d
  induction d with
  | zero =>
    intro i k q b ei y g l br hv hl hk hr
    have kk := y.1.1
    have hr : r = .ok (mkF nc ks ds b, q) := hr
    have i1 : nc ≤ i + 1 := by omega
    refine vc_185_252 tt _ _ _ _ _ _ _ ?_
    simp (disch := omega) only [i1, qi_lt, qi_le, qi_eq, qi_nn, qi_in, qi_add, qi_l, ql_i, ql_lt, ql_le, ql_eq, ql_add, qc_lt, qc_eq, qc_ge, qc_gt, qc_le, true_and, and_true, and_self, true_or, or_true, false_or, or_false, false_and, and_false, not_true_eq_false, not_false_eq_true, Classical.not_not, true_implies, false_implies, implies_true, exists_eq_left, exists_eq_left', Option.some.injEq, reduceIte, Nat.reduceEqDiff, Nat.reduceLT, Nat.reduceLeDiff, Nat.reduceAdd, Nat.reduceSub, Nat.reduceMul, eq_self, ne_eq, and_imp, forall_const, reduceCtorEq, am_w, List.map_cons, List.map_nil, List.sum_cons, List.sum_nil, Value.category, Nat.zero_le, Nat.le_refl]
    refine vc_185_277 tt _ _ _ _ _ _ ⟨kk, _, _, ct_mfine y, fun x k2 e2 => ?_, fun _ _ z => z.elim⟩
    obtain ⟨rfl, rfl⟩ := e2
    refine ⟨fun z => absurd z (show ¬ Int32.ofNat 1 = Int32.ofNat 0 by decide), fun _ => ⟨kk, _, _, ct_rlay y.1 hf h1 h3 br hv (by omega) hk, fun k3 w => ?_, fun _ _ z => z.elim⟩⟩
    obtain ⟨g3, l3, f3⟩ := w
    rw [hr]
    exact ⟨y.on g3 (by omega) id id id id, g.tr (g3.mo (fun _ z => by omega) (fun _ z => z.elim)), l.tr l3, fun o p' z => by cases z; exact f3⟩
  | succ d ih =>
    intro i k q b ei y g l br hv hl hk hr
    have kk := y.1.1
    have i1 : ¬ nc ≤ i + 1 := by omega
    have e0 : ∀ a : Int32, (a ≤ a + Int32.ofNat 1) = (a ≤ a + Int32.ofNat 1) := fun _ => rfl
    refine vc_185_252 tt _ _ _ _ _ _ _ ?_
    simp (disch := omega) only [i1, qi_lt, qi_le, qi_eq, qi_nn, qi_in, qi_add, qi_l, ql_i, ql_lt, ql_le, ql_eq, ql_add, qc_lt, qc_eq, qc_ge, qc_gt, qc_le, true_and, and_true, and_self, true_or, or_true, false_or, or_false, false_and, and_false, not_true_eq_false, not_false_eq_true, Classical.not_not, true_implies, false_implies, implies_true, exists_eq_left, exists_eq_left', Option.some.injEq, reduceIte, Nat.reduceEqDiff, Nat.reduceLT, Nat.reduceLeDiff, Nat.reduceAdd, Nat.reduceSub, Nat.reduceMul, eq_self, ne_eq, and_imp, forall_const, reduceCtorEq, am_w, List.map_cons, List.map_nil, List.sum_cons, List.sum_nil, Value.category, Nat.zero_le, Nat.le_refl]
    refine ⟨kk, _, _, ct_mfine y, fun x k2 e2 => ?_, fun _ _ z => z.elim⟩
    obtain ⟨rfl, rfl⟩ := e2
    refine ⟨fun z => absurd z (show ¬ Int32.ofNat 1 = Int32.ofNat 0 by decide), fun _ => ⟨kk, _, _, ct_rbond y h1 h3 br hv (by omega) rfl, fun k3 w => ?_, fun _ _ z => z.elim⟩⟩
    obtain ⟨y3, g3, b3⟩ := w
    have y3 : MY F n k3 m ad (st (pB1 F n nc b q)) := y3
    have b3 : ∀ b' p', pB1 F n nc b q = .ok (b', p') → MBR ad k3 b' := b3
    have gg : mg m ad Xfo Yn h k3 := g.tr (g3.mo (fun _ z => by omega) (fun _ z => z))
    have ll := l.tr (ly.g (f := f) g3 (fun r _ _ => by omega))
    rw [lBo_1] at hr
    cases e1 : pB1 F n nc b q with
    | error e =>
      rw [e1] at y3 hr
      exact fo_252b (e := e) hr y3 gg ll
    | ok a =>
      obtain ⟨b', q'⟩ := a
      rw [e1] at y3 hr
      have hv' : vB nc b' ∧ b'.length = i + 1 := by
        rw [pB1] at e1
        obtain ⟨t, p1, t1, e1⟩ := bd_inv e1
        obtain ⟨g', p2, t2, e1⟩ := bd_inv e1
        obtain ⟨ti, rfl, u1, u2, _⟩ := tN_n (by omega) (by omega) t1
        obtain ⟨gi, rfl, u3, u4, _⟩ := tN_n (by omega) (by omega) t2
        have c1 : (Int64.ofNat ti).toNatClampNeg = ti := Int64.toNatClampNeg_ofNat_of_lt (by omega)
        have c2 : (Int64.ofNat gi).toNatClampNeg = gi := Int64.toNatClampNeg_ofNat_of_lt (by omega)
        rw [c1, c2] at e1
        split at e1
        · cases e1
        · next hc =>
          cases e1
          refine ⟨vB_s hv (by omega) ⟨Classical.not_not.1 (fun z => hc (Or.inl z)), Classical.not_not.1 (fun z => hc (Or.inr (Or.inl z))), ?_, by omega, by omega⟩, by rw [List.length_append, hl]; rfl⟩
          cases hq : lds b gi ti with
          | false => rfl
          | true => exact absurd (Or.inr (Or.inr hq)) hc
      exact ih (i + 1) k3 q' b' (by omega) y3 gg ll (b3 b' q' e1) hv'.1 hv'.2 (fun c hc => by rw [(g3.2.1 52 (by omega)).1, (g3.2.1 56 (by omega)).1]; exact hk c hc) hr
theorem ct_rfolder (y : MY F n h m ad s) {f : Nat} (hf : f < 6) {r : Except pe (FO × Nat)} (hr : r = bs s (pFo F n)) : am_Ct tt 185 [.ref m, .int (Int32.ofNat f)] h (am_pV (foQ F n m ad h f r) no_x) := by
  refine vc_185_0 tt _ _ h _ _ ⟨y.1.1, _, _, ct_rnumberIn y (l := l64 1) (u := l64 3) (by decide) rfl, fun x k e => ?_, fun _ _ z => z.elim⟩
  obtain ⟨y2, g2, v2, _, _⟩ := e
  have g : mg m ad Xfo Yn h k := g2.mo (fun _ z => z.elim) (fun _ z => z)
  have l : ly f ad h k := ly.g g2 (fun _ _ _ z => z)
  cases s with
  | error e => exact fo_11b (e := e) hr y2 g l
  | ok p =>
    have hr : r = pFo F n p := hr
    rw [pFo] at hr
    have y2 : MY F n k m ad (st (tN F n p (l64 1) (l64 3))) := y2
    have v2 : ∀ a p', tN F n p (l64 1) (l64 3) = .ok (a, p') → x = a.toInt32 := v2
    cases e1 : tN F n p (l64 1) (l64 3) with
    | error e =>
      rw [e1] at y2 hr
      exact fo_11b (e := e) hr y2 g l
    | ok a =>
      obtain ⟨a, p1⟩ := a
      obtain ⟨nc, rfl, u1, u2, _⟩ := tN_n (by omega) (by omega) e1
      have ex := v2 _ _ e1
      have ex : x = Int32.ofNat nc := by rw [ex]; exact ql_i
      subst ex
      have c1 : (Int64.ofNat nc).toNatClampNeg = nc := Int64.toNatClampNeg_ofNat_of_lt (by omega)
      rw [e1] at y2 hr
      have hr : r = bd (lCo F n (Int64.ofNat nc).toNatClampNeg 0 p1 (fun _ => 0) (fun _ => 0)) fun kd p => bd (lBo F n (Int64.ofNat nc).toNatClampNeg ((Int64.ofNat nc).toNatClampNeg - 1) p []) fun bs p => .ok (mkF (Int64.ofNat nc).toNatClampNeg kd.1 kd.2 bs, p) := hr
      rw [c1] at hr
      have key : ∀ (d c : Nat) (k : am_H) (q : Nat) (ks ds : Nat → Int32), d + c = nc → MY F n k m ad (.ok q) → mg m ad Xfo Yn h k → ly f ad h k → (∀ j, j < c → am_A k (ad 52) j = ks j ∧ (ks j = Int32.ofNat 1 → am_A k (ad 56) j + Int32.ofNat 1 = ds j)) → r = bd (lCo F n d c q ks ds) (fun kd p => bd (lBo F n nc (nc - 1) p []) fun bs p => .ok (mkF nc kd.1 kd.2 bs, p)) → am_Ev tt 185 11 [some (.ref m), some (.int (Int32.ofNat f)), some (.int (Int32.ofNat nc)), some (.int (Int32.ofNat c)), none, none, none, none] [] k (am_pV (foQ F n m ad h f r) no_x) := by
        intro d
        induction d with
        | zero =>
          intro c k q ks ds ec y g l hk hr
          have : c = nc := by omega
          subst this
          have hr : r = bd (lBo F n c (c - 1) q []) fun bs p => .ok (mkF c ks ds bs, p) := hr
          refine vc_185_11 tt _ _ _ _ _ _ _ ⟨fun _ => ?_, fun z => absurd (Int32.le_refl _) z⟩
          refine fo_223 y (fun k2 y2 g2 b2 => ?_)
          exact fo_252 hf u1 u2 (c - 1) 0 k2 q [] (by omega) y2 (g.tr (g2.mo (fun _ z => by omega) (fun _ z => z.elim))) (l.tr (ly.g g2 (fun r _ _ => by omega))) b2 trivial rfl (fun j hj => by rw [(g2.2.1 52 (by omega)).1, (g2.2.1 56 (by omega)).1]; exact hk j hj) hr
        | succ d ih =>
          intro c k q ks ds ec y g l hk hr
          have kk := y.1.1
          have e27 := y.2.2.2.2.1.2
          have c1 : ¬ nc ≤ c := by omega
          refine vc_185_11 tt _ _ _ _ _ _ _ ?_
          simp (disch := omega) only [c1, qi_lt, qi_le, qi_eq, qi_nn, qi_in, qi_add, qi_l, ql_i, ql_lt, ql_le, ql_eq, ql_add, qc_lt, qc_eq, qc_ge, qc_gt, qc_le, true_and, and_true, and_self, true_or, or_true, false_or, or_false, false_and, and_false, not_true_eq_false, not_false_eq_true, Classical.not_not, true_implies, false_implies, implies_true, exists_eq_left, exists_eq_left', Option.some.injEq, reduceIte, Nat.reduceEqDiff, Nat.reduceLT, Nat.reduceLeDiff, Nat.reduceAdd, Nat.reduceSub, Nat.reduceMul, eq_self, ne_eq, and_imp, forall_const, reduceCtorEq, am_w, List.map_cons, List.map_nil, List.sum_cons, List.sum_nil, Value.category, Nat.zero_le, Nat.le_refl]
          refine ⟨kk, _, _, ct_mfine y, fun x k2 e2 => ?_, fun _ _ z => z.elim⟩
          obtain ⟨rfl, rfl⟩ := e2
          refine ⟨fun z => absurd z (show ¬ Int32.ofNat 1 = Int32.ofNat 0 by decide), fun _ => ⟨kk, ?_⟩⟩
          rw [e27]
          refine co_29 (by omega) rfl y (fun k3 y3 g3 q3 p3 => ?_)
          have gg : mg m ad Xfo Yn h k3 := g.tr (g3.mo (fun _ z => by omega) (fun _ z => z))
          have ll := l.tr (ly.g (f := f) g3 (fun r _ _ => by omega))
          rw [lCo] at hr
          cases e1 : pCo F n q with
          | error e =>
            rw [e1] at y3 hr
            exact fo_11b (e := e) hr y3 gg ll
          | ok a =>
            obtain ⟨kd, q'⟩ := a
            rw [e1] at y3 hr
            obtain ⟨q31, q32⟩ := q3 kd q' e1
            refine ih (c + 1) k3 q' _ _ (by omega) y3 gg ll (fun j hj => ?_) hr
            unfold va_up
            by_cases cj : j = c
            · subst cj
              rw [if_pos rfl, if_pos rfl]
              exact ⟨q31, q32⟩
            · rw [if_neg cj, if_neg cj, (p3 j (by omega)).1, (p3 j (by omega)).2]
              exact hk j (by omega)
      exact key nc 0 k p1 _ _ (by omega) y2 g l (fun j hj => absurd hj (by omega)) hr
end MFO
