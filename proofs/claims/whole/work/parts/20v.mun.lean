/-! deps: 20u -/
/-! ===== the reference reads: a block is unpacked; what is known of files ===== -/
/-! 201 yX10_unpack -/
theorem vc_201_0 (tt : Nat → Nat) (a0 : Nat) (a1 : Int32) (a2 : Int32) (h : am_H) (Q : am_H → Prop) (Qx : String → am_H → Prop) (q :
  am_Ev tt 201 2 [some (.ref a0), some (.int a1), some (.int a2), some (.int (Int32.ofNat 0))] [] h (am_pV Q Qx)) :
  am_Ev tt 201 0 [some (.ref a0), some (.int a1), some (.int a2), none] [] h (am_pV Q Qx) := am_vc 5 [(2, [true, true, true, true]), (41, [true, true, false, true])] q
theorem vc_201_2 (tt : Nat → Nat) (a0 : Nat) (a1 : Int32) (a2 : Int32) (a3 : Int32) (h : am_H) (Q : am_H → Prop) (Qx : String → am_H → Prop) (q :
  (am_K h a0 = 11 ∧ ∃ q1, am_R h 10 31 a0 = some q1 ∧
  ((am_K h q1 = 21 ∨ am_K h q1 = 31) ∧ vp_in a1 (am_N h q1) ∧
  (((am_A h q1 (a1).toNatClampNeg) ≤ a3 →
   (am_K h a0 = 11 ∧ ∃ q2, am_R h 10 37 a0 = some q2 ∧
   ((am_K h q2 = 21 ∨ am_K h q2 = 31) ∧ vp_in a1 (am_N h q2) ∧
   am_Ev tt 201 41 [some (.ref a0), some (.int a1), none, some (.int ((am_A h q2 (a1).toNatClampNeg) - (Int32.ofNat 1)))] [] h (am_pV Q Qx)))) ∧
  (¬ ((am_A h q1 (a1).toNatClampNeg) ≤ a3) →
   (am_K h a0 = 11 ∧ ∃ q3, am_R h 10 21 a0 = some q3 ∧
   (am_K h a0 = 11 ∧ ∃ q4, am_R h 10 18 a0 = some q4 ∧
   ((am_K h q4 = 23 ∨ am_K h q4 = 24) ∧ vp_in (a2 + a3) (am_N h q4) ∧
   (vp_in a3 (am_N h q3) ∧ ∃ w5, ((am_K h q3 = 23 ∧ w5 = ((am_A h q4 ((a2 + a3)).toNatClampNeg)).toInt8.toInt32) ∨ (am_K h q3 = 24 ∧ w5 = ((am_A h q4 ((a2 + a3)).toNatClampNeg) &&& 1))) ∧
   am_Ev tt 201 2 [some (.ref a0), some (.int a1), some (.int a2), some (.int (a3 + (Int32.ofNat 1)))] [] (am_sA h q3 (a3).toNatClampNeg w5) (am_pV Q Qx)))))))))) :
  am_Ev tt 201 2 [some (.ref a0), some (.int a1), some (.int a2), some (.int a3)] [] h (am_pV Q Qx) := am_vc 21 [(2, [true, true, true, true]), (41, [true, true, false, true])] q
theorem vc_201_41 (tt : Nat → Nat) (a0 : Nat) (a1 : Int32) (a3 : Int32) (h : am_H) (Q : am_H → Prop) (Qx : String → am_H → Prop) (q :
  ((a3 < (Int32.ofNat 0) →
   Q h) ∧
  (¬ (a3 < (Int32.ofNat 0)) →
   (am_K h a0 = 11 ∧ ∃ q1, am_R h 10 35 a0 = some q1 ∧
   ((am_K h q1 = 21 ∨ am_K h q1 = 31) ∧ vp_in (((Int32.ofNat 3) * a1) + a3) (am_N h q1) ∧
   (am_K h a0 = 11 ∧ ∃ q2, am_R h 10 36 a0 = some q2 ∧
   ((am_K h q2 = 21 ∨ am_K h q2 = 31) ∧ vp_in (((Int32.ofNat 3) * a1) + a3) (am_N h q2) ∧
   (am_K h a0 = 11 ∧ ∃ q3, am_R h 10 31 a0 = some q3 ∧
   ((am_K h q3 = 21 ∨ am_K h q3 = 31) ∧ vp_in a1 (am_N h q3) ∧
   (am_K h a0 = 11 ∧ ∃ (Q5 : am_H → Prop) (X5 : String → am_H → Prop), am_Ct tt 133 [.ref a0, .int (am_A h q1 ((((Int32.ofNat 3) * a1) + a3)).toNatClampNeg), .int (am_A h q2 ((((Int32.ofNat 3) * a1) + a3)).toNatClampNeg), .int (am_A h q3 (a1).toNatClampNeg), .int (Int32.ofNat 1)] h (am_pV Q5 X5) ∧ (∀ h4, Q5 h4 →
    am_Ev tt 201 41 [some (.ref a0), some (.int a1), none, some (.int (a3 + (-1 : Int32)))] [] h4 (am_pV Q Qx)) ∧ (∀ E6 h4, X5 E6 h4 → Qx E6 h4))))))))))) :
  am_Ev tt 201 41 [some (.ref a0), some (.int a1), none, some (.int a3)] [] h (am_pV Q Qx) := am_vc 30 [(2, [true, true, true, true]), (41, [true, true, false, true])] q

def HM (x : FI) (b : Nat) : Prop := (∀ f, f + 1 < x.1 → x.2.1 (f + 1) = x.2.1 f ∨ x.2.1 (f + 1) = x.2.1 f + 1) ∧ (0 < x.1 → x.2.1 0 = 0) ∧ (x.1 = 0 → b = 0) ∧ (0 < x.1 → x.2.1 (x.1 - 1) = b ∨ x.2.1 (x.1 - 1) + 1 = b)
theorem HM.ad {x : FI} {b z : Nat} (h : HM x b) : HM (adF x b z) b ∧ (adF x b z).2.1 ((adF x b z).1 - 1) = b := by
  obtain ⟨h1, h2, h3, h4⟩ := h
  have e : ∀ f, (adF x b z).2.1 f = if f = x.1 then b else x.2.1 f := fun f => rfl
  have e1 : (adF x b z).1 = x.1 + 1 := rfl
  refine ⟨⟨fun f hf => ?_, fun _ => ?_, fun z => by rw [e1] at z; omega, fun _ => Or.inl ?_⟩, ?_⟩
  · rw [e1] at hf
    rw [e, e]
    by_cases c : f + 1 = x.1
    · rw [if_pos c, if_neg (by omega)]
      have := h4 (by omega)
      rw [show x.1 - 1 = f by omega] at this
      omega
    · rw [if_neg c, if_neg (by omega)]
      exact h1 f (by omega)
  · rw [e]
    by_cases c : 0 = x.1
    · rw [if_pos c]; exact h3 c.symm
    · rw [if_neg c]; exact h2 (by omega)
  · rw [e1, e, if_pos (by omega)]
  · rw [e1, e, if_pos (by omega)]
theorem lFi_h {F : Fn} {n b : Nat} : ∀ (d p left : Nat) (x : FI) {x' : FI} {p' : Nat}, lFi F n b d p left x = .ok (x', p') → HM x b → HM x' (b + 1)
  | 0, p, left, x, x', p', h, hx => by
    rw [lFi] at h
    cases h
    obtain ⟨⟨h1, h2, h3, h4⟩, h5⟩ := hx.ad (z := left)
    exact ⟨h1, h2, fun z => absurd z (by show ¬ x.1 + 1 = 0; omega), fun _ => Or.inr (by rw [h5])⟩
  | d + 1, p, left, x, x', p', h, hx => by
    rw [lFi] at h
    obtain ⟨v, q, _, h⟩ := bd_inv h
    exact lFi_h d q _ _ h hx.ad.1
theorem lFs_h {F : Fn} {n : Nat} {g fc : Nat → Nat} : ∀ (d b p : Nat) (x : FI) {x' : FI} {p' : Nat}, lFs F n g fc d b p x = .ok (x', p') → HM x b → HM x' (b + d)
  | 0, b, p, x, x', p', h, hx => by
    rw [lFs] at h
    cases h
    exact hx
  | d + 1, b, p, x, x', p', h, hx => by
    rw [lFs] at h
    obtain ⟨x2, q, e1, h⟩ := bd_inv h
    rw [show b + (d + 1) = b + 1 + d by omega]
    exact lFs_h d (b + 1) q x2 h (lFi_h _ _ _ _ e1 hx)
theorem pFX_h {F : Fn} {n B : Nat} {g : Nat → Nat} {p : Nat} {x : FI} {p' : Nat} (h : pFX F n B g p = .ok (x, p')) : HM x B := by
  have h0 : HM FI0 0 := ⟨fun f hf => absurd hf (Nat.not_lt_zero _), fun z => absurd z (Nat.not_lt_zero 0), fun _ => rfl, fun z => absurd z (Nat.not_lt_zero 0)⟩
  unfold pFX at h
  obtain ⟨t, _, _, e2⟩ := bd_inv h
  split at e2
  · obtain ⟨sf, q3, e3, e2⟩ := bd_inv e2
    split at e2
    · cases e2
    · obtain ⟨_, q4, _, e2⟩ := bd_inv e2
      have := lFs_h B 0 _ _ e2 h0
      rw [Nat.zero_add] at this
      exact this
  · have := lFs_h B 0 _ _ e2 h0
    rw [Nat.zero_add] at this
    exact this
theorem lCk_v {F : Fn} {n : Nat} : ∀ (d i p : Nat) (c : Nat → Int64) {c' : Nat → Int64} {p' : Nat}, lCk F n d i p c = .ok (c', p') → (∀ j, j < i → ∃ q, c j = lt F q 4) → ∀ j, j < i + d → ∃ q, c' j = lt F q 4
  | 0, i, p, c, c', p', h, hc => by
    rw [lCk] at h
    cases h
    exact hc
  | d + 1, i, p, c, c', p', h, hc => by
    rw [lCk] at h
    obtain ⟨v, q, e1, h⟩ := bd_inv h
    rw [show i + (d + 1) = i + 1 + d by omega]
    refine lCk_v d (i + 1) q _ h (fun j hj => ?_)
    unfold va_up
    by_cases cj : j = i
    · rw [if_pos cj]
      rw [tL] at e1
      split at e1
      · cases e1; exact ⟨p, rfl⟩
      · cases e1
    · rw [if_neg cj]; exact hc j (by omega)
/-- more of what was read -/
def RW (F : Fn) (rd : RD) : Prop := (∃ b, HM rd.1.2.2.2.1 b) ∧ ∀ f, f < rd.1.2.2.2.1.1 → ∃ q, rd.1.2.2.2.2 f = lt F q 4
theorem pRD_w {F : Fn} {n : Nat} {rd : RD} (h : pRD F n = .ok rd) : RW F rd := by
  have z0 : (∃ b, HM FI0 b) ∧ ∀ f, f < FI0.1 → ∃ q, (fun _ => Int64.ofNat 0 : Nat → Int64) f = lt F q 4 := ⟨⟨0, fun f hf => absurd hf (Nat.not_lt_zero _), fun z => absurd z (Nat.not_lt_zero 0), fun _ => rfl, fun z => absurd z (Nat.not_lt_zero 0)⟩, fun f hf => absurd hf (Nat.not_lt_zero f)⟩
  unfold pRD at h
  cases eh : pHD F n with
  | error e => rw [eh] at h; cases h
  | ok u =>
    rw [eh] at h
    have h2 : (if lt F 20 8 = Int64.ofNat 0 then .ok RD0 else pBY F n (lt F 12 8).toNatClampNeg) = Except.ok rd := h
    split at h2
    · cases h2
      exact z0
    · unfold pBY at h2
      obtain ⟨_, q1, _, h2⟩ := bd_inv h2
      obtain ⟨st, q2, e2, h2⟩ := bd_inv h2
      obtain ⟨_, _, _, h2⟩ := bd_inv h2
      obtain ⟨en, q3, e3, h2⟩ := bd_inv h2
      obtain ⟨nm, q4, e4, h2⟩ := bd_inv h2
      obtain ⟨tm, q5, e5, h2⟩ := bd_inv h2
      obtain ⟨av, q6, e6, h2⟩ := bd_inv h2
      obtain ⟨_, _, _, h2⟩ := bd_inv h2
      obtain ⟨_, _, _, h2⟩ := bd_inv h2
      split at h2
      · cases h2
      · cases h2
        split at e2
        · unfold pST at e2
          obtain ⟨_, _, _, e2⟩ := bd_inv e2
          obtain ⟨bp, _, f1, e2⟩ := bd_inv e2
          obtain ⟨fg, _, f2, e2⟩ := bd_inv e2
          obtain ⟨xc, _, f3, e2⟩ := bd_inv e2
          obtain ⟨_, _, _, e2⟩ := bd_inv e2
          cases e2
          rw [pFI_x] at f3
          obtain ⟨_, _, _, f3⟩ := bd_inv f3
          obtain ⟨x, _, g1, f3⟩ := bd_inv f3
          obtain ⟨_, _, _, f3⟩ := bd_inv f3
          obtain ⟨_, _, _, f3⟩ := bd_inv f3
          obtain ⟨c, _, g2, f3⟩ := bd_inv f3
          obtain ⟨_, _, _, f3⟩ := bd_inv f3
          cases f3
          refine ⟨⟨_, pFX_h g1⟩, fun f hf => ?_⟩
          exact lCk_v x.1 0 _ _ g2 (fun j hj => absurd hj (Nat.not_lt_zero j)) f (by rw [Nat.zero_add]; exact hf)
        · cases e2
          exact z0
/-- the check, as an int and as a long -/
theorem ck_l {x : Int32} {F : Fn} {p : Nat} : (x.toInt64 &&& Int64.ofNat 4294967295 = lt F p 4) ↔ x = (lt F p 4).toInt32 := by
  have hm : ∀ i, i < 64 → (Int64.ofNat 4294967295).toBitVec.getLsbD i = decide (i < 32) := by decide
  refine ⟨fun h => ?_, fun h => ?_⟩
  · apply Int32.toBitVec_inj.1
    apply BitVec.eq_of_getLsbD_eq
    intro i hi
    have h2 := congrArg (fun y : Int64 => y.toBitVec.getLsbD i) h
    simp only [Int64.toBitVec_and, BitVec.getLsbD_and, Int32.toBitVec_toInt64] at h2
    rw [hm i (by omega), decide_eq_true hi, Bool.and_true, BitVec.getLsbD_signExtend, if_pos hi, decide_eq_true (show i < 64 by omega), Bool.true_and] at h2
    rw [Int64.toBitVec_toInt32, BitVec.getLsbD_signExtend, if_pos (by omega), decide_eq_true hi, Bool.true_and, h2]
  · apply Int64.toBitVec_inj.1
    apply BitVec.eq_of_getLsbD_eq
    intro i hi
    rw [Int64.toBitVec_and, BitVec.getLsbD_and, hm i hi]
    by_cases c : i < 32
    · rw [decide_eq_true c, Bool.and_true, Int32.toBitVec_toInt64, BitVec.getLsbD_signExtend, if_pos c, decide_eq_true hi, Bool.true_and, h, Int64.toBitVec_toInt32, BitVec.getLsbD_signExtend, if_pos (by omega), decide_eq_true c, Bool.true_and]
    · rw [decide_eq_false c, Bool.and_false, lt_bit (by omega), decide_eq_false (by omega), Bool.false_and]
theorem dn_1 : ∀ t, t < 4 → Int32.ofNat t + (-1 : Int32) = Int32.ofNat t - Int32.ofNat 1 := by decide
section MUN
variable {tt : Nat → Nat} {F : Fn} {n m : Nat} {ad : Nat → Nat} {h h' h'' k k' : am_H} {X Y X' Y' : Nat → Prop}
theorem mg.cA (sm : md_s h m ad) {k : Nat} {f : Nat → Int32} (hk : X k) : mg m ad X Y h (am_cA h (ad k) f) := ⟨mfr.cA, fun j z => ⟨by simp only [am_hs]; rw [if_neg (fun w => z (by rw [sm.2.2 _ _ w]; exact hk))], rfl⟩, fun _ _ => ⟨rfl, rfl⟩⟩
abbrev Xun (k : Nat) : Prop := k = 21 ∨ k = 22
theorem ct_runpack (sm : md_s h m ad) {f fr Pz nc : Nat} {ks ds : Nat → Int32} (hf : f < 6) (hP : Pz ≤ 2400) (hfr : fr + Pz ≤ 5000) (hnc : nc ≤ 3) (e31 : am_A h (ad 31) f = Int32.ofNat Pz) (e37 : am_A h (ad 37) f = Int32.ofNat nc) (hk : ∀ j, j < nc → am_A h (ad 35) (3 * f + j) = ks j ∧ am_A h (ad 36) (3 * f + j) = ds j ∧ ∃ d, ds j = Int32.ofNat d ∧ d ≤ 256 ∧ (ks j = Int32.ofNat 1 → 1 ≤ d)) :
    am_Ct tt 201 [.ref m, .int (Int32.ofNat f), .int (Int32.ofNat fr)] h (am_pV (fun k => mg m ad Xun Yz h k ∧ ∀ j, j < Pz → am_A k (ad 21) j = cous ks ds Pz nc (fun j => by8 (am_A h (ad 18) (fr + j))) j) no_x) := by
  have l41 : ∀ (t : Nat) (k : am_H), t ≤ nc → mg m ad Xun Yz h k → (∀ j, j < Pz → cous ks ds Pz t (am_A k (ad 21)) j = cous ks ds Pz nc (fun j => by8 (am_A h (ad 18) (fr + j))) j) → am_Ev tt 201 41 [some (.ref m), some (.int (Int32.ofNat f)), none, some (.int (Int32.ofNat t - Int32.ofNat 1))] [] k (am_pV (fun k => mg m ad Xun Yz h k ∧ ∀ j, j < Pz → am_A k (ad 21) j = cous ks ds Pz nc (fun j => by8 (am_A h (ad 18) (fr + j))) j) no_x) := by
    intro t
    induction t with
    | zero =>
      intro k _ g hj
      refine vc_201_41 tt _ _ _ _ _ _ ⟨fun _ => ⟨g, hj⟩, fun z => absurd (by decide) z⟩
    | succ t ih =>
      intro k ht g hj
      have sk := g.1.md sm
      have kk := sk.1
      have dj := ad_ne sk
      rw [qi_sub (by omega), Nat.add_sub_cancel]
      have i18 : 3 * f + t < 18 := by omega
      obtain ⟨k1, k2, d, k3, k4, k5⟩ := hk t (by omega)
      have e35 : am_A k (ad 35) (3 * f + t) = ks t := by rw [(g.2.1 35 (by omega)).1]; exact k1
      have e36 : am_A k (ad 36) (3 * f + t) = Int32.ofNat d := by rw [(g.2.1 36 (by omega)).1, k2]; exact k3
      have e31' : am_A k (ad 31) f = Int32.ofNat Pz := by rw [(g.2.1 31 (by omega)).1]; exact e31
      obtain ⟨a1, a2, a3⟩ := md_r sk (k := 35) (by decide) rfl (by decide)
      obtain ⟨b1, b2, b3⟩ := md_r sk (k := 36) (by decide) rfl (by decide)
      obtain ⟨c1, c2, c3⟩ := md_r sk (k := 31) (by decide) rfl (by decide)
      refine vc_201_41 tt _ _ _ _ _ _ ⟨fun z => absurd z ?_, fun _ => ?_⟩
      · simp (disch := omega) only [qi_lt, qi_le, qi_eq, qi_nn, qi_in, qi_add, qi_l, ql_i, ql_lt, ql_le, ql_eq, ql_add, qc_lt, qc_eq, qc_ge, qc_gt, qc_le]; omega
      · simp (disch := omega) only [kk, a1, a2, a3, b1, b2, b3, c1, c2, c3, hf, i18, e35, e36, e31', qi_mul, qi_lt, qi_le, qi_eq, qi_nn, qi_in, qi_add, qi_l, ql_i, ql_lt, ql_le, ql_eq, ql_add, qc_lt, qc_eq, qc_ge, qc_gt, qc_le, true_and, and_true, and_self, true_or, or_true, false_or, or_false, false_and, and_false, not_true_eq_false, not_false_eq_true, Classical.not_not, true_implies, false_implies, implies_true, exists_eq_left, exists_eq_left', Option.some.injEq, reduceIte, Nat.reduceEqDiff, Nat.reduceLT, Nat.reduceLeDiff, Nat.reduceAdd, Nat.reduceSub, Nat.reduceMul, eq_self, ne_eq, and_imp, forall_const, reduceCtorEq, am_w, List.map_cons, List.map_nil, List.sum_cons, List.sum_nil, Value.category, Nat.zero_le, Nat.le_refl]
        refine ⟨_, _, ct_code sk (by omega) (fun z => ⟨k5 z, k4⟩) (Or.inr rfl), fun k6 e6 => ?_, fun _ _ z => z.elim⟩
        obtain ⟨o, rfl⟩ := e6
        rw [dn_1 t (by omega)]
        rw [if_neg (show ¬ Int32.ofNat 1 = Int32.ofNat 0 by decide)]
        have s1 : mg m ad Xun Yz k (am_cA k (ad 22) o) := mg.cA sk (Or.inr rfl)
        have s2 : mg m ad Xun Yz (am_cA k (ad 22) o) (am_cA (am_cA k (ad 22) o) (ad 21) (cou (ks t) d Pz (am_A k (ad 21)))) := mg.cA (s1.1.md sk) (Or.inl rfl)
        refine ih _ (by omega) (g.tr (s1.tr s2)) (fun j hj' => ?_)
        have := hj j hj'
        rw [cous, k3, Int32.toNatClampNeg_ofNat_of_lt (by omega)] at this
        rw [← this]
        simp (disch := omega) only [am_hs, dj, true_and, and_true, and_self, true_or, or_true, false_or, or_false, false_and, and_false, not_true_eq_false, not_false_eq_true, Classical.not_not, true_implies, false_implies, implies_true, exists_eq_left, exists_eq_left', Option.some.injEq, reduceIte, Nat.reduceEqDiff, Nat.reduceLT, Nat.reduceLeDiff, Nat.reduceAdd, Nat.reduceSub, Nat.reduceMul, eq_self, ne_eq, and_imp, forall_const, reduceCtorEq, am_w, List.map_cons, List.map_nil, List.sum_cons, List.sum_nil, Value.category, Nat.zero_le, Nat.le_refl]
  have l2 : ∀ (d i : Nat) (k : am_H), d + i = Pz → mg m ad Xun Yz h k → (∀ j, j < i → am_A k (ad 21) j = by8 (am_A h (ad 18) (fr + j))) → am_Ev tt 201 2 [some (.ref m), some (.int (Int32.ofNat f)), some (.int (Int32.ofNat fr)), some (.int (Int32.ofNat i))] [] k (am_pV (fun k => mg m ad Xun Yz h k ∧ ∀ j, j < Pz → am_A k (ad 21) j = cous ks ds Pz nc (fun j => by8 (am_A h (ad 18) (fr + j))) j) no_x) := by
    intro d
    induction d with
    | zero =>
      intro i k ei g hj
      have : i = Pz := by omega
      subst this
      have sk := g.1.md sm
      have kk := sk.1
      have e31' : am_A k (ad 31) f = Int32.ofNat i := by rw [(g.2.1 31 (by omega)).1]; exact e31
      have e37' : am_A k (ad 37) f = Int32.ofNat nc := by rw [(g.2.1 37 (by omega)).1]; exact e37
      obtain ⟨c1, c2, c3⟩ := md_r sk (k := 31) (by decide) rfl (by decide)
      obtain ⟨b1, b2, b3⟩ := md_r sk (k := 37) (by decide) rfl (by decide)
      refine vc_201_2 tt _ _ _ _ _ _ _ ?_
      simp (disch := omega) only [kk, b1, b2, b3, c1, c2, c3, hf, e31', e37', qi_lt, qi_le, qi_eq, qi_nn, qi_in, qi_add, qi_l, ql_i, ql_lt, ql_le, ql_eq, ql_add, qc_lt, qc_eq, qc_ge, qc_gt, qc_le, true_and, and_true, and_self, true_or, or_true, false_or, or_false, false_and, and_false, not_true_eq_false, not_false_eq_true, Classical.not_not, true_implies, false_implies, implies_true, exists_eq_left, exists_eq_left', Option.some.injEq, reduceIte, Nat.reduceEqDiff, Nat.reduceLT, Nat.reduceLeDiff, Nat.reduceAdd, Nat.reduceSub, Nat.reduceMul, eq_self, ne_eq, and_imp, forall_const, reduceCtorEq, am_w, List.map_cons, List.map_nil, List.sum_cons, List.sum_nil, Value.category, Nat.zero_le, Nat.le_refl]
      exact l41 nc k (Nat.le_refl nc) g (fun j hj' => cous_fr nc _ _ (fun c _ => ⟨rfl, rfl⟩) hj j hj')
    | succ d ih =>
      intro i k ei g hj
      have sk := g.1.md sm
      have kk := sk.1
      have dj := ad_ne sk
      have e31' : am_A k (ad 31) f = Int32.ofNat Pz := by rw [(g.2.1 31 (by omega)).1]; exact e31
      have e18 : am_A k (ad 18) (fr + i) = am_A h (ad 18) (fr + i) := by rw [(g.2.1 18 (by omega)).1]
      obtain ⟨c1, c2, c3⟩ := md_r sk (k := 31) (by decide) rfl (by decide)
      obtain ⟨b1, b2, b3⟩ := md_r sk (k := 18) (by decide) rfl (by decide)
      obtain ⟨d1, d2, d3⟩ := md_r sk (k := 21) (by decide) rfl (by decide)
      have q1 : ¬ Pz ≤ i := by omega
      have q2 : fr + i < 5000 := by omega
      have q3 : i < 2880 := by omega
      refine vc_201_2 tt _ _ _ _ _ _ _ ?_
      simp (disch := omega) only [kk, b1, b2, b3, c1, c2, c3, d1, d2, d3, hf, e31', e18, q1, q2, q3, qi_lt, qi_le, qi_eq, qi_nn, qi_in, qi_add, qi_l, ql_i, ql_lt, ql_le, ql_eq, ql_add, qc_lt, qc_eq, qc_ge, qc_gt, qc_le, true_and, and_true, and_self, true_or, or_true, false_or, or_false, false_and, and_false, not_true_eq_false, not_false_eq_true, Classical.not_not, true_implies, false_implies, implies_true, exists_eq_left, exists_eq_left', Option.some.injEq, reduceIte, Nat.reduceEqDiff, Nat.reduceLT, Nat.reduceLeDiff, Nat.reduceAdd, Nat.reduceSub, Nat.reduceMul, eq_self, ne_eq, and_imp, forall_const, reduceCtorEq, am_w, List.map_cons, List.map_nil, List.sum_cons, List.sum_nil, Value.category, Nat.zero_le, Nat.le_refl]
      have s1 : mg m ad Xun Yz k (am_sA k (ad 21) i (am_A h (ad 18) (fr + i)).toInt8.toInt32) := mg.sA sk (Or.inl rfl)
      refine ih (i + 1) _ (by omega) (g.tr s1) (fun j hj' => ?_)
      by_cases cj : j = i
      · subst cj
        simp only [am_hs, true_and, and_true, and_self, true_or, or_true, false_or, or_false, false_and, and_false, not_true_eq_false, not_false_eq_true, Classical.not_not, true_implies, false_implies, implies_true, exists_eq_left, exists_eq_left', Option.some.injEq, reduceIte, Nat.reduceEqDiff, Nat.reduceLT, Nat.reduceLeDiff, Nat.reduceAdd, Nat.reduceSub, Nat.reduceMul, eq_self, ne_eq, and_imp, forall_const, reduceCtorEq, am_w, List.map_cons, List.map_nil, List.sum_cons, List.sum_nil, Value.category, Nat.zero_le, Nat.le_refl]
        rfl
      · simp (disch := omega) only [am_hs, cj, true_and, and_true, and_self, true_or, or_true, false_or, or_false, false_and, and_false, not_true_eq_false, not_false_eq_true, Classical.not_not, true_implies, false_implies, implies_true, exists_eq_left, exists_eq_left', Option.some.injEq, reduceIte, Nat.reduceEqDiff, Nat.reduceLT, Nat.reduceLeDiff, Nat.reduceAdd, Nat.reduceSub, Nat.reduceMul, eq_self, ne_eq, and_imp, forall_const, reduceCtorEq, am_w, List.map_cons, List.map_nil, List.sum_cons, List.sum_nil, Value.category, Nat.zero_le, Nat.le_refl]
        exact hj j (by omega)
  exact vc_201_0 tt _ _ _ h _ _ (l2 Pz 0 h (by omega) mg.re (fun j hj => absurd hj (by omega)))
end MUN
