/-! deps: 19t -/
/-! ===== the class reads: blocks unpacked ===== -/
/-! 83 yX7_unpackBlocks -/
theorem vc_83_0 (tt : Nat → Nat) (a0 : Nat) (a1 : Nat) (a2 : Nat) (a3 : Nat) (h : am_H) (Q : am_H → Prop) (Qx : String → am_H → Prop) (q :
  am_Ev tt 83 7 [some (.ref a0), some (.ref a1), some (.ref a2), some (.ref a3), some (.int (Int32.ofNat 32)), some (.int (Int32.ofNat 0)), none] [] h (am_pV Q Qx)) :
  am_Ev tt 83 0 [some (.ref a0), some (.ref a1), some (.ref a2), some (.ref a3), none, none, none] [] h (am_pV Q Qx) := am_vc 7 [(7, [true, true, true, true, true, true, false]), (55, [true, true, true, true, true, true, true]), (71, [true, true, true, true, true, true, true]), (96, [true, true, true, true, true, true, true])] q
theorem vc_83_7 (tt : Nat → Nat) (a0 : Nat) (a1 : Nat) (a2 : Nat) (a3 : Nat) (a4 : Int32) (a5 : Int32) (h : am_H) (Q : am_H → Prop) (Qx : String → am_H → Prop) (q :
  (am_K h a0 = 8 ∧ ∃ q1, am_R h 7 1 a0 = some q1 ∧
  (am_K h q1 = 6 ∧
  (((am_I h 5 1 q1) ≤ a5 →
   Q h) ∧
  (¬ ((am_I h 5 1 q1) ≤ a5) →
   (am_K h a0 = 8 ∧ ∃ q2, am_R h 7 1 a0 = some q2 ∧
   (am_K h q2 = 6 ∧ ∃ q3, am_R h 5 2 q2 = some q3 ∧
   ((am_K h q3 = 21 ∨ am_K h q3 = 31) ∧ vp_in a5 (am_N h q3) ∧
   (am_K h a2 = 1 ∧ ∃ q4, am_R h 0 2 a2 = some q4 ∧
   ((am_K h q4 = 26 ∨ am_K h q4 = 27) ∧ vp_in a5 (am_N h q4) ∧ ∃ q5, am_C h q4 (a5).toNatClampNeg = some q5 ∧
   (am_K h q5 = 2 ∧
   (((am_I h 1 3 q5) = (Int32.ofNat 0) →
    am_Ev tt 83 96 [some (.ref a0), some (.ref a1), some (.ref a2), some (.ref a3), some (.int a4), some (.int a5), some (.int (am_A h q3 (a5).toNatClampNeg))] [] h (am_pV Q Qx)) ∧
   (¬ ((am_I h 1 3 q5) = (Int32.ofNat 0)) →
    (((Int32.ofNat 5000) < (a4 + (am_A h q3 (a5).toNatClampNeg)) →
     am_Ev tt 83 96 [some (.ref a0), some (.ref a1), some (.ref a2), some (.ref a3), some (.int a4), some (.int a5), some (.int (am_A h q3 (a5).toNatClampNeg))] [] h (am_pV Q Qx)) ∧
    (¬ ((Int32.ofNat 5000) < (a4 + (am_A h q3 (a5).toNatClampNeg))) →
     am_Ev tt 83 55 [some (.ref a0), some (.ref a1), some (.ref a2), some (.ref a3), some (.int a4), some (.int a5), some (.int (am_A h q3 (a5).toNatClampNeg))] [] h (am_pV Q Qx)))))))))))))))) :
  am_Ev tt 83 7 [some (.ref a0), some (.ref a1), some (.ref a2), some (.ref a3), some (.int a4), some (.int a5), none] [] h (am_pV Q Qx) := am_vc 25 [(7, [true, true, true, true, true, true, false]), (55, [true, true, true, true, true, true, true]), (71, [true, true, true, true, true, true, true]), (96, [true, true, true, true, true, true, true])] q
theorem vc_83_55 (tt : Nat → Nat) (a0 : Nat) (a1 : Nat) (a2 : Nat) (a3 : Nat) (a4 : Int32) (a5 : Int32) (a6 : Int32) (h : am_H) (Q : am_H → Prop) (Qx : String → am_H → Prop) (q :
  (am_K h a1 = 7 ∧ ∃ q1, am_R h 6 0 a1 = some q1 ∧
  (am_K h a3 = 7 ∧ ∃ q2, am_R h 6 0 a3 = some q2 ∧
  (am_w [] ≤ 8 ∧ am_K h q1 = 23 ∧ am_K h q2 = 23 ∧ ¬ a4 < (Int32.ofNat 0) ∧ ¬ (Int32.ofNat 0) < (Int32.ofNat 0) ∧ ¬ a6 < (Int32.ofNat 0) ∧ (a4).toNatClampNeg + (a6).toNatClampNeg ≤ am_N h q1 ∧ ((Int32.ofNat 0)).toNatClampNeg + (a6).toNatClampNeg ≤ am_N h q2 ∧ (∀ j, j < (a6).toNatClampNeg → fits .byte (.int (am_A h q1 ((a4).toNatClampNeg + j))) = true) ∧
  am_Ev tt 83 71 [some (.ref a0), some (.ref a1), some (.ref a2), some (.ref a3), some (.int a4), some (.int a5), some (.int a6)] [] (am_cA h q2 (va_cpy (am_A h q1) (am_A h q2) (a4).toNatClampNeg ((Int32.ofNat 0)).toNatClampNeg (a6).toNatClampNeg)) (am_pV Q Qx))))) :
  am_Ev tt 83 55 [some (.ref a0), some (.ref a1), some (.ref a2), some (.ref a3), some (.int a4), some (.int a5), some (.int a6)] [] h (am_pV Q Qx) := am_vc 11 [(7, [true, true, true, true, true, true, false]), (55, [true, true, true, true, true, true, true]), (71, [true, true, true, true, true, true, true]), (96, [true, true, true, true, true, true, true])] q
theorem vc_83_71 (tt : Nat → Nat) (a0 : Nat) (a1 : Nat) (a2 : Nat) (a3 : Nat) (a4 : Int32) (a5 : Int32) (a6 : Int32) (h : am_H) (Q : am_H → Prop) (Qx : String → am_H → Prop) (q :
  (am_K h a2 = 1 ∧ ∃ q1, am_R h 0 2 a2 = some q1 ∧
  ((am_K h q1 = 26 ∨ am_K h q1 = 27) ∧ vp_in a5 (am_N h q1) ∧ ∃ q2, am_C h q1 (a5).toNatClampNeg = some q2 ∧
  (am_K h a3 = 7 ∧ ∃ q3, am_R h 6 0 a3 = some q3 ∧
  (am_K h q2 = 2 ∧ ∃ (Q5 : am_H → Prop) (X5 : String → am_H → Prop), am_Ct tt 15 [.ref q2, .ref q3, .int (Int32.ofNat 0), .int a6] h (am_pV Q5 X5) ∧ (∀ h4, Q5 h4 →
   (am_K h4 a0 = 8 ∧ ∃ (Q7 : am_H → Prop) (X7 : String → am_H → Prop), am_Ct tt 84 [.ref a0, .int a5, .ref a2, .ref a3] h4 (am_pV Q7 X7) ∧ (∀ h6, Q7 h6 →
    am_Ev tt 83 96 [some (.ref a0), some (.ref a1), some (.ref a2), some (.ref a3), some (.int a4), some (.int a5), some (.int a6)] [] h6 (am_pV Q Qx)) ∧ (∀ E8 h6, X7 E8 h6 → Qx E8 h6))) ∧ (∀ E9 h4, X5 E9 h4 → Qx E9 h4)))))) :
  am_Ev tt 83 71 [some (.ref a0), some (.ref a1), some (.ref a2), some (.ref a3), some (.int a4), some (.int a5), some (.int a6)] [] h (am_pV Q Qx) := am_vc 17 [(7, [true, true, true, true, true, true, false]), (55, [true, true, true, true, true, true, true]), (71, [true, true, true, true, true, true, true]), (96, [true, true, true, true, true, true, true])] q
theorem vc_83_96 (tt : Nat → Nat) (a0 : Nat) (a1 : Nat) (a2 : Nat) (a3 : Nat) (a4 : Int32) (a5 : Int32) (a6 : Int32) (h : am_H) (Q : am_H → Prop) (Qx : String → am_H → Prop) (q :
  am_Ev tt 83 7 [some (.ref a0), some (.ref a1), some (.ref a2), some (.ref a3), some (.int (a4 + a6)), some (.int (a5 + (Int32.ofNat 1))), none] [] h (am_pV Q Qx)) :
  am_Ev tt 83 96 [some (.ref a0), some (.ref a1), some (.ref a2), some (.ref a3), some (.int a4), some (.int a5), some (.int a6)] [] h (am_pV Q Qx) := am_vc 9 [(7, [true, true, true, true, true, true, false]), (55, [true, true, true, true, true, true, true]), (71, [true, true, true, true, true, true, true]), (96, [true, true, true, true, true, true, true])] q

theorem fits8 {v : Int32} (h : by8 v = v) : fits .byte (.int v) = true := by
  show (decide (-128 ≤ v) && decide (v ≤ 127)) = true
  rw [← h]
  have h1 := Int8.le_toInt v.toInt8
  have h2 := Int8.toInt_lt v.toInt8
  have h3 : v.toInt8.toInt32.toInt = v.toInt8.toInt := Int8.toInt_toInt32 _
  unfold by8
  rw [Bool.and_eq_true, decide_eq_true_eq, decide_eq_true_eq, Int32.le_iff_toInt_le, Int32.le_iff_toInt_le, h3]
  have e1 : (-128 : Int32).toInt = -128 := by decide
  have e2 : (127 : Int32).toInt = 127 := by decide
  rw [e1, e2]
  omega
section RX
variable {tt : Nat → Nat} {P : Nat → Prop} {h0 h1 h h' h'' k k' : am_H} {cd : Nat → Nat} {bb bb' : Nat → Nat → Nat} {wa wt n p c : Nat} {S : sS} {F : Fn} {rd : RD} {dn : Nat → Bool}
theorem UX.wk (u : UX tt P h1 cd bb wa wt S rd F k bb' c dn) (n24 : rd.2.1.1 ≤ 24) {f : Nat → Int32} : UX tt P h1 cd bb wa wt S rd F (am_cA k (cd (c_tb (1 - wt))) f) bb' c dn := by
  obtain ⟨u1, u2, u3, u4, u5, u6, u7, u8⟩ := u
  have cl := u1.1
  have ci := cl.2.2.1
  have w2 := cl.1
  have t2 := cl.2.1
  have w1 : 1 - wa < 2 := by omega
  have eA : ∀ a, a ≠ cd (c_tb (1 - wt)) → am_A (am_cA k (cd (c_tb (1 - wt))) f) a = am_A k a := fun a ha => by simp only [am_hs]; rw [if_neg ha]
  have eI : am_I (am_cA k (cd (c_tb (1 - wt))) f) = am_I k := rfl
  have eK : am_K (am_cA k (cd (c_tb (1 - wt))) f) = am_K k := rfl
  have eN : am_N (am_cA k (cd (c_tb (1 - wt))) f) = am_N k := rfl
  have eC : am_C (am_cA k (cd (c_tb (1 - wt))) f) = am_C k := rfl
  have eR : am_R (am_cA k (cd (c_tb (1 - wt))) f) = am_R k := rfl
  have eJ : am_J (am_cA k (cd (c_tb (1 - wt))) f) = am_J k := rfl
  have eU : am_U (am_cA k (cd (c_tb (1 - wt))) f) = am_U k := rfl
  have eV : am_V (am_cA k (cd (c_tb (1 - wt))) f) = am_V k := rfl
  have efr : fr P k (am_cA k (cd (c_tb (1 - wt))) f) := fun a ha => fr1.cA ((u1.2.2.2.2.2.2 a ha).2.1 _)
  generalize am_cA k (cd (c_tb (1 - wt))) f = k2 at *
  have rc := u1.dr eK eN eC (fun c g a _ => by rw [eR]) (fun a hx _ => eA a (hx _ (Or.inr rfl) (cK_tb (by omega)))) (fun c g a hy => ⟨by rw [eI], by rw [eJ]⟩)
  rw [eI, u1.2.2.2.2.1] at rc
  have cb : ∀ j, j ≠ c_tb (1 - wt) → cd j ≠ cd (c_tb (1 - wt)) := fun j hj e => hj (ci.1 _ _ e)
  refine ⟨rc, u2.tr efr, by rw [eU]; exact u3, by rw [eV, pt_same eN]; exact u4, by rw [eI]; exact u5, fun j hj hdj => ?_, fun j hj hdj => ?_, ?_⟩
  · obtain ⟨v1, v2⟩ := u6 j hj hdj
    refine ⟨?_, by rw [eI]; exact v2⟩
    obtain ⟨z1, z2, z3, z4, z5, z6, z7, z8, z9, z10, z11, z12⟩ := v1
    exact ⟨by rw [eI]; exact z1, by rw [eI]; exact z2, fun l hl => by rw [eA _ (cb _ (by unfold c_un c_tb; omega))]; exact z3 l hl, by rw [eI]; exact z4, by rw [eI]; exact z5, by rw [eI]; exact z6, by rw [eI]; exact z7, fun t ht => by rw [eJ]; exact z8 t ht, by rw [eI]; exact z9, fun t ht => by rw [eI]; exact z10 t ht, by rw [eI]; exact z11, fun z => z.elim⟩
  · have hj24 : j < 24 := by omega
    exact (u7 j hj hdj).same (fun l => by rw [eI]) (by rw [eJ]) (eA _ (cb _ (by unfold c_un c_tb; omega))) (eA _ (ci.2.2 _ _ _ w1 hj24 (cK_tb (by omega)))) (by rw [eN])
  · obtain ⟨m1, m2, m3, m4, m5⟩ := u8
    refine ⟨by rw [eI]; exact m1, m2, fun b hb => ?_, fun b hb => ?_, fun b hb hb6 => by rw [eI]; exact m5 b hb hb6⟩
    · rw [eA _ (cb _ (by unfold c_tb; omega))]; exact m3 b hb
    · obtain ⟨y1, y2, y3⟩ := m4 b hb
      refine ⟨by rw [eI]; exact y1, by rw [eI]; exact y2, fun j hj => ?_⟩
      rw [eA _ (cb _ (by unfold c_bi c_tb; omega)), eA _ (cb _ (by unfold c_bd c_tb; omega))]
      exact y3 j hj
theorem ct_unpackBlocks (rv : RV n rd) (hn : S.2.1 = n) (hF : S.2.2.1 = F) (h5 : n ≤ 5000) (hU : am_U h1 + 25 ≤ am_LC) (hV : am_V h1 + 372480 ≤ am_LS) (u : UX tt P h1 cd bb wa wt S rd F k bb' (cn (dnf rd 0 0) 24) (dnf rd 0 0)) :
    am_Ct tt 83 [.ref (cd 30), .ref (cd (c_tp wt)), .ref (cd (c_ar (1 - wa))), .ref (cd (c_tp (1 - wt)))] k (am_pV (fun h' => ∃ bb'', UX tt P h1 cd bb wa wt S rd F h' bb'' (cn (dnf rd rd.1.1 0) 24) (dnf rd rd.1.1 0)) no_x) := by
  have rv' := rv
  obtain ⟨n24, B6, xv, x24, bv, hsm, -, rkx, -⟩ := rv
  have key : ∀ (d b : Nat) (k2 : am_H) (b2 : Nat → Nat → Nat), d + b = rd.1.1 → UX tt P h1 cd bb wa wt S rd F k2 b2 (cn (dnf rd b 0) 24) (dnf rd b 0) →
      am_Ev tt 83 7 [some (.ref (cd 30)), some (.ref (cd (c_tp wt))), some (.ref (cd (c_ar (1 - wa)))), some (.ref (cd (c_tp (1 - wt)))), some (.int (Int32.ofNat (pfr rd.1.2.1 b))), some (.int (Int32.ofNat b)), none] [] k2 (am_pV (fun h' => ∃ bb'', UX tt P h1 cd bb wa wt S rd F h' bb'' (cn (dnf rd rd.1.1 0) 24) (dnf rd rd.1.1 0)) no_x) := by
    intro d
    induction d with
    | zero =>
      intro b k2 b2 e u2
      have eb : b = rd.1.1 := by omega
      obtain ⟨r1, r2, r3, r4, r5, r6, r7⟩ := u2.1.1.2.2.2.2.2.2
      have m1 := u2.2.2.2.2.2.2.2.1
      refine vc_83_7 tt _ _ _ _ _ _ _ _ _ ?_
      have q1 : rd.1.1 ≤ b := by omega
      simp (disch := omega) only [r1, r3, r6, m1, q1, qi_lt, qi_le, qi_eq, qi_nn, qi_in, qi_add, qi_l, ql_i, ql_lt, ql_le, ql_eq, ql_add, qc_lt, qc_eq, qc_ge, qc_gt, qc_le, true_and, and_true, and_self, true_or, or_true, false_or, or_false, false_and, and_false, not_true_eq_false, not_false_eq_true, Classical.not_not, true_implies, false_implies, implies_true, exists_eq_left, exists_eq_left', Option.some.injEq, reduceIte, Nat.reduceEqDiff, Nat.reduceLT, Nat.reduceLeDiff, Nat.reduceAdd, Nat.reduceSub, Nat.reduceMul, eq_self, ne_eq, and_imp, forall_const, reduceCtorEq, am_w, List.map_cons, List.map_nil, List.sum_cons, List.sum_nil, Value.category, Nat.zero_le, Nat.le_refl]
      rw [eb] at u2
      exact ⟨b2, u2⟩
    | succ d ih =>
      intro b k2 b2 e u2
      have hb : b < rd.1.1 := by omega
      have hb6 : b < 6 := by omega
      have cl := u2.1.1
      have ci := cl.2.2.1
      have w2 := cl.1
      have t2 := cl.2.1
      obtain ⟨r1, r2, r3, r4, r5, r6, r7, r8, -⟩ := cl.2.2.2.2.2.2
      have sk : am_R k2 5 2 (cd 32) = some (cd 42) ∧ am_K k2 (cd 42) = 21 ∧ am_N k2 (cd 42) = 6 := (r8 2 (by omega)).resolve_left (by decide)
      obtain ⟨s1, s2, s3⟩ := sk
      obtain ⟨m1, m2, m3, m4, m5⟩ := u2.2.2.2.2.2.2.2
      obtain ⟨p1, p2, fw, bt, bk⟩ := bv b hb
      obtain ⟨y1, y2, y3⟩ := m4 b hb
      obtain ⟨a1, a2, a3, a4, a5, a6, a7, a8, a9⟩ := (cl.2.2.2.2.1 (1 - wa) (by omega)).1
      obtain ⟨t1, t2', t3, t4, t5, t6, t7, t8⟩ := a9 b hb6
      obtain ⟨v1, v2, v3, v4⟩ := (cl.2.2.2.2.1 wt t2).2
      have uw := u2.w
      have ep := m3 b hb
      have hs := hsm (by omega)
      have sm1 := sm_mo (f := rd.1.2.1) rd.1.1 (b + 1) (by omega)
      have pf := pfr_s (pk := rd.1.2.1) (b + 1)
      rw [pfr] at pf
      have q1 : ¬ rd.1.1 ≤ b := by omega
      have q2 : ¬ 5000 < pfr rd.1.2.1 b + rd.1.2.1 b := by omega
      have nx : ∀ k3 b3, UX tt P h1 cd bb wa wt S rd F k3 b3 (cn (dnf rd (b + 1) 0) 24) (dnf rd (b + 1) 0) → am_Ev tt 83 96 [some (.ref (cd 30)), some (.ref (cd (c_tp wt))), some (.ref (cd (c_ar (1 - wa)))), some (.ref (cd (c_tp (1 - wt)))), some (.int (Int32.ofNat (pfr rd.1.2.1 b))), some (.int (Int32.ofNat b)), some (.int (Int32.ofNat (rd.1.2.1 b)))] [] k3 (am_pV (fun h' => ∃ bb'', UX tt P h1 cd bb wa wt S rd F h' bb'' (cn (dnf rd rd.1.1 0) 24) (dnf rd rd.1.1 0)) no_x) := by
        intro k3 b3 u3
        refine vc_83_96 tt _ _ _ _ _ _ _ _ _ _ ?_
        simp (disch := omega) only [qi_lt, qi_le, qi_eq, qi_nn, qi_in, qi_add, qi_l, ql_i, ql_lt, ql_le, ql_eq, ql_add, qc_lt, qc_eq, qc_ge, qc_gt, qc_le]
        exact ih (b + 1) k3 b3 (by omega) u3
      refine vc_83_7 tt _ _ _ _ _ _ _ _ _ ?_
      cases kn : (rd.1.2.2.1 b).2.1 with
      | false =>
        rw [kn, b01_f] at y1
        simp (disch := omega) only [r1, r3, r6, m1, q1, s1, s2, s3, ep, hb6, a1, a5, a6, a7, t1, t2', y1, qi_lt, qi_le, qi_eq, qi_nn, qi_in, qi_add, qi_l, ql_i, ql_lt, ql_le, ql_eq, ql_add, qc_lt, qc_eq, qc_ge, qc_gt, qc_le, true_and, and_true, and_self, true_or, or_true, false_or, or_false, false_and, and_false, not_true_eq_false, not_false_eq_true, Classical.not_not, true_implies, false_implies, implies_true, exists_eq_left, exists_eq_left', Option.some.injEq, reduceIte, Nat.reduceEqDiff, Nat.reduceLT, Nat.reduceLeDiff, Nat.reduceAdd, Nat.reduceSub, Nat.reduceMul, eq_self, ne_eq, and_imp, forall_const, reduceCtorEq, am_w, List.map_cons, List.map_nil, List.sum_cons, List.sum_nil, Value.category, Nat.zero_le, Nat.le_refl]
        refine nx k2 b2 ?_
        have ed : dnf rd b 0 = dnf rd (b + 1) 0 := by
          funext j
          unfold dnf
          apply decide_eq_decide.2
          constructor
          · intro ⟨z1, z2, z3, z4⟩; exact ⟨z1, z2, z3, by omega⟩
          · intro ⟨z1, z2, z3, z4⟩
            refine ⟨z1, z2, z3, ?_⟩
            by_cases cj : hmE rd j = b
            · unfold knE at z3
              rw [cj, kn] at z3
              cases z3
            · omega
        rw [← ed]
        exact u2
      | true =>
        rw [kn, b01_t] at y1
        have bk := bk kn
        have hT : ∀ j, j < n → am_A k2 (cd (c_tb wt)) j = F j ∧ by8 (F j) = F j := by
          have := u2.1.2.2.2.1.2.2
          rw [hn, hF] at this
          exact this
        have fit : ∀ j, j < rd.1.2.1 b → fits .byte (.int (am_A k2 (cd (c_tb wt)) (pfr rd.1.2.1 b + j))) = true := fun j hj => by
          have := hT (pfr rd.1.2.1 b + j) (by omega)
          rw [this.1]
          exact fits8 this.2
        simp (disch := omega) only [r1, r3, r6, m1, q1, q2, s1, s2, s3, ep, hb6, a1, a5, a6, a7, t1, t2', y1, qi_lt, qi_le, qi_eq, qi_nn, qi_in, qi_add, qi_l, ql_i, ql_lt, ql_le, ql_eq, ql_add, qc_lt, qc_eq, qc_ge, qc_gt, qc_le, true_and, and_true, and_self, true_or, or_true, false_or, or_false, false_and, and_false, not_true_eq_false, not_false_eq_true, Classical.not_not, true_implies, false_implies, implies_true, exists_eq_left, exists_eq_left', Option.some.injEq, reduceIte, Nat.reduceEqDiff, Nat.reduceLT, Nat.reduceLeDiff, Nat.reduceAdd, Nat.reduceSub, Nat.reduceMul, eq_self, ne_eq, and_imp, forall_const, reduceCtorEq, am_w, List.map_cons, List.map_nil, List.sum_cons, List.sum_nil, Value.category, Nat.zero_le, Nat.le_refl]
        refine vc_83_55 tt _ _ _ _ _ _ _ _ _ _ ?_
        simp (disch := omega) only [uw, v1, v2, v3, v4, Nat.zero_add, qi_lt, qi_le, qi_eq, qi_nn, qi_in, qi_add, qi_l, ql_i, ql_lt, ql_le, ql_eq, ql_add, qc_lt, qc_eq, qc_ge, qc_gt, qc_le, true_and, and_true, and_self, true_or, or_true, false_or, or_false, false_and, and_false, not_true_eq_false, not_false_eq_true, Classical.not_not, true_implies, false_implies, implies_true, exists_eq_left, exists_eq_left', Option.some.injEq, reduceIte, Nat.reduceEqDiff, Nat.reduceLT, Nat.reduceLeDiff, Nat.reduceAdd, Nat.reduceSub, Nat.reduceMul, eq_self, ne_eq, and_imp, forall_const, reduceCtorEq, am_w, List.map_cons, List.map_nil, List.sum_cons, List.sum_nil, Value.category, Nat.zero_le, Nat.le_refl]
        refine ⟨by omega, by omega, by omega, by omega, fit, ?_⟩
        have uk := u2.wk n24 (f := va_cpy (am_A k2 (cd (c_tb wt))) (am_A k2 (cd (c_tb (1 - wt)))) (pfr rd.1.2.1 b) 0 (rd.1.2.1 b))
        have eW : ∀ j, j < rd.1.2.1 b → am_A (am_cA k2 (cd (c_tb (1 - wt))) (va_cpy (am_A k2 (cd (c_tb wt))) (am_A k2 (cd (c_tb (1 - wt)))) (pfr rd.1.2.1 b) 0 (rd.1.2.1 b))) (cd (c_tb (1 - wt))) j = F (pfr rd.1.2.1 b + j) := fun j hj => by
          simp only [am_hs, true_and, and_true, and_self, true_or, or_true, false_or, or_false, false_and, and_false, not_true_eq_false, not_false_eq_true, Classical.not_not, true_implies, false_implies, implies_true, exists_eq_left, exists_eq_left', Option.some.injEq, reduceIte, Nat.reduceEqDiff, Nat.reduceLT, Nat.reduceLeDiff, Nat.reduceAdd, Nat.reduceSub, Nat.reduceMul, eq_self, ne_eq, and_imp, forall_const, reduceCtorEq, am_w, List.map_cons, List.map_nil, List.sum_cons, List.sum_nil, Value.category, Nat.zero_le, Nat.le_refl]
          unfold va_cpy
          rw [if_pos (by omega), Nat.sub_zero]
          exact (hT _ (by omega)).1
        generalize am_cA k2 (cd (c_tb (1 - wt))) (va_cpy (am_A k2 (cd (c_tb wt))) (am_A k2 (cd (c_tb (1 - wt)))) (pfr rd.1.2.1 b) 0 (rd.1.2.1 b)) = k3 at uk eW ⊢
        have ukw := uk.w
        have cl3 := uk.1.1
        obtain ⟨n1, n2, n3, n4, n5⟩ := uk.2.2.2.2.2.2.2
        obtain ⟨x1, x2, x3⟩ := n4 b hb
        obtain ⟨c1, c2, c3, c4, c5, c6, c7, c8, c9⟩ := (cl3.2.2.2.2.1 (1 - wa) (by omega)).1
        obtain ⟨d1, d2, d3, d4, d5, d6, d7, d8⟩ := c9 b hb6
        have fv := fw.1
        have bks : bk_s k3 (cd (c_bk (1 - wa) b)) (cd (c_bi (1 - wa) b)) (cd (c_bd (1 - wa) b)) (rd.1.2.2.1 b).1 := ⟨d2, d3, d4, d5, d6, d7, d8, x2, fv.2.1⟩
        have dls : dl_s (am_A k3 (cd (c_bi (1 - wa) b))) (am_A k3 (cd (c_bd (1 - wa) b))) (rd.1.2.2.1 b).1 := fun c hc e => by
          rw [(x3 c hc).1] at e
          rw [(x3 c hc).2]
          rcases (fw.2.1 c hc).1 with z | z | z | z | z
          · rw [e] at z; exact absurd z (by decide)
          · rw [e] at z; exact absurd z (by decide)
          · rw [e] at z; exact absurd z (by decide)
          · rw [e] at z; exact absurd z (by decide)
          · exact z.2
        refine vc_83_71 tt _ _ _ _ _ _ _ _ _ _ ?_
        simp (disch := omega) only [c1, c5, c6, c7, d1, d2, hb6, ukw, qi_lt, qi_le, qi_eq, qi_nn, qi_in, qi_add, qi_l, ql_i, ql_lt, ql_le, ql_eq, ql_add, qc_lt, qc_eq, qc_ge, qc_gt, qc_le, true_and, and_true, and_self, true_or, or_true, false_or, or_false, false_and, and_false, not_true_eq_false, not_false_eq_true, Classical.not_not, true_implies, false_implies, implies_true, exists_eq_left, exists_eq_left', Option.some.injEq, reduceIte, Nat.reduceEqDiff, Nat.reduceLT, Nat.reduceLeDiff, Nat.reduceAdd, Nat.reduceSub, Nat.reduceMul, eq_self, ne_eq, and_imp, forall_const, reduceCtorEq, am_w, List.map_cons, List.map_nil, List.sum_cons, List.sum_nil, Value.category, Nat.zero_le, Nat.le_refl]
        have cu := ct_unpack (tt := tt) bks dls (r := cd (c_tb (1 - wt))) (p := 0) (m := rd.1.2.1 b) ukw.2.2.2.2.2.2.2.2.1 (by rw [ukw.2.2.2.2.2.2.2.2.2]; omega) (by rw [ukw.2.2.2.2.2.2.2.2.2]; omega)
        rw [Nat.zero_add] at cu
        refine ⟨_, _, cu, fun k4 e4 => ?_, fun _ _ z => z.elim⟩
        have u4 := uk.wk n24 (f := ov (am_A k3 (cd (c_tb (1 - wt)))) 0 (rd.1.2.1 b) (cous (am_A k3 (cd (c_bi (1 - wa) b))) (am_A k3 (cd (c_bd (1 - wa) b))) (rd.1.2.1 b) (rd.1.2.2.1 b).1 (sl (am_A k3 (cd (c_tb (1 - wt)))) 0)))
        rw [← e4] at u4
        have cl4 := u4.1.1
        refine ⟨cl4.2.2.2.2.2.2.1, _, _, ct_handOut hb rv' kn hU hV u4 (fun j hj => ?_), fun k5 w => ?_, fun _ _ z => z.elim⟩
        · rw [e4]
          simp only [am_hs, true_and, and_true, and_self, true_or, or_true, false_or, or_false, false_and, and_false, not_true_eq_false, not_false_eq_true, Classical.not_not, true_implies, false_implies, implies_true, exists_eq_left, exists_eq_left', Option.some.injEq, reduceIte, Nat.reduceEqDiff, Nat.reduceLT, Nat.reduceLeDiff, Nat.reduceAdd, Nat.reduceSub, Nat.reduceMul, eq_self, ne_eq, and_imp, forall_const, reduceCtorEq, am_w, List.map_cons, List.map_nil, List.sum_cons, List.sum_nil, Value.category, Nat.zero_le, Nat.le_refl]
          unfold ov
          rw [if_pos (by omega), Nat.sub_zero]
          have ec := cous_fr (ks := am_A k3 (cd (c_bi (1 - wa) b))) (ds := am_A k3 (cd (c_bd (1 - wa) b))) (ks' := (rd.1.2.2.1 b).2.2.1) (ds' := (rd.1.2.2.1 b).2.2.2.1) (n := rd.1.2.1 b) (rd.1.2.2.1 b).1 (sl (am_A k3 (cd (c_tb (1 - wt)))) 0) (sl F (pfr rd.1.2.1 b)) (fun c hc => x3 c hc) (fun j hj => by unfold sl; rw [Nat.zero_add]; exact eW j hj) j hj
          rw [ec]
          exact cous_8 _ _ (fun j hj => by unfold sl; exact (hT _ (by omega)).2) j hj
        · obtain ⟨b5, u5⟩ := w
          exact nx k5 b5 u5
  refine vc_83_0 tt _ _ _ _ k _ _ ?_
  exact key rd.1.1 0 k bb' (by omega) u
end RX
