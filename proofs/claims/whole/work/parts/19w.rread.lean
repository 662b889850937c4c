/-! deps: 19v -/
/-! ===== the class reads ===== -/
/-! 112 yX9_read -/
theorem vc_112_0 (tt : Nat → Nat) (a0 : Nat) (h : am_H) (Q : Int32 → am_H → Prop) (Qx : String → am_H → Prop) (q :
  (am_K h a0 = 10 ∧ ∃ q1, am_R h 9 5 a0 = some q1 ∧
  (am_K h a0 = 10 ∧ ∃ q2, am_R h 9 2 a0 = some q2 ∧
  (am_K h a0 = 10 ∧ ∃ q3, am_R h 9 1 a0 = some q3 ∧
  (am_K h q1 = 8 ∧ ∃ (Q5 : am_H → Prop) (X5 : String → am_H → Prop), am_Ct tt 81 [.ref q1, .ref q2, .ref q3] h (am_pV Q5 X5) ∧ (∀ h4, Q5 h4 →
   (am_K h4 a0 = 10 ∧ ∃ q6, am_R h4 9 5 a0 = some q6 ∧
   (am_K h4 a0 = 10 ∧ ∃ q7, am_R h4 9 2 a0 = some q7 ∧
   (am_K h4 a0 = 10 ∧ ∃ q8, am_R h4 9 1 a0 = some q8 ∧
   (am_K h4 a0 = 10 ∧ ∃ q9, am_R h4 9 3 a0 = some q9 ∧
   (am_K h4 q6 = 8 ∧ ∃ (Q11 : am_H → Prop) (X11 : String → am_H → Prop), am_Ct tt 83 [.ref q6, .ref q7, .ref q8, .ref q9] h4 (am_pV Q11 X11) ∧ (∀ h10, Q11 h10 →
    (am_K h10 a0 = 10 ∧ ∃ q12, am_R h10 9 0 a0 = some q12 ∧
    (am_K h10 a0 = 10 ∧ ∃ q13, am_R h10 9 1 a0 = some q13 ∧
    (am_K h10 a0 = 10 ∧
    (am_K h10 a0 = 10 ∧
    (am_K h10 a0 = 10 ∧ ∃ q14, am_R (am_sR h10 9 0 a0 (some q13)) 9 0 a0 = some q14 ∧
    (am_K h10 q14 = 1 ∧
    Q (am_I h10 0 1 q14) (am_sR (am_sR h10 9 0 a0 (some q13)) 9 1 a0 (some q12))))))))) ∧ (∀ E15 h10, X11 E15 h10 → am_th (am_wp tt [] 17) 112 49 [some (.ref a0), none] h10 (am_pI Q Qx) E15))))))) ∧ (∀ E16 h4, X5 E16 h4 → am_th (am_wp tt [] 27) 112 12 [some (.ref a0), none] h4 (am_pI Q Qx) E16)))))) :
  am_Ev tt 112 0 [some (.ref a0), none] [] h (am_pI Q Qx) := am_vc 33 [] q
theorem th_112 {tt : Nat → Nat} {a0 pc : Nat} {h : am_H} {Q : Int32 → am_H → Prop} {Qx : String → am_H → Prop} (hp : pc < 15) (q : am_K h a0 = 10 ∧ ∃ q1, am_R h 9 5 a0 = some q1 ∧ (am_K h q1 = 8 ∧ ∃ q2, am_R h 7 0 q1 = some q2 ∧ (am_K h q2 = 3 ∧ Q ((-10 : Int32) - am_I h 2 4 q2) h))) : am_th (am_wp tt [] 27) 112 pc [some (.ref a0), none] h (am_pI Q Qx) (am_ex 0) := by
  have hb : am_tb 112 = [(0, 15, 18, 152, "java/lang/IllegalStateException")] := rfl
  unfold am_th
  rw [hb, List.filter_cons_of_pos (by simp [hp]), List.filter_nil]
  dsimp only
  rw [show List.find? (fun q : Nat × Nat × Nat × Nat × String => decide (q.2.2.2.2 = am_ex 0)) [(0, 15, 18, 152, "java/lang/IllegalStateException")] = some (0, 15, 18, 152, "java/lang/IllegalStateException") from by simp [am_ex]]
  exact ⟨show 1 < 2 by decide, q⟩
section RZ
variable {tt : Nat → Nat} {P : Nat → Prop} {h0 h1 h h' h'' k k' : am_H} {cd : Nat → Nat} {bb bb' : Nat → Nat → Nat} {wa wt n p c : Nat} {S : sS} {F : Fn} {rd : RD} {dn : Nat → Bool}
theorem XA_c {k : Nat} (hw : wa < 2) (h : XA wa k) : cK k := by
  rcases (show wa = 0 ∨ wa = 1 by omega) with rfl | rfl <;> (unfold XA at h; unfold cK; omega)
/-- what a tape that is read leaves -/
theorem rd_fr (q : RC tt P h cd bb wa wt S) (r : rf cd (XA wa) (YA wa) (hB h cd wa wt n) k) (hU : am_U k = am_U (hB h cd wa wt n)) (hV : am_V k = am_V (hB h cd wa wt n)) : RC tt P k cd bb wa wt (S.1, S.2.1, S.2.2.1, am_I k 2 3 (cd 31)) ∧ fr P h k ∧ am_U k = am_U h ∧ am_V k = am_V h ∧ am_N k = am_N h := by
  obtain ⟨f1, f2, f3, f4, f5, f6, f7, f8, f9⟩ := hB_f (h := h) (cd := cd) (wa := wa) (wt := wt) (n := n)
  obtain ⟨r1, r2, r3, r4, r5, r6, r7⟩ := r
  have w2 := q.1.1
  refine ⟨q.dr (r1.trans f1) (r2.trans f2) (r4.trans f3) (fun c g a z => by rw [r3]; exact f9 c g a (fun w => z w.1)) (fun a hx _ => by rw [r6 a (fun k hk => hx k (Or.inl hk) (XA_c w2 hk)), f4]) (fun c g a hy => ⟨by rw [(r7 c g a hy).1, hB_i hy], by rw [(r7 c g a hy).2, f6]⟩), fun a ha => ?_, hU.trans f7, hV.trans f8, r2.trans f2⟩
  obtain ⟨p1, p2, p3⟩ := q.2.2.2.2.2.2 a ha
  exact ⟨by rw [r1, f1], by rw [r2, f2], by rw [r6 a (fun k _ => p2 k), f4], by rw [r5, f5], by rw [r4, f3], fun c g => by rw [(r7 c g a (fun k _ => p2 k)).1, hB_i (fun k _ => p2 k)], fun c g => by rw [(r7 c g a (fun k _ => p2 k)).2, f6], fun c g => by rw [r3]; exact f9 c g a (fun w => p2 31 w.2.2)⟩
/-- what a READ leaves -/
def okQ (tt : Nat → Nat) (P : Nat → Prop) (h : am_H) (cd : Nat → Nat) (bb : Nat → Nat → Nat) (wt : Nat) (S : sS) (h' : am_H) : Prop := ∃ bb' wa', RC tt P h' cd bb' wa' wt S ∧ fr P h h' ∧ am_U h' ≤ am_U h + 25 ∧ am_V h' + 2 * pt h bb ≤ am_V h + 6 + 2 * pt h' bb'
/-- the draft becomes what stands -/
theorem UX.fin (u : UX tt P h1 cd bb wa wt S rd F k bb' c dn) (rv : RV n rd) (h5 : n ≤ 5000) (hd : dn = dnf rd rd.1.1 0) (hn : S.2.1 = n) (hF : S.2.2.1 = F) (hf : S.2.2.2 = Int32.ofNat 0) : RC tt P (am_sR (am_sR k 9 0 (cd 0) (some (cd (c_ar (1 - wa))))) 9 1 (cd 0) (some (cd (c_ar wa)))) cd bb' (1 - wa) wt (rdA F rd, n, F, Int32.ofNat 0) := by
  have u' := u
  obtain ⟨u1, u2, u3, u4, u5, u6, u7, u8⟩ := u
  obtain ⟨q1, q2, q3, q4, q5, q6, q7⟩ := u1
  have n24 := rv.1
  have w2 := q1.1
  have w1 : 1 - wa < 2 := by omega
  have ww : 1 - (1 - wa) = wa := by omega
  have eI : am_I (am_sR (am_sR k 9 0 (cd 0) (some (cd (c_ar (1 - wa))))) 9 1 (cd 0) (some (cd (c_ar wa)))) = am_I k := rfl
  have eA : am_A (am_sR (am_sR k 9 0 (cd 0) (some (cd (c_ar (1 - wa))))) 9 1 (cd 0) (some (cd (c_ar wa)))) = am_A k := rfl
  have eJ : am_J (am_sR (am_sR k 9 0 (cd 0) (some (cd (c_ar (1 - wa))))) 9 1 (cd 0) (some (cd (c_ar wa)))) = am_J k := rfl
  have eK : am_K (am_sR (am_sR k 9 0 (cd 0) (some (cd (c_ar (1 - wa))))) 9 1 (cd 0) (some (cd (c_ar wa)))) = am_K k := rfl
  have eN : am_N (am_sR (am_sR k 9 0 (cd 0) (some (cd (c_ar (1 - wa))))) 9 1 (cd 0) (some (cd (c_ar wa)))) = am_N k := rfl
  have eC : am_C (am_sR (am_sR k 9 0 (cd 0) (some (cd (c_ar (1 - wa))))) 9 1 (cd 0) (some (cd (c_ar wa)))) = am_C k := rfl
  have eR : ∀ c g a, c ≠ 9 → am_R (am_sR (am_sR k 9 0 (cd 0) (some (cd (c_ar (1 - wa))))) 9 1 (cd 0) (some (cd (c_ar wa)))) c g a = am_R k c g a := fun c g a z => by
    simp only [am_hs]
    rw [if_neg (fun w => z w.1), if_neg (fun w => z w.1)]
  have e90 : am_R (am_sR (am_sR k 9 0 (cd 0) (some (cd (c_ar (1 - wa))))) 9 1 (cd 0) (some (cd (c_ar wa)))) 9 0 (cd 0) = some (cd (c_ar (1 - wa))) := by simp only [am_hs, true_and, and_true, and_self, true_or, or_true, false_or, or_false, false_and, and_false, not_true_eq_false, not_false_eq_true, Classical.not_not, true_implies, false_implies, implies_true, exists_eq_left, exists_eq_left', Option.some.injEq, reduceIte, Nat.reduceEqDiff, Nat.reduceLT, Nat.reduceLeDiff, Nat.reduceAdd, Nat.reduceSub, Nat.reduceMul, eq_self, ne_eq, and_imp, forall_const, reduceCtorEq, am_w, List.map_cons, List.map_nil, List.sum_cons, List.sum_nil, Value.category, Nat.zero_le, Nat.le_refl]
  have e91 : am_R (am_sR (am_sR k 9 0 (cd 0) (some (cd (c_ar (1 - wa))))) 9 1 (cd 0) (some (cd (c_ar wa)))) 9 1 (cd 0) = some (cd (c_ar wa)) := by simp only [am_hs, true_and, and_true, and_self, true_or, or_true, false_or, or_false, false_and, and_false, not_true_eq_false, not_false_eq_true, Classical.not_not, true_implies, false_implies, implies_true, exists_eq_left, exists_eq_left', Option.some.injEq, reduceIte, Nat.reduceEqDiff, Nat.reduceLT, Nat.reduceLeDiff, Nat.reduceAdd, Nat.reduceSub, Nat.reduceMul, eq_self, ne_eq, and_imp, forall_const, reduceCtorEq, am_w, List.map_cons, List.map_nil, List.sum_cons, List.sum_nil, Value.category, Nat.zero_le, Nat.le_refl]
  have e9 : ∀ g, g ≠ 0 → g ≠ 1 → am_R (am_sR (am_sR k 9 0 (cd 0) (some (cd (c_ar (1 - wa))))) 9 1 (cd 0) (some (cd (c_ar wa)))) 9 g (cd 0) = am_R k 9 g (cd 0) := fun g z1 z2 => by
    simp only [am_hs]
    rw [if_neg (fun w => z2 w.2.1), if_neg (fun w => z1 w.2.1)]
  generalize am_sR (am_sR k 9 0 (cd 0) (some (cd (c_ar (1 - wa))))) 9 1 (cd 0) (some (cd (c_ar wa))) = k2 at *
  refine ⟨?_, ⟨?_, fun i hi => ?_, fun b hb => ?_⟩, rdA_w rv h5, ⟨?_, h5, fun j hj => ?_⟩, ?_, ?_, fun a ha => ?_⟩
  · obtain ⟨s1, s2, s3, s4, s5, s6, s7⟩ := q1
    obtain ⟨c1, c2, c3, c4, c5, c6, c7⟩ := s4
    refine ⟨w1, s2, s3, ⟨by rw [eK]; exact c1, e90, by rw [ww]; exact e91, by rw [e9 _ (by decide) (by decide)]; exact c4, by rw [e9 _ (by decide) (by decide)]; exact c5, by rw [e9 _ (by decide) (by decide)]; exact c6, by rw [e9 _ (by decide) (by decide)]; exact c7⟩, fun w hw => ?_, ?_, ?_⟩
    · have := s5 w hw
      unfold car_s ce_s cb_s tp_s at this ⊢
      rw [eK, eN, eC]
      simp only [eR 0 _ _ (by decide), eR 4 _ _ (by decide), eR 1 _ _ (by decide), eR 6 _ _ (by decide)]
      exact this
    · unfold cw_s at s6 ⊢
      rw [eK, eN]
      simp only [eR 8 _ _ (by decide)]
      exact s6
    · unfold cr_s at s7 ⊢
      rw [eK, eN]
      simp only [eR 7 _ _ (by decide), eR 5 _ _ (by decide), eR 3 _ _ (by decide)]
      exact s7
  · rw [eI]; exact u5
  · have hi : i < rd.2.1.1 := hi
    show ce_v k2 _ _ _ (rdE F rd i) (a_kn (rdA F rd) i = true)
    have hw : ce_v k (cd (c_en (1 - wa) i)) (cd (c_un (1 - wa) i)) (bb' (1 - wa) i) (rdE F rd i) (a_kn (rdA F rd) i = true) := by
      cases ed : dn i with
      | true =>
        obtain ⟨z1, z2, z3, z4, z5, z6, z7, z8, z9, z10, z11, z12⟩ := u7 i hi ed
        exact ⟨z1, z2, z3, z4, z5, z6, z7, z8, z9, z10, z11, fun _ => z12 trivial⟩
      | false =>
        obtain ⟨⟨z1, z2, z3, z4, z5, z6, z7, z8, z9, z10, z11, z12⟩, z13⟩ := u6 i hi ed
        cases e : rd.2.1.2.1 i with
        | true =>
          have ev : VD F rd i = (if rd.2.1.2.2.1 (i - rk rd.2.1.2.1 i) = true then 0 else 1, rd.2.2.1.1 i, NMf F rd.2.2.1.2 i, 0, (fun _ => 0), 0, rd.2.1.2.2.2 (i - rk rd.2.1.2.1 i), rd.2.2.2.1 i, (rd.2.2.2.2 i).map Int64.toInt32, false) := by
            unfold VD dE
            rw [if_pos e]
          rw [ev] at z1 z2 z3 z4 z5 z6 z7 z8 z9 z10 z11
          rw [rdE_t e]
          exact ⟨z1, z2, z3, z4, z5, z6, z7, z8, z9, z10, z11, fun _ => ⟨Nat.zero_le _, fun j hj => absurd hj (Nat.not_lt_zero j)⟩⟩
        | false =>
          have hh := rv_h rv hi e
          have kn : knE rd i = false := by
            cases kn : knE rd i with
            | false => rfl
            | true =>
              rw [hd] at ed
              have : dnf rd rd.1.1 0 i = true := decide_eq_true ⟨hi, e, kn, Or.inl hh.1⟩
              rw [this] at ed
              cases ed
          have ev : VD F rd i = (0, rd.2.2.1.1 i, NMf F rd.2.2.1.2 i, szE rd i, (fun _ => 0), hmE rd i, false, rd.2.2.2.1 i, (rd.2.2.2.2 i).map Int64.toInt32, false) := by
            unfold VD dE
            rw [if_neg (by rw [e]; decide)]
            rfl
          rw [ev] at z1 z2 z3 z4 z5 z6 z7 z8 z9 z10 z11
          have ak := a_kn_f (F := F) rv hi e
          rw [kn] at ak
          rw [ak, rdE_f e, kn, Bool.false_and]
          exact ⟨z1, z2, z3, z4, z5, z6, z7, z8, z9, z10, z11, fun z => by cases z⟩
    exact hw.same (fun l => by rw [eI]) (by rw [eJ]) (by rw [eA]) (by rw [eA]) (by rw [eN])
  · show cb_v k2 _ _ _ (rdB rd b)
    have hw : cb_v k (cd (c_bk (1 - wa) b)) (cd (c_bi (1 - wa) b)) (cd (c_bd (1 - wa) b)) (rdB rd b) := by
      obtain ⟨m1, m2, m3, m4, m5⟩ := u8
      unfold rdB
      by_cases cb : b < rd.1.1
      · rw [if_pos cb]
        obtain ⟨y1, y2, y3⟩ := m4 b cb
        obtain ⟨p1, p2, fw, -⟩ := rv.2.2.2.2.1 b cb
        refine ⟨y1, (rd.1.2.2.1 b).1, fw.1.2.1, y2, fun c hc e => ?_, fun _ => ⟨rfl, fun j hj => y3 j hj⟩⟩
        rw [(y3 c hc).1] at e
        rw [(y3 c hc).2]
        rcases (fw.2.1 c hc).1 with z | z | z | z | z
        · rw [e] at z; exact absurd z (by decide)
        · rw [e] at z; exact absurd z (by decide)
        · rw [e] at z; exact absurd z (by decide)
        · rw [e] at z; exact absurd z (by decide)
        · exact z.2
      · rw [if_neg cb]
        obtain ⟨y1, y2⟩ := m5 b (by omega) hb
        exact ⟨y2, 0, by omega, y1, fun c hc => absurd hc (Nat.not_lt_zero c), fun _ => ⟨rfl, fun j hj => absurd hj (Nat.not_lt_zero j)⟩⟩
    exact hw.same (fun f => by rw [eI]) (by rw [eA]) (by rw [eA])
  · rw [eI, ← hn]; exact q4.1
  · rw [eA]
    have := q4.2.2 j (by rw [hn]; exact hj)
    rw [hF] at this
    exact this
  · rw [eI, ← hf]; exact q5
  · obtain ⟨k1, k3⟩ := q6
    unfold tk_s
    rw [eK, eN, eA]
    exact ⟨k1, k3⟩
  · rw [eK]; exact q7 a ha
theorem ct_read (q : RC tt P h cd bb wa wt S) (hF : S.2.2.1 = am_A h (cd (c_tb wt))) (hU : am_U h + 26 ≤ am_LC) (hV : am_V h + 372486 ≤ am_LS) : am_Ct tt 112 [.ref (cd 0)] h (am_pI (fun r h' => r = (f_read S).1 ∧ okQ tt P h cd bb wt (f_read S).2 h') no_x) := by
  have cl := q.1
  have w2 := cl.1
  have t2 := cl.2.1
  obtain ⟨x1, x2, x3, x4, x5, x6, x7⟩ := cl.2.2.2.1
  have r1 := cl.2.2.2.2.2.2.1
  have h5 := q.2.2.2.1.2.1
  have hT := q.2.2.2.1.1
  have bas := rd_fr (n := S.2.1) q rf.re rfl rfl
  refine vc_112_0 tt _ h _ _ ?_
  simp (disch := omega) only [x1, x3, x4, x7, r1, qi_lt, qi_le, qi_eq, qi_nn, qi_in, qi_add, qi_l, ql_i, ql_lt, ql_le, ql_eq, ql_add, qc_lt, qc_eq, qc_ge, qc_gt, qc_le, true_and, and_true, and_self, true_or, or_true, false_or, or_false, false_and, and_false, not_true_eq_false, not_false_eq_true, Classical.not_not, true_implies, false_implies, implies_true, exists_eq_left, exists_eq_left', Option.some.injEq, reduceIte, Nat.reduceEqDiff, Nat.reduceLT, Nat.reduceLeDiff, Nat.reduceAdd, Nat.reduceSub, Nat.reduceMul, eq_self, ne_eq, and_imp, forall_const, reduceCtorEq, am_w, List.map_cons, List.map_nil, List.sum_cons, List.sum_nil, Value.category, Nat.zero_le, Nat.le_refl]
  refine ⟨_, _, ct_takeTape cl q.2.2.2.2.2.1 hT h5 (by omega) (by omega) rfl, fun k w => ?_, fun E k w => ?_⟩
  · obtain ⟨rd, e, p, xk, fk, ms, da, n24, rkx⟩ := w
    rw [← hF] at e
    have rv := pRD_v h5 e
    have ef : f_read S = (Int32.ofNat rd.2.1.1, (rdA S.2.2.1 rd, S.2.1, S.2.2.1, Int32.ofNat 0)) := by unfold f_read; rw [e]
    rw [ef]
    have fA : rf cd (XA wa) (YA wa) (hB h cd wa wt S.2.1) k := fk.mo (fun _ z => z) (fun _ _ _ z => YS_A z)
    obtain ⟨b1, b2, b3, b4, b5⟩ := rd_fr q fA xk.2.2.2.1 xk.2.2.2.2.1
    have e23 : am_I k 2 3 (cd 31) = Int32.ofNat 0 := by
      rw [fk.i cl.2.2.1 (by unfold YS; omega)]
      exact (hB_v (h := h) (wa := wa) (wt := wt) (n := S.2.1) cl.2.2.1).2.2.1
    rw [e23] at b1
    have hFF : FF cd wt (hB h cd wa wt S.2.1) = S.2.2.1 := by
      show am_A (hB h cd wa wt S.2.1) _ = _
      rw [hB_f.2.2.2.1, hF]
    rw [hFF] at da
    have d0 : ∀ i, dnf rd 0 0 i = false := fun i => decide_eq_false (fun z => by omega)
    have u0 : UX tt P h cd bb wa wt (S.1, S.2.1, S.2.2.1, Int32.ofNat 0) rd S.2.2.1 k bb (cn (dnf rd 0 0) 24) (dnf rd 0 0) := ⟨b1, b2, by omega, by rw [b4, pt_same b5]; exact Nat.le_refl _, da.1, fun i hi _ => da.2 i hi, (fun i hi z => by rw [d0 i] at z; cases z), ms⟩
    have xk1 := b1.1.2.2.2.1
    obtain ⟨k1, k2, k3, k4, k5, k6, k7⟩ := xk1
    have kr := b1.1.2.2.2.2.2.2.1
    simp (disch := omega) only [k1, k3, k4, k5, k7, kr, qi_lt, qi_le, qi_eq, qi_nn, qi_in, qi_add, qi_l, ql_i, ql_lt, ql_le, ql_eq, ql_add, qc_lt, qc_eq, qc_ge, qc_gt, qc_le, true_and, and_true, and_self, true_or, or_true, false_or, or_false, false_and, and_false, not_true_eq_false, not_false_eq_true, Classical.not_not, true_implies, false_implies, implies_true, exists_eq_left, exists_eq_left', Option.some.injEq, reduceIte, Nat.reduceEqDiff, Nat.reduceLT, Nat.reduceLeDiff, Nat.reduceAdd, Nat.reduceSub, Nat.reduceMul, eq_self, ne_eq, and_imp, forall_const, reduceCtorEq, am_w, List.map_cons, List.map_nil, List.sum_cons, List.sum_nil, Value.category, Nat.zero_le, Nat.le_refl]
    refine ⟨_, _, ct_unpackBlocks (h1 := h) (S := (S.1, S.2.1, S.2.2.1, Int32.ofNat 0)) rv rfl rfl h5 (by omega) (by omega) u0, fun k3' w => ?_, fun _ _ z => z.elim⟩
    obtain ⟨bb', u⟩ := w
    have xk2 := u.1.1.2.2.2.1
    obtain ⟨l1, l2, l3, l4, l5, l6, l7⟩ := xk2
    have la := u.w.2.2.1
    have li := u.2.2.2.2.1
    have fin := u.fin rv h5 rfl rfl rfl rfl
    have cl24 := cn_le (dnf rd rd.1.1 0) 24
    have efr : fr P k3' (am_sR (am_sR k3' 9 0 (cd 0) (some (cd (c_ar (1 - wa))))) 9 1 (cd 0) (some (cd (c_ar wa)))) := fun a ha => (fr1.sR ((u.1.2.2.2.2.2.2 a ha).2.1 _)).tr (fr1.sR ((u.1.2.2.2.2.2.2 a ha).2.1 _))
    simp (disch := omega) only [l1, l2, l3, la, li, am_hs, qi_lt, qi_le, qi_eq, qi_nn, qi_in, qi_add, qi_l, ql_i, ql_lt, ql_le, ql_eq, ql_add, qc_lt, qc_eq, qc_ge, qc_gt, qc_le, true_and, and_true, and_self, true_or, or_true, false_or, or_false, false_and, and_false, not_true_eq_false, not_false_eq_true, Classical.not_not, true_implies, false_implies, implies_true, exists_eq_left, exists_eq_left', Option.some.injEq, reduceIte, Nat.reduceEqDiff, Nat.reduceLT, Nat.reduceLeDiff, Nat.reduceAdd, Nat.reduceSub, Nat.reduceMul, eq_self, ne_eq, and_imp, forall_const, reduceCtorEq, am_w, List.map_cons, List.map_nil, List.sum_cons, List.sum_nil, Value.category, Nat.zero_le, Nat.le_refl]
    refine ⟨bb', 1 - wa, fin, u.2.1.tr efr, ?_, ?_⟩
    · show am_U k3' ≤ _
      have := u.2.2.1
      omega
    · have := u.2.2.2.1
      show am_V k3' + _ ≤ _
      rw [pt_same (h := k3') (show am_N (am_sR (am_sR k3' 9 0 (cd 0) (some (cd (c_ar (1 - wa))))) 9 1 (cd 0) (some (cd (c_ar wa)))) = am_N k3' from rfl)]
      omega
  · obtain ⟨rfl, f, pl, hh, e, fk, eU, eV, rfl, e3, e4⟩ := w
    rw [← hF] at e
    have ef : f_read S = ((-10 : Int32) - Int32.ofNat pl, (S.1, S.2.1, S.2.2.1, Int32.ofNat f)) := by unfold f_read; rw [e]
    rw [ef]
    obtain ⟨b1, b2, b3, b4, b5⟩ := rd_fr q fk eU eV
    rw [e3] at b1
    obtain ⟨k1, k2, k3, k4, k5, k6, k7⟩ := b1.1.2.2.2.1
    obtain ⟨c1, c2, c3, c4, c5, c6⟩ := b1.1.2.2.2.2.2.2
    refine th_112 (by omega) ⟨k1, _, k7, c1, _, c2, c5, ?_, bb, wa, ?_, ?_, ?_, ?_⟩
    · show (-10 : Int32) - am_I hh 2 4 (cd 31) = _
      rw [e4]
    · obtain ⟨z1, z2, z3, z4, z5, z6, z7⟩ := b1
      exact ⟨z1.t rfl rfl rfl rfl, z2, z3, z4, z5, z6, z7⟩
    · exact b2.tr (fun a _ => fr1.nX)
    · show am_U hh + 1 ≤ _
      omega
    · show am_V hh + 6 + _ ≤ _
      rw [pt_same (h := h) (h' := am_nX hh) (show am_N (am_nX hh) = am_N h from b5)]
      omega
end RZ
