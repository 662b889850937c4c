/-! deps: 15i -/
/-! ===== put ===== -/
/-! 106 yX9_put -/
theorem vc_106_0 (tt : Nat → Nat) (a0 : Nat) (a1 : Int32) (a2 : Int64) (a4 : Int32) (h : am_H) (Q : Int32 → am_H → Prop) (Qx : String → am_H → Prop) (q :
  (am_K h a0 = 10 ∧ ∃ q1, am_R h 9 0 a0 = some q1 ∧
  (am_K h q1 = 1 ∧ ∃ (Q3 : Option Nat → am_H → Prop) (X3 : String → am_H → Prop), am_Ct tt 3 [.ref q1, .int a1] h (am_pR Q3 X3) ∧ ((∀ q4 h2, Q3 (some q4) h2 →
   (am_K h2 q4 = 5 ∧
   ((¬ (am_I h2 4 4 q4) = (Int32.ofNat 0) →
    Q (-2 : Int32) h2) ∧
   (¬ (¬ (am_I h2 4 4 q4) = (Int32.ofNat 0)) →
    ((a4 < (Int32.ofNat 1) →
     Q (-2 : Int32) h2) ∧
    (¬ (a4 < (Int32.ofNat 1)) →
     ((a4 ≤ (Int32.ofNat 8) →
      (am_K h2 a0 = 10 ∧ ∃ q5, am_R h2 9 0 a0 = some q5 ∧
      (am_K h2 q4 = 5 ∧
      (am_K h2 q5 = 1 ∧ ∃ (Q7 : Int32 → am_H → Prop) (X7 : String → am_H → Prop), am_Ct tt 5 [.ref q5, .int (am_I h2 4 5 q4)] h2 (am_pI Q7 X7) ∧ (∀ x8 h6, Q7 x8 h6 →
       ((x8 = (Int32.ofNat 0) →
        Q (-3 : Int32) h6) ∧
       (¬ (x8 = (Int32.ofNat 0)) →
        (am_K h6 q4 = 5 ∧
        (((am_I h6 4 6 q4) = (Int32.ofNat 0) →
         (am_K h6 q4 = 5 ∧
         ((((am_I h6 4 3 q4) + a4) ≤ (Int32.ofNat 120) →
          (am_K h6 q4 = 5 ∧ ∃ (Q10 : am_H → Prop) (X10 : String → am_H → Prop), am_Ct tt 47 [.ref q4, .long a2, .int a4] h6 (am_pV Q10 X10) ∧ (∀ h9, Q10 h9 →
           (am_K h9 q4 = 5 ∧
           Q (am_I h9 4 3 q4) h9)) ∧ (∀ E11 h9, X10 E11 h9 → Qx E11 h9))) ∧
         (¬ (((am_I h6 4 3 q4) + a4) ≤ (Int32.ofNat 120)) →
          Q (-4 : Int32) h6)))) ∧
        (¬ ((am_I h6 4 6 q4) = (Int32.ofNat 0)) →
         Q (-3 : Int32) h6)))))) ∧ (∀ E12 h6, X7 E12 h6 → Qx E12 h6))))) ∧
     (¬ (a4 ≤ (Int32.ofNat 8)) →
      Q (-2 : Int32) h2)))))))) ∧ (∀ h2, Q3 none h2 →
   Q (-2 : Int32) h2)) ∧ (∀ E13 h2, X3 E13 h2 → Qx E13 h2)))) :
  am_Ev tt 106 0 [some (.ref a0), some (.int a1), some (.long a2), none, some (.int a4), none] [] h (am_pI Q Qx) := am_vc 40 [] q

section PI
variable {tt : Nat → Nat} {P : Nat → Prop} {h h' : am_H} {cd : Nat → Nat} {bb : Nat → Nat → Nat} {wa wt : Nat} {S : sS}
theorem RC.room (q : RC tt P h cd bb wa wt S) {w i p n : Nat} (hw : w < 2) (hi : i < 24) (hq : am_K h p = 0) (hn : n ≤ 3840) (hp : ∃ k, n = 120 * 2 ^ k) (h2 : 2 * am_N h (bb w i) ≤ n) (hz : w = wa → i < a_n S.1 → a_kn S.1 i = true → e_sz (a_E S.1 i) = 0) :
    RC tt P (am_sR (am_nA h p 23 n) 4 2 (cd (c_en w i)) (some p)) cd (bbu bb w i p) wa wt S ∧ fr P h (am_sR (am_nA h p 23 n) 4 2 (cd (c_en w i)) (some p)) ∧ am_U (am_sR (am_nA h p 23 n) 4 2 (cd (c_en w i)) (some p)) = am_U h + 1 ∧ am_V (am_sR (am_nA h p 23 n) 4 2 (cd (c_en w i)) (some p)) + 2 * pt h bb ≤ am_V h + 2 * pt (am_sR (am_nA h p 23 n) 4 2 (cd (c_en w i)) (some p)) (bbu bb w i p) := by
  obtain ⟨q1, q2, q3, q4, q5, q6, q7⟩ := q
  obtain ⟨r1, r2, r3, r4, r5⟩ := cl_room q1 hw hi hq hn hp h2
  have cq : ∀ k, cK k → cd k ≠ p := fun k hk e => cl_K q1 k hk (by rw [e]; exact hq)
  have kq : ∀ a, am_K h a ≠ 0 → a ≠ p := fun a hk e => hk (by rw [e]; exact hq)
  have eI : am_I (am_sR (am_nA h p 23 n) 4 2 (cd (c_en w i)) (some p)) = am_I h := by simp only [am_hs]
  have eJ : am_J (am_sR (am_nA h p 23 n) 4 2 (cd (c_en w i)) (some p)) = am_J h := by simp only [am_hs]
  have eU : am_U (am_sR (am_nA h p 23 n) 4 2 (cd (c_en w i)) (some p)) = am_U h + 1 := by simp only [am_hs]
  have frm : fr P h (am_sR (am_nA h p 23 n) 4 2 (cd (c_en w i)) (some p)) := fun a ha => (fr1.nA (kq a (q7 a ha).1)).tr (fr1.sR ((q7 a ha).2.1 _))
  generalize am_sR (am_nA h p 23 n) 4 2 (cd (c_en w i)) (some p) = h' at *
  have s5 := q1.2.2.2.2.1
  have s1 := q1.1
  refine ⟨⟨r1, ⟨?_, fun j hj => ?_, fun b hb => ?_⟩, q3, ⟨?_, q4.2.1, fun j hj => ?_⟩, ?_, ?_, fun a ha => ?_⟩, frm, eU, r2⟩
  · rw [eI]; exact q2.1
  · have hj24 : j < 24 := by have := q3.1; omega
    have v := q2.2.1 j hj
    obtain ⟨y1, y2, y3, y4, y5, y6, y7, y8, y9, y10, y11, y12⟩ := v
    refine ⟨by rw [eI]; exact y1, by rw [eI]; exact y2, fun k hk => ?_, by rw [eI]; exact y4, by rw [eI]; exact y5, by rw [eI]; exact y6, by rw [eI]; exact y7, by rw [eJ]; exact y8, by rw [eI]; exact y9, by rw [eI]; exact y10, by rw [eI]; exact y11, fun hk => ?_⟩
    · rw [(r3 _ (cq _ (cK_un s1 hj24))).1]; exact y3 k hk
    · by_cases c : wa = w ∧ j = i
      · obtain ⟨rfl, rfl⟩ := c
        have z := hz rfl hj hk
        rw [z]
        exact ⟨Nat.zero_le _, fun k hk => absurd hk (Nat.not_lt_zero k)⟩
      · rw [show bbu bb w i p wa j = bb wa j from if_neg c]
        have ne : bb wa j ≠ p := kq _ (by rw [((s5 wa s1).1.2.2.2.2.2.2.2.1 j hj24).2.2.2.2.2.2.1]; decide)
        rw [(r3 _ ne).1, (r3 _ ne).2.1]
        exact y12 hk
  · exact (q2.2.2 b hb).same (fun f => by rw [eI]) (r3 _ (cq _ (cK_bi s1 hb))).1 (r3 _ (cq _ (cK_bd s1 hb))).1
  · rw [eI]; exact q4.1
  · rw [(r3 _ (cq _ (cK_tb q1.2.1))).1]; exact q4.2.2 j hj
  · rw [eI]; exact q5
  · obtain ⟨k1, k2, k3, k4, k5, k6⟩ := q6
    have n1 : tt 1 ≠ p := kq _ (by rw [k1]; decide)
    have n0 : tt 0 ≠ p := kq _ (by rw [k4]; decide)
    unfold tk_s
    rw [(r3 _ n1).1, (r3 _ n1).2.1, (r3 _ n1).2.2, (r3 _ n0).1, (r3 _ n0).2.1, (r3 _ n0).2.2]
    exact ⟨k1, k2, k3, k4, k5, k6⟩
  · obtain ⟨p1, p2, p3⟩ := q7 a ha
    rw [(r3 _ (kq a p1)).2.2]
    refine ⟨p1, p2, fun w' i' h1 h2 => ?_⟩
    unfold bbu
    split
    · exact kq a p1
    · exact p3 w' i' h1 h2
/-- the calls that make room -/
def okR (tt : Nat → Nat) (P : Nat → Prop) (h : am_H) (cd : Nat → Nat) (bb : Nat → Nat → Nat) (wa wt : Nat) (S : sS) (h' : am_H) : Prop := ∃ bb', RC tt P h' cd bb' wa wt S ∧ fr P h h' ∧ am_U h' ≤ am_U h + 1 ∧ am_V h' + 2 * pt h bb ≤ am_V h + 2 * pt h' bb'
theorem pt_same {h h' : am_H} {bb : Nat → Nat → Nat} (hN : am_N h' = am_N h) : pt h' bb = pt h bb := pt1_same (fun w i _ _ => by rw [hN]) (Nat.le_refl _)
theorem okC.r (q : okC tt P h cd bb wa wt S h') : okR tt P h cd bb wa wt S h' := ⟨bb, q.1, q.2.1, by rw [q.2.2.1]; omega, by rw [q.2.2.2.1, pt_same q.2.2.2.2]; omega⟩
theorem ct_put (q : RC tt P h cd bb wa wt S) {x n : Int32} {v : Int64} (hU : am_U h + 1 ≤ am_LC) (hV : am_V h + 3840 ≤ am_LS) : am_Ct tt 106 [.ref (cd 0), .int x, .long v, .int n] h (am_pI (fun r h' => r = (f_put S x v n).1 ∧ okR tt P h cd bb wa wt (f_put S x v n).2 h') no_x) := by
  have q' := q
  obtain ⟨⟨s1, s2, s3, s4, s5, s6, s7⟩, ⟨v1, v2, v3⟩, q3, q4, q5, q6, q7⟩ := q
  obtain ⟨x1, x2, x3, x4, x5, x6, x7⟩ := s4
  have sa := (s5 wa s1).1
  have n24 := q3.1
  refine vc_106_0 tt _ _ _ _ h _ _ ?_
  simp (disch := omega) only [x1, x2, sa.1, am_hs, qi_lt, qi_le, qi_eq, qi_nn, qi_in, qi_add, qi_l, ql_i, ql_lt, ql_le, ql_eq, ql_add, qc_lt, qc_eq, qc_ge, qc_gt, qc_le, true_and, and_true, and_self, true_or, or_true, false_or, or_false, false_and, and_false, not_true_eq_false, not_false_eq_true, Classical.not_not, true_implies, false_implies, implies_true, exists_eq_left, exists_eq_left', Option.some.injEq, reduceIte, Nat.reduceEqDiff, Nat.reduceLT, Nat.reduceLeDiff, Nat.reduceAdd, Nat.reduceSub, Nat.reduceMul, eq_self, ne_eq, and_imp, forall_const, reduceCtorEq, am_w, List.map_cons, List.map_nil, List.sum_cons, List.sum_nil, Value.category, Nat.zero_le, Nat.le_refl]
  refine ⟨_, _, ct_find sa v1 q3.1, ⟨fun o k e => ?_, fun k e => ?_⟩, fun _ _ z => z⟩
  · obtain ⟨ek, e⟩ := e
    subst k
    rcases e with ⟨i, hi, rfl, e⟩ | ⟨e, _⟩
    · cases e
      obtain ⟨t1, t2⟩ := sa.2.2.2.2.2.2.2.1 i (by omega)
      obtain ⟨u1, u2, u3, u4, u5, u6, u7, u8⟩ := t2
      obtain ⟨y1, y2, y3, y4, y5, y6, y7, y8, y9, y10, y11, y12⟩ := v2 i hi
      obtain ⟨g1, g2, g3, g4⟩ := q3.2.1 i hi
      have fE : f_put S (Int32.ofNat i) v n = if ¬ e_kd (a_E S.1 i) = 0 ∨ n < Int32.ofNat 1 ∨ Int32.ofNat 8 < n then (-2, S) else if a_kn S.1 i = false ∨ e_an (a_E S.1 i) = true then (-3, S)
    else if 120 < e_sz (a_E S.1 i) + n.toNatClampNeg then (-4, S) else (Int32.ofNat (e_sz (a_E S.1 i) + n.toNatClampNeg), put_E S i (e_setB (a_E S.1 i) v n.toNatClampNeg)) := by rw [f_put, ixo_n hi (by omega)]
      have bad : (¬ e_kd (a_E S.1 i) = 0 ∨ n < Int32.ofNat 1 ∨ Int32.ofNat 8 < n) → (-2 : Int32) = (f_put S (Int32.ofNat i) v n).1 ∧ okR tt P h cd bb wa wt (f_put S (Int32.ofNat i) v n).2 h := by
        intro z
        rw [fE, if_pos z]; exact ⟨rfl, (okC.rf q').r⟩
      simp (disch := omega) only [u1, y1, x1, x2, sa.1, y5, am_hs, qi_lt, qi_le, qi_eq, qi_nn, qi_in, qi_add, qi_l, ql_i, ql_lt, ql_le, ql_eq, ql_add, qc_lt, qc_eq, qc_ge, qc_gt, qc_le, true_and, and_true, and_self, true_or, or_true, false_or, or_false, false_and, and_false, not_true_eq_false, not_false_eq_true, Classical.not_not, true_implies, false_implies, implies_true, exists_eq_left, exists_eq_left', Option.some.injEq, reduceIte, Nat.reduceEqDiff, Nat.reduceLT, Nat.reduceLeDiff, Nat.reduceAdd, Nat.reduceSub, Nat.reduceMul, eq_self, ne_eq, and_imp, forall_const, reduceCtorEq, am_w, List.map_cons, List.map_nil, List.sum_cons, List.sum_nil, Value.category, Nat.zero_le, Nat.le_refl]
      refine ⟨fun z => bad (Or.inl z), fun z => ⟨fun z2 => bad (Or.inr (Or.inl z2)), fun z2 => ⟨fun z3 => ?_, fun z3 => bad (Or.inr (Or.inr (Int32.not_le.1 z3)))⟩⟩⟩
      have hnn : ∃ m, 1 ≤ m ∧ m ≤ 8 ∧ n = Int32.ofNat m := by
        rcases qi_cases n with hn | ⟨m, hm, rfl⟩
        · exact absurd (Int32.lt_trans hn (by decide)) z2
        · simp (disch := omega) only [qi_lt, qi_le, qi_eq, qi_nn, qi_in, qi_add, qi_l, ql_i, ql_lt, ql_le, ql_eq, ql_add, qc_lt, qc_eq, qc_ge, qc_gt, qc_le] at z2 z3
          exact ⟨m, by omega, z3, rfl⟩
      obtain ⟨m, m1, m8, rfl⟩ := hnn
      rw [fE, if_neg (fun w => by
        rcases w with w | w | w
        · exact w z
        · exact z2 w
        · exact absurd z3 (Int32.not_le.2 w)), qi_nn (by omega)]
      refine ⟨_, _, ct_isKnown sa g4 (v3 _ g4), fun r k e => ?_, fun _ _ z => z⟩
      obtain ⟨ek, e⟩ := e
      subst k e
      simp (disch := omega) only [u1, y6, y4, b01_z, am_hs, qi_lt, qi_le, qi_eq, qi_nn, qi_in, qi_add, qi_l, ql_i, ql_lt, ql_le, ql_eq, ql_add, qc_lt, qc_eq, qc_ge, qc_gt, qc_le, true_and, and_true, and_self, true_or, or_true, false_or, or_false, false_and, and_false, not_true_eq_false, not_false_eq_true, Classical.not_not, true_implies, false_implies, implies_true, exists_eq_left, exists_eq_left', Option.some.injEq, reduceIte, Nat.reduceEqDiff, Nat.reduceLT, Nat.reduceLeDiff, Nat.reduceAdd, Nat.reduceSub, Nat.reduceMul, eq_self, ne_eq, and_imp, forall_const, reduceCtorEq, am_w, List.map_cons, List.map_nil, List.sum_cons, List.sum_nil, Value.category, Nat.zero_le, Nat.le_refl]
      refine ⟨fun w1 => by rw [if_pos (show a_kn S.1 i = false ∨ e_an (a_E S.1 i) = true from Or.inl w1)]; exact ⟨rfl, (okC.rf q').r⟩, fun w1 => ⟨fun w2 => ⟨fun w3 => ?_, fun w3 => ?_⟩, fun w2 => by rw [if_pos (Or.inr (by rw [Bool.not_eq_false] at w2; exact w2))]; exact ⟨rfl, (okC.rf q').r⟩⟩⟩
      · have kn : a_kn S.1 i = true := by rw [Bool.not_eq_false] at w1; exact w1
        rw [if_neg (fun z => z.elim w1 (fun z => by rw [w2] at z; cases z)), if_neg (by omega)]
        obtain ⟨b1, b2⟩ := y12 kn
        have hrm := rmo_ge (show e_sz (a_E S.1 i) + m ≤ 2400 by omega)
        refine ⟨_, _, ct_addBytes4 u1 u5 u6 u7 y4 w3 m1 m8 (fun _ => ⟨hU, by omega⟩), fun k e => ?_, fun _ _ z => z⟩
        obtain ⟨p, hp, rfl⟩ := e
        -- the row with room
        have rm : ∃ bb', RC tt P (mr_h h (cd (c_en wa i)) (bb wa i) (e_sz (a_E S.1 i) + m) p) cd bb' wa wt S ∧ fr P h (mr_h h (cd (c_en wa i)) (bb wa i) (e_sz (a_E S.1 i) + m) p) ∧ am_U (mr_h h (cd (c_en wa i)) (bb wa i) (e_sz (a_E S.1 i) + m) p) ≤ am_U h + 1 ∧ am_V (mr_h h (cd (c_en wa i)) (bb wa i) (e_sz (a_E S.1 i) + m) p) + 2 * pt h bb ≤ am_V h + 2 * pt (mr_h h (cd (c_en wa i)) (bb wa i) (e_sz (a_E S.1 i) + m) p) bb' ∧ mr_b h (bb wa i) (e_sz (a_E S.1 i) + m) p = bb' wa i ∧ e_sz (a_E S.1 i) + m ≤ am_N (mr_h h (cd (c_en wa i)) (bb wa i) (e_sz (a_E S.1 i) + m) p) (bb' wa i) := by
          unfold mr_h mr_b
          by_cases c : e_sz (a_E S.1 i) + m ≤ am_N h (bb wa i)
          · rw [if_pos c, if_pos c]
            exact ⟨bb, q', fr.rf, by omega, by omega, rfl, c⟩
          · rw [if_neg c, if_neg c]
            have n0 : am_N h (bb wa i) = 0 := by
              rcases u8 with u8 | ⟨k, u8⟩
              · exact u8
              · have : 1 ≤ 2 ^ k := Nat.one_le_two_pow
                omega
            obtain ⟨r1, r2, r3, r4⟩ := q'.room (w := wa) (i := i) (p := p) (n := rmo (e_sz (a_E S.1 i) + m)) s1 (by omega) (hp (by omega)) hrm.2.2 rmo_p (by omega) (fun _ _ _ => by omega)
            refine ⟨_, r1, r2, by omega, r4, ?_, ?_⟩
            · exact (if_pos ⟨rfl, rfl⟩).symm
            · rw [show bbu bb wa i p wa i = p from if_pos ⟨rfl, rfl⟩]
              show e_sz (a_E S.1 i) + m ≤ va_up (am_N h) p (rmo (e_sz (a_E S.1 i) + m)) p
              rw [va_up, if_pos rfl]
              exact hrm.1
        obtain ⟨bb', r1, r2, r3, r4, r5, r6⟩ := rm
        rw [r5]
        generalize mr_h h (cd (c_en wa i)) (bb wa i) (e_sz (a_E S.1 i) + m) p = k at r1 r2 r3 r4 r6 ⊢
        have R := r1
        obtain ⟨⟨-, -, S3, -, S5, -, -⟩, ⟨-, V2, V3⟩, -, -, -, -, -⟩ := r1
        obtain ⟨U1, U2, U3, U4, U5, U6, U7, U8⟩ := ((S5 wa s1).1.2.2.2.2.2.2.2.1 i (by omega)).2
        obtain ⟨Y1, Y2, Y3, Y4, Y5, Y6, Y7, Y8, Y9, Y10, Y11, Y12⟩ := V2 i hi
        simp (disch := omega) only [U1, am_hs, true_and, and_true, and_self, true_or, or_true, false_or, or_false, false_and, and_false, not_true_eq_false, not_false_eq_true, Classical.not_not, true_implies, false_implies, implies_true, exists_eq_left, exists_eq_left', Option.some.injEq, reduceIte, Nat.reduceEqDiff, Nat.reduceLT, Nat.reduceLeDiff, Nat.reduceAdd, Nat.reduceSub, Nat.reduceMul, eq_self, ne_eq, and_imp, forall_const, reduceCtorEq, am_w, List.map_cons, List.map_nil, List.sum_cons, List.sum_nil, Value.category, Nat.zero_le, Nat.le_refl]
        have neu : cd (c_un wa i) ≠ bb' wa i := fun e => S3.2.2 wa i _ s1 (by omega) (cK_un s1 (by omega)) e.symm
        have up := R.upE (h' := am_sI (am_cA k (bb' wa i) (apw (am_A k (bb' wa i)) (e_sz (a_E S.1 i)) v m)) 4 3 (cd (c_en wa i)) (Int32.ofNat (e_sz (a_E S.1 i) + m))) hi (e' := e_setB (a_E S.1 i) v m) rfl rfl rfl rfl (fun c f a z => by simp only [am_hs]; rw [if_neg (fun w => z ⟨w.1, w.2.2⟩)]) (fun _ _ _ _ => rfl) (fun a z z2 => by simp only [am_hs]; rw [if_neg z2]) rfl ?_ ⟨g1, g2, by show e_sz (a_E S.1 i) + m ≤ 2400; omega, g4⟩ (Nat.le_trans (Nat.le_of_eq (if_neg (fun z => by have z2 : 120 < e_sz (a_E S.1 i) + m := z.2; omega))) (Nat.zero_le _))
        · refine ⟨bb', up.1, r2.tr up.2, by simp only [am_hs]; exact r3, ?_⟩
          rw [pt_same (h := k) (bb := bb') (h' := am_sI (am_cA k (bb' wa i) (apw (am_A k (bb' wa i)) (e_sz (a_E S.1 i)) v m)) 4 3 (cd (c_en wa i)) (Int32.ofNat (e_sz (a_E S.1 i) + m))) rfl]
          exact r4
        · refine ⟨?_, ?_, ?_, ?_, ?_, ?_, ?_, ?_, ?_, ?_, ?_, ?_⟩ <;> (try simp only [am_hs, true_and, and_true, and_self, true_or, or_true, false_or, or_false, false_and, and_false, not_true_eq_false, not_false_eq_true, Classical.not_not, true_implies, false_implies, implies_true, exists_eq_left, exists_eq_left', Option.some.injEq, reduceIte, Nat.reduceEqDiff, Nat.reduceLT, Nat.reduceLeDiff, Nat.reduceAdd, Nat.reduceSub, Nat.reduceMul, eq_self, ne_eq, and_imp, forall_const, reduceCtorEq, am_w, List.map_cons, List.map_nil, List.sum_cons, List.sum_nil, Value.category, Nat.zero_le, Nat.le_refl]) <;> (try first | exact Y1 | exact Y2 | exact Y4 | exact Y5 | exact Y6 | exact Y7 | exact Y8 | exact Y9 | exact Y10 | exact Y11 | rfl)
          · intro j hj
            rw [if_neg neu]
            exact Y3 j hj
          · intro _
            refine ⟨r6, fun j hj => ?_⟩
            have hj' : j < e_sz (a_E S.1 i) + m := hj
            show apw (am_A k (bb' wa i)) (e_sz (a_E S.1 i)) v m j = apw (e_by (a_E S.1 i)) (e_sz (a_E S.1 i)) v m j
            unfold apw
            by_cases c : e_sz (a_E S.1 i) ≤ j ∧ j < e_sz (a_E S.1 i) + m
            · rw [if_pos c, if_pos c]
            · rw [if_neg c, if_neg c]
              exact (Y12 kn).2 j (by omega)
      · rw [if_neg (fun z => z.elim w1 (fun z => by rw [w2] at z; cases z)), if_pos (by omega)]
        exact ⟨rfl, (okC.rf q').r⟩
    · cases e
  · obtain ⟨ek, e⟩ := e
    subst k
    rcases e with ⟨i, hi, _, e⟩ | ⟨_, e⟩
    · cases e
    · have fE : f_put S x v n = (-2, S) := by rw [f_put, ixo_no (by omega) e]
      rw [fE]
      exact ⟨rfl, (okC.rf q').r⟩
end PI
