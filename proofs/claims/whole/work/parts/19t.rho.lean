/-! deps: 19s -/
/-! ===== the class reads: handOut ===== -/
section RW
variable {tt : Nat → Nat} {P : Nat → Prop} {h0 h1 h h' h'' k k' : am_H} {cd : Nat → Nat} {bb bb' : Nat → Nat → Nat} {wa wt n p c : Nat} {S : sS} {F : Fn} {rd : RD} {dn : Nat → Bool}
/-- an entry's home, its size -/
def hmE (rd : RD) (i : Nat) : Nat := rd.1.2.2.2.1.2.1 (rk rd.2.1.2.1 i)
def szE (rd : RD) (i : Nat) : Nat := rd.1.2.2.2.1.2.2 (rk rd.2.1.2.1 i)
def knE (rd : RD) (i : Nat) : Bool := (rd.1.2.2.1 (hmE rd i)).2.1
def dnf (rd : RD) (b j i : Nat) : Bool := decide (i < rd.2.1.1 ∧ rd.2.1.2.1 i = false ∧ knE rd i = true ∧ (hmE rd i < b ∨ hmE rd i = b ∧ i < j))
theorem UX.mo (u : UX tt P h1 cd bb wa wt S rd F k bb' c dn) {c' : Nat} (hc : c ≤ c') {dn' : Nat → Bool} (hd : ∀ i, i < rd.2.1.1 → dn' i = dn i) : UX tt P h1 cd bb wa wt S rd F k bb' c' dn' := by
  obtain ⟨u1, u2, u3, u4, u5, u6, u7, u8⟩ := u
  exact ⟨u1, u2, by omega, u4, u5, fun i hi e => u6 i hi (by rw [← hd i hi]; exact e), fun i hi e => u7 i hi (by rw [← hd i hi]; exact e), u8⟩
theorem UX.hs (u : UX tt P h1 cd bb wa wt S rd F k bb' c dn) {i : Nat} (hi : i < rd.2.1.1) : am_I k 4 5 (cd (c_en (1 - wa) i)) = Int32.ofNat (if rd.2.1.2.1 i = true then 0 else hmE rd i) ∧ am_I k 4 3 (cd (c_en (1 - wa) i)) = Int32.ofNat (if rd.2.1.2.1 i = true then 0 else szE rd i) := by
  obtain ⟨u1, u2, u3, u4, u5, u6, u7, u8⟩ := u
  cases e : dn i with
  | false =>
    obtain ⟨v4, v1, vn, v3, v5, v6⟩ := DE.op.1 (u6 i hi e)
    exact ⟨v5, v3⟩
  | true =>
    obtain ⟨z1, z2, z3, z4, z5, z6⟩ := u7 i hi e
    unfold rdE at z4 z5
    simp only [] at z4 z5
    by_cases c : rd.2.1.2.1 i = true
    · rw [if_pos c] at z4 z5 ⊢
      rw [if_pos c]
      exact ⟨z5, z4⟩
    · rw [if_neg c] at z4 z5 ⊢
      rw [if_neg c]
      exact ⟨z5, z4⟩
theorem UX.w (u : UX tt P h1 cd bb wa wt S rd F k bb' c dn) : wa < 2 ∧ wt < 2 ∧ am_K k (cd (c_ar (1 - wa))) = 1 ∧ am_R k 0 0 (cd (c_ar (1 - wa))) = some (cd (c_ea (1 - wa))) ∧ am_K k (cd (c_ea (1 - wa))) = 26 ∧ am_N k (cd (c_ea (1 - wa))) = 24 ∧ am_K k (cd (c_tp (1 - wt))) = 7 ∧ am_R k 6 0 (cd (c_tp (1 - wt))) = some (cd (c_tb (1 - wt))) ∧ am_K k (cd (c_tb (1 - wt))) = 23 ∧ am_N k (cd (c_tb (1 - wt))) = 5000 := by
  have cl := u.1.1
  obtain ⟨a1, a2, a3, a4, a5⟩ := (cl.2.2.2.2.1 (1 - wa) (by omega)).1
  obtain ⟨t1, t2, t3, t4⟩ := (cl.2.2.2.2.1 (1 - wt) (by omega)).2
  exact ⟨cl.1, cl.2.1, a1, a2, a3, a4, t1, t2, t3, t4⟩
theorem UX.v (u : UX tt P h1 cd bb wa wt S rd F k bb' c dn) : am_V k ≤ am_V h1 + 368640 := by
  have h := u.2.2.2.1
  have := pt1_le u.1.1 (n := 24) (by omega)
  unfold pt at h
  omega
/-- one entry gets its bytes -/
theorem UX.tb (u : UX tt P h1 cd bb wa wt S rd F k bb' c dn) (rv : RV n rd) {i : Nat} (hi : i < rd.2.1.1) (hd : dn i = false) (he : rd.2.1.2.1 i = false) (hkn : knE rd i = true) (hc : c ≤ 24) (hU : am_U h1 + 25 ≤ am_LC) (hV : am_V h1 + 372480 ≤ am_LS) (hW : ∀ j, j < szE rd i → by8 (am_A k (cd (c_tb (1 - wt))) (frm rd i + j)) = unp F rd.1.2.1 rd.1.2.2.1 (hmE rd i) (frm rd i + j)) (h24 : frm rd i + szE rd i ≤ 2400) :
    am_Ct tt 48 [.ref (cd (c_en (1 - wa) i)), .ref (cd (c_tb (1 - wt))), .int (Int32.ofNat (frm rd i))] k (am_pV (fun h' => (∃ bb'', UX tt P h1 cd bb wa wt S rd F h' bb'' (c + 1) (va_up dn i true)) ∧ am_A h' (cd (c_tb (1 - wt))) = am_A k (cd (c_tb (1 - wt)))) no_x) := by
  have n24 := rv.1
  have hi24 : i < 24 := by omega
  have w1 : 1 - wa < 2 := by omega
  have cl := u.1.1
  have ci := cl.2.2.1
  have se := ((cl.2.2.2.2.1 _ w1).1.2.2.2.2.2.2.2.1 i hi24).2
  obtain ⟨e1, e2, e3, e4, e5, e6, e7, e8⟩ := se
  have uw := u.w
  have hz : szE rd i ≤ 2400 := by omega
  have h3 := (u.hs hi).2
  rw [if_neg (by rw [he]; decide)] at h3
  have h11 := (u.2.2.2.2.2.1 i hi hd).2
  have rg := rmo_ge hz
  have uv := u.v
  refine (ct_takeBytes (tt := tt) u.1.2.2.2.2.2.1 e1 e5 e6 e7 h3 h11 hz uw.2.2.2.2.2.2.2.2.1 (p := frm rd i) (by rw [uw.2.2.2.2.2.2.2.2.2]; omega) (by rw [uw.2.2.2.2.2.2.2.2.2]; omega) (fun e => ci.2.2 _ _ _ w1 hi24 (cK_tb (by omega)) e.symm) (fun _ => ⟨by have := u.2.2.1; omega, by omega⟩)).post (fun o h' q => ?_)
  cases o with
  | inr E => exact q
  | inl o =>
    cases o with
    | some v => exact q
    | none =>
      obtain ⟨q, hq, rfl⟩ := q
      by_cases cz : szE rd i ≤ am_N k (bb' (1 - wa) i)
      · have := u.fill n24 hi hd he hkn (f := tkb (am_A k (bb' (1 - wa) i)) (am_A k (cd (c_tb (1 - wt)))) (frm rd i) (szE rd i)) cz (fun j hj => by rw [tkb, if_pos (show j < szE rd i from hj)]; exact hW j hj)
        rw [mr_h, mr_b, if_pos cz, if_pos cz]
        exact ⟨⟨bb', this.1.mo (by omega) (fun _ _ => rfl)⟩, this.2⟩
      · obtain ⟨r1, r2, r3⟩ := u.room n24 hi hd (hq (by omega)) hz (by omega)
        rw [mr_h, mr_b, if_neg cz, if_neg cz]
        have eb : bbu bb' (1 - wa) i q (1 - wa) i = q := if_pos ⟨rfl, rfl⟩
        have := r1.fill n24 hi hd he hkn (f := tkb (am_A (am_sR (am_nA k q 23 (rmo (szE rd i))) 4 2 (cd (c_en (1 - wa) i)) (some q)) q) (am_A k (cd (c_tb (1 - wt)))) (frm rd i) (szE rd i)) (by rw [eb, r2]; exact rg.1) (fun j hj => by rw [tkb, if_pos (show j < szE rd i from hj)]; exact hW j hj)
        rw [eb] at this
        exact ⟨⟨_, this.1⟩, this.2.trans r3⟩
theorem ct_handOut {b : Nat} (hb : b < rd.1.1) (rv : RV n rd) (hkn : (rd.1.2.2.1 b).2.1 = true) (hU : am_U h1 + 25 ≤ am_LC) (hV : am_V h1 + 372480 ≤ am_LS) (u : UX tt P h1 cd bb wa wt S rd F k bb' (cn (dnf rd b 0) 24) (dnf rd b 0)) (hW : ∀ j, j < rd.1.2.1 b → by8 (am_A k (cd (c_tb (1 - wt))) j) = unp F rd.1.2.1 rd.1.2.2.1 b j) :
    am_Ct tt 84 [.ref (cd 30), .int (Int32.ofNat b), .ref (cd (c_ar (1 - wa))), .ref (cd (c_tp (1 - wt)))] k (am_pV (fun h' => ∃ bb'', UX tt P h1 cd bb wa wt S rd F h' bb'' (cn (dnf rd (b + 1) 0) 24) (dnf rd (b + 1) 0)) no_x) := by
  have rv' := rv
  obtain ⟨n24, B6, xv, x24, bv, -, -, rkx, -⟩ := rv
  obtain ⟨p1, p2, fw, bt, bk⟩ := bv b hb
  have bk := bk hkn
  have key : ∀ (d i : Nat) (k2 : am_H) (b2 : Nat → Nat → Nat), d + i = rd.2.1.1 → UX tt P h1 cd bb wa wt S rd F k2 b2 (cn (dnf rd b i) 24) (dnf rd b i) → am_A k2 (cd (c_tb (1 - wt))) = am_A k (cd (c_tb (1 - wt))) →
      am_Ev tt 84 6 [none, some (.int (Int32.ofNat b)), some (.ref (cd (c_ar (1 - wa)))), some (.ref (cd (c_tp (1 - wt)))), some (.int (Int32.ofNat (bef rd.1.2.2.2.1.2.1 rd.1.2.2.2.1.2.2 b (rk rd.2.1.2.1 i)))), some (.int (Int32.ofNat i)), none] [] k2 (am_pV (fun h' => ∃ bb'', UX tt P h1 cd bb wa wt S rd F h' bb'' (cn (dnf rd (b + 1) 0) 24) (dnf rd (b + 1) 0)) no_x) := by
    intro d
    induction d with
    | zero =>
      intro i k2 b2 e u2 ew
      have ei : i = rd.2.1.1 := by omega
      have uw := u2.w
      have iN := u2.2.2.2.2.1
      have q1 : rd.2.1.1 ≤ i := by omega
      refine vc_84_6 tt _ _ _ _ _ _ _ _ ?_
      simp (disch := omega) only [uw, iN, q1, qi_lt, qi_le, qi_eq, qi_nn, qi_in, qi_add, qi_l, ql_i, ql_lt, ql_le, ql_eq, ql_add, qc_lt, qc_eq, qc_ge, qc_gt, qc_le, true_and, and_true, and_self, true_or, or_true, false_or, or_false, false_and, and_false, not_true_eq_false, not_false_eq_true, Classical.not_not, true_implies, false_implies, implies_true, exists_eq_left, exists_eq_left', Option.some.injEq, reduceIte, Nat.reduceEqDiff, Nat.reduceLT, Nat.reduceLeDiff, Nat.reduceAdd, Nat.reduceSub, Nat.reduceMul, eq_self, ne_eq, and_imp, forall_const, reduceCtorEq, am_w, List.map_cons, List.map_nil, List.sum_cons, List.sum_nil, Value.category, Nat.zero_le, Nat.le_refl]
      have ed : dnf rd b i = dnf rd (b + 1) 0 := by
        funext j
        unfold dnf
        apply decide_eq_decide.2
        constructor
        · intro ⟨z1, z2, z3, z4⟩
          exact ⟨z1, z2, z3, by omega⟩
        · intro ⟨z1, z2, z3, z4⟩
          exact ⟨z1, z2, z3, by omega⟩
      rw [ed] at u2
      exact ⟨b2, u2⟩
    | succ d ih =>
      intro i k2 b2 e u2 ew
      have hi : i < rd.2.1.1 := by omega
      have hi24 : i < 24 := by omega
      have uw := u2.w
      have iN := u2.2.2.2.2.1
      have cl := u2.1.1
      have w1 : 1 - wa < 2 := by omega
      have a8 := (cl.2.2.2.2.1 _ w1).1.2.2.2.2.2.2.2.1 i hi24
      have a81 := a8.1
      have a82 := a8.2.1
      have q1 : ¬ rd.2.1.1 ≤ i := by omega
      obtain ⟨hs5, hs3⟩ := u2.hs hi
      have same : (rd.2.1.2.1 i = true ∨ ¬ hmE rd i = b) → dnf rd b (i + 1) = dnf rd b i := by
        intro hc
        funext j
        unfold dnf
        apply decide_eq_decide.2
        constructor
        · intro ⟨z1, z2, z3, z4⟩
          refine ⟨z1, z2, z3, ?_⟩
          by_cases cj : j = i
          · rw [cj] at z2 z4
            rcases hc with hc | hc
            · rw [z2] at hc; cases hc
            · rcases z4 with z4 | z4
              · rw [cj]; exact Or.inl z4
              · exact absurd z4.1 hc
          · omega
        · intro ⟨z1, z2, z3, z4⟩
          exact ⟨z1, z2, z3, by omega⟩
      have skip : (rd.2.1.2.1 i = true ∨ ¬ hmE rd i = b) → am_Ev tt 84 62 [none, some (.int (Int32.ofNat b)), some (.ref (cd (c_ar (1 - wa)))), some (.ref (cd (c_tp (1 - wt)))), some (.int (Int32.ofNat (bef rd.1.2.2.2.1.2.1 rd.1.2.2.2.1.2.2 b (rk rd.2.1.2.1 i)))), some (.int (Int32.ofNat i)), none] [] k2 (am_pV (fun h' => ∃ bb'', UX tt P h1 cd bb wa wt S rd F h' bb'' (cn (dnf rd (b + 1) 0) 24) (dnf rd (b + 1) 0)) no_x) := by
        intro hc
        refine vc_84_62 tt _ _ _ _ _ _ _ _ ?_
        simp (disch := omega) only [qi_lt, qi_le, qi_eq, qi_nn, qi_in, qi_add, qi_l, ql_i, ql_lt, ql_le, ql_eq, ql_add, qc_lt, qc_eq, qc_ge, qc_gt, qc_le]
        have := ih (i + 1) k2 b2 (by omega) (by rw [same hc]; exact u2) ew
        have eb : bef rd.1.2.2.2.1.2.1 rd.1.2.2.2.1.2.2 b (rk rd.2.1.2.1 (i + 1)) = bef rd.1.2.2.2.1.2.1 rd.1.2.2.2.1.2.2 b (rk rd.2.1.2.1 i) := by
          rw [rk]
          cases em : rd.2.1.2.1 i with
          | true => simp
          | false =>
            rcases hc with hc | hc
            · rw [em] at hc; cases hc
            · show bef _ _ b (rk rd.2.1.2.1 i + 1) = _
              rw [bef, if_neg (show ¬ rd.1.2.2.2.1.2.1 (rk rd.2.1.2.1 i) = b from hc)]; rfl
        rw [eb] at this
        exact this
      refine vc_84_6 tt _ _ _ _ _ _ _ _ ?_
      cases em : rd.2.1.2.1 i with
      | true =>
        rw [if_pos em] at hs5 hs3
        simp (disch := omega) only [uw, iN, q1, a81, a82, hi24, hs5, hs3, qi_lt, qi_le, qi_eq, qi_nn, qi_in, qi_add, qi_l, ql_i, ql_lt, ql_le, ql_eq, ql_add, qc_lt, qc_eq, qc_ge, qc_gt, qc_le, true_and, and_true, and_self, true_or, or_true, false_or, or_false, false_and, and_false, not_true_eq_false, not_false_eq_true, Classical.not_not, true_implies, false_implies, implies_true, exists_eq_left, exists_eq_left', Option.some.injEq, reduceIte, Nat.reduceEqDiff, Nat.reduceLT, Nat.reduceLeDiff, Nat.reduceAdd, Nat.reduceSub, Nat.reduceMul, eq_self, ne_eq, and_imp, forall_const, reduceCtorEq, am_w, List.map_cons, List.map_nil, List.sum_cons, List.sum_nil, Value.category, Nat.zero_le, Nat.le_refl]
        exact ⟨fun _ => skip (Or.inl em), fun _ => skip (Or.inl em)⟩
      | false =>
        rw [if_neg (by rw [em]; decide)] at hs5 hs3
        have hx := rkx i hi em
        obtain ⟨xv1, xv2, xv3⟩ := xv _ hx
        have hm6 : hmE rd i < 6 := by unfold hmE; omega
        have sz1 : 1 ≤ szE rd i := xv2
        have sz2 : szE rd i ≤ 2400 := xv3
        have q3 : ¬ szE rd i ≤ 0 := by omega
        simp (disch := omega) only [uw, iN, q1, a81, a82, hi24, hs5, hs3, q3, qi_lt, qi_le, qi_eq, qi_nn, qi_in, qi_add, qi_l, ql_i, ql_lt, ql_le, ql_eq, ql_add, qc_lt, qc_eq, qc_ge, qc_gt, qc_le, true_and, and_true, and_self, true_or, or_true, false_or, or_false, false_and, and_false, not_true_eq_false, not_false_eq_true, Classical.not_not, true_implies, false_implies, implies_true, exists_eq_left, exists_eq_left', Option.some.injEq, reduceIte, Nat.reduceEqDiff, Nat.reduceLT, Nat.reduceLeDiff, Nat.reduceAdd, Nat.reduceSub, Nat.reduceMul, eq_self, ne_eq, and_imp, forall_const, reduceCtorEq, am_w, List.map_cons, List.map_nil, List.sum_cons, List.sum_nil, Value.category, Nat.zero_le, Nat.le_refl]
        refine ⟨fun c1 => skip (Or.inr c1), fun c1 => ?_⟩
        have ekn : knE rd i = true := by unfold knE; rw [c1]; exact hkn
        have efr : frm rd i = bef rd.1.2.2.2.1.2.1 rd.1.2.2.2.1.2.2 b (rk rd.2.1.2.1 i) := by unfold frm; rw [show rd.1.2.2.2.1.2.1 (rk rd.2.1.2.1 i) = b from c1]
        have bin := bef_in (sz := rd.1.2.2.2.1.2.2) hx c1
        have bin2 : frm rd i + szE rd i ≤ rd.1.2.1 b := by rw [efr, ← bk]; exact bin
        have hd : dnf rd b i i = false := by
          unfold dnf
          exact decide_eq_false (fun z => by omega)
        rw [← efr]
        refine ⟨_, _, u2.tb rv' hi hd em ekn ?_ hU hV (fun j hj => ?_) (by omega), fun k3 w => ?_, fun _ _ z => z.elim⟩
        · exact cn_le _ 24
        · rw [ew, c1]; exact hW _ (by omega)
        · obtain ⟨⟨b3, u3⟩, ew3⟩ := w
          have hs3' := (u3.hs hi).2
          rw [if_neg (by rw [em]; decide)] at hs3'
          have cl3 := u3.1.1
          have a83 := ((cl3.2.2.2.2.1 _ w1).1.2.2.2.2.2.2.2.1 i hi24).2.1
          simp (disch := omega) only [a83, hs3', qi_lt, qi_le, qi_eq, qi_nn, qi_in, qi_add, qi_l, ql_i, ql_lt, ql_le, ql_eq, ql_add, qc_lt, qc_eq, qc_ge, qc_gt, qc_le, true_and, and_true, and_self, true_or, or_true, false_or, or_false, false_and, and_false, not_true_eq_false, not_false_eq_true, Classical.not_not, true_implies, false_implies, implies_true, exists_eq_left, exists_eq_left', Option.some.injEq, reduceIte, Nat.reduceEqDiff, Nat.reduceLT, Nat.reduceLeDiff, Nat.reduceAdd, Nat.reduceSub, Nat.reduceMul, eq_self, ne_eq, and_imp, forall_const, reduceCtorEq, am_w, List.map_cons, List.map_nil, List.sum_cons, List.sum_nil, Value.category, Nat.zero_le, Nat.le_refl]
          refine vc_84_62 tt _ _ _ _ _ _ _ _ ?_
          simp (disch := omega) only [qi_lt, qi_le, qi_eq, qi_nn, qi_in, qi_add, qi_l, ql_i, ql_lt, ql_le, ql_eq, ql_add, qc_lt, qc_eq, qc_ge, qc_gt, qc_le]
          have ed : va_up (dnf rd b i) i true = dnf rd b (i + 1) := by
            funext j
            unfold va_up
            by_cases cj : j = i
            · rw [if_pos cj, cj]
              unfold dnf
              exact (decide_eq_true ⟨hi, em, ekn, Or.inr ⟨c1, by omega⟩⟩).symm
            · rw [if_neg cj]
              unfold dnf
              apply decide_eq_decide.2
              constructor
              · intro ⟨z1, z2, z3, z4⟩; exact ⟨z1, z2, z3, by omega⟩
              · intro ⟨z1, z2, z3, z4⟩; exact ⟨z1, z2, z3, by omega⟩
          have ec : cn (dnf rd b i) 24 + 1 = cn (dnf rd b (i + 1)) 24 := by rw [← ed, cn_up hd 24 hi24]
          rw [ed, ec] at u3
          have := ih (i + 1) k3 b3 (by omega) u3 (ew3.trans ew)
          have eb : bef rd.1.2.2.2.1.2.1 rd.1.2.2.2.1.2.2 b (rk rd.2.1.2.1 (i + 1)) = frm rd i + szE rd i := by
            rw [rk, em, efr]
            show bef _ _ b (rk rd.2.1.2.1 i + 1) = _
            rw [bef, if_pos (show rd.1.2.2.2.1.2.1 (rk rd.2.1.2.1 i) = b from c1)]; rfl
          rw [eb] at this
          exact this
  refine vc_84_0 tt _ _ _ _ k _ _ ?_
  exact key rd.2.1.1 0 k bb' (by omega) u rfl
end RW
