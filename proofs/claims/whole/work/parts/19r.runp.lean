/-! deps: 19q -/
/-! ===== the class reads: bytes are handed out ===== -/
/-! 84 yX7_handOut -/
theorem vc_84_0 (tt : Nat → Nat) (a0 : Nat) (a1 : Int32) (a2 : Nat) (a3 : Nat) (h : am_H) (Q : am_H → Prop) (Qx : String → am_H → Prop) (q :
  am_Ev tt 84 6 [none, some (.int a1), some (.ref a2), some (.ref a3), some (.int (Int32.ofNat 0)), some (.int (Int32.ofNat 0)), none] [] h (am_pV Q Qx)) :
  am_Ev tt 84 0 [some (.ref a0), some (.int a1), some (.ref a2), some (.ref a3), none, none, none] [] h (am_pV Q Qx) := am_vc 7 [(6, [false, true, true, true, true, true, false]), (62, [false, true, true, true, true, true, false])] q
theorem vc_84_6 (tt : Nat → Nat) (a1 : Int32) (a2 : Nat) (a3 : Nat) (a4 : Int32) (a5 : Int32) (h : am_H) (Q : am_H → Prop) (Qx : String → am_H → Prop) (q :
  (am_K h a2 = 1 ∧
  (((am_I h 0 1 a2) ≤ a5 →
   Q h) ∧
  (¬ ((am_I h 0 1 a2) ≤ a5) →
   (am_K h a2 = 1 ∧ ∃ q1, am_R h 0 0 a2 = some q1 ∧
   ((am_K h q1 = 26 ∨ am_K h q1 = 27) ∧ vp_in a5 (am_N h q1) ∧ ∃ q2, am_C h q1 (a5).toNatClampNeg = some q2 ∧
   (am_K h q2 = 5 ∧
   ((¬ (am_I h 4 5 q2) = a1 →
    am_Ev tt 84 62 [none, some (.int a1), some (.ref a2), some (.ref a3), some (.int a4), some (.int a5), none] [] h (am_pV Q Qx)) ∧
   (¬ (¬ (am_I h 4 5 q2) = a1) →
    (am_K h q2 = 5 ∧
    (((am_I h 4 3 q2) ≤ (Int32.ofNat 0) →
     am_Ev tt 84 62 [none, some (.int a1), some (.ref a2), some (.ref a3), some (.int a4), some (.int a5), none] [] h (am_pV Q Qx)) ∧
    (¬ ((am_I h 4 3 q2) ≤ (Int32.ofNat 0)) →
     (am_K h a3 = 7 ∧ ∃ q3, am_R h 6 0 a3 = some q3 ∧
     (am_K h q2 = 5 ∧ ∃ (Q5 : am_H → Prop) (X5 : String → am_H → Prop), am_Ct tt 48 [.ref q2, .ref q3, .int a4] h (am_pV Q5 X5) ∧ (∀ h4, Q5 h4 →
      (am_K h4 q2 = 5 ∧
      am_Ev tt 84 62 [none, some (.int a1), some (.ref a2), some (.ref a3), some (.int (a4 + (am_I h4 4 3 q2))), some (.int a5), none] [] h4 (am_pV Q Qx))) ∧ (∀ E6 h4, X5 E6 h4 → Qx E6 h4))))))))))))))) :
  am_Ev tt 84 6 [none, some (.int a1), some (.ref a2), some (.ref a3), some (.int a4), some (.int a5), none] [] h (am_pV Q Qx) := am_vc 29 [(6, [false, true, true, true, true, true, false]), (62, [false, true, true, true, true, true, false])] q
theorem vc_84_62 (tt : Nat → Nat) (a1 : Int32) (a2 : Nat) (a3 : Nat) (a4 : Int32) (a5 : Int32) (h : am_H) (Q : am_H → Prop) (Qx : String → am_H → Prop) (q :
  am_Ev tt 84 6 [none, some (.int a1), some (.ref a2), some (.ref a3), some (.int a4), some (.int (a5 + (Int32.ofNat 1))), none] [] h (am_pV Q Qx)) :
  am_Ev tt 84 62 [none, some (.int a1), some (.ref a2), some (.ref a3), some (.int a4), some (.int a5), none] [] h (am_pV Q Qx) := am_vc 5 [(6, [false, true, true, true, true, true, false]), (62, [false, true, true, true, true, true, false])] q

def VD (F : Fn) (rd : RD) : Nat → sE := dE rd.1.2.2.2.1 rd.2.1.2.1 rd.2.1.2.2.1 rd.2.1.2.2.2 rd.2.2.1.1 (NMf F rd.2.2.1.2) rd.2.2.2.1 (fun i => (rd.2.2.2.2 i).map Int64.toInt32)
def TCr (rd : RD) : Nat → Int32 := tC rd.1.2.2.2.2 rd.2.1.2.1
section RU
variable {tt : Nat → Nat} {P : Nat → Prop} {h0 h1 h h' h'' k k' : am_H} {cd : Nat → Nat} {bb bb' : Nat → Nat → Nat} {wa wt n p c : Nat} {S : sS} {F : Fn} {rd : RD} {dn : Nat → Bool}
/-- bytes are handed out to those in dn -/
def UX (tt : Nat → Nat) (P : Nat → Prop) (h1 : am_H) (cd : Nat → Nat) (bb : Nat → Nat → Nat) (wa wt : Nat) (S : sS) (rd : RD) (F : Fn) (k : am_H) (bb' : Nat → Nat → Nat) (c : Nat) (dn : Nat → Bool) : Prop := RC tt P k cd bb' wa wt S ∧ fr P h1 k ∧ am_U k ≤ am_U h1 + c ∧ am_V k + 2 * pt h1 bb ≤ am_V h1 + 2 * pt k bb' ∧ am_I k 0 1 (cd (c_ar (1 - wa))) = Int32.ofNat rd.2.1.1 ∧ (∀ i, i < rd.2.1.1 → dn i = false → DE cd wa k i (VD F rd i) (TCr rd i)) ∧ (∀ i, i < rd.2.1.1 → dn i = true → ce_v k (cd (c_en (1 - wa) i)) (cd (c_un (1 - wa) i)) (bb' (1 - wa) i) (rdE F rd i) True) ∧ MS cd wa k rd.1
theorem UX.room (u : UX tt P h1 cd bb wa wt S rd F k bb' c dn) (n24 : rd.2.1.1 ≤ 24) {i q z : Nat} (hi : i < rd.2.1.1) (hd : dn i = false) (hq : am_K k q = 0) (hz : z ≤ 2400) (hlt : am_N k (bb' (1 - wa) i) < z) : UX tt P h1 cd bb wa wt S rd F (am_sR (am_nA k q 23 (rmo z)) 4 2 (cd (c_en (1 - wa) i)) (some q)) (bbu bb' (1 - wa) i q) (c + 1) dn ∧ am_N (am_sR (am_nA k q 23 (rmo z)) 4 2 (cd (c_en (1 - wa) i)) (some q)) q = rmo z ∧ am_A (am_sR (am_nA k q 23 (rmo z)) 4 2 (cd (c_en (1 - wa) i)) (some q)) (cd (c_tb (1 - wt))) = am_A k (cd (c_tb (1 - wt))) := by
  obtain ⟨u1, u2, u3, u4, u5, u6, u7, u8⟩ := u
  have cl := u1.1
  have w2 := cl.1
  have t2 := cl.2.1
  have w1 : 1 - wa < 2 := by omega
  have hi24 : i < 24 := by omega
  have se := ((cl.2.2.2.2.1 _ w1).1.2.2.2.2.2.2.2.1 i hi24).2
  have rg := rmo_ge hz
  have r22 := rmo_2 hz hlt se.2.2.2.2.2.2.2
  obtain ⟨a1, a2, a3, a4⟩ := u1.room w1 hi24 hq rg.2.2 rmo_p r22 (fun e => by omega)
  obtain ⟨b1, b2, b3, b4, b5⟩ := cl_room cl w1 hi24 hq rg.2.2 rmo_p r22
  have eI : am_I (am_sR (am_nA k q 23 (rmo z)) 4 2 (cd (c_en (1 - wa) i)) (some q)) = am_I k := by simp only [am_hs]
  have eJ : am_J (am_sR (am_nA k q 23 (rmo z)) 4 2 (cd (c_en (1 - wa) i)) (some q)) = am_J k := by simp only [am_hs]
  have cq : ∀ j, cK j → cd j ≠ q := fun j hj e => cl_K cl j hj (by rw [e]; exact hq)
  have bq : ∀ w j, w < 2 → j < 24 → bb' w j ≠ q := fun w j hw hj e => by
    have := (((cl.2.2.2.2.1 _ hw).1.2.2.2.2.2.2.2.1 j hj).2).2.2.2.2.2.1
    rw [e, hq] at this
    cases this
  generalize am_sR (am_nA k q 23 (rmo z)) 4 2 (cd (c_en (1 - wa) i)) (some q) = k2 at *
  refine ⟨⟨a1, u2.tr a2, by omega, ?_, ?_, fun j hj hdj => ?_, fun j hj hdj => ?_, ?_⟩, b4, (b3 _ (cq _ (cK_tb (by omega)))).1⟩
  · omega
  · rw [eI]; exact u5
  · have hj24 : j < 24 := by omega
    obtain ⟨v1, v2⟩ := u6 j hj hdj
    refine ⟨?_, by rw [eI]; exact v2⟩
    obtain ⟨z1, z2, z3, z4, z5, z6, z7, z8, z9, z10, z11, z12⟩ := v1
    exact ⟨by rw [eI]; exact z1, by rw [eI]; exact z2, fun l hl => by rw [(b3 _ (cq _ (cK_un w1 hj24))).1]; exact z3 l hl, by rw [eI]; exact z4, by rw [eI]; exact z5, by rw [eI]; exact z6, by rw [eI]; exact z7, fun t ht => by rw [eJ]; exact z8 t ht, by rw [eI]; exact z9, fun t ht => by rw [eI]; exact z10 t ht, by rw [eI]; exact z11, fun z => z.elim⟩
  · have hj24 : j < 24 := by omega
    have ne : ¬ (1 - wa = 1 - wa ∧ j = i) := fun e => by rw [e.2, hd] at hdj; cases hdj
    rw [show bbu bb' (1 - wa) i q (1 - wa) j = bb' (1 - wa) j from if_neg ne]
    have nb := b3 _ (bq _ _ w1 hj24)
    exact (u7 j hj hdj).same (fun l => by rw [eI]) (by rw [eJ]) (b3 _ (cq _ (cK_un w1 hj24))).1 nb.1 nb.2.1
  · obtain ⟨m1, m2, m3, m4, m5⟩ := u8
    refine ⟨by rw [eI]; exact m1, m2, fun b hb => ?_, fun b hb => ?_, fun b hb hb6 => by rw [eI]; exact m5 b hb hb6⟩
    · rw [(b3 _ (cq 42 (by unfold cK; omega))).1]; exact m3 b hb
    · obtain ⟨y1, y2, y3⟩ := m4 b hb
      refine ⟨by rw [eI]; exact y1, by rw [eI]; exact y2, fun j hj => ?_⟩
      rw [(b3 _ (cq _ (cK_bi w1 (by omega)))).1, (b3 _ (cq _ (cK_bd w1 (by omega)))).1]
      exact y3 j hj
/-- where the bytes of an entry's file stand in its block -/
def frm (rd : RD) (i : Nat) : Nat := bef rd.1.2.2.2.1.2.1 rd.1.2.2.2.1.2.2 (rd.1.2.2.2.1.2.1 (rk rd.2.1.2.1 i)) (rk rd.2.1.2.1 i)
theorem UX.fill (u : UX tt P h1 cd bb wa wt S rd F k bb' c dn) (n24 : rd.2.1.1 ≤ 24) {i : Nat} (hi : i < rd.2.1.1) (hd : dn i = false) (he : rd.2.1.2.1 i = false) (hkn : (rd.1.2.2.1 (rd.1.2.2.2.1.2.1 (rk rd.2.1.2.1 i))).2.1 = true) {f : Nat → Int32} (hN : rd.1.2.2.2.1.2.2 (rk rd.2.1.2.1 i) ≤ am_N k (bb' (1 - wa) i)) (hf : ∀ j, j < rd.1.2.2.2.1.2.2 (rk rd.2.1.2.1 i) → f j = unp F rd.1.2.1 rd.1.2.2.1 (rd.1.2.2.2.1.2.1 (rk rd.2.1.2.1 i)) (frm rd i + j)) : UX tt P h1 cd bb wa wt S rd F (am_sI (am_cA k (bb' (1 - wa) i) f) 4 12 (cd (c_en (1 - wa) i)) (b01 (decide (¬ ck f 0 (rd.1.2.2.2.1.2.2 (rk rd.2.1.2.1 i)) = TCr rd i)))) bb' c (va_up dn i true) ∧ am_A (am_sI (am_cA k (bb' (1 - wa) i) f) 4 12 (cd (c_en (1 - wa) i)) (b01 (decide (¬ ck f 0 (rd.1.2.2.2.1.2.2 (rk rd.2.1.2.1 i)) = TCr rd i)))) (cd (c_tb (1 - wt))) = am_A k (cd (c_tb (1 - wt))) := by
  obtain ⟨u1, u2, u3, u4, u5, u6, u7, u8⟩ := u
  have cl := u1.1
  have ci := cl.2.2.1
  have w2 := cl.1
  have t2 := cl.2.1
  have w1 : 1 - wa < 2 := by omega
  have hi24 : i < 24 := by omega
  have eT : TCr rd i = (rd.1.2.2.2.2 (rk rd.2.1.2.1 i)).toInt32 := by unfold TCr tC; rw [if_neg (by rw [he]; decide)]
  have eck : ck f 0 (rd.1.2.2.2.1.2.2 (rk rd.2.1.2.1 i)) = ck (fun j => unp F rd.1.2.1 rd.1.2.2.1 (rd.1.2.2.2.1.2.1 (rk rd.2.1.2.1 i)) (frm rd i + j)) 0 (rd.1.2.2.2.1.2.2 (rk rd.2.1.2.1 i)) := ck_fr (fun j _ hj => hf j (by omega))
  have er : rdE F rd i = (0, rd.2.2.1.1 i, NMf F rd.2.2.1.2 i, rd.1.2.2.2.1.2.2 (rk rd.2.1.2.1 i), (fun j => unp F rd.1.2.1 rd.1.2.2.1 (rd.1.2.2.2.1.2.1 (rk rd.2.1.2.1 i)) (frm rd i + j)), rd.1.2.2.2.1.2.1 (rk rd.2.1.2.1 i), false, rd.2.2.2.1 i, (rd.2.2.2.2 i).map Int64.toInt32, decide (¬ ck f 0 (rd.1.2.2.2.1.2.2 (rk rd.2.1.2.1 i)) = TCr rd i)) := by
    rw [eck, eT]
    unfold rdE
    simp only []
    rw [if_neg (by rw [he]; decide), hkn, Bool.true_and]
    rfl
  obtain ⟨⟨z1, z2, z3, z4, z5, z6, z7, z8, z9, z10, z11, z12⟩, z13⟩ := u6 i hi hd
  have ev : VD F rd i = (0, rd.2.2.1.1 i, NMf F rd.2.2.1.2 i, rd.1.2.2.2.1.2.2 (rk rd.2.1.2.1 i), fun _ => 0, rd.1.2.2.2.1.2.1 (rk rd.2.1.2.1 i), false, rd.2.2.2.1 i, (rd.2.2.2.2 i).map Int64.toInt32, false) := by
    unfold VD dE
    rw [if_neg (by rw [he]; decide)]
  rw [ev] at z1 z2 z3 z4 z5 z6 z7 z8 z9 z10
  generalize hfl : b01 (decide (¬ ck f 0 (rd.1.2.2.2.1.2.2 (rk rd.2.1.2.1 i)) = TCr rd i)) = fl
  have eA : ∀ a, a ≠ bb' (1 - wa) i → am_A (am_sI (am_cA k (bb' (1 - wa) i) f) 4 12 (cd (c_en (1 - wa) i)) fl) a = am_A k a := fun a ha => by simp only [am_hs]; rw [if_neg ha]
  have eAb : am_A (am_sI (am_cA k (bb' (1 - wa) i) f) 4 12 (cd (c_en (1 - wa) i)) fl) (bb' (1 - wa) i) = f := by simp only [am_hs, true_and, and_true, and_self, true_or, or_true, false_or, or_false, false_and, and_false, not_true_eq_false, not_false_eq_true, Classical.not_not, true_implies, false_implies, implies_true, exists_eq_left, exists_eq_left', Option.some.injEq, reduceIte, Nat.reduceEqDiff, Nat.reduceLT, Nat.reduceLeDiff, Nat.reduceAdd, Nat.reduceSub, Nat.reduceMul, eq_self, ne_eq, and_imp, forall_const, reduceCtorEq, am_w, List.map_cons, List.map_nil, List.sum_cons, List.sum_nil, Value.category, Nat.zero_le, Nat.le_refl]
  have eI : ∀ c g a, ¬ (c = 4 ∧ g = 12 ∧ a = cd (c_en (1 - wa) i)) → am_I (am_sI (am_cA k (bb' (1 - wa) i) f) 4 12 (cd (c_en (1 - wa) i)) fl) c g a = am_I k c g a := fun c g a z => by simp only [am_hs]; rw [if_neg z]
  have eIf : am_I (am_sI (am_cA k (bb' (1 - wa) i) f) 4 12 (cd (c_en (1 - wa) i)) fl) 4 12 (cd (c_en (1 - wa) i)) = fl := by simp only [am_hs, true_and, and_true, and_self, true_or, or_true, false_or, or_false, false_and, and_false, not_true_eq_false, not_false_eq_true, Classical.not_not, true_implies, false_implies, implies_true, exists_eq_left, exists_eq_left', Option.some.injEq, reduceIte, Nat.reduceEqDiff, Nat.reduceLT, Nat.reduceLeDiff, Nat.reduceAdd, Nat.reduceSub, Nat.reduceMul, eq_self, ne_eq, and_imp, forall_const, reduceCtorEq, am_w, List.map_cons, List.map_nil, List.sum_cons, List.sum_nil, Value.category, Nat.zero_le, Nat.le_refl]
  have eK : am_K (am_sI (am_cA k (bb' (1 - wa) i) f) 4 12 (cd (c_en (1 - wa) i)) fl) = am_K k := rfl
  have eN : am_N (am_sI (am_cA k (bb' (1 - wa) i) f) 4 12 (cd (c_en (1 - wa) i)) fl) = am_N k := rfl
  have eC : am_C (am_sI (am_cA k (bb' (1 - wa) i) f) 4 12 (cd (c_en (1 - wa) i)) fl) = am_C k := rfl
  have eR : am_R (am_sI (am_cA k (bb' (1 - wa) i) f) 4 12 (cd (c_en (1 - wa) i)) fl) = am_R k := rfl
  have eJ : am_J (am_sI (am_cA k (bb' (1 - wa) i) f) 4 12 (cd (c_en (1 - wa) i)) fl) = am_J k := rfl
  have eU : am_U (am_sI (am_cA k (bb' (1 - wa) i) f) 4 12 (cd (c_en (1 - wa) i)) fl) = am_U k := rfl
  have eV : am_V (am_sI (am_cA k (bb' (1 - wa) i) f) 4 12 (cd (c_en (1 - wa) i)) fl) = am_V k := rfl
  have efr : fr P k (am_sI (am_cA k (bb' (1 - wa) i) f) 4 12 (cd (c_en (1 - wa) i)) fl) := fun a ha => (fr1.cA ((u1.2.2.2.2.2.2 a ha).2.2 _ _ w1 hi24)).tr (fr1.sI ((u1.2.2.2.2.2.2 a ha).2.1 _))
  generalize am_sI (am_cA k (bb' (1 - wa) i) f) 4 12 (cd (c_en (1 - wa) i)) fl = k2 at *
  have cb : ∀ j, cK j → cd j ≠ bb' (1 - wa) i := fun j hj e => ci.2.2 _ _ _ w1 hi24 hj e.symm
  have rc := u1.dr eK eN eC (fun c g a _ => by rw [eR]) (fun a _ hb => eA a (hb i hi24)) (fun c g a hy => ⟨eI c g a (fun z => hy (c_en (1 - wa) i) (by unfold YA c_en; omega) z.2.2), by rw [eJ]⟩)
  rw [eI 2 3 (cd 31) (by omega), u1.2.2.2.2.1] at rc
  refine ⟨⟨rc, u2.tr efr, by rw [eU]; exact u3, ?_, ?_, fun j hj hdj => ?_, fun j hj hdj => ?_, ?_⟩, eA _ (cb _ (cK_tb (by omega)))⟩
  · rw [eV, pt_same eN]; exact u4
  · rw [eI _ _ _ (by omega)]; exact u5
  · have hj24 : j < 24 := by omega
    have nj : j ≠ i := fun e => by rw [e, va_up, if_pos rfl] at hdj; cases hdj
    rw [va_up, if_neg nj] at hdj
    have ne : ∀ c g, ¬ (c = 4 ∧ g = 12 ∧ cd (c_en (1 - wa) j) = cd (c_en (1 - wa) i)) := fun c g z => by have := ci.1 _ _ z.2.2; unfold c_en at this; omega
    obtain ⟨v1, v2⟩ := u6 j hj hdj
    refine ⟨?_, by rw [eI _ _ _ (ne _ _)]; exact v2⟩
    obtain ⟨y1, y2, y3, y4, y5, y6, y7, y8, y9, y10, y11, y12⟩ := v1
    exact ⟨by rw [eI _ _ _ (ne _ _)]; exact y1, by rw [eI _ _ _ (ne _ _)]; exact y2, fun l hl => by rw [eA _ (cb _ (cK_un w1 hj24))]; exact y3 l hl, by rw [eI _ _ _ (ne _ _)]; exact y4, by rw [eI _ _ _ (ne _ _)]; exact y5, by rw [eI _ _ _ (ne _ _)]; exact y6, by rw [eI _ _ _ (ne _ _)]; exact y7, fun t ht => by rw [eJ]; exact y8 t ht, by rw [eI _ _ _ (ne _ _)]; exact y9, fun t ht => by rw [eI _ _ _ (ne _ _)]; exact y10 t ht, by rw [eI _ _ _ (ne _ _)]; exact y11, fun z => z.elim⟩
  · have hj24 : j < 24 := by omega
    by_cases nj : j = i
    · rw [nj, er]
      exact ⟨by rw [eI _ _ _ (by omega)]; exact z1, by rw [eI _ _ _ (by omega)]; exact z2, fun l hl => by rw [eA _ (cb _ (cK_un w1 hi24))]; exact z3 l hl, by rw [eI _ _ _ (by omega)]; exact z4, by rw [eI _ _ _ (by omega)]; exact z5, by rw [eI _ _ _ (by omega)]; exact z6, by rw [eI _ _ _ (by omega)]; exact z7, fun t ht => by rw [eJ]; exact z8 t ht, by rw [eI _ _ _ (by omega)]; exact z9, fun t ht => by rw [eI _ _ _ (by omega)]; exact z10 t ht, by rw [eIf, ← hfl]; rfl, fun _ => ⟨by rw [eN]; exact hN, fun l hl => by rw [eAb]; exact hf l hl⟩⟩
    · rw [va_up, if_neg nj] at hdj
      have ne : ∀ c g, ¬ (c = 4 ∧ g = 12 ∧ cd (c_en (1 - wa) j) = cd (c_en (1 - wa) i)) := fun c g z => by have := ci.1 _ _ z.2.2; unfold c_en at this; omega
      refine (u7 j hj hdj).same (fun l => eI _ _ _ (ne _ _)) (by rw [eJ]) (eA _ (cb _ (cK_un w1 hj24))) (eA _ (fun e => nj (ci.2.1 _ _ _ _ w1 hj24 w1 hi24 e).2)) (by rw [eN])
  · obtain ⟨m1, m2, m3, m4, m5⟩ := u8
    refine ⟨by rw [eI _ _ _ (by omega)]; exact m1, m2, fun b hb => ?_, fun b hb => ?_, fun b hb hb6 => by rw [eI _ _ _ (by omega), eI _ _ _ (by omega)]; exact m5 b hb hb6⟩
    · rw [eA _ (cb 42 (by unfold cK; omega))]; exact m3 b hb
    · obtain ⟨y1, y2, y3⟩ := m4 b hb
      refine ⟨by rw [eI _ _ _ (by omega)]; exact y1, by rw [eI _ _ _ (by omega)]; exact y2, fun j hj => ?_⟩
      rw [eA _ (cb _ (cK_bi w1 (by omega))), eA _ (cb _ (cK_bd w1 (by omega)))]
      exact y3 j hj
end RU
