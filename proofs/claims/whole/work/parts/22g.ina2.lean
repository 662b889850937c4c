/-! deps: 22f -/
/-! ===== an archive is made: its entries first ===== -/
section INB
variable {tt : Nat → Nat} {h h' k k' : am_H} {c c' : Nat → Nat} {w w' : Nat}
theorem ia_24 {a0 : Nat} (ha : am_K h a0 = 1) (hU : am_U h + 92 ≤ am_LC) (hV : am_V h + 882 ≤ am_LS) : ∀ (d b : Nat) (c : Nat → Nat) (k : am_H), d + b = 24 → IA h a0 b 0 c k → am_Ev tt 0 24 [some (.ref a0), some (.int (Int32.ofNat b))] [] k (am_pV (aQ h a0) (fun _ _ => False)) := by
  have a00 : am_K h a0 ≠ 0 := by rw [ha]; decide
  intro d
  induction d with
  | zero =>
    intro b c k eb q
    have : b = 24 := by omega
    subst this
    refine vc_0_24 tt _ _ _ _ _ ⟨fun _ => ?_, fun z => absurd (Int32.le_refl _) z⟩
    exact ia_51 ha hU hV 6 0 c k (by omega) q
  | succ d ih =>
    intro b c k eb q
    obtain ⟨q1, q2, q3, q4, q5, q6, q7, q8, q9, q10, q11, q12, q13, q14, q15⟩ := q
    have ka : am_K k a0 = 1 := by rw [q4 a0 a00]; exact ha
    have b6 : ¬ 24 ≤ b := by omega
    refine vc_0_24 tt _ _ _ _ _ ⟨fun z => absurd z (by rw [qi_le (by omega) (by omega)]; exact b6), fun _ => ⟨ka, _, q5, by omega, by omega, fun e he => ?_⟩⟩
    have g1 : gK k (am_nO k e 4) := gK.nO he
    have Ke : am_K (am_nO k e 4) e = 5 := up_eq
    have s1 : gs (fun _ => False) k (am_nO k e 4) := gs.nO he
    have U1 : am_U (am_nO k e 4) = am_U k + 1 := rfl
    have V1 : am_V (am_nO k e 4) = am_V k + 13 := rfl
    generalize am_nO k e 4 = k1 at *
    refine ⟨_, ct_iE Ke (by omega) (by omega), fun k2 w2 => ?_⟩
    obtain ⟨u, v, hu, hv, uv, cs, nb, s2, g2, U2, V2⟩ := w2
    have L : ∀ j, (j = 101 ∨ j = 102 ∨ (110 ≤ j ∧ j < 110 + 2 * b) ∨ (300 ≤ j ∧ j < 300 + b) ∨ (200 ≤ j ∧ j < 200 + 3 * 0)) → fr1 k k2 (c j) := by
      intro j hj
      have lv := (q2.2 j hj).2
      exact (s1 (c j) lv (fun z => z)).tr (s2 (c j) (by rw [g1 _ lv]; exact lv) (fun z => lv (by rw [z]; exact he)))
    have fa : fr1 k k2 a0 := (s1 a0 (by rw [ka]; decide) (fun z => z)).tr (s2 a0 (by rw [g1 _ (by rw [ka]; decide), ka]; decide) (fun z => by rw [← z, ka] at he; cases he))
    have ne101 : ∀ j, (j = 101 ∨ j = 102 ∨ (110 ≤ j ∧ j < 110 + 2 * b) ∨ (300 ≤ j ∧ j < 300 + b) ∨ (200 ≤ j ∧ j < 200 + 3 * 0)) → j ≠ 101 → c j ≠ c 101 := fun j hj hn z => hn (q2.1 j 101 hj (by omega) z)
    have s3 : gs (fun a => a = c 101) k2 (am_sC k2 (c 101) b (some e)) := gs.sC rfl
    have l101 := L 101 (by omega)
    have K2e : am_K k2 e = 5 := cs.1
    have ne : e ≠ c 101 := fun z => by rw [z, l101.1, q6] at K2e; cases K2e
    have nu : u ≠ c 101 := fun z => by
      have := (q2.2 101 (by omega)).2
      rw [z, g1 _ this] at hu
      exact this hu
    have nv : v ≠ c 101 := fun z => by
      have := (q2.2 101 (by omega)).2
      rw [z, g1 _ this] at hv
      exact this hv
    obtain ⟨c1, a1, b1, n1⟩ := q2.mrg q4 (NW.one (j0 := 110 + 2 * b) he (by rw [Ke]; decide)) g1 (fun j hj z => by omega)
    obtain ⟨c2, a2, b2, n2⟩ := n1.mrg (q4.tr g1) (NW.two (j1 := 111 + 2 * b) (j2 := 300 + b) hu hv uv (by rw [cs.2.2.1]; decide) (by rw [cs.2.2.2.2.2.1]; decide) (by omega)) g2 (fun j hj z => by omega)
    have cc : ∀ j, (j = 100 ∨ j = 101 ∨ j = 102 ∨ (110 ≤ j ∧ j < 110 + 2 * b) ∨ (300 ≤ j ∧ j < 300 + b)) → c2 j = c j := fun j hj => by rw [a2 j (by omega), a1 j (by omega)]
    have ce : c2 (110 + 2 * b) = e := by rw [a2 _ (by omega), b1 _ rfl]
    have cu : c2 (111 + 2 * b) = u := by rw [b2 _ (Or.inl rfl), if_pos rfl]
    have cv : c2 (300 + b) = v := by rw [b2 _ (Or.inr rfl), if_neg (by omega)]
    refine ⟨Or.inl ⟨by rw [l101.1]; exact q6, K2e⟩, by rw [l101.2.1, q7, qi_in (by omega)]; omega, ?_⟩
    rw [qi_nn (by omega), qi_add]
    refine ih (b + 1) c2 _ (by omega) ⟨by rw [cc 100 (by omega)]; exact q1, (n2.up (gK.re : gK k2 (am_sC k2 (c 101) b (some e)))).wk (fun j hj => ?_), (q3.tr q4 ((gs.tr (X'' := fun a => a = a0 ∨ a = c 101) (s1.tr g1 s2 (X'' := fun a => a = e) (fun _ _ z => z.elim) (fun _ _ z => z)) (g1.tr g2) s3 (fun a z w => absurd he (by rw [← w]; exact z)) (fun _ _ z => Or.inr z))) (X'' := fun a => a = a0) (fun _ _ z => z) (fun a z w => w.elim (fun y => y) (fun y => absurd (q2.2 101 (by omega)).1 (by rw [← y]; exact z)))), q4.tr (g1.tr g2), ?_, ?_, ?_, ?_, ?_, ?_, fun t ht => ?_, fun t ht => absurd ht (Nat.not_lt_zero t), ?_, ?_, ?_⟩
    · omega
    · rw [cc 101 (by omega)]; show am_R k2 0 0 a0 = _; rw [fa.2.2.2.2.2.2.2]; exact q5
    · rw [cc 101 (by omega)]; show am_K k2 (c 101) = 26; rw [l101.1]; exact q6
    · rw [cc 101 (by omega)]; show am_N k2 (c 101) = 24; rw [l101.2.1]; exact q7
    · rw [cc 102 (by omega)]; show am_R k2 0 2 a0 = _; rw [fa.2.2.2.2.2.2.2]; exact q8
    · rw [cc 102 (by omega)]; show am_K k2 (c 102) = 27; rw [(L 102 (by omega)).1]; exact q9
    · rw [cc 102 (by omega)]; show am_N k2 (c 102) = 6; rw [(L 102 (by omega)).2.1]; exact q10
    · by_cases ct : t = b
      · subst ct
        rw [cc 101 (by omega), ce, cu, cv]
        exact ⟨by simp only [am_hs, true_and, and_true, and_self, true_or, or_true, false_or, or_false, false_and, and_false, not_true_eq_false, not_false_eq_true, Classical.not_not, true_implies, false_implies, implies_true, exists_eq_left, exists_eq_left', Option.some.injEq, reduceIte, Nat.reduceEqDiff, Nat.reduceLT, Nat.reduceLeDiff, Nat.reduceAdd, Nat.reduceSub, Nat.reduceMul, eq_self, ne_eq, and_imp, forall_const, reduceCtorEq, am_w, List.map_cons, List.map_nil, List.sum_cons, List.sum_nil, Value.category, Nat.zero_le, Nat.le_refl], cs.fr (fr1.sC ne) (fr1.sC nu) (fr1.sC nv), nb⟩
      · obtain ⟨r1, r2, r3⟩ := q11 t (by omega)
        have F := fun j hj hn => (L j hj).tr (fr1.sC (h := k2) (i := b) (v := some e) (ne101 j hj hn))
        rw [cc 101 (by omega), cc (110 + 2 * t) (by omega), cc (111 + 2 * t) (by omega), cc (300 + t) (by omega)]
        refine ⟨?_, r2.fr (F _ (by omega) (by omega)) (F _ (by omega) (by omega)) (F _ (by omega) (by omega)), ?_⟩
        · simp only [am_hs, ct, true_and, and_true, and_self, true_or, or_true, false_or, or_false, false_and, and_false, not_true_eq_false, not_false_eq_true, Classical.not_not, true_implies, false_implies, implies_true, exists_eq_left, exists_eq_left', Option.some.injEq, reduceIte, Nat.reduceEqDiff, Nat.reduceLT, Nat.reduceLeDiff, Nat.reduceAdd, Nat.reduceSub, Nat.reduceMul, eq_self, ne_eq, and_imp, forall_const, reduceCtorEq, am_w, List.map_cons, List.map_nil, List.sum_cons, List.sum_nil, Value.category, Nat.zero_le, Nat.le_refl]
          rw [l101.2.2.2.2.1]; exact r1
        · rw [(F (300 + t) (by omega) (by omega)).2.1]; exact r3
    · show am_I k2 0 1 a0 = Int32.ofNat 0
      rw [fa.2.2.2.2.2.1]; exact q13
    · show am_U k2 = _; omega
    · show am_V k2 = _; omega
theorem ct_iA {a0 : Nat} (ha : am_K h a0 = 1) (hI : am_I h 0 1 a0 = Int32.ofNat 0) (hU : am_U h + 92 ≤ am_LC) (hV : am_V h + 882 ≤ am_LS) : am_Ct tt 0 [.ref a0] h (am_pV (aQ h a0) (fun _ _ => False)) := by
  have e0 : am_K h a0 ≠ 0 := by rw [ha]; decide
  have o0 : OB h h a0 0 (fun j => if j = 0 then (26, 24) else (27, 6)) (fun _ => 0) [] 0 0 := OB.re e0
  refine vc_0_0 tt _ h _ _ ⟨by decide, vc_0_4 tt _ _ _ _ (al_step (X := fun h1 => am_Ev tt 0 13 [some (.ref a0), none] [] h1 (am_pV _ (fun _ _ => False))) ha (by decide) (by decide) (by omega) (by omega) (fun u h1 l => ?_))⟩
  obtain ⟨c1, o1⟩ := o0.al l (by decide) rfl (by decide)
  have o1u := o1.2.2.2.2.2.2.2.1
  have o1v := o1.2.2.2.2.2.2.2.2
  refine vc_0_13 tt _ _ _ _ (al_step (X := fun h1 => am_Ev tt 0 24 [some (.ref a0), some (.int (Int32.ofNat 0))] [] h1 (am_pV (aQ h a0) (fun _ _ => False))) (o1.kk ha) (by decide) (by decide) (by omega) (by omega) (fun b h2 l2 => ?_))
  obtain ⟨c2, o2⟩ := o1.al l2 (by decide) rfl (by decide)
  obtain ⟨n1, n2, n3, n4, n5, n6, n7, n8, n9⟩ := o2
  obtain ⟨a1, a2, a3, a4⟩ := n5 0 (by decide)
  obtain ⟨b1, b2, b3, b4⟩ := n5 2 (by decide)
  have d : c2 0 ≠ c2 2 := fun z => absurd (n1.1 0 2 (by decide) (by decide) z) (by decide)
  have e1 : (fun j => if j = 100 then a0 else if j = 101 then c2 0 else c2 2) 101 = c2 0 := rfl
  refine ia_24 ha hU hV 24 0 (fun j => if j = 100 then a0 else if j = 101 then c2 0 else c2 2) h2 (by omega) ⟨rfl, ?_, n2, n3, a1, a2, a3, b1, b2, b3, fun t ht => absurd ht (Nat.not_lt_zero t), fun t ht => absurd ht (Nat.not_lt_zero t), by rw [(n6 0 1).1]; exact hI, by rw [n8], by rw [n9]⟩
  refine (NW.two (k := h) (k' := h2) (u := c2 0) (b := c2 2) (j1 := 101) (j2 := 102) (n1.2 0 (by decide)).1 (n1.2 2 (by decide)).1 d (n1.2 0 (by decide)).2 (n1.2 2 (by decide)).2 (by omega)).wk (fun j hj => ?_) |>.cg (fun j hj => ?_)
  · omega
  · have hj' : j = 101 ∨ j = 102 := by omega
    rcases hj' with rfl | rfl
    · rfl
    · rfl
end INB
