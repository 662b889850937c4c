/-! deps: 23b -/
/-! ===== the law's cases: READ, peek, poke; the loop ===== -/
section LAY
variable {tt : Nat → Nat} {P : Nat → Prop} {h h' h'' : am_H} {cd ad a0 : Nat → Nat} {bb : Nat → Nat → Nat} {wa wt m x sc ou L U V i : Nat} {xs : Nat → Int32} {S S' : sS}
theorem lw_457 (c : LCl tt x m a0 sc ou h S U V) (q : LMo m a0 h S) (e : LEn sc ou L xs a0 h) (hi : i + 5 ≤ L) (hL : L ≤ 2560) (hU : U + 26 ≤ am_LC) (hV : V + 800000 ≤ am_LS) (nx : ∀ h' S', LCl tt x m a0 sc ou h' S' (U + 26) (V + 6) → LMo m a0 h' S' → LEn sc ou L xs a0 h' → am_Ev tt 205 989 [some (.ref sc), some (.ref x), some (.ref m), some (.ref ou), some (.int (Int32.ofNat i)), none, none] [] h' (am_pI lwQ no_x)) : am_Ev tt 205 457 [some (.ref sc), some (.ref x), some (.ref m), some (.ref ou), some (.int (Int32.ofNat i)), none, none] [] h (am_pI lwQ no_x) := by
  obtain ⟨cd, bb, wa, wt, e0, rc, u, v⟩ := c
  have wf := rc.wf
  have pl := pt1_le rc.1 (Nat.le_refl 24)
  have pe : pt h bb = pt1 h bb 24 := rfl
  have hx : am_K h x = 10 := by rw [← e0]; exact rc.1.2.2.2.1.1
  obtain ⟨ad, ea, rm0⟩ := q
  -- the bytes of the class's own tape
  obtain ⟨q1, q2, q3, q4, q5, q6, q7⟩ := rc
  have rc : RC tt (PCf m a0 sc ou) h cd bb wa wt (S.1, S.2.1, am_A h (cd (c_tb wt)), S.2.2.2) := ⟨q1, q2, q3, ⟨q4.1, q4.2.1, fun j hj => ⟨rfl, by show by8 (am_A h (cd (c_tb wt)) j) = am_A h (cd (c_tb wt)) j; rw [(q4.2.2 j hj).1]; exact (q4.2.2 j hj).2⟩⟩, q5, q6, q7⟩
  have rm0 : RM (fun _ => False) h m ad (S.1, S.2.1, am_A h (cd (c_tb wt)), S.2.2.2) := ⟨rm0.1, rm0.2.1, rm0.2.2.1, rm0.2.2.2.1, rm0.2.2.2.2.1, fun j hj => by show am_A h (ad 18) j = am_A h (cd (c_tb wt)) j; rw [rm0.2.2.2.2.2.1 j hj, (q4.2.2 j hj).1], rm0.2.2.2.2.2.2.1, rm0.2.2.2.2.2.2.2⟩
  have q : LMo m a0 h (S.1, S.2.1, am_A h (cd (c_tb wt)), S.2.2.2) := ⟨ad, ea, rm0⟩
  have wf := rc.wf
  refine vc_205_457 tt _ _ _ _ _ _ _ _ ⟨hx, _, _, by rw [← e0]; exact ct_read rc rfl (by omega) (by omega), fun z1 h1 w1 => ?_, fun _ _ z => z⟩
  obtain ⟨rfl, ok⟩ := w1
  obtain ⟨c1, f1⟩ := ck_Q e0 ok u v
  have q1 := q.fr wf f1
  have e1 := e.cl f1
  obtain ⟨ad, P, rm, nxt⟩ := lm_call c1 q1 wf e1
  refine ⟨rm.1.1, _, _, ct_mread rm wf, fun z2 h2 w2 => ?_, fun _ _ z => z⟩
  obtain ⟨rfl, ok2⟩ := w2
  obtain ⟨c2, q2, e2⟩ := nxt _ _ ok2
  exact ⟨fun _ => nx h2 _ (c2.up (by omega) (by omega)) q2 e2, fun z => absurd rfl z⟩
/-- an exception was made and forgotten -/
theorem lc_nX (c : LCl tt x m a0 sc ou h S U V) : LCl tt x m a0 sc ou (am_nX h) S (U + 1) (V + 6) := by
  obtain ⟨cd, bb, wa, wt, e0, rc, u, v⟩ := c
  have hp : pt (am_nX h) bb = pt h bb := pt_same rfl
  exact ⟨cd, bb, wa, wt, e0, rc.fr (fun _ _ => fr1.nX) rc.2.2.2.2.2.2, by show am_U h + 1 ≤ _; omega, by rw [hp]; show am_V h + 6 ≤ _; omega⟩
theorem lc_sB (c : LCl tt x m a0 sc ou h S U V) (e : LEn sc ou L xs a0 h) {w : Int64} : LCl tt x m a0 sc ou (am_sB h ou 0 w) S U V := by
  obtain ⟨cd, bb, wa, wt, e0, rc, u, v⟩ := c
  have hp : pt (am_sB h ou 0 w) bb = pt h bb := pt_same rfl
  have no := rc.2.2.2.2.2.2 ou (Or.inr (Or.inr (Or.inr rfl)))
  have tk := rc.2.2.2.2.2.1
  refine ⟨cd, bb, wa, wt, e0, rc.fr (fun a ha => fr1.sB ?_) rc.2.2.2.2.2.2, u, by rw [hp]; exact v⟩
  rcases ha with ⟨k, hk, rfl⟩ | ⟨w, i, hw, hi, rfl⟩ | rfl | rfl
  · exact fun z => no.2.1 k z.symm
  · exact fun z => no.2.2 w i hw hi z.symm
  · exact ne_K (h := h) (by rw [tk.2.2.2.1, e.2.2.2.1]; decide)
  · exact ne_K (h := h) (by rw [tk.1, e.2.2.2.1]; decide)
theorem lm_nX (q : LMo m a0 h S) (wf : wfS S) : LMo m a0 (am_nX h) S := q.fr (sc := 0) (ou := 0) wf (fun _ _ => fr1.nX)
theorem lm_sB (q : LMo m a0 h S) (wf : wfS S) (e : LEn sc ou L xs a0 h) {w : Int64} : LMo m a0 (am_sB h ou 0 w) S := by
  obtain ⟨ad, ea, rm⟩ := q
  refine ⟨ad, ea, rm.fr wf (fr1.sB (ne_K (h := h) (by rw [rm.1.1, e.2.2.2.1]; decide))) (fun k hk => fr1.sB (fun z => e.2.2.2.2.2 k hk (by rw [← z]; exact ea k hk))) (fun _ _ => rfl) rm.1.2.2 (fun a z => z.elim)⟩
theorem le_nX (e : LEn sc ou L xs a0 h) : LEn sc ou L xs a0 (am_nX h) := e
theorem le_sB (e : LEn sc ou L xs a0 h) {w : Int64} : LEn sc ou L xs a0 (am_sB h ou 0 w) := e.mv (fr1.sB (ne_K (h := h) (by rw [e.1, e.2.2.2.1]; decide))) rfl rfl
/-- what was answered -/
theorem lw_712 {r b : Int32} (hb : r = Int32.ofNat 0 → am_B h ou 0 = b.toInt64) (e : LEn sc ou L xs a0 h) (nx : am_Ev tt 205 989 [some (.ref sc), some (.ref x), some (.ref m), some (.ref ou), some (.int (Int32.ofNat i)), none, none] [] h (am_pI lwQ no_x)) : am_Ev tt 205 712 [some (.ref sc), some (.ref x), some (.ref m), some (.ref ou), some (.int (Int32.ofNat i)), some (.int r), some (.int b)] [] h (am_pI lwQ no_x) := by
  have o1 := e.2.2.2.1
  have o2 := e.2.2.2.2.1
  have z0 : (Int32.ofNat 0).toNatClampNeg = 0 := rfl
  refine vc_205_712 tt _ _ _ _ _ _ _ _ _ _ ⟨fun _ => vc_205_729 tt _ _ _ _ _ _ _ _ nx, fun z => ⟨o1, by rw [o2, qi_in (by omega)]; omega, ?_⟩⟩
  rw [z0, hb (Classical.not_not.1 z), qc_eq]
  exact ⟨fun _ => vc_205_729 tt _ _ _ _ _ _ _ _ nx, fun w => absurd rfl w⟩
/-- what was answered -/
theorem lw_812 {r b : Int32} (hb : r = Int32.ofNat 0 → am_B h ou 0 = b.toInt64) (e : LEn sc ou L xs a0 h) (nx : am_Ev tt 205 989 [some (.ref sc), some (.ref x), some (.ref m), some (.ref ou), some (.int (Int32.ofNat i)), none, none] [] h (am_pI lwQ no_x)) : am_Ev tt 205 812 [some (.ref sc), some (.ref x), some (.ref m), some (.ref ou), some (.int (Int32.ofNat i)), some (.int r), some (.int b)] [] h (am_pI lwQ no_x) := by
  have o1 := e.2.2.2.1
  have o2 := e.2.2.2.2.1
  have z0 : (Int32.ofNat 0).toNatClampNeg = 0 := rfl
  refine vc_205_812 tt _ _ _ _ _ _ _ _ _ _ ⟨fun _ => vc_205_829 tt _ _ _ _ _ _ _ _ nx, fun z => ⟨o1, by rw [o2, qi_in (by omega)]; omega, ?_⟩⟩
  rw [z0, hb (Classical.not_not.1 z), qc_eq]
  exact ⟨fun _ => vc_205_829 tt _ _ _ _ _ _ _ _ nx, fun w => absurd rfl w⟩
theorem lw_644 (c : LCl tt x m a0 sc ou h S U V) (q : LMo m a0 h S) (e : LEn sc ou L xs a0 h) (hi : i + 5 ≤ L) (hL : L ≤ 2560) (hU : U + 26 ≤ am_LC) (hV : V + 800000 ≤ am_LS) (nx : ∀ h' S', LCl tt x m a0 sc ou h' S' (U + 26) (V + 6) → LMo m a0 h' S' → LEn sc ou L xs a0 h' → am_Ev tt 205 989 [some (.ref sc), some (.ref x), some (.ref m), some (.ref ou), some (.int (Int32.ofNat i)), none, none] [] h' (am_pI lwQ no_x)) : am_Ev tt 205 644 [some (.ref sc), some (.ref x), some (.ref m), some (.ref ou), some (.int (Int32.ofNat i)), none, none] [] h (am_pI lwQ no_x) := by
  have c0 := c
  obtain ⟨cd, bb, wa, wt, e0, rc, u, v⟩ := c
  have wf := rc.wf
  have pl := pt1_le rc.1 (Nat.le_refl 24)
  have pe : pt h bb = pt1 h bb 24 := rfl
  have s1 := e.1
  have s2 := e.2.1
  have i1 : i + 1 < L := by omega
  have i2 : i + 2 < L := by omega
  have r1 := e.2.2.1 (i + 1) i1
  have r2 := e.2.2.1 (i + 2) i2
  refine vc_205_644 tt _ _ _ _ _ _ _ _ ?_
  simp (disch := omega) only [s1, s2, r1, r2, i1, i2, qi_lt, qi_le, qi_eq, qi_nn, qi_in, qi_add, qi_l, ql_i, ql_lt, ql_le, ql_eq, ql_add, qc_lt, qc_eq, qc_ge, qc_gt, qc_le, true_and, and_true, and_self, true_or, or_true, false_or, or_false, false_and, and_false, not_true_eq_false, not_false_eq_true, Classical.not_not, true_implies, false_implies, implies_true, exists_eq_left, exists_eq_left', Option.some.injEq, reduceIte, Nat.reduceEqDiff, Nat.reduceLT, Nat.reduceLeDiff, Nat.reduceAdd, Nat.reduceSub, Nat.reduceMul, eq_self, ne_eq, and_imp, forall_const, reduceCtorEq, am_w, List.map_cons, List.map_nil, List.sum_cons, List.sum_nil, Value.category, Nat.zero_le, Nat.le_refl]
  refine ⟨_, _, by rw [← e0]; exact ct_hpeek rc e.2.2.2.1 e.2.2.2.2.1 (by omega) (by omega), fun z1 h1 w1 => ?_, fun _ _ z => z⟩
  -- then the reference
  have go : LCl tt x m a0 sc ou h1 S (U + 1) (V + 6) → LMo m a0 h1 S → LEn sc ou L xs a0 h1 → (z1 = Int32.ofNat 0 ∧ inT S (((xs (i + 1)).toInt64 <<< (Int64.ofNat 32 &&& 63)) ||| ((xs (i + 2)).toInt64 &&& Int64.ofNat 4294967295)) = true ∧ am_B h1 ou 0 = (S.2.2.1 ((((xs (i + 1)).toInt64 <<< (Int64.ofNat 32 &&& 63)) ||| ((xs (i + 2)).toInt64 &&& Int64.ofNat 4294967295))).toNatClampNeg &&& Int32.ofNat 255).toInt64 ∨ z1 = Int32.ofNat 1 ∧ inT S (((xs (i + 1)).toInt64 <<< (Int64.ofNat 32 &&& 63)) ||| ((xs (i + 2)).toInt64 &&& Int64.ofNat 4294967295)) = false) → am_Ev tt 205 673 [some (.ref sc), some (.ref x), some (.ref m), some (.ref ou), some (.int (Int32.ofNat i)), some (.int z1), none] [] h1 (am_pI lwQ no_x) := by
    intro c1 q1 e1 hz
    have t1 := e1.1
    have t2 := e1.2.1
    have y1 := e1.2.2.1 (i + 1) i1
    have y2 := e1.2.2.1 (i + 2) i2
    obtain ⟨ad, P, rm, nxt⟩ := lm_call2 c1 q1 wf e1
    have km := rm.1.1
    refine vc_205_673 tt _ _ _ _ _ _ _ _ _ ?_
    simp (disch := omega) only [t1, t2, km, y1, y2, i1, i2, qi_lt, qi_le, qi_eq, qi_nn, qi_in, qi_add, qi_l, ql_i, ql_lt, ql_le, ql_eq, ql_add, qc_lt, qc_eq, qc_ge, qc_gt, qc_le, true_and, and_true, and_self, true_or, or_true, false_or, or_false, false_and, and_false, not_true_eq_false, not_false_eq_true, Classical.not_not, true_implies, false_implies, implies_true, exists_eq_left, exists_eq_left', Option.some.injEq, reduceIte, Nat.reduceEqDiff, Nat.reduceLT, Nat.reduceLeDiff, Nat.reduceAdd, Nat.reduceSub, Nat.reduceMul, eq_self, ne_eq, and_imp, forall_const, reduceCtorEq, am_w, List.map_cons, List.map_nil, List.sum_cons, List.sum_nil, Value.category, Nat.zero_le, Nat.le_refl]
    refine ⟨_, _, ct_mpeek rm wf, fun z2 h2 w2 => ?_, fun _ _ z => z⟩
    obtain ⟨ok2, w2⟩ := w2
    obtain ⟨c2, q2, e2, _⟩ := nxt _ _ ok2
    have km2 := ok2.1.1.1
    have fo : am_B h2 ou 0 = am_B h1 ou 0 := by rw [(nxt _ _ ok2).2.2.2]
    have hI : am_I h2 10 0 m = z1 ∧ (z1 = Int32.ofNat 0 → am_B h2 ou 0 = z2.toInt64) := by
      rcases hz with ⟨rfl, hz1, hz2⟩ | ⟨rfl, hz1⟩
      · rcases w2 with ⟨_, rfl, w⟩ | ⟨w, _⟩
        · exact ⟨w, fun _ => by rw [fo]; exact hz2⟩
        · rw [hz1] at w; cases w
      · rcases w2 with ⟨w, _⟩ | ⟨_, w⟩
        · rw [hz1] at w; cases w
        · exact ⟨w, fun z => absurd z (by decide)⟩
    refine vc_205_701 tt _ _ _ _ _ _ _ _ _ _ ⟨km2, _, _, ct_mthrown km2 hI.1, fun z3 h3 w3 => ?_, fun _ _ z => z⟩
    obtain ⟨rfl, rfl⟩ := w3
    exact ⟨fun _ => lw_712 hI.2 e2 (nx h3 _ (c2.up (by omega) (by omega)) q2 e2), fun z => absurd rfl z⟩
  rcases w1 with ⟨hT, rfl, rfl⟩ | ⟨hT, rfl, rfl⟩
  · exact go ((lc_sB c0 e).up (by omega) (by omega)) (lm_sB q wf e) (le_sB e) (Or.inl ⟨rfl, hT, by simp only [am_hs, true_and, and_true, and_self, true_or, or_true, false_or, or_false, false_and, and_false, not_true_eq_false, not_false_eq_true, Classical.not_not, true_implies, false_implies, implies_true, exists_eq_left, exists_eq_left', Option.some.injEq, reduceIte, Nat.reduceEqDiff, Nat.reduceLT, Nat.reduceLeDiff, Nat.reduceAdd, Nat.reduceSub, Nat.reduceMul, eq_self, ne_eq, and_imp, forall_const, reduceCtorEq, am_w, List.map_cons, List.map_nil, List.sum_cons, List.sum_nil, Value.category, Nat.zero_le, Nat.le_refl]⟩)
  · exact go (lc_nX c0) (lm_nX q wf) (le_nX e) (Or.inr ⟨rfl, hT⟩)
theorem lw_732 (c : LCl tt x m a0 sc ou h S U V) (q : LMo m a0 h S) (e : LEn sc ou L xs a0 h) (hi : i + 5 ≤ L) (hL : L ≤ 2560) (hU : U + 26 ≤ am_LC) (hV : V + 800000 ≤ am_LS) (nx : ∀ h' S', LCl tt x m a0 sc ou h' S' (U + 26) (V + 6) → LMo m a0 h' S' → LEn sc ou L xs a0 h' → am_Ev tt 205 989 [some (.ref sc), some (.ref x), some (.ref m), some (.ref ou), some (.int (Int32.ofNat i)), none, none] [] h' (am_pI lwQ no_x)) : am_Ev tt 205 732 [some (.ref sc), some (.ref x), some (.ref m), some (.ref ou), some (.int (Int32.ofNat i)), none, none] [] h (am_pI lwQ no_x) := by
  have c0 := c
  obtain ⟨cd, bb, wa, wt, e0, rc, u, v⟩ := c
  have wf := rc.wf
  have pl := pt1_le rc.1 (Nat.le_refl 24)
  have pe : pt h bb = pt1 h bb 24 := rfl
  have s1 := e.1
  have s2 := e.2.1
  have i1 : i + 1 < L := by omega
  have i2 : i + 2 < L := by omega
  have i3 : i + 3 < L := by omega
  have r1 := e.2.2.1 (i + 1) i1
  have r2 := e.2.2.1 (i + 2) i2
  have r3 := e.2.2.1 (i + 3) i3
  refine vc_205_732 tt _ _ _ _ _ _ _ _ ?_
  simp (disch := omega) only [s1, s2, r1, r2, r3, i1, i2, i3, qi_lt, qi_le, qi_eq, qi_nn, qi_in, qi_add, qi_l, ql_i, ql_lt, ql_le, ql_eq, ql_add, qc_lt, qc_eq, qc_ge, qc_gt, qc_le, true_and, and_true, and_self, true_or, or_true, false_or, or_false, false_and, and_false, not_true_eq_false, not_false_eq_true, Classical.not_not, true_implies, false_implies, implies_true, exists_eq_left, exists_eq_left', Option.some.injEq, reduceIte, Nat.reduceEqDiff, Nat.reduceLT, Nat.reduceLeDiff, Nat.reduceAdd, Nat.reduceSub, Nat.reduceMul, eq_self, ne_eq, and_imp, forall_const, reduceCtorEq, am_w, List.map_cons, List.map_nil, List.sum_cons, List.sum_nil, Value.category, Nat.zero_le, Nat.le_refl]
  refine ⟨_, _, by rw [← e0]; exact ct_hpoke rc e.2.2.2.1 e.2.2.2.2.1 (Or.inr (Or.inr (Or.inr rfl))) (by omega) (by omega), fun z1 h1 w1 => ?_, fun _ _ z => z⟩
  -- then the reference
  have go : ∀ S1, LCl tt x m a0 sc ou h1 S1 (U + 1) (V + 6) → LMo m a0 h1 S → LEn sc ou L xs a0 h1 → ((z1 = Int32.ofNat 0 ∧ inT S (((xs (i + 1)).toInt64 <<< (Int64.ofNat 32 &&& 63)) ||| ((xs (i + 2)).toInt64 &&& Int64.ofNat 4294967295)) = true ∧ ¬ xs (i + 3) < Int32.ofNat 0 ∧ xs (i + 3) ≤ Int32.ofNat 255 ∧ S1 = f_poke S (((xs (i + 1)).toInt64 <<< (Int64.ofNat 32 &&& 63)) ||| ((xs (i + 2)).toInt64 &&& Int64.ofNat 4294967295)) (xs (i + 3)) ∧ am_B h1 ou 0 = (S.2.2.1 ((((xs (i + 1)).toInt64 <<< (Int64.ofNat 32 &&& 63)) ||| ((xs (i + 2)).toInt64 &&& Int64.ofNat 4294967295))).toNatClampNeg &&& Int32.ofNat 255).toInt64) ∨ (z1 = Int32.ofNat 1 ∧ inT S (((xs (i + 1)).toInt64 <<< (Int64.ofNat 32 &&& 63)) ||| ((xs (i + 2)).toInt64 &&& Int64.ofNat 4294967295)) = false ∧ S1 = S) ∨ (z1 = Int32.ofNat 2 ∧ inT S (((xs (i + 1)).toInt64 <<< (Int64.ofNat 32 &&& 63)) ||| ((xs (i + 2)).toInt64 &&& Int64.ofNat 4294967295)) = true ∧ (xs (i + 3) < Int32.ofNat 0 ∨ ¬ xs (i + 3) ≤ Int32.ofNat 255) ∧ S1 = S)) → am_Ev tt 205 767 [some (.ref sc), some (.ref x), some (.ref m), some (.ref ou), some (.int (Int32.ofNat i)), some (.int z1), none] [] h1 (am_pI lwQ no_x) := by
    intro S1 c1 q1 e1 hz
    have t1 := e1.1
    have t2 := e1.2.1
    have y1 := e1.2.2.1 (i + 1) i1
    have y2 := e1.2.2.1 (i + 2) i2
    have y3 := e1.2.2.1 (i + 3) i3
    obtain ⟨ad, P, rm, nxt⟩ := lm_call2 c1 q1 wf e1
    have km := rm.1.1
    refine vc_205_767 tt _ _ _ _ _ _ _ _ _ ?_
    simp (disch := omega) only [t1, t2, km, y1, y2, y3, i1, i2, i3, qi_lt, qi_le, qi_eq, qi_nn, qi_in, qi_add, qi_l, ql_i, ql_lt, ql_le, ql_eq, ql_add, qc_lt, qc_eq, qc_ge, qc_gt, qc_le, true_and, and_true, and_self, true_or, or_true, false_or, or_false, false_and, and_false, not_true_eq_false, not_false_eq_true, Classical.not_not, true_implies, false_implies, implies_true, exists_eq_left, exists_eq_left', Option.some.injEq, reduceIte, Nat.reduceEqDiff, Nat.reduceLT, Nat.reduceLeDiff, Nat.reduceAdd, Nat.reduceSub, Nat.reduceMul, eq_self, ne_eq, and_imp, forall_const, reduceCtorEq, am_w, List.map_cons, List.map_nil, List.sum_cons, List.sum_nil, Value.category, Nat.zero_le, Nat.le_refl]
    refine ⟨_, _, ct_mpoke rm wf, fun z2 h2 w2 => ?_, fun _ _ z => z⟩
    have hI : ∃ S2, okM P h1 m ad S2 h2 ∧ S2 = S1 ∧ am_I h2 10 0 m = z1 ∧ (z1 = Int32.ofNat 0 → am_B h1 ou 0 = z2.toInt64) := by
      rcases hz with ⟨rfl, hz1, hz2, hz3, rfl, hz4⟩ | ⟨rfl, hz1, rfl⟩ | ⟨rfl, hz1, hz2, rfl⟩
      · rcases w2 with ⟨_, _, _, rfl, w, ok⟩ | ⟨w, _⟩ | ⟨_, w, _⟩
        · exact ⟨_, ok, rfl, w, fun _ => hz4⟩
        · rw [hz1] at w; cases w
        · exact absurd w (fun z => z.elim hz2 (fun y => y hz3))
      · rcases w2 with ⟨w, _⟩ | ⟨_, w, ok⟩ | ⟨w, _⟩
        · rw [hz1] at w; cases w
        · exact ⟨_, ok, rfl, w, fun z => absurd z (by decide)⟩
        · rw [hz1] at w; cases w
      · rcases w2 with ⟨_, w1, w2, _⟩ | ⟨w, _⟩ | ⟨_, _, w, ok⟩
        · exact absurd hz2 (fun z => z.elim w1 (fun y => y w2))
        · rw [hz1] at w; cases w
        · exact ⟨_, ok, rfl, w, fun z => absurd z (by decide)⟩
    obtain ⟨S2, ok2, rfl, hI1, hI2⟩ := hI
    obtain ⟨c2, q2, e2, _⟩ := nxt _ _ ok2
    have km2 := ok2.1.1.1
    have fo : am_B h2 ou 0 = am_B h1 ou 0 := by rw [(nxt _ _ ok2).2.2.2]
    refine vc_205_801 tt _ _ _ _ _ _ _ _ _ _ ⟨km2, _, _, ct_mthrown km2 hI1, fun z3 h3 w3 => ?_, fun _ _ z => z⟩
    obtain ⟨rfl, rfl⟩ := w3
    exact ⟨fun _ => lw_812 (fun z => by rw [fo]; exact hI2 z) e2 (nx h3 _ (c2.up (by omega) (by omega)) q2 e2), fun z => absurd rfl z⟩
  rcases w1 with ⟨hT, hv1, hv2, rfl, k, ok, rfl⟩ | ⟨hT, rfl, rfl⟩ | ⟨hT, hv, rfl, rfl⟩
  · obtain ⟨c1, f1⟩ := ck_C e0 ok u v
    have e1 := e.cl f1
    exact go _ ((lc_sB c1 e1).up (by omega) (by omega)) (lm_sB (q.fr wf f1) wf e1) (le_sB e1) (Or.inl ⟨rfl, hT, hv1, hv2, rfl, by simp only [am_hs, true_and, and_true, and_self, true_or, or_true, false_or, or_false, false_and, and_false, not_true_eq_false, not_false_eq_true, Classical.not_not, true_implies, false_implies, implies_true, exists_eq_left, exists_eq_left', Option.some.injEq, reduceIte, Nat.reduceEqDiff, Nat.reduceLT, Nat.reduceLeDiff, Nat.reduceAdd, Nat.reduceSub, Nat.reduceMul, eq_self, ne_eq, and_imp, forall_const, reduceCtorEq, am_w, List.map_cons, List.map_nil, List.sum_cons, List.sum_nil, Value.category, Nat.zero_le, Nat.le_refl]⟩)
  · exact go _ (lc_nX c0) (lm_nX q wf) (le_nX e) (Or.inr (Or.inl ⟨rfl, hT, rfl⟩))
  · exact go _ (lc_nX c0) (lm_nX q wf) (le_nX e) (Or.inr (Or.inr ⟨rfl, hT, hv, rfl⟩))
theorem sw_31 (v : Int32) : 0 ≤ (v &&& Int32.ofNat 31).toInt ∧ (v &&& Int32.ofNat 31).toInt < 32 := by
  have e : (v &&& Int32.ofNat 31).toBitVec.toNat < 32 := by
    rw [Int32.toBitVec_and, BitVec.toNat_and]
    exact Nat.lt_of_le_of_lt (Nat.and_le_right) (by decide)
  have e2 : (v &&& Int32.ofNat 31).toInt = ((v &&& Int32.ofNat 31).toBitVec.toNat : Int) := by
    show (v &&& Int32.ofNat 31).toBitVec.toInt = _
    exact BitVec.toInt_eq_toNat_of_lt (by omega)
  rw [e2]
  omega
theorem lw_loop (hL : L ≤ 2560) {U0 V0 : Nat} (hU : U0 + 26 * 513 ≤ am_LC) (hV : V0 + 6 * 513 + 800000 ≤ am_LS) : ∀ (d j : Nat) (h : am_H) (S : sS), d + j = 513 → 5 * j ≤ L + 4 → LCl tt x m a0 sc ou h S (U0 + 26 * j) (V0 + 6 * j) → LMo m a0 h S → LEn sc ou L xs a0 h → am_Ev tt 205 23 [some (.ref sc), some (.ref x), some (.ref m), some (.ref ou), some (.int (Int32.ofNat (5 * j))), none, none] [] h (am_pI lwQ no_x) := by
  intro d
  induction d with
  | zero => intro j h S ej hj; omega
  | succ d ih =>
    intro j h S ej hj c q e
    have s1 := e.1
    have s2 := e.2.1
    have nx : ∀ h' S', LCl tt x m a0 sc ou h' S' (U0 + 26 * j + 26) (V0 + 6 * j + 6) → LMo m a0 h' S' → LEn sc ou L xs a0 h' → 5 * j + 5 ≤ L → am_Ev tt 205 989 [some (.ref sc), some (.ref x), some (.ref m), some (.ref ou), some (.int (Int32.ofNat (5 * j))), none, none] [] h' (am_pI lwQ no_x) := by
      intro h' S' c' q' e' hl
      refine vc_205_989 tt _ _ _ _ _ _ _ _ ?_
      rw [qi_add, show 5 * j + 5 = 5 * (j + 1) by omega]
      exact ih (j + 1) h' S' (by omega) (by omega) (c'.up (by omega) (by omega)) q' e'
    refine vc_205_23 tt _ _ _ _ _ _ _ _ ⟨⟨by rw [s1]; decide, Or.inr s1⟩, ?_⟩
    rw [s2]
    by_cases cl : 5 * j + 5 ≤ L
    · rw [qi_sub (show 5 ≤ L by omega), qi_lt (by omega) (by omega)]
      refine ⟨fun z => absurd z (by omega), fun _ => ?_⟩
      have i0 : 5 * j < L := by omega
      have r0 := e.2.2.1 (5 * j) i0
      refine vc_205_32 tt _ _ _ _ _ _ _ _ ⟨Or.inr s1, by rw [s2, qi_in (by omega)]; exact i0, ?_⟩
      rw [qi_nn (by omega), r0]
      have nx' := fun h' S' a b c' => nx h' S' a b c' cl
      have hu : U0 + 26 * j + 26 ≤ am_LC := by omega
      have hv : V0 + 6 * j + 800000 ≤ am_LS := by omega
      refine ⟨fun _ => nx' h S (c.up (by omega) (by omega)) q e, fun _ => lw_132 c q e cl hL hu hv nx', fun _ => lw_157 c q e cl hL hu hv nx', fun _ => lw_196 c q e cl hL hu hv nx', fun _ => lw_277 c q e cl hL hu hv nx', fun _ => lw_314 c q e cl hL hu hv nx', fun _ => lw_363 c q e cl hL hu hv nx', fun _ => lw_444 c q e cl hL hu hv nx', fun _ => lw_457 c q e cl hL hu hv nx', fun _ => lw_470 c q e cl hL hu hv nx', fun _ => lw_483 c q e cl hL hu hv nx', fun _ => lw_520 c q e cl hL hu hv nx', fun _ => lw_558 c q e cl hL hu hv nx', fun _ => lw_607 c q e cl hL hu hv nx', fun _ => lw_644 c q e cl hL hu hv nx', fun _ => lw_732 c q e cl hL hu hv nx', fun _ => lw_832 c q e cl hL hu hv nx', fun _ => lw_901 c q e cl hL hu hv nx', fun _ => lw_926 c q e cl hL hu hv nx', fun _ => lw_951 c q e cl hL hu hv nx', fun _ => lw_976 c q e cl hL hu hv nx', trivial⟩
    · refine ⟨fun _ => ⟨Or.inr rfl, rfl⟩, fun z => absurd ?_ z⟩
      by_cases c5 : 5 ≤ L
      · rw [qi_sub c5, qi_lt (by omega) (by omega)]; omega
      · have : ∀ L, L < 5 → Int32.ofNat L - Int32.ofNat 5 < Int32.ofNat 0 := by decide
        have h1 := this L (by omega)
        rw [Int32.lt_iff_toInt_lt] at h1 ⊢
        have h2 : (Int32.ofNat (5 * j)).toInt = ((5 * j : Nat) : Int) := Int32.toInt_ofNat_of_lt (by omega)
        rw [h2]
        have h0 : (Int32.ofNat 0).toInt = 0 := rfl
        omega
end LAY
