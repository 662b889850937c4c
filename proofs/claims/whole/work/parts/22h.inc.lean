/-! deps: 22g -/
/-! ===== parts are made and put into fields; the reader ===== -/
/-! 80 yX7_init -/
theorem vc_80_0 (tt : Nat → Nat) (a0 : Nat) (a1 : Nat) (a2 : Nat) (a3 : Nat) (h : am_H) (Q : am_H → Prop) (Qx : String → am_H → Prop) (q :
  (am_w [] ≤ 8 ∧
  (am_K h a0 = 8 ∧
  (am_K h a0 = 8 ∧
  (am_K h a0 = 8 ∧
  Q (am_sR (am_sR (am_sR h 7 0 a0 (some a1)) 7 1 a0 (some a2)) 7 2 a0 (some a3))))))) :
  am_Ev tt 80 0 [some (.ref a0), some (.ref a1), some (.ref a2), some (.ref a3)] [] h (am_pV Q Qx) := am_vc 14 [] q

/-! 103 yX9_init -/
theorem vc_103_0 (tt : Nat → Nat) (a0 : Nat) (h : am_H) (Q : am_H → Prop) (Qx : String → am_H → Prop) (q :
  (am_w [] ≤ 8 ∧
  am_Ev tt 103 4 [some (.ref a0), none] [] h (am_pV Q Qx))) :
  am_Ev tt 103 0 [some (.ref a0), none] [] h (am_pV Q Qx) := am_vc 5 [(4, [true, false]), (15, [true, false]), (26, [true, false]), (37, [true, false]), (48, [true, false]), (59, [true, false]), (67, [true, true])] q
theorem vc_103_4 (tt : Nat → Nat) (a0 : Nat) (h : am_H) (Q : am_H → Prop) (Qx : String → am_H → Prop) (q :
  (am_U h + 1 ≤ am_LC ∧ am_V h + 3 ≤ am_LS ∧ ∀ q1, am_K h q1 = 0 →
  (∃ (Q3 : am_H → Prop), am_Ct tt 0 [.ref q1] (am_nO h q1 0) (am_pV Q3 (fun _ _ => False)) ∧ (∀ h2, Q3 h2 →
   (am_K h2 a0 = 10 ∧
   am_Ev tt 103 15 [some (.ref a0), none] [] (am_sR h2 9 0 a0 (some q1)) (am_pV Q Qx)))))) :
  am_Ev tt 103 4 [some (.ref a0), none] [] h (am_pV Q Qx) := am_vc 8 [(4, [true, false]), (15, [true, false]), (26, [true, false]), (37, [true, false]), (48, [true, false]), (59, [true, false]), (67, [true, true])] q
theorem vc_103_15 (tt : Nat → Nat) (a0 : Nat) (h : am_H) (Q : am_H → Prop) (Qx : String → am_H → Prop) (q :
  (am_U h + 1 ≤ am_LC ∧ am_V h + 3 ≤ am_LS ∧ ∀ q1, am_K h q1 = 0 →
  (∃ (Q3 : am_H → Prop), am_Ct tt 0 [.ref q1] (am_nO h q1 0) (am_pV Q3 (fun _ _ => False)) ∧ (∀ h2, Q3 h2 →
   (am_K h2 a0 = 10 ∧
   am_Ev tt 103 26 [some (.ref a0), none] [] (am_sR h2 9 1 a0 (some q1)) (am_pV Q Qx)))))) :
  am_Ev tt 103 15 [some (.ref a0), none] [] h (am_pV Q Qx) := am_vc 8 [(4, [true, false]), (15, [true, false]), (26, [true, false]), (37, [true, false]), (48, [true, false]), (59, [true, false]), (67, [true, true])] q
theorem vc_103_26 (tt : Nat → Nat) (a0 : Nat) (h : am_H) (Q : am_H → Prop) (Qx : String → am_H → Prop) (q :
  (am_U h + 1 ≤ am_LC ∧ am_V h + 3 ≤ am_LS ∧ ∀ q1, am_K h q1 = 0 →
  (∃ (Q3 : am_H → Prop), am_Ct tt 65 [.ref q1] (am_nO h q1 6) (am_pV Q3 (fun _ _ => False)) ∧ (∀ h2, Q3 h2 →
   (am_K h2 a0 = 10 ∧
   am_Ev tt 103 37 [some (.ref a0), none] [] (am_sR h2 9 2 a0 (some q1)) (am_pV Q Qx)))))) :
  am_Ev tt 103 26 [some (.ref a0), none] [] h (am_pV Q Qx) := am_vc 8 [(4, [true, false]), (15, [true, false]), (26, [true, false]), (37, [true, false]), (48, [true, false]), (59, [true, false]), (67, [true, true])] q
theorem vc_103_37 (tt : Nat → Nat) (a0 : Nat) (h : am_H) (Q : am_H → Prop) (Qx : String → am_H → Prop) (q :
  (am_U h + 1 ≤ am_LC ∧ am_V h + 3 ≤ am_LS ∧ ∀ q1, am_K h q1 = 0 →
  (∃ (Q3 : am_H → Prop), am_Ct tt 65 [.ref q1] (am_nO h q1 6) (am_pV Q3 (fun _ _ => False)) ∧ (∀ h2, Q3 h2 →
   (am_K h2 a0 = 10 ∧
   am_Ev tt 103 48 [some (.ref a0), none] [] (am_sR h2 9 3 a0 (some q1)) (am_pV Q Qx)))))) :
  am_Ev tt 103 37 [some (.ref a0), none] [] h (am_pV Q Qx) := am_vc 8 [(4, [true, false]), (15, [true, false]), (26, [true, false]), (37, [true, false]), (48, [true, false]), (59, [true, false]), (67, [true, true])] q
theorem vc_103_48 (tt : Nat → Nat) (a0 : Nat) (h : am_H) (Q : am_H → Prop) (Qx : String → am_H → Prop) (q :
  (am_U h + 1 ≤ am_LC ∧ am_V h + 7 ≤ am_LS ∧ ∀ q1, am_K h q1 = 0 →
  (∃ (Q3 : am_H → Prop), am_Ct tt 85 [.ref q1] (am_nO h q1 8) (am_pV Q3 (fun _ _ => False)) ∧ (∀ h2, Q3 h2 →
   (am_K h2 a0 = 10 ∧
   am_Ev tt 103 59 [some (.ref a0), none] [] (am_sR h2 9 4 a0 (some q1)) (am_pV Q Qx)))))) :
  am_Ev tt 103 48 [some (.ref a0), none] [] h (am_pV Q Qx) := am_vc 8 [(4, [true, false]), (15, [true, false]), (26, [true, false]), (37, [true, false]), (48, [true, false]), (59, [true, false]), (67, [true, true])] q
theorem vc_103_59 (tt : Nat → Nat) (a0 : Nat) (h : am_H) (Q : am_H → Prop) (Qx : String → am_H → Prop) (q :
  (am_U h + 1 ≤ am_LC ∧ am_V h + 5 ≤ am_LS ∧ ∀ q1, am_K h q1 = 0 →
  (∃ (Q3 : am_H → Prop), am_Ct tt 20 [.ref q1] (am_nO h q1 2) (am_pV Q3 (fun _ _ => False)) ∧ (∀ h2, Q3 h2 →
   am_Ev tt 103 67 [some (.ref a0), some (.ref q1)] [] h2 (am_pV Q Qx))))) :
  am_Ev tt 103 59 [some (.ref a0), none] [] h (am_pV Q Qx) := am_vc 7 [(4, [true, false]), (15, [true, false]), (26, [true, false]), (37, [true, false]), (48, [true, false]), (59, [true, false]), (67, [true, true])] q
theorem vc_103_67 (tt : Nat → Nat) (a0 : Nat) (a1 : Nat) (h : am_H) (Q : am_H → Prop) (Qx : String → am_H → Prop) (q :
  (am_U h + 1 ≤ am_LC ∧ am_V h + 3 ≤ am_LS ∧ ∀ q1, am_K h q1 = 0 →
  (am_U (am_nO h q1 7) + 1 ≤ am_LC ∧ am_V (am_nO h q1 7) + 15 ≤ am_LS ∧ ∀ q2, am_K (am_nO h q1 7) q2 = 0 →
  (∃ (Q4 : am_H → Prop), am_Ct tt 50 [.ref q2, .ref a1] (am_nO (am_nO h q1 7) q2 5) (am_pV Q4 (fun _ _ => False)) ∧ (∀ h3, Q4 h3 →
   (am_U h3 + 1 ≤ am_LC ∧ am_V h3 + 2 ≤ am_LS ∧ ∀ q5, am_K h3 q5 = 0 →
   (∃ (Q7 : am_H → Prop), am_Ct tt 31 [.ref q5, .ref a1] (am_nO h3 q5 3) (am_pV Q7 (fun _ _ => False)) ∧ (∀ h6, Q7 h6 →
    (∃ (Q9 : am_H → Prop), am_Ct tt 80 [.ref q1, .ref a1, .ref q2, .ref q5] h6 (am_pV Q9 (fun _ _ => False)) ∧ (∀ h8, Q9 h8 →
     (am_K h8 a0 = 10 ∧
     Q (am_sR h8 9 5 a0 (some q1))))))))))))) :
  am_Ev tt 103 67 [some (.ref a0), some (.ref a1)] [] h (am_pV Q Qx) := am_vc 17 [(4, [true, false]), (15, [true, false]), (26, [true, false]), (37, [true, false]), (48, [true, false]), (59, [true, false]), (67, [true, true])] q

section INH
variable {tt : Nat → Nat} {h h' k k' k2 : am_H} {c c' : Nat → Nat} {D : Nat → Prop}
theorem NW.no : NW h k c (fun _ => False) := ⟨fun _ _ z => z.elim, fun _ z => z.elim⟩
theorem NW.sh {o : Nat} (n : NW h k c D) : NW h k (fun j => c (j - o)) (fun j => o ≤ j ∧ D (j - o)) := ⟨fun a b ha hb e => by have := n.1 _ _ ha.2 hb.2 e; omega, fun j hj => n.2 _ hj.2⟩
/-- a part is made, and put into the field f of x -/
theorem nb_step {x q ci cx f j0 : Nat} {cG : Nat → Nat} {DG' : Nat → Prop} (n : NW h k c D) (s : gs (fun a => a = x) h k) (g : gK h k) (hx : am_K h x ≠ 0) (hq : am_K k q = 0) (s2 : gs (fun a => a = q) (am_nO k q ci) k2) (g2 : gK (am_nO k q ci) k2) (n2 : NW (am_nO k q ci) k2 cG DG') (d1 : ¬ D j0) (d2 : ∀ j, DG' j → ¬ D j ∧ j ≠ j0) :
    ∃ c', (∀ j, ¬ DG' j → j ≠ j0 → c' j = c j) ∧ c' j0 = q ∧ (∀ j, DG' j → c' j = cG j) ∧ NW h (am_sR k2 cx f x (some q)) c' (fun j => D j ∨ j = j0 ∨ DG' j) ∧ gs (fun a => a = x) h (am_sR k2 cx f x (some q)) ∧ gK h (am_sR k2 cx f x (some q)) ∧ am_K k2 x = am_K k x ∧ am_R (am_sR k2 cx f x (some q)) cx f x = some q ∧ (∀ j, j ≠ f → am_R (am_sR k2 cx f x (some q)) cx j x = am_R k cx j x) ∧ (∀ a, am_K k a ≠ 0 → a ≠ x → fr1 k (am_sR k2 cx f x (some q)) a) ∧ (∀ a, a ≠ x → fr1 k2 (am_sR k2 cx f x (some q)) a) := by
  have kx : am_K k x ≠ 0 := by rw [g x hx]; exact hx
  have xq : x ≠ q := fun z => kx (by rw [z]; exact hq)
  have g1 : gK k (am_nO k q ci) := gK.nO hq
  have s1 : gs (fun _ => False) k (am_nO k q ci) := gs.nO hq
  have Kq : am_K (am_nO k q ci) q ≠ 0 := by rw [show am_K (am_nO k q ci) q = ci + 1 from up_eq]; omega
  have fx : fr1 k k2 x := (s1 x kx (fun z => z)).tr (s2 x (by rw [g1 x kx]; exact kx) xq)
  obtain ⟨c1, a1, b1, n1⟩ := n.mrg g (NW.one (j0 := j0) hq Kq) g1 (fun j hj z => d1 (by rw [← z]; exact hj))
  obtain ⟨c2, a2, b2, n3⟩ := n1.mrg (g.tr g1) n2 g2 (fun j hj z => hj.elim (fun w => (d2 j z).1 w) (fun w => (d2 j z).2 w))
  have s3 : gs (fun a => a = x) k2 (am_sR k2 cx f x (some q)) := gs.sR rfl
  have L : ∀ a, am_K k a ≠ 0 → a ≠ x → fr1 k (am_sR k2 cx f x (some q)) a := fun a ha hax => ((s1 a ha (fun z => z)).tr (s2 a (by rw [g1 a ha]; exact ha) (fun z => ha (by rw [z]; exact hq)))).tr (fr1.sR hax)
  refine ⟨c2, fun j hj hj0 => ?_, ?_, b2, ?_, fun a ha hax => (s a ha hax).tr (L a (by rw [g a ha]; exact ha) hax), (g.tr g1).tr g2, fx.1, by simp only [am_hs, true_and, and_true, and_self, true_or, or_true, false_or, or_false, false_and, and_false, not_true_eq_false, not_false_eq_true, Classical.not_not, true_implies, false_implies, implies_true, exists_eq_left, exists_eq_left', Option.some.injEq, reduceIte, Nat.reduceEqDiff, Nat.reduceLT, Nat.reduceLeDiff, Nat.reduceAdd, Nat.reduceSub, Nat.reduceMul, eq_self, ne_eq, and_imp, forall_const, reduceCtorEq, am_w, List.map_cons, List.map_nil, List.sum_cons, List.sum_nil, Value.category, Nat.zero_le, Nat.le_refl], fun j hj => ?_, L, fun a hax => fr1.sR hax⟩
  · rw [a2 j hj, a1 j hj0]
  · rw [a2 j0 (fun z => (d2 j0 z).2 rfl), b1 j0 rfl]
  · exact (n3.up (gK.re : gK k2 (am_sR k2 cx f x (some q)))).wk (fun j hj => by rcases hj with z | z | z; exact Or.inl (Or.inl z); exact Or.inl (Or.inr z); exact Or.inr z)
  · have : ∀ b : Nat, am_R (am_sR k2 cx f x (some q)) cx j x = am_R k2 cx j x := fun _ => by simp only [am_hs, hj, true_and, and_true, and_self, true_or, or_true, false_or, or_false, false_and, and_false, not_true_eq_false, not_false_eq_true, Classical.not_not, true_implies, false_implies, implies_true, exists_eq_left, exists_eq_left', Option.some.injEq, reduceIte, Nat.reduceEqDiff, Nat.reduceLT, Nat.reduceLeDiff, Nat.reduceAdd, Nat.reduceSub, Nat.reduceMul, eq_self, ne_eq, and_imp, forall_const, reduceCtorEq, am_w, List.map_cons, List.map_nil, List.sum_cons, List.sum_nil, Value.category, Nat.zero_le, Nat.le_refl]
    rw [this 0, fx.2.2.2.2.2.2.2]
def DR (j : Nat) : Prop := (30 ≤ j ∧ j ≤ 34) ∨ (40 ≤ j ∧ j < 55 ∧ ¬ (skl.getD (j - 40) (0, 0)).1 = 0)
def GR (c : Nat → Nat) (k : am_H) : Prop := cr_s k c ∧ am_I k 2 3 (c 31) = Int32.ofNat 0
theorem GR.mv (q : GR c k) (e : ∀ j, DR j → c' j = c j) (f : ∀ j, DR j → fr1 k k' (c j)) : GR c' k' := by
  obtain ⟨⟨r1, r2, r3, r4, r5, r6, r7, r8, r9, r10, r11, r12, r13⟩, r14⟩ := q
  have u : ∀ j, 30 ≤ j → j ≤ 34 → c' j = c j ∧ fr1 k k' (c j) := fun j h1 h2 => ⟨e j (Or.inl ⟨h1, h2⟩), f j (Or.inl ⟨h1, h2⟩)⟩
  obtain ⟨e30, f30⟩ := u 30 (by omega) (by omega)
  obtain ⟨e31, f31⟩ := u 31 (by omega) (by omega)
  obtain ⟨e32, f32⟩ := u 32 (by omega) (by omega)
  obtain ⟨e33, f33⟩ := u 33 (by omega) (by omega)
  obtain ⟨e34, f34⟩ := u 34 (by omega) (by omega)
  refine ⟨⟨by rw [e30, f30.1]; exact r1, by rw [e30, e31, f30.2.2.2.2.2.2.2]; exact r2, by rw [e30, e32, f30.2.2.2.2.2.2.2]; exact r3, by rw [e30, e33, f30.2.2.2.2.2.2.2]; exact r4, by rw [e31, f31.1]; exact r5, by rw [e32, f32.1]; exact r6, by rw [e32, e31, f32.2.2.2.2.2.2.2]; exact r7, fun j hj => ?_, by rw [e33, f33.1]; exact r9, by rw [e33, e31, f33.2.2.2.2.2.2.2]; exact r10, by rw [e33, e34, f33.2.2.2.2.2.2.2]; exact r11, by rw [e34, f34.1]; exact r12, by rw [e34, f34.2.1]; exact r13⟩, by rw [e31, f31.2.2.2.2.2.1]; exact r14⟩
  by_cases z : (skl.getD j (0, 0)).1 = 0
  · exact Or.inl z
  · have dj : DR (40 + j) := Or.inr ⟨by omega, by omega, by rw [show 40 + j - 40 = j by omega]; exact z⟩
    rw [e32, e _ dj, f32.2.2.2.2.2.2.2, (f _ dj).1, (f _ dj).2.1]
    exact r8 j hj
/-- the reader takes its three parts -/
theorem ct_iR {r a b d : Nat} (hr : am_K h r = 8) : am_Ct tt 80 [.ref r, .ref a, .ref b, .ref d] h (am_pV (fun h' => am_R h' 7 0 r = some a ∧ am_R h' 7 1 r = some b ∧ am_R h' 7 2 r = some d ∧ (∀ y, y ≠ r → fr1 h h' y) ∧ (∀ y, am_K h' y = am_K h y) ∧ am_U h' = am_U h ∧ am_V h' = am_V h) (fun _ _ => False)) :=
  vc_80_0 tt _ _ _ _ _ _ _ ⟨by decide, hr, hr, hr, by simp only [am_hs, true_and, and_true, and_self, true_or, or_true, false_or, or_false, false_and, and_false, not_true_eq_false, not_false_eq_true, Classical.not_not, true_implies, false_implies, implies_true, exists_eq_left, exists_eq_left', Option.some.injEq, reduceIte, Nat.reduceEqDiff, Nat.reduceLT, Nat.reduceLeDiff, Nat.reduceAdd, Nat.reduceSub, Nat.reduceMul, eq_self, ne_eq, and_imp, forall_const, reduceCtorEq, am_w, List.map_cons, List.map_nil, List.sum_cons, List.sum_nil, Value.category, Nat.zero_le, Nat.le_refl], by simp only [am_hs, true_and, and_true, and_self, true_or, or_true, false_or, or_false, false_and, and_false, not_true_eq_false, not_false_eq_true, Classical.not_not, true_implies, false_implies, implies_true, exists_eq_left, exists_eq_left', Option.some.injEq, reduceIte, Nat.reduceEqDiff, Nat.reduceLT, Nat.reduceLeDiff, Nat.reduceAdd, Nat.reduceSub, Nat.reduceMul, eq_self, ne_eq, and_imp, forall_const, reduceCtorEq, am_w, List.map_cons, List.map_nil, List.sum_cons, List.sum_nil, Value.category, Nat.zero_le, Nat.le_refl], by simp only [am_hs, true_and, and_true, and_self, true_or, or_true, false_or, or_false, false_and, and_false, not_true_eq_false, not_false_eq_true, Classical.not_not, true_implies, false_implies, implies_true, exists_eq_left, exists_eq_left', Option.some.injEq, reduceIte, Nat.reduceEqDiff, Nat.reduceLT, Nat.reduceLeDiff, Nat.reduceAdd, Nat.reduceSub, Nat.reduceMul, eq_self, ne_eq, and_imp, forall_const, reduceCtorEq, am_w, List.map_cons, List.map_nil, List.sum_cons, List.sum_nil, Value.category, Nat.zero_le, Nat.le_refl], fun y e => ((fr1.sR e).tr (fr1.sR e)).tr (fr1.sR e), fun _ => rfl, rfl, rfl⟩
/-- a part is made: what was there stands -/
theorem gs.nw {q ci : Nat} (hq : am_K k q = 0) (s : gs (fun a => a = q) (am_nO k q ci) k2) : gs (fun _ => False) k k2 := fun a ha _ => ((gs.nO hq : gs (fun _ => False) k (am_nO k q ci)) a ha (fun z => z)).tr (s a (by rw [(gK.nO hq : gK k (am_nO k q ci)) a ha]; exact ha) (fun z => ha (by rw [z]; exact hq)))
theorem ev_iR {Q : am_H → Prop} {x : Nat} (hx : am_K h x = 10) (hU : am_U h + 18 ≤ am_LC) (hV : am_V h + 163 ≤ am_LS) (nx : ∀ k c, NW h k c DR → GR c k → gs (fun _ => False) h k → gK h k → am_U k = am_U h + 18 → am_V k = am_V h + 163 → Q (am_sR k 9 5 x (some (c 30)))) : am_Ev tt 103 59 [some (.ref x), none] [] h (am_pV Q (fun _ _ => False)) := by
  have x0 : am_K h x ≠ 0 := by rw [hx]; decide
  -- the cursor
  refine vc_103_59 tt _ _ _ _ ⟨by omega, by omega, fun q1 hq1 => ?_⟩
  have U1 : am_U (am_nO h q1 2) = am_U h + 1 := rfl
  have V1 : am_V (am_nO h q1 2) = am_V h + 5 := rfl
  have I1 : am_I (am_nO h q1 2) 2 3 q1 = Int32.ofNat 0 := if_pos rfl
  refine ⟨_, ct_iCu (e := q1) up_eq (by omega) (by omega), fun k2 w2 => ?_⟩
  obtain ⟨i2, s2, g2, U2, V2⟩ := w2
  have K2q : am_K k2 q1 = 3 := by rw [g2 q1 (by rw [show am_K (am_nO h q1 2) q1 = 3 from up_eq]; decide)]; exact up_eq
  have I2 : am_I k2 2 3 q1 = Int32.ofNat 0 := by rw [i2]; exact I1
  have g02 : gK h k2 := (gK.nO hq1).tr g2
  have s02 : gs (fun _ => False) h k2 := gs.nw hq1 s2
  have n2 : NW h k2 (fun _ => q1) (fun j => j = 31) := NW.one hq1 (by rw [K2q]; decide)
  have U2 : am_U k2 = am_U h + 2 := by omega
  have V2 : am_V k2 = am_V h + 5 := by omega
  clear i2 s2 g2 I1 U1 V1
  -- the reader, and the reader of STREAMS
  refine vc_103_67 tt _ _ _ _ _ ⟨by omega, by omega, fun r hr => ⟨by show am_U k2 + 1 + 1 ≤ _; omega, by show am_V k2 + 3 + 15 ≤ _; omega, fun q4 hq4 => ?_⟩⟩
  have g23 : gK k2 (am_nO k2 r 7) := gK.nO hr
  have s23 : gs (fun _ => False) k2 (am_nO k2 r 7) := gs.nO hr
  have K3r : am_K (am_nO k2 r 7) r = 8 := up_eq
  have U3 : am_U (am_nO k2 r 7) = am_U k2 + 1 := rfl
  have V3 : am_V (am_nO k2 r 7) = am_V k2 + 3 := rfl
  generalize am_nO k2 r 7 = k3 at *
  have q1r : q1 ≠ r := fun z => by rw [z, hr] at K2q; cases K2q
  obtain ⟨c3, a3, b3, n3⟩ := n2.mrg g02 (NW.one (j0 := 30) hr (by rw [K3r]; decide)) g23 (fun j hj z => by omega)
  have U4 : am_U (am_nO k3 q4 5) = am_U k3 + 1 := rfl
  have V4 : am_V (am_nO k3 q4 5) = am_V k3 + 15 := rfl
  have K4q : am_K (am_nO k3 q4 5) q4 = 6 := up_eq
  have q4r : q4 ≠ r := fun z => by rw [z, K3r] at hq4; cases hq4
  have K4r : am_K (am_nO k3 q4 5) r = 8 := by rw [gK.nO hq4 r (by rw [K3r]; decide)]; exact K3r
  have g34 : gK k3 (am_nO k3 q4 5) := gK.nO hq4
  refine ⟨_, ct_iSt (e := q4) (x := q1) up_eq (by omega) (by omega), fun k5 w5 => ?_⟩
  obtain ⟨cS, nS, R50, R5, s5, g5, U5, V5⟩ := w5
  have s35 : gs (fun _ => False) k3 k5 := gs.nw hq4 s5
  have K5q : am_K k5 q4 = 6 := by rw [g5 q4 (by rw [K4q]; decide)]; exact K4q
  have K5r : am_K k5 r = 8 := by rw [g5 r (by rw [K4r]; decide)]; exact K4r
  have cSr : ∀ j, j < 15 → ¬ (skl.getD j (0, 0)).1 = 0 → cS j ≠ r := fun j h1 h2 z => by
    have := (nS.2 j ⟨h1, h2⟩).1
    rw [z, K4r] at this
    cases this
  have nS' := (nS.sh (o := 40)).wk (D' := fun j => 40 ≤ j ∧ j < 55 ∧ ¬ (skl.getD (j - 40) (0, 0)).1 = 0) (fun j z => ⟨z.1, by omega, z.2.2⟩)
  obtain ⟨c4, a4, b4, n4⟩ := n3.mrg (g02.tr g23) (NW.one (j0 := 32) hq4 (by rw [K4q]; decide)) g34 (fun j hj z => by omega)
  obtain ⟨c5, a5, b5, n5⟩ := n4.mrg ((g02.tr g23).tr g34) nS' g5 (fun j hj z => by omega)
  have g05 : gK h k5 := ((g02.tr g23).tr g34).tr g5
  have g35 : gK k3 k5 := g34.tr g5
  have s05 : gs (fun _ => False) h k5 := (s02.tt' g02 s23).tt' (g02.tr g23) s35
  -- the reader of entries
  refine ⟨by omega, by omega, fun q8 hq8 => ?_⟩
  have U7 : am_U (am_nO k5 q8 3) = am_U k5 + 1 := rfl
  have V7 : am_V (am_nO k5 q8 3) = am_V k5 + 2 := rfl
  have K7q : am_K (am_nO k5 q8 3) q8 = 4 := up_eq
  have q8r : q8 ≠ r := fun z => by rw [z, K5r] at hq8; cases hq8
  have K7r : am_K (am_nO k5 q8 3) r = 8 := by rw [gK.nO hq8 r (by rw [K5r]; decide)]; exact K5r
  have g57 : gK k5 (am_nO k5 q8 3) := gK.nO hq8
  refine ⟨_, ct_iEn (e := q8) (x := q1) up_eq (by omega) (by omega), fun k8 w8 => ?_⟩
  obtain ⟨b, hb, R30, R31, Kb, Nb, s8, g8, U8, V8⟩ := w8
  have s58 : gs (fun _ => False) k5 k8 := gs.nw hq8 s8
  have K8q : am_K k8 q8 = 4 := by rw [g8 q8 (by rw [K7q]; decide)]; exact K7q
  have K8r : am_K k8 r = 8 := by rw [g8 r (by rw [K7r]; decide)]; exact K7r
  have br : b ≠ r := fun z => by rw [z, K7r] at hb; cases hb
  obtain ⟨c6, a6, b6, n6⟩ := n5.mrg g05 (NW.one (j0 := 33) hq8 (by rw [K7q]; decide)) g57 (fun j hj z => by omega)
  obtain ⟨c7, a7, b7, n7⟩ := n6.mrg (g05.tr g57) (NW.one (j0 := 34) hb (by rw [Kb]; decide)) g8 (fun j hj z => by omega)
  have g58 : gK k5 k8 := g57.tr g8
  have g08 : gK h k8 := g05.tr g58
  have s08 : gs (fun _ => False) h k8 := s05.tt' g05 s58
  refine ⟨_, ct_iR K8r, fun k9 w9 => ?_⟩
  obtain ⟨E0, E1, E2, L9, K9, U9, V9⟩ := w9
  have g09 : gK h k9 := fun a ha => by rw [K9 a]; exact g08 a ha
  have xr : ∀ a, am_K h a ≠ 0 → a ≠ r := fun a ha z => by
    have := g02 a ha
    rw [z, hr] at this
    rw [z] at ha
    exact ha this.symm
  have s09 : gs (fun _ => False) h k9 := fun a ha _ => (s08 a ha (fun z => z)).tr (L9 a (xr a ha))
  have e30 : c7 30 = r := by rw [a7 30 (by omega), a6 30 (by omega), a5 30 (by omega), a4 30 (by omega)]; exact b3 30 rfl
  have e31 : c7 31 = q1 := by rw [a7 31 (by omega), a6 31 (by omega), a5 31 (by omega), a4 31 (by omega)]; exact a3 31 (by omega)
  have e32 : c7 32 = q4 := by rw [a7 32 (by omega), a6 32 (by omega), a5 32 (by omega)]; exact b4 32 rfl
  have e33 : c7 33 = q8 := by rw [a7 33 (by omega)]; exact b6 33 rfl
  have e34 : c7 34 = b := b7 34 rfl
  have e40 : ∀ j, j < 15 → ¬ (skl.getD j (0, 0)).1 = 0 → c7 (40 + j) = cS j := fun j h1 h2 => by
    rw [a7 _ (by omega), a6 _ (by omega), b5 _ ⟨by omega, by omega, by rw [show 40 + j - 40 = j by omega]; exact h2⟩, show 40 + j - 40 = j by omega]
  have K3q : am_K k3 q1 = 3 := by rw [g23 q1 (by rw [K2q]; decide)]; exact K2q
  have K5q1 : am_K k5 q1 = 3 := by rw [g35 q1 (by rw [K3q]; decide)]; exact K3q
  have f1 : fr1 k2 k9 q1 := (((s23 q1 (by rw [K2q]; decide) (fun z => z)).tr (s35 q1 (by rw [K3q]; decide) (fun z => z))).tr (s58 q1 (by rw [K5q1]; decide) (fun z => z))).tr (L9 q1 q1r)
  have f4 : fr1 k5 k9 q4 := (s58 q4 (by rw [K5q]; decide) (fun z => z)).tr (L9 q4 q4r)
  have f8 : fr1 k8 k9 q8 := L9 q8 q8r
  have fb : fr1 k8 k9 b := L9 b br
  refine ⟨by rw [g09 x x0]; exact hx, ?_⟩
  have G : GR c7 k9 := by
    refine ⟨⟨?_, ?_, ?_, ?_, ?_, ?_, ?_, fun j hj => ?_, ?_, ?_, ?_, ?_, ?_⟩, ?_⟩
    · rw [e30, K9]; exact K8r
    · rw [e30, e31]; exact E0
    · rw [e30, e32]; exact E1
    · rw [e30, e33]; exact E2
    · rw [e31, f1.1]; exact K2q
    · rw [e32, f4.1]; exact K5q
    · rw [e32, e31, f4.2.2.2.2.2.2.2]; exact R50
    · by_cases z : (skl.getD j (0, 0)).1 = 0
      · exact Or.inl z
      · obtain ⟨w1, w2, w3⟩ := R5 j hj z
        have fj : fr1 k5 k9 (cS j) := (s58 (cS j) (by rw [w2]; exact z) (fun z => z)).tr (L9 (cS j) (cSr j hj z))
        rw [e32, e40 j hj z, f4.2.2.2.2.2.2.2, fj.1, fj.2.1]
        exact Or.inr ⟨w1, w2, w3⟩
    · rw [e33, f8.1]; exact K8q
    · rw [e33, e31, f8.2.2.2.2.2.2.2]; exact R30
    · rw [e33, e34, f8.2.2.2.2.2.2.2]; exact R31
    · rw [e34, fb.1]; exact Kb
    · rw [e34, fb.2.1]; exact Nb
    · rw [e31, f1.2.2.2.2.2.1]; exact I2
  have N : NW h k9 c7 DR := (n7.up (fun a _ => K9 a : gK k8 k9)).wk (fun j hj => by
    rcases hj with hj | hj
    · rcases (show j = 30 ∨ j = 31 ∨ j = 32 ∨ j = 33 ∨ j = 34 by omega) with z | z | z | z | z
      · exact Or.inl (Or.inl (Or.inl (Or.inl (Or.inr z))))
      · exact Or.inl (Or.inl (Or.inl (Or.inl (Or.inl z))))
      · exact Or.inl (Or.inl (Or.inl (Or.inr z)))
      · exact Or.inl (Or.inr z)
      · exact Or.inr z
    · exact Or.inl (Or.inl (Or.inr hj)))
  rw [← e30]
  exact nx k9 c7 N G s09 g09 (by omega) (by omega)
end INH
