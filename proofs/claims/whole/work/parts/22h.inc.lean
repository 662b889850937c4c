/-! deps: 22g -/
/-! ===== parts are made and put into fields; the reader ===== -/
/-! 80 yX7_init -/
theorem vc_80_0 (tt : Nat → Nat) (a0 : Nat) (h : am_H) (Q : am_H → Prop) (Qx : String → am_H → Prop) (q :
  (am_w [] ≤ 8 ∧
  am_Ev tt 80 4 [some (.ref a0)] [] h (am_pV Q Qx))) :
  am_Ev tt 80 0 [some (.ref a0)] [] h (am_pV Q Qx) := am_vc 5 [(4, [true]), (15, [true]), (30, [true])] q
theorem vc_80_4 (tt : Nat → Nat) (a0 : Nat) (h : am_H) (Q : am_H → Prop) (Qx : String → am_H → Prop) (q :
  (am_U h + 1 ≤ am_LC ∧ am_V h + 5 ≤ am_LS ∧ ∀ q1, am_K h q1 = 0 →
  (∃ (Q3 : am_H → Prop), am_Ct tt 20 [.ref q1] (am_nO h q1 2) (am_pV Q3 (fun _ _ => False)) ∧ (∀ h2, Q3 h2 →
   (am_K h2 a0 = 8 ∧
   am_Ev tt 80 15 [some (.ref a0)] [] (am_sR h2 7 0 a0 (some q1)) (am_pV Q Qx)))))) :
  am_Ev tt 80 4 [some (.ref a0)] [] h (am_pV Q Qx) := am_vc 8 [(4, [true]), (15, [true]), (30, [true])] q
theorem vc_80_15 (tt : Nat → Nat) (a0 : Nat) (h : am_H) (Q : am_H → Prop) (Qx : String → am_H → Prop) (q :
  (am_U h + 1 ≤ am_LC ∧ am_V h + 15 ≤ am_LS ∧ ∀ q1, am_K h q1 = 0 →
  (am_K (am_nO h q1 5) a0 = 8 ∧ ∃ q2, am_R (am_nO h q1 5) 7 0 a0 = some q2 ∧
  (∃ (Q4 : am_H → Prop), am_Ct tt 50 [.ref q1, .ref q2] (am_nO h q1 5) (am_pV Q4 (fun _ _ => False)) ∧ (∀ h3, Q4 h3 →
   (am_K h3 a0 = 8 ∧
   am_Ev tt 80 30 [some (.ref a0)] [] (am_sR h3 7 1 a0 (some q1)) (am_pV Q Qx))))))) :
  am_Ev tt 80 15 [some (.ref a0)] [] h (am_pV Q Qx) := am_vc 10 [(4, [true]), (15, [true]), (30, [true])] q
theorem vc_80_30 (tt : Nat → Nat) (a0 : Nat) (h : am_H) (Q : am_H → Prop) (Qx : String → am_H → Prop) (q :
  (am_U h + 1 ≤ am_LC ∧ am_V h + 2 ≤ am_LS ∧ ∀ q1, am_K h q1 = 0 →
  (am_K (am_nO h q1 3) a0 = 8 ∧ ∃ q2, am_R (am_nO h q1 3) 7 0 a0 = some q2 ∧
  (∃ (Q4 : am_H → Prop), am_Ct tt 31 [.ref q1, .ref q2] (am_nO h q1 3) (am_pV Q4 (fun _ _ => False)) ∧ (∀ h3, Q4 h3 →
   (am_K h3 a0 = 8 ∧
   Q (am_sR h3 7 2 a0 (some q1)))))))) :
  am_Ev tt 80 30 [some (.ref a0)] [] h (am_pV Q Qx) := am_vc 10 [(4, [true]), (15, [true]), (30, [true])] q

section INH
variable {tt : Nat → Nat} {h h' k k' k2 : am_H} {c c' : Nat → Nat} {D : Nat → Prop}
theorem NW.no : NW h k c (fun _ => False) := ⟨fun _ _ z => z.elim, fun _ z => z.elim⟩
theorem NW.sh {o : Nat} (n : NW h k c D) : NW h k (fun j => c (j - o)) (fun j => o ≤ j ∧ D (j - o)) := ⟨fun a b ha hb e => by have := n.1 _ _ ha.2 hb.2 e; omega, fun j hj => n.2 _ hj.2⟩
/-- a part is made, and put into the field f of x -/
theorem nb_step {x q ci cx f j0 : Nat} {cG : Nat → Nat} {DG' : Nat → Prop} (n : NW h k c D) (s : gs (fun a => a = x) h k) (g : gK h k) (hx : am_K h x ≠ 0) (hq : am_K k q = 0) (s2 : gs (fun a => a = q) (am_nO k q ci) k2) (g2 : gK (am_nO k q ci) k2) (n2 : NW (am_nO k q ci) k2 cG DG') (d1 : ¬ D j0) (d2 : ∀ j, DG' j → ¬ D j ∧ j ≠ j0) :
    ∃ c', (∀ j, ¬ DG' j → j ≠ j0 → c' j = c j) ∧ c' j0 = q ∧ (∀ j, DG' j → c' j = cG j) ∧ NW h (am_sR k2 cx f x (some q)) c' (fun j => D j ∨ j = j0 ∨ DG' j) ∧ gs (fun a => a = x) h (am_sR k2 cx f x (some q)) ∧ gK h (am_sR k2 cx f x (some q)) ∧ am_K k2 x = am_K k x ∧ am_R (am_sR k2 cx f x (some q)) cx f x = some q ∧ (∀ j, j ≠ f → am_R (am_sR k2 cx f x (some q)) cx j x = am_R k cx j x) ∧ (∀ a, am_K k a ≠ 0 → a ≠ x → fr1 k (am_sR k2 cx f x (some q)) a) ∧ (∀ a, a ≠ x → fr1 k2 (am_sR k2 cx f x (some q)) a) := by
  have kx : am_K k x ≠ 0 := by rw [g x hx]; exact hx
  have xq : x ≠ q := fun z => kx (by rw [z]; exact hq)
  have g1 : gK k (am_nO k q ci) := gK.nO hq
  have s1 : gs (fun _ => False) k (am_nO k q ci) := gs.nO hq
  have Kq : am_K (am_nO k q ci) q ≠ 0 := by rw [show am_K (am_nO k q ci) q = ci + 1 from up_eq]; omega
  have fx : fr1 k k2 x := (s1 x kx (fun z => z)).tr (s2 x (by rw [g1 x kx]; exact kx) xq)
  obtain ⟨c1, a1, b1, n1⟩ := n.mrg g (NW.one (j0 := j0) hq Kq) g1 (fun j hj z => d1 (by rw [← z]; exact hj))
  obtain ⟨c2, a2, b2, n3⟩ := n1.mrg (g.tr g1) n2 g2 (fun j hj z => hj.elim (fun w => (d2 j z).1 w) (fun w => (d2 j z).2 w))
  have s3 : gs (fun a => a = x) k2 (am_sR k2 cx f x (some q)) := gs.sR rfl
  have L : ∀ a, am_K k a ≠ 0 → a ≠ x → fr1 k (am_sR k2 cx f x (some q)) a := fun a ha hax => ((s1 a ha (fun z => z)).tr (s2 a (by rw [g1 a ha]; exact ha) (fun z => ha (by rw [z]; exact hq)))).tr (fr1.sR hax)
  refine ⟨c2, fun j hj hj0 => ?_, ?_, b2, ?_, fun a ha hax => (s a ha hax).tr (L a (by rw [g a ha]; exact ha) hax), (g.tr g1).tr g2, fx.1, by simp only [am_hs, true_and, and_true, and_self, true_or, or_true, false_or, or_false, false_and, and_false, not_true_eq_false, not_false_eq_true, Classical.not_not, true_implies, false_implies, implies_true, exists_eq_left, exists_eq_left', Option.some.injEq, reduceIte, Nat.reduceEqDiff, Nat.reduceLT, Nat.reduceLeDiff, Nat.reduceAdd, Nat.reduceSub, Nat.reduceMul, eq_self, ne_eq, and_imp, forall_const, reduceCtorEq, am_w, List.map_cons, List.map_nil, List.sum_cons, List.sum_nil, Value.category, Nat.zero_le, Nat.le_refl], fun j hj => ?_, L, fun a hax => fr1.sR hax⟩
  · rw [a2 j hj, a1 j hj0]
  · rw [a2 j0 (fun z => (d2 j0 z).2 rfl), b1 j0 rfl]
  · exact (n3.up (gK.re : gK k2 (am_sR k2 cx f x (some q)))).wk (fun j hj => by rcases hj with z | z | z; exact Or.inl (Or.inl z); exact Or.inl (Or.inr z); exact Or.inr z)
  · have : ∀ b : Nat, am_R (am_sR k2 cx f x (some q)) cx j x = am_R k2 cx j x := fun _ => by simp only [am_hs, hj, true_and, and_true, and_self, true_or, or_true, false_or, or_false, false_and, and_false, not_true_eq_false, not_false_eq_true, Classical.not_not, true_implies, false_implies, implies_true, exists_eq_left, exists_eq_left', Option.some.injEq, reduceIte, Nat.reduceEqDiff, Nat.reduceLT, Nat.reduceLeDiff, Nat.reduceAdd, Nat.reduceSub, Nat.reduceMul, eq_self, ne_eq, and_imp, forall_const, reduceCtorEq, am_w, List.map_cons, List.map_nil, List.sum_cons, List.sum_nil, Value.category, Nat.zero_le, Nat.le_refl]
    rw [this 0, fx.2.2.2.2.2.2.2]
def DR (j : Nat) : Prop := (30 ≤ j ∧ j ≤ 34) ∨ (40 ≤ j ∧ j < 55 ∧ ¬ (skl.getD (j - 40) (0, 0)).1 = 0)
def GR (c : Nat → Nat) (k : am_H) : Prop := cr_s k c ∧ am_I k 2 3 (c 31) = Int32.ofNat 0
theorem GR.mv (q : GR c k) (e : ∀ j, DR j → c' j = c j) (f : ∀ j, DR j → fr1 k k' (c j)) : GR c' k' := by
  obtain ⟨⟨r1, r2, r3, r4, r5, r6, r7, r8, r9, r10, r11, r12, r13⟩, r14⟩ := q
  have u : ∀ j, 30 ≤ j → j ≤ 34 → c' j = c j ∧ fr1 k k' (c j) := fun j h1 h2 => ⟨e j (Or.inl ⟨h1, h2⟩), f j (Or.inl ⟨h1, h2⟩)⟩
  obtain ⟨e30, f30⟩ := u 30 (by omega) (by omega)
  obtain ⟨e31, f31⟩ := u 31 (by omega) (by omega)
  obtain ⟨e32, f32⟩ := u 32 (by omega) (by omega)
  obtain ⟨e33, f33⟩ := u 33 (by omega) (by omega)
  obtain ⟨e34, f34⟩ := u 34 (by omega) (by omega)
  refine ⟨⟨by rw [e30, f30.1]; exact r1, by rw [e30, e31, f30.2.2.2.2.2.2.2]; exact r2, by rw [e30, e32, f30.2.2.2.2.2.2.2]; exact r3, by rw [e30, e33, f30.2.2.2.2.2.2.2]; exact r4, by rw [e31, f31.1]; exact r5, by rw [e32, f32.1]; exact r6, by rw [e32, e31, f32.2.2.2.2.2.2.2]; exact r7, fun j hj => ?_, by rw [e33, f33.1]; exact r9, by rw [e33, e31, f33.2.2.2.2.2.2.2]; exact r10, by rw [e33, e34, f33.2.2.2.2.2.2.2]; exact r11, by rw [e34, f34.1]; exact r12, by rw [e34, f34.2.1]; exact r13⟩, by rw [e31, f31.2.2.2.2.2.1]; exact r14⟩
  by_cases z : (skl.getD j (0, 0)).1 = 0
  · exact Or.inl z
  · have dj : DR (40 + j) := Or.inr ⟨by omega, by omega, by rw [show 40 + j - 40 = j by omega]; exact z⟩
    rw [e32, e _ dj, f32.2.2.2.2.2.2.2, (f _ dj).1, (f _ dj).2.1]
    exact r8 j hj
theorem ct_iR {r : Nat} (hr : am_K h r = 8) (hU : am_U h + 17 ≤ am_LC) (hV : am_V h + 160 ≤ am_LS) : am_Ct tt 80 [.ref r] h (am_pV (fun h' => ∃ c, c 30 = r ∧ NW h h' c (fun j => DR j ∧ j ≠ 30) ∧ GR c h' ∧ gs (fun a => a = r) h h' ∧ gK h h' ∧ am_U h' = am_U h + 17 ∧ am_V h' = am_V h + 160) (fun _ _ => False)) := by
  have r0 : am_K h r ≠ 0 := by rw [hr]; decide
  refine vc_80_0 tt _ h _ _ ⟨by decide, vc_80_4 tt _ _ _ _ ⟨by omega, by omega, fun q1 hq1 => ?_⟩⟩
  have U1 : am_U (am_nO h q1 2) = am_U h + 1 := rfl
  have V1 : am_V (am_nO h q1 2) = am_V h + 5 := rfl
  have I1 : am_I (am_nO h q1 2) 2 3 q1 = Int32.ofNat 0 := if_pos rfl
  refine ⟨_, ct_iCu (e := q1) up_eq (by omega) (by omega), fun k2 w2 => ?_⟩
  obtain ⟨i2, s2, g2, U2, V2⟩ := w2
  obtain ⟨c1, a1, b1, _, n1, t1, y1, kx1, R1, R1', L1, L1'⟩ := nb_step (x := r) (cx := 7) (f := 0) (j0 := 31) (c := fun _ => r) (cG := fun _ => 0) (DG' := fun _ => False) (NW.no (h := h) (k := h)) gs.re gK.re r0 hq1 s2 g2 NW.no (fun z => z) (fun j z => z.elim)
  have K2r : am_K k2 r = 8 := by rw [kx1]; exact hr
  refine ⟨K2r, ?_⟩
  have q1r : q1 ≠ r := fun z => r0 (by rw [← z]; exact hq1)
  have K3q : am_K (am_sR k2 7 0 r (some q1)) q1 = 3 := by show am_K k2 q1 = 3; rw [g2 q1 (by rw [show am_K (am_nO h q1 2) q1 = 3 from up_eq]; decide)]; exact up_eq
  have I3 : am_I (am_sR k2 7 0 r (some q1)) 2 3 q1 = Int32.ofNat 0 := by rw [(L1' q1 q1r).2.2.2.2.2.1, i2]; exact I1
  have U3 : am_U (am_sR k2 7 0 r (some q1)) = am_U h + 2 := by show am_U k2 = _; omega
  have V3 : am_V (am_sR k2 7 0 r (some q1)) = am_V h + 5 := by show am_V k2 = _; omega
  have K3r : am_K (am_sR k2 7 0 r (some q1)) r = 8 := K2r
  have e100 : c1 30 = r := a1 30 (fun z => z) (by omega)
  have n1 : NW h (am_sR k2 7 0 r (some q1)) c1 (fun j => j = 31) := n1.wk (fun j z => Or.inr (Or.inl z))
  generalize am_sR k2 7 0 r (some q1) = k3 at *
  clear L1' L1 kx1 K2r i2 s2 g2 U2 V2 I1 U1 V1 R1'
  refine vc_80_15 tt _ _ _ _ ⟨by omega, by omega, fun q4 hq4 => ?_⟩
  have U4 : am_U (am_nO k3 q4 5) = am_U k3 + 1 := rfl
  have V4 : am_V (am_nO k3 q4 5) = am_V k3 + 15 := rfl
  have rq4 : r ≠ q4 := fun z => by rw [← z, K3r] at hq4; cases hq4
  have f4 : fr1 k3 (am_nO k3 q4 5) r := fr1.nO rq4
  refine ⟨by rw [f4.1]; exact K3r, q1, by rw [f4.2.2.2.2.2.2.2]; exact R1, _, ct_iSt (e := q4) (x := q1) up_eq (by omega) (by omega), fun k5 w5 => ?_⟩
  obtain ⟨cS, nS, R50, R5, s5, g5, U5, V5⟩ := w5
  obtain ⟨c2, a2, b2, bS, n2, t2, y2, kx2, R2, R2', L2, L2'⟩ := nb_step (x := r) (cx := 7) (f := 1) (j0 := 32) n1 t1 y1 r0 hq4 s5 g5 ((nS.sh (o := 40)).wk (D' := fun j => 40 ≤ j ∧ j < 55 ∧ ¬ (skl.getD (j - 40) (0, 0)).1 = 0) (fun j z => ⟨z.1, by omega, z.2.2⟩)) (fun z => by omega) (fun j z => ⟨fun w => by omega, by omega⟩)
  have K5r : am_K k5 r = 8 := by rw [kx2]; exact K3r
  refine ⟨K5r, ?_⟩
  have q4r : q4 ≠ r := fun z => rq4 z.symm
  have K6q : am_K (am_sR k5 7 1 r (some q4)) q4 = 6 := by show am_K k5 q4 = 6; rw [g5 q4 (by rw [show am_K (am_nO k3 q4 5) q4 = 6 from up_eq]; decide)]; exact up_eq
  have R60 : am_R (am_sR k5 7 1 r (some q4)) 5 0 q4 = some q1 := by rw [(L2' q4 q4r).2.2.2.2.2.2.2]; exact R50
  have cSr : ∀ j, j < 15 → ¬ (skl.getD j (0, 0)).1 = 0 → cS j ≠ r := fun j h1 h2 z => by
    have := (nS.2 j ⟨h1, h2⟩).1
    rw [z, f4.1, K3r] at this
    cases this
  have R6 : ∀ j, j < 15 → ¬ (skl.getD j (0, 0)).1 = 0 → am_R (am_sR k5 7 1 r (some q4)) 5 j q4 = some (cS j) ∧ am_K (am_sR k5 7 1 r (some q4)) (cS j) = (skl.getD j (0, 0)).1 ∧ am_N (am_sR k5 7 1 r (some q4)) (cS j) = (skl.getD j (0, 0)).2 := fun j h1 h2 => by
    have f := L2' _ (cSr j h1 h2)
    rw [(L2' q4 q4r).2.2.2.2.2.2.2, f.1, f.2.1]
    exact R5 j h1 h2
  have fq1 : fr1 k3 (am_sR k5 7 1 r (some q4)) q1 := L2 q1 (by rw [K3q]; decide) q1r
  have R70 : am_R (am_sR k5 7 1 r (some q4)) 7 0 r = some q1 := by rw [R2' 0 (by omega)]; exact R1
  have U6 : am_U (am_sR k5 7 1 r (some q4)) = am_U h + 15 := by show am_U k5 = _; omega
  have V6 : am_V (am_sR k5 7 1 r (some q4)) = am_V h + 134 := by show am_V k5 = _; omega
  have K6r : am_K (am_sR k5 7 1 r (some q4)) r = 8 := K5r
  generalize am_sR k5 7 1 r (some q4) = k6 at *
  clear L2' L2 kx2 K5r s5 g5 U5 V5 U4 V4 R2' R5 R50
  refine vc_80_30 tt _ _ _ _ ⟨by omega, by omega, fun q8 hq8 => ?_⟩
  have U7 : am_U (am_nO k6 q8 3) = am_U k6 + 1 := rfl
  have V7 : am_V (am_nO k6 q8 3) = am_V k6 + 2 := rfl
  have rq8 : r ≠ q8 := fun z => by rw [← z, K6r] at hq8; cases hq8
  have f7 : fr1 k6 (am_nO k6 q8 3) r := fr1.nO rq8
  refine ⟨by rw [f7.1]; exact K6r, q1, by rw [f7.2.2.2.2.2.2.2]; exact R70, _, ct_iEn (e := q8) (x := q1) up_eq (by omega) (by omega), fun k8 w8 => ?_⟩
  obtain ⟨b, hb, R30, R31, Kb, Nb, s8, g8, U8, V8⟩ := w8
  obtain ⟨c3, a3, b3, bE, n3, t3, y3, kx3, R3, R3', L3, L3'⟩ := nb_step (x := r) (cx := 7) (f := 2) (j0 := 33) n2 t2 y2 r0 hq8 s8 g8 (NW.one (j0 := 34) hb (by rw [Kb]; decide)) (fun z => by omega) (fun j z => ⟨fun w => by omega, by omega⟩)
  have K8r : am_K k8 r = 8 := by rw [kx3]; exact K6r
  have q8r : q8 ≠ r := fun z => rq8 z.symm
  have br : b ≠ r := fun z => by rw [z, f7.1, K6r] at hb; cases hb
  have fq1' := fq1.tr (L3 q1 (by rw [fq1.1, K3q]; decide) q1r)
  have fq4' := L3 q4 (by rw [K6q]; decide) q4r
  have e30 : c3 30 = r := by rw [a3 30 (by omega) (by omega), a2 30 (by omega) (by omega)]; exact e100
  have e31 : c3 31 = q1 := by rw [a3 31 (by omega) (by omega), a2 31 (by omega) (by omega)]; exact b1
  have e32 : c3 32 = q4 := by rw [a3 32 (by omega) (by omega)]; exact b2
  have e34 : c3 34 = b := bE 34 rfl
  have e40 : ∀ j, j < 15 → ¬ (skl.getD j (0, 0)).1 = 0 → c3 (40 + j) = cS j := fun j h1 h2 => by
    rw [a3 _ (by omega) (by omega), bS _ ⟨by omega, by omega, by rw [show 40 + j - 40 = j by omega]; exact h2⟩, show 40 + j - 40 = j by omega]
  refine ⟨K8r, c3, e30, n3.wk (fun j hj => ?_), ⟨⟨?_, ?_, ?_, ?_, ?_, ?_, ?_, fun j hj => ?_, ?_, ?_, ?_, ?_, ?_⟩, ?_⟩, t3, y3, ?_, ?_⟩
  · rcases hj with ⟨hj | hj, h0⟩
    · omega
    · exact Or.inl (Or.inr (Or.inr hj))
  · rw [e30]; exact K8r
  · rw [e30, e31, R3' 0 (by omega)]; exact R70
  · rw [e30, e32, R3' 1 (by omega)]; exact R2
  · rw [e30, b3]; exact R3
  · rw [e31, fq1'.1]; exact K3q
  · rw [e32, fq4'.1]; exact K6q
  · rw [e32, e31, fq4'.2.2.2.2.2.2.2]; exact R60
  · by_cases z : (skl.getD j (0, 0)).1 = 0
    · exact Or.inl z
    · obtain ⟨w1, w2, w3⟩ := R6 j hj z
      have fj := L3 (cS j) (by rw [w2]; exact z) (cSr j hj z)
      rw [e32, e40 j hj z, fq4'.2.2.2.2.2.2.2, fj.1, fj.2.1]
      exact Or.inr ⟨w1, w2, w3⟩
  · rw [b3, (L3' q8 q8r).1, g8 q8 (by rw [show am_K (am_nO k6 q8 3) q8 = 4 from up_eq]; decide)]; exact up_eq
  · rw [b3, e31, (L3' q8 q8r).2.2.2.2.2.2.2]; exact R30
  · rw [b3, e34, (L3' q8 q8r).2.2.2.2.2.2.2]; exact R31
  · rw [e34, (L3' b br).1]; exact Kb
  · rw [e34, (L3' b br).2.1]; exact Nb
  · rw [e31, fq1'.2.2.2.2.2.1]; exact I3
  · show am_U k8 = _; omega
  · show am_V k8 = _; omega
end INH
