/-! deps: 22a -/
/-! ===== what is made: entries, blocks ===== -/
/-! 42 yX4_init -/
theorem vc_42_0 (tt : Nat → Nat) (a0 : Nat) (h : am_H) (Q : am_H → Prop) (Qx : String → am_H → Prop) (q :
  (am_w [] ≤ 8 ∧
  am_Ev tt 42 4 [some (.ref a0)] [] h (am_pV Q Qx))) :
  am_Ev tt 42 0 [some (.ref a0)] [] h (am_pV Q Qx) := am_vc 5 [(4, [true]), (12, [true])] q
theorem vc_42_4 (tt : Nat → Nat) (a0 : Nat) (h : am_H) (Q : am_H → Prop) (Qx : String → am_H → Prop) (q :
  (¬ (Int32.ofNat 20) < (Int32.ofNat 0) ∧ ((Int32.ofNat 20)).toNatClampNeg ≤ 60000 ∧ am_U h + 1 ≤ am_LC ∧ am_V h + ((Int32.ofNat 20)).toNatClampNeg ≤ am_LS ∧ ∀ q1, am_K h q1 = 0 →
  (am_K (am_nA h q1 25 ((Int32.ofNat 20)).toNatClampNeg) a0 = 5 ∧
  am_Ev tt 42 12 [some (.ref a0)] [] (am_sR (am_nA h q1 25 ((Int32.ofNat 20)).toNatClampNeg) 4 0 a0 (some q1)) (am_pV Q Qx)))) :
  am_Ev tt 42 4 [some (.ref a0)] [] h (am_pV Q Qx) := am_vc 7 [(4, [true]), (12, [true])] q
theorem vc_42_12 (tt : Nat → Nat) (a0 : Nat) (h : am_H) (Q : am_H → Prop) (Qx : String → am_H → Prop) (q :
  (¬ (Int32.ofNat 0) < (Int32.ofNat 0) ∧ ((Int32.ofNat 0)).toNatClampNeg ≤ 60000 ∧ am_U h + 1 ≤ am_LC ∧ am_V h + ((Int32.ofNat 0)).toNatClampNeg ≤ am_LS ∧ ∀ q1, am_K h q1 = 0 →
  (am_K (am_nA h q1 23 ((Int32.ofNat 0)).toNatClampNeg) a0 = 5 ∧
  Q (am_sR (am_nA h q1 23 ((Int32.ofNat 0)).toNatClampNeg) 4 2 a0 (some q1))))) :
  am_Ev tt 42 12 [some (.ref a0)] [] h (am_pV Q Qx) := am_vc 7 [(4, [true]), (12, [true])] q

/-! 11 yX1_init -/
theorem vc_11_0 (tt : Nat → Nat) (a0 : Nat) (h : am_H) (Q : am_H → Prop) (Qx : String → am_H → Prop) (q :
  (am_w [] ≤ 8 ∧
  am_Ev tt 11 4 [some (.ref a0)] [] h (am_pV Q Qx))) :
  am_Ev tt 11 0 [some (.ref a0)] [] h (am_pV Q Qx) := am_vc 5 [(4, [true]), (11, [true]), (18, [true])] q
theorem vc_11_4 (tt : Nat → Nat) (a0 : Nat) (h : am_H) (Q : am_H → Prop) (Qx : String → am_H → Prop) (q :
  (¬ (Int32.ofNat 3) < (Int32.ofNat 0) ∧ ((Int32.ofNat 3)).toNatClampNeg ≤ 60000 ∧ am_U h + 1 ≤ am_LC ∧ am_V h + ((Int32.ofNat 3)).toNatClampNeg ≤ am_LS ∧ ∀ q1, am_K h q1 = 0 →
  (am_K (am_nA h q1 21 ((Int32.ofNat 3)).toNatClampNeg) a0 = 2 ∧
  am_Ev tt 11 11 [some (.ref a0)] [] (am_sR (am_nA h q1 21 ((Int32.ofNat 3)).toNatClampNeg) 1 0 a0 (some q1)) (am_pV Q Qx)))) :
  am_Ev tt 11 4 [some (.ref a0)] [] h (am_pV Q Qx) := am_vc 7 [(4, [true]), (11, [true]), (18, [true])] q
theorem vc_11_11 (tt : Nat → Nat) (a0 : Nat) (h : am_H) (Q : am_H → Prop) (Qx : String → am_H → Prop) (q :
  (¬ (Int32.ofNat 3) < (Int32.ofNat 0) ∧ ((Int32.ofNat 3)).toNatClampNeg ≤ 60000 ∧ am_U h + 1 ≤ am_LC ∧ am_V h + ((Int32.ofNat 3)).toNatClampNeg ≤ am_LS ∧ ∀ q1, am_K h q1 = 0 →
  (am_K (am_nA h q1 21 ((Int32.ofNat 3)).toNatClampNeg) a0 = 2 ∧
  am_Ev tt 11 18 [some (.ref a0)] [] (am_sR (am_nA h q1 21 ((Int32.ofNat 3)).toNatClampNeg) 1 1 a0 (some q1)) (am_pV Q Qx)))) :
  am_Ev tt 11 11 [some (.ref a0)] [] h (am_pV Q Qx) := am_vc 7 [(4, [true]), (11, [true]), (18, [true])] q
theorem vc_11_18 (tt : Nat → Nat) (a0 : Nat) (h : am_H) (Q : am_H → Prop) (Qx : String → am_H → Prop) (q :
  (am_K h a0 = 2 ∧ ((Int32.ofNat 1) = (Int32.ofNat 0) ∨ (Int32.ofNat 1) = (Int32.ofNat 1)) ∧
  Q (am_sI h 1 3 a0 (Int32.ofNat 1)))) :
  am_Ev tt 11 18 [some (.ref a0)] [] h (am_pV Q Qx) := am_vc 6 [(4, [true]), (11, [true]), (18, [true])] q

section INI
variable {tt : Nat → Nat} {h h' h'' k k' : am_H} {c : Nat → Nat} {D : Nat → Prop} {x q a : Nat}
/-- what is stays -/
def gK (h h' : am_H) : Prop := ∀ a, am_K h a ≠ 0 → am_K h' a = am_K h a
def gs (X : Nat → Prop) (h h' : am_H) : Prop := ∀ a, am_K h a ≠ 0 → ¬ X a → fr1 h h' a
theorem gK.re : gK h h := fun _ _ => rfl
theorem gK.tr (p : gK h h') (r : gK h' h'') : gK h h'' := fun a z => (r a (by rw [p a z]; exact z)).trans (p a z)
theorem gs.re {X : Nat → Prop} : gs X h h := fun _ _ _ => fr1.rf
theorem gs.tr {X X' X'' : Nat → Prop} (p : gs X h h') (pk : gK h h') (r : gs X' h' h'') (h1 : ∀ a, am_K h a ≠ 0 → X a → X'' a) (h2 : ∀ a, am_K h a ≠ 0 → X' a → X'' a) : gs X'' h h'' := fun a z w => (p a z (fun u => w (h1 a z u))).tr (r a (by rw [pk a z]; exact z) (fun u => w (h2 a z u)))
theorem up_ne {α : Type} {f : Nat → α} {b : Nat} {v : α} (e : a ≠ b) : va_up f b v a = f a := by rw [va_up, if_neg e]
theorem up_eq {α : Type} {f : Nat → α} {b : Nat} {v : α} : va_up f b v b = v := by rw [va_up, if_pos rfl]
theorem fr1.nO {ci : Nat} (e : a ≠ q) : fr1 h (am_nO h q ci) a := ⟨up_ne e, rfl, rfl, rfl, rfl, fun c k => if_neg e, fun c k => if_neg e, fun c k => if_neg e⟩
theorem gK.nO {ci : Nat} (hq : am_K h q = 0) : gK h (am_nO h q ci) := fun a z => up_ne (fun e => z (by rw [e]; exact hq))
theorem gK.nA {k n : Nat} (hq : am_K h q = 0) : gK h (am_nA h q k n) := fun a z => up_ne (fun e => z (by rw [e]; exact hq))
theorem gs.nO {X : Nat → Prop} {ci : Nat} (hq : am_K h q = 0) : gs X h (am_nO h q ci) := fun a z _ => fr1.nO (fun e => z (by rw [e]; exact hq))
theorem gs.nA {X : Nat → Prop} {k n : Nat} (hq : am_K h q = 0) : gs X h (am_nA h q k n) := fun a z _ => fr1.nA (fun e => z (by rw [e]; exact hq))
theorem gs.sR {X : Nat → Prop} {ci k : Nat} {v : Option Nat} (hx : X x) : gs X h (am_sR h ci k x v) := fun a _ w => fr1.sR (fun e => w (by rw [e]; exact hx))
theorem gs.sI {X : Nat → Prop} {ci k : Nat} {v : Int32} (hx : X x) : gs X h (am_sI h ci k x v) := fun a _ w => fr1.sI (fun e => w (by rw [e]; exact hx))
theorem gs.sC {X : Nat → Prop} {i : Nat} {v : Option Nat} (hx : X x) : gs X h (am_sC h x i v) := fun a _ w => fr1.sC (fun e => w (by rw [e]; exact hx))
/-- names for what is new -/
def NW (h h' : am_H) (c : Nat → Nat) (D : Nat → Prop) : Prop := (∀ k l, D k → D l → c k = c l → k = l) ∧ ∀ k, D k → am_K h (c k) = 0 ∧ am_K h' (c k) ≠ 0
theorem NW.ext (n : NW h k c D) (g : gK h k) (g2 : gK k k') (hq : am_K k q = 0) (hq' : am_K k' q ≠ 0) {j0 : Nat} (hk : ¬ D j0) : NW h k' (va_up c j0 q) (fun j => j = j0 ∨ D j) := by
  have z : ∀ j, D j → c j ≠ q := fun j hj e => (n.2 j hj).2 (by rw [e]; exact hq)
  refine ⟨fun j l hj hl e => ?_, fun j hj => ?_⟩
  · by_cases c1 : j = j0
    · by_cases c2 : l = j0
      · rw [c1, c2]
      · rw [c1, up_eq, up_ne c2] at e
        exact absurd e.symm (z l (hl.resolve_left c2))
    · by_cases c2 : l = j0
      · rw [c2, up_eq, up_ne c1] at e
        exact absurd e (z j (hj.resolve_left c1))
      · rw [up_ne c1, up_ne c2] at e
        exact n.1 j l (hj.resolve_left c1) (hl.resolve_left c2) e
  · by_cases c1 : j = j0
    · rw [c1, up_eq]
      refine ⟨Classical.not_not.1 (fun w => ?_), hq'⟩
      exact absurd hq (by rw [g q w]; exact w)
    · rw [up_ne c1]
      obtain ⟨w1, w2⟩ := n.2 j (hj.resolve_left c1)
      exact ⟨w1, by rw [g2 _ w2]; exact w2⟩
theorem NW.wk {D' : Nat → Prop} (n : NW h h' c D) (hd : ∀ k, D' k → D k) : NW h h' c D' := ⟨fun k l a b e => n.1 k l (hd k a) (hd l b) e, fun k a => n.2 k (hd k a)⟩
theorem NW.cg {c' : Nat → Nat} (n : NW h h' c D) (hc : ∀ k, D k → c' k = c k) : NW h h' c' D := ⟨fun k l a b e => n.1 k l a b (by rw [← hc k a, ← hc l b]; exact e), fun k a => by rw [hc k a]; exact n.2 k a⟩
theorem NW.up (n : NW h h' c D) (g : gK h' h'') : NW h h'' c D := ⟨n.1, fun k a => ⟨(n.2 k a).1, by rw [g _ (n.2 k a).2]; exact (n.2 k a).2⟩⟩
theorem ce_s.fr {e u b : Nat} (s : ce_s h e u b) (f1 : fr1 h h' e) (f2 : fr1 h h' u) (f3 : fr1 h h' b) : ce_s h' e u b := by
  obtain ⟨s1, s2, s3, s4, s5, s6, s7, s8⟩ := s
  exact ⟨by rw [f1.1]; exact s1, by rw [f1.2.2.2.2.2.2.2]; exact s2, by rw [f2.1]; exact s3, by rw [f2.2.1]; exact s4, by rw [f1.2.2.2.2.2.2.2]; exact s5, by rw [f3.1]; exact s6, by rw [f3.2.1]; exact s7, by rw [f3.2.1]; exact s8⟩
theorem cb_s.fr {e u b : Nat} (s : cb_s h e u b) (f1 : fr1 h h' e) (f2 : fr1 h h' u) (f3 : fr1 h h' b) : cb_s h' e u b := by
  obtain ⟨s1, s2, s3, s4, s5, s6, s7⟩ := s
  exact ⟨by rw [f1.1]; exact s1, by rw [f1.2.2.2.2.2.2.2]; exact s2, by rw [f2.1]; exact s3, by rw [f2.2.1]; exact s4, by rw [f1.2.2.2.2.2.2.2]; exact s5, by rw [f3.1]; exact s6, by rw [f3.2.1]; exact s7⟩
theorem gs.tt' {X : Nat → Prop} (p : gs X h h') (pk : gK h h') (r : gs X h' h'') : gs X h h'' := p.tr pk r (fun _ _ z => z) (fun _ _ z => z)
/-- a row is made and put into a field -/
def AL (h h1 : am_H) (e u kd n ci f : Nat) : Prop := am_K h u = 0 ∧ am_K h1 u = kd ∧ am_N h1 u = n ∧ (∀ j, am_A h1 u j = 0) ∧ am_R h1 ci f e = some u ∧ (∀ c j, ¬ (c = ci ∧ j = f) → am_R h1 c j e = am_R h c j e) ∧ (∀ c j, am_I h1 c j e = am_I h c j e ∧ am_J h1 c j e = am_J h c j e) ∧ gs (fun a => a = e) h h1 ∧ gK h h1 ∧ am_U h1 = am_U h + 1 ∧ am_V h1 = am_V h + n
theorem AL.mk {e u kd n ci f : Nat} (hu : am_K h u = 0) : AL h (am_sR (am_nA h u kd n) ci f e (some u)) e u kd n ci f := by
  have g1 : gK h (am_nA h u kd n) := gK.nA hu
  have p1 : gs (fun a => a = e) h (am_nA h u kd n) := gs.nA hu
  have p2 : gs (fun a => a = e) (am_nA h u kd n) (am_sR (am_nA h u kd n) ci f e (some u)) := gs.sR rfl
  refine ⟨hu, up_eq, up_eq, fun j => ?_, ?_, fun c j z => ?_, fun c j => ⟨rfl, rfl⟩, p1.tt' g1 p2, g1, rfl, rfl⟩
  · show va_up (am_A h) u (fun _ => 0) u j = 0
    rw [up_eq]
  · simp only [am_hs, true_and, and_true, and_self, true_or, or_true, false_or, or_false, false_and, and_false, not_true_eq_false, not_false_eq_true, Classical.not_not, true_implies, false_implies, implies_true, exists_eq_left, exists_eq_left', Option.some.injEq, reduceIte, Nat.reduceEqDiff, Nat.reduceLT, Nat.reduceLeDiff, Nat.reduceAdd, Nat.reduceSub, Nat.reduceMul, eq_self, ne_eq, and_imp, forall_const, reduceCtorEq, am_w, List.map_cons, List.map_nil, List.sum_cons, List.sum_nil, Value.category, Nat.zero_le, Nat.le_refl]
  · show am_u3 (am_R h) ci f e (some u) c j e = am_R h c j e
    unfold am_u3
    rw [if_neg (fun w => z ⟨w.1, w.2.1⟩)]
theorem al_step {X : am_H → Prop} {e K0 kd n ci f : Nat} (hK : am_K h e = K0) (h0 : K0 ≠ 0) (hn : n ≤ 60000) (hU : am_U h + 1 ≤ am_LC) (hV : am_V h + n ≤ am_LS) (nx : ∀ u h1, AL h h1 e u kd n ci f → X h1) :
    ¬ Int32.ofNat n < Int32.ofNat 0 ∧ (Int32.ofNat n).toNatClampNeg ≤ 60000 ∧ am_U h + 1 ≤ am_LC ∧ am_V h + (Int32.ofNat n).toNatClampNeg ≤ am_LS ∧ ∀ q, am_K h q = 0 → (am_K (am_nA h q kd (Int32.ofNat n).toNatClampNeg) e = K0 ∧ X (am_sR (am_nA h q kd (Int32.ofNat n).toNatClampNeg) ci f e (some q))) := by
  have en : (Int32.ofNat n).toNatClampNeg = n := Int32.toNatClampNeg_ofNat_of_lt (by omega)
  rw [en]
  refine ⟨?_, hn, hU, hV, fun q hq => ⟨?_, nx q _ (AL.mk hq)⟩⟩
  · rw [qi_lt (by omega) (by omega)]; omega
  · have g1 : gK h (am_nA h q kd n) := gK.nA hq
    rw [g1 e (by rw [hK]; exact h0)]; exact hK
/-- an object, some of whose rows are made -/
def OB (h0 h : am_H) (e ci : Nat) (kl : Nat → Nat × Nat) (c : Nat → Nat) (L : List Nat) (U V : Nat) : Prop :=
  NW h0 h c (fun j => j ∈ L) ∧ gs (fun a => a = e) h0 h ∧ gK h0 h ∧ am_K h0 e ≠ 0 ∧ (∀ j, j ∈ L → am_R h ci j e = some (c j) ∧ am_K h (c j) = (kl j).1 ∧ am_N h (c j) = (kl j).2 ∧ ∀ i, am_A h (c j) i = 0) ∧ (∀ cc j, am_I h cc j e = am_I h0 cc j e ∧ am_J h cc j e = am_J h0 cc j e) ∧ (∀ cc j, ¬ (cc = ci ∧ j ∈ L) → am_R h cc j e = am_R h0 cc j e) ∧ am_U h = am_U h0 + U ∧ am_V h = am_V h0 + V
theorem OB.re {e ci : Nat} {kl : Nat → Nat × Nat} (he : am_K h e ≠ 0) : OB h h e ci kl (fun _ => 0) [] 0 0 :=
  ⟨⟨fun _ _ z => absurd z List.not_mem_nil, fun _ z => absurd z List.not_mem_nil⟩, gs.re, gK.re, he, fun _ z => absurd z List.not_mem_nil, fun _ _ => ⟨rfl, rfl⟩, fun _ _ _ => rfl, rfl, rfl⟩
theorem OB.al {h0 h1 : am_H} {e ci kd n f u U V : Nat} {kl : Nat → Nat × Nat} {L : List Nat} (o : OB h0 h e ci kl c L U V) (l : AL h h1 e u kd n ci f) (hf : ¬ f ∈ L) (hk : kl f = (kd, n)) (h0k : kd ≠ 0) : ∃ c', OB h0 h1 e ci kl c' (f :: L) (U + 1) (V + n) := by
  obtain ⟨o1, o2, o3, o4, o5, o6, o7, o8, o9⟩ := o
  obtain ⟨l1, l2, l3, l4, l5, l6, l7, l8, l9, l10, l11⟩ := l
  refine ⟨va_up c f u, ?_, o2.tt' o3 l8, o3.tr l9, o4, fun j hj => ?_, fun cc j => ⟨((l7 cc j).1).trans (o6 cc j).1, ((l7 cc j).2).trans (o6 cc j).2⟩, fun cc j z => ?_, by rw [l10, o8]; omega, by rw [l11, o9]; omega⟩
  · exact (o1.ext o3 l9 l1 (by rw [l2]; exact h0k) hf).wk (fun j hj => by rcases List.mem_cons.1 hj with z | z; exact Or.inl z; exact Or.inr z)
  · by_cases cj : j = f
    · subst cj
      rw [up_eq, hk]
      exact ⟨l5, l2, l3, l4⟩
    · have hj' : j ∈ L := (List.mem_cons.1 hj).resolve_left cj
      obtain ⟨w1, w2, w3, w4⟩ := o5 j hj'
      obtain ⟨n1, n2⟩ := o1.2 j hj'
      have fr := l8 (c j) n2 (fun z => o4 (by rw [← z]; exact n1))
      rw [up_ne cj]
      refine ⟨by rw [l6 _ _ (fun z => cj z.2)]; exact w1, by rw [fr.1]; exact w2, by rw [fr.2.1]; exact w3, fun i => by rw [fr.2.2.1]; exact w4 i⟩
  · rw [l6 _ _ (fun w => z ⟨w.1, by rw [w.2]; exact List.mem_cons_self⟩)]
    exact o7 cc j (fun w => z ⟨w.1, List.mem_cons_of_mem _ w.2⟩)
theorem OB.kk {h0 : am_H} {e ci U V K0 : Nat} {kl : Nat → Nat × Nat} {L : List Nat} (o : OB h0 h e ci kl c L U V) (he : am_K h0 e = K0) : am_K h e = K0 := by rw [o.2.2.1 e o.2.2.2.1]; exact he
/-- an entry is made -/
theorem ct_iE {e : Nat} (he : am_K h e = 5) (hU : am_U h + 2 ≤ am_LC) (hV : am_V h + 20 ≤ am_LS) : am_Ct tt 42 [.ref e] h (am_pV (fun h' => ∃ u b, am_K h u = 0 ∧ am_K h b = 0 ∧ u ≠ b ∧ ce_s h' e u b ∧ am_N h' b = 0 ∧ gs (fun a => a = e) h h' ∧ gK h h' ∧ am_U h' = am_U h + 2 ∧ am_V h' = am_V h + 20) (fun _ _ => False)) := by
  have e0 : am_K h e ≠ 0 := by rw [he]; decide
  have o0 : OB h h e 4 (fun j => if j = 0 then (25, 20) else (23, 0)) (fun _ => 0) [] 0 0 := OB.re e0
  refine vc_42_0 tt _ h _ _ ⟨by decide, vc_42_4 tt _ _ _ _ (al_step (X := fun h1 => am_Ev tt 42 12 [some (.ref e)] [] h1 (am_pV _ (fun _ _ => False))) he (by decide) (by decide) (by omega) (by omega) (fun u h1 l => ?_))⟩
  obtain ⟨c1, o1⟩ := o0.al l (by decide) rfl (by decide)
  have o1u := o1.2.2.2.2.2.2.2.1
  have o1v := o1.2.2.2.2.2.2.2.2
  refine vc_42_12 tt _ _ _ _ (al_step (X := fun h1 => (∃ u b, am_K h u = 0 ∧ am_K h b = 0 ∧ u ≠ b ∧ ce_s h1 e u b ∧ am_N h1 b = 0 ∧ gs (fun a => a = e) h h1 ∧ gK h h1 ∧ am_U h1 = am_U h + 2 ∧ am_V h1 = am_V h + 20)) (o1.kk he) (by decide) (by decide) (by omega) (by omega) (fun b h2 l2 => ?_))
  obtain ⟨c2, o2⟩ := o1.al l2 (by decide) rfl (by decide)
  obtain ⟨n1, n2, n3, n4, n5, n6, n7, n8, n9⟩ := o2
  obtain ⟨a1, a2, a3, a4⟩ := n5 0 (by decide)
  obtain ⟨b1, b2, b3, b4⟩ := n5 2 (by decide)
  have N0 : am_N h2 (c2 2) = 0 := b3
  exact ⟨c2 0, c2 2, (n1.2 0 (by decide)).1, (n1.2 2 (by decide)).1, fun z => absurd (n1.1 0 2 (by decide) (by decide) z) (by decide), ⟨by rw [n3 e e0]; exact he, a1, a2, a3, b1, b2, by rw [N0]; decide, Or.inl N0⟩, N0, n2, n3, by rw [n8], by rw [n9]⟩
/-- a block is made -/
theorem ct_iB {e : Nat} (he : am_K h e = 2) (hU : am_U h + 2 ≤ am_LC) (hV : am_V h + 6 ≤ am_LS) : am_Ct tt 11 [.ref e] h (am_pV (fun h' => ∃ u b, am_K h u = 0 ∧ am_K h b = 0 ∧ u ≠ b ∧ cb_s h' e u b ∧ am_I h' 1 3 e = Int32.ofNat 1 ∧ am_I h' 1 2 e = am_I h 1 2 e ∧ gs (fun a => a = e) h h' ∧ gK h h' ∧ am_U h' = am_U h + 2 ∧ am_V h' = am_V h + 6) (fun _ _ => False)) := by
  have e0 : am_K h e ≠ 0 := by rw [he]; decide
  have o0 : OB h h e 1 (fun _ => (21, 3)) (fun _ => 0) [] 0 0 := OB.re e0
  refine vc_11_0 tt _ h _ _ ⟨by decide, vc_11_4 tt _ _ _ _ (al_step (X := fun h1 => am_Ev tt 11 11 [some (.ref e)] [] h1 (am_pV _ (fun _ _ => False))) he (by decide) (by decide) (by omega) (by omega) (fun u h1 l => ?_))⟩
  obtain ⟨c1, o1⟩ := o0.al l (by decide) rfl (by decide)
  have o1u := o1.2.2.2.2.2.2.2.1
  have o1v := o1.2.2.2.2.2.2.2.2
  refine vc_11_11 tt _ _ _ _ (al_step (X := fun h1 => am_Ev tt 11 18 [some (.ref e)] [] h1 (am_pV _ (fun _ _ => False))) (o1.kk he) (by decide) (by decide) (by omega) (by omega) (fun b h2 l2 => ?_))
  obtain ⟨c2, o2⟩ := o1.al l2 (by decide) rfl (by decide)
  have ke := o2.kk he
  obtain ⟨n1, n2, n3, n4, n5, n6, n7, n8, n9⟩ := o2
  obtain ⟨a1, a2, a3, a4⟩ := n5 0 (by decide)
  obtain ⟨b1, b2, b3, b4⟩ := n5 1 (by decide)
  refine vc_11_18 tt _ _ _ _ ⟨ke, Or.inr rfl, ?_⟩
  have q1 : gs (fun a => a = e) h2 (am_sI h2 1 3 e (Int32.ofNat 1)) := gs.sI rfl
  exact ⟨c2 0, c2 1, (n1.2 0 (by decide)).1, (n1.2 1 (by decide)).1, fun z => absurd (n1.1 0 1 (by decide) (by decide) z) (by decide), ⟨ke, a1, a2, a3, b1, b2, b3⟩, by simp only [am_hs, true_and, and_true, and_self, true_or, or_true, false_or, or_false, false_and, and_false, not_true_eq_false, not_false_eq_true, Classical.not_not, true_implies, false_implies, implies_true, exists_eq_left, exists_eq_left', Option.some.injEq, reduceIte, Nat.reduceEqDiff, Nat.reduceLT, Nat.reduceLeDiff, Nat.reduceAdd, Nat.reduceSub, Nat.reduceMul, eq_self, ne_eq, and_imp, forall_const, reduceCtorEq, am_w, List.map_cons, List.map_nil, List.sum_cons, List.sum_nil, Value.category, Nat.zero_le, Nat.le_refl], by simp only [am_hs, true_and, and_true, and_self, true_or, or_true, false_or, or_false, false_and, and_false, not_true_eq_false, not_false_eq_true, Classical.not_not, true_implies, false_implies, implies_true, exists_eq_left, exists_eq_left', Option.some.injEq, reduceIte, Nat.reduceEqDiff, Nat.reduceLT, Nat.reduceLeDiff, Nat.reduceAdd, Nat.reduceSub, Nat.reduceMul, eq_self, ne_eq, and_imp, forall_const, reduceCtorEq, am_w, List.map_cons, List.map_nil, List.sum_cons, List.sum_nil, Value.category, Nat.zero_le, Nat.le_refl]; exact (n6 1 2).1, n2.tt' n3 q1, n3, n8, n9⟩
end INI
