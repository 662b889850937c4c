/-! deps: 22c -/
/-! ===== the reader of STREAMS is made ===== -/
/-! 50 yX5_init -/
theorem vc_50_0 (tt : Nat → Nat) (a0 : Nat) (a1 : Nat) (h : am_H) (Q : am_H → Prop) (Qx : String → am_H → Prop) (q :
  (am_w [] ≤ 8 ∧
  am_Ev tt 50 4 [some (.ref a0), some (.ref a1)] [] h (am_pV Q Qx))) :
  am_Ev tt 50 0 [some (.ref a0), some (.ref a1)] [] h (am_pV Q Qx) := am_vc 5 [(4, [true, true]), (12, [true, true]), (20, [true, true]), (28, [true, true]), (36, [true, true]), (44, [true, true]), (52, [true, true]), (60, [true, true]), (68, [true, true]), (75, [true, true]), (82, [true, true]), (89, [true, true]), (96, [true, true])] q
theorem vc_50_4 (tt : Nat → Nat) (a0 : Nat) (a1 : Nat) (h : am_H) (Q : am_H → Prop) (Qx : String → am_H → Prop) (q :
  (¬ (Int32.ofNat 6) < (Int32.ofNat 0) ∧ ((Int32.ofNat 6)).toNatClampNeg ≤ 60000 ∧ am_U h + 1 ≤ am_LC ∧ am_V h + ((Int32.ofNat 6)).toNatClampNeg ≤ am_LS ∧ ∀ q1, am_K h q1 = 0 →
  (am_K (am_nA h q1 21 ((Int32.ofNat 6)).toNatClampNeg) a0 = 6 ∧
  am_Ev tt 50 12 [some (.ref a0), some (.ref a1)] [] (am_sR (am_nA h q1 21 ((Int32.ofNat 6)).toNatClampNeg) 5 2 a0 (some q1)) (am_pV Q Qx)))) :
  am_Ev tt 50 4 [some (.ref a0), some (.ref a1)] [] h (am_pV Q Qx) := am_vc 7 [(4, [true, true]), (12, [true, true]), (20, [true, true]), (28, [true, true]), (36, [true, true]), (44, [true, true]), (52, [true, true]), (60, [true, true]), (68, [true, true]), (75, [true, true]), (82, [true, true]), (89, [true, true]), (96, [true, true])] q
theorem vc_50_12 (tt : Nat → Nat) (a0 : Nat) (a1 : Nat) (h : am_H) (Q : am_H → Prop) (Qx : String → am_H → Prop) (q :
  (¬ (Int32.ofNat 6) < (Int32.ofNat 0) ∧ ((Int32.ofNat 6)).toNatClampNeg ≤ 60000 ∧ am_U h + 1 ≤ am_LC ∧ am_V h + ((Int32.ofNat 6)).toNatClampNeg ≤ am_LS ∧ ∀ q1, am_K h q1 = 0 →
  (am_K (am_nA h q1 21 ((Int32.ofNat 6)).toNatClampNeg) a0 = 6 ∧
  am_Ev tt 50 20 [some (.ref a0), some (.ref a1)] [] (am_sR (am_nA h q1 21 ((Int32.ofNat 6)).toNatClampNeg) 5 3 a0 (some q1)) (am_pV Q Qx)))) :
  am_Ev tt 50 12 [some (.ref a0), some (.ref a1)] [] h (am_pV Q Qx) := am_vc 7 [(4, [true, true]), (12, [true, true]), (20, [true, true]), (28, [true, true]), (36, [true, true]), (44, [true, true]), (52, [true, true]), (60, [true, true]), (68, [true, true]), (75, [true, true]), (82, [true, true]), (89, [true, true]), (96, [true, true])] q
theorem vc_50_20 (tt : Nat → Nat) (a0 : Nat) (a1 : Nat) (h : am_H) (Q : am_H → Prop) (Qx : String → am_H → Prop) (q :
  (¬ (Int32.ofNat 6) < (Int32.ofNat 0) ∧ ((Int32.ofNat 6)).toNatClampNeg ≤ 60000 ∧ am_U h + 1 ≤ am_LC ∧ am_V h + ((Int32.ofNat 6)).toNatClampNeg ≤ am_LS ∧ ∀ q1, am_K h q1 = 0 →
  (am_K (am_nA h q1 21 ((Int32.ofNat 6)).toNatClampNeg) a0 = 6 ∧
  am_Ev tt 50 28 [some (.ref a0), some (.ref a1)] [] (am_sR (am_nA h q1 21 ((Int32.ofNat 6)).toNatClampNeg) 5 4 a0 (some q1)) (am_pV Q Qx)))) :
  am_Ev tt 50 20 [some (.ref a0), some (.ref a1)] [] h (am_pV Q Qx) := am_vc 7 [(4, [true, true]), (12, [true, true]), (20, [true, true]), (28, [true, true]), (36, [true, true]), (44, [true, true]), (52, [true, true]), (60, [true, true]), (68, [true, true]), (75, [true, true]), (82, [true, true]), (89, [true, true]), (96, [true, true])] q
theorem vc_50_28 (tt : Nat → Nat) (a0 : Nat) (a1 : Nat) (h : am_H) (Q : am_H → Prop) (Qx : String → am_H → Prop) (q :
  (¬ (Int32.ofNat 6) < (Int32.ofNat 0) ∧ ((Int32.ofNat 6)).toNatClampNeg ≤ 60000 ∧ am_U h + 1 ≤ am_LC ∧ am_V h + ((Int32.ofNat 6)).toNatClampNeg ≤ am_LS ∧ ∀ q1, am_K h q1 = 0 →
  (am_K (am_nA h q1 21 ((Int32.ofNat 6)).toNatClampNeg) a0 = 6 ∧
  am_Ev tt 50 36 [some (.ref a0), some (.ref a1)] [] (am_sR (am_nA h q1 21 ((Int32.ofNat 6)).toNatClampNeg) 5 5 a0 (some q1)) (am_pV Q Qx)))) :
  am_Ev tt 50 28 [some (.ref a0), some (.ref a1)] [] h (am_pV Q Qx) := am_vc 7 [(4, [true, true]), (12, [true, true]), (20, [true, true]), (28, [true, true]), (36, [true, true]), (44, [true, true]), (52, [true, true]), (60, [true, true]), (68, [true, true]), (75, [true, true]), (82, [true, true]), (89, [true, true]), (96, [true, true])] q
theorem vc_50_36 (tt : Nat → Nat) (a0 : Nat) (a1 : Nat) (h : am_H) (Q : am_H → Prop) (Qx : String → am_H → Prop) (q :
  (¬ (Int32.ofNat 6) < (Int32.ofNat 0) ∧ ((Int32.ofNat 6)).toNatClampNeg ≤ 60000 ∧ am_U h + 1 ≤ am_LC ∧ am_V h + ((Int32.ofNat 6)).toNatClampNeg ≤ am_LS ∧ ∀ q1, am_K h q1 = 0 →
  (am_K (am_nA h q1 21 ((Int32.ofNat 6)).toNatClampNeg) a0 = 6 ∧
  am_Ev tt 50 44 [some (.ref a0), some (.ref a1)] [] (am_sR (am_nA h q1 21 ((Int32.ofNat 6)).toNatClampNeg) 5 6 a0 (some q1)) (am_pV Q Qx)))) :
  am_Ev tt 50 36 [some (.ref a0), some (.ref a1)] [] h (am_pV Q Qx) := am_vc 7 [(4, [true, true]), (12, [true, true]), (20, [true, true]), (28, [true, true]), (36, [true, true]), (44, [true, true]), (52, [true, true]), (60, [true, true]), (68, [true, true]), (75, [true, true]), (82, [true, true]), (89, [true, true]), (96, [true, true])] q
theorem vc_50_44 (tt : Nat → Nat) (a0 : Nat) (a1 : Nat) (h : am_H) (Q : am_H → Prop) (Qx : String → am_H → Prop) (q :
  (¬ (Int32.ofNat 24) < (Int32.ofNat 0) ∧ ((Int32.ofNat 24)).toNatClampNeg ≤ 60000 ∧ am_U h + 1 ≤ am_LC ∧ am_V h + ((Int32.ofNat 24)).toNatClampNeg ≤ am_LS ∧ ∀ q1, am_K h q1 = 0 →
  (am_K (am_nA h q1 21 ((Int32.ofNat 24)).toNatClampNeg) a0 = 6 ∧
  am_Ev tt 50 52 [some (.ref a0), some (.ref a1)] [] (am_sR (am_nA h q1 21 ((Int32.ofNat 24)).toNatClampNeg) 5 8 a0 (some q1)) (am_pV Q Qx)))) :
  am_Ev tt 50 44 [some (.ref a0), some (.ref a1)] [] h (am_pV Q Qx) := am_vc 7 [(4, [true, true]), (12, [true, true]), (20, [true, true]), (28, [true, true]), (36, [true, true]), (44, [true, true]), (52, [true, true]), (60, [true, true]), (68, [true, true]), (75, [true, true]), (82, [true, true]), (89, [true, true]), (96, [true, true])] q
theorem vc_50_52 (tt : Nat → Nat) (a0 : Nat) (a1 : Nat) (h : am_H) (Q : am_H → Prop) (Qx : String → am_H → Prop) (q :
  (¬ (Int32.ofNat 24) < (Int32.ofNat 0) ∧ ((Int32.ofNat 24)).toNatClampNeg ≤ 60000 ∧ am_U h + 1 ≤ am_LC ∧ am_V h + ((Int32.ofNat 24)).toNatClampNeg ≤ am_LS ∧ ∀ q1, am_K h q1 = 0 →
  (am_K (am_nA h q1 21 ((Int32.ofNat 24)).toNatClampNeg) a0 = 6 ∧
  am_Ev tt 50 60 [some (.ref a0), some (.ref a1)] [] (am_sR (am_nA h q1 21 ((Int32.ofNat 24)).toNatClampNeg) 5 9 a0 (some q1)) (am_pV Q Qx)))) :
  am_Ev tt 50 52 [some (.ref a0), some (.ref a1)] [] h (am_pV Q Qx) := am_vc 7 [(4, [true, true]), (12, [true, true]), (20, [true, true]), (28, [true, true]), (36, [true, true]), (44, [true, true]), (52, [true, true]), (60, [true, true]), (68, [true, true]), (75, [true, true]), (82, [true, true]), (89, [true, true]), (96, [true, true])] q
theorem vc_50_60 (tt : Nat → Nat) (a0 : Nat) (a1 : Nat) (h : am_H) (Q : am_H → Prop) (Qx : String → am_H → Prop) (q :
  (¬ (Int32.ofNat 24) < (Int32.ofNat 0) ∧ ((Int32.ofNat 24)).toNatClampNeg ≤ 60000 ∧ am_U h + 1 ≤ am_LC ∧ am_V h + ((Int32.ofNat 24)).toNatClampNeg ≤ am_LS ∧ ∀ q1, am_K h q1 = 0 →
  (am_K (am_nA h q1 21 ((Int32.ofNat 24)).toNatClampNeg) a0 = 6 ∧
  am_Ev tt 50 68 [some (.ref a0), some (.ref a1)] [] (am_sR (am_nA h q1 21 ((Int32.ofNat 24)).toNatClampNeg) 5 10 a0 (some q1)) (am_pV Q Qx)))) :
  am_Ev tt 50 60 [some (.ref a0), some (.ref a1)] [] h (am_pV Q Qx) := am_vc 7 [(4, [true, true]), (12, [true, true]), (20, [true, true]), (28, [true, true]), (36, [true, true]), (44, [true, true]), (52, [true, true]), (60, [true, true]), (68, [true, true]), (75, [true, true]), (82, [true, true]), (89, [true, true]), (96, [true, true])] q
theorem vc_50_68 (tt : Nat → Nat) (a0 : Nat) (a1 : Nat) (h : am_H) (Q : am_H → Prop) (Qx : String → am_H → Prop) (q :
  (¬ (Int32.ofNat 3) < (Int32.ofNat 0) ∧ ((Int32.ofNat 3)).toNatClampNeg ≤ 60000 ∧ am_U h + 1 ≤ am_LC ∧ am_V h + ((Int32.ofNat 3)).toNatClampNeg ≤ am_LS ∧ ∀ q1, am_K h q1 = 0 →
  (am_K (am_nA h q1 21 ((Int32.ofNat 3)).toNatClampNeg) a0 = 6 ∧
  am_Ev tt 50 75 [some (.ref a0), some (.ref a1)] [] (am_sR (am_nA h q1 21 ((Int32.ofNat 3)).toNatClampNeg) 5 11 a0 (some q1)) (am_pV Q Qx)))) :
  am_Ev tt 50 68 [some (.ref a0), some (.ref a1)] [] h (am_pV Q Qx) := am_vc 7 [(4, [true, true]), (12, [true, true]), (20, [true, true]), (28, [true, true]), (36, [true, true]), (44, [true, true]), (52, [true, true]), (60, [true, true]), (68, [true, true]), (75, [true, true]), (82, [true, true]), (89, [true, true]), (96, [true, true])] q
theorem vc_50_75 (tt : Nat → Nat) (a0 : Nat) (a1 : Nat) (h : am_H) (Q : am_H → Prop) (Qx : String → am_H → Prop) (q :
  (¬ (Int32.ofNat 3) < (Int32.ofNat 0) ∧ ((Int32.ofNat 3)).toNatClampNeg ≤ 60000 ∧ am_U h + 1 ≤ am_LC ∧ am_V h + ((Int32.ofNat 3)).toNatClampNeg ≤ am_LS ∧ ∀ q1, am_K h q1 = 0 →
  (am_K (am_nA h q1 21 ((Int32.ofNat 3)).toNatClampNeg) a0 = 6 ∧
  am_Ev tt 50 82 [some (.ref a0), some (.ref a1)] [] (am_sR (am_nA h q1 21 ((Int32.ofNat 3)).toNatClampNeg) 5 12 a0 (some q1)) (am_pV Q Qx)))) :
  am_Ev tt 50 75 [some (.ref a0), some (.ref a1)] [] h (am_pV Q Qx) := am_vc 7 [(4, [true, true]), (12, [true, true]), (20, [true, true]), (28, [true, true]), (36, [true, true]), (44, [true, true]), (52, [true, true]), (60, [true, true]), (68, [true, true]), (75, [true, true]), (82, [true, true]), (89, [true, true]), (96, [true, true])] q
theorem vc_50_82 (tt : Nat → Nat) (a0 : Nat) (a1 : Nat) (h : am_H) (Q : am_H → Prop) (Qx : String → am_H → Prop) (q :
  (¬ (Int32.ofNat 3) < (Int32.ofNat 0) ∧ ((Int32.ofNat 3)).toNatClampNeg ≤ 60000 ∧ am_U h + 1 ≤ am_LC ∧ am_V h + ((Int32.ofNat 3)).toNatClampNeg ≤ am_LS ∧ ∀ q1, am_K h q1 = 0 →
  (am_K (am_nA h q1 21 ((Int32.ofNat 3)).toNatClampNeg) a0 = 6 ∧
  am_Ev tt 50 89 [some (.ref a0), some (.ref a1)] [] (am_sR (am_nA h q1 21 ((Int32.ofNat 3)).toNatClampNeg) 5 13 a0 (some q1)) (am_pV Q Qx)))) :
  am_Ev tt 50 82 [some (.ref a0), some (.ref a1)] [] h (am_pV Q Qx) := am_vc 7 [(4, [true, true]), (12, [true, true]), (20, [true, true]), (28, [true, true]), (36, [true, true]), (44, [true, true]), (52, [true, true]), (60, [true, true]), (68, [true, true]), (75, [true, true]), (82, [true, true]), (89, [true, true]), (96, [true, true])] q
theorem vc_50_89 (tt : Nat → Nat) (a0 : Nat) (a1 : Nat) (h : am_H) (Q : am_H → Prop) (Qx : String → am_H → Prop) (q :
  (¬ (Int32.ofNat 3) < (Int32.ofNat 0) ∧ ((Int32.ofNat 3)).toNatClampNeg ≤ 60000 ∧ am_U h + 1 ≤ am_LC ∧ am_V h + ((Int32.ofNat 3)).toNatClampNeg ≤ am_LS ∧ ∀ q1, am_K h q1 = 0 →
  (am_K (am_nA h q1 24 ((Int32.ofNat 3)).toNatClampNeg) a0 = 6 ∧
  am_Ev tt 50 96 [some (.ref a0), some (.ref a1)] [] (am_sR (am_nA h q1 24 ((Int32.ofNat 3)).toNatClampNeg) 5 14 a0 (some q1)) (am_pV Q Qx)))) :
  am_Ev tt 50 89 [some (.ref a0), some (.ref a1)] [] h (am_pV Q Qx) := am_vc 7 [(4, [true, true]), (12, [true, true]), (20, [true, true]), (28, [true, true]), (36, [true, true]), (44, [true, true]), (52, [true, true]), (60, [true, true]), (68, [true, true]), (75, [true, true]), (82, [true, true]), (89, [true, true]), (96, [true, true])] q
theorem vc_50_96 (tt : Nat → Nat) (a0 : Nat) (a1 : Nat) (h : am_H) (Q : am_H → Prop) (Qx : String → am_H → Prop) (q :
  (am_K h a0 = 6 ∧
  Q (am_sR h 5 0 a0 (some a1)))) :
  am_Ev tt 50 96 [some (.ref a0), some (.ref a1)] [] h (am_pV Q Qx) := am_vc 6 [(4, [true, true]), (12, [true, true]), (20, [true, true]), (28, [true, true]), (36, [true, true]), (44, [true, true]), (52, [true, true]), (60, [true, true]), (68, [true, true]), (75, [true, true]), (82, [true, true]), (89, [true, true]), (96, [true, true])] q

section INS
variable {tt : Nat → Nat} {h : am_H}
theorem ob_50 {Q : am_H → Prop} {e x : Nat} (he : am_K h e = 6) (hU : am_U h + 12 ≤ am_LC) (hV : am_V h + 114 ≤ am_LS) (nx : ∀ k c, OB h k e 5 (fun k => skl.getD k (0, 0)) c [14, 13, 12, 11, 10, 9, 8, 6, 5, 4, 3, 2] 12 114 → am_Ev tt 50 96 [some (.ref e), some (.ref x)] [] k (am_pV Q (fun _ _ => False))) : am_Ev tt 50 0 [some (.ref e), some (.ref x)] [] h (am_pV Q (fun _ _ => False)) := by
  have e0 : am_K h e ≠ 0 := by rw [he]; decide
  have o : OB h h e 5 (fun k => skl.getD k (0, 0)) (fun _ => 0) [] 0 0 := OB.re e0
  refine vc_50_0 tt _ _ _ _ _ ⟨by decide, ?_⟩
  have ou := o.2.2.2.2.2.2.2.1
  have ov := o.2.2.2.2.2.2.2.2
  refine vc_50_4 tt _ _ _ _ _ (al_step (X := fun h1 => am_Ev tt 50 12 [some (.ref e), some (.ref x)] [] h1 (am_pV Q (fun _ _ => False))) (o.kk he) (by decide) (by decide) (by rw [ou]; omega) (by rw [ov]; omega) (fun u h1 l => ?_))
  obtain ⟨c, o⟩ := o.al l (by decide) rfl (by decide)
  clear l ou ov
  have ou := o.2.2.2.2.2.2.2.1
  have ov := o.2.2.2.2.2.2.2.2
  refine vc_50_12 tt _ _ _ _ _ (al_step (X := fun h1 => am_Ev tt 50 20 [some (.ref e), some (.ref x)] [] h1 (am_pV Q (fun _ _ => False))) (o.kk he) (by decide) (by decide) (by rw [ou]; omega) (by rw [ov]; omega) (fun u h1 l => ?_))
  obtain ⟨c, o⟩ := o.al l (by decide) rfl (by decide)
  clear l ou ov
  have ou := o.2.2.2.2.2.2.2.1
  have ov := o.2.2.2.2.2.2.2.2
  refine vc_50_20 tt _ _ _ _ _ (al_step (X := fun h1 => am_Ev tt 50 28 [some (.ref e), some (.ref x)] [] h1 (am_pV Q (fun _ _ => False))) (o.kk he) (by decide) (by decide) (by rw [ou]; omega) (by rw [ov]; omega) (fun u h1 l => ?_))
  obtain ⟨c, o⟩ := o.al l (by decide) rfl (by decide)
  clear l ou ov
  have ou := o.2.2.2.2.2.2.2.1
  have ov := o.2.2.2.2.2.2.2.2
  refine vc_50_28 tt _ _ _ _ _ (al_step (X := fun h1 => am_Ev tt 50 36 [some (.ref e), some (.ref x)] [] h1 (am_pV Q (fun _ _ => False))) (o.kk he) (by decide) (by decide) (by rw [ou]; omega) (by rw [ov]; omega) (fun u h1 l => ?_))
  obtain ⟨c, o⟩ := o.al l (by decide) rfl (by decide)
  clear l ou ov
  have ou := o.2.2.2.2.2.2.2.1
  have ov := o.2.2.2.2.2.2.2.2
  refine vc_50_36 tt _ _ _ _ _ (al_step (X := fun h1 => am_Ev tt 50 44 [some (.ref e), some (.ref x)] [] h1 (am_pV Q (fun _ _ => False))) (o.kk he) (by decide) (by decide) (by rw [ou]; omega) (by rw [ov]; omega) (fun u h1 l => ?_))
  obtain ⟨c, o⟩ := o.al l (by decide) rfl (by decide)
  clear l ou ov
  have ou := o.2.2.2.2.2.2.2.1
  have ov := o.2.2.2.2.2.2.2.2
  refine vc_50_44 tt _ _ _ _ _ (al_step (X := fun h1 => am_Ev tt 50 52 [some (.ref e), some (.ref x)] [] h1 (am_pV Q (fun _ _ => False))) (o.kk he) (by decide) (by decide) (by rw [ou]; omega) (by rw [ov]; omega) (fun u h1 l => ?_))
  obtain ⟨c, o⟩ := o.al l (by decide) rfl (by decide)
  clear l ou ov
  have ou := o.2.2.2.2.2.2.2.1
  have ov := o.2.2.2.2.2.2.2.2
  refine vc_50_52 tt _ _ _ _ _ (al_step (X := fun h1 => am_Ev tt 50 60 [some (.ref e), some (.ref x)] [] h1 (am_pV Q (fun _ _ => False))) (o.kk he) (by decide) (by decide) (by rw [ou]; omega) (by rw [ov]; omega) (fun u h1 l => ?_))
  obtain ⟨c, o⟩ := o.al l (by decide) rfl (by decide)
  clear l ou ov
  have ou := o.2.2.2.2.2.2.2.1
  have ov := o.2.2.2.2.2.2.2.2
  refine vc_50_60 tt _ _ _ _ _ (al_step (X := fun h1 => am_Ev tt 50 68 [some (.ref e), some (.ref x)] [] h1 (am_pV Q (fun _ _ => False))) (o.kk he) (by decide) (by decide) (by rw [ou]; omega) (by rw [ov]; omega) (fun u h1 l => ?_))
  obtain ⟨c, o⟩ := o.al l (by decide) rfl (by decide)
  clear l ou ov
  have ou := o.2.2.2.2.2.2.2.1
  have ov := o.2.2.2.2.2.2.2.2
  refine vc_50_68 tt _ _ _ _ _ (al_step (X := fun h1 => am_Ev tt 50 75 [some (.ref e), some (.ref x)] [] h1 (am_pV Q (fun _ _ => False))) (o.kk he) (by decide) (by decide) (by rw [ou]; omega) (by rw [ov]; omega) (fun u h1 l => ?_))
  obtain ⟨c, o⟩ := o.al l (by decide) rfl (by decide)
  clear l ou ov
  have ou := o.2.2.2.2.2.2.2.1
  have ov := o.2.2.2.2.2.2.2.2
  refine vc_50_75 tt _ _ _ _ _ (al_step (X := fun h1 => am_Ev tt 50 82 [some (.ref e), some (.ref x)] [] h1 (am_pV Q (fun _ _ => False))) (o.kk he) (by decide) (by decide) (by rw [ou]; omega) (by rw [ov]; omega) (fun u h1 l => ?_))
  obtain ⟨c, o⟩ := o.al l (by decide) rfl (by decide)
  clear l ou ov
  have ou := o.2.2.2.2.2.2.2.1
  have ov := o.2.2.2.2.2.2.2.2
  refine vc_50_82 tt _ _ _ _ _ (al_step (X := fun h1 => am_Ev tt 50 89 [some (.ref e), some (.ref x)] [] h1 (am_pV Q (fun _ _ => False))) (o.kk he) (by decide) (by decide) (by rw [ou]; omega) (by rw [ov]; omega) (fun u h1 l => ?_))
  obtain ⟨c, o⟩ := o.al l (by decide) rfl (by decide)
  clear l ou ov
  have ou := o.2.2.2.2.2.2.2.1
  have ov := o.2.2.2.2.2.2.2.2
  refine vc_50_89 tt _ _ _ _ _ (al_step (X := fun h1 => am_Ev tt 50 96 [some (.ref e), some (.ref x)] [] h1 (am_pV Q (fun _ _ => False))) (o.kk he) (by decide) (by decide) (by rw [ou]; omega) (by rw [ov]; omega) (fun u h1 l => ?_))
  obtain ⟨c, o⟩ := o.al l (by decide) rfl (by decide)
  clear l ou ov
  exact nx _ _ o
end INS
