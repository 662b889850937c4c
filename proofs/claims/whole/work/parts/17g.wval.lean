/-! deps: 17f -/
/-! ===== the class's writer: values, entries ===== -/
/-! 97 yX8_addEntries -/
theorem vc_97_0 (tt : Nat → Nat) (a0 : Nat) (h : am_H) (Q : am_H → Prop) (Qx : String → am_H → Prop) (q :
  (am_K h a0 = 9 ∧ ∃ q1, am_R h 8 3 a0 = some q1 ∧
  (am_K h a0 = 9 ∧
  (am_K h q1 = 7 ∧ ∃ (Q3 : am_H → Prop) (X3 : String → am_H → Prop), am_Ct tt 71 [.ref q1, .long ((am_I h 8 4 a0)).toInt64] h (am_pV Q3 X3) ∧ (∀ h2, Q3 h2 →
   (am_K h2 a0 = 9 ∧
   (am_K h2 a0 = 9 ∧
   (((am_I h2 8 4 a0) ≤ (am_I h2 8 5 a0) →
    (am_K h2 a0 = 9 ∧ ∃ (Q5 : am_H → Prop) (X5 : String → am_H → Prop), am_Ct tt 101 [.ref a0] h2 (am_pV Q5 X5) ∧ (∀ h4, Q5 h4 →
     am_Ev tt 97 33 [some (.ref a0), some (.int (Int32.ofNat 0))] [] h4 (am_pV Q Qx)) ∧ (∀ E6 h4, X5 E6 h4 → Qx E6 h4))) ∧
   (¬ ((am_I h2 8 4 a0) ≤ (am_I h2 8 5 a0)) →
    (am_K h2 a0 = 9 ∧ ∃ (Q8 : am_H → Prop) (X8 : String → am_H → Prop), am_Ct tt 98 [.ref a0] h2 (am_pV Q8 X8) ∧ (∀ h7, Q8 h7 →
     (am_K h7 a0 = 9 ∧ ∃ (Q10 : am_H → Prop) (X10 : String → am_H → Prop), am_Ct tt 101 [.ref a0] h7 (am_pV Q10 X10) ∧ (∀ h9, Q10 h9 →
      am_Ev tt 97 33 [some (.ref a0), some (.int (Int32.ofNat 0))] [] h9 (am_pV Q Qx)) ∧ (∀ E11 h9, X10 E11 h9 → Qx E11 h9))) ∧ (∀ E12 h7, X8 E12 h7 → Qx E12 h7))))))) ∧ (∀ E13 h2, X3 E13 h2 → Qx E13 h2))))) :
  am_Ev tt 97 0 [some (.ref a0), none] [] h (am_pV Q Qx) := am_vc 20 [(33, [true, true]), (72, [true, true])] q
theorem vc_97_33 (tt : Nat → Nat) (a0 : Nat) (a1 : Int32) (h : am_H) (Q : am_H → Prop) (Qx : String → am_H → Prop) (q :
  (am_K h a0 = 9 ∧
  (((am_I h 8 4 a0) ≤ a1 →
   (am_K h a0 = 9 ∧ ∃ (Q2 : am_H → Prop) (X2 : String → am_H → Prop), am_Ct tt 102 [.ref a0, .int (Int32.ofNat 20), .int (Int32.ofNat 8)] h (am_pV Q2 X2) ∧ (∀ h1, Q2 h1 →
    am_Ev tt 97 72 [some (.ref a0), some (.int (Int32.ofNat 0))] [] h1 (am_pV Q Qx)) ∧ (∀ E3 h1, X2 E3 h1 → Qx E3 h1))) ∧
  (¬ ((am_I h 8 4 a0) ≤ a1) →
   (am_K h a0 = 9 ∧ ∃ q4, am_R h 8 1 a0 = some q4 ∧
   (am_K h a0 = 9 ∧ ∃ q5, am_R h 8 0 a0 = some q5 ∧
   ((am_K h q5 = 26 ∨ am_K h q5 = 27) ∧ vp_in a1 (am_N h q5) ∧ ∃ q6, am_C h q5 (a1).toNatClampNeg = some q6 ∧
   (am_K h q6 = 5 ∧
   (vp_in a1 (am_N h q4) ∧ ∃ w7, ((am_K h q4 = 23 ∧ w7 = ((am_I h 4 7 q6)).toInt8.toInt32) ∨ (am_K h q4 = 24 ∧ w7 = ((am_I h 4 7 q6) &&& 1))) ∧
   am_Ev tt 97 33 [some (.ref a0), some (.int (a1 + (Int32.ofNat 1)))] [] (am_sA h q4 (a1).toNatClampNeg w7) (am_pV Q Qx)))))))))) :
  am_Ev tt 97 33 [some (.ref a0), some (.int a1)] [] h (am_pV Q Qx) := am_vc 18 [(33, [true, true]), (72, [true, true])] q
theorem vc_97_72 (tt : Nat → Nat) (a0 : Nat) (a1 : Int32) (h : am_H) (Q : am_H → Prop) (Qx : String → am_H → Prop) (q :
  (am_K h a0 = 9 ∧
  (((am_I h 8 4 a0) ≤ a1 →
   (am_K h a0 = 9 ∧ ∃ (Q2 : am_H → Prop) (X2 : String → am_H → Prop), am_Ct tt 102 [.ref a0, .int (Int32.ofNat 21), .int (Int32.ofNat 4)] h (am_pV Q2 X2) ∧ (∀ h1, Q2 h1 →
    (am_K h1 a0 = 9 ∧ ∃ q3, am_R h1 8 3 a0 = some q3 ∧
    (am_K h1 q3 = 7 ∧ ∃ (Q5 : am_H → Prop) (X5 : String → am_H → Prop), am_Ct tt 68 [.ref q3, .int (Int32.ofNat 0)] h1 (am_pV Q5 X5) ∧ (∀ h4, Q5 h4 →
     Q h4) ∧ (∀ E6 h4, X5 E6 h4 → Qx E6 h4)))) ∧ (∀ E7 h1, X2 E7 h1 → Qx E7 h1))) ∧
  (¬ ((am_I h 8 4 a0) ≤ a1) →
   (am_K h a0 = 9 ∧ ∃ q8, am_R h 8 1 a0 = some q8 ∧
   (am_K h a0 = 9 ∧ ∃ q9, am_R h 8 0 a0 = some q9 ∧
   ((am_K h q9 = 26 ∨ am_K h q9 = 27) ∧ vp_in a1 (am_N h q9) ∧ ∃ q10, am_C h q9 (a1).toNatClampNeg = some q10 ∧
   (am_K h q10 = 5 ∧
   (vp_in a1 (am_N h q8) ∧ ∃ w11, ((am_K h q8 = 23 ∧ w11 = ((am_I h 4 9 q10)).toInt8.toInt32) ∨ (am_K h q8 = 24 ∧ w11 = ((am_I h 4 9 q10) &&& 1))) ∧
   am_Ev tt 97 72 [some (.ref a0), some (.int (a1 + (Int32.ofNat 1)))] [] (am_sA h q8 (a1).toNatClampNeg w11) (am_pV Q Qx)))))))))) :
  am_Ev tt 97 72 [some (.ref a0), some (.int a1)] [] h (am_pV Q Qx) := am_vc 18 [(33, [true, true]), (72, [true, true])] q

section WH
variable {tt : Nat → Nat} {h h' : am_H} {cd : Nat → Nat} {bb : Nat → Nat → Nat} {wa wt : Nat} {a : sA}
theorem vT_w {a : sA} : wVal a 20 8 (vT a) = wVal a 20 8 (vT a) := rfl
theorem ct_addValues (x : WX tt h cd bb wa wt a) {t m : Nat} {v : Nat → Option Int64} (ht : (t = 20 ∧ m = 8 ∧ v = vT a) ∨ (t = 21 ∧ m = 4 ∧ v = vA a)) (hf : ∀ j, j < a_n a → am_A h (cd 22) j = b01 (v j).isSome) : am_Ct tt 102 [.ref (cd 20), .int (Int32.ofNat t), .int (Int32.ofNat m)] h (am_pV (fun h' => h' = tw cd wt h (wVal a t m v)) no_x) := by
  have wf := x.1.2.2.1
  have n24 := wf.1
  have ne := x.1.n22
  have hm : m ≤ 8 := by omega
  have hc := cn_le (fun j => (v j).isSome) (a_n a)
  have key : ∀ (d i : Nat) (k : am_H) (l : List Int32), d + i = a_n a → WX tt k cd bb wa wt a → am_A k (cd 22) = am_A h (cd 22) → k = tw cd wt h (l ++ (R0 i).flatMap (fun j => match v j with
    | none => []
    | some x => LB m x)) →
      am_Ev tt 102 113 [some (.ref (cd 20)), some (.int (Int32.ofNat t)), some (.int (Int32.ofNat m)), none, none, some (.int (Int32.ofNat i))] [] k (am_pV (fun h' => h' = tw cd wt h (l ++ (R0 (a_n a)).flatMap (fun j => match v j with
    | none => []
    | some x => LB m x))) no_x) := by
    intro d
    induction d with
    | zero =>
      intro i k l e y ea ek
      have : i = a_n a := by omega
      subst this
      exact vc_102_113 tt _ _ _ _ _ _ _ ⟨y.1.f.1, fun _ => ek, fun z => absurd (by rw [y.2.1]; exact Int32.le_refl _) z⟩
    | succ d ih =>
      intro i k l e y ea ek
      have F := y.1.f
      have y2 := y.2.1
      have g := y.en (j := i) (by omega)
      have V := y.ev (j := i) (by omega)
      have i24 : i < 24 := by omega
      have ef : am_A k (cd 22) i = b01 (v i).isSome := by rw [ea]; exact hf i (by omega)
      refine vc_102_113 tt _ _ _ _ _ _ _ ?_
      simp (disch := omega) only [F, y2, g, i24, ef, b01_z, am_hs, qi_lt, qi_le, qi_eq, qi_nn, qi_in, qi_add, qi_l, ql_i, ql_lt, ql_le, ql_eq, ql_add, qc_lt, qc_eq, qc_ge, qc_gt, qc_le, true_and, and_true, and_self, true_or, or_true, false_or, or_false, false_and, and_false, not_true_eq_false, not_false_eq_true, Classical.not_not, true_implies, false_implies, implies_true, exists_eq_left, exists_eq_left', Option.some.injEq, reduceIte, Nat.reduceEqDiff, Nat.reduceLT, Nat.reduceLeDiff, Nat.reduceAdd, Nat.reduceSub, Nat.reduceMul, eq_self, ne_eq, and_imp, forall_const, reduceCtorEq, am_w, List.map_cons, List.map_nil, List.sum_cons, List.sum_nil, Value.category, Nat.zero_le, Nat.le_refl]
      refine ⟨fun z => by omega, fun _ => ⟨fun z => ih (i + 1) k l (by omega) y ea ?_, fun z => ?_⟩⟩
      · rw [ek, fm_s]
        cases ev : v i with
        | none => simp only []; rw [List.append_nil]
        | some q => rw [ev] at z; cases z
      · cases ev : v i with
        | none => rw [ev] at z; exact absurd rfl z
        | some q =>
          have nx : ∀ h2, h2 = tw cd wt k (LB m q) → WX tt h2 cd bb wa wt a → am_Ev tt 102 113 [some (.ref (cd 20)), some (.int (Int32.ofNat t)), some (.int (Int32.ofNat m)), none, none, some (.int (Int32.ofNat (i + 1)))] [] h2 (am_pV (fun h' => h' = tw cd wt h (l ++ (R0 (a_n a)).flatMap (fun j => match v j with
    | none => []
    | some x => LB m x))) no_x) := by
            intro h2 e2 x2
            refine ih (i + 1) h2 l (by omega) x2 (by rw [e2, tp_l_A ne, ea]) ?_
            rw [e2, ek, tw_a, fm_s, ev, List.append_assoc]
          rcases ht with ⟨rfl, rfl, rfl⟩ | ⟨rfl, rfl, rfl⟩
          · have ej : am_J k 4 8 (cd (c_en wa (oo a i))) = q := V.2.2.2.2.2.2.2.1 q ev
            refine ⟨fun z => absurd rfl z, fun _ => ?_⟩
            rw [ej]
            exact (y.l' (m := 8) (by omega) nx).2
          · have eq' : ∃ u, e_av (a_E a (oo a i)) = some u ∧ u.toInt64 = q := by
              unfold vA at ev
              cases eu : e_av (a_E a (oo a i)) with
              | none => rw [eu] at ev; cases ev
              | some u => rw [eu] at ev; exact ⟨u, rfl, by simpa using ev⟩
            obtain ⟨u, eu, rfl⟩ := eq'
            have ej : am_I k 4 10 (cd (c_en wa (oo a i))) = u := V.2.2.2.2.2.2.2.2.2.1 u eu
            refine ⟨fun _ => ?_, fun z => absurd z (by decide)⟩
            rw [ej]
            exact (y.l' (m := 4) (by omega) nx).2
  generalize ec : cn (fun j => (v j).isSome) (a_n a) = c at hc
  have nn : ¬ c = 0 → wVal a t m v = [Int32.ofNat t] ++ (nb (2 + (if c = a_n a then 0 else (a_n a + 7) / 8) + m * c) ++ ([if c = a_n a then Int32.ofNat 1 else Int32.ofNat 0] ++ ((if c < a_n a then bbl (bgb (a_n a) (fun j => (v j).isSome)) (a_n a) else []) ++ ([Int32.ofNat 0] ++ (R0 (a_n a)).flatMap (fun j => match v j with
    | none => []
    | some x => LB m x))))) := fun z => by rw [wVal, ec, if_neg z]; rfl
  have k102 : ∀ (k : am_H) (l : List Int32), WX tt k cd bb wa wt a → am_A k (cd 22) = am_A h (cd 22) → k = tw cd wt h l →
      am_Ev tt 102 102 [some (.ref (cd 20)), some (.int (Int32.ofNat t)), some (.int (Int32.ofNat m)), none, none, none] [] k (am_pV (fun h' => h' = tw cd wt h (l ++ ([Int32.ofNat 0] ++ (R0 (a_n a)).flatMap (fun j => match v j with
    | none => []
    | some x => LB m x)))) no_x) := by
    intro k l y ea ek
    refine vc_102_102 tt _ _ _ _ _ _ (y.b fun h2 e2 x2 => ?_)
    have := key (a_n a) 0 h2 (l ++ [Int32.ofNat 0]) (by omega) x2 (by rw [e2, tp_l_A ne, ea]) (by rw [e2, ek, tw_a]; congr 1; exact (List.append_nil _).symm)
    simp only [List.append_assoc] at this
    exact this
  have k79 : ∀ (k : am_H) (l : List Int32), WX tt k cd bb wa wt a → am_A k (cd 22) = am_A h (cd 22) → k = tw cd wt h l →
      am_Ev tt 102 79 [some (.ref (cd 20)), some (.int (Int32.ofNat t)), some (.int (Int32.ofNat m)), some (.int (Int32.ofNat c)), none, none] [] k (am_pV (fun h' => h' = tw cd wt h (l ++ ((if c < a_n a then bbl (bgb (a_n a) (fun j => (v j).isSome)) (a_n a) else []) ++ ([Int32.ofNat 0] ++ (R0 (a_n a)).flatMap (fun j => match v j with
    | none => []
    | some x => LB m x))))) no_x) := by
    intro k l y ea ek
    have F := y.1.f
    have y2 := y.2.1
    refine vc_102_79 tt _ _ _ _ _ _ _ ?_
    rw [y2]
    refine ⟨F.1, fun z => ?_, fun z => ⟨F.1, _, y.1.2.2.2.2.2.1, F.1, _, F.2.2.2.2.1, F.1, y.r' n24 fun h2 e2 x2 => ?_⟩⟩
    · rw [qi_le (by omega) (by omega)] at z
      rw [if_neg (by omega), List.nil_append]
      exact k102 k l y ea ek
    · rw [qi_le (by omega) (by omega)] at z
      rw [ea, bg_b hf] at e2
      have := k102 h2 (l ++ bbl (bgb (a_n a) (fun j => (v j).isSome)) (a_n a)) x2 (by rw [e2, tp_l_A ne, ea]) (by rw [e2, ek, tw_a])
      rw [if_pos (by omega)]
      simp only [List.append_assoc] at this ⊢
      exact this
  have k35 : ∀ (k : am_H), WX tt k cd bb wa wt a → k = h → ¬ c = 0 →
      am_Ev tt 102 35 [some (.ref (cd 20)), some (.int (Int32.ofNat t)), some (.int (Int32.ofNat m)), some (.int (Int32.ofNat c)), some (.int (Int32.ofNat (if c = a_n a then 0 else (a_n a + 7) / 8))), none] [] k (am_pV (fun h' => h' = tw cd wt h (wVal a t m v)) no_x) := by
    intro k y ek z0
    have hmc : m * c ≤ 8 * 24 := Nat.mul_le_mul hm (by omega)
    have hr : (if c = a_n a then 0 else (a_n a + 7) / 8) ≤ 3 := by split <;> omega
    refine vc_102_35 tt _ _ _ _ _ _ _ _ (y.b fun h1 e1 x1 => x1.n (m := 2 + (if c = a_n a then 0 else (a_n a + 7) / 8) + m * c) (by omega) (by rw [qi_mul, qi_add, qi_add, qi_l (by rw [Nat.mul_comm c m]; omega), Nat.mul_comm c m]) fun h2 e2 x2 => ?_)
    have F := x2.1.f
    rw [x2.2.1]
    have e2' : am_A h2 (cd 22) = am_A h (cd 22) := by rw [e2, tp_l_A ne, e1, tp_l_A ne, ek]
    refine ⟨F.1, _, x2.1.2.2.2.2.2.1, F.1, fun z => ?_, fun z => ?_⟩
    · rw [qi_eq (by omega) (by omega)] at z
      obtain ⟨n, tp⟩ := x2.1.2.2.2.2.2.2
      refine ⟨tp.1.1, _, _, ct_addByte tp, fun h3 e3 => ?_, fun _ _ z => z⟩
      have e3 : h3 = tw cd wt h2 [Int32.ofNat 0] := e3
      have x3 : WX tt h3 cd bb wa wt a := by rw [e3]; exact x2.tl _
      have := k79 h3 ([Int32.ofNat t] ++ (nb (2 + (if c = a_n a then 0 else (a_n a + 7) / 8) + m * c) ++ [if c = a_n a then Int32.ofNat 1 else Int32.ofNat 0])) x3 (by rw [e3, tp_l_A ne, e2']) (by simp only [e3, e2, e1, ek, tw_a, if_neg z, List.append_assoc])
      rw [nn z0]
      simp only [List.append_assoc] at this ⊢
      exact this
    · rw [qi_eq (by omega) (by omega)] at z
      have z := Classical.not_not.1 z
      obtain ⟨n, tp⟩ := x2.1.2.2.2.2.2.2
      refine ⟨tp.1.1, _, _, ct_addByte tp, fun h3 e3 => ?_, fun _ _ z => z⟩
      have e3 : h3 = tw cd wt h2 [Int32.ofNat 1] := e3
      have x3 : WX tt h3 cd bb wa wt a := by rw [e3]; exact x2.tl _
      have := k79 h3 ([Int32.ofNat t] ++ (nb (2 + (if c = a_n a then 0 else (a_n a + 7) / 8) + m * c) ++ [if c = a_n a then Int32.ofNat 1 else Int32.ofNat 0])) x3 (by rw [e3, tp_l_A ne, e2']) (by simp only [e3, e2, e1, ek, tw_a, if_pos z, List.append_assoc])
      rw [nn z0]
      simp only [List.append_assoc] at this ⊢
      exact this
  have F := x.1.f
  refine vc_102_0 tt _ _ _ h _ _ ?_
  rw [x.2.1]
  refine ⟨F.1, F.1, _, _, ct_countFlags x n24, fun r k e => ?_, fun _ _ z => z⟩
  obtain ⟨er, ek⟩ := e
  rw [cn_b hf, ec] at er
  subst er ek
  rw [x.2.1, qi_eq (by omega) (by omega), qi_eq (by omega) (by omega)]
  refine ⟨fun z => ⟨F.1, fun z2 => ⟨F.1, _, ct_bytesForBits n24, fun r k e => ?_⟩, fun z2 => ?_⟩, fun z => ?_⟩
  · obtain ⟨er, ek⟩ := e
    subst er ek
    have := k35 k x rfl z
    rw [if_neg z2] at this
    exact this
  · have := k35 k x rfl z
    rw [if_pos (Classical.not_not.1 z2)] at this
    exact this
  · rw [wVal, ec, if_pos (Classical.not_not.1 z)]
    rfl
theorem ct_addEntries (x : WX tt h cd bb wa wt a) : am_Ct tt 97 [.ref (cd 20)] h (am_pV (fun h' => ∃ f, h' = tw cd wt (am_cA h (cd 22) f) (nb (a_n a) ++ (wEm a ++ ([Int32.ofNat 17] ++ (nb (1 + 2 * uns a) ++ ([Int32.ofNat 0] ++ (wNm a ++ (wVal a 20 8 (vT a) ++ (wVal a 21 4 (vA a) ++ [Int32.ofNat 0]))))))))) no_x) := by
  have wf := x.1.2.2.1
  have n24 := wf.1
  have ne := x.1.n22
  have hK := oK_le wf
  have xF : ∀ f l, WX tt (tw cd wt (am_cA h (cd 22) f) l) cd bb wa wt a := fun f l => (x.fl f).tl l
  have key2 : ∀ (d i : Nat) (f : Nat → Int32) (l : List Int32), d + i = a_n a → (∀ j, j < i → f j = b01 (vA a j).isSome) →
      am_Ev tt 97 72 [some (.ref (cd 20)), some (.int (Int32.ofNat i))] [] (tw cd wt (am_cA h (cd 22) f) l) (am_pV (fun h' => ∃ f, h' = tw cd wt (am_cA h (cd 22) f) (l ++ (wVal a 21 4 (vA a) ++ [Int32.ofNat 0]))) no_x) := by
    intro d
    induction d with
    | zero =>
      intro i f l e hf
      have y := xF f l
      have : i = a_n a := by omega
      subst this
      refine vc_97_72 tt _ _ _ _ _ ⟨y.1.f.1, fun _ => ⟨y.1.f.1, _, _, ct_addValues y (t := 21) (m := 4) (v := vA a) (Or.inr ⟨rfl, rfl, rfl⟩) (fun j hj => by rw [ft_A ne]; exact hf j hj), fun k e => ?_, fun _ _ z => z⟩, fun z => absurd (by rw [y.2.1]; exact Int32.le_refl _) z⟩
      rw [tw_a] at e
      have y' : WX tt k cd bb wa wt a := by rw [e]; exact xF f _
      refine y'.b fun h2 e2 _ => ⟨f, ?_⟩
      rw [e2, e, tw_a, List.append_assoc]
    | succ d ih =>
      intro i f l e hf
      have y := xF f l
      have F := y.1.f
      have y2 := y.2.1
      have g := y.en (j := i) (by omega)
      have V := (y.ev (j := i) (by omega)).2.2.2.2.2.2.2.2.1
      have i24 : i < 24 := by omega
      refine vc_97_72 tt _ _ _ _ _ ?_
      simp (disch := omega) only [F, y2, g, V, i24, b01_a, am_hs, qi_lt, qi_le, qi_eq, qi_nn, qi_in, qi_add, qi_l, ql_i, ql_lt, ql_le, ql_eq, ql_add, qc_lt, qc_eq, qc_ge, qc_gt, qc_le, true_and, and_true, and_self, true_or, or_true, false_or, or_false, false_and, and_false, not_true_eq_false, not_false_eq_true, Classical.not_not, true_implies, false_implies, implies_true, exists_eq_left, exists_eq_left', Option.some.injEq, reduceIte, Nat.reduceEqDiff, Nat.reduceLT, Nat.reduceLeDiff, Nat.reduceAdd, Nat.reduceSub, Nat.reduceMul, eq_self, ne_eq, and_imp, forall_const, reduceCtorEq, am_w, List.map_cons, List.map_nil, List.sum_cons, List.sum_nil, Value.category, Nat.zero_le, Nat.le_refl]
      refine ⟨fun z => by omega, fun _ => ?_⟩
      rw [ft_s ne]
      refine ih (i + 1) _ l (by omega) (fun j hj => ?_)
      unfold va_up
      split
      · next c => rw [c]; unfold vA; rw [Option.isSome_map]
      · exact hf j (by omega)
  have key : ∀ (d i : Nat) (f : Nat → Int32) (l : List Int32), d + i = a_n a → (∀ j, j < i → f j = b01 (vT a j).isSome) →
      am_Ev tt 97 33 [some (.ref (cd 20)), some (.int (Int32.ofNat i))] [] (tw cd wt (am_cA h (cd 22) f) l) (am_pV (fun h' => ∃ f, h' = tw cd wt (am_cA h (cd 22) f) (l ++ (wVal a 20 8 (vT a) ++ (wVal a 21 4 (vA a) ++ [Int32.ofNat 0])))) no_x) := by
    intro d
    induction d with
    | zero =>
      intro i f l e hf
      have y := xF f l
      have : i = a_n a := by omega
      subst this
      refine vc_97_33 tt _ _ _ _ _ ⟨y.1.f.1, fun _ => ⟨y.1.f.1, _, _, ct_addValues y (t := 20) (m := 8) (v := vT a) (Or.inl ⟨rfl, rfl, rfl⟩) (fun j hj => by rw [ft_A ne]; exact hf j hj), fun k e => ?_, fun _ _ z => z⟩, fun z => absurd (by rw [y.2.1]; exact Int32.le_refl _) z⟩
      rw [tw_a] at e
      rw [e]
      have := key2 (a_n a) 0 f (l ++ wVal a 20 8 (vT a)) (by omega) (fun j hj => by omega)
      simp only [List.append_assoc] at this ⊢
      exact this
    | succ d ih =>
      intro i f l e hf
      have y := xF f l
      have F := y.1.f
      have y2 := y.2.1
      have g := y.en (j := i) (by omega)
      have V := (y.ev (j := i) (by omega)).2.2.2.2.2.2.1
      have i24 : i < 24 := by omega
      refine vc_97_33 tt _ _ _ _ _ ?_
      simp (disch := omega) only [F, y2, g, V, i24, b01_a, am_hs, qi_lt, qi_le, qi_eq, qi_nn, qi_in, qi_add, qi_l, ql_i, ql_lt, ql_le, ql_eq, ql_add, qc_lt, qc_eq, qc_ge, qc_gt, qc_le, true_and, and_true, and_self, true_or, or_true, false_or, or_false, false_and, and_false, not_true_eq_false, not_false_eq_true, Classical.not_not, true_implies, false_implies, implies_true, exists_eq_left, exists_eq_left', Option.some.injEq, reduceIte, Nat.reduceEqDiff, Nat.reduceLT, Nat.reduceLeDiff, Nat.reduceAdd, Nat.reduceSub, Nat.reduceMul, eq_self, ne_eq, and_imp, forall_const, reduceCtorEq, am_w, List.map_cons, List.map_nil, List.sum_cons, List.sum_nil, Value.category, Nat.zero_le, Nat.le_refl]
      refine ⟨fun z => by omega, fun _ => ?_⟩
      rw [ft_s ne]
      refine ih (i + 1) _ l (by omega) (fun j hj => ?_)
      unfold va_up
      split
      · next c => rw [c]; rfl
      · exact hf j (by omega)
  have nm : ∀ (f : Nat → Int32) (l : List Int32), am_Ct tt 101 [.ref (cd 20)] (tw cd wt (am_cA h (cd 22) f) l) (am_pV (fun h' => am_Ev tt 97 33 [some (.ref (cd 20)), some (.int (Int32.ofNat 0))] [] h' (am_pV (fun h' => ∃ f, h' = tw cd wt (am_cA h (cd 22) f) (l ++ ([Int32.ofNat 17] ++ (nb (1 + 2 * uns a) ++ ([Int32.ofNat 0] ++ (wNm a ++ (wVal a 20 8 (vT a) ++ (wVal a 21 4 (vA a) ++ [Int32.ofNat 0])))))))) no_x)) no_x) := by
    intro f l
    refine (ct_addNames (xF f l)).post (fun r k e => ?_)
    cases r with
    | inr E => exact e
    | inl o =>
      cases o with
      | some u => exact absurd e id
      | none =>
        have e : k = tw cd wt (tw cd wt (am_cA h (cd 22) f) l) ([Int32.ofNat 17] ++ (nb (1 + 2 * uns a) ++ ([Int32.ofNat 0] ++ wNm a))) := e
        rw [tw_a] at e
        show am_Ev tt 97 33 _ _ k _
        rw [e]
        have := key (a_n a) 0 f (l ++ ([Int32.ofNat 17] ++ (nb (1 + 2 * uns a) ++ ([Int32.ofNat 0] ++ wNm a)))) (by omega) (fun j hj => by omega)
        simp only [List.append_assoc] at this ⊢
        exact this
  have F := x.1.f
  refine vc_97_0 tt _ h _ _ ⟨F.1, _, x.1.2.2.2.2.2.1, F.1, x.n' (m := a_n a) (by omega) (by rw [x.2.1, qi_l (by omega)]) fun h1 e1 x1 => ?_⟩
  have F1 := x1.1.f
  rw [x1.2.1, x1.2.2.1, qi_le (by omega) (by omega)]
  have e1' : h1 = tw cd wt (am_cA h (cd 22) (am_A h (cd 22))) (nb (a_n a)) := by rw [cA_id]; exact e1
  refine ⟨F1.1, F1.1, fun z => ⟨F1.1, _, _, ?_, fun k e => e, fun _ _ z => z⟩, fun z => ⟨F1.1, _, _, ct_addEmptyRows x1 (by omega), fun k e => ?_, fun _ _ z => z⟩⟩
  · have := nm (am_A h (cd 22)) (nb (a_n a))
    rw [← e1'] at this
    rw [show wEm a = [] by rw [wEm, if_neg (by omega)], List.nil_append]
    exact this
  · obtain ⟨f, e⟩ := e
    rw [e1, tp_l_cA ne, tw_a] at e
    have y' : WX tt k cd bb wa wt a := by rw [e]; exact xF f _
    have := nm f (nb (a_n a) ++ wEm a)
    rw [← e] at this
    simp only [List.append_assoc] at this ⊢
    exact ⟨y'.1.f.1, _, _, this, fun k e => e, fun _ _ z => z⟩
end WH
