/-! deps: 22e -/
/-! ===== an archive is made ===== -/
/-! 0 yX0_init -/
theorem vc_0_0 (tt : Nat → Nat) (a0 : Nat) (h : am_H) (Q : am_H → Prop) (Qx : String → am_H → Prop) (q :
  (am_w [] ≤ 8 ∧
  am_Ev tt 0 4 [some (.ref a0), none] [] h (am_pV Q Qx))) :
  am_Ev tt 0 0 [some (.ref a0), none] [] h (am_pV Q Qx) := am_vc 5 [(4, [true, false]), (13, [true, false]), (24, [true, true]), (51, [true, true])] q
theorem vc_0_4 (tt : Nat → Nat) (a0 : Nat) (h : am_H) (Q : am_H → Prop) (Qx : String → am_H → Prop) (q :
  (¬ (Int32.ofNat 24) < (Int32.ofNat 0) ∧ ((Int32.ofNat 24)).toNatClampNeg ≤ 60000 ∧ am_U h + 1 ≤ am_LC ∧ am_V h + ((Int32.ofNat 24)).toNatClampNeg ≤ am_LS ∧ ∀ q1, am_K h q1 = 0 →
  (am_K (am_nA h q1 26 ((Int32.ofNat 24)).toNatClampNeg) a0 = 1 ∧
  am_Ev tt 0 13 [some (.ref a0), none] [] (am_sR (am_nA h q1 26 ((Int32.ofNat 24)).toNatClampNeg) 0 0 a0 (some q1)) (am_pV Q Qx)))) :
  am_Ev tt 0 4 [some (.ref a0), none] [] h (am_pV Q Qx) := am_vc 7 [(4, [true, false]), (13, [true, false]), (24, [true, true]), (51, [true, true])] q
theorem vc_0_13 (tt : Nat → Nat) (a0 : Nat) (h : am_H) (Q : am_H → Prop) (Qx : String → am_H → Prop) (q :
  (¬ (Int32.ofNat 6) < (Int32.ofNat 0) ∧ ((Int32.ofNat 6)).toNatClampNeg ≤ 60000 ∧ am_U h + 1 ≤ am_LC ∧ am_V h + ((Int32.ofNat 6)).toNatClampNeg ≤ am_LS ∧ ∀ q1, am_K h q1 = 0 →
  (am_K (am_nA h q1 27 ((Int32.ofNat 6)).toNatClampNeg) a0 = 1 ∧
  am_Ev tt 0 24 [some (.ref a0), some (.int (Int32.ofNat 0))] [] (am_sR (am_nA h q1 27 ((Int32.ofNat 6)).toNatClampNeg) 0 2 a0 (some q1)) (am_pV Q Qx)))) :
  am_Ev tt 0 13 [some (.ref a0), none] [] h (am_pV Q Qx) := am_vc 9 [(4, [true, false]), (13, [true, false]), (24, [true, true]), (51, [true, true])] q
theorem vc_0_24 (tt : Nat → Nat) (a0 : Nat) (a1 : Int32) (h : am_H) (Q : am_H → Prop) (Qx : String → am_H → Prop) (q :
  (((Int32.ofNat 24) ≤ a1 →
   am_Ev tt 0 51 [some (.ref a0), some (.int (Int32.ofNat 0))] [] h (am_pV Q Qx)) ∧
  (¬ ((Int32.ofNat 24) ≤ a1) →
   (am_K h a0 = 1 ∧ ∃ q1, am_R h 0 0 a0 = some q1 ∧
   (am_U h + 1 ≤ am_LC ∧ am_V h + 13 ≤ am_LS ∧ ∀ q2, am_K h q2 = 0 →
   (∃ (Q4 : am_H → Prop), am_Ct tt 42 [.ref q2] (am_nO h q2 4) (am_pV Q4 (fun _ _ => False)) ∧ (∀ h3, Q4 h3 →
    (((am_K h3 q1 = 26 ∧ am_K h3 q2 = 5) ∨ (am_K h3 q1 = 27 ∧ am_K h3 q2 = 2)) ∧ vp_in a1 (am_N h3 q1) ∧
    am_Ev tt 0 24 [some (.ref a0), some (.int (a1 + (Int32.ofNat 1)))] [] (am_sC h3 q1 (a1).toNatClampNeg (some q2)) (am_pV Q Qx))))))))) :
  am_Ev tt 0 24 [some (.ref a0), some (.int a1)] [] h (am_pV Q Qx) := am_vc 15 [(4, [true, false]), (13, [true, false]), (24, [true, true]), (51, [true, true])] q
theorem vc_0_51 (tt : Nat → Nat) (a0 : Nat) (a1 : Int32) (h : am_H) (Q : am_H → Prop) (Qx : String → am_H → Prop) (q :
  (((Int32.ofNat 6) ≤ a1 →
   Q h) ∧
  (¬ ((Int32.ofNat 6) ≤ a1) →
   (am_K h a0 = 1 ∧ ∃ q1, am_R h 0 2 a0 = some q1 ∧
   (am_U h + 1 ≤ am_LC ∧ am_V h + 4 ≤ am_LS ∧ ∀ q2, am_K h q2 = 0 →
   (∃ (Q4 : am_H → Prop), am_Ct tt 11 [.ref q2] (am_nO h q2 1) (am_pV Q4 (fun _ _ => False)) ∧ (∀ h3, Q4 h3 →
    (((am_K h3 q1 = 26 ∧ am_K h3 q2 = 5) ∨ (am_K h3 q1 = 27 ∧ am_K h3 q2 = 2)) ∧ vp_in a1 (am_N h3 q1) ∧
    am_Ev tt 0 51 [some (.ref a0), some (.int (a1 + (Int32.ofNat 1)))] [] (am_sC h3 q1 (a1).toNatClampNeg (some q2)) (am_pV Q Qx))))))))) :
  am_Ev tt 0 51 [some (.ref a0), some (.int a1)] [] h (am_pV Q Qx) := am_vc 15 [(4, [true, false]), (13, [true, false]), (24, [true, true]), (51, [true, true])] q

theorem NW.mrg {h k k' : am_H} {c c2 : Nat → Nat} {D D2 : Nat → Prop} (n : NW h k c D) (g : gK h k) (n2 : NW k k' c2 D2) (g2 : gK k k') (hd : ∀ j, D j → ¬ D2 j) : ∃ c', (∀ j, ¬ D2 j → c' j = c j) ∧ (∀ j, D2 j → c' j = c2 j) ∧ NW h k' c' (fun j => D j ∨ D2 j) := by
  refine ⟨fun j => @ite Nat (D2 j) (Classical.propDecidable (D2 j)) (c2 j) (c j), fun j hj => if_neg hj, fun j hj => if_pos hj, fun j l hj hl e => ?_, fun j hj => ?_⟩
  · by_cases c1 : D2 j
    · by_cases c2' : D2 l
      · have e : c2 j = c2 l := by
          simp only [if_pos c1, if_pos c2'] at e
          exact e
        exact n2.1 j l c1 c2' e
      · have e : c2 j = c l := by
          simp only [if_pos c1, if_neg c2'] at e
          exact e
        have hl' := hl.resolve_right c2'
        exact absurd (n2.2 j c1).1 (by rw [e]; exact (n.2 l hl').2)
    · have hj' := hj.resolve_right c1
      by_cases c2' : D2 l
      · have e : c j = c2 l := by
          simp only [if_neg c1, if_pos c2'] at e
          exact e
        exact absurd (n2.2 l c2').1 (by rw [← e]; exact (n.2 j hj').2)
      · have e : c j = c l := by
          simp only [if_neg c1, if_neg c2'] at e
          exact e
        exact n.1 j l hj' (hl.resolve_right c2') e
  · by_cases c1 : D2 j
    · simp only [if_pos c1]
      obtain ⟨w1, w2⟩ := n2.2 j c1
      exact ⟨Classical.not_not.1 (fun w => absurd w1 (by rw [g _ w]; exact w)), w2⟩
    · simp only [if_neg c1]
      obtain ⟨w1, w2⟩ := n.2 j (hj.resolve_right c1)
      exact ⟨w1, by rw [g2 _ w2]; exact w2⟩
theorem NW.one {k k' : am_H} {q j0 : Nat} (hq : am_K k q = 0) (hq' : am_K k' q ≠ 0) : NW k k' (fun _ => q) (fun j => j = j0) := ⟨fun a b ha hb _ => by rw [ha, hb], fun _ _ => ⟨hq, hq'⟩⟩
theorem NW.two {k k' : am_H} {u b j1 j2 : Nat} (h1 : am_K k u = 0) (h2 : am_K k b = 0) (ub : u ≠ b) (h1' : am_K k' u ≠ 0) (h2' : am_K k' b ≠ 0) (hj : j1 ≠ j2) : NW k k' (fun j => if j = j1 then u else b) (fun j => j = j1 ∨ j = j2) := by
  have e1 : (if j1 = j1 then u else b) = u := if_pos rfl
  have e2 : (if j2 = j1 then u else b) = b := if_neg (fun z => hj z.symm)
  refine ⟨fun a l ha hl e => ?_, fun j hj' => ?_⟩
  · have e : (if a = j1 then u else b) = (if l = j1 then u else b) := e
    rcases ha with ha | ha
    · rcases hl with hl | hl
      · rw [ha, hl]
      · rw [ha, hl, e1, e2] at e; exact absurd e ub
    · rcases hl with hl | hl
      · rw [ha, hl, e1, e2] at e; exact absurd e.symm ub
      · rw [ha, hl]
  · show am_K k (if j = j1 then u else b) = 0 ∧ am_K k' (if j = j1 then u else b) ≠ 0
    rcases hj' with z | z
    · rw [z, e1]; exact ⟨h1, h1'⟩
    · rw [z, e2]; exact ⟨h2, h2'⟩
section INA
variable {tt : Nat → Nat} {h h' k k' : am_H} {c c' : Nat → Nat} {w w' : Nat}
def bbc (c : Nat → Nat) (w i : Nat) : Nat := c (300 + 500 * w + i)
def DG (j : Nat) : Prop := (100 ≤ j ∧ j ≤ 102) ∨ (110 ≤ j ∧ j ≤ 157) ∨ (200 ≤ j ∧ j ≤ 217) ∨ (300 ≤ j ∧ j ≤ 323)
def GA (w : Nat) (c : Nat → Nat) (k : am_H) : Prop := car_s k c (bbc c) w ∧ (∀ b, b < 6 → am_I k 1 3 (c (c_bk w b)) = Int32.ofNat 1 ∧ am_I k 1 2 (c (c_bk w b)) = Int32.ofNat 0) ∧ am_I k 0 1 (c (c_ar w)) = Int32.ofNat 0 ∧ ∀ i, i < 24 → am_N k (bbc c w i) = 0
theorem GA.mv (q : GA w c k) (e : ∀ j, DG j → c' (j + 500 * w') = c (j + 500 * w)) (f : ∀ j, DG j → fr1 k k' (c (j + 500 * w))) : GA w' c' k' := by
  have one : ∀ j, DG j → ∀ x x', x = j + 500 * w → x' = j + 500 * w' → c' x' = c x ∧ fr1 k k' (c x) := fun j hj x x' h1 h2 => by rw [h1, h2]; exact ⟨e j hj, f j hj⟩
  obtain ⟨⟨a1, a2, a3, a4, a5, a6, a7, a8, a9⟩, q2, q3, q4⟩ := q
  obtain ⟨r1, r1'⟩ := one 100 (by unfold DG; omega) (c_ar w) (c_ar w') rfl rfl
  obtain ⟨r2, r2'⟩ := one 101 (by unfold DG; omega) (c_ea w) (c_ea w') rfl rfl
  obtain ⟨r3, r3'⟩ := one 102 (by unfold DG; omega) (c_ba w) (c_ba w') rfl rfl
  have en := fun i (hi : i < 24) => one (110 + 2 * i) (by unfold DG; omega) (c_en w i) (c_en w' i) (by unfold c_en; omega) (by unfold c_en; omega)
  have un := fun i (hi : i < 24) => one (111 + 2 * i) (by unfold DG; omega) (c_un w i) (c_un w' i) (by unfold c_un; omega) (by unfold c_un; omega)
  have by' := fun i (hi : i < 24) => one (300 + i) (by unfold DG; omega) (300 + 500 * w + i) (300 + 500 * w' + i) (by omega) (by omega)
  have bk := fun i (hi : i < 6) => one (200 + 3 * i) (by unfold DG; omega) (c_bk w i) (c_bk w' i) (by unfold c_bk; omega) (by unfold c_bk; omega)
  have bi := fun i (hi : i < 6) => one (201 + 3 * i) (by unfold DG; omega) (c_bi w i) (c_bi w' i) (by unfold c_bi; omega) (by unfold c_bi; omega)
  have bd := fun i (hi : i < 6) => one (202 + 3 * i) (by unfold DG; omega) (c_bd w i) (c_bd w' i) (by unfold c_bd; omega) (by unfold c_bd; omega)
  refine ⟨⟨by rw [r1, r1'.1]; exact a1, by rw [r1, r2, r1'.2.2.2.2.2.2.2]; exact a2, by rw [r2, r2'.1]; exact a3, by rw [r2, r2'.2.1]; exact a4, by rw [r1, r3, r1'.2.2.2.2.2.2.2]; exact a5, by rw [r3, r3'.1]; exact a6, by rw [r3, r3'.2.1]; exact a7, fun i hi => ⟨?_, ?_⟩, fun b hb => ⟨?_, ?_⟩⟩, fun b hb => ?_, by rw [r1, r1'.2.2.2.2.2.1]; exact q3, fun i hi => ?_⟩
  · rw [r2, (en i hi).1, r2'.2.2.2.2.1]; exact (a8 i hi).1
  · unfold bbc
    rw [(en i hi).1, (un i hi).1, (by' i hi).1]
    exact (a8 i hi).2.fr (en i hi).2 (un i hi).2 (by' i hi).2
  · rw [r3, (bk b hb).1, r3'.2.2.2.2.1]; exact (a9 b hb).1
  · rw [(bk b hb).1, (bi b hb).1, (bd b hb).1]
    exact (a9 b hb).2.fr (bk b hb).2 (bi b hb).2 (bd b hb).2
  · rw [(bk b hb).1, (bk b hb).2.2.2.2.2.2.1, (bk b hb).2.2.2.2.2.2.1]; exact q2 b hb
  · unfold bbc
    rw [(by' i hi).1, (by' i hi).2.2.1]; exact q4 i hi
/-- what is made of an archive: i entries, b blocks -/
def IA (h : am_H) (a0 : Nat) (i b : Nat) (c : Nat → Nat) (k : am_H) : Prop :=
  c 100 = a0 ∧ NW h k c (fun j => j = 101 ∨ j = 102 ∨ (110 ≤ j ∧ j < 110 + 2 * i) ∨ (300 ≤ j ∧ j < 300 + i) ∨ (200 ≤ j ∧ j < 200 + 3 * b)) ∧ gs (fun a => a = a0) h k ∧ gK h k ∧ am_R k 0 0 a0 = some (c 101) ∧ am_K k (c 101) = 26 ∧ am_N k (c 101) = 24 ∧ am_R k 0 2 a0 = some (c 102) ∧ am_K k (c 102) = 27 ∧ am_N k (c 102) = 6 ∧
  (∀ t, t < i → am_C k (c 101) t = some (c (110 + 2 * t)) ∧ ce_s k (c (110 + 2 * t)) (c (111 + 2 * t)) (c (300 + t)) ∧ am_N k (c (300 + t)) = 0) ∧ (∀ t, t < b → am_C k (c 102) t = some (c (200 + 3 * t)) ∧ cb_s k (c (200 + 3 * t)) (c (201 + 3 * t)) (c (202 + 3 * t)) ∧ am_I k 1 3 (c (200 + 3 * t)) = Int32.ofNat 1 ∧ am_I k 1 2 (c (200 + 3 * t)) = Int32.ofNat 0) ∧
  am_I k 0 1 a0 = Int32.ofNat 0 ∧ am_U k = am_U h + 2 + 3 * i + 3 * b ∧ am_V k = am_V h + 30 + 33 * i + 10 * b
def aQ (h : am_H) (a0 : Nat) (h' : am_H) : Prop := ∃ c, c 100 = a0 ∧ NW h h' c (fun j => DG j ∧ j ≠ 100) ∧ GA 0 c h' ∧ gs (fun a => a = a0) h h' ∧ gK h h' ∧ am_U h' = am_U h + 92 ∧ am_V h' = am_V h + 882
theorem ia_51 {a0 : Nat} (ha : am_K h a0 = 1) (hU : am_U h + 92 ≤ am_LC) (hV : am_V h + 882 ≤ am_LS) : ∀ (d b : Nat) (c : Nat → Nat) (k : am_H), d + b = 6 → IA h a0 24 b c k → am_Ev tt 0 51 [some (.ref a0), some (.int (Int32.ofNat b))] [] k (am_pV (aQ h a0) (fun _ _ => False)) := by
  have a00 : am_K h a0 ≠ 0 := by rw [ha]; decide
  intro d
  induction d with
  | zero =>
    intro b c k eb q
    have : b = 6 := by omega
    subst this
    obtain ⟨q1, q2, q3, q4, q5, q6, q7, q8, q9, q10, q11, q12, q13, q14, q15⟩ := q
    refine vc_0_51 tt _ _ _ _ _ ⟨fun _ => ?_, fun z => absurd (Int32.le_refl _) z⟩
    refine ⟨c, q1, q2.wk (fun j hj => ?_), ⟨⟨?_, ?_, q6, q7, ?_, q9, q10, fun i hi => ?_, fun b hb => ?_⟩, fun b hb => ?_, ?_, fun i hi => ?_⟩, q3, q4, by rw [q14], by rw [q15]⟩
    · have := hj.1
      unfold DG at this
      have := hj.2
      omega
    · show am_K k (c 100) = 1
      rw [q1, q4 a0 a00]; exact ha
    · show am_R k 0 0 (c 100) = some (c 101)
      rw [q1]; exact q5
    · show am_R k 0 2 (c 100) = some (c 102)
      rw [q1]; exact q8
    · obtain ⟨r1, r2, r3⟩ := q11 i hi
      unfold bbc c_ea c_en c_un
      rw [show 110 + 500 * 0 + 2 * i = 110 + 2 * i by omega, show 111 + 500 * 0 + 2 * i = 111 + 2 * i by omega, show 300 + 500 * 0 + i = 300 + i by omega]
      exact ⟨r1, r2⟩
    · obtain ⟨r1, r2, r3, r4⟩ := q12 b hb
      unfold c_ba c_bk c_bi c_bd
      rw [show 200 + 500 * 0 + 3 * b = 200 + 3 * b by omega, show 201 + 500 * 0 + 3 * b = 201 + 3 * b by omega, show 202 + 500 * 0 + 3 * b = 202 + 3 * b by omega]
      exact ⟨r1, r2⟩
    · obtain ⟨r1, r2, r3, r4⟩ := q12 b hb
      unfold c_bk
      rw [show 200 + 500 * 0 + 3 * b = 200 + 3 * b by omega]
      exact ⟨r3, r4⟩
    · show am_I k 0 1 (c 100) = Int32.ofNat 0
      rw [q1]; exact q13
    · unfold bbc
      rw [show 300 + 500 * 0 + i = 300 + i by omega]
      exact (q11 i hi).2.2
  | succ d ih =>
    intro b c k eb q
    obtain ⟨q1, q2, q3, q4, q5, q6, q7, q8, q9, q10, q11, q12, q13, q14, q15⟩ := q
    have ka : am_K k a0 = 1 := by rw [q4 a0 a00]; exact ha
    have b6 : ¬ 6 ≤ b := by omega
    refine vc_0_51 tt _ _ _ _ _ ⟨fun z => absurd z (by rw [qi_le (by omega) (by omega)]; exact b6), fun _ => ⟨ka, _, q8, by omega, by omega, fun e he => ?_⟩⟩
    have g1 : gK k (am_nO k e 1) := gK.nO he
    have Ke : am_K (am_nO k e 1) e = 2 := up_eq
    have Ie : am_I (am_nO k e 1) 1 2 e = Int32.ofNat 0 := if_pos rfl
    have s1 : gs (fun _ => False) k (am_nO k e 1) := gs.nO he
    have U1 : am_U (am_nO k e 1) = am_U k + 1 := rfl
    have V1 : am_V (am_nO k e 1) = am_V k + 4 := rfl
    generalize am_nO k e 1 = k1 at *
    refine ⟨_, ct_iB Ke (by omega) (by omega), fun k2 w2 => ?_⟩
    obtain ⟨u, v, hu, hv, uv, cs, i3, i2, s2, g2, U2, V2⟩ := w2
    have L : ∀ j, (j = 101 ∨ j = 102 ∨ (110 ≤ j ∧ j < 110 + 2 * 24) ∨ (300 ≤ j ∧ j < 300 + 24) ∨ (200 ≤ j ∧ j < 200 + 3 * b)) → fr1 k k2 (c j) := by
      intro j hj
      have lv := (q2.2 j hj).2
      exact (s1 (c j) lv (fun z => z)).tr (s2 (c j) (by rw [g1 _ lv]; exact lv) (fun z => lv (by rw [z]; exact he)))
    have fa : fr1 k k2 a0 := (s1 a0 (by rw [ka]; decide) (fun z => z)).tr (s2 a0 (by rw [g1 _ (by rw [ka]; decide), ka]; decide) (fun z => by rw [← z, ka] at he; cases he))
    have ne102 : ∀ j, (j = 101 ∨ j = 102 ∨ (110 ≤ j ∧ j < 110 + 2 * 24) ∨ (300 ≤ j ∧ j < 300 + 24) ∨ (200 ≤ j ∧ j < 200 + 3 * b)) → j ≠ 102 → c j ≠ c 102 := fun j hj hn z => hn (q2.1 j 102 hj (by omega) z)
    have na : a0 ≠ c 102 := fun z => (q2.2 102 (by omega)).1 |> fun w => a00 (by rw [z]; exact w)
    have s3 : gs (fun a => a = c 102) k2 (am_sC k2 (c 102) b (some e)) := gs.sC rfl
    have l102 := L 102 (by omega)
    have K2e : am_K k2 e = 2 := cs.1
    have ne : e ≠ c 102 := fun z => by rw [z, l102.1, q9] at K2e; cases K2e
    have nu : u ≠ c 102 := fun z => by
      have := (q2.2 102 (by omega)).2
      rw [z, g1 _ this] at hu
      exact this hu
    have nv : v ≠ c 102 := fun z => by
      have := (q2.2 102 (by omega)).2
      rw [z, g1 _ this] at hv
      exact this hv
    obtain ⟨c1, a1, b1, n1⟩ := q2.mrg q4 (NW.one (j0 := 200 + 3 * b) he (by rw [Ke]; decide)) g1 (fun j hj z => by omega)
    obtain ⟨c2, a2, b2, n2⟩ := n1.mrg (q4.tr g1) (NW.two (j1 := 201 + 3 * b) (j2 := 202 + 3 * b) hu hv uv (by rw [cs.2.2.1]; decide) (by rw [cs.2.2.2.2.2.1]; decide) (by omega)) g2 (fun j hj z => by omega)
    have cc : ∀ j, (j = 100 ∨ j = 101 ∨ j = 102 ∨ (110 ≤ j ∧ j < 110 + 2 * 24) ∨ (300 ≤ j ∧ j < 300 + 24) ∨ (200 ≤ j ∧ j < 200 + 3 * b)) → c2 j = c j := fun j hj => by rw [a2 j (by omega), a1 j (by omega)]
    have ce : c2 (200 + 3 * b) = e := by rw [a2 _ (by omega), b1 _ rfl]
    have cu : c2 (201 + 3 * b) = u := by rw [b2 _ (Or.inl rfl), if_pos rfl]
    have cv : c2 (202 + 3 * b) = v := by rw [b2 _ (Or.inr rfl), if_neg (by omega)]
    refine ⟨Or.inr ⟨by rw [l102.1]; exact q9, K2e⟩, by rw [l102.2.1, q10, qi_in (by omega)]; omega, ?_⟩
    rw [qi_nn (by omega), qi_add]
    refine ih (b + 1) c2 _ (by omega) ⟨by rw [cc 100 (by omega)]; exact q1, (n2.up (gK.re : gK k2 (am_sC k2 (c 102) b (some e)))).wk (fun j hj => ?_), (q3.tr q4 ((gs.tr (X'' := fun a => a = a0 ∨ a = c 102) (s1.tr g1 s2 (X'' := fun a => a = e) (fun _ _ z => z.elim) (fun _ _ z => z)) (g1.tr g2) s3 (fun a z w => absurd he (by rw [← w]; exact z)) (fun _ _ z => Or.inr z))) (X'' := fun a => a = a0) (fun _ _ z => z) (fun a z w => w.elim (fun y => y) (fun y => absurd (q2.2 102 (by omega)).1 (by rw [← y]; exact z)))), q4.tr (g1.tr g2), ?_, ?_, ?_, ?_, ?_, ?_, fun t ht => ?_, fun t ht => ?_, ?_, ?_, ?_⟩
    · omega
    · rw [cc 101 (by omega)]; show am_R k2 0 0 a0 = _; rw [fa.2.2.2.2.2.2.2]; exact q5
    · rw [cc 101 (by omega)]; show am_K k2 (c 101) = 26; rw [(L 101 (by omega)).1]; exact q6
    · rw [cc 101 (by omega)]; show am_N k2 (c 101) = 24; rw [(L 101 (by omega)).2.1]; exact q7
    · rw [cc 102 (by omega)]; show am_R k2 0 2 a0 = _; rw [fa.2.2.2.2.2.2.2]; exact q8
    · rw [cc 102 (by omega)]; show am_K k2 (c 102) = 27; rw [l102.1]; exact q9
    · rw [cc 102 (by omega)]; show am_N k2 (c 102) = 6; rw [l102.2.1]; exact q10
    · obtain ⟨r1, r2, r3⟩ := q11 t ht
      have F := fun j hj hn => (L j hj).tr (fr1.sC (h := k2) (i := b) (v := some e) (ne102 j hj hn))
      rw [cc 101 (by omega), cc (110 + 2 * t) (by omega), cc (111 + 2 * t) (by omega), cc (300 + t) (by omega)]
      refine ⟨?_, r2.fr (F _ (by omega) (by omega)) (F _ (by omega) (by omega)) (F _ (by omega) (by omega)), ?_⟩
      · rw [(F 101 (by omega) (by omega)).2.2.2.2.1]; exact r1
      · rw [(F (300 + t) (by omega) (by omega)).2.1]; exact r3
    · by_cases ct : t = b
      · subst ct
        rw [cc 102 (by omega), ce, cu, cv]
        refine ⟨by simp only [am_hs, true_and, and_true, and_self, true_or, or_true, false_or, or_false, false_and, and_false, not_true_eq_false, not_false_eq_true, Classical.not_not, true_implies, false_implies, implies_true, exists_eq_left, exists_eq_left', Option.some.injEq, reduceIte, Nat.reduceEqDiff, Nat.reduceLT, Nat.reduceLeDiff, Nat.reduceAdd, Nat.reduceSub, Nat.reduceMul, eq_self, ne_eq, and_imp, forall_const, reduceCtorEq, am_w, List.map_cons, List.map_nil, List.sum_cons, List.sum_nil, Value.category, Nat.zero_le, Nat.le_refl], cs.fr (fr1.sC ne) (fr1.sC nu) (fr1.sC nv), i3, ?_⟩
        show am_I k2 1 2 e = Int32.ofNat 0
        rw [i2]; exact Ie
      · obtain ⟨r1, r2, r3, r4⟩ := q12 t (by omega)
        have F := fun j hj hn => (L j hj).tr (fr1.sC (h := k2) (i := b) (v := some e) (ne102 j hj hn))
        rw [cc 102 (by omega), cc (200 + 3 * t) (by omega), cc (201 + 3 * t) (by omega), cc (202 + 3 * t) (by omega)]
        refine ⟨?_, r2.fr (F _ (by omega) (by omega)) (F _ (by omega) (by omega)) (F _ (by omega) (by omega)), ?_, ?_⟩
        · simp only [am_hs, ct, true_and, and_true, and_self, true_or, or_true, false_or, or_false, false_and, and_false, not_true_eq_false, not_false_eq_true, Classical.not_not, true_implies, false_implies, implies_true, exists_eq_left, exists_eq_left', Option.some.injEq, reduceIte, Nat.reduceEqDiff, Nat.reduceLT, Nat.reduceLeDiff, Nat.reduceAdd, Nat.reduceSub, Nat.reduceMul, eq_self, ne_eq, and_imp, forall_const, reduceCtorEq, am_w, List.map_cons, List.map_nil, List.sum_cons, List.sum_nil, Value.category, Nat.zero_le, Nat.le_refl]
          rw [l102.2.2.2.2.1]; exact r1
        · rw [(F (200 + 3 * t) (by omega) (by omega)).2.2.2.2.2.1]; exact r3
        · rw [(F (200 + 3 * t) (by omega) (by omega)).2.2.2.2.2.1]; exact r4
    · show am_I k2 0 1 a0 = Int32.ofNat 0
      rw [fa.2.2.2.2.2.1]; exact q13
    · show am_U k2 = _; omega
    · show am_V k2 = _; omega
end INA
