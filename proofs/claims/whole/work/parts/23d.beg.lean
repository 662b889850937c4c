/-! deps: 23c -/
/-! ===== the law from its beginning ===== -/
def lwL : List Nat := [60, 59, 58, 57, 56, 55, 54, 53, 52, 50, 49, 48, 47, 46, 45, 44, 43, 42, 40, 39, 38, 37, 36, 35, 34, 33, 32, 31, 26, 25, 23, 22, 21, 18, 17, 16, 15, 14, 13, 12, 11, 10, 9, 8, 7, 6, 5, 4, 3, 2]
def lwS : sS := ((0, fun _ => frE 0, fun _ => (true, 0, fun _ => 0, fun _ => 0)), 0, fun _ => 0, Int32.ofNat 0)
theorem lwS_w : wfS lwS := ⟨⟨by decide, fun i hi => absurd hi (Nat.not_lt_zero i), fun b _ => ⟨Nat.zero_le _, fun _ c hc => absurd hc (Nat.not_lt_zero c)⟩, by decide⟩, by decide, fun j hj => absurd hj (Nat.not_lt_zero j)⟩
theorem mu_L : ∀ k, k < 63 → (mkl.getD k (0, 0)).1 ≠ 0 → k ∈ lwL := by decide
section BEG
variable {tt : Nat → Nat} {h h1 h2 h3 k1 k2 : am_H} {c cm cd ad a0 : Nat → Nat} {m x sc ou L : Nat} {xs : Nat → Int32}
theorem adN_j {M : Nat} (hi : ∀ k l, mu k → mu l → cm k = cm l → k = l) (hM : ∀ k, k < 63 → cm k < M) : ∀ k l, adN cm M k = adN cm M l → k = l := by
  intro k l e
  by_cases c1 : mu k
  · by_cases c2 : mu l
    · rw [adN_u c1, adN_u c2] at e; exact hi k l c1 c2 e
    · rw [adN_u c1, adN_f c2] at e
      have := hM k c1.1
      omega
  · by_cases c2 : mu l
    · rw [adN_f c1, adN_u c2] at e
      have := hM l c2.1
      omega
    · rw [adN_f c1, adN_f c2] at e
      omega
/-- the reference as it is made -/
theorem lm_0 (o : OB k2 h2 m 10 (fun k => mkl.getD k (0, 0)) cm lwL 50 79328) (hm : am_K k2 m = 11) (hI : ∀ f, am_I k2 10 f m = Int32.ofNat 0) (fm : fr1 h2 h3 m) (fa : ∀ k, mu k → fr1 h2 h3 (cm k)) : LMo m cm h3 lwS := by
  obtain ⟨n1, n2, n3, n4, n5, n6, n7, n8, n9⟩ := o
  have mem : ∀ k, mu k → k ∈ lwL := fun k hk => mu_L k hk.1 hk.2
  obtain ⟨M, hM⟩ := far cm 63
  have A0 : ∀ k j, mu k → am_A h3 (adN cm M k) j = Int32.ofNat 0 := fun k j hk => by rw [adN_u hk, (fa k hk).2.2.1]; exact (n5 k (mem k hk)).2.2.2 j
  refine ⟨adN cm M, fun k hk => adN_u hk, ⟨by rw [fm.1, n3 m n4]; exact hm, fun k hk => ?_, adN_j (fun k l hk hl e => n1.1 k l (mem k hk) (mem l hl) e) hM⟩, ?_, fun i hi => absurd hi (Nat.not_lt_zero i), fun b hb => ⟨A0 17 b ⟨by decide, by decide⟩, fun _ => ⟨A0 14 b ⟨by decide, by decide⟩, fun j hj => absurd hj (Nat.not_lt_zero j)⟩, fun _ => A0 14 b ⟨by decide, by decide⟩⟩, ?_, fun j hj => absurd hj (Nat.not_lt_zero j), ?_, fun a z => z.elim⟩
  · by_cases z : (mkl.getD k (0, 0)).1 = 0
    · exact Or.inl z
    · obtain ⟨w1, w2, w3, _⟩ := n5 k (mem k ⟨hk, z⟩)
      rw [adN_u ⟨hk, z⟩, fm.2.2.2.2.2.2.2, (fa k ⟨hk, z⟩).1, (fa k ⟨hk, z⟩).2.1]
      exact Or.inr ⟨w1, w2, w3⟩
  · rw [fm.2.2.2.2.2.1, (n6 10 1).1]; exact hI 1
  · rw [fm.2.2.2.2.2.1, (n6 10 19).1]; exact hI 19
  · rw [fm.2.2.2.2.2.1, (n6 10 20).1]; exact hI 20
theorem DC_b {j : Nat} (h : DC j) : j ≠ 0 ∧ j < 900 := by unfold DC DR DG at h; omega
theorem cK_D {k : Nat} (h : cK k) : k = 0 ∨ DC k := by
  have d : ∀ k, k < 55 → (42 ≤ k ∧ k ≤ 46) ∨ (48 ≤ k ∧ k ≤ 54) → ¬ (skl.getD (k - 40) (0, 0)).1 = 0 := by decide
  by_cases c : (42 ≤ k ∧ k ≤ 46) ∨ (48 ≤ k ∧ k ≤ 54)
  · exact Or.inr (Or.inr (Or.inr (Or.inr (Or.inr (Or.inr ⟨by omega, by omega, d k (by omega) c⟩)))))
  · unfold cK at h
    by_cases c2 : 30 ≤ k ∧ k ≤ 34
    · exact Or.inr (Or.inr (Or.inr (Or.inr (Or.inr (Or.inl c2)))))
    · unfold DC DG
      omega
/-- the class as it is made -/
theorem lc_0 (q : cQ k1 x h1) (hx : am_K k1 x ≠ 0) (L13 : ∀ a, am_K h1 a ≠ 0 → fr1 h1 h3 a) (tk : tk_s tt h3) {P : Nat → Prop} (fP : ∃ M0, ∀ a, P a → a < M0) (hP : ∀ a, P a → am_K h3 a ≠ 0 ∧ a ≠ x ∧ (am_K k1 a ≠ 0 ∨ am_K h1 a = 0)) : ∃ cd bb, cd 0 = x ∧ RC tt P h3 cd bb 0 0 lwS := by
  obtain ⟨c, n, kx, R0, R1, R2, R3, R4, R5, G0, G1, T0, T1, W, RR, s, g, _, _⟩ := q
  obtain ⟨M0, hM0⟩ := fP
  obtain ⟨M1, hM1⟩ := far c 900
  have lv : ∀ j, DC j → am_K h1 (c j) ≠ 0 := fun j hj => (n.2 j hj).2
  have F : ∀ j, DC j → fr1 h1 h3 (c j) := fun j hj => L13 _ (lv j hj)
  have fx : fr1 h1 h3 x := L13 x (by rw [kx]; decide)
  have cx : ∀ j, DC j → c j ≠ x := fun j hj z => hx (by rw [← z]; exact (n.2 j hj).1)
  -- the names
  have ex : ∃ cd : Nat → Nat, cd 0 = x ∧ (∀ j, DC j → cd j = c j) ∧ (∀ j, j ≠ 0 → ¬ DC j → cd j = M0 + M1 + x + 1 + j) := by
    refine ⟨fun j => if j = 0 then x else @ite Nat (DC j) (Classical.propDecidable (DC j)) (c j) (M0 + M1 + x + 1 + j), rfl, fun j hj => ?_, fun j h0 hj => ?_⟩
    · simp only [if_neg (DC_b hj).1, if_pos hj]
    · simp only [if_neg h0, if_neg hj]
  obtain ⟨cd, d0, d1, d2⟩ := ex
  have inj : ∀ j l, cd j = cd l → j = l := by
    intro j l e
    by_cases j0 : j = 0
    · by_cases l0 : l = 0
      · rw [j0, l0]
      · by_cases lD : DC l
        · rw [j0, d0, d1 l lD] at e; exact absurd e.symm (cx l lD)
        · rw [j0, d0, d2 l l0 lD] at e; omega
    · by_cases jD : DC j
      · have bj := hM1 j (DC_b jD).2
        by_cases l0 : l = 0
        · rw [l0, d0, d1 j jD] at e; exact absurd e (cx j jD)
        · by_cases lD : DC l
          · rw [d1 j jD, d1 l lD] at e; exact n.1 j l jD lD e
          · rw [d1 j jD, d2 l l0 lD] at e; omega
      · by_cases l0 : l = 0
        · rw [l0, d0, d2 j j0 jD] at e; omega
        · by_cases lD : DC l
          · have bl := hM1 l (DC_b lD).2
            rw [d2 j j0 jD, d1 l lD] at e; omega
          · rw [d2 j j0 jD, d2 l l0 lD] at e; omega
  have A0 : GA 0 cd h3 := G0.mv (w := 0) (w' := 0) (fun j hj => by
    rw [Nat.mul_zero, Nat.add_zero]; exact d1 j (Or.inl hj)) (fun j hj => by rw [Nat.mul_zero, Nat.add_zero]; exact F j (Or.inl hj))
  have A1 : GA 1 cd h3 := G1.mv (w := 1) (w' := 1) (fun j hj => d1 _ (Or.inr (Or.inl ⟨by omega, by rw [Nat.mul_one, Nat.add_sub_cancel]; exact hj⟩))) (fun j hj => F _ (Or.inr (Or.inl ⟨by omega, by rw [Nat.mul_one, Nat.add_sub_cancel]; exact hj⟩)))
  have dt : ∀ w j, w < 2 → j = c_tp w ∨ j = c_tb w → DC j := fun w j hw hj => Or.inr (Or.inr (Or.inl (by unfold c_tp c_tb at hj; omega)))
  have B0 : GT 0 cd h3 := T0.mv (fun j hj => d1 j (dt 0 j (by omega) hj)) (fun j hj => F j (dt 0 j (by omega) hj))
  have B1 : GT 1 cd h3 := T1.mv (fun j hj => d1 j (dt 1 j (by omega) hj)) (fun j hj => F j (dt 1 j (by omega) hj))
  have W' : cw_s h3 cd := W.mv (fun j hj => d1 j (Or.inr (Or.inr (Or.inr (Or.inl hj))))) (fun j hj => F j (Or.inr (Or.inr (Or.inr (Or.inl hj)))))
  have R' : GR cd h3 := RR.mv (fun j hj => d1 j (Or.inr (Or.inr (Or.inr (Or.inr hj))))) (fun j hj => F j (Or.inr (Or.inr (Or.inr (Or.inr hj)))))
  have ne : ∀ a, P a → ∀ k, a ≠ cd k := by
    intro a ha k z
    obtain ⟨p1, p2, p3⟩ := hP a ha
    have p4 := hM0 a ha
    by_cases k0 : k = 0
    · rw [k0, d0] at z; exact p2 z
    · by_cases kD : DC k
      · rw [d1 k kD] at z
        rcases p3 with y | y
        · exact y (by rw [z]; exact (n.2 k kD).1)
        · exact lv k kD (by rw [← z]; exact y)
      · rw [d2 k k0 kD] at z; omega
  refine ⟨cd, bbc cd, d0, ⟨by decide, by decide, ⟨inj, fun w i w' i' hw hi hw' hi' e => ?_, fun w i k hw hi hk e => ?_⟩, ⟨?_, ?_, ?_, ?_, ?_, ?_, ?_⟩, fun w hw => ?_, W', R'.1⟩, ⟨?_, fun i hi => absurd hi (Nat.not_lt_zero i), fun b hb => ?_⟩, lwS_w.1, ⟨B0.2, by decide, fun j hj => absurd hj (Nat.not_lt_zero j)⟩, R'.2, tk, fun a ha => ⟨(hP a ha).1, ne a ha, fun w i hw hi => ne a ha _⟩⟩
  · have := inj _ _ e
    omega
  · have := inj _ _ e
    unfold cK at hk
    omega
  · rw [d0, fx.1]; exact kx
  · rw [d0, fx.2.2.2.2.2.2.2, R0]; exact congrArg some (d1 100 (by unfold DC DG; omega)).symm
  · rw [d0, fx.2.2.2.2.2.2.2, R1]; exact congrArg some (d1 600 (by unfold DC DG; omega)).symm
  · rw [d0, fx.2.2.2.2.2.2.2, R2]; exact congrArg some (d1 10 (by unfold DC DG; omega)).symm
  · rw [d0, fx.2.2.2.2.2.2.2, R3]; exact congrArg some (d1 12 (by unfold DC DG; omega)).symm
  · rw [d0, fx.2.2.2.2.2.2.2, R4]; exact congrArg some (d1 20 (by unfold DC DG; omega)).symm
  · rw [d0, fx.2.2.2.2.2.2.2, R5]; exact congrArg some (d1 30 (by unfold DC DR; omega)).symm
  · rcases (show w = 0 ∨ w = 1 by omega) with rfl | rfl
    · exact ⟨A0.1, B0.1⟩
    · exact ⟨A1.1, B1.1⟩
  · exact A0.2.2.1
  · obtain ⟨i3, i2⟩ := A0.2.1 b hb
    exact ⟨i3, 0, by omega, i2, fun c hc => absurd hc (Nat.not_lt_zero c), fun _ => ⟨rfl, fun j hj => absurd hj (Nat.not_lt_zero j)⟩⟩
theorem law_ev (hL : L ≤ 2560) (s1 : am_K h sc = 31) (s2 : am_N h sc = L) (s3 : ∀ j, j < L → am_A h sc j = xs j) (tk : tk_s tt h) (hU : am_U h = 0) (hV : am_V h = 0) : am_Ev tt 205 0 [some (.ref sc), none, none, none, none, none, none] [] h (am_pI lwQ no_x) := by
  have lc : am_LC = 603072 := rfl
  have ls : am_LS = 7190634 := rfl
  refine vc_205_0 tt _ h _ _ ⟨by omega, by omega, fun x hx => ?_⟩
  have Kx : am_K (am_nO h x 9) x = 10 := up_eq
  have U1 : am_U (am_nO h x 9) = am_U h + 1 := rfl
  have V1 : am_V (am_nO h x 9) = am_V h + 6 := rfl
  have g1 : gK h (am_nO h x 9) := gK.nO hx
  have f1 : gs (fun _ => False) h (am_nO h x 9) := gs.nO hx
  generalize am_nO h x 9 = k1 at *
  refine ⟨_, ct_iX Kx (by omega) (by omega), fun h1 q => ?_⟩
  have q' := q
  obtain ⟨c, n, kx, _, _, _, _, _, _, _, _, _, _, _, _, sx, gx, U2, V2⟩ := q'
  refine vc_205_8 tt _ _ _ _ _ ⟨by omega, by omega, fun m hm => ?_⟩
  have Km : am_K (am_nO h1 m 10) m = 11 := up_eq
  have Im : ∀ f, am_I (am_nO h1 m 10) 10 f m = Int32.ofNat 0 := fun f => if_pos rfl
  have U3 : am_U (am_nO h1 m 10) = am_U h1 + 1 := rfl
  have V3 : am_V (am_nO h1 m 10) = am_V h1 + 63 := rfl
  have g3 : gK h1 (am_nO h1 m 10) := gK.nO hm
  have f3 : gs (fun _ => False) h1 (am_nO h1 m 10) := gs.nO hm
  generalize am_nO h1 m 10 = k2 at *
  refine ⟨fun h2 => ∃ cm, OB k2 h2 m 10 (fun k => mkl.getD k (0, 0)) cm lwL 50 79328, ob_128 Km (by omega) (by omega) (fun k c o => ⟨c, o⟩), fun h2 w2 => ?_⟩
  obtain ⟨cm, o⟩ := w2
  have U4 := o.2.2.2.2.2.2.2.1
  have V4 := o.2.2.2.2.2.2.2.2
  have g4 := o.2.2.1
  have f4 := o.2.1
  have km2 := o.kk Km
  refine vc_205_16 tt _ _ _ _ _ _ ⟨by decide, by decide, by omega, by show am_V h2 + 1 ≤ am_LS; omega, fun ou hou => vc_205_20 tt _ _ _ _ _ _ _ ?_⟩
  have e1 : (Int32.ofNat 1).toNatClampNeg = 1 := rfl
  rw [e1]
  have Ko : am_K (am_nA h2 ou 22 1) ou = 22 := up_eq
  have No : am_N (am_nA h2 ou 22 1) ou = 1 := up_eq
  have U5 : am_U (am_nA h2 ou 22 1) = am_U h2 + 1 := rfl
  have V5 : am_V (am_nA h2 ou 22 1) = am_V h2 + 1 := rfl
  have g5 : gK h2 (am_nA h2 ou 22 1) := gK.nA hou
  have f5 : gs (fun _ => False) h2 (am_nA h2 ou 22 1) := gs.nA hou
  generalize am_nA h2 ou 22 1 = h3 at *
  have mem : ∀ k, mu k → k ∈ lwL := fun k hk => mu_L k hk.1 hk.2
  have km1 : ∀ k, mu k → am_K k2 (cm k) = 0 ∧ am_K h2 (cm k) ≠ 0 := fun k hk => o.1.2 k (mem k hk)
  have L13 : ∀ a, am_K h1 a ≠ 0 → fr1 h1 h3 a := fun a ha => by
    have a2 : am_K k2 a ≠ 0 := by rw [g3 a ha]; exact ha
    have a3 : am_K h2 a ≠ 0 := by rw [g4 a a2]; exact a2
    exact ((f3 a ha (fun z => z)).tr (f4 a a2 (fun z => ha (by rw [z]; exact hm)))).tr (f5 a a3 (fun z => z))
  have L03 : ∀ a, am_K h a ≠ 0 → fr1 h h3 a := fun a ha => by
    have a1 : am_K k1 a ≠ 0 := by rw [g1 a ha]; exact ha
    have a2 : am_K h1 a ≠ 0 := by rw [gx a a1]; exact a1
    exact ((f1 a ha (fun z => z)).tr (sx a a1 (fun z => ha (by rw [z]; exact hx)))).tr (L13 a a2)
  have x1 : am_K h1 x ≠ 0 := by rw [kx]; decide
  have x2 : am_K h2 x ≠ 0 := by rw [g4 x (by rw [g3 x x1]; exact x1), g3 x x1]; exact x1
  have fsc := L03 sc (by rw [s1]; decide)
  have t0 := L03 (tt 0) (by rw [tk.2.2.2.1]; decide)
  have t1 := L03 (tt 1) (by rw [tk.1]; decide)
  have tk3 : tk_s tt h3 := ⟨by rw [t1.1]; exact tk.1, by rw [t1.2.1]; exact tk.2.1, fun k hk => by rw [t1.2.2.1]; exact tk.2.2.1 k hk, by rw [t0.1]; exact tk.2.2.2.1, by rw [t0.2.1]; exact tk.2.2.2.2.1, fun k hk => by rw [t0.2.2.1]; exact tk.2.2.2.2.2 k hk⟩
  have f2m : fr1 h2 h3 m := f5 m (by rw [km2]; decide) (fun z => z)
  have f2c : ∀ k, mu k → fr1 h2 h3 (cm k) := fun k hk => f5 _ (km1 k hk).2 (fun z => z)
  obtain ⟨M, hM⟩ := far cm 63
  obtain ⟨cd, bb, e0, rc⟩ := lc_0 (P := PCf m cm sc ou) q (by rw [Kx]; decide) L13 tk3 ⟨M + m + sc + ou + 1, fun a ha => by
    rcases ha with rfl | ⟨k, hk, rfl⟩ | rfl | rfl
    · omega
    · have := hM k hk.1; omega
    · omega
    · omega⟩ (fun a ha => by
    rcases ha with rfl | ⟨k, hk, rfl⟩ | rfl | rfl
    · exact ⟨by rw [f2m.1, km2]; decide, fun z => x1 (by rw [← z]; exact hm), Or.inr hm⟩
    · refine ⟨by rw [(f2c k hk).1]; exact (km1 k hk).2, fun z => ?_, Or.inr (Classical.not_not.1 (fun w => ?_))⟩
      · have := (km1 k hk).1
        rw [z, g3 x x1] at this
        exact x1 this
      · have := (km1 k hk).1
        rw [g3 _ w] at this
        exact w this
    · exact ⟨by rw [fsc.1, s1]; decide, (fun z => by rw [← z, s1] at hx; cases hx), Or.inl (by rw [g1 a (by rw [s1]; decide), s1]; decide)⟩
    · exact ⟨by rw [Ko]; decide, fun z => x2 (by rw [← z]; exact hou), Or.inr (Classical.not_not.1 (fun w => by
        have w2 : am_K k2 a ≠ 0 := by rw [g3 a w]; exact w
        have w3 : am_K h2 a ≠ 0 := by rw [g4 a w2]; exact w2
        exact w3 hou))⟩)
  have := lw_loop (tt := tt) (x := x) (m := m) (a0 := cm) (sc := sc) (ou := ou) (xs := xs) hL (U0 := 300) (V0 := 100000) (by omega) (by omega) 513 0 h3 lwS (by omega) (by omega) ⟨cd, bb, 0, 0, e0, rc, by omega, by omega⟩ (lm_0 o Km Im f2m f2c) ⟨by rw [fsc.1]; exact s1, by rw [fsc.2.1]; exact s2, fun j hj => by rw [fsc.2.2.1]; exact s3 j hj, Ko, No, fun k hk z => (km1 k hk).2 (by rw [← z]; exact hou)⟩
  exact this
end BEG
