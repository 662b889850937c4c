/-! deps: 21b -/
/-! ===== the law: class and reference stand side by side ===== -/
/-- the reference's rows that are -/
def mu (k : Nat) : Prop := k < 63 ∧ (mkl.getD k (0, 0)).1 ≠ 0
theorem mu_dec (k : Nat) : mu k ∨ ¬ mu k := Classical.em _
/-- the class's own cells -/
def CC (tt : Nat → Nat) (cd : Nat → Nat) (bb : Nat → Nat → Nat) (a : Nat) : Prop := (∃ k, cK k ∧ a = cd k) ∨ (∃ w i, w < 2 ∧ i < 24 ∧ a = bb w i) ∨ a = tt 0 ∨ a = tt 1
section LF
variable {tt : Nat → Nat} {P P' : Nat → Prop} {h h' : am_H} {cd ad ad' : Nat → Nat} {bb : Nat → Nat → Nat} {wa wt m : Nat} {S : sS}
theorem cl_s.fr (s : cl_s h cd bb wa wt) (f : ∀ a, CC tt cd bb a → fr1 h h' a) : cl_s h' cd bb wa wt := by
  have fk : ∀ k, cK k → fr1 h h' (cd k) := fun k hk => f _ (Or.inl ⟨k, hk, rfl⟩)
  have fb : ∀ w i, w < 2 → i < 24 → fr1 h h' (bb w i) := fun w i hw hi => f _ (Or.inr (Or.inl ⟨w, i, hw, hi, rfl⟩))
  have hK : ∀ k, cK k → am_K h' (cd k) = am_K h (cd k) := fun k hk => (fk k hk).1
  have hN : ∀ k, cK k → am_N h' (cd k) = am_N h (cd k) := fun k hk => (fk k hk).2.1
  have hC : ∀ k, cK k → am_C h' (cd k) = am_C h (cd k) := fun k hk => (fk k hk).2.2.2.2.1
  have hR : ∀ c j k, cK k → am_R h' c j (cd k) = am_R h c j (cd k) := fun c j k hk => (fk k hk).2.2.2.2.2.2.2 c j
  obtain ⟨s1, s2, s3, s4, s5, s6, s7⟩ := s
  have k0 : cK 0 := Or.inl rfl
  have kk : ∀ j, (20 ≤ j ∧ j ≤ 22) ∨ (30 ≤ j ∧ j ≤ 34) → cK j := fun j hj => by unfold cK; omega
  refine ⟨s1, s2, s3, ?_, fun w hw => ⟨?_, ?_⟩, ?_, ?_⟩
  · obtain ⟨x1, x2, x3, x4, x5, x6, x7⟩ := s4
    exact ⟨by rw [hK 0 k0]; exact x1, by rw [hR _ _ _ k0]; exact x2, by rw [hR _ _ _ k0]; exact x3, by rw [hR _ _ _ k0]; exact x4, by rw [hR _ _ _ k0]; exact x5, by rw [hR _ _ _ k0]; exact x6, by rw [hR _ _ _ k0]; exact x7⟩
  · obtain ⟨a1, a2, a3, a4, a5, a6, a7, a8, a9⟩ := (s5 w hw).1
    refine ⟨by rw [hK _ (cK_ar hw)]; exact a1, by rw [hR _ _ _ (cK_ar hw)]; exact a2, by rw [hK _ (cK_ea hw)]; exact a3, by rw [hN _ (cK_ea hw)]; exact a4, by rw [hR _ _ _ (cK_ar hw)]; exact a5, by rw [hK _ (cK_ba hw)]; exact a6, by rw [hN _ (cK_ba hw)]; exact a7, fun i hi => ⟨?_, ?_⟩, fun b hb => ⟨?_, ?_⟩⟩
    · rw [hC _ (cK_ea hw)]; exact (a8 i hi).1
    · obtain ⟨e1, e2, e3, e4, e5, e6, e7, e8⟩ := (a8 i hi).2
      have fbi := fb w i hw hi
      exact ⟨by rw [hK _ (cK_en hw hi)]; exact e1, by rw [hR _ _ _ (cK_en hw hi)]; exact e2, by rw [hK _ (cK_un hw hi)]; exact e3, by rw [hN _ (cK_un hw hi)]; exact e4, by rw [hR _ _ _ (cK_en hw hi)]; exact e5, by rw [fbi.1]; exact e6, by rw [fbi.2.1]; exact e7, by rw [fbi.2.1]; exact e8⟩
    · rw [hC _ (cK_ba hw)]; exact (a9 b hb).1
    · obtain ⟨e1, e2, e3, e4, e5, e6, e7⟩ := (a9 b hb).2
      exact ⟨by rw [hK _ (cK_bk hw hb)]; exact e1, by rw [hR _ _ _ (cK_bk hw hb)]; exact e2, by rw [hK _ (cK_bi hw hb)]; exact e3, by rw [hN _ (cK_bi hw hb)]; exact e4, by rw [hR _ _ _ (cK_bk hw hb)]; exact e5, by rw [hK _ (cK_bd hw hb)]; exact e6, by rw [hN _ (cK_bd hw hb)]; exact e7⟩
  · obtain ⟨t1, t2, t3, t4⟩ := (s5 w hw).2
    exact ⟨by rw [hK _ (cK_tp hw)]; exact t1, by rw [hR _ _ _ (cK_tp hw)]; exact t2, by rw [hK _ (cK_tb hw)]; exact t3, by rw [hN _ (cK_tb hw)]; exact t4⟩
  · obtain ⟨w1, w2, w3, w4, w5, w6, w7⟩ := s6
    exact ⟨by rw [hK _ (kk _ (by omega))]; exact w1, by rw [hR _ _ _ (kk _ (by omega))]; exact w2, by rw [hK _ (kk _ (by omega))]; exact w3, by rw [hN _ (kk _ (by omega))]; exact w4, by rw [hR _ _ _ (kk _ (by omega))]; exact w5, by rw [hK _ (kk _ (by omega))]; exact w6, by rw [hN _ (kk _ (by omega))]; exact w7⟩
  · obtain ⟨r1, r2, r3, r4, r5, r6, r7, r8, r9, r10, r11, r12, r13⟩ := s7
    refine ⟨by rw [hK _ (kk _ (by omega))]; exact r1, by rw [hR _ _ _ (kk _ (by omega))]; exact r2, by rw [hR _ _ _ (kk _ (by omega))]; exact r3, by rw [hR _ _ _ (kk _ (by omega))]; exact r4, by rw [hK _ (kk _ (by omega))]; exact r5, by rw [hK _ (kk _ (by omega))]; exact r6, by rw [hR _ _ _ (kk _ (by omega))]; exact r7, fun k hk => ?_, by rw [hK _ (kk _ (by omega))]; exact r9, by rw [hR _ _ _ (kk _ (by omega))]; exact r10, by rw [hR _ _ _ (kk _ (by omega))]; exact r11, by rw [hK _ (kk _ (by omega))]; exact r12, by rw [hN _ (kk _ (by omega))]; exact r13⟩
    by_cases c : (skl.getD k (0, 0)).1 = 0
    · exact Or.inl c
    · rw [hR _ _ _ (kk _ (by omega)), hK _ (cK_st hk c), hN _ (cK_st hk c)]
      exact r8 k hk
theorem RC.fr (q : RC tt P h cd bb wa wt S) (f : ∀ a, CC tt cd bb a → fr1 h h' a) (hP : ∀ a, P' a → am_K h' a ≠ 0 ∧ (∀ k, a ≠ cd k) ∧ ∀ w i, w < 2 → i < 24 → a ≠ bb w i) : RC tt P' h' cd bb wa wt S := by
  have fk : ∀ k, cK k → fr1 h h' (cd k) := fun k hk => f _ (Or.inl ⟨k, hk, rfl⟩)
  have fb : ∀ w i, w < 2 → i < 24 → fr1 h h' (bb w i) := fun w i hw hi => f _ (Or.inr (Or.inl ⟨w, i, hw, hi, rfl⟩))
  obtain ⟨q1, q2, q3, q4, q5, q6, q7⟩ := q
  have wa2 := q1.1
  have wt2 := q1.2.1
  refine ⟨q1.fr f, ⟨?_, fun i hi => ?_, fun b hb => ?_⟩, q3, ⟨?_, q4.2.1, fun j hj => ?_⟩, ?_, ?_, hP⟩
  · rw [(fk _ (cK_ar wa2)).2.2.2.2.2.1]; exact q2.1
  · have i24 : i < 24 := by have := q3.1; omega
    have g1 := fk _ (cK_en wa2 i24)
    have g2 := fk _ (cK_un wa2 i24)
    have g3 := fb _ _ wa2 i24
    exact (q2.2.1 i hi).same (fun k => g1.2.2.2.2.2.1 4 k) (g1.2.2.2.2.2.2.1 4 8) g2.2.2.1 g3.2.2.1 g3.2.1
  · have g1 := fk _ (cK_bk wa2 hb)
    have g2 := fk _ (cK_bi wa2 hb)
    have g3 := fk _ (cK_bd wa2 hb)
    exact (q2.2.2 b hb).same (fun k => g1.2.2.2.2.2.1 1 k) g2.2.2.1 g3.2.2.1
  · rw [(fk _ (cK_tp wt2)).2.2.2.2.2.1]; exact q4.1
  · rw [(fk _ (cK_tb wt2)).2.2.1]; exact q4.2.2 j hj
  · rw [(fk 31 (by unfold cK; omega)).2.2.2.2.2.1]; exact q5
  · have g0 := f _ (Or.inr (Or.inr (Or.inl rfl)))
    have g1 := f _ (Or.inr (Or.inr (Or.inr rfl)))
    obtain ⟨t1, t2, t3, t4, t5, t6⟩ := q6
    exact ⟨by rw [g1.1]; exact t1, by rw [g1.2.1]; exact t2, fun k hk => by rw [g1.2.2.1]; exact t3 k hk, by rw [g0.1]; exact t4, by rw [g0.2.1]; exact t5, fun k hk => by rw [g0.2.2.1]; exact t6 k hk⟩
theorem RC.wk (q : RC tt P h cd bb wa wt S) (hP : ∀ a, P' a → P a) : RC tt P' h cd bb wa wt S := ⟨q.1, q.2.1, q.2.2.1, q.2.2.2.1, q.2.2.2.2.1, q.2.2.2.2.2.1, fun a ha => q.2.2.2.2.2.2 a (hP a ha)⟩
/-- the reference, where its cells are as they were; other names for what is not -/
theorem RM.fr (q : RM P h m ad S) (wf : wfS S) (fm : fr1 h h' m) (fa : ∀ k, mu k → fr1 h h' (ad k)) (ha : ∀ k, mu k → ad' k = ad k) (hi : ∀ k l, ad' k = ad' l → k = l) (hP : ∀ a, P' a → am_K h' a ≠ 0 ∧ a ≠ m ∧ ∀ k, a ≠ ad' k) : RM P' h' m ad' S := by
  obtain ⟨q1, q2, q3, q4, q5, q6, q7, q8⟩ := q
  have u : ∀ k, k < 63 → (mkl.getD k (0, 0)).1 ≠ 0 → mu k := fun k a b => ⟨a, b⟩
  have A : ∀ k, mu k → am_A h' (ad' k) = am_A h (ad k) ∧ am_B h' (ad' k) = am_B h (ad k) := fun k hk => by rw [ha k hk]; exact ⟨(fa k hk).2.2.1, (fa k hk).2.2.2.1⟩
  refine ⟨⟨by rw [fm.1]; exact q1.1, fun k hk => ?_, hi⟩, by rw [fm.2.2.2.2.2.1]; exact q2, fun i hii => ?_, fun b hb => ?_, by rw [fm.2.2.2.2.2.1]; exact q5, fun j hj => by rw [(A 18 (u _ (by decide) (by decide))).1]; exact q6 j hj, by rw [fm.2.2.2.2.2.1]; exact q7, hP⟩
  · rcases q1.2.1 k hk with z | ⟨z1, z2, z3⟩
    · exact Or.inl z
    · by_cases c : (mkl.getD k (0, 0)).1 = 0
      · exact Or.inl c
      · have hk' := u k hk c
        rw [ha k hk']
        exact Or.inr ⟨by rw [fm.2.2.2.2.2.2.2]; exact z1, by rw [(fa k hk').1]; exact z2, by rw [(fa k hk').2.1]; exact z3⟩
  · obtain ⟨y1, y2, y3, y4, y5, y6, y7, y8, y9, y10, y11, y12⟩ := q3 i hii
    have B := fun k a b => (A k (u k a b)).1
    exact ⟨by rw [B 2 (by decide) (by decide)]; exact y1, by rw [B 3 (by decide) (by decide)]; exact y2, fun j hj => by rw [B 4 (by decide) (by decide)]; exact y3 j hj, by rw [B 9 (by decide) (by decide)]; exact y4, by rw [B 11 (by decide) (by decide)]; exact y5, by rw [B 12 (by decide) (by decide)]; exact y6, by rw [B 5 (by decide) (by decide)]; exact y7, by rw [(A 6 (u _ (by decide) (by decide))).2]; exact y8, by rw [B 7 (by decide) (by decide)]; exact y9, by rw [B 8 (by decide) (by decide)]; exact y10, by rw [B 13 (by decide) (by decide)]; exact y11, fun hp j hj => by rw [B 10 (by decide) (by decide)]; exact y12 hp j hj⟩
  · obtain ⟨y1, y2, y3⟩ := q4 b hb
    have B := fun k a b => (A k (u k a b)).1
    refine ⟨by rw [B 17 (by decide) (by decide)]; exact y1, fun kn => ⟨by rw [B 14 (by decide) (by decide)]; exact (y2 kn).1, fun j hj => ?_⟩, fun kn => by rw [B 14 (by decide) (by decide)]; exact y3 kn⟩
    rw [B 15 (by decide) (by decide), B 16 (by decide) (by decide)]
    exact (y2 kn).2 j hj
/-- names for what is not: far from all -/
theorem far (g : Nat → Nat) : ∀ (n : Nat), ∃ M, ∀ k, k < n → g k < M
  | 0 => ⟨0, fun k hk => absurd hk (Nat.not_lt_zero k)⟩
  | n + 1 => by
    obtain ⟨M, hM⟩ := far g n
    refine ⟨M + g n + 1, fun k hk => ?_⟩
    by_cases c : k = n
    · subst c; omega
    · have := hM k (by omega)
      omega
/-- the reference's names made anew, far from M -/
def adN (ad : Nat → Nat) (M : Nat) (k : Nat) : Nat := if k < 63 ∧ (mkl.getD k (0, 0)).1 ≠ 0 then ad k else M + k
theorem adN_u {M k : Nat} (hk : mu k) : adN ad M k = ad k := if_pos hk
theorem adN_f {M k : Nat} (hk : ¬ mu k) : adN ad M k = M + k := if_neg hk
theorem adN_i {M : Nat} (hi : ∀ k l, ad k = ad l → k = l) (hM : ∀ k, k < 63 → ad k < M) : ∀ k l, adN ad M k = adN ad M l → k = l := by
  intro k l e
  by_cases c1 : mu k
  · by_cases c2 : mu l
    · rw [adN_u c1, adN_u c2] at e; exact hi k l e
    · rw [adN_u c1, adN_f c2] at e
      have := hM k c1.1
      omega
  · by_cases c2 : mu l
    · rw [adN_f c1, adN_u c2] at e
      have := hM l c2.1
      omega
    · rw [adN_f c1, adN_f c2] at e
      omega
end LF
