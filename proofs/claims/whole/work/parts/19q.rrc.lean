/-! deps: 19p -/
/-! ===== the class reads: what stands stays ===== -/
section RQ
variable {tt : Nat → Nat} {P : Nat → Prop} {h0 h h' h'' : am_H} {cd : Nat → Nat} {bb : Nat → Nat → Nat} {wa wt n p : Nat} {S : sS}
theorem s31 : ∀ k, k < 15 → (skl.getD k (0, 0)).1 ≠ 31 := by decide
theorem cl_31 (s : cl_s h cd bb wa wt) : ∀ k, cK k → am_K h (cd k) ≠ 31 := by
  obtain ⟨s1, s2, s3, s4, s5, s6, s7⟩ := s
  have nz : ∀ {a n : Nat}, am_K h a = n → n ≠ 31 → am_K h a ≠ 31 := fun e z => by rw [e]; exact z
  have arch : ∀ w, w < 2 → ∀ j, (j = c_ar w ∨ j = c_ea w ∨ j = c_ba w ∨ (∃ i, i < 24 ∧ (j = c_en w i ∨ j = c_un w i)) ∨ (∃ i, i < 6 ∧ (j = c_bk w i ∨ j = c_bi w i ∨ j = c_bd w i))) → am_K h (cd j) ≠ 31 := by
    intro w hw j hj
    obtain ⟨a1, a2, a3, a4, a5, a6, a7, a8, a9⟩ := (s5 w hw).1
    rcases hj with rfl | rfl | rfl | ⟨i, hi, rfl | rfl⟩ | ⟨i, hi, rfl | rfl | rfl⟩
    · exact nz a1 (by decide)
    · exact nz a3 (by decide)
    · exact nz a6 (by decide)
    · exact nz (a8 i hi).2.1 (by decide)
    · exact nz (a8 i hi).2.2.2.1 (by decide)
    · exact nz (a9 i hi).2.1 (by decide)
    · exact nz (a9 i hi).2.2.2.1 (by decide)
    · exact nz (a9 i hi).2.2.2.2.2.2.1 (by decide)
  have ent : ∀ w, w < 2 → ∀ j, 110 + 500 * w ≤ j → j ≤ 157 + 500 * w → am_K h (cd j) ≠ 31 := by
    intro w hw j h1 h2
    refine arch w hw j (Or.inr (Or.inr (Or.inr (Or.inl ⟨(j - (110 + 500 * w)) / 2, by omega, ?_⟩))))
    unfold c_en c_un
    omega
  have blk : ∀ w, w < 2 → ∀ j, 200 + 500 * w ≤ j → j ≤ 217 + 500 * w → am_K h (cd j) ≠ 31 := by
    intro w hw j h1 h2
    refine arch w hw j (Or.inr (Or.inr (Or.inr (Or.inr ⟨(j - (200 + 500 * w)) / 3, by omega, ?_⟩))))
    unfold c_bk c_bi c_bd
    omega
  obtain ⟨r1, r2, r3, r4, r5, r6, r7, r8, r9, r10, r11, r12, r13⟩ := s7
  obtain ⟨w1, w2, w3, w4, w5, w6, w7⟩ := s6
  have st : ∀ k, k < 15 → ¬ (skl.getD k (0, 0)).1 = 0 → am_K h (cd (40 + k)) ≠ 31 := by
    intro k hk h0
    rcases r8 k hk with e | e
    · exact absurd e h0
    · rw [e.2.1]; exact s31 k hk
  intro k hk
  rcases hk with rfl | hk | hk | hk | hk | hk | hk | hk | hk | hk | hk | hk
  · exact nz s4.1 (by decide)
  · have : k = 10 ∨ k = 11 ∨ k = 12 ∨ k = 13 := by omega
    rcases this with rfl | rfl | rfl | rfl
    · exact nz (s5 0 (by omega)).2.1 (by decide)
    · exact nz (s5 0 (by omega)).2.2.2.1 (by decide)
    · exact nz (s5 1 (by omega)).2.1 (by decide)
    · exact nz (s5 1 (by omega)).2.2.2.1 (by decide)
  · have : k = 20 ∨ k = 21 ∨ k = 22 := by omega
    rcases this with rfl | rfl | rfl
    · exact nz w1 (by decide)
    · exact nz w3 (by decide)
    · exact nz w6 (by decide)
  · have : k = 30 ∨ k = 31 ∨ k = 32 ∨ k = 33 ∨ k = 34 := by omega
    rcases this with rfl | rfl | rfl | rfl | rfl
    · exact nz r1 (by decide)
    · exact nz r5 (by decide)
    · exact nz r6 (by decide)
    · exact nz r9 (by decide)
    · exact nz r12 (by decide)
  · have : k = 40 + 2 ∨ k = 40 + 3 ∨ k = 40 + 4 ∨ k = 40 + 5 ∨ k = 40 + 6 := by omega
    rcases this with rfl | rfl | rfl | rfl | rfl <;> exact st _ (by decide) (by decide)
  · have : k = 40 + 8 ∨ k = 40 + 9 ∨ k = 40 + 10 ∨ k = 40 + 11 ∨ k = 40 + 12 ∨ k = 40 + 13 ∨ k = 40 + 14 := by omega
    rcases this with rfl | rfl | rfl | rfl | rfl | rfl | rfl <;> exact st _ (by decide) (by decide)
  · exact arch 0 (by omega) k (by unfold c_ar c_ea c_ba; omega)
  · exact ent 0 (by omega) k (by omega) (by omega)
  · exact blk 0 (by omega) k (by omega) (by omega)
  · exact arch 1 (by omega) k (by unfold c_ar c_ea c_ba; omega)
  · exact ent 1 (by omega) k (by omega) (by omega)
  · exact blk 1 (by omega) k (by omega) (by omega)
/-- rows that belong to the draft, its readers, the spare tape -/
def XD (wa wt k : Nat) : Prop := XA wa k ∨ k = c_tb (1 - wt)
theorem YA_w {c g k : Nat} (hw : wa < 2) (h : YA wa c g k) : k = 31 ∨ k = 32 ∨ (100 + 500 * (1 - wa) ≤ k ∧ k ≤ 217 + 500 * (1 - wa)) := by unfold YA at h; omega
theorem ce_v.dr {e u b : Nat} {v : sE} {p : Prop} (q : ce_v h e u b v p) (hI : ∀ k, am_I h' 4 k e = am_I h 4 k e) (hJ : am_J h' 4 8 e = am_J h 4 8 e) (hu : am_A h' u = am_A h u) (hb : am_A h' b = am_A h b) (hN : am_N h' b = am_N h b) : ce_v h' e u b v p := q.same hI hJ hu hb hN
/-- what stands is untouched by reading -/
theorem RC.dr (q : RC tt P h cd bb wa wt S) (hK : am_K h' = am_K h) (hN : am_N h' = am_N h) (hC : am_C h' = am_C h) (hR : ∀ c g a, c ≠ 2 → am_R h' c g a = am_R h c g a) (hA : ∀ a, (∀ k, XD wa wt k → cK k → a ≠ cd k) → (∀ i, i < 24 → a ≠ bb (1 - wa) i) → am_A h' a = am_A h a) (hI : ∀ c g a, (∀ k, YA wa c g k → a ≠ cd k) → am_I h' c g a = am_I h c g a ∧ am_J h' c g a = am_J h c g a) : RC tt P h' cd bb wa wt (S.1, S.2.1, S.2.2.1, am_I h' 2 3 (cd 31)) := by
  obtain ⟨q1, ⟨v1, v2, v3⟩, q3, q4, q5, q6, q7⟩ := q
  have ci := q1.2.2.1
  have w2 := q1.1
  have t2 := q1.2.1
  have w1 : 1 - wa < 2 := by omega
  have sa := (q1.2.2.2.2.1 wa w2).1
  have ya : ∀ c g k, (c = 0 ∨ c = 1 ∨ c = 4) → ¬ (100 + 500 * (1 - wa) ≤ k ∧ k ≤ 217 + 500 * (1 - wa)) → ∀ j, YA wa c g j → cd k ≠ cd j := fun c g k hc hk j hj e => by
    have := ci.1 _ _ e
    unfold YA at hj
    omega
  have xa : ∀ k, cK k → ¬ XD wa wt k → am_A h' (cd k) = am_A h (cd k) := fun k hk hx => hA _ (fun j hj hc e => hx (by rw [ci.1 _ _ e]; exact hj)) (fun i hi e => ci.2.2 _ _ _ w1 hi hk e.symm)
  have wd : wa = 0 ∨ wa = 1 := by omega
  have td : wt = 0 ∨ wt = 1 := by omega
  refine ⟨q1.r2 hK hN hC hR, ⟨?_, fun i hi => ?_, fun b hb => ?_⟩, q3, ⟨?_, q4.2.1, fun j hj => ?_⟩, rfl, ?_, fun a ha => ?_⟩
  · rw [(hI _ _ _ (ya _ _ _ (by omega) (by unfold c_ar; omega))).1]; exact v1
  · have hi : i < a_n S.1 := hi
    have hi24 : i < 24 := by have := q3.1; omega
    have se := (sa.2.2.2.2.2.2.2.1 i hi24).2
    refine (v2 i hi).same (fun k => (hI _ _ _ (ya _ _ _ (by omega) (by unfold c_en; omega))).1) (hI _ _ _ (ya _ _ _ (by omega) (by unfold c_en; omega))).2 (xa _ (cK_un w2 hi24) (by unfold XD XA c_un c_tb; omega)) ?_ (by rw [hN])
    refine hA _ (fun k hk hc e => ci.2.2 _ _ _ w2 hi24 hc e) (fun j hj e => ?_)
    have := ci.2.1 _ _ _ _ w2 hi24 w1 hj e
    omega
  · exact (v3 b hb).same (fun f => (hI _ _ _ (ya _ _ _ (by omega) (by unfold c_bk; omega))).1) (xa _ (cK_bi w2 hb) (by unfold XD XA c_bi c_tb; omega)) (xa _ (cK_bd w2 hb) (by unfold XD XA c_bd c_tb; omega))
  · rw [(hI _ _ _ (fun k hk e => by unfold YA at hk; omega)).1]; exact q4.1
  · rw [xa _ (cK_tb t2) (by unfold XD XA c_tb; omega)]; exact q4.2.2 j hj
  · have nt : ∀ t, am_K h t = 31 → am_A h' t = am_A h t := by
      intro t ht
      refine hA t (fun k hk hc e => ?_) (fun i hi e => ?_)
      · have s5 := q1.2.2.2.2.1
        have cr := q1.2.2.2.2.2.2
        have kk : am_K h (cd k) ≠ 31 := by
          have k31 := cl_31 q1 k hc
          exact k31
        rw [← e] at kk
        exact kk ht
      · have := ((q1.2.2.2.2.1 _ w1).1.2.2.2.2.2.2.2.1 i hi).2.2.2.2.2.2.1
        rw [← e, ht] at this
        cases this
    obtain ⟨k1, k2, k3, k4, k5, k6⟩ := q6
    unfold tk_s
    rw [hK, hN, nt _ k1, nt _ k4]
    exact ⟨k1, k2, k3, k4, k5, k6⟩
  · rw [hK]; exact q7 a ha
end RQ
