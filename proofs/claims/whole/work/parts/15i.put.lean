/-! deps: 15h -/
/-! ===== rows that are made anew, put ===== -/
section PH
variable {tt : Nat → Nat} {P : Nat → Prop} {h h' : am_H} {cd : Nat → Nat} {bb : Nat → Nat → Nat} {wa wt : Nat} {S : sS}
theorem cK_st {k : Nat} (hk : k < 15) (h0 : ¬ (skl.getD k (0, 0)).1 = 0) : cK (40 + k) := by
  have : k = 0 ∨ k = 1 ∨ k = 7 ∨ ((2 ≤ k ∧ k ≤ 6) ∨ (8 ≤ k ∧ k ≤ 14)) := by omega
  rcases this with rfl | rfl | rfl | h
  · exact absurd rfl h0
  · exact absurd rfl h0
  · exact absurd rfl h0
  · unfold cK; omega
/-- what is in use is there -/
theorem cl_K (s : cl_s h cd bb wa wt) : ∀ k, cK k → am_K h (cd k) ≠ 0 := by
  obtain ⟨s1, s2, s3, s4, s5, s6, s7⟩ := s
  have nz : ∀ {a n : Nat}, am_K h a = n → n ≠ 0 → am_K h a ≠ 0 := fun e z => by rw [e]; exact z
  have arch : ∀ w, w < 2 → ∀ j, (j = c_ar w ∨ j = c_ea w ∨ j = c_ba w ∨ (∃ i, i < 24 ∧ (j = c_en w i ∨ j = c_un w i)) ∨ (∃ i, i < 6 ∧ (j = c_bk w i ∨ j = c_bi w i ∨ j = c_bd w i))) → am_K h (cd j) ≠ 0 := by
    intro w hw j hj
    obtain ⟨a1, a2, a3, a4, a5, a6, a7, a8, a9⟩ := (s5 w hw).1
    rcases hj with rfl | rfl | rfl | ⟨i, hi, rfl | rfl⟩ | ⟨i, hi, rfl | rfl | rfl⟩
    · exact nz a1 (by decide)
    · exact nz a3 (by decide)
    · exact nz a6 (by decide)
    · exact nz (a8 i hi).2.1 (by decide)
    · exact nz (a8 i hi).2.2.2.1 (by decide)
    · exact nz (a9 i hi).2.1 (by decide)
    · exact nz (a9 i hi).2.2.2.1 (by decide)
    · exact nz (a9 i hi).2.2.2.2.2.2.1 (by decide)
  have ent : ∀ w, w < 2 → ∀ j, 110 + 500 * w ≤ j → j ≤ 157 + 500 * w → am_K h (cd j) ≠ 0 := by
    intro w hw j h1 h2
    refine arch w hw j (Or.inr (Or.inr (Or.inr (Or.inl ⟨(j - (110 + 500 * w)) / 2, by omega, ?_⟩))))
    unfold c_en c_un
    omega
  have blk : ∀ w, w < 2 → ∀ j, 200 + 500 * w ≤ j → j ≤ 217 + 500 * w → am_K h (cd j) ≠ 0 := by
    intro w hw j h1 h2
    refine arch w hw j (Or.inr (Or.inr (Or.inr (Or.inr ⟨(j - (200 + 500 * w)) / 3, by omega, ?_⟩))))
    unfold c_bk c_bi c_bd
    omega
  obtain ⟨r1, r2, r3, r4, r5, r6, r7, r8, r9, r10, r11, r12, r13⟩ := s7
  obtain ⟨w1, w2, w3, w4, w5, w6, w7⟩ := s6
  have st : ∀ k, k < 15 → ¬ (skl.getD k (0, 0)).1 = 0 → am_K h (cd (40 + k)) ≠ 0 := by
    intro k hk h0
    rcases r8 k hk with e | e
    · exact absurd e h0
    · rw [e.2.1]; exact h0
  intro k hk
  rcases hk with rfl | hk | hk | hk | hk | hk | hk | hk | hk | hk | hk | hk
  · exact nz s4.1 (by decide)
  · have : k = 10 ∨ k = 11 ∨ k = 12 ∨ k = 13 := by omega
    rcases this with rfl | rfl | rfl | rfl
    · exact nz (s5 0 (by omega)).2.1 (by decide)
    · exact nz (s5 0 (by omega)).2.2.2.1 (by decide)
    · exact nz (s5 1 (by omega)).2.1 (by decide)
    · exact nz (s5 1 (by omega)).2.2.2.1 (by decide)
  · have : k = 20 ∨ k = 21 ∨ k = 22 := by omega
    rcases this with rfl | rfl | rfl
    · exact nz w1 (by decide)
    · exact nz w3 (by decide)
    · exact nz w6 (by decide)
  · have : k = 30 ∨ k = 31 ∨ k = 32 ∨ k = 33 ∨ k = 34 := by omega
    rcases this with rfl | rfl | rfl | rfl | rfl
    · exact nz r1 (by decide)
    · exact nz r5 (by decide)
    · exact nz r6 (by decide)
    · exact nz r9 (by decide)
    · exact nz r12 (by decide)
  · have : k = 40 + 2 ∨ k = 40 + 3 ∨ k = 40 + 4 ∨ k = 40 + 5 ∨ k = 40 + 6 := by omega
    rcases this with rfl | rfl | rfl | rfl | rfl <;> exact st _ (by decide) (by decide)
  · have : k = 40 + 8 ∨ k = 40 + 9 ∨ k = 40 + 10 ∨ k = 40 + 11 ∨ k = 40 + 12 ∨ k = 40 + 13 ∨ k = 40 + 14 := by omega
    rcases this with rfl | rfl | rfl | rfl | rfl | rfl | rfl <;> exact st _ (by decide) (by decide)
  · exact arch 0 (by omega) k (by unfold c_ar c_ea c_ba; omega)
  · exact ent 0 (by omega) k (by omega) (by omega)
  · exact blk 0 (by omega) k (by omega) (by omega)
  · exact arch 1 (by omega) k (by unfold c_ar c_ea c_ba; omega)
  · exact ent 1 (by omega) k (by omega) (by omega)
  · exact blk 1 (by omega) k (by omega) (by omega)
/-- the class's form, where only the rows of bytes change -/
theorem cl_s.tb (s : cl_s h cd bb wa wt) {bb' : Nat → Nat → Nat} (hK : ∀ k, cK k → am_K h' (cd k) = am_K h (cd k)) (hN : ∀ k, cK k → am_N h' (cd k) = am_N h (cd k)) (hC : ∀ k, cK k → am_C h' (cd k) = am_C h (cd k)) (hR : ∀ c f k, ¬ (c = 4 ∧ f = 2) → am_R h' c f (cd k) = am_R h c f (cd k))
    (hb : ∀ w i, w < 2 → i < 24 → am_R h' 4 2 (cd (c_en w i)) = some (bb' w i) ∧ am_K h' (bb' w i) = 23 ∧ am_N h' (bb' w i) ≤ 3840 ∧ (am_N h' (bb' w i) = 0 ∨ ∃ k, am_N h' (bb' w i) = 120 * 2 ^ k)) (hi : ci_s cd bb') : cl_s h' cd bb' wa wt := by
  obtain ⟨s1, s2, s3, s4, s5, s6, s7⟩ := s
  have k0 : cK 0 := Or.inl rfl
  have kk : ∀ j, (20 ≤ j ∧ j ≤ 22) ∨ (30 ≤ j ∧ j ≤ 34) → cK j := fun j hj => by unfold cK; omega
  refine ⟨s1, s2, hi, ?_, fun w hw => ⟨?_, ?_⟩, ?_, ?_⟩
  · unfold cx_s
    simp (disch := omega) only [hR]
    rw [hK 0 k0]
    exact s4
  · obtain ⟨a1, a2, a3, a4, a5, a6, a7, a8, a9⟩ := (s5 w hw).1
    refine ⟨by rw [hK _ (cK_ar hw)]; exact a1, by rw [hR _ _ _ (by omega)]; exact a2, by rw [hK _ (cK_ea hw)]; exact a3, by rw [hN _ (cK_ea hw)]; exact a4, by rw [hR _ _ _ (by omega)]; exact a5, by rw [hK _ (cK_ba hw)]; exact a6, by rw [hN _ (cK_ba hw)]; exact a7, fun i hi => ⟨?_, ?_⟩, fun b hb => ⟨?_, ?_⟩⟩
    · rw [hC _ (cK_ea hw)]; exact (a8 i hi).1
    · obtain ⟨e1, e2, e3, e4, e5, e6, e7, e8⟩ := (a8 i hi).2
      obtain ⟨b1, b2, b3, b4⟩ := hb w i hw hi
      exact ⟨by rw [hK _ (cK_en hw hi)]; exact e1, by rw [hR _ _ _ (by omega)]; exact e2, by rw [hK _ (cK_un hw hi)]; exact e3, by rw [hN _ (cK_un hw hi)]; exact e4, b1, b2, b3, b4⟩
    · rw [hC _ (cK_ba hw)]; exact (a9 b hb).1
    · obtain ⟨e1, e2, e3, e4, e5, e6, e7⟩ := (a9 b hb).2
      exact ⟨by rw [hK _ (cK_bk hw hb)]; exact e1, by rw [hR _ _ _ (by omega)]; exact e2, by rw [hK _ (cK_bi hw hb)]; exact e3, by rw [hN _ (cK_bi hw hb)]; exact e4, by rw [hR _ _ _ (by omega)]; exact e5, by rw [hK _ (cK_bd hw hb)]; exact e6, by rw [hN _ (cK_bd hw hb)]; exact e7⟩
  · obtain ⟨t1, t2, t3, t4⟩ := (s5 w hw).2
    exact ⟨by rw [hK _ (cK_tp hw)]; exact t1, by rw [hR _ _ _ (by omega)]; exact t2, by rw [hK _ (cK_tb hw)]; exact t3, by rw [hN _ (cK_tb hw)]; exact t4⟩
  · obtain ⟨w1, w2, w3, w4, w5, w6, w7⟩ := s6
    exact ⟨by rw [hK _ (kk _ (by omega))]; exact w1, by rw [hR _ _ _ (by omega)]; exact w2, by rw [hK _ (kk _ (by omega))]; exact w3, by rw [hN _ (kk _ (by omega))]; exact w4, by rw [hR _ _ _ (by omega)]; exact w5, by rw [hK _ (kk _ (by omega))]; exact w6, by rw [hN _ (kk _ (by omega))]; exact w7⟩
  · obtain ⟨r1, r2, r3, r4, r5, r6, r7, r8, r9, r10, r11, r12, r13⟩ := s7
    refine ⟨by rw [hK _ (kk _ (by omega))]; exact r1, by rw [hR _ _ _ (by omega)]; exact r2, by rw [hR _ _ _ (by omega)]; exact r3, by rw [hR _ _ _ (by omega)]; exact r4, by rw [hK _ (kk _ (by omega))]; exact r5, by rw [hK _ (kk _ (by omega))]; exact r6, by rw [hR _ _ _ (by omega)]; exact r7, fun k hk => ?_, by rw [hK _ (kk _ (by omega))]; exact r9, by rw [hR _ _ _ (by omega)]; exact r10, by rw [hR _ _ _ (by omega)]; exact r11, by rw [hK _ (kk _ (by omega))]; exact r12, by rw [hN _ (kk _ (by omega))]; exact r13⟩
    by_cases c : (skl.getD k (0, 0)).1 = 0
    · exact Or.inl c
    · rw [hR _ _ _ (by omega), hK _ (cK_st hk c), hN _ (cK_st hk c)]
      exact r8 k hk
/-- how much room the rows of bytes have -/
def pt1 (h : am_H) (bb : Nat → Nat → Nat) : Nat → Nat
  | 0 => 0
  | n + 1 => pt1 h bb n + am_N h (bb 0 n) + am_N h (bb 1 n)
def pt (h : am_H) (bb : Nat → Nat → Nat) : Nat := pt1 h bb 24
def bbu (bb : Nat → Nat → Nat) (w i q : Nat) (w' i' : Nat) : Nat := if w' = w ∧ i' = i then q else bb w' i'
theorem pt1_le (s : cl_s h cd bb wa wt) : ∀ {n : Nat}, n ≤ 24 → pt1 h bb n ≤ n * 7680
  | 0, _ => Nat.zero_le _
  | n + 1, hn => by
    have := pt1_le s (n := n) (by omega)
    have h0 := ((s.2.2.2.2.1 0 (by omega)).1.2.2.2.2.2.2.2.1 n (by omega)).2.2.2.2.2.2.2.1
    have h1 := ((s.2.2.2.2.1 1 (by omega)).1.2.2.2.2.2.2.2.1 n (by omega)).2.2.2.2.2.2.2.1
    unfold pt1
    omega
theorem pt1_same (hN : ∀ w i, w < 2 → i < 24 → am_N h' (bb w i) = am_N h (bb w i)) : ∀ {n : Nat}, n ≤ 24 → pt1 h' bb n = pt1 h bb n
  | 0, _ => rfl
  | n + 1, hn => by
    unfold pt1
    rw [pt1_same hN (by omega), hN 0 n (by omega) (by omega), hN 1 n (by omega) (by omega)]
theorem pt1_up {w i q : Nat} (hw : w < 2) (hN : ∀ w' i', w' < 2 → i' < 24 → am_N h' (bb w' i') = am_N h (bb w' i')) : ∀ {n : Nat}, n ≤ 24 → pt1 h' (bbu bb w i q) n + (if i < n then am_N h (bb w i) else 0) = pt1 h bb n + (if i < n then am_N h' q else 0)
  | 0, _ => by simp [pt1]
  | n + 1, hn => by
    have ih := pt1_up (q := q) (i := i) hw hN (n := n) (by omega)
    unfold pt1
    have h0 := hN 0 n (by omega) (by omega)
    have h1 := hN 1 n (by omega) (by omega)
    by_cases c : i = n
    · subst c
      rw [if_neg (by omega), if_neg (by omega)] at ih
      rw [if_pos (by omega), if_pos (by omega)]
      rcases (show w = 0 ∨ w = 1 by omega) with rfl | rfl
      · rw [show bbu bb 0 i q 0 i = q from if_pos ⟨rfl, rfl⟩, show bbu bb 0 i q 1 i = bb 1 i from if_neg (by omega)]
        omega
      · rw [show bbu bb 1 i q 1 i = q from if_pos ⟨rfl, rfl⟩, show bbu bb 1 i q 0 i = bb 0 i from if_neg (by omega)]
        omega
    · rw [show bbu bb w i q 0 n = bb 0 n from if_neg (by omega), show bbu bb w i q 1 n = bb 1 n from if_neg (by omega)]
      by_cases c2 : i < n
      · rw [if_pos c2, if_pos c2] at ih
        rw [if_pos (by omega), if_pos (by omega)]
        omega
      · rw [if_neg c2, if_neg c2] at ih
        rw [if_neg (by omega), if_neg (by omega)]
        omega
/-- another row of bytes, of twice the length or more -/
theorem cl_room (s : cl_s h cd bb wa wt) {w i q n : Nat} (hw : w < 2) (hi : i < 24) (hq : am_K h q = 0) (hn : n ≤ 3840) (hp : ∃ k, n = 120 * 2 ^ k) (h2 : 2 * am_N h (bb w i) ≤ n) :
    cl_s (am_sR (am_nA h q 23 n) 4 2 (cd (c_en w i)) (some q)) cd (bbu bb w i q) wa wt ∧ am_V (am_sR (am_nA h q 23 n) 4 2 (cd (c_en w i)) (some q)) + 2 * pt h bb ≤ am_V h + 2 * pt (am_sR (am_nA h q 23 n) 4 2 (cd (c_en w i)) (some q)) (bbu bb w i q) ∧ (∀ a, a ≠ q → am_A (am_sR (am_nA h q 23 n) 4 2 (cd (c_en w i)) (some q)) a = am_A h a ∧ am_N (am_sR (am_nA h q 23 n) 4 2 (cd (c_en w i)) (some q)) a = am_N h a ∧ am_K (am_sR (am_nA h q 23 n) 4 2 (cd (c_en w i)) (some q)) a = am_K h a) ∧ am_N (am_sR (am_nA h q 23 n) 4 2 (cd (c_en w i)) (some q)) q = n ∧ am_K (am_sR (am_nA h q 23 n) 4 2 (cd (c_en w i)) (some q)) q = 23 := by
  have up : ∀ {α : Type} (f : Nat → α) (v : α) (a : Nat), a ≠ q → va_up f q v a = f a := fun f v a e => by rw [va_up, if_neg e]
  have eK : ∀ a, a ≠ q → am_K (am_sR (am_nA h q 23 n) 4 2 (cd (c_en w i)) (some q)) a = am_K h a := fun a e => up (am_K h) 23 a e
  have eN : ∀ a, a ≠ q → am_N (am_sR (am_nA h q 23 n) 4 2 (cd (c_en w i)) (some q)) a = am_N h a := fun a e => up (am_N h) n a e
  have eA : ∀ a, a ≠ q → am_A (am_sR (am_nA h q 23 n) 4 2 (cd (c_en w i)) (some q)) a = am_A h a := fun a e => up (am_A h) (fun _ => 0) a e
  have eC : ∀ a, a ≠ q → am_C (am_sR (am_nA h q 23 n) 4 2 (cd (c_en w i)) (some q)) a = am_C h a := fun a e => up (am_C h) (fun _ => none) a e
  have eKq : am_K (am_sR (am_nA h q 23 n) 4 2 (cd (c_en w i)) (some q)) q = 23 := by show va_up (am_K h) q 23 q = 23; rw [va_up, if_pos rfl]
  have eNq : am_N (am_sR (am_nA h q 23 n) 4 2 (cd (c_en w i)) (some q)) q = n := by show va_up (am_N h) q n q = n; rw [va_up, if_pos rfl]
  have eR : ∀ c f a, am_R (am_sR (am_nA h q 23 n) 4 2 (cd (c_en w i)) (some q)) c f a = if c = 4 ∧ f = 2 ∧ a = cd (c_en w i) then some q else am_R h c f a := fun c f a => by simp only [am_hs]
  have eV : am_V (am_sR (am_nA h q 23 n) 4 2 (cd (c_en w i)) (some q)) = am_V h + n := by simp only [am_hs]
  generalize am_sR (am_nA h q 23 n) 4 2 (cd (c_en w i)) (some q) = h' at *
  have cq : ∀ k, cK k → cd k ≠ q := fun k hk e => cl_K s k hk (by rw [e]; exact hq)
  have bs : ∀ w i, w < 2 → i < 24 → _ := fun w i hw hi => ((s.2.2.2.2.1 w hw).1.2.2.2.2.2.2.2.1 i hi).2
  have bq : ∀ w i, w < 2 → i < 24 → bb w i ≠ q := fun w i hw hi e => by
    have := (bs w i hw hi).2.2.2.2.2.1
    rw [e, hq] at this
    cases this
  have s3 := s.2.2.1
  refine ⟨s.tb (fun k hk => eK _ (cq k hk)) (fun k hk => eN _ (cq k hk)) (fun k hk => eC _ (cq k hk)) (fun c f k hk => by rw [eR, if_neg (fun z => hk ⟨z.1, z.2.1⟩)]) ?_ ?_, ?_, fun a ha => ⟨eA a ha, eN a ha, eK a ha⟩, eNq, eKq⟩
  · intro w' i' hw' hi'
    by_cases c : w' = w ∧ i' = i
    · obtain ⟨rfl, rfl⟩ := c
      rw [show bbu bb w' i' q w' i' = q from if_pos ⟨rfl, rfl⟩, eR, if_pos ⟨rfl, rfl, rfl⟩, eKq, eNq]
      exact ⟨rfl, rfl, hn, Or.inr hp⟩
    · rw [show bbu bb w i q w' i' = bb w' i' from if_neg c, eR, if_neg, eK _ (bq _ _ hw' hi'), eN _ (bq _ _ hw' hi')]
      · exact ⟨(bs w' i' hw' hi').2.2.2.2.1, (bs w' i' hw' hi').2.2.2.2.2.1, (bs w' i' hw' hi').2.2.2.2.2.2⟩
      · intro z
        have := s3.1 _ _ z.2.2
        unfold c_en at this
        omega
  · refine ⟨s3.1, fun w1 i1 w2 i2 h1 h2 h3 h4 e => ?_, fun w1 i1 k h1 h2 hk e => ?_⟩
    · unfold bbu at e
      by_cases c1 : w1 = w ∧ i1 = i
      · by_cases c2 : w2 = w ∧ i2 = i
        · omega
        · rw [if_pos c1, if_neg c2] at e
          exact absurd e.symm (bq _ _ h3 h4)
      · by_cases c2 : w2 = w ∧ i2 = i
        · rw [if_neg c1, if_pos c2] at e
          exact absurd e (bq _ _ h1 h2)
        · rw [if_neg c1, if_neg c2] at e
          exact s3.2.1 _ _ _ _ h1 h2 h3 h4 e
    · unfold bbu at e
      split at e
      · exact cq k hk e.symm
      · exact s3.2.2 _ _ _ h1 h2 hk e
  · have := pt1_up (h := h) (h' := h') (bb := bb) (q := q) (i := i) hw (fun w' i' a b => eN _ (bq w' i' a b)) (n := 24) (by omega)
    rw [if_pos hi, if_pos hi, eNq] at this
    rw [eV]
    unfold pt
    omega
end PH
