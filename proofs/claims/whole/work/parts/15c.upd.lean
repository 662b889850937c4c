/-! deps: 15b -/
/-! ===== the class's object when an entry, a block, the tape changes ===== -/
theorem sbg_le {a a' : sA} : ∀ {n : Nat}, (∀ i, i < n → (if a_kn a' i = true ∧ 120 < e_sz (a_E a' i) then e_sz (a_E a' i) else 0) ≤ (if a_kn a i = true ∧ 120 < e_sz (a_E a i) then e_sz (a_E a i) else 0)) → sbg a' n ≤ sbg a n
  | 0, _ => Nat.le_refl _
  | n + 1, h => by
    have h1 := sbg_le (a := a) (a' := a') (n := n) (fun i hi => h i (by omega))
    have h2 := h n (by omega)
    unfold sbg
    omega
theorem a_E_put {S : sS} {i j : Nat} {e : sE} : a_E (put_E S i e).1 j = if j = i then e else a_E S.1 j := rfl
section UP
variable {tt : Nat → Nat} {P : Nat → Prop} {h h' : am_H} {cd : Nat → Nat} {bb : Nat → Nat → Nat} {wa wt : Nat} {S : sS}
/-- an entry's fields, units, bytes -/
theorem RC.upE (q : RC tt P h cd bb wa wt S) {i : Nat} (hi : i < a_n S.1) {e' : sE} (hK : am_K h' = am_K h) (hN : am_N h' = am_N h) (hR : am_R h' = am_R h) (hC : am_C h' = am_C h)
    (hI : ∀ c k a, ¬ (c = 4 ∧ a = cd (c_en wa i)) → am_I h' c k a = am_I h c k a) (hJ : ∀ c k a, ¬ (c = 4 ∧ a = cd (c_en wa i)) → am_J h' c k a = am_J h c k a) (hA : ∀ a, a ≠ cd (c_un wa i) → a ≠ bb wa i → am_A h' a = am_A h a) (hB : am_B h' = am_B h)
    (hv : ce_v h' (cd (c_en wa i)) (cd (c_un wa i)) (bb wa i) e' (b_kn (a_B S.1 (e_hm e')) = true)) (hw : wfE e') (hb : (if b_kn (a_B S.1 (e_hm e')) = true ∧ 120 < e_sz e' then e_sz e' else 0) ≤ (if a_kn S.1 i = true ∧ 120 < e_sz (a_E S.1 i) then e_sz (a_E S.1 i) else 0)) :
    RC tt P h' cd bb wa wt (put_E S i e') ∧ fr P h h' := by
  obtain ⟨q1, q2, q3, q4, q5, q6, q7⟩ := q
  have sh := q1
  obtain ⟨s1, s2, s3, s4, s5, s6, s7⟩ := q1
  obtain ⟨v1, v2, v3⟩ := q2
  obtain ⟨f1, f2, f3, f4⟩ := q3
  have hi24 : i < 24 := by omega
  have kU : am_K h (cd (c_un wa i)) = 25 := ((s5 wa s1).1.2.2.2.2.2.2.2.1 i hi24).2.2.2.1
  have kB : am_K h (bb wa i) = 23 := ((s5 wa s1).1.2.2.2.2.2.2.2.1 i hi24).2.2.2.2.2.2.1
  have cdA : ∀ k, k ≠ c_un wa i → cK k → am_A h' (cd k) = am_A h (cd k) := fun k hk kk => hA _ (fun e => hk (s3.1 _ _ e)) (fun e => s3.2.2 wa i k s1 hi24 kk e.symm)
  refine ⟨⟨sh.t hK hN hR hC, ⟨?_, ?_, ?_⟩, ⟨f1, ?_, f3, ?_⟩, ⟨?_, q4.2.1, ?_⟩, ?_, ?_, ?_⟩, ?_⟩
  · rw [hI _ _ _ (by omega)]; exact v1
  · intro j hj
    have hj' : j < a_n S.1 := hj
    show ce_v h' _ _ _ (a_E (put_E S i e').1 j) (b_kn (a_B S.1 (e_hm (a_E (put_E S i e').1 j))) = true)
    rw [a_E_put]
    by_cases c : j = i
    · subst c
      rw [if_pos rfl]
      exact hv
    · rw [if_neg c]
      have ne : cd (c_en wa j) ≠ cd (c_en wa i) := fun e => c (by rw [ci_en s3] at e; exact e)
      exact (v2 j hj').same (fun k => hI _ _ _ (fun z => ne z.2)) (hJ _ _ _ (fun z => ne z.2)) (cdA _ (by unfold c_un; omega) (cK_un s1 (by omega))) (hA _ (s3.2.2 wa j _ s1 (by omega) (cK_un s1 (by omega))) (fun e => c (s3.2.1 _ _ _ _ s1 (by omega) s1 hi24 e).2)) (by rw [hN])
  · intro b hb
    exact (v3 b hb).same (fun k => hI _ _ _ (by omega)) (cdA _ (by unfold c_bi c_un; omega) (cK_bi s1 (by omega))) (cdA _ (by unfold c_bd c_un; omega) (cK_bd s1 (by omega)))
  · intro j hj
    have hj' : j < a_n S.1 := hj
    rw [a_E_put]
    by_cases c : j = i
    · rw [if_pos c]; exact hw
    · rw [if_neg c]; exact f2 j hj'
  · refine Nat.le_trans (sbg_le (a := S.1) (fun j hj => ?_)) f4
    show (if b_kn (a_B S.1 (e_hm (a_E (put_E S i e').1 j))) = true ∧ 120 < e_sz (a_E (put_E S i e').1 j) then e_sz (a_E (put_E S i e').1 j) else 0) ≤ _
    rw [a_E_put]
    by_cases c : j = i
    · subst c; rw [if_pos rfl]; exact hb
    · rw [if_neg c]; exact Nat.le_refl _
  · rw [hI _ _ _ (by omega)]; exact q4.1
  · intro j hj
    show am_A h' (cd (c_tb wt)) j = _ ∧ _
    rw [cdA _ (by unfold c_tb c_un; omega) (cK_tb s2)]
    exact q4.2.2 j hj
  · rw [hI _ _ _ (by omega)]; exact q5
  · exact tk_t q6 hK hN (fun a ha => hA a (fun e => by rw [e, kU] at ha; cases ha) (fun e => by rw [e, kB] at ha; cases ha))
  · intro a ha
    rw [hK]
    exact q7 a ha
  · intro a ha
    obtain ⟨p1, p2, p3⟩ := q7 a ha
    exact ⟨by rw [hK], by rw [hN], hA a (p2 _) (p3 wa i s1 hi24), by rw [hB], by rw [hC], fun c k => hI c k a (fun z => p2 _ z.2), fun c k => hJ c k a (fun z => p2 _ z.2), fun c k => by rw [hR]⟩
/-- a block's fields and rows -/
theorem RC.upB (q : RC tt P h cd bb wa wt S) {i : Nat} (hi : i < 6) {b' : sB} (hK : am_K h' = am_K h) (hN : am_N h' = am_N h) (hR : am_R h' = am_R h) (hC : am_C h' = am_C h)
    (hI : ∀ c k a, ¬ (c = 1 ∧ a = cd (c_bk wa i)) → am_I h' c k a = am_I h c k a) (hJ : am_J h' = am_J h) (hA : ∀ a, a ≠ cd (c_bi wa i) → a ≠ cd (c_bd wa i) → am_A h' a = am_A h a) (hB : am_B h' = am_B h)
    (hv : cb_v h' (cd (c_bk wa i)) (cd (c_bi wa i)) (cd (c_bd wa i)) b') (hkn : b_kn b' = b_kn (a_B S.1 i)) (hw : b_cn b' ≤ 3 ∧ (b_kn b' = true → ∀ c, c < b_cn b' → (∃ k, k < 4 ∧ b_ck b' c = Int32.ofNat k) ∧ (b_ck b' c = Int32.ofNat 1 → ∃ d, b_cd b' c = Int32.ofNat d ∧ 1 ≤ d ∧ d ≤ 256) ∧ (¬ b_ck b' c = Int32.ofNat 1 → b_cd b' c = Int32.ofNat 0))) :
    RC tt P h' cd bb wa wt (put_B S i b') ∧ fr P h h' := by
  obtain ⟨q1, q2, q3, q4, q5, q6, q7⟩ := q
  have sh := q1
  obtain ⟨s1, s2, s3, s4, s5, s6, s7⟩ := q1
  obtain ⟨v1, v2, v3⟩ := q2
  obtain ⟨f1, f2, f3, f4⟩ := q3
  have kI : am_K h (cd (c_bi wa i)) = 21 := ((s5 wa s1).1.2.2.2.2.2.2.2.2 i hi).2.2.2.1
  have kD : am_K h (cd (c_bd wa i)) = 21 := ((s5 wa s1).1.2.2.2.2.2.2.2.2 i hi).2.2.2.2.2.2.1
  have cdA : ∀ k, k ≠ c_bi wa i → k ≠ c_bd wa i → am_A h' (cd k) = am_A h (cd k) := fun k hk hk2 => hA _ (fun e => hk (s3.1 _ _ e)) (fun e => hk2 (s3.1 _ _ e))
  have kn : ∀ j, a_kn (put_B S i b').1 j = a_kn S.1 j := by
    intro j
    show b_kn (va_up (a_B S.1) i b' (e_hm (a_E S.1 j))) = b_kn (a_B S.1 (e_hm (a_E S.1 j)))
    unfold va_up
    split
    · next e => rw [e]; exact hkn
    · rfl
  refine ⟨⟨sh.t hK hN hR hC, ⟨?_, ?_, ?_⟩, ⟨f1, f2, ?_, ?_⟩, ⟨?_, q4.2.1, ?_⟩, ?_, ?_, ?_⟩, ?_⟩
  · rw [hI _ _ _ (by omega)]; exact v1
  · intro j hj
    have hj' : j < a_n S.1 := hj
    rw [kn j]
    exact (v2 j hj').same (fun k => hI _ _ _ (by omega)) (by rw [hJ]) (cdA _ (by unfold c_un c_bi; omega) (by unfold c_un c_bd; omega)) (hA _ (s3.2.2 wa j _ s1 (by omega) (cK_bi s1 (by omega))) (s3.2.2 wa j _ s1 (by omega) (cK_bd s1 (by omega)))) (by rw [hN])
  · intro b hb
    show cb_v h' _ _ _ (va_up (a_B S.1) i b' b)
    unfold va_up
    by_cases c : b = i
    · subst c; rw [if_pos rfl]; exact hv
    · rw [if_neg c]
      exact (v3 b hb).same (fun k => hI _ _ _ (fun z => c (by have := z.2; rw [ci_bk s3] at this; exact this))) (cdA _ (by unfold c_bi; omega) (by unfold c_bi c_bd; omega)) (cdA _ (by unfold c_bi c_bd; omega) (by unfold c_bd; omega))
  · intro b hb
    show b_cn (va_up (a_B S.1) i b' b) ≤ 3 ∧ (b_kn (va_up (a_B S.1) i b' b) = true → ∀ c, c < b_cn (va_up (a_B S.1) i b' b) → (∃ k, k < 4 ∧ b_ck (va_up (a_B S.1) i b' b) c = Int32.ofNat k) ∧ (b_ck (va_up (a_B S.1) i b' b) c = Int32.ofNat 1 → ∃ d, b_cd (va_up (a_B S.1) i b' b) c = Int32.ofNat d ∧ 1 ≤ d ∧ d ≤ 256) ∧ (¬ b_ck (va_up (a_B S.1) i b' b) c = Int32.ofNat 1 → b_cd (va_up (a_B S.1) i b' b) c = Int32.ofNat 0))
    unfold va_up
    by_cases c : b = i
    · subst c; rw [if_pos rfl]; exact hw
    · rw [if_neg c]; exact f3 b hb
  · refine Nat.le_trans (sbg_le (a := S.1) (fun j hj => ?_)) f4
    rw [kn j]
    exact Nat.le_refl _
  · rw [hI _ _ _ (by omega)]; exact q4.1
  · intro j hj
    show am_A h' (cd (c_tb wt)) j = _ ∧ _
    rw [cdA _ (by unfold c_tb c_bi; omega) (by unfold c_tb c_bd; omega)]
    exact q4.2.2 j hj
  · rw [hI _ _ _ (by omega)]; exact q5
  · exact tk_t q6 hK hN (fun a ha => hA a (fun e => by rw [e, kI] at ha; cases ha) (fun e => by rw [e, kD] at ha; cases ha))
  · intro a ha
    rw [hK]
    exact q7 a ha
  · intro a ha
    obtain ⟨p1, p2, p3⟩ := q7 a ha
    exact ⟨by rw [hK], by rw [hN], hA a (p2 _) (p2 _), by rw [hB], by rw [hC], fun c k => hI c k a (fun z => p2 _ z.2), fun c k => by rw [hJ], fun c k => by rw [hR]⟩
/-- the tape -/
theorem RC.upT (q : RC tt P h cd bb wa wt S) {n : Nat} {T : Nat → Int32} (hK : am_K h' = am_K h) (hN : am_N h' = am_N h) (hR : am_R h' = am_R h) (hC : am_C h' = am_C h)
    (hI : ∀ c k a, ¬ (c = 6 ∧ a = cd (c_tp wt)) → am_I h' c k a = am_I h c k a) (hJ : am_J h' = am_J h) (hA : ∀ a, a ≠ cd (c_tb wt) → am_A h' a = am_A h a) (hB : am_B h' = am_B h)
    (hn : am_I h' 6 1 (cd (c_tp wt)) = Int32.ofNat n) (hl : n ≤ 5000) (hT : ∀ j, j < n → am_A h' (cd (c_tb wt)) j = T j ∧ by8 (T j) = T j) :
    RC tt P h' cd bb wa wt (put_T S n T) ∧ fr P h h' := by
  obtain ⟨q1, q2, q3, q4, q5, q6, q7⟩ := q
  have sh := q1
  obtain ⟨s1, s2, s3, s4, s5, s6, s7⟩ := q1
  obtain ⟨v1, v2, v3⟩ := q2
  have kT : am_K h (cd (c_tb wt)) = 23 := (s5 wt s2).2.2.2.1
  have cdA : ∀ k, k ≠ c_tb wt → am_A h' (cd k) = am_A h (cd k) := fun k hk => hA _ (fun e => hk (s3.1 _ _ e))
  refine ⟨⟨sh.t hK hN hR hC, ⟨?_, ?_, ?_⟩, q3, ⟨hn, hl, hT⟩, ?_, ?_, ?_⟩, ?_⟩
  · rw [hI _ _ _ (by omega)]; exact v1
  · intro j hj
    have := q3.1
    have hj' : j < a_n S.1 := hj
    exact (v2 j hj').same (fun k => hI _ _ _ (by omega)) (by rw [hJ]) (cdA _ (by unfold c_un c_tb; omega)) (hA _ (s3.2.2 wa j _ s1 (by omega) (cK_tb s2))) (by rw [hN])
  · intro b hb
    exact (v3 b hb).same (fun k => hI _ _ _ (by omega)) (cdA _ (by unfold c_bi c_tb; omega)) (cdA _ (by unfold c_bd c_tb; omega))
  · rw [hI _ _ _ (by omega)]; exact q5
  · exact tk_t q6 hK hN (fun a ha => hA a (fun e => by rw [e, kT] at ha; cases ha))
  · intro a ha
    rw [hK]
    exact q7 a ha
  · intro a ha
    obtain ⟨p1, p2, p3⟩ := q7 a ha
    exact ⟨by rw [hK], by rw [hN], hA a (p2 _), by rw [hB], by rw [hC], fun c k => hI c k a (fun z => p2 _ z.2), fun c k => by rw [hJ], fun c k => by rw [hR]⟩
end UP
