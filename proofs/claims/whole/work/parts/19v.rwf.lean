/-! deps: 19u -/
/-! ===== what is read is an archive ===== -/
theorem sm_le2 {f g : Nat → Nat} : ∀ (d b : Nat), (∀ j, b ≤ j → j < b + d → f j ≤ g j) → sm f d b ≤ sm g d b
  | 0, _, _ => Nat.le_refl _
  | d + 1, b, h => by
    rw [sm, sm]
    have h1 := h b (Nat.le_refl b) (by omega)
    have h2 := sm_le2 d (b + 1) (fun j h1 h2 => h j (by omega) (by omega))
    omega
theorem sm_at {f g : Nat → Nat} {b0 z : Nat} : ∀ (d b : Nat), (∀ j, b ≤ j → j < b + d → g j = f j + (if b0 = j then z else 0)) → b ≤ b0 → b0 < b + d → sm g d b = sm f d b + z
  | 0, _, _, h1, h2 => absurd h2 (by omega)
  | d + 1, b, h, h1, h2 => by
    rw [sm, sm, h b (Nat.le_refl b) (by omega)]
    by_cases c : b0 = b
    · rw [if_pos c, sm_c (f := g) (g := f) d (b + 1) (fun j h3 h4 => by rw [h j (by omega) (by omega), if_neg (by omega)]; rfl)]
      omega
    · rw [if_neg c, sm_at d (b + 1) (fun j h3 h4 => h j (by omega) (by omega)) (by omega) (by omega)]
      omega
section RY
variable {n : Nat} {rd : RD} {F : Fn}
theorem rdE_t {i : Nat} (e : rd.2.1.2.1 i = true) : rdE F rd i = (if rd.2.1.2.2.1 (i - rk rd.2.1.2.1 i) = true then 0 else 1, rd.2.2.1.1 i, NMf F rd.2.2.1.2 i, 0, (fun _ => 0), 0, rd.2.1.2.2.2 (i - rk rd.2.1.2.1 i), rd.2.2.2.1 i, (rd.2.2.2.2 i).map Int64.toInt32, false) := by
  unfold rdE
  simp only []
  rw [if_pos e]
  rfl
theorem rdE_f {i : Nat} (e : rd.2.1.2.1 i = false) : rdE F rd i = (0, rd.2.2.1.1 i, NMf F rd.2.2.1.2 i, szE rd i, (fun j => unp F rd.1.2.1 rd.1.2.2.1 (hmE rd i) (frm rd i + j)), hmE rd i, false, rd.2.2.2.1 i, (rd.2.2.2.2 i).map Int64.toInt32, knE rd i && decide (¬ ck (fun j => unp F rd.1.2.1 rd.1.2.2.1 (hmE rd i) (frm rd i + j)) 0 (szE rd i) = (rd.1.2.2.2.2 (rk rd.2.1.2.1 i)).toInt32)) := by
  unfold rdE
  simp only []
  rw [if_neg (by rw [e]; decide)]
  rfl
theorem rv_h (rv : RV n rd) {i : Nat} (hi : i < rd.2.1.1) (e : rd.2.1.2.1 i = false) : hmE rd i < rd.1.1 ∧ 1 ≤ szE rd i ∧ szE rd i ≤ 2400 := rv.2.2.1 _ (rv.2.2.2.2.2.2.2.1 i hi e)
theorem a_kn_f (rv : RV n rd) {i : Nat} (hi : i < rd.2.1.1) (e : rd.2.1.2.1 i = false) : a_kn (rdA F rd) i = knE rd i := by
  show b_kn (rdB rd (e_hm (rdE F rd i))) = _
  rw [rdE_f e]
  show (rdB rd (hmE rd i)).1 = _
  unfold rdB
  rw [if_pos (rv_h rv hi e).1]
  rfl
theorem rk_x (rv : RV n rd) : ∀ m, m ≤ rd.2.1.1 → rk rd.2.1.2.1 m ≤ rd.1.2.2.2.1.1
  | 0, _ => Nat.zero_le _
  | m + 1, h => by
    have := rk_x rv m (by omega)
    rw [rk]
    cases e : rd.2.1.2.1 m with
    | true => simp; omega
    | false =>
      have := rv.2.2.2.2.2.2.2.1 m (by omega) e
      simp
      omega
theorem sbg_x (rv : RV n rd) : ∀ m, m ≤ rd.2.1.1 → sbg (rdA F rd) m ≤ sm (fun b => if (rd.1.2.2.1 b).2.1 = true then bef rd.1.2.2.2.1.2.1 rd.1.2.2.2.1.2.2 b (rk rd.2.1.2.1 m) else 0) rd.1.1 0
  | 0, _ => Nat.zero_le _
  | m + 1, h => by
    have ih := sbg_x rv m (by omega)
    rw [sbg]
    cases e : rd.2.1.2.1 m with
    | true =>
      have e1 : rk rd.2.1.2.1 (m + 1) = rk rd.2.1.2.1 m := by rw [rk, e]; rfl
      have e2 : e_sz (a_E (rdA F rd) m) = 0 := by
        show (rdE F rd m).2.2.2.1 = 0
        rw [rdE_t e]
      rw [e1, e2, if_neg (by omega)]
      exact ih
    | false =>
      have e1 : rk rd.2.1.2.1 (m + 1) = rk rd.2.1.2.1 m + 1 := by rw [rk, e]; rfl
      have e2 : e_sz (a_E (rdA F rd) m) = szE rd m := by
        show (rdE F rd m).2.2.2.1 = _
        rw [rdE_f e]
      have hh := rv_h rv (by omega) e
      rw [e1, e2, a_kn_f rv (by omega) e]
      by_cases kn : knE rd m = true
      · have := sm_at (f := fun b => if (rd.1.2.2.1 b).2.1 = true then bef rd.1.2.2.2.1.2.1 rd.1.2.2.2.1.2.2 b (rk rd.2.1.2.1 m) else 0) (g := fun b => if (rd.1.2.2.1 b).2.1 = true then bef rd.1.2.2.2.1.2.1 rd.1.2.2.2.1.2.2 b (rk rd.2.1.2.1 m + 1) else 0) (b0 := hmE rd m) (z := szE rd m) rd.1.1 0 (fun j _ _ => by
          by_cases c : hmE rd m = j
          · rw [if_pos c, ← c, if_pos (show (rd.1.2.2.1 (hmE rd m)).2.1 = true from kn), if_pos (show (rd.1.2.2.1 (hmE rd m)).2.1 = true from kn), bef, if_pos (show rd.1.2.2.2.1.2.1 (rk rd.2.1.2.1 m) = hmE rd m from rfl)]
            rfl
          · rw [if_neg c, bef, if_neg (show ¬ rd.1.2.2.2.1.2.1 (rk rd.2.1.2.1 m) = j from c)]
            rfl) (Nat.zero_le _) (by omega)
        rw [this]
        split <;> omega
      · rw [if_neg (fun z => kn z.1)]
        refine Nat.le_trans ih (sm_le2 _ _ (fun j _ _ => ?_))
        split
        · rw [bef]; omega
        · exact Nat.le_refl _
theorem rdA_w (rv : RV n rd) (h5 : n ≤ 5000) : wfA (rdA F rd) := by
  have rv' := rv
  obtain ⟨n24, B6, xv, x24, bv, hsm, un, rkx, -⟩ := rv
  refine ⟨n24, fun i hi => ?_, fun b hb => ?_, ?_⟩
  · have hi : i < rd.2.1.1 := hi
    have u := un i hi
    show wfE (rdE F rd i)
    cases e : rd.2.1.2.1 i with
    | true =>
      rw [rdE_t e]
      refine ⟨?_, u.1, by show 0 ≤ 2400; omega, by show 0 < 6; omega⟩
      show (if _ then 0 else 1) ≤ 1
      split <;> omega
    | false =>
      rw [rdE_f e]
      have hh := rv_h rv' hi e
      exact ⟨by show 0 ≤ 1; omega, u.1, hh.2.2, by show hmE rd i < 6; omega⟩
  · show b_cn (rdB rd b) ≤ 3 ∧ _
    unfold rdB
    by_cases c : b < rd.1.1
    · obtain ⟨p1, p2, fw, -⟩ := bv b c
      show b_cn (if b < rd.1.1 then _ else _) ≤ 3 ∧ (b_kn (if b < rd.1.1 then _ else _) = true → _)
      rw [if_pos c]
      refine ⟨fw.1.2.1, fun kn cc hc => ?_⟩
      have hc : cc < (rdB rd b).2.1 := hc
      unfold rdB at hc
      rw [if_pos c] at hc
      have f2 := fw.2.1 cc hc
      have f3 := fw.2.2 kn cc hc
      show (∃ k, k < 4 ∧ (rdB rd b).2.2.1 cc = Int32.ofNat k) ∧ ((rdB rd b).2.2.1 cc = Int32.ofNat 1 → ∃ d, (rdB rd b).2.2.2 cc = Int32.ofNat d ∧ 1 ≤ d ∧ d ≤ 256) ∧ (¬ (rdB rd b).2.2.1 cc = Int32.ofNat 1 → (rdB rd b).2.2.2 cc = Int32.ofNat 0)
      unfold rdB
      rw [if_pos c]
      refine ⟨?_, fun z => ?_, f2.2⟩
      · rcases f2.1 with z | z | z | z | z
        · exact absurd z f3
        · exact ⟨0, by omega, z⟩
        · exact ⟨2, by omega, z⟩
        · exact ⟨3, by omega, z⟩
        · exact ⟨1, by omega, z.1⟩
      · rcases f2.1 with w | w | w | w | w
        · exact absurd w f3
        · rw [z] at w; exact absurd w (by decide)
        · rw [z] at w; exact absurd w (by decide)
        · rw [z] at w; exact absurd w (by decide)
        · exact w.2
    · show b_cn (if b < rd.1.1 then _ else _) ≤ 3 ∧ (b_kn (if b < rd.1.1 then _ else _) = true → _)
      rw [if_neg c]
      refine ⟨Nat.zero_le _, fun kn cc hc => ?_⟩
      have hc : cc < (rdB rd b).2.1 := hc
      unfold rdB at hc
      rw [if_neg c] at hc
      exact absurd hc (Nat.not_lt_zero cc)
  · show sbg (rdA F rd) rd.2.1.1 ≤ 4968
    refine Nat.le_trans (sbg_x rv' rd.2.1.1 (Nat.le_refl _)) ?_
    have h1 : sm (fun b => if (rd.1.2.2.1 b).2.1 = true then bef rd.1.2.2.2.1.2.1 rd.1.2.2.2.1.2.2 b (rk rd.2.1.2.1 rd.2.1.1) else 0) rd.1.1 0 ≤ sm rd.1.2.1 rd.1.1 0 := by
      refine sm_le2 _ _ (fun j _ hj => ?_)
      split
      · next kn =>
        rw [← (bv j (by omega)).2.2.2.2 kn]
        have := rk_x rv' rd.2.1.1 (Nat.le_refl _)
        have h2 := bef_mo (hm := rd.1.2.2.2.1.2.1) (sz := rd.1.2.2.2.1.2.2) (b := j) (rd.1.2.2.2.1.1 - rk rd.2.1.2.1 rd.2.1.1) (rk rd.2.1.2.1 rd.2.1.1)
        rw [show rk rd.2.1.2.1 rd.2.1.1 + (rd.1.2.2.2.1.1 - rk rd.2.1.2.1 rd.2.1.1) = rd.1.2.2.2.1.1 by omega] at h2
        exact h2
      · exact Nat.zero_le _
    by_cases c : 0 < rd.1.1
    · have := hsm c
      omega
    · have e : rd.1.1 = 0 := by omega
      rw [e] at h1 ⊢
      exact Nat.le_trans h1 (Nat.zero_le _)
end RY
