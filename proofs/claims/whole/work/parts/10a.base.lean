/-! deps: 09b -/
/-! ===== numbers and heaps: what the conditions are simplified by ===== -/
section QI
variable {a b n : Nat}
theorem qi_lt (ha : a < 2147483648) (hb : b < 2147483648) : (Int32.ofNat a < Int32.ofNat b) = (a < b) := propext (Int32.ofNat_lt_iff_lt ha hb)
theorem qi_le (ha : a < 2147483648) (hb : b < 2147483648) : (Int32.ofNat a ≤ Int32.ofNat b) = (a ≤ b) := propext (Int32.ofNat_le_iff_le ha hb)
theorem qi_nn (ha : a < 2147483648) : (Int32.ofNat a).toNatClampNeg = a := Int32.toNatClampNeg_ofNat_of_lt ha
theorem qi_eq (ha : a < 2147483648) (hb : b < 2147483648) : (Int32.ofNat a = Int32.ofNat b) = (a = b) := propext ⟨fun h => by rw [← qi_nn ha, ← qi_nn hb, h], fun h => by rw [h]⟩
theorem qi_in (ha : a < 2147483648) : vp_in (Int32.ofNat a) n = (a < n) := by
  unfold vp_in
  rw [qi_nn ha]
  have : (Int32.ofNat a < (0 : Int32)) = (a < 0) := qi_lt (b := 0) ha (by omega)
  rw [this]
  exact propext (by omega)
theorem qi_add : Int32.ofNat a + Int32.ofNat b = Int32.ofNat (a + b) := (Int32.ofNat_add a b).symm
theorem qi_mul : Int32.ofNat a * Int32.ofNat b = Int32.ofNat (a * b) := (Int32.ofNat_mul a b).symm
theorem qi_sub (h : b ≤ a) : Int32.ofNat a - Int32.ofNat b = Int32.ofNat (a - b) := (Int32.ofNat_sub a b h).symm
theorem qi_l (ha : a < 2147483648) : (Int32.ofNat a).toInt64 = Int64.ofNat a := Int32.toInt64_ofNat (n := a) (by omega)
theorem ql_i : (Int64.ofNat a).toInt32 = Int32.ofNat a := Int64.toInt32_ofNat (n := a)
theorem ql_lt (ha : a < 9223372036854775808) (hb : b < 9223372036854775808) : (Int64.ofNat a < Int64.ofNat b) = (a < b) := propext (Int64.ofNat_lt_iff_lt ha hb)
theorem ql_le (ha : a < 9223372036854775808) (hb : b < 9223372036854775808) : (Int64.ofNat a ≤ Int64.ofNat b) = (a ≤ b) := propext (Int64.ofNat_le_iff_le ha hb)
theorem ql_eq (ha : a < 9223372036854775808) (hb : b < 9223372036854775808) : (Int64.ofNat a = Int64.ofNat b) = (a = b) := propext ⟨fun h => by rw [← Int64.toNatClampNeg_ofNat_of_lt ha, ← Int64.toNatClampNeg_ofNat_of_lt hb, h], fun h => by rw [h]⟩
theorem ql_add : Int64.ofNat a + Int64.ofNat b = Int64.ofNat (a + b) := (Int64.ofNat_add a b).symm
theorem ql_sub (h : b ≤ a) : Int64.ofNat a - Int64.ofNat b = Int64.ofNat (a - b) := (Int64.ofNat_sub a b h).symm
theorem qi_0 : (0 : Int32) = Int32.ofNat 0 := rfl
theorem qi_1 : (1 : Int32) = Int32.ofNat 1 := rfl
theorem ql_0 : (0 : Int64) = Int64.ofNat 0 := rfl
theorem ql_1 : (1 : Int64) = Int64.ofNat 1 := rfl
theorem qi_ge0 (x : Int32) (h : ¬ x < Int32.ofNat 0) : ∃ k, k < 2147483648 ∧ x = Int32.ofNat k := ⟨x.toNatClampNeg, by
  have := x.toInt_lt
  rw [Int32.toNatClampNeg]
  omega, (Int32.ofNat_toNatClampNeg x (by rw [Int32.le_iff_toInt_le]; rw [Int32.lt_iff_toInt_lt] at h; simp only [Int32.toInt_zero]; have : (Int32.ofNat 0).toInt = 0 := rfl; omega)).symm⟩
theorem qi_cases (x : Int32) : x < Int32.ofNat 0 ∨ ∃ k, k < 2147483648 ∧ x = Int32.ofNat k := if h : x < Int32.ofNat 0 then Or.inl h else Or.inr (qi_ge0 x h)
theorem ql_ge0 (x : Int64) (h : ¬ x < Int64.ofNat 0) : ∃ k, k < 9223372036854775808 ∧ x = Int64.ofNat k := ⟨x.toNatClampNeg, by
  have := x.toInt_lt
  rw [Int64.toNatClampNeg]
  omega, (Int64.ofNat_toNatClampNeg x (by rw [Int64.le_iff_toInt_le]; rw [Int64.lt_iff_toInt_lt] at h; simp only [Int64.toInt_zero]; have : (Int64.ofNat 0).toInt = 0 := rfl; omega)).symm⟩
theorem ql_cases (x : Int64) : x < Int64.ofNat 0 ∨ ∃ k, k < 9223372036854775808 ∧ x = Int64.ofNat k := if h : x < Int64.ofNat 0 then Or.inl h else Or.inr (ql_ge0 x h)
theorem qi_m1 (ha : a < 2147483648) : (Int32.ofNat a = -1) = False := by
  refine eq_false (fun h => ?_)
  have := congrArg Int32.toInt h
  rw [Int32.toInt_ofNat_of_lt ha] at this
  have e : (-1 : Int32).toInt = -1 := rfl
  omega
theorem qc_lt {x y : Int64} : (lg_cmp x y < Int32.ofNat 0) = (x < y) := by
  unfold lg_cmp
  rw [Int64.lt_iff_toInt_lt]
  by_cases h1 : x > y
  · rw [if_pos h1]
    rw [gt_iff_lt, Int64.lt_iff_toInt_lt] at h1
    exact propext ⟨fun h => absurd h (by decide), fun h => by omega⟩
  · rw [if_neg h1]
    by_cases h2 : x = y
    · rw [if_pos h2]
      subst h2
      exact propext ⟨fun h => absurd h (by decide), fun h => by omega⟩
    · rw [if_neg h2]
      rw [gt_iff_lt, Int64.lt_iff_toInt_lt] at h1
      rw [← Int64.toInt_inj] at h2
      exact propext ⟨fun _ => by omega, fun _ => by decide⟩
theorem qc_eq {x y : Int64} : (lg_cmp x y = Int32.ofNat 0) = (x = y) := by
  unfold lg_cmp
  by_cases h1 : x > y
  · rw [if_pos h1]
    refine propext ⟨fun h => absurd h (by decide), fun h => ?_⟩
    subst h
    rw [gt_iff_lt, Int64.lt_iff_toInt_lt] at h1
    omega
  · rw [if_neg h1]
    by_cases h2 : x = y
    · rw [if_pos h2]; exact propext ⟨fun _ => h2, fun _ => rfl⟩
    · rw [if_neg h2]; exact propext ⟨fun h => absurd h (by decide), fun h => absurd h h2⟩
theorem qc_ge {x y : Int64} : (Int32.ofNat 0 ≤ lg_cmp x y) = (y ≤ x) := by
  have := @qc_lt x y
  rw [Int32.lt_iff_toInt_lt, Int64.lt_iff_toInt_lt] at this
  rw [Int32.le_iff_toInt_le, Int64.le_iff_toInt_le]
  have h := iff_of_eq this
  exact propext (by omega)
theorem qc_gt {x y : Int64} : (Int32.ofNat 0 < lg_cmp x y) = (y < x) := by
  have h1 := iff_of_eq (@qc_ge x y)
  have h2 := iff_of_eq (@qc_eq x y)
  rw [Int32.le_iff_toInt_le, Int64.le_iff_toInt_le] at h1
  rw [← Int32.toInt_inj, ← Int64.toInt_inj] at h2
  rw [Int32.lt_iff_toInt_lt, Int64.lt_iff_toInt_lt]
  exact propext (by omega)
theorem qc_le {x y : Int64} : (lg_cmp x y ≤ Int32.ofNat 0) = (x ≤ y) := by
  have h := iff_of_eq (@qc_gt x y)
  rw [Int32.lt_iff_toInt_lt, Int64.lt_iff_toInt_lt] at h
  rw [Int32.le_iff_toInt_le, Int64.le_iff_toInt_le]
  exact propext (by omega)
theorem qi_nlt {x y : Int32} : (¬ x < y) = (y ≤ x) := by
  rw [Int32.lt_iff_toInt_lt, Int32.le_iff_toInt_le]
  exact propext (by omega)
theorem qi_nle {x y : Int32} : (¬ x ≤ y) = (y < x) := by
  rw [Int32.lt_iff_toInt_lt, Int32.le_iff_toInt_le]
  exact propext (by omega)
end QI
/-- reading behind a writing -/
theorem am_hs :
    (∀ h c k a v, am_U (am_sI h c k a v) = am_U h) ∧ (∀ h c k a v, am_U (am_sJ h c k a v) = am_U h) ∧ (∀ h c k a v, am_U (am_sR h c k a v) = am_U h) ∧ (∀ h a i v, am_U (am_sA h a i v) = am_U h) ∧ (∀ h a i v, am_U (am_sB h a i v) = am_U h) ∧ (∀ h a i v, am_U (am_sC h a i v) = am_U h) ∧ (∀ h a f, am_U (am_cA h a f) = am_U h) ∧ (∀ h c k a v, am_V (am_sI h c k a v) = am_V h) ∧ (∀ h c k a v, am_V (am_sJ h c k a v) = am_V h) ∧ (∀ h c k a v, am_V (am_sR h c k a v) = am_V h) ∧ (∀ h a i v, am_V (am_sA h a i v) = am_V h) ∧ (∀ h a i v, am_V (am_sB h a i v) = am_V h) ∧ (∀ h a i v, am_V (am_sC h a i v) = am_V h) ∧ (∀ h a f, am_V (am_cA h a f) = am_V h) ∧ (∀ h q c, am_U (am_nO h q c) = am_U h + 1) ∧ (∀ h q k n, am_U (am_nA h q k n) = am_U h + 1) ∧ (∀ h q k n, am_V (am_nA h q k n) = am_V h + n) ∧ (∀ h, am_U (am_nX h) = am_U h + 1) ∧ (∀ h, am_V (am_nX h) = am_V h + 6) ∧ (∀ h, am_K (am_nX h) = am_K h) ∧ (∀ h, am_I (am_nX h) = am_I h) ∧ (∀ h, am_J (am_nX h) = am_J h) ∧ (∀ h, am_R (am_nX h) = am_R h) ∧ (∀ h, am_N (am_nX h) = am_N h) ∧ (∀ h, am_A (am_nX h) = am_A h) ∧ (∀ h, am_B (am_nX h) = am_B h) ∧ (∀ h, am_C (am_nX h) = am_C h) ∧ 
    (∀ h c k a v, am_K (am_sI h c k a v) = am_K h) ∧ (∀ h c k a v, am_K (am_sJ h c k a v) = am_K h) ∧ (∀ h c k a v, am_K (am_sR h c k a v) = am_K h) ∧ (∀ h a i v, am_K (am_sA h a i v) = am_K h) ∧ (∀ h a i v, am_K (am_sB h a i v) = am_K h) ∧ (∀ h a i v, am_K (am_sC h a i v) = am_K h) ∧ (∀ h a f, am_K (am_cA h a f) = am_K h) ∧
    (∀ h c k a v, am_N (am_sI h c k a v) = am_N h) ∧ (∀ h c k a v, am_N (am_sJ h c k a v) = am_N h) ∧ (∀ h c k a v, am_N (am_sR h c k a v) = am_N h) ∧ (∀ h a i v, am_N (am_sA h a i v) = am_N h) ∧ (∀ h a i v, am_N (am_sB h a i v) = am_N h) ∧ (∀ h a i v, am_N (am_sC h a i v) = am_N h) ∧ (∀ h a f, am_N (am_cA h a f) = am_N h) ∧ (∀ h q c, am_N (am_nO h q c) = am_N h) ∧
    (∀ h c k a v, am_R (am_sI h c k a v) = am_R h) ∧ (∀ h c k a v, am_R (am_sJ h c k a v) = am_R h) ∧ (∀ h a i v, am_R (am_sA h a i v) = am_R h) ∧ (∀ h a i v, am_R (am_sB h a i v) = am_R h) ∧ (∀ h a i v, am_R (am_sC h a i v) = am_R h) ∧ (∀ h a f, am_R (am_cA h a f) = am_R h) ∧ (∀ h q k n, am_R (am_nA h q k n) = am_R h) ∧
    (∀ h c k a v, am_J (am_sI h c k a v) = am_J h) ∧ (∀ h c k a v, am_J (am_sR h c k a v) = am_J h) ∧ (∀ h a i v, am_J (am_sA h a i v) = am_J h) ∧ (∀ h a i v, am_J (am_sB h a i v) = am_J h) ∧ (∀ h a i v, am_J (am_sC h a i v) = am_J h) ∧ (∀ h a f, am_J (am_cA h a f) = am_J h) ∧ (∀ h q k n, am_J (am_nA h q k n) = am_J h) ∧
    (∀ h c k a v, am_I (am_sJ h c k a v) = am_I h) ∧ (∀ h c k a v, am_I (am_sR h c k a v) = am_I h) ∧ (∀ h a i v, am_I (am_sA h a i v) = am_I h) ∧ (∀ h a i v, am_I (am_sB h a i v) = am_I h) ∧ (∀ h a i v, am_I (am_sC h a i v) = am_I h) ∧ (∀ h a f, am_I (am_cA h a f) = am_I h) ∧ (∀ h q k n, am_I (am_nA h q k n) = am_I h) ∧
    (∀ h c k a v, am_A (am_sI h c k a v) = am_A h) ∧ (∀ h c k a v, am_A (am_sJ h c k a v) = am_A h) ∧ (∀ h c k a v, am_A (am_sR h c k a v) = am_A h) ∧ (∀ h a i v, am_A (am_sB h a i v) = am_A h) ∧ (∀ h a i v, am_A (am_sC h a i v) = am_A h) ∧ (∀ h q c, am_A (am_nO h q c) = am_A h) ∧
    (∀ h c k a v, am_B (am_sI h c k a v) = am_B h) ∧ (∀ h c k a v, am_B (am_sJ h c k a v) = am_B h) ∧ (∀ h c k a v, am_B (am_sR h c k a v) = am_B h) ∧ (∀ h a i v, am_B (am_sA h a i v) = am_B h) ∧ (∀ h a i v, am_B (am_sC h a i v) = am_B h) ∧ (∀ h a f, am_B (am_cA h a f) = am_B h) ∧ (∀ h q c, am_B (am_nO h q c) = am_B h) ∧
    (∀ h c k a v, am_C (am_sI h c k a v) = am_C h) ∧ (∀ h c k a v, am_C (am_sJ h c k a v) = am_C h) ∧ (∀ h c k a v, am_C (am_sR h c k a v) = am_C h) ∧ (∀ h a i v, am_C (am_sA h a i v) = am_C h) ∧ (∀ h a i v, am_C (am_sB h a i v) = am_C h) ∧ (∀ h a f, am_C (am_cA h a f) = am_C h) ∧ (∀ h q c, am_C (am_nO h q c) = am_C h) ∧
    (∀ h c k a v c' k' a', am_I (am_sI h c k a v) c' k' a' = if c' = c ∧ k' = k ∧ a' = a then v else am_I h c' k' a') ∧
    (∀ h c k a v c' k' a', am_J (am_sJ h c k a v) c' k' a' = if c' = c ∧ k' = k ∧ a' = a then v else am_J h c' k' a') ∧
    (∀ h c k a v c' k' a', am_R (am_sR h c k a v) c' k' a' = if c' = c ∧ k' = k ∧ a' = a then v else am_R h c' k' a') ∧
    (∀ h a i v a' j, am_A (am_sA h a i v) a' j = if a' = a ∧ j = i then v else am_A h a' j) ∧
    (∀ h a i v a' j, am_B (am_sB h a i v) a' j = if a' = a ∧ j = i then v else am_B h a' j) ∧
    (∀ h a i v a' j, am_C (am_sC h a i v) a' j = if a' = a ∧ j = i then v else am_C h a' j) ∧
    (∀ h a f a', am_A (am_cA h a f) a' = if a' = a then f else am_A h a') := by
  refine ⟨?_, ?_, ?_, ?_, ?_, ?_, ?_, ?_, ?_, ?_, ?_, ?_, ?_, ?_, ?_, ?_, ?_, ?_, ?_, ?_, ?_, ?_, ?_, ?_, ?_, ?_, ?_, ?_, ?_, ?_, ?_, ?_, ?_, ?_, ?_, ?_, ?_, ?_, ?_, ?_, ?_, ?_, ?_, ?_, ?_, ?_, ?_, ?_, ?_, ?_, ?_, ?_, ?_, ?_, ?_, ?_, ?_, ?_, ?_, ?_, ?_, ?_, ?_, ?_, ?_, ?_, ?_, ?_, ?_, ?_, ?_, ?_, ?_, ?_, ?_, ?_, ?_, ?_, ?_, ?_, ?_, ?_, ?_, ?_, ?_, ?_, ?_, ?_, ?_, ?_⟩ <;> intros <;> rfl
theorem am_vl : ∀ {P : Prop}, (∃ x : Nat, P) ↔ P := ⟨fun ⟨_, h⟩ => h, fun h => ⟨0, h⟩⟩
