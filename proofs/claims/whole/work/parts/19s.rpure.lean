/-! deps: 19r -/
/-! ===== what is read, as a whole ===== -/
theorem cud_fr {d n : Nat} {g g' : Nat → Int32} (h : ∀ j, j < n → g j = g' j) : ∀ (m j : Nat), j ≤ m → j < n → cud d n g j = cud d n g' j
  | 0, j, hm, hj => by
    rw [cud_n (by omega), cud_n (by omega), h j hj]
  | m + 1, j, hm, hj => by
    by_cases c : 0 < d ∧ d ≤ j ∧ j < n
    · rw [cud_p c, cud_p c, h j hj, cud_fr h m (j - d) (by omega) (by omega)]
    · rw [cud_n c, cud_n c, h j hj]
theorem ctn_fr {w n : Nat} (hw : 0 < w) {g g' : Nat → Int32} (h : ∀ j, j < n → g j = g' j) (j : Nat) (hj : j < n) : ctn w n g j = ctn w n g' j := by
  unfold ctn
  by_cases c : j < w * (n / w)
  · rw [if_pos c, if_pos c]
    have h1 : w * (n / w) ≤ n := Nat.mul_div_le n w
    have h2 : j / w < n / w := Nat.div_lt_of_lt_mul c
    have h3 : w * (j / w) + w ≤ w * (n / w) := by
      have := Nat.mul_le_mul_left w (show j / w + 1 ≤ n / w from h2)
      rw [Nat.mul_add, Nat.mul_one] at this
      exact this
    rw [h _ (by omega)]
  · rw [if_neg c, if_neg c, h j hj]
theorem cou_fr {k : Int32} {d n : Nat} {g g' : Nat → Int32} (h : ∀ j, j < n → g j = g' j) (j : Nat) (hj : j < n) : cou k d n g j = cou k d n g' j := by
  unfold cou
  split
  · exact cud_fr h j j (Nat.le_refl j) hj
  · split
    · exact ctn_fr (by decide) h j hj
    · split
      · exact ctn_fr (by decide) h j hj
      · exact h j hj
theorem cous_fr {ks ks' ds ds' : Nat → Int32} {n : Nat} : ∀ (m : Nat) (g g' : Nat → Int32), (∀ c, c < m → ks c = ks' c ∧ ds c = ds' c) → (∀ j, j < n → g j = g' j) → ∀ j, j < n → cous ks ds n m g j = cous ks' ds' n m g' j
  | 0, g, g', _, h, j, hj => h j hj
  | m + 1, g, g', hk, h, j, hj => by
    rw [cous, cous, (hk m (by omega)).1, (hk m (by omega)).2]
    exact cous_fr m _ _ (fun c hc => hk c (by omega)) (fun j hj => cou_fr h j hj) j hj
theorem cou_8 {k : Int32} {d n : Nat} {g : Nat → Int32} (h : ∀ j, j < n → by8 (g j) = g j) (j : Nat) (hj : j < n) : by8 (cou k d n g j) = cou k d n g j := by
  unfold cou
  split
  · by_cases c : 0 < d ∧ d ≤ j ∧ j < n
    · rw [cud_p c, by8_8]
    · rw [cud, dif_neg c]; exact h j hj
  · split
    · unfold ctn
      split
      · exact by8_8
      · exact h j hj
    · split
      · unfold ctn
        split
        · exact by8_8
        · exact h j hj
      · exact h j hj
theorem cous_8 {ks ds : Nat → Int32} {n : Nat} : ∀ (m : Nat) (g : Nat → Int32), (∀ j, j < n → by8 (g j) = g j) → ∀ j, j < n → by8 (cous ks ds n m g j) = cous ks ds n m g j
  | 0, g, h, j, hj => h j hj
  | m + 1, g, h, j, hj => cous_8 m _ (fun j hj => cou_8 h j hj) j hj
theorem bef_mo {hm sz : Nat → Nat} {b : Nat} : ∀ (d f : Nat), bef hm sz b f ≤ bef hm sz b (f + d)
  | 0, f => Nat.le_refl _
  | d + 1, f => by
    have := bef_mo (hm := hm) (sz := sz) (b := b) d f
    show _ ≤ bef hm sz b (f + d + 1)
    rw [bef]
    omega
theorem bef_in {hm sz : Nat → Nat} {b f N : Nat} (h : f < N) (e : hm f = b) : bef hm sz b f + sz f ≤ bef hm sz b N := by
  have := bef_mo (hm := hm) (sz := sz) (b := b) (N - (f + 1)) (f + 1)
  rw [show f + 1 + (N - (f + 1)) = N by omega, bef, if_pos e] at this
  exact this
theorem cn_c {g g' : Nat → Bool} : ∀ (n : Nat), (∀ j, j < n → g j = g' j) → cn g n = cn g' n
  | 0, _ => rfl
  | n + 1, h => by rw [cn, cn, cn_c n (fun j hj => h j (by omega)), h n (by omega)]
theorem cn_up {g : Nat → Bool} {i : Nat} (hg : g i = false) : ∀ (n : Nat), i < n → cn (va_up g i true) n = cn g n + 1
  | 0, h => absurd h (Nat.not_lt_zero i)
  | n + 1, h => by
    rw [cn, cn]
    by_cases c : i = n
    · subst c
      rw [cn_c (g' := g) i (fun j hj => by rw [va_up, if_neg (by omega)]), va_up, if_pos rfl, hg]
      simp
    · have e : va_up g i true n = g n := by rw [va_up, if_neg (by omega)]
      rw [cn_up hg n (by omega), e]
      omega
theorem pfr_s {pk : Nat → Nat} : ∀ b, pfr pk b = 32 + sm pk b 0
  | 0 => rfl
  | b + 1 => by rw [pfr, pfr_s b, sm_s, Nat.zero_add]; omega
theorem sm_mo {f : Nat → Nat} (B : Nat) : ∀ (d : Nat), d ≤ B → sm f d 0 ≤ sm f B 0 := by
  intro d hd
  have : ∀ e, sm f d 0 ≤ sm f (d + e) 0 := by
    intro e
    induction e with
    | zero => exact Nat.le_refl _
    | succ e ih =>
      show _ ≤ sm f (d + e + 1) 0
      rw [sm_s]
      omega
  have h := this (B - d)
  rw [show d + (B - d) = B by omega] at h
  exact h
/-- what is read is valid -/
def RV (n : Nat) (rd : RD) : Prop := rd.2.1.1 ≤ 24 ∧ rd.1.1 ≤ 6 ∧ xV rd.1.1 rd.1.2.2.2.1 ∧ rd.1.2.2.2.1.1 ≤ 24 ∧ (∀ b, b < rd.1.1 → 1 ≤ rd.1.2.1 b ∧ rd.1.2.1 b ≤ 2400 ∧ fW (rd.1.2.2.1 b) ∧ bef rd.1.2.2.2.1.2.1 rd.1.2.2.2.1.2.2 b rd.1.2.2.2.1.1 ≤ 2400 ∧ ((rd.1.2.2.1 b).2.1 = true → bef rd.1.2.2.2.1.2.1 rd.1.2.2.2.1.2.2 b rd.1.2.2.2.1.1 = rd.1.2.1 b)) ∧ (0 < rd.1.1 → 32 + sm rd.1.2.1 rd.1.1 0 ≤ n) ∧ (∀ i, i < rd.2.1.1 → rd.2.2.1.1 i ≤ 20 ∧ 1 ≤ rd.2.2.1.1 i ∧ rd.2.2.1.2 i + 2 * rd.2.2.1.1 i ≤ n) ∧ (∀ i, i < rd.2.1.1 → rd.2.1.2.1 i = false → rk rd.2.1.2.1 i < rd.1.2.2.2.1.1) ∧ (∀ i, rd.2.1.1 ≤ i → True)
theorem lU_v {F : Fn} {n st : Nat} : ∀ (d k p : Nat) {k' p' : Nat}, lU F n st d k p = .ok (k', p') → (d = 0 → 1 ≤ k) → 1 ≤ k' ∧ k' ≤ k + d ∧ p' = p + 2 * (k' - k) + 2 ∧ k ≤ k' ∧ p' ≤ n
  | 0, k, p, k', p', h, h1 => by
    rw [lU] at h
    obtain ⟨v, q, e1, h⟩ := bd_inv h
    obtain ⟨e2, e3, e4⟩ := tL_ok e1
    split at h
    · cases h
      exact ⟨h1 rfl, by omega, by omega, by omega, by omega⟩
    · cases h
  | d + 1, k, p, k', p', h, h1 => by
    rw [lU] at h
    obtain ⟨v, q, e1, h⟩ := bd_inv h
    obtain ⟨e2, e3, e4⟩ := tL_ok e1
    split at h
    · split at h
      · cases h
      · cases h
        exact ⟨by omega, by omega, by omega, by omega, by omega⟩
    · obtain ⟨r1, r2, r3, r4, r5⟩ := lU_v d (k + 1) q h (fun _ => by omega)
      exact ⟨by omega, by omega, by omega, by omega, by omega⟩
theorem lNm_v {F : Fn} {n : Nat} : ∀ (d i p : Nat) (un st : Nat → Nat) {us : (Nat → Nat) × (Nat → Nat)} {p' : Nat}, lNm F n d i p un st = .ok (us, p') → (∀ j, j < i → un j ≤ 20 ∧ 1 ≤ un j ∧ st j + 2 * un j ≤ n) → ∀ j, j < i + d → us.1 j ≤ 20 ∧ 1 ≤ us.1 j ∧ us.2 j + 2 * us.1 j ≤ n
  | 0, i, p, un, st, us, p', h, h1 => by
    rw [lNm] at h
    cases h
    exact h1
  | d + 1, i, p, un, st, us, p', h, h1 => by
    rw [lNm] at h
    obtain ⟨k, q, e1, h⟩ := bd_inv h
    obtain ⟨r1, r2, r3, r4, r5⟩ := lU_v _ _ _ e1 (fun z => by omega)
    have := lNm_v d (i + 1) q _ _ h (fun j hj => by
      unfold va_up
      by_cases c : j = i
      · rw [if_pos c, if_pos c]; exact ⟨by omega, by omega, by omega⟩
      · rw [if_neg c, if_neg c]; exact h1 j (by omega))
    rw [show i + (d + 1) = i + 1 + d by omega]
    exact this
theorem tM_ok {F : Fn} {n t E p : Nat} {r : (Nat → Bool) × Nat} (_ : tM F n t E p = .ok r) : True := trivial
theorem pEN_v {F : Fn} {n files p : Nat} {en : EN} {p' : Nat} (hf : files ≤ 24) (h : pEN F n files p = .ok (en, p')) : en.1 ≤ 24 ∧ ∀ i, i < en.1 → en.2.1 i = false → rk en.2.1 i < files := by
  unfold pEN at h
  obtain ⟨v, q, e1, h⟩ := bd_inv h
  obtain ⟨N, rfl, w1, w2, w3⟩ := tN_n (by split <;> omega) (by omega) e1
  rw [w3] at h
  split at h
  · next c =>
    obtain ⟨_, _, _, h⟩ := bd_inv h
    cases h
    refine ⟨w2, fun i hi _ => ?_⟩
    show rk fls i < files
    rw [rk_f]
    have hi : i < N := hi
    omega
  · next c =>
    obtain ⟨_, _, _, h⟩ := bd_inv h
    obtain ⟨_, _, _, h⟩ := bd_inv h
    obtain ⟨em, _, _, h⟩ := bd_inv h
    split at h
    · cases h
    · next c2 =>
      obtain ⟨_, _, _, h⟩ := bd_inv h
      obtain ⟨_, _, _, h⟩ := bd_inv h
      obtain ⟨_, _, _, h⟩ := bd_inv h
      cases h
      refine ⟨w2, fun i hi e => ?_⟩
      have hi : i < N := hi
      have c3 : cn em N = N - files := Classical.not_not.1 c2
      have h1 := rk_cn em N
      have h2 : rk em i < rk em N := rk_lt hi e
      have w1' : files ≤ N := by
        by_cases c4 : files = 0
        · omega
        · rw [if_neg c4] at w1; exact w1
      show rk em i < files
      omega
theorem pNM_v {F : Fn} {n N p : Nat} {us : (Nat → Nat) × (Nat → Nat)} {p' : Nat} (h : pNM F n N p = .ok (us, p')) : ∀ j, j < N → us.1 j ≤ 20 ∧ 1 ≤ us.1 j ∧ us.2 j + 2 * us.1 j ≤ n := by
  unfold pNM at h
  obtain ⟨_, _, _, h⟩ := bd_inv h
  obtain ⟨_, _, _, h⟩ := bd_inv h
  obtain ⟨us2, _, e, h⟩ := bd_inv h
  split at h
  · cases h
    have := lNm_v N 0 _ _ _ e (fun j hj => absurd hj (Nat.not_lt_zero j))
    rw [Nat.zero_add] at this
    exact this
  · cases h
theorem pRD_v {F : Fn} {n : Nat} {rd : RD} (h5 : n ≤ 5000) (h : pRD F n = .ok rd) : RV n rd := by
  unfold pRD at h
  cases eh : pHD F n with
  | error e => rw [eh] at h; cases h
  | ok u =>
    rw [eh] at h
    have h2 : (if lt F 20 8 = Int64.ofNat 0 then .ok RD0 else pBY F n (lt F 12 8).toNatClampNeg) = Except.ok rd := h
    have ho : ∃ o, lt F 12 8 = Int64.ofNat o ∧ 32 + o ≤ n := by
      unfold pHD at eh
      split at eh
      · cases eh
      · split at eh
        · cases eh
        · split at eh
          · cases eh
          · split at eh
            · cases eh
            · next c =>
              obtain ⟨o, zz, eo, ez, ln⟩ := told_o (toldB_t.1 (by cases z : toldB F n with
                | true => rfl
                | false => exact absurd z c)) h5
              exact ⟨o, eo, by omega⟩
    obtain ⟨o, ho1, ho2⟩ := ho
    have on : (Int64.ofNat o).toNatClampNeg = o := Int64.toNatClampNeg_ofNat_of_lt (by omega)
    rw [ho1, on] at h2
    split at h2
    · cases h2
      exact ⟨by decide, by decide, fun f hf => absurd hf (Nat.not_lt_zero f), by decide, fun b hb => absurd hb (Nat.not_lt_zero b), fun z => absurd z (Nat.not_lt_zero 0), fun i hi => absurd hi (Nat.not_lt_zero i), fun i hi => absurd hi (Nat.not_lt_zero i), fun _ _ => trivial⟩
    · unfold pBY at h2
      obtain ⟨_, q1, _, h2⟩ := bd_inv h2
      obtain ⟨st, q2, e2, h2⟩ := bd_inv h2
      obtain ⟨_, _, _, h2⟩ := bd_inv h2
      obtain ⟨en, q3, e3, h2⟩ := bd_inv h2
      obtain ⟨nm, q4, e4, h2⟩ := bd_inv h2
      obtain ⟨tm, q5, e5, h2⟩ := bd_inv h2
      obtain ⟨av, q6, e6, h2⟩ := bd_inv h2
      obtain ⟨_, _, _, h2⟩ := bd_inv h2
      obtain ⟨_, _, _, h2⟩ := bd_inv h2
      split at h2
      · cases h2
      · cases h2
        have sv : st.1 ≤ 6 ∧ xV st.1 st.2.2.2.1 ∧ st.2.2.2.1.1 ≤ 24 ∧ (∀ b, b < st.1 → 1 ≤ st.2.1 b ∧ st.2.1 b ≤ 2400 ∧ fW (st.2.2.1 b) ∧ bef st.2.2.2.1.2.1 st.2.2.2.1.2.2 b st.2.2.2.1.1 ≤ 2400 ∧ ((st.2.2.1 b).2.1 = true → bef st.2.2.2.1.2.1 st.2.2.2.1.2.2 b st.2.2.2.1.1 = st.2.1 b)) ∧ (0 < st.1 → 32 + sm st.2.1 st.1 0 ≤ n) := by
          split at e2
          · unfold pST at e2
            obtain ⟨_, _, _, e2⟩ := bd_inv e2
            obtain ⟨bp, _, f1, e2⟩ := bd_inv e2
            obtain ⟨fg, _, f2, e2⟩ := bd_inv e2
            obtain ⟨xc, _, f3, e2⟩ := bd_inv e2
            obtain ⟨_, _, _, e2⟩ := bd_inv e2
            cases e2
            obtain ⟨g1, g2, g3, g4⟩ := pPS_v f1
            obtain ⟨k1, k2⟩ := pFS_v g3 f2
            obtain ⟨x1, x2, x3⟩ := pFI_v g2 (fun b hb => ⟨(k2 b hb).1, (k2 b hb).2.1⟩) f3
            refine ⟨g2, x1, x2, fun b hb => ⟨(g3 b hb).1, (g3 b hb).2, k1 b hb, ?_, fun kn => ?_⟩, fun _ => ?_⟩
            · show bef xc.1.2.1 xc.1.2.2 b xc.1.1 ≤ 2400
              rw [x3 b hb]; exact (k2 b hb).2.1
            · show bef xc.1.2.1 xc.1.2.2 b xc.1.1 = bp.2 b
              rw [x3 b hb]; exact (k2 b hb).2.2 kn
            · show 32 + sm bp.2 bp.1 0 ≤ n
              rw [g4]; exact ho2
          · cases e2
            exact ⟨by decide, fun f hf => absurd hf (Nat.not_lt_zero f), by decide, fun b hb => absurd hb (Nat.not_lt_zero b), fun z => absurd z (Nat.not_lt_zero 0)⟩
        obtain ⟨s1, s2, s3, s4, s5⟩ := sv
        obtain ⟨n1, n2⟩ := pEN_v s3 e3
        exact ⟨n1, s1, s2, s3, s4, s5, pNM_v e4, n2, fun _ _ => trivial⟩
