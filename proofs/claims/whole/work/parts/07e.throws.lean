/-! ===== the throws of the class: their words ===== -/
def am_xn (e : Nat) : List String := match e with
  | 1 => ["java/lang/IndexOutOfBoundsException", "java/lang/RuntimeException", "java/lang/Exception"]
  | _ => ["java/lang/RuntimeException", "java/lang/Exception"]
def am_xb (e : Nat) : List Cond := (am_xn e).map (fun X => .declares (Bundle.initS X)) ++ [.declares (Bundle.initS Bundle.tN), .castable (am_ex e) (am_ex e)]
theorem am_x0w : ∀ w ∈ (vx_atS RX2 42 (am_ex 0) (am_xn 0)).filter goodWord, w ∈ lw_tbl := by decide +kernel
theorem am_x1w : ∀ w ∈ (vx_atS RX9 215 (am_ex 1) (am_xn 1)).filter goodWord, w ∈ lw_tbl := by decide +kernel
theorem am_x2w : ∀ w ∈ (vx_atS RX9 223 (am_ex 2) (am_xn 2)).filter goodWord, w ∈ lw_tbl := by decide +kernel
theorem am_x0n : (vx_atS RX2 42 (am_ex 0) (am_xn 0)).filter (fun w => !goodWord w) = am_xb 0 := by decide +kernel
theorem am_x1n : (vx_atS RX9 215 (am_ex 1) (am_xn 1)).filter (fun w => !goodWord w) = am_xb 1 := by decide +kernel
theorem am_x2n : (vx_atS RX9 223 (am_ex 2) (am_xn 2)).filter (fun w => !goodWord w) = am_xb 2 := by decide +kernel
theorem am_x0o : (vx_atS RX2 42 (am_ex 0) (am_xn 0)).all vx_ot = true := by decide +kernel
theorem am_x1o : (vx_atS RX9 215 (am_ex 1) (am_xn 1)).all vx_ot = true := by decide +kernel
theorem am_x2o : (vx_atS RX9 223 (am_ex 2) (am_xn 2)).all vx_ot = true := by decide +kernel
theorem am_xini : ∀ e, e < 3 → Cond.initialized (am_ex e) ∈ lw_tbl := by decide +kernel
theorem am_xfit : ∀ e, e < 3 → Bundle.fit (am_ex e) = true ∧ ∀ n ∈ am_xn e, Bundle.fit n = true := by decide +kernel
/-- a throw site: class, entries of class, text and constructor, exception -/
def am_xk (q : Nat × Nat × Nat × Nat × Nat) : Nat := if q.2.2.1 = 40 then 0 else if q.2.2.1 = 49 then 1 else if q.2.2.1 = 213 then 2 else 3
theorem am_twx : ∀ q ∈ am_tw, q.2.2.2.2 < 3 ∧ (am_sx (am_xk q)).1 = q.1 ∧ (am_sx (am_xk q)).2.1 = q.2.2.1 ∧ am_xk q < 4 ∧ (am_kx.any (fun z => z.1 == q.1 && z.2.1 == q.2.1 && z.2.2.1 == q.2.2.2.2)) = true := by decide +kernel
theorem am_twa {args : Array Value} {s : State} (hts : ∀ w ∈ am_wG, w.before args s = true) (hC : ∀ k, k < 3 → am_Ca (am_ex k) (am_ex k) s) (hD : ∀ X ∈ am_dn, va_Nw (.declares (Bundle.initS X)) s) : ∀ q ∈ am_tw, (∀ w ∈ vx_atS (am_cn q.1) q.2.2.2.1 (am_ex q.2.2.2.2) (am_xn q.2.2.2.2), w.before args s = true) ∧ (vx_atS (am_cn q.1) q.2.2.2.1 (am_ex q.2.2.2.2) (am_xn q.2.2.2.2)).all vx_ot = true := by
  have go : ∀ (L : List Cond) (e : Nat), e < 3 → (∀ w ∈ L.filter goodWord, w ∈ lw_tbl) → L.filter (fun w => !goodWord w) = am_xb e → ∀ w ∈ L, w.before args s = true := by
    intro L e he h1 h2
    refine vx_hat (B := am_xb e) (fun w hw => hts w (List.mem_filter.mpr ⟨h1 w hw, (List.mem_filter.mp hw).2⟩)) (by rw [h2]; exact fun w h => h) fun w hw => ?_
    simp only [am_xb, List.mem_append, List.mem_map, List.mem_cons, List.not_mem_nil, or_false] at hw
    rcases hw with ⟨X, hX, rfl⟩ | rfl | rfl
    · refine va_Nw.use rfl (hD X ?_)
      rcases (show e = 0 ∨ e = 1 ∨ e = 2 by omega) with rfl | rfl | rfl <;> simp [am_xn] at hX <;> simp [am_dn, hX] <;> (rcases hX with rfl | rfl | rfl <;> simp)
    · exact va_Nw.use rfl (hD _ (by simp [am_dn]))
    · exact (hC e he).use
  intro q hq
  simp only [am_tw, List.mem_cons, List.not_mem_nil, or_false] at hq
  rcases hq with rfl | rfl | rfl | rfl
  · exact ⟨go _ 0 (by decide) am_x0w am_x0n, am_x0o⟩
  · exact ⟨go _ 0 (by decide) am_x0w am_x0n, am_x0o⟩
  · exact ⟨go _ 1 (by decide) am_x1w am_x1n, am_x1o⟩
  · exact ⟨go _ 2 (by decide) am_x2w am_x2n, am_x2o⟩
