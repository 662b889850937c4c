section AMJ
variable {l : Launch} {D : va_G} {g : Nat → ClassId} {B0 : Nat} {tt sa : Nat → Nat} {y pc : Nat} {al : List (Option Value)} {st : List Value} {h : am_H} {post : am_P} {n a b x : Nat}
theorem am_k4_of {o x a : Nat} (h : am_k4.any (fun q => q.1 == o && q.2.1 == x && q.2.2.1 == a) = true) : Cond.constant (am_cn o) x (Int32.ofNat a) ∈ am_wG := by
  simp only [List.any_eq_true, Bool.and_eq_true, beq_iff_eq] at h
  obtain ⟨q, h1, ⟨rfl, rfl⟩, rfl⟩ := h
  exact am_at_in (List.all_eq_true.mp am_k4_ok q h1)
theorem am_k8_of {o x a : Nat} (h : am_k8.any (fun q => q.1 == o && q.2.1 == x && q.2.2.1 == a) = true) : Cond.constantLong (am_cn o) x (Int64.ofNat a) ∈ am_wG := by
  simp only [List.any_eq_true, Bool.and_eq_true, beq_iff_eq] at h
  obtain ⟨q, h1, ⟨rfl, rfl⟩, rfl⟩ := h
  exact am_at_in (List.all_eq_true.mp am_k8_ok q h1)
theorem am_c_ldc (hr : am_row y pc = some (.ldc x, n, a, b)) (q : b = 0 ∧ am_So l D g B0 tt sa y (pc + 2) al (.int (Int32.ofNat a) :: st) h post) : am_So l D g B0 tt sa y pc al st h post := by
  intro p e R s m args below meth c H locs cells slots ls hC hE hl hW hR hS hc hs
  obtain ⟨hx, hb, hml, hrt, hlk, hown, hnm, hts, htab, hfr, hlo, htr, hy⟩ := id hC
  have hd := am_rowd hy hr
  have hok : (n == 2 && (b == 1 || am_k4.any (fun q => q.1 == am_ow y && q.2.1 == x && q.2.2.1 == a))) = true := am_rowo hy hr
  rw [q.1] at hok
  simp only [Bool.and_eq_true, beq_iff_eq, Bool.or_eq_true] at hok
  obtain ⟨rfl, hok⟩ := hok
  rcases hok with hok | hok
  · exact absurd hok (by decide)
  · exact lv_ldc hx hb hown (hts _ (am_k4_of hok)) hd (q.2 p e R s m args below meth c H locs cells slots ls hC hE hl hW hR hS hc hs)
theorem am_c_ldc2 (hr : am_row y pc = some (.ldc2_w x, n, a, b)) (q : am_So l D g B0 tt sa y (pc + 3) al (.long (Int64.ofNat a) :: st) h post) : am_So l D g B0 tt sa y pc al st h post := by
  intro p e R s m args below meth c H locs cells slots ls hC hE hl hW hR hS hc hs
  obtain ⟨hx, hb, hml, hrt, hlk, hown, hnm, hts, htab, hfr, hlo, htr, hy⟩ := id hC
  have hd := am_rowd hy hr
  have hok : (n == 3 && am_k8.any (fun q => q.1 == am_ow y && q.2.1 == x && q.2.2.1 == a)) = true := am_rowo hy hr
  rw [Bool.and_eq_true, beq_iff_eq] at hok
  obtain ⟨rfl, hok⟩ := hok
  exact lv_ldc2 hx hb hown (hts _ (am_k8_of hok)) hd (q p e R s m args below meth c H locs cells slots ls hC hE hl hW hR hS hc hs)
theorem am_c_idiv {v u : Int32} (hr : am_row y pc = some (.idiv, n, a, b)) (q : ¬ v = 0 ∧ am_So l D g B0 tt sa y (pc + 1) al (.int (u / v) :: st) h post) : am_So l D g B0 tt sa y pc al (.int v :: .int u :: st) h post := by
  intro p e R s m args below meth c H locs cells slots ls hC hE hl hW hR hS hc hs
  obtain ⟨hx, hb, hml, hrt, hlk, hown, hnm, hts, htab, hfr, hlo, htr, hy⟩ := id hC
  have hd := am_rowd hy hr
  have hok : (n == 1) = true := am_rowo hy hr
  rw [beq_iff_eq] at hok
  subst hok
  exact lv_idiv hx hb hd q.1 (q.2 p e R s m args below meth c H locs cells slots ls hC hE hl hW hR hS hc hs)
theorem am_c_irem {v u : Int32} (hr : am_row y pc = some (.irem, n, a, b)) (q : ¬ v = 0 ∧ am_So l D g B0 tt sa y (pc + 1) al (.int (u - u / v * v) :: st) h post) : am_So l D g B0 tt sa y pc al (.int v :: .int u :: st) h post := by
  intro p e R s m args below meth c H locs cells slots ls hC hE hl hW hR hS hc hs
  obtain ⟨hx, hb, hml, hrt, hlk, hown, hnm, hts, htab, hfr, hlo, htr, hy⟩ := id hC
  have hd := am_rowd hy hr
  have hok : (n == 1) = true := am_rowo hy hr
  rw [beq_iff_eq] at hok
  subst hok
  exact lv_irem hx hb hd q.1 (q.2 p e R s m args below meth c H locs cells slots ls hC hE hl hW hR hS hc hs)
theorem am_c_sw {d lo hi : Int} {offs : Array Int} {z : Int32} (hr : am_row y pc = some (.tableswitch d lo hi offs, n, a, b)) (q : (z.toInt < lo ∨ hi < z.toInt → ∃ t : Nat, (pc : Int) + d = (t : Int) ∧ am_So l D g B0 tt sa y t al st h post) ∧ (¬ z.toInt < lo → ¬ hi < z.toInt → ∃ (off : Int) (t : Nat), offs[(z.toInt - lo).toNat]? = some off ∧ (pc : Int) + off = (t : Int) ∧ am_So l D g B0 tt sa y t al st h post)) : am_So l D g B0 tt sa y pc al (.int z :: st) h post := by
  intro p e R s m args below meth c H locs cells slots ls hC hE hl hW hR hS hc hs
  obtain ⟨hx, hb, hml, hrt, hlk, hown, hnm, hts, htab, hfr, hlo, htr, hy⟩ := id hC
  have hd := am_rowd hy hr
  by_cases h1 : z.toInt < lo ∨ hi < z.toInt
  · obtain ⟨t, t1, t2⟩ := q.1 h1
    exact lv_tableOut hx hb hd h1 t1 (t2 p e R s m args below meth c H locs cells slots ls hC hE hl hW hR hS hc hs)
  · obtain ⟨off, t, t0, t1, t2⟩ := q.2 (fun z => h1 (Or.inl z)) (fun z => h1 (Or.inr z))
    exact lv_tableIn hx hb hd (fun z => h1 (Or.inl z)) (fun z => h1 (Or.inr z)) t0 t1 (t2 p e R s m args below meth c H locs cells slots ls hC hE hl hW hR hS hc hs)
set_option maxRecDepth 100000 in
theorem am_w_gs : Cond.fieldLink RX9 246 "SevenForms" "CHECK_STEPS" "[I" ∈ am_wG := am_in_of (i := 564) rfl rfl
theorem am_c_gets (hr : am_row y pc = some (.getstatic x, n, a, b)) (q : am_So l D g B0 tt sa y (pc + 3) al (.ref (tt a) :: st) h post) : am_So l D g B0 tt sa y pc al st h post := by
  intro p e R s m args below meth c H locs cells slots ls hC hE hl hW hR hS hc hs
  obtain ⟨hx, hb, hml, hrt, hlk, hown, hnm, hts, htab, hfr, hlo, htr, hy⟩ := id hC
  have hd := am_rowd hy hr
  have hok : (n == 3 && am_gs.any (fun q => q.1 == am_ow y && q.2.1 == x && q.2.2.1 == a && q.2.2.2 == b)) = true := am_rowo hy hr
  simp only [Bool.and_eq_true, beq_iff_eq, List.any_eq_true] at hok
  obtain ⟨rfl, w, hw, ⟨⟨e1, e2⟩, e3⟩, e4⟩ := hok
  have k := q p e R s m args below meth c H locs cells slots ls hC hE hl hW hR hS hc hs
  have hN := hE.2.2.2.2.2.2.2.1 w hw
  have hZ := hE.2.2.1
  have hw' := hw
  simp only [am_gs, List.mem_cons, List.not_mem_nil, or_false] at hw
  rw [← e1] at hown
  rcases hw with rfl | rfl | rfl
  · subst e2; subst e3
    exact va_getsN hx hb (hZ 0 (by decide)) hS hown (va_Nw.use rfl (hN rfl)) (fun _ z => z) hd k
  · subst e2; subst e3
    exact va_getsN hx hb (hZ 0 (by decide)) hS hown (va_Nw.use rfl (hN rfl)) (fun _ z => z) hd k
  · subst e2; subst e3
    exact va_gets hx hb (hZ 1 (by decide)) hS hown (hts _ am_w_gs) (fun _ z => z) hd k
end AMJ
