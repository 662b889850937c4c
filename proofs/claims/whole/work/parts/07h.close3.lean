section AMK
variable {l : Launch} {D : va_G} {g : Nat → ClassId} {B0 : Nat} {tt sa : Nat → Nat} {y pc : Nat} {al : List (Option Value)} {st : List Value} {h : am_H} {post : am_P} {n a b x : Nat}
theorem am_c_iald {z : Int32} {r : Nat} (hr : am_row y pc = some (.iaload, n, a, b)) (q : (am_K h r = 21 ∨ am_K h r = 31) ∧ vp_in z (am_N h r) ∧ am_So l D g B0 tt sa y (pc + 1) al (.int (am_A h r z.toNatClampNeg) :: st) h post) : am_So l D g B0 tt sa y pc al (.int z :: .ref r :: st) h post := by
  intro p e R s m args below meth c H locs cells slots ls hC hE hl hW hR hS hc hs
  obtain ⟨hx, hb, hml, hrt, hlk, hown, hnm, hts, htab, hfr, hlo, htr, hy⟩ := id hC
  have hd := am_rowd hy hr
  have hok : (n == 1) = true := am_rowo hy hr
  rw [beq_iff_eq] at hok
  subst hok
  exact am_iald hx hb hE.1 hW hR hS q.1 q.2.1 hd (q.2.2 p e R s m args below meth c H locs cells slots ls hC hE hl hW hR hS hc hs)
theorem am_c_bald {z : Int32} {r : Nat} (hr : am_row y pc = some (.baload, n, a, b)) (q : (am_K h r = 23 ∨ am_K h r = 24) ∧ vp_in z (am_N h r) ∧ am_So l D g B0 tt sa y (pc + 1) al (.int (am_A h r z.toNatClampNeg) :: st) h post) : am_So l D g B0 tt sa y pc al (.int z :: .ref r :: st) h post := by
  intro p e R s m args below meth c H locs cells slots ls hC hE hl hW hR hS hc hs
  obtain ⟨hx, hb, hml, hrt, hlk, hown, hnm, hts, htab, hfr, hlo, htr, hy⟩ := id hC
  have hd := am_rowd hy hr
  have hok : (n == 1) = true := am_rowo hy hr
  rw [beq_iff_eq] at hok
  subst hok
  exact am_bald hx hb hE.1 hW q.1 q.2.1 hd (q.2.2 p e R s m args below meth c H locs cells slots ls hC hE hl hW hR hS hc hs)
theorem am_c_cald {z : Int32} {r : Nat} (hr : am_row y pc = some (.caload, n, a, b)) (q : am_K h r = 25 ∧ vp_in z (am_N h r) ∧ am_So l D g B0 tt sa y (pc + 1) al (.int (am_A h r z.toNatClampNeg) :: st) h post) : am_So l D g B0 tt sa y pc al (.int z :: .ref r :: st) h post := by
  intro p e R s m args below meth c H locs cells slots ls hC hE hl hW hR hS hc hs
  obtain ⟨hx, hb, hml, hrt, hlk, hown, hnm, hts, htab, hfr, hlo, htr, hy⟩ := id hC
  have hd := am_rowd hy hr
  have hok : (n == 1) = true := am_rowo hy hr
  rw [beq_iff_eq] at hok
  subst hok
  exact am_cald hx hb hE.1 hW q.1 q.2.1 hd (q.2.2 p e R s m args below meth c H locs cells slots ls hC hE hl hW hR hS hc hs)
theorem am_c_lald {z : Int32} {r : Nat} (hr : am_row y pc = some (.laload, n, a, b)) (q : am_K h r = 22 ∧ vp_in z (am_N h r) ∧ am_So l D g B0 tt sa y (pc + 1) al (.long (am_B h r z.toNatClampNeg) :: st) h post) : am_So l D g B0 tt sa y pc al (.int z :: .ref r :: st) h post := by
  intro p e R s m args below meth c H locs cells slots ls hC hE hl hW hR hS hc hs
  obtain ⟨hx, hb, hml, hrt, hlk, hown, hnm, hts, htab, hfr, hlo, htr, hy⟩ := id hC
  have hd := am_rowd hy hr
  have hok : (n == 1) = true := am_rowo hy hr
  rw [beq_iff_eq] at hok
  subst hok
  exact am_lald hx hb hE.1 hW q.1 q.2.1 hd (q.2.2 p e R s m args below meth c H locs cells slots ls hC hE hl hW hR hS hc hs)
theorem am_c_aald {z : Int32} {r : Nat} (hr : am_row y pc = some (.aaload, n, a, b)) (q : (am_K h r = 26 ∨ am_K h r = 27) ∧ vp_in z (am_N h r) ∧ am_So l D g B0 tt sa y (pc + 1) al (va_rf (am_C h r z.toNatClampNeg) :: st) h post) : am_So l D g B0 tt sa y pc al (.int z :: .ref r :: st) h post := by
  intro p e R s m args below meth c H locs cells slots ls hC hE hl hW hR hS hc hs
  obtain ⟨hx, hb, hml, hrt, hlk, hown, hnm, hts, htab, hfr, hlo, htr, hy⟩ := id hC
  have hd := am_rowd hy hr
  have hok : (n == 1) = true := am_rowo hy hr
  rw [beq_iff_eq] at hok
  subst hok
  exact am_aald hx hb hE.1 hW q.1 q.2.1 hd (q.2.2 p e R s m args below meth c H locs cells slots ls hC hE hl hW hR hS hc hs)
theorem am_c_alen {r : Nat} (hr : am_row y pc = some (.arraylength, n, a, b)) (q : (20 < am_K h r ∧ (am_K h r ≤ 27 ∨ am_K h r = 31)) ∧ am_So l D g B0 tt sa y (pc + 1) al (.int (Int32.ofNat (am_N h r)) :: st) h post) : am_So l D g B0 tt sa y pc al (.ref r :: st) h post := by
  intro p e R s m args below meth c H locs cells slots ls hC hE hl hW hR hS hc hs
  obtain ⟨hx, hb, hml, hrt, hlk, hown, hnm, hts, htab, hfr, hlo, htr, hy⟩ := id hC
  have hd := am_rowd hy hr
  have hok : (n == 1) = true := am_rowo hy hr
  rw [beq_iff_eq] at hok
  subst hok
  exact am_alen hx hb hE.1 hW hR hS q.1.1 q.1.2 hd (q.2 p e R s m args below meth c H locs cells slots ls hC hE hl hW hR hS hc hs)
theorem am_Rk {h' : am_H} {B0 : Nat} {s : State} {r : Nat} (hR : am_Ro B0 h s) (hr : am_K h r ≠ 31) (hK : am_K h' = am_K h) (hN : am_N h' = am_N h) (hA : ∀ z, z ≠ r → am_A h' z = am_A h z) : am_Ro B0 h' s := by
  refine am_Ro_sub hR fun z hz => ?_
  rw [hK] at hz
  exact ⟨hz, by rw [hN], hA z (fun e => hr (e ▸ hz))⟩
theorem am_c_iast {z : Int32} {v : Int32} {r : Nat} (hr : am_row y pc = some (.iastore, n, a, b)) (q : am_K h r = 21 ∧ vp_in z (am_N h r) ∧ am_So l D g B0 tt sa y (pc + 1) al st (am_sA h r z.toNatClampNeg v) post) : am_So l D g B0 tt sa y pc al (.int v :: .int z :: .ref r :: st) h post := by
  intro p e R s m args below meth c H locs cells slots ls hC hE hl hW hR hS hc hs
  obtain ⟨hx, hb, hml, hrt, hlk, hown, hnm, hts, htab, hfr, hlo, htr, hy⟩ := id hC
  have hd := am_rowd hy hr
  have hok : (n == 1) = true := am_rowo hy hr
  rw [beq_iff_eq] at hok
  subst hok
  exact am_iast hx hb hE.1 hW hS q.1 q.2.1 hd fun H1 locs1 w1 s1 => q.2.2 p e R s m args below meth c H1 locs1 cells slots ls hC hE hl w1 (am_Rk (r := r) hR (by omega) rfl rfl (fun z9 hz => am_u2_ne hz)) s1 hc hs
theorem am_c_bast {z : Int32} {v : Int32} {r : Nat} (hr : am_row y pc = some (.bastore, n, a, b)) (q : am_K h r = 23 ∧ vp_in z (am_N h r) ∧ am_So l D g B0 tt sa y (pc + 1) al st (am_sA h r z.toNatClampNeg v.toInt8.toInt32) post) : am_So l D g B0 tt sa y pc al (.int v :: .int z :: .ref r :: st) h post := by
  intro p e R s m args below meth c H locs cells slots ls hC hE hl hW hR hS hc hs
  obtain ⟨hx, hb, hml, hrt, hlk, hown, hnm, hts, htab, hfr, hlo, htr, hy⟩ := id hC
  have hd := am_rowd hy hr
  have hok : (n == 1) = true := am_rowo hy hr
  rw [beq_iff_eq] at hok
  subst hok
  exact am_bast hx hb hE.1 hW hS q.1 q.2.1 hd fun H1 locs1 w1 s1 => q.2.2 p e R s m args below meth c H1 locs1 cells slots ls hC hE hl w1 (am_Rk (r := r) hR (by omega) rfl rfl (fun z9 hz => am_u2_ne hz)) s1 hc hs
theorem am_c_zast {z : Int32} {v : Int32} {r : Nat} (hr : am_row y pc = some (.bastore, n, a, b)) (q : am_K h r = 24 ∧ vp_in z (am_N h r) ∧ am_So l D g B0 tt sa y (pc + 1) al st (am_sA h r z.toNatClampNeg (v &&& 1)) post) : am_So l D g B0 tt sa y pc al (.int v :: .int z :: .ref r :: st) h post := by
  intro p e R s m args below meth c H locs cells slots ls hC hE hl hW hR hS hc hs
  obtain ⟨hx, hb, hml, hrt, hlk, hown, hnm, hts, htab, hfr, hlo, htr, hy⟩ := id hC
  have hd := am_rowd hy hr
  have hok : (n == 1) = true := am_rowo hy hr
  rw [beq_iff_eq] at hok
  subst hok
  exact am_zast hx hb hE.1 hW hS q.1 q.2.1 hd fun H1 locs1 w1 s1 => q.2.2 p e R s m args below meth c H1 locs1 cells slots ls hC hE hl w1 (am_Rk (r := r) hR (by omega) rfl rfl (fun z9 hz => am_u2_ne hz)) s1 hc hs
theorem am_c_cast {z : Int32} {v : Int32} {r : Nat} (hr : am_row y pc = some (.castore, n, a, b)) (q : am_K h r = 25 ∧ vp_in z (am_N h r) ∧ am_So l D g B0 tt sa y (pc + 1) al st (am_sA h r z.toNatClampNeg v.toUInt32.toUInt16.toUInt32.toInt32) post) : am_So l D g B0 tt sa y pc al (.int v :: .int z :: .ref r :: st) h post := by
  intro p e R s m args below meth c H locs cells slots ls hC hE hl hW hR hS hc hs
  obtain ⟨hx, hb, hml, hrt, hlk, hown, hnm, hts, htab, hfr, hlo, htr, hy⟩ := id hC
  have hd := am_rowd hy hr
  have hok : (n == 1) = true := am_rowo hy hr
  rw [beq_iff_eq] at hok
  subst hok
  exact am_cast hx hb hE.1 hW hS q.1 q.2.1 hd fun H1 locs1 w1 s1 => q.2.2 p e R s m args below meth c H1 locs1 cells slots ls hC hE hl w1 (am_Rk (r := r) hR (by omega) rfl rfl (fun z9 hz => am_u2_ne hz)) s1 hc hs
theorem am_c_last {z : Int32} {v : Int64} {r : Nat} (hr : am_row y pc = some (.lastore, n, a, b)) (q : am_K h r = 22 ∧ vp_in z (am_N h r) ∧ am_So l D g B0 tt sa y (pc + 1) al st (am_sB h r z.toNatClampNeg v) post) : am_So l D g B0 tt sa y pc al (.long v :: .int z :: .ref r :: st) h post := by
  intro p e R s m args below meth c H locs cells slots ls hC hE hl hW hR hS hc hs
  obtain ⟨hx, hb, hml, hrt, hlk, hown, hnm, hts, htab, hfr, hlo, htr, hy⟩ := id hC
  have hd := am_rowd hy hr
  have hok : (n == 1) = true := am_rowo hy hr
  rw [beq_iff_eq] at hok
  subst hok
  exact am_last hx hb hE.1 hW hS q.1 q.2.1 hd fun H1 locs1 w1 s1 => q.2.2 p e R s m args below meth c H1 locs1 cells slots ls hC hE hl w1 (am_Rk (r := r) hR (by omega) rfl rfl (fun _ _ => rfl)) s1 hc hs
theorem am_c_aast {z : Int32} {v : Nat} {r : Nat} (hr : am_row y pc = some (.aastore, n, a, b)) (q : ((am_K h r = 26 ∧ am_K h v = 5) ∨ (am_K h r = 27 ∧ am_K h v = 2)) ∧ vp_in z (am_N h r) ∧ am_So l D g B0 tt sa y (pc + 1) al st (am_sC h r z.toNatClampNeg (some v)) post) : am_So l D g B0 tt sa y pc al (.ref v :: .int z :: .ref r :: st) h post := by
  intro p e R s m args below meth c H locs cells slots ls hC hE hl hW hR hS hc hs
  obtain ⟨hx, hb, hml, hrt, hlk, hown, hnm, hts, htab, hfr, hlo, htr, hy⟩ := id hC
  have hd := am_rowd hy hr
  have hok : (n == 1) = true := am_rowo hy hr
  rw [beq_iff_eq] at hok
  subst hok
  exact am_aast hx hb hE.1 hW hS q.1 q.2.1 hd fun H1 locs1 w1 s1 => q.2.2 p e R s m args below meth c H1 locs1 cells slots ls hC hE hl w1 (am_Rk (r := r) hR (by omega) rfl rfl (fun _ _ => rfl)) s1 hc hs
theorem am_t_lt : ∀ ci, ci < 11 → ∀ k, k < am_n ci → am_t ci k ≤ 3 := by decide +kernel
theorem am_df {ci k : Nat} {q : Nat} (hc : ci < 11) (hk : k < am_n ci) : defaultValue (am_ty ci k) = vp_V (am_fs (am_nO h q ci) ci q) k := by
  unfold vp_V
  rw [List.getD_eq_getElem?_getD, am_fs_get hk]
  have h2 := (am_ck_ty hc k hk).2.1
  have h3 := am_t_lt ci hc k hk
  show _ = am_fv (am_nO h q ci) ci k q
  have hI : am_I (am_nO h q ci) ci k q = 0 := if_pos rfl
  have hJ : am_J (am_nO h q ci) ci k q = 0 := if_pos rfl
  have hR : am_R (am_nO h q ci) ci k q = none := if_pos rfl
  unfold am_fv
  rw [hI, hJ, hR, ← h2]
  rw [← h2] at h3
  cases hq : am_ty ci k <;> first | rfl | (rw [hq] at h3; simp [am_tyk] at h3)
theorem am_Rn {h' : am_H} {s : State} {q k : Nat} (hR : am_Ro B0 h s) (hq : am_K h q = 0) (hk : k ≠ 31) (hK : am_K h' = va_up (am_K h) q k) (hN : ∀ z, z ≠ q → am_N h' z = am_N h z) (hA : ∀ z, z ≠ q → am_A h' z = am_A h z) : am_Ro B0 h' s := by
  refine am_Ro_sub hR fun z hz => ?_
  rw [hK] at hz
  by_cases e : z = q
  · subst e
    rw [show va_up (am_K h) z k z = k from if_pos rfl] at hz
    exact absurd hz hk
  · rw [show va_up (am_K h) q k z = am_K h z from if_neg e] at hz
    exact ⟨hz, hN z e, hA z e⟩
theorem am_c_new (hr : am_row y pc = some (.new x, n, a, b)) (q : b = 0 ∧ am_U h + 1 ≤ am_LC ∧ am_V h + am_n a ≤ am_LS ∧ ∀ q, am_K h q = 0 → am_So l D g B0 tt sa y (pc + 3) al (.ref q :: st) (am_nO h q a) post) : am_So l D g B0 tt sa y pc al st h post := by
  intro p e R s m args below meth c H locs cells slots ls hC hE hl hW hR hS hc hs
  obtain ⟨hx, hb, hml, hrt, hlk, hown, hnm, hts, htab, hfr, hlo, htr, hy⟩ := id hC
  obtain ⟨c1, c2, c3⟩ := id hc
  obtain ⟨s1', s2, s3⟩ := id hs
  have hd := am_rowd hy hr
  have hok := am_rowo hy hr
  obtain ⟨rfl, q1, q2, q3⟩ := q
  dsimp only [am_okr] at hok
  rw [Bool.and_eq_true, Bool.or_eq_true, beq_iff_eq] at hok
  obtain ⟨rfl, hok⟩ := hok
  have hok : am_kl_.any (fun q => q.1 == am_ow y && q.2.1 == x && q.2.2.1 == a) = true ∧ a < 11 := by
    rcases hok with z | z
    · rw [Bool.and_eq_true, Bool.and_eq_true, decide_eq_true_eq] at z
      exact ⟨z.1.2, z.2⟩
    · rw [Bool.and_eq_true] at z
      exact absurd z.1 (by decide)
  obtain ⟨L, hL, hP, hD⟩ := hW
  refine va_new (ci := a) (fs := am_fs (am_nO h pc a) a pc) hx hb hts (am_ck_in hok.2) (am_ty a) (fun j hj => (am_ck_ty hok.2 j hj).1) hown (hts _ (am_kl_of hok.1)) (hts _ (am_ck_is hok.2).1) (hts _ (am_ck_is hok.2).2) hE.1 hP hD hS (fun z hz => Nat.le_trans hE.2.1 hz) (am_ck_cl a hok.2) (fun j hj => am_df hok.2 hj) (by omega) (by omega) hd fun z H1 p1 d1 s1 => ?_
  obtain ⟨f1, f2⟩ := am_fresh hL hR d1
  have e0 : am_fs (am_nO h pc a) a pc = am_fs (am_nO h z a) a z := by
    unfold am_fs
    refine List.map_congr_left fun k _ => ?_
    unfold am_fv
    rw [show am_I (am_nO h pc a) a k pc = 0 from if_pos rfl, show am_J (am_nO h pc a) a k pc = 0 from if_pos rfl, show am_R (am_nO h pc a) a k pc = none from if_pos rfl, show am_I (am_nO h z a) a k z = 0 from if_pos rfl, show am_J (am_nO h z a) a k z = 0 from if_pos rfl, show am_R (am_nO h z a) a k z = none from if_pos rfl]
  rw [e0] at p1 d1
  exact q3 z f1 p e R s m args below meth c H1 locs (cells + 1) (slots + am_n a) ls hC hE hl (am_newW hL f2 (by omega) rfl (am_ce_nO hok.2) p1 d1) (am_Rn hR f1 (by omega) rfl (fun _ _ => rfl) (fun _ _ => rfl)) s1 ⟨by show cells + 1 + s.heap.size ≤ B0 + (am_U h + 1); omega, q1, c3⟩ ⟨by show slots + am_n a + am_sz B0 s.heap ≤ am_V h + am_n a; omega, q2, s3⟩
theorem am_w_ac : Cond.arrayClass .int ∈ am_wG ∧ Cond.arrayClass .long ∈ am_wG ∧ Cond.arrayClass .byte ∈ am_wG ∧ Cond.arrayClass .boolean ∈ am_wG ∧ Cond.arrayClass .char ∈ am_wG :=
  ⟨am_at_in (w := 235) (by decide +kernel), am_at_in (w := 1289) (by decide +kernel), am_at_in (w := 206) (by decide +kernel), am_at_in (w := 309) (by decide +kernel), am_at_in (w := 205) (by decide +kernel)⟩
def am_naz (r : am_Row) : Bool := match r.2.1 with
  | .newarray t => decide (t = .int ∨ t = .long ∨ t = .byte ∨ t = .boolean ∨ t = .char)
  | _ => true
theorem am_noz : ∀ y, y < 206 → (am_rs.getD y []).all am_naz = true := by decide +kernel
theorem am_c_newa {t : ArrayType} {z : Int32} (hr : am_row y pc = some (.newarray t, n, a, b)) (q : ¬ z < 0 ∧ z.toNatClampNeg ≤ 60000 ∧ am_U h + 1 ≤ am_LC ∧ am_V h + z.toNatClampNeg ≤ am_LS ∧ ∀ q, am_K h q = 0 → am_So l D g B0 tt sa y (pc + 2) al (.ref q :: st) (am_nA h q a z.toNatClampNeg) post) : am_So l D g B0 tt sa y pc al (.int z :: st) h post := by
  intro p e R s m args below meth c H locs cells slots ls hC hE hl hW hR hS hc hs
  obtain ⟨hx, hb, hml, hrt, hlk, hown, hnm, hts, htab, hfr, hlo, htr, hy⟩ := id hC
  obtain ⟨c1, c2, c3⟩ := id hc
  obtain ⟨s1', s2, s3⟩ := id hs
  have hd := am_rowd hy hr
  have hok := am_rowo hy hr
  have hn2 : n = 2 := by
    dsimp only [am_okr] at hok
    rw [Bool.and_eq_true, beq_iff_eq] at hok
    exact hok.1
  subst hn2
  obtain ⟨q1, q2, q3, q4, q5⟩ := q
  obtain ⟨L, hL, hP, hD⟩ := hW
  have go : ∀ (ty : FieldType) (k : Nat), newarray.typeOf t = ty → a = k → (k ≠ 0 ∧ k ≠ 31) → Cond.arrayClass ty ∈ am_wG → componentBytes ty ≤ 8 → (∀ cA : ClassId, s.vm.findClass ("[" ++ ty.toString) = some cA → cA = g k) → (vp_A_ok : vp_A) → (∀ q : Nat, am_ce g (am_nA h q k z.toNatClampNeg) q = .inl (g k, vp_A_ok)) → (∀ cA : ClassId, vp_cell cA vp_A_ok = arrV cA z.toNatClampNeg (fun _ => defaultValue ty)) →
      (∀ (cA : ClassId), va_RA s cA ty → s.vm.findClass ("[" ++ ty.toString) = some cA) → W p l e R s m args below meth c H locs cells slots (vx_MQ below (am_Qc D g B0 post) (am_Xc D g B0 post) args s R.cells R.slots (am_A0 B0)) (F0 m pc ls (.int z :: st)) := by
    intro ty k ht hak hk hac hcb hg vp hce hcell hra
    subst hak
    refine va_newa (a0 := vp) hx hb (by rw [ht]; exact hts _ hac) ht hE.1 hP hD hS (fun w hw => Nat.le_trans hE.2.1 hw) hcell q1 rfl (by
      have : z.toNatClampNeg * componentBytes ty ≤ 60000 * 8 := Nat.mul_le_mul q2 hcb
      omega) (by omega) (by omega) hd fun w cA H1 k1 p1 d1 s1 => ?_
    have e1 : cA = g a := hg cA (hra cA (k1.2 (am_tys g).length (cA, ty) (by simp)).2)
    subst e1
    obtain ⟨f1, f2⟩ := am_fresh hL hR d1
    refine q5 w f1 p e R s m args below meth c H1 locs (cells + 1) (slots + z.toNatClampNeg) ls hC hE hl (am_newW (e' := .inl (g a, vp)) hL f2 hk rfl ?_ p1 d1) (am_Rn hR f1 hk.2 rfl (fun _ z9 => if_neg z9) (fun _ z9 => if_neg z9)) s1 ⟨by show cells + 1 + s.heap.size ≤ B0 + (am_U h + 1); omega, q3, c3⟩ ⟨by show slots + z.toNatClampNeg + am_sz B0 s.heap ≤ am_V h + z.toNatClampNeg; omega, q4, s3⟩
    rw [am_ce_nA, hce w]
  have hKt := hE.1.2
  have fnd : ∀ (j : Nat) (cB : ClassId) (ty : FieldType), (am_tys g)[j]? = some (cB, ty) → (∀ cA : ClassId, va_RA s cA ty → s.vm.findClass ("[" ++ ty.toString) = some cA) → ∀ cA : ClassId, s.vm.findClass ("[" ++ ty.toString) = some cA → cA = cB := by
    intro j cB ty hj hra cA h1
    exact Option.some.inj (h1.symm.trans (hra cB (hKt j (cB, ty) hj).2))
  have hN : ∀ q : Nat, am_N (am_nA h q a z.toNatClampNeg) q = z.toNatClampNeg := fun q => if_pos rfl
  have hA : ∀ q : Nat, am_A (am_nA h q a z.toNatClampNeg) q = fun _ => 0 := fun q => if_pos rfl
  have hB : ∀ q : Nat, am_B (am_nA h q a z.toNatClampNeg) q = fun _ => 0 := fun q => if_pos rfl
  have hKq : ∀ q : Nat, am_K (am_nA h q a z.toNatClampNeg) q = a := fun q => if_pos rfl
  have w := am_w_ac
  have hz : t = .int ∨ t = .long ∨ t = .byte ∨ t = .boolean ∨ t = .char := by
    have h9 := List.all_eq_true.mp (am_noz y hy) _ (am_look _ _ _ hr)
    exact of_decide_eq_true h9
  cases t
  · have hok : a = 24 := by simpa [am_okr] using hok
    exact go .boolean 24 rfl hok (by omega) w.2.2.2.1 (by decide) (fnd 3 (g 24) .boolean rfl (fun _ z => z)) (z.toNatClampNeg, .inl (fun _ => 0)) (fun q => by rw [← hok, am_ceI (k := a) (hKq q) (by omega), hN, hA]) (fun _ => rfl) (fun _ z => z)
  · have hok : a = 25 := by simpa [am_okr] using hok
    exact go .char 25 rfl hok (by omega) w.2.2.2.2 (by decide) (fnd 4 (g 25) .char rfl (fun _ z => z)) (z.toNatClampNeg, .inl (fun _ => 0)) (fun q => by rw [← hok, am_ceI (k := a) (hKq q) (by omega), hN, hA]) (fun _ => rfl) (fun _ z => z)
  · exfalso; revert hz; decide
  · exfalso; revert hz; decide
  · have hok : a = 23 := by simpa [am_okr] using hok
    exact go .byte 23 rfl hok (by omega) w.2.2.1 (by decide) (fnd 2 (g 23) .byte rfl (fun _ z => z)) (z.toNatClampNeg, .inl (fun _ => 0)) (fun q => by rw [← hok, am_ceI (k := a) (hKq q) (by omega), hN, hA]) (fun _ => rfl) (fun _ z => z)
  · exfalso; revert hz; decide
  · have hok : a = 21 := by simpa [am_okr] using hok
    exact go .int 21 rfl hok (by omega) w.1 (by decide) (fnd 0 (g 21) .int rfl (fun _ z => z)) (z.toNatClampNeg, .inl (fun _ => 0)) (fun q => by rw [← hok, am_ceI (k := a) (hKq q) (by omega), hN, hA]) (fun _ => rfl) (fun _ z => z)
  · have hok : a = 22 := by simpa [am_okr] using hok
    exact go .long 22 rfl hok (by omega) w.2.1 (by decide) (fnd 1 (g 22) .long rfl (fun _ z => z)) (z.toNatClampNeg, .inr (.inl (fun _ => 0))) (fun q => by rw [← hok, am_ceL (by rw [hKq]; exact hok), hN, hB, hok]) (fun _ => rfl) (fun _ z => z)
end AMK
