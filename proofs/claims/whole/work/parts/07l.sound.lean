/-! ===== the library's own methods; the small machine is sound ===== -/
set_option maxRecDepth 100000 in
theorem am_w_oi : Cond.instanceMethod objectInit ∈ am_wG := am_in_of (i := 114) rfl rfl
set_option maxRecDepth 100000 in
theorem am_w_oc : Cond.code objectInit ⟨#[0xb1]⟩ 1 none ∈ am_wG := am_in_of (i := 115) rfl rfl
set_option maxRecDepth 100000 in
theorem am_w_m1 : Cond.static Lib.Math.max.name ∈ am_wG := am_in_of (i := 562) rfl rfl
set_option maxRecDepth 100000 in
theorem am_w_m2 : Cond.code Lib.Math.max.name Lib.Math.max.code 2 (some .int) ∈ am_wG := am_in_of (i := 563) rfl rfl
set_option maxRecDepth 100000 in
theorem am_w_m3 : Cond.static Lib.Math.min.name ∈ am_wG := am_in_of (i := 709) rfl rfl
set_option maxRecDepth 100000 in
theorem am_w_m4 : Cond.code Lib.Math.min.name Lib.Math.min.code 2 (some .int) ∈ am_wG := am_in_of (i := 710) rfl rfl
set_option maxRecDepth 100000 in
theorem am_w_m5 : Cond.initialized "java/lang/Math" ∈ am_wG := am_in_of (i := 98) rfl rfl
set_option maxRecDepth 100000 in
theorem am_w_s1 : Cond.static arraycopyName ∈ am_wG := am_in_of (i := 963) rfl rfl
set_option maxRecDepth 100000 in
theorem am_w_s2 : Cond.native arraycopyName ∈ am_wG := am_in_of (i := 964) rfl rfl
set_option maxRecDepth 100000 in
theorem am_w_s3 : Cond.initialized "java/lang/System" ∈ am_wG := am_in_of (i := 103) rfl rfl
section AMO
variable {l : Launch} {D : va_G} {g : Nat → ClassId} {B0 : Nat} {tt sa : Nat → Nat} {y pc : Nat} {al : List (Option Value)} {st : List Value} {h : am_H} {post : am_P} {n a b x : Nat}
theorem am_c_obj (hr : am_row y pc = some (.invokespecial x, n, a, b)) (q : b = 4 ∧ ∃ r rest, st = .ref r :: rest ∧ am_w rest ≤ 8 ∧ am_So l D g B0 tt sa y (pc + 3) al rest h post) : am_So l D g B0 tt sa y pc al st h post := by
  intro p e R s m args below meth c H locs cells slots ls hC hE hl hW hR hS hc hs
  obtain ⟨c1', c2', c3'⟩ := id hc
  obtain ⟨s1', s2', s3'⟩ := id hs
  obtain ⟨hx, hb, hml, hrt, hlk, hown, hnm, hts, htab, hfr, hlo, htr, hy⟩ := id hC
  have hd := am_rowd hy hr
  have hok := am_rowo hy hr
  dsimp only [am_okr] at hok
  obtain ⟨rfl, r, rest, rfl, q1, q2⟩ := q
  have hok2 : n = 3 ∧ am_co.any (fun q => q.1 == am_ow y && q.2.1 == x) = true := by
    simp only [Bool.and_eq_true, Bool.or_eq_true, beq_iff_eq, decide_eq_true_eq] at hok
    refine ⟨hok.1, ?_⟩
    rcases hok.2 with ((z | z) | z) | z
    · exact z.2
    · exact absurd z.1.1.1 (by decide)
    · exact absurd z.1.1.1 (by decide)
    · exact absurd z (by decide)
  obtain ⟨rfl, hco⟩ := hok2
  have hlk2 : Cond.methodLink (am_cn (am_ow y)) x objectInit ∈ am_wG := by
    simp only [List.any_eq_true, Bool.and_eq_true, beq_iff_eq] at hco
    obtain ⟨w, hw, e1, e2⟩ := hco
    have := am_at_in (List.all_eq_true.mp am_co_ok w hw)
    rw [e1, e2] at this
    exact this
  have hw8 : (rest.map fun v => v.category).sum ≤ 8 := q1
  refine W.objInit hx hb hown (hts _ hlk2) (hts _ am_w_oi) (hts _ am_w_oc) rfl (by rw [hml]; exact hl.1) rfl hd (by omega) (by show 2 * 0 + _ + 12 ≤ _; omega) ?_
  exact W.eq (g2 := F0 m (pc + 3) ls rest) rfl (q2 p e R s m args below meth c H locs cells slots ls hC hE hl hW hR hS hc hs)
theorem am_c_max (hr : am_row y pc = some (.invokestatic x, n, a, b)) (q : b = 7 ∧ ∃ u v rest, st = .int v :: .int u :: rest ∧ am_w rest ≤ 8 ∧ am_So l D g B0 tt sa y (pc + 3) al (.int (if u < v then v else u) :: rest) h post) : am_So l D g B0 tt sa y pc al st h post := by
  intro p e R s m args below meth c H locs cells slots ls hC hE hl hW hR hS hc hs
  obtain ⟨c1', c2', c3'⟩ := id hc
  obtain ⟨s1', s2', s3'⟩ := id hs
  obtain ⟨hx, hb, hml, hrt, hlk, hown, hnm, hts, htab, hfr, hlo, htr, hy⟩ := id hC
  have hd := am_rowd hy hr
  have hok := am_rowo hy hr
  dsimp only [am_okr] at hok
  obtain ⟨rfl, u, v, rest, rfl, q1, q2⟩ := q
  have hok2 : n = 3 ∧ am_cx.any (fun q => q.1 == am_ow y && q.2.1 == x) = true := by
    simp only [Bool.and_eq_true, Bool.or_eq_true, beq_iff_eq, decide_eq_true_eq] at hok
    refine ⟨hok.1, ?_⟩
    rcases hok.2 with ((((z | z) | z) | z) | z) | z
    · exact absurd z.1.1.1 (by decide)
    · exact absurd z.1.1.1 (by decide)
    · exact absurd z.1.1.1 (by decide)
    · exact z.2
    · exact absurd z.1 (by decide)
    · exact absurd z.1 (by decide)
  obtain ⟨rfl, hco⟩ := hok2
  have hlk2 : Cond.methodLink (am_cn (am_ow y)) x Lib.Math.max.name ∈ am_wG := by
    simp only [List.any_eq_true, Bool.and_eq_true, beq_iff_eq] at hco
    obtain ⟨w, hw, e1, e2⟩ := hco
    have := am_at_in (List.all_eq_true.mp am_cx_ok w hw)
    rw [e1, e2] at this
    exact this
  have hw8 : (rest.map fun v => v.category).sum ≤ 8 := q1
  exact va_mmax hx hb (hml.trans hl.1.symm) hown (hts _ hlk2) (hts _ am_w_m1) (hts _ am_w_m5) (hts _ am_w_m2) (by omega) (by omega) (by omega) (by omega) hd (q2 p e R s m args below meth c H locs cells slots ls hC hE hl hW hR hS hc hs)
theorem am_c_min (hr : am_row y pc = some (.invokestatic x, n, a, b)) (q : b = 8 ∧ ∃ u v rest, st = .int v :: .int u :: rest ∧ am_w rest ≤ 8 ∧ am_So l D g B0 tt sa y (pc + 3) al (.int (if v < u then v else u) :: rest) h post) : am_So l D g B0 tt sa y pc al st h post := by
  intro p e R s m args below meth c H locs cells slots ls hC hE hl hW hR hS hc hs
  obtain ⟨c1', c2', c3'⟩ := id hc
  obtain ⟨s1', s2', s3'⟩ := id hs
  obtain ⟨hx, hb, hml, hrt, hlk, hown, hnm, hts, htab, hfr, hlo, htr, hy⟩ := id hC
  have hd := am_rowd hy hr
  have hok := am_rowo hy hr
  dsimp only [am_okr] at hok
  obtain ⟨rfl, u, v, rest, rfl, q1, q2⟩ := q
  have hok2 : n = 3 ∧ am_ci.any (fun q => q.1 == am_ow y && q.2.1 == x) = true := by
    simp only [Bool.and_eq_true, Bool.or_eq_true, beq_iff_eq, decide_eq_true_eq] at hok
    refine ⟨hok.1, ?_⟩
    rcases hok.2 with ((((z | z) | z) | z) | z) | z
    · exact absurd z.1.1.1 (by decide)
    · exact absurd z.1.1.1 (by decide)
    · exact absurd z.1.1.1 (by decide)
    · exact absurd z.1 (by decide)
    · exact z.2
    · exact absurd z.1 (by decide)
  obtain ⟨rfl, hco⟩ := hok2
  have hlk2 : Cond.methodLink (am_cn (am_ow y)) x Lib.Math.min.name ∈ am_wG := by
    simp only [List.any_eq_true, Bool.and_eq_true, beq_iff_eq] at hco
    obtain ⟨w, hw, e1, e2⟩ := hco
    have := am_at_in (List.all_eq_true.mp am_ci_ok w hw)
    rw [e1, e2] at this
    exact this
  have hw8 : (rest.map fun v => v.category).sum ≤ 8 := q1
  exact va_mmin hx hb (hml.trans hl.1.symm) hown (hts _ hlk2) (hts _ am_w_m3) (hts _ am_w_m5) (hts _ am_w_m4) (by omega) (by omega) (by omega) (by omega) hd (q2 p e R s m args below meth c H locs cells slots ls hC hE hl hW hR hS hc hs)
theorem am_c_copy (hr : am_row y pc = some (.invokestatic x, n, a, b)) (q : b = 9 ∧ ∃ n dp d sp sr rest, st = .int n :: .int dp :: .ref d :: .int sp :: .ref sr :: rest ∧ am_w rest ≤ 8 ∧ am_K h sr = 23 ∧ am_K h d = 23 ∧ ¬ sp < 0 ∧ ¬ dp < 0 ∧ ¬ n < 0 ∧ sp.toNatClampNeg + n.toNatClampNeg ≤ am_N h sr ∧ dp.toNatClampNeg + n.toNatClampNeg ≤ am_N h d ∧
        (∀ j, j < n.toNatClampNeg → fits .byte (.int (am_A h sr (sp.toNatClampNeg + j))) = true) ∧ am_So l D g B0 tt sa y (pc + 3) al rest (am_cA h d (va_cpy (am_A h sr) (am_A h d) sp.toNatClampNeg dp.toNatClampNeg n.toNatClampNeg)) post) : am_So l D g B0 tt sa y pc al st h post := by
  intro p e R s m args below meth c H locs cells slots ls hC hE hl hW hR hS hc hs
  obtain ⟨c1', c2', c3'⟩ := id hc
  obtain ⟨s1', s2', s3'⟩ := id hs
  obtain ⟨hx, hb, hml, hrt, hlk, hown, hnm, hts, htab, hfr, hlo, htr, hy⟩ := id hC
  have hd := am_rowd hy hr
  have hok := am_rowo hy hr
  dsimp only [am_okr] at hok
  obtain ⟨rfl, k, dp, d, sp, sr, rest, rfl, q1, q2, q3, q4, q5, q6, q7, q8, q9, q10⟩ := q
  have hok2 : n = 3 ∧ am_cc.any (fun q => q.1 == am_ow y && q.2.1 == x) = true := by
    simp only [Bool.and_eq_true, Bool.or_eq_true, beq_iff_eq, decide_eq_true_eq] at hok
    refine ⟨hok.1, ?_⟩
    rcases hok.2 with ((((z | z) | z) | z) | z) | z
    · exact absurd z.1.1.1 (by decide)
    · exact absurd z.1.1.1 (by decide)
    · exact absurd z.1.1.1 (by decide)
    · exact absurd z.1 (by decide)
    · exact absurd z.1 (by decide)
    · exact z.2
  obtain ⟨rfl, hco⟩ := hok2
  have hlk2 : Cond.methodLink (am_cn (am_ow y)) x arraycopyName ∈ am_wG := by
    simp only [List.any_eq_true, Bool.and_eq_true, beq_iff_eq] at hco
    obtain ⟨w, hw, e1, e2⟩ := hco
    have := am_at_in (List.all_eq_true.mp am_cc_ok w hw)
    rw [e1, e2] at this
    exact this
  have hw8 : (rest.map fun v => v.category).sum ≤ 8 := q1
  obtain ⟨L, hL, hP, hD⟩ := hW
  have hm : d ∈ L := (hL d).mpr ⟨by omega, by omega⟩
  have hm2 : sr ∈ L := (hL sr).mpr ⟨by omega, by omega⟩
  obtain ⟨z1, hz1⟩ := am_pg (f := am_ce g h) hm
  obtain ⟨z0, hz0⟩ := am_pg (f := am_ce g h) hm2
  have hset : ∀ e' : va_E, (va_pl L (am_ce g h)).set z1 (d, e') = va_pl L (va_up (am_ce g h) d e') := fun e' => am_ps hD hm hz1
  rw [am_ceI q3 (by omega)] at hz1
  rw [am_ceI q2 (by omega)] at hz0
  refine va_copyi hx hb (hml.trans hl.1.symm) hown (hts _ hlk2) (hts _ am_w_s2) (hts _ am_w_s1) (hts _ am_w_s3) hE.1 hP hD hS z0 z1 2 2 hz0 hz1 rfl rfl rfl q4 q5 q6 q7 q8 q9 (by omega) (by
    have : nativeFrameWords "java/lang/System" "arraycopy" 5 = 7 := by decide +kernel
    rw [this]; omega) hd fun H1 locs1 p1 d1 s1 => ?_
  rw [hset] at p1 d1
  refine q10 p e R s m args below meth c H1 locs1 cells slots ls hC hE hl ⟨L, hL, by rw [am_ce_cA q3 (by omega)]; exact p1, by rw [am_ce_cA q3 (by omega)]; exact d1⟩ (am_Rk (r := d) hR (by omega) rfl rfl (fun w hw => if_neg hw)) s1 hc hs
set_option maxHeartbeats 4000000 in
/-- THE SMALL MACHINE IS SOUND -/
theorem am_close (hCt : am_Catch) (y pc : Nat) (al : List (Option Value)) (st : List Value) (h : am_H) (post : am_P) (q : am_st tt (am_So l D g B0 tt sa) y pc al st h post) : am_So l D g B0 tt sa y pc al st h post := by
  unfold am_st at q
  split at q
  · exact absurd q id
  · rename_i r hr
    obtain ⟨i, n, a, b⟩ := r
    dsimp only at q
    unfold am_in at q
    split at q
    · rename_i st' hp
      intro p e R s m args below meth c H locs cells slots ls hC hE hl hW hR hS hc hs
      have hy := hC.2.2.2.2.2.2.2.2.2.2.2.2
      exact am_pu_ok hC.1 hC.2.1 (am_rowd hy hr) (am_pu_len hp (am_rowo hy hr)) hp (q p e R s m args below meth c H locs cells slots ls hC hE hl hW hR hS hc hs)
    · split at q
      · rename_i w hp
        intro p e R s m args below meth c H locs cells slots ls hC hE hl hW hR hS hc hs
        have hy := hC.2.2.2.2.2.2.2.2.2.2.2.2
        exact am_lo_ok hC.1 hC.2.1 (am_rowd hy hr) (am_lo_len hp (am_rowo hy hr)) hl hp (fun ls' hl' => q p e R s m args below meth c H locs cells slots ls' hC hE hl' hW hR hS hc hs)
      · split at q
        · rename_i w hp
          intro p e R s m args below meth c H locs cells slots ls hC hE hl hW hR hS hc hs
          have hy := hC.2.2.2.2.2.2.2.2.2.2.2.2
          have hn := am_br_len hp (am_rowo hy hr)
          exact am_br_ok hC.1 hC.2.1 (am_rowd hy hr) hn.1 hn.2 hp (fun z => q.1 z p e R s m args below meth c H locs cells slots ls hC hE hl hW hR hS hc hs) (fun z => q.2 z p e R s m args below meth c H locs cells slots ls hC hE hl hW hR hS hc hs)
        · unfold am_im at q
          split at q
          · exact am_c_ldc hr q
          · exact am_c_ldc2 hr q
          · exact am_c_idiv hr q
          · exact am_c_irem hr q
          · exact am_c_sw hr q
          · exact am_c_get hr q
          · exact am_c_put hr q
          · exact am_c_gets hr q
          · exact am_c_iald hr q
          · exact am_c_bald hr q
          · exact am_c_cald hr q
          · exact am_c_lald hr q
          · exact am_c_aald hr q
          · exact am_c_iast hr q
          · rcases q.2 with z | z
            · exact am_c_bast hr ⟨z.1, q.1, z.2⟩
            · exact am_c_zast hr ⟨z.1, q.1, z.2⟩
          · exact am_c_cast hr q
          · exact am_c_last hr q
          · exact am_c_aast hr q
          · exact am_c_alen hr q
          · exact am_c_newa hr q
          · exact am_c_anew hr q
          · rcases q with z | z
            · exact am_c_new hr z
            · exact am_c_throw hr z
          · exact am_c_virt hCt hr q
          · rcases q with z | z
            · exact am_c_obj hr z
            · exact am_c_init hr z
          · rcases q with z | z | z | z | z
            · exact am_c_stat hCt hr z
            · exact am_c_sn hr z
            · exact am_c_max hr z
            · exact am_c_min hr z
            · exact am_c_copy hr z
          · exact am_c_iret hr q
          · exact am_c_lret hr q
          · exact am_c_aret (Or.inr ⟨_, rfl⟩) hr q
          · exact am_c_aret (Or.inl rfl) hr q
          · exact am_c_vret hr q
          · exact absurd q id
theorem am_sound (hCt : am_Catch) (q : am_Ev tt y pc al st h post) : am_So l D g B0 tt sa y pc al st h post := q _ (am_close hCt)
end AMO
