/-! ===== calls ===== -/
theorem am_mw_ow : am_mw.all (fun q => decide (q.2.2.2.2 = 0 → am_ow q.1 < 11) && decide (q.2.2.2.2 = 2 → am_rt q.1 = none)) = true := by decide +kernel
theorem am_kd_ow {a : Nat} (h : am_kd a 0 = true) : am_ow a < 11 := by
  obtain ⟨q, hq, rfl, hk⟩ := am_kd_of h
  have h1 := List.all_eq_true.mp am_mw_ow q hq
  simp only [Bool.and_eq_true, decide_eq_true_eq] at h1
  exact h1.1 hk
theorem am_kd_rt {a : Nat} (h : am_kd a 2 = true) : am_rt a = none := by
  obtain ⟨q, hq, rfl, hk⟩ := am_kd_of h
  have h1 := List.all_eq_true.mp am_mw_ow q hq
  simp only [Bool.and_eq_true, decide_eq_true_eq] at h1
  exact h1.2 hk
theorem am_split {st : List Value} {k r : Nat} (h : k < st.length) (hr : (st.drop k).head? = some (.ref r)) : st = ((st.take k).reverse).reverse ++ .ref r :: st.drop (k + 1) := by
  rw [List.reverse_reverse]
  have h1 : st.drop k = .ref r :: st.drop (k + 1) := by
    cases hq : st.drop k with
    | nil => rw [hq] at hr; cases hr
    | cons w t =>
      rw [hq] at hr
      simp only [List.head?_cons, Option.some.injEq] at hr
      subst hr
      have : st.drop (k + 1) = t := by
        rw [← List.drop_drop, hq]
        rfl
      rw [this]
  rw [← h1, List.take_append_drop]
section AMV
variable {l : Launch} {D : va_G} {g : Nat → ClassId} {B0 : Nat} {tt sa : Nat → Nat} {y pc : Nat} {al : List (Option Value)} {st : List Value} {h : am_H} {post : am_P} {n a b x : Nat}
theorem am_wsG {a : Nat} (ha : a < 205) : ∀ w ∈ am_ws a, w ∈ am_wG := fun w hw => (List.mem_cons.mp hw).elim (fun e => by rw [e]; exact am_wc_G ha) id
theorem am_c_virt (hCt : am_Catch) (hr : am_row y pc = some (.invokevirtual x, n, a, b)) (q : am_np a < st.length ∧ ∃ r, (st.drop (am_np a)).head? = some (.ref r) ∧ am_K h r = am_ow a + 1 ∧ am_go (am_So l D g B0 tt sa) y pc al (st.drop (am_np a + 1)) h post a (.ref r :: (st.take (am_np a)).reverse)) : am_So l D g B0 tt sa y pc al st h post := by
  intro p e R s m args below meth c H locs cells slots ls hC hE hl hW hR hS hc hs
  refine am_wa hE.2.1 hc hs fun cells slots hz hcl hsl => ?_
  obtain ⟨c1, c2, c3⟩ := id hc
  obtain ⟨s1', s2, s3⟩ := id hs
  obtain ⟨z1, z2, z3, z4⟩ := id hz
  obtain ⟨mc, hmc⟩ : ∃ mc, mc = R.cells - cells := ⟨_, rfl⟩
  obtain ⟨ms, hms⟩ : ∃ ms, ms = R.slots - slots := ⟨_, rfl⟩
  obtain ⟨hx, hb, hml, hrt, hlk, hown, hnm, hts, htab, hfr, hlo, htr, hy⟩ := id hC
  have hd := am_rowd hy hr
  have hok := am_rowo hy hr
  dsimp only [am_okr] at hok
  rw [Bool.and_eq_true, Bool.and_eq_true, beq_iff_eq] at hok
  obtain ⟨⟨rfl, hcm⟩, hkd⟩ := hok
  obtain ⟨ha, hini, hcls, hdesc, h0, -, -⟩ := am_kd_all hkd
  obtain ⟨hin, hsel⟩ := h0 rfl
  have how := am_kd_ow hkd
  obtain ⟨q1, r, q2, q3, q4, q5, q6, Q, X1, k1, k2⟩ := q
  have hpn := am_pn a (by omega)
  have hM := am_met (mc := mc) (ms := ms) htr ha hcls q6 X1
  have hrm : (am_rm a mc ms).frames + 1 ≤ R.frames ∧ 8 + (am_ml a + 11) + (am_rm a mc ms).locals ≤ R.locals := by
    simp only [am_rm]
    omega
  have hgood : GoodIn am_wG (wsV (am_cn (am_ow y)) x (am_ym a).cls (am_ym a) (am_ws a)) := am_good (by
    intro w hw
    simp only [wsV, List.mem_append, List.mem_cons, List.not_mem_nil, or_false] at hw
    rcases hw with (rfl | rfl | rfl | rfl) | hw
    · exact am_cm_of hcm
    · exact hin
    · exact hsel
    · exact hini
    · exact am_wsG ha w hw)
  have hrec : ∃ cell : Cell, H[r]? = some cell ∧ cell.vm.isStatics = false ∧ s.vm.findClass (am_ym a).cls = some cell.cls := by
    obtain ⟨ws, q0, hP, hD, hq, -⟩ := am_open hW (r := r) (by omega) (by omega)
    rw [am_ceO q3 how] at hq
    rw [hcls]
    exact va_recv hE.1 hP (am_ck_cl _ how) hq
  have hpre : PreV s H (am_ym a).cls r (am_Pc D g B0 tt sa h mc ms (.ref r :: (st.take (am_np a)).reverse)) (st.take (am_np a)).reverse :=
    ⟨am_blind, hrec, fun U hU hWm => ⟨rfl, hE.moved hU hS hWm, by rw [hU]; exact hW, hR.moved hU hS hWm.alike, by rw [hU]; exact hz, by rw [hU]; exact ⟨by omega, by omega⟩⟩⟩
  have hlen : (st.take (am_np a)).reverse.length = am_np a := by simp; omega
  have hW8 : 2 * (F0 m pc ls st).monitorRoom + ((st.drop (am_np a + 1)).map fun v => v.category).sum ≤ 8 := lv_room q4
  have fin : vx_Run p l e R s m args below meth c H locs cells slots mc ms (F0 m pc ls st) (st.drop (am_np a + 1)) (am_Qc D g B0 Q (Value.ref r :: (st.take (am_np a)).reverse).toArray) (am_Xc D g B0 Q) (am_A0 B0) := by
    by_cases htb : am_tb a = []
    · exact vx_runV (C := (am_ym a).cls) ⟨hx, hb, hml, hown, hts⟩ hM (cwV (am_np a) hts hgood (by unfold am_ws; rw [am_wc_nil htb]) rfl rfl ⟨rfl, hpn.2.1, hpn.2.2.1, hdesc⟩ hrm) hpre rfl hlen hl.1 (am_split q1 q2) hW8 hd ⟨by omega, by omega⟩
    · exact vx_runVX (C := (am_ym a).cls) ⟨hx, hb, hml, hown, hts⟩ hM (vx_cwVW (am_np a) hts hgood (by unfold am_ws; rw [am_wc_tab htb]) rfl rfl ⟨rfl, hpn.2.1, hpn.2.2.1, hdesc⟩ hrm) hpre rfl hlen hl.1 (am_split q1 q2) hW8 hd ⟨by omega, by omega⟩
  exact am_after fin hS hE.2.1 (fun v h' H1 locs1 hp w1 o1 s1 zt => k1 v h' hp p e R s m args below meth c H1 locs1 _ _ ls hC hE hl w1 o1 s1 (am_Bt zt c3 s3).1 (am_Bt zt c3 s3).2)
    (fun E ce q h' H1 locs1 hp w1 o1 s1 zt d1 d2 d3 => am_thw hCt hC hE hl w1 o1 s1 (am_Bt zt c3 s3).1 (am_Bt zt c3 s3).2 d1 d2 d3 (k2 E h' hp))
theorem am_c_stat (hCt : am_Catch) (hr : am_row y pc = some (.invokestatic x, n, a, b)) (q : (b = 1 ∨ b = 11) ∧ am_np a ≤ st.length ∧ am_go (am_So l D g B0 tt sa) y pc al (st.drop (am_np a)) h post a (st.take (am_np a)).reverse) : am_So l D g B0 tt sa y pc al st h post := by
  intro p e R s m args below meth c H locs cells slots ls hC hE hl hW hR hS hc hs
  refine am_wa hE.2.1 hc hs fun cells slots hz hcl hsl => ?_
  obtain ⟨c1, c2, c3⟩ := id hc
  obtain ⟨s1', s2, s3⟩ := id hs
  obtain ⟨z1, z2, z3, z4⟩ := id hz
  obtain ⟨mc, hmc⟩ : ∃ mc, mc = R.cells - cells := ⟨_, rfl⟩
  obtain ⟨ms, hms⟩ : ∃ ms, ms = R.slots - slots := ⟨_, rfl⟩
  obtain ⟨hx, hb, hml, hrt, hlk, hown, hnm, hts, htab, hfr, hlo, htr, hy⟩ := id hC
  have hd := am_rowd hy hr
  have hok := am_rowo hy hr
  dsimp only [am_okr] at hok
  have hok2 : n = 3 ∧ am_cm.any (fun q => q.1 == am_ow y && q.2.1 == x && q.2.2.1 == a) = true ∧ am_kd a 1 = true := by
    simp only [Bool.and_eq_true, Bool.or_eq_true, beq_iff_eq, decide_eq_true_eq] at hok
    refine ⟨hok.1, ?_⟩
    have hbb := q.1
    rcases hok.2 with ((((z | z) | z) | z) | z) | z
    · exact ⟨z.1.1.2, z.1.2⟩
    · exact ⟨z.1.1.2, z.1.2⟩
    · omega
    · omega
    · omega
    · omega
  obtain ⟨rfl, hcm, hkd⟩ := hok2
  obtain ⟨ha, hini, hcls, hdesc, -, h1, -⟩ := am_kd_all hkd
  have hstt := h1 rfl
  obtain ⟨-, q1, q4, q5, q6, Q, X1, k1, k2⟩ := q
  have hpn := am_pn a (by omega)
  have hM := am_met (mc := mc) (ms := ms) htr ha hcls q6 X1
  have hrm : (am_rm a mc ms).frames + 1 ≤ R.frames ∧ 8 + (am_ml a + 11) + (am_rm a mc ms).locals ≤ R.locals := by
    simp only [am_rm]
    omega
  have hgood : GoodIn am_wG (va_wsS (am_cn (am_ow y)) x (am_ym a) (am_ws a)) := am_good (by
    intro w hw
    simp only [va_wsS, List.mem_append, List.mem_cons, List.not_mem_nil, or_false] at hw
    rcases hw with (rfl | rfl | rfl) | hw
    · exact am_cm_of hcm
    · exact hstt
    · exact hini
    · exact am_wsG ha w hw)
  have hpre : PreS s H (am_Pc D g B0 tt sa h mc ms (st.take (am_np a)).reverse) (st.take (am_np a)).reverse :=
    ⟨am_blind, fun U hU hWm => ⟨rfl, hE.moved hU hS hWm, by rw [hU]; exact hW, hR.moved hU hS hWm.alike, by rw [hU]; exact hz, by rw [hU]; exact ⟨by omega, by omega⟩⟩⟩
  have hlen : (st.take (am_np a)).reverse.length = am_np a := by simp; omega
  have hsp : st = ((st.take (am_np a)).reverse).reverse ++ st.drop (am_np a) := by rw [List.reverse_reverse, List.take_append_drop]
  have hW8 : 2 * (F0 m pc ls st).monitorRoom + ((st.drop (am_np a)).map fun v => v.category).sum ≤ 8 := lv_room q4
  have fin : vx_Run p l e R s m args below meth c H locs cells slots mc ms (F0 m pc ls st) (st.drop (am_np a)) (am_Qc D g B0 Q ((st.take (am_np a)).reverse).toArray) (am_Xc D g B0 Q) (am_A0 B0) := by
    by_cases htb : am_tb a = []
    · exact vx_runS ⟨hx, hb, hml, hown, hts⟩ hM (va_cwS (am_np a) hts hgood (by unfold am_ws; rw [am_wc_nil htb]) rfl rfl ⟨hpn.2.1, hpn.2.2.1, hdesc⟩ hrm) hpre rfl hlen hl.1 hsp hW8 hd ⟨by omega, by omega⟩
    · exact vx_runSX ⟨hx, hb, hml, hown, hts⟩ hM (vx_cwSW (am_np a) hts hgood (by unfold am_ws; rw [am_wc_tab htb]) rfl rfl ⟨hpn.2.1, hpn.2.2.1, hdesc⟩ hrm) hpre rfl hlen hl.1 hsp hW8 hd ⟨by omega, by omega⟩
  exact am_after fin hS hE.2.1 (fun v h' H1 locs1 hp w1 o1 s1 zt => k1 v h' hp p e R s m args below meth c H1 locs1 _ _ ls hC hE hl w1 o1 s1 (am_Bt zt c3 s3).1 (am_Bt zt c3 s3).2)
    (fun E ce q h' H1 locs1 hp w1 o1 s1 zt d1 d2 d3 => am_thw hCt hC hE hl w1 o1 s1 (am_Bt zt c3 s3).1 (am_Bt zt c3 s3).2 d1 d2 d3 (k2 E h' hp))
theorem am_c_sn (hr : am_row y pc = some (.invokestatic x, n, a, b)) (q : b = 5 ∧ am_np a ≤ st.length ∧ am_gn (am_So l D g B0 tt sa) y pc al (st.drop (am_np a)) h post a (st.take (am_np a)).reverse) : am_So l D g B0 tt sa y pc al st h post := by
  intro p e R s m args below meth c H locs cells slots ls hC hE hl hW hR hS hc hs
  refine am_wa hE.2.1 hc hs fun cells slots hz hcl hsl => ?_
  obtain ⟨c1, c2, c3⟩ := id hc
  obtain ⟨s1', s2, s3⟩ := id hs
  obtain ⟨z1, z2, z3, z4⟩ := id hz
  obtain ⟨mc, hmc⟩ : ∃ mc, mc = R.cells - cells := ⟨_, rfl⟩
  obtain ⟨ms, hms⟩ : ∃ ms, ms = R.slots - slots := ⟨_, rfl⟩
  obtain ⟨hx, hb, hml, hrt, hlk, hown, hnm, hts, htab, hfr, hlo, htr, hy⟩ := id hC
  have hd := am_rowd hy hr
  have hok := am_rowo hy hr
  dsimp only [am_okr] at hok
  have hok2 : n = 3 ∧ am_nl.any (fun q => q.1 == am_ow y && q.2.1 == x && q.2.2 == a) = true ∧ am_kd a 1 = true ∧ am_tb a = [] := by
    simp only [Bool.and_eq_true, Bool.or_eq_true, beq_iff_eq, decide_eq_true_eq] at hok
    refine ⟨hok.1, ?_⟩
    have hbb := q.1
    rcases hok.2 with ((((z | z) | z) | z) | z) | z
    · omega
    · omega
    · exact ⟨z.1.1.2, z.1.2, z.2⟩
    · omega
    · omega
    · omega
  obtain ⟨rfl, hnl, hkd, htb⟩ := hok2
  obtain ⟨ha, hini, hcls, hdesc, -, h1, -⟩ := am_kd_all hkd
  have hstt := h1 rfl
  obtain ⟨-, q1, q4, q5, q6, Q, X1, k1, k2⟩ := q
  have hpn := am_pn a (by omega)
  have hM := am_metN (mc := mc) (ms := ms) htr ha hcls q6 htb k2 X1
  have hrm : (am_rm a mc ms).frames + 1 ≤ R.frames ∧ 8 + (am_ml a + 11) + (am_rm a mc ms).locals ≤ R.locals := by
    simp only [am_rm]
    omega
  have hnw : va_Nw (.methodLinkNest (am_cn (am_ow y)) x (am_ym a) "SevenForms") s := by
    simp only [List.any_eq_true, Bool.and_eq_true, beq_iff_eq] at hnl
    obtain ⟨w, hw, ⟨e1, e2⟩, e3⟩ := hnl
    have := hE.2.2.2.2.2.2.1 w hw
    rw [e1, e2, e3] at this
    exact this
  have hpre : PreS s H (am_Pc D g B0 tt sa h mc ms (st.take (am_np a)).reverse) (st.take (am_np a)).reverse :=
    ⟨am_blind, fun U hU hWm => ⟨rfl, hE.moved hU hS hWm, by rw [hU]; exact hW, hR.moved hU hS hWm.alike, by rw [hU]; exact hz, by rw [hU]; exact ⟨by omega, by omega⟩⟩⟩
  have hlen : (st.take (am_np a)).reverse.length = am_np a := by simp; omega
  have hsp : st = ((st.take (am_np a)).reverse).reverse ++ st.drop (am_np a) := by rw [List.reverse_reverse, List.take_append_drop]
  have hW8 : 2 * (F0 m pc ls st).monitorRoom + ((st.drop (am_np a)).map fun v => v.category).sum ≤ 8 := lv_room q4
  have fin : va_Run p l e R s m args below meth c H locs cells slots mc ms (F0 m pc ls st) (st.drop (am_np a)) (am_Qc D g B0 Q ((st.take (am_np a)).reverse).toArray) (am_A0 B0) :=
    va_runSN ⟨hx, hb, hml, hown, hts⟩ hM ⟨va_cnB (am_np a) hts (am_good (am_wsG ha)) (by unfold am_ws; rw [am_wc_nil htb]) rfl rfl hnw (hts _ hini) ⟨hpn.2.1, hpn.2.2.1, hdesc⟩ hrm, hts _ hstt, trivial⟩ hpre rfl hlen hl.1 hsp hW8 hd ⟨by omega, by omega⟩
  exact am_afterN fin hS hE.2.1 (fun v h' H1 locs1 hp w1 o1 s1 zt => k1 v h' hp p e R s m args below meth c H1 locs1 _ _ ls hC hE hl w1 o1 s1 (am_Bt zt c3 s3).1 (am_Bt zt c3 s3).2)
theorem am_c_init (hr : am_row y pc = some (.invokespecial x, n, a, b)) (q : (b = 3 ∨ b = 6) ∧ am_np a < st.length ∧ ∃ r, (st.drop (am_np a)).head? = some (.ref r) ∧ am_gn (am_So l D g B0 tt sa) y pc al (st.drop (am_np a + 1)) h post a (.ref r :: (st.take (am_np a)).reverse)) : am_So l D g B0 tt sa y pc al st h post := by
  intro p e R s m args below meth c H locs cells slots ls hC hE hl hW hR hS hc hs
  refine am_wa hE.2.1 hc hs fun cells slots hz hcl hsl => ?_
  obtain ⟨c1, c2, c3⟩ := id hc
  obtain ⟨s1', s2, s3⟩ := id hs
  obtain ⟨z1, z2, z3, z4⟩ := id hz
  obtain ⟨mc, hmc⟩ : ∃ mc, mc = R.cells - cells := ⟨_, rfl⟩
  obtain ⟨ms, hms⟩ : ∃ ms, ms = R.slots - slots := ⟨_, rfl⟩
  obtain ⟨hx, hb, hml, hrt, hlk, hown, hnm, hts, htab, hfr, hlo, htr, hy⟩ := id hC
  have hd := am_rowd hy hr
  have hok := am_rowo hy hr
  dsimp only [am_okr] at hok
  have hok2 : n = 3 ∧ am_kd a 2 = true ∧ am_tb a = [] ∧ ((b = 3 ∧ am_cm.any (fun q => q.1 == am_ow y && q.2.1 == x && q.2.2.1 == a) = true) ∨ (b = 6 ∧ am_nl.any (fun q => q.1 == am_ow y && q.2.1 == x && q.2.2 == a) = true)) := by
    simp only [Bool.and_eq_true, Bool.or_eq_true, beq_iff_eq, decide_eq_true_eq] at hok
    refine ⟨hok.1, ?_⟩
    have hbb := q.1
    rcases hok.2 with ((z | z) | z) | z
    · omega
    · exact ⟨z.1.2, z.2, Or.inl ⟨z.1.1.1, z.1.1.2⟩⟩
    · exact ⟨z.1.2, z.2, Or.inr ⟨z.1.1.1, z.1.1.2⟩⟩
    · omega
  obtain ⟨rfl, hkd, htb, hlink⟩ := hok2
  obtain ⟨ha, hini, hcls, hdesc, -, -, h2⟩ := am_kd_all hkd
  obtain ⟨hin, hnam⟩ := h2 rfl
  have hrt2 := am_kd_rt hkd
  obtain ⟨-, q1, r, q2, q4, q5, q6, Q, X1, k1, k2⟩ := q
  have hpn := am_pn a (by omega)
  have hM := am_metN (mc := mc) (ms := ms) htr ha hcls q6 htb k2 X1
  have hrm : (am_rm a mc ms).frames + 1 ≤ R.frames ∧ 8 + (am_ml a + 11) + (am_rm a mc ms).locals ≤ R.locals := by
    simp only [am_rm]
    omega
  have hpre : PreS s H (am_Pc D g B0 tt sa h mc ms (.ref r :: (st.take (am_np a)).reverse)) (.ref r :: (st.take (am_np a)).reverse) :=
    ⟨am_blind, fun U hU hWm => ⟨rfl, hE.moved hU hS hWm, by rw [hU]; exact hW, hR.moved hU hS hWm.alike, by rw [hU]; exact hz, by rw [hU]; exact ⟨by omega, by omega⟩⟩⟩
  have hlen : (st.take (am_np a)).reverse.length = am_np a := by simp; omega
  have hW8 : 2 * (F0 m pc ls st).monitorRoom + ((st.drop (am_np a + 1)).map fun v => v.category).sum ≤ 8 := lv_room q4
  have hww : am_ws a = Cond.code (am_ym a) (am_bc a) (am_ml a) none :: am_wG := by unfold am_ws; rw [am_wc_nil htb, hrt2]
  have fin : va_Run p l e R s m args below meth c H locs cells slots mc ms (F0 m pc ls st) (st.drop (am_np a + 1)) (am_Qc D g B0 Q (Value.ref r :: (st.take (am_np a)).reverse).toArray) (am_A0 B0) := by
    rcases hlink with ⟨-, hcm⟩ | ⟨-, hnl⟩
    · exact va_runI ⟨hx, hb, hml, hown, hts⟩ hM (cwI (am_np a) hts (am_good (am_wsG ha)) hww rfl rfl (hts _ hini) (hts _ (am_cm_of hcm)) (hts _ hin) hnam ⟨hpn.2.1, hpn.2.2.1, hdesc⟩ hrm) hpre rfl hlen hl.1 (am_split q1 q2) hW8 hd ⟨by omega, by omega⟩
    · have hnw : va_Nw (.methodLinkNest (am_cn (am_ow y)) x (am_ym a) "SevenForms") s := by
        simp only [List.any_eq_true, Bool.and_eq_true, beq_iff_eq] at hnl
        obtain ⟨w, hw, ⟨e1, e2⟩, e3⟩ := hnl
        have := hE.2.2.2.2.2.2.1 w hw
        rw [e1, e2, e3] at this
        exact this
      exact va_runIN ⟨hx, hb, hml, hown, hts⟩ hM ⟨va_cnB (am_np a) hts (am_good (am_wsG ha)) hww rfl rfl hnw (hts _ hini) ⟨hpn.2.1, hpn.2.2.1, hdesc⟩ hrm, hnam, hts _ hin⟩ hpre rfl hlen hl.1 (am_split q1 q2) hW8 hd ⟨by omega, by omega⟩
  exact am_afterN fin hS hE.2.1 (fun v h' H1 locs1 hp w1 o1 s1 zt => k1 v h' hp p e R s m args below meth c H1 locs1 _ _ ls hC hE hl w1 o1 s1 (am_Bt zt c3 s3).1 (am_Bt zt c3 s3).2)
end AMV
