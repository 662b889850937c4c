section AMN
variable {l : Launch} {D : va_G} {g : Nat → ClassId} {B0 : Nat} {tt sa : Nat → Nat} {y pc : Nat} {al : List (Option Value)} {st : List Value} {h : am_H} {post : am_P} {n a b x : Nat}
theorem am_c_anew {z : Int32} (hr : am_row y pc = some (.anewarray x, n, a, b)) (q : ¬ z < 0 ∧ z.toNatClampNeg ≤ 60000 ∧ am_U h + 1 ≤ am_LC ∧ am_V h + z.toNatClampNeg ≤ am_LS ∧ ∀ q, am_K h q = 0 → am_So l D g B0 tt sa y (pc + 3) al (.ref q :: st) (am_nA h q a z.toNatClampNeg) post) : am_So l D g B0 tt sa y pc al (.int z :: st) h post := by
  intro p e R s m args below meth c H locs cells slots ls hC hE hl hW hR hS hc hs
  obtain ⟨hx, hb, hml, hrt, hlk, hown, hnm, hts, htab, hfr, hlo, htr, hy⟩ := id hC
  obtain ⟨c1, c2, c3⟩ := id hc
  obtain ⟨s1', s2, s3⟩ := id hs
  have hd := am_rowd hy hr
  have hok := am_rowo hy hr
  dsimp only [am_okr] at hok
  rw [Bool.and_eq_true, Bool.or_eq_true, beq_iff_eq, Bool.and_eq_true, Bool.and_eq_true, beq_iff_eq, beq_iff_eq] at hok
  obtain ⟨rfl, hok⟩ := hok
  obtain ⟨q1, q2, q3, q4, q5⟩ := q
  obtain ⟨L, hL, hP, hD⟩ := hW
  have hKt := hE.1.2
  have hN : ∀ q : Nat, am_N (am_nA h q a z.toNatClampNeg) q = z.toNatClampNeg := fun q => if_pos rfl
  have hCq : ∀ q : Nat, am_C (am_nA h q a z.toNatClampNeg) q = fun _ => none := fun q => if_pos rfl
  have hKq : ∀ q : Nat, am_K (am_nA h q a z.toNatClampNeg) q = a := fun q => if_pos rfl
  have go : ∀ (C : String) (j : Nat), (am_tys g)[j]? = some (g a, .object C) → (a = 26 ∨ a = 27) → Cond.classLink (am_cn (am_ow y)) x C ∈ am_wG → va_AO C s → W p l e R s m args below meth c H locs cells slots (vx_MQ below (am_Qc D g B0 post) (am_Xc D g B0 post) args s R.cells R.slots (am_A0 B0)) (F0 m pc ls (.int z :: st)) := by
    intro C j hj ha hcl hao
    refine va_newq hx hb hown (hts _ hcl) hao hE.1 hP hD hS (fun w hw => Nat.le_trans hE.2.1 hw) q1 rfl (by omega) (by omega) (by omega) hd fun w cA H1 k1 p1 d1 s1 => ?_
    have e1 : cA = g a := by
      obtain ⟨_, _, -, -, -, h4⟩ := (k1.2 (am_tys g).length (cA, .object C) (by simp)).2
      obtain ⟨_, _, -, -, -, h5⟩ := (hKt j _ hj).2
      exact Option.some.inj (h4.symm.trans h5)
    subst e1
    obtain ⟨f1, f2⟩ := am_fresh hL hR d1
    refine q5 w f1 p e R s m args below meth c H1 locs (cells + 1) (slots + z.toNatClampNeg) ls hC hE hl (am_newW (k := a) (e' := .inl (g a, z.toNatClampNeg, .inr (.inr (.inr (.inr (fun _ => none)))))) hL f2 (by omega) rfl ?_ p1 d1) (am_Rn hR f1 (by omega) rfl (fun _ z9 => if_neg z9) (fun _ z9 => if_neg z9)) s1 ⟨by show cells + 1 + s.heap.size ≤ B0 + (am_U h + 1); omega, q3, c3⟩ ⟨by show slots + z.toNatClampNeg + am_sz B0 s.heap ≤ am_V h + z.toNatClampNeg; omega, q4, s3⟩
    rw [am_ce_nA, am_ceQ (hKq w) ha, hN, hCq]
  rcases hok with ⟨ha, hk⟩ | ⟨ha, hk⟩
  · exact go RX4 5 (by rw [ha]; rfl) (Or.inl ha) (am_kl_of hk) hE.2.2.2.2.2.2.2.2.1
  · exact go RX1 6 (by rw [ha]; rfl) (Or.inr ha) (am_kl_of hk) hE.2.2.2.2.2.2.2.2.2.1
/-! ends -/
theorem am_c_iret {z : Int32} (hr : am_row y pc = some (.ireturn, n, a, b)) (q : (a = 1 → z = 0 ∨ z = 1) ∧ post (.inl (some (.int z))) h) : am_So l D g B0 tt sa y pc al [.int z] h post := by
  intro p e R s m args below meth c H locs cells slots ls hC hE hl hW hR hS hc hs
  refine am_wz hE.2.1 hc hs fun hz => ?_
  obtain ⟨hx, hb, hml, hrt, hlk, hown, hnm, hts, htab, hfr, hlo, htr, hy⟩ := id hC
  obtain ⟨c1, c2, c3⟩ := id hc
  obtain ⟨s1', s2, s3⟩ := id hs
  have hd := am_rowd hy hr
  have hok := am_rowo hy hr
  dsimp only [am_okr] at hok
  rw [Bool.and_eq_true, Bool.or_eq_true, beq_iff_eq, Bool.and_eq_true, Bool.and_eq_true, beq_iff_eq, beq_iff_eq, decide_eq_true_eq, decide_eq_true_eq] at hok
  obtain ⟨rfl, hok⟩ := hok
  have fin : ∀ t : State, t.heap = H → s.WarmedH t.vm → am_Qc D g B0 post args s (.returned (some (.int z))) t := fun t ht hw => ⟨_, h, rfl, q.2, by rw [ht]; exact hW, am_Ro.moved hR ht hS hw.alike, by rw [ht]; exact hz, hS.F ht⟩
  refine vx_ret (W.widen (k := R.cells) (n := R.slots) (by omega) (by omega) ?_)
  rcases hok with ⟨ha, ht⟩ | ⟨ha, ht⟩
  · exact W.iret hx hb (hrt.trans ht) fin hS.2.2 hd hlk
  · exact W.zret hx hb (hrt.trans ht) (by rcases q.1 ha with rfl | rfl <;> rfl) fin hS.2.2 hd hlk
theorem am_c_lret {z : Int64} (hr : am_row y pc = some (.lreturn, n, a, b)) (q : post (.inl (some (.long z))) h) : am_So l D g B0 tt sa y pc al [.long z] h post := by
  intro p e R s m args below meth c H locs cells slots ls hC hE hl hW hR hS hc hs
  refine am_wz hE.2.1 hc hs fun hz => ?_
  obtain ⟨hx, hb, hml, hrt, hlk, hown, hnm, hts, htab, hfr, hlo, htr, hy⟩ := id hC
  obtain ⟨c1, c2, c3⟩ := id hc
  obtain ⟨s1', s2, s3⟩ := id hs
  have hd := am_rowd hy hr
  have hok := am_rowo hy hr
  dsimp only [am_okr] at hok
  rw [Bool.and_eq_true, beq_iff_eq, decide_eq_true_eq] at hok
  obtain ⟨rfl, hok⟩ := hok
  refine vx_ret (W.widen (k := R.cells) (n := R.slots) (by omega) (by omega) ?_)
  exact W.lret hx hb (hrt.trans hok) (fun t ht hw => ⟨_, h, rfl, q, by rw [ht]; exact hW, am_Ro.moved hR ht hS hw.alike, by rw [ht]; exact hz, hS.F ht⟩) hS.2.2 hd hlk
theorem am_c_vret (hr : am_row y pc = some (.return_, n, a, b)) (q : post (.inl none) h) : am_So l D g B0 tt sa y pc al [] h post := by
  intro p e R s m args below meth c H locs cells slots ls hC hE hl hW hR hS hc hs
  refine am_wz hE.2.1 hc hs fun hz => ?_
  obtain ⟨hx, hb, hml, hrt, hlk, hown, hnm, hts, htab, hfr, hlo, htr, hy⟩ := id hC
  obtain ⟨c1, c2, c3⟩ := id hc
  obtain ⟨s1', s2, s3⟩ := id hs
  have hd := am_rowd hy hr
  have hok := am_rowo hy hr
  dsimp only [am_okr] at hok
  rw [Bool.and_eq_true, beq_iff_eq, decide_eq_true_eq] at hok
  obtain ⟨rfl, hok⟩ := hok
  refine vx_ret (W.widen (k := R.cells) (n := R.slots) (by omega) (by omega) ?_)
  exact W.vret hx hb (hrt.trans hok) (fun t ht hw => ⟨_, h, rfl, q, by rw [ht]; exact hW, am_Ro.moved hR ht hS hw.alike, by rw [ht]; exact hz, hS.F ht⟩) hS.2.2 hd hlk
theorem am_c_aret {v : Value} (hv : v = .null ∨ ∃ q, v = .ref q) (hr : am_row y pc = some (.areturn, n, a, b)) (q : post (.inl (some v)) h) : am_So l D g B0 tt sa y pc al [v] h post := by
  intro p e R s m args below meth c H locs cells slots ls hC hE hl hW hR hS hc hs
  refine am_wz hE.2.1 hc hs fun hz => ?_
  obtain ⟨hx, hb, hml, hrt, hlk, hown, hnm, hts, htab, hfr, hlo, htr, hy⟩ := id hC
  obtain ⟨c1, c2, c3⟩ := id hc
  obtain ⟨s1', s2, s3⟩ := id hs
  have hd := am_rowd hy hr
  have hok := am_rowo hy hr
  dsimp only [am_okr] at hok
  rw [Bool.and_eq_true, beq_iff_eq, Bool.or_eq_true, decide_eq_true_eq, decide_eq_true_eq] at hok
  obtain ⟨rfl, hok⟩ := hok
  refine vx_ret (W.widen (k := R.cells) (n := R.slots) (by omega) (by omega) ?_)
  have fin : ∀ t : State, t.heap = H → s.WarmedH t.vm → am_Qc D g B0 post args s (.returned (some v)) t := fun t ht hw => ⟨_, h, rfl, q, by rw [ht]; exact hW, am_Ro.moved hR ht hS hw.alike, by rw [ht]; exact hz, hS.F ht⟩
  rcases hok with ht | ht
  · exact W.aret hx hb (hrt.trans ht) (Or.inl ⟨_, rfl⟩) hv fin hS.2.2 hd hlk
  · exact W.aret hx hb (hrt.trans ht) (Or.inl ⟨_, rfl⟩) hv fin hS.2.2 hd hlk
/-- throw new E("..") -/
theorem am_c_throw (hr : am_row y pc = some (.new x, n, a, b)) (q : b = 1 ∧ am_U h + 1 ≤ am_LC ∧ am_V h + 6 ≤ am_LS ∧ am_w st ≤ 8 ∧ am_tb y = [] ∧ post (.inr (am_ex a)) (am_nX h)) : am_So l D g B0 tt sa y pc al st h post := by
  intro p e R s m args below meth c H locs cells slots ls hC hE hl hW hR hS hc hs
  obtain ⟨hx, hb, hml, hrt, hlk, hown, hnm, hts, htab, hfr, hlo, htr, hy⟩ := id hC
  obtain ⟨c1, c2, c3⟩ := id hc
  obtain ⟨s1', s2, s3⟩ := id hs
  have hd := am_rowd hy hr
  have hok := am_rowo hy hr
  obtain ⟨rfl, q1, q2, q3, q4, q5⟩ := q
  dsimp only [am_okr] at hok
  rw [Bool.and_eq_true, Bool.or_eq_true, beq_iff_eq] at hok
  obtain ⟨rfl, hok⟩ := hok
  rcases hok with hok | hok
  · rw [Bool.and_eq_true, Bool.and_eq_true] at hok
    exact absurd hok.1.1 (by decide)
  · rw [Bool.and_eq_true] at hok
    obtain ⟨-, hok⟩ := hok
    split at hok
    · rename_i k _ _ j _ _ h4 h6
      rw [Bool.and_eq_true, Bool.and_eq_true, decide_eq_true_eq, decide_eq_true_eq] at hok
      obtain ⟨⟨hok, h3⟩, h9⟩ := hok
      simp only [List.any_eq_true, Bool.and_eq_true, beq_iff_eq] at hok
      obtain ⟨w, hw, ⟨⟨⟨e1, e2⟩, e3⟩, e4⟩, e5⟩ := hok
      have d3 := am_rowd hy h3
      have d4 := am_rowd hy h4
      have d6 := am_rowd hy h6
      have d9 := am_rowd hy h9
      obtain ⟨t1, t2, t3, t4, t5⟩ := am_twx w hw
      obtain ⟨t6, t7⟩ := am_twa hts hE.2.2.2.2.2.2.2.2.2.2.2.1 hE.2.2.2.2.2.2.2.2.2.2.2.2 w hw
      have hstr := hE.2.2.2.2.2.1 (am_xk w) t4
      rw [t2, t3, e1, e3] at hstr
      rw [e1, e4, e5] at t6 t7
      rw [e1, e2, e5] at t5
      rw [e5] at t1
      have hk : Cond.classLink (am_cn (am_ow y)) x (am_ex a) ∈ am_wG := by
        simp only [List.any_eq_true, Bool.and_eq_true, beq_iff_eq] at t5
        obtain ⟨z, z1, ⟨z2, z3⟩, z4⟩ := t5
        have z5 := am_at_in (List.all_eq_true.mp am_kx_ok z z1)
        rw [z2, z3, z4] at z5
        exact z5
      have hin : Cond.initialized (am_ex a) ∈ am_wG := List.mem_filter.mpr ⟨am_xini a t1, rfl⟩
      have hlen : (am_xn a).length ≤ 3 := by
        unfold am_xn
        split <;> simp
      have hlw : (st.map fun v => v.category).sum ≤ 8 := q3
      have tail : ∀ t : State, vx_MQ below (fun _ _ _ _ => False) (fun E st t => am_Wd D g B0 h t.heap ∧ am_Ro B0 h t ∧ va_F (am_A0 B0) st t ∧ E = am_ex a) args s (cells + 1) (slots + 6) (am_A0 B0) t → vx_MQ below (am_Qc D g B0 post) (am_Xc D g B0 post) args s R.cells R.slots (am_A0 B0) t := by
        intro t hq
        obtain ⟨o, b1, b2, b3⟩ := hq
        rcases b3 with b3 | ⟨q, eo, E, ce, L, hx, k1, k2, k3, k4, k5, k6⟩
        · exact absurd b3.1 id
        · obtain ⟨x1, x2, x3, x4⟩ := hx
          subst x4
          have z1 : t.heap.size ≤ s.heap.size + (cells + 1) := k5.2.2.1
          have z2 : ((t.heap.toList.drop s.heap.size).map (fun c : Cell => c.slots.size)).sum ≤ slots + 6 := k5.2.2.2.2.1
          have z3 : am_sz B0 t.heap = am_sz B0 s.heap + ((t.heap.toList.drop s.heap.size).map (fun c : Cell => c.slots.size)).sum := am_szs (T := { t with vm := s.vm }) hE.2.1 k5
          exact ⟨o, b1, b2, Or.inr ⟨q, eo, _, ce, L, ⟨am_nX h, q5, x1, x2, ⟨by show t.heap.size ≤ B0 + (am_U h + 1); omega, by show am_sz B0 t.heap ≤ am_V h + 6; omega, q1, q2⟩, x3⟩, k1, k2, k3, k4, k5.mono (by omega) (by omega), k6⟩⟩
      refine am_Wmono tail (vx_throwS (A := am_A0 B0) (names := am_xn a) hx hb htr hown (am_xfit a t1).1 (am_xfit a t1).2 (hts _ hk) (hts _ hin) hstr t6 (fun w9 hw9 => ?_) hE.2.2.2.1 hE.2.2.2.2.1 hS (hl.1.trans hml.symm) hd d3 d4 d6 d9 (fun z hz => ?_) (by omega) (by omega) (by omega) (by omega) hlk (fun t ht h1 h2 => ⟨?_, ?_, ⟨?_, ?_⟩, rfl⟩) hS.2.2 (by omega) (by omega))
      · rcases List.mem_cons.mp hw9 with rfl | hw9
        · rfl
        · rcases List.mem_cons.mp hw9 with rfl | hw9
          · rfl
          · exact List.all_eq_true.mp t7 w9 hw9
      · rw [htab, am_hh_nil q4] at hz
        cases hz
      · obtain ⟨L, hL, hP, hD⟩ := hW
        exact ⟨L, hL, hP.kept (fun k q hk => h2 q.1 ((hP k q hk).lt)), hD⟩
      · have hS2 : va_S (am_A0 B0) s.heap t.heap locs := ⟨Nat.le_trans hS.1 h1, fun z z1 z2 => (h2 z (Nat.lt_of_lt_of_le z1 hS.1)).trans (hS.2.1 z z1 z2), hS.2.2⟩
        exact am_Ro.moved hR rfl hS2 ht
      · exact Nat.le_trans hS.1 h1
      · intro z z1 z2
        exact (h2 z (Nat.lt_of_lt_of_le z1 hS.1)).trans (hS.2.1 z z1 z2)
    · exact absurd hok (by decide)
end AMN
