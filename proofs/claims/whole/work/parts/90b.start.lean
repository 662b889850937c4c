/-! deps: 90a -/
/-! ===== the start: the abstract heap out of the given state ===== -/
def R_law : String := "SevenFormsLaw"
def lw_P (b : Addr) (xs : List Int32) (args : Array Value) (s : State) : Prop := args = #[.ref b] ∧ s.IntsAt b xs ∧ xs.length ≤ 2560 ∧ (Jvm.Cond.and given_1 narrow_1).before args s = true
def lw_Q (_ : Array Value) (s : State) (o : Outcome) (t : State) : Prop := o = .returned (some (.int 1)) ∧ Framed s o t [] 603072 7190634
def lw_Z (below : List Frame) (a : Array Value) (s : State) : State → Prop := fun t => ∃ o, t.status = .running ∧ Ended t below o ∧ lw_Q a s o t
/-- what holds at the law's entry -/
def lw_At (p : Program) (s : State) (m : MethodId) (meth : Method) (c : Code) (b L : Nat) (xs : Nat → Int32) : Prop :=
  p.tables.exec = Jvm.exec ∧ c.code = code ∧ meth.sig.returnType = ret ∧ c.maxLocals = 7 ∧ s.vm.findClass R_law = some m.cls ∧ (∀ w ∈ lw_tbl, w.before #[Value.ref b] s = true) ∧ va_X b L xs s s.heap ∧ b < s.heap.size ∧ meth.locks = false ∧ (Jvm.Cond.and given_1 narrow_1).before #[Value.ref b] s = true
section STA
variable {s : State} {args : Array Value}
theorem st_arr {ty : FieldType} (h : (Cond.arrayClass ty).before args s = true) : ∃ c : ClassId, ArrOfT s c ty ∧ s.vm.findClass ("[" ++ ty.toString) = some c := by
  obtain ⟨c, k, comp, h1, h2, h3⟩ := Cond.arrayClass_spec h
  exact ⟨c, (fun N z => ⟨(fun k h => by cases h), k, h2, comp, h3⟩), h1⟩
theorem st_ovr {C : String} (h : (Cond.arrayOver (.object C)).before args s = true) : ∃ c : ClassId, ArrOfT s c (.object C) ∧ va_RA s c (.object C) := by
  obtain ⟨comp, c, k, h1, h2, h3, h4, h5⟩ := Cond.arrayOver_spec h
  exact ⟨c, (fun N z => ⟨(fun k h => by cases h), k, h3, comp, h4⟩), k, comp, h3, h4, h1, h5⟩
theorem st_g (hts : ∀ w ∈ lw_tbl, w.before args s = true) : ∃ g : Nat → ClassId, ∀ (k : Nat) (q : ClassId × FieldType), (am_tys g)[k]? = some q → ArrOfT s q.1 q.2 ∧ va_RA s q.1 q.2 := by
  obtain ⟨c1, a1, b1⟩ := st_arr (ty := .int) (hts _ (List.mem_of_getElem? (i := 235) (by decide +kernel)))
  obtain ⟨c2, a2, b2⟩ := st_arr (ty := .long) (hts _ (List.mem_of_getElem? (i := 1289) (by decide +kernel)))
  obtain ⟨c3, a3, b3⟩ := st_arr (ty := .byte) (hts _ (List.mem_of_getElem? (i := 206) (by decide +kernel)))
  obtain ⟨c4, a4, b4⟩ := st_arr (ty := .boolean) (hts _ (List.mem_of_getElem? (i := 309) (by decide +kernel)))
  obtain ⟨c5, a5, b5⟩ := st_arr (ty := .char) (hts _ (List.mem_of_getElem? (i := 205) (by decide +kernel)))
  obtain ⟨c6, a6, b6⟩ := st_ovr (C := RX4) (hts _ (List.mem_of_getElem? (i := 123) (by decide +kernel)))
  obtain ⟨c7, a7, b7⟩ := st_ovr (C := RX1) (hts _ (List.mem_of_getElem? (i := 125) (by decide +kernel)))
  refine ⟨fun k => match k with | 21 => c1 | 22 => c2 | 23 => c3 | 24 => c4 | 25 => c5 | 26 => c6 | _ => c7, fun k q hq => ?_⟩
  match k, hq with
  | 0, hq => obtain rfl : (c1, FieldType.int) = q := Option.some.inj hq; exact ⟨a1, b1⟩
  | 1, hq => obtain rfl : (c2, FieldType.long) = q := Option.some.inj hq; exact ⟨a2, b2⟩
  | 2, hq => obtain rfl : (c3, FieldType.byte) = q := Option.some.inj hq; exact ⟨a3, b3⟩
  | 3, hq => obtain rfl : (c4, FieldType.boolean) = q := Option.some.inj hq; exact ⟨a4, b4⟩
  | 4, hq => obtain rfl : (c5, FieldType.char) = q := Option.some.inj hq; exact ⟨a5, b5⟩
  | 5, hq => obtain rfl : (c6, FieldType.object RX4) = q := Option.some.inj hq; exact ⟨a6, b6⟩
  | 6, hq => obtain rfl : (c7, FieldType.object RX1) = q := Option.some.inj hq; exact ⟨a7, b7⟩
  | n + 7, hq => cases hq
theorem st_D (hts : ∀ w ∈ lw_tbl, w.before args s = true) : ∃ D : va_G, ∀ (c : Nat) (q : vw_C), am_cl[c]? = some q → u_Kn s q.1 q.2.1 q.2.2 (D.1 c) (D.2 c) := by
  have hg : ∀ w ∈ am_wG, w.before args s = true := fun w hw => hts w (List.mem_filter.mp hw).1
  have h : ∀ ci, ∃ q : ClassId × (Nat → Nat), ci < 11 → u_Kn s (am_cn ci) (am_F ci) (am_n ci) q.1 q.2 := fun ci => by
    by_cases hc : ci < 11
    · obtain ⟨a, b, h⟩ := u_known hg (am_ck_in hc) (hg _ (am_ck_is hc).1)
      exact ⟨(a, b), fun _ => h⟩
    · exact ⟨(0, fun _ => 0), fun z => absurd z hc⟩
  obtain ⟨f, hf⟩ := Classical.skolem.mp h
  refine ⟨(fun c => (f c).1, fun c => (f c).2), fun c q hq => ?_⟩
  have hc : c < 11 := (List.getElem?_eq_some_iff.mp hq).1
  obtain rfl := Option.some.inj ((am_ck_cl c hc).symm.trans hq)
  exact hf c hc
theorem st_str {own tx : String} {k : Nat} (h : (Cond.stringRef own k tx).before args s = true) : ∃ a, vk_R own k tx a s := by
  cases hc : s.vm.findClass own with
  | none => simp [Cond.before, Cond.holds, Cond.value, hc] at h
  | some cur =>
    obtain ⟨_, _, _, a, -, -, -, -, -, h6⟩ := Cond.stringRef_spec hc h
    exact ⟨a, vk_R.of h h6⟩
theorem st_ms : ∀ k, k < 4 → Cond.stringRef (am_cn (am_sx k).1) (am_sx k).2.1 (am_sx k).2.2 ∈ lw_tbl := by decide +kernel
theorem st_mn : ∀ q ∈ am_nl, Cond.methodLinkNest (am_cn q.1) q.2.1 (am_ym q.2.2) "SevenForms" ∈ lw_tbl := by decide +kernel
theorem st_mf : ∀ q ∈ am_gs, q.2.2.2 = 1 → Cond.fieldLinkNest (am_cn q.1) q.2.1 "SevenForms" (am_sn q.2.2.1) "[I" "SevenForms" ∈ lw_tbl := by decide +kernel
theorem st_mc : ∀ k, k < 3 → Cond.castable (am_ex k) (am_ex k) ∈ lw_tbl := by decide +kernel
theorem st_md : ∀ X ∈ am_dn, Cond.declares (Bundle.initS X) ∈ lw_tbl := by decide +kernel
theorem st_ml : ∀ j, j < 2 → Cond.laysStatic "SevenForms" (am_sn j) "[I" ∈ lw_tbl := by decide +kernel
theorem st_sa (hts : ∀ w ∈ lw_tbl, w.before args s = true) : ∃ sa : Nat → Nat, ∀ k, k < 4 → vk_R (am_cn (am_sx k).1) (am_sx k).2.1 (am_sx k).2.2 (sa k) s := by
  have h : ∀ k, ∃ a, k < 4 → vk_R (am_cn (am_sx k).1) (am_sx k).2.1 (am_sx k).2.2 a s := fun k => by
    by_cases hk : k < 4
    · obtain ⟨a, ha⟩ := st_str (hts _ (st_ms k hk))
      exact ⟨a, fun _ => ha⟩
    · exact ⟨0, fun z => absurd z hk⟩
  exact Classical.skolem.mp h
theorem st_ne {b t : Nat} {tm : Term} (h : (Cond.not (.eq (.arg 0) tm)).before #[Value.ref b] s = true) (ht : tm.eval #[Value.ref b] s none [] s = some (.ref t)) : b ≠ t := by
  intro e
  subst e
  have ha : (Term.arg 0).eval #[Value.ref b] s none [] s = some (.ref b) := rfl
  simp [Cond.before, Cond.holds, Cond.value, ha, ht] at h
theorem st_A0 : ∀ a : Nat, a < s.heap.size → ¬ am_A0 s.heap.size a := fun a h z => absurd z (Nat.not_le.mpr h)
theorem st_sig (h : (Jvm.Cond.and given_1 narrow_1).before args s = true) : ∃ t : Nat, (Term.static "SevenForms" "SIGNATURE" "[I").eval args s none [] s = some (.ref t) ∧ va_T .int t 8 (fun j => .int (sig.getD j 0)) (am_A0 s.heap.size) s s.heap := by
  have hs := flat_of_before _ h
  have hE : ∀ j, j < 8 → (Cond.eq (.elem (Term.static "SevenForms" "SIGNATURE" "[I") (.int (Int32.ofNat j))) (.int (sig.getD j 0))).before args s = true := by
    intro j hj
    have : j = 0 ∨ j = 1 ∨ j = 2 ∨ j = 3 ∨ j = 4 ∨ j = 5 ∨ j = 6 ∨ j = 7 := by omega
    rcases this with rfl | rfl | rfl | rfl | rfl | rfl | rfl | rfl <;> exact hs _ (by decide +kernel)
  exact va_Tof (by decide) (hs _ (by decide +kernel)) (va_eqt (z := Int32.ofNat 8) (hs _ (by decide +kernel))) (fun j hj => va_eqt (hE j hj)) st_A0
theorem st_ckt (h : (Jvm.Cond.and given_1 narrow_1).before args s = true) : ∃ t : Nat, (Term.static "SevenForms" "CHECK_STEPS" "[I").eval args s none [] s = some (.ref t) ∧ va_T .int t 16 (fun j => .int (ckt.getD j 0)) (am_A0 s.heap.size) s s.heap := by
  have hs := flat_of_before _ h
  have hE : ∀ j, j < 16 → (Cond.eq (.elem (Term.static "SevenForms" "CHECK_STEPS" "[I") (.int (Int32.ofNat j))) (.int (ckt.getD j 0))).before args s = true := by
    intro j hj
    have : j = 0 ∨ j = 1 ∨ j = 2 ∨ j = 3 ∨ j = 4 ∨ j = 5 ∨ j = 6 ∨ j = 7 ∨ j = 8 ∨ j = 9 ∨ j = 10 ∨ j = 11 ∨ j = 12 ∨ j = 13 ∨ j = 14 ∨ j = 15 := by omega
    rcases this with rfl | rfl | rfl | rfl | rfl | rfl | rfl | rfl | rfl | rfl | rfl | rfl | rfl | rfl | rfl | rfl <;> exact hs _ (by decide +kernel)
  exact va_Tof (by decide) (hs _ (by decide +kernel)) (va_eqt (z := Int32.ofNat 16) (hs _ (by decide +kernel))) (fun j hj => va_eqt (hE j hj)) st_A0
def st_h (b t0 t1 L : Nat) (xs : Nat → Int32) : am_H := ((fun a => if a = b ∨ a = t0 ∨ a = t1 then 31 else 0), (fun _ _ _ => 0), (fun _ _ _ => 0), (fun _ _ _ => none), (fun a => if a = b then L else if a = t0 then 8 else 16), (fun a j => if a = b then xs j else if a = t0 then sig.getD j 0 else ckt.getD j 0), (fun _ _ => 0), (fun _ _ => none), 0, 0)
def st_t (t0 t1 : Nat) : Nat → Nat := fun j => match j with | 0 => t0 | _ => t1
theorem st_tt {b t0 t1 L : Nat} {xs : Nat → Int32} (n0 : b ≠ t0) (n1 : b ≠ t1) (n2 : t0 ≠ t1) : tk_s (st_t t0 t1) (st_h b t0 t1 L xs) := by
  have e1 : ¬ t1 = b := fun z => n1 z.symm
  have e0 : ¬ t0 = b := fun z => n0 z.symm
  have e2 : ¬ t1 = t0 := fun z => n2 z.symm
  refine ⟨if_pos (Or.inr (Or.inr rfl)), ?_, fun k _ => ?_, if_pos (Or.inr (Or.inl rfl)), ?_, fun k _ => ?_⟩
  · show (if t1 = b then L else if t1 = t0 then 8 else 16) = 16
    rw [if_neg e1, if_neg e2]
  · show (if t1 = b then xs k else if t1 = t0 then sig.getD k 0 else ckt.getD k 0) = ckt.getD k 0
    rw [if_neg e1, if_neg e2]
  · show (if t0 = b then L else if t0 = t0 then 8 else 16) = 8
    rw [if_neg e0, if_pos rfl]
  · show (if t0 = b then xs k else if t0 = t0 then sig.getD k 0 else ckt.getD k 0) = sig.getD k 0
    rw [if_neg e0, if_pos rfl]
theorem st_n2 {t0 t1 : Nat} {f f' : Nat → Value} {A : Nat → Prop} (h : va_T .int t0 8 f A s s.heap) (h' : va_T .int t1 16 f' A s s.heap) : t0 ≠ t1 := by
  intro e
  subst e
  obtain ⟨c1, a1, -, -, -, a2, -⟩ := h
  obtain ⟨c2, b1, -, -, -, b2, -⟩ := h'
  cases Option.some.inj (a1.symm.trans b1)
  exact absurd (a2.symm.trans b2) (by decide)
theorem st_Ro {b t0 t1 L : Nat} {xs : Nat → Int32} (n0 : b ≠ t0) (n1 : b ≠ t1) (n2 : t0 ≠ t1) (hb : va_T .int b L (fun j => .int (xs j)) (am_A0 s.heap.size) s s.heap) (h0 : va_T .int t0 8 (fun j => .int (sig.getD j 0)) (am_A0 s.heap.size) s s.heap) (h1 : va_T .int t1 16 (fun j => .int (ckt.getD j 0)) (am_A0 s.heap.size) s s.heap) : am_Ro s.heap.size (st_h b t0 t1 L xs) s := by
  intro a ha
  have e1 : ¬ t1 = b := fun z => n1 z.symm
  have e0 : ¬ t0 = b := fun z => n0 z.symm
  have e2 : ¬ t1 = t0 := fun z => n2 z.symm
  have hd : a = b ∨ a = t0 ∨ a = t1 := Classical.not_not.1 (fun z => by
    have : (if a = b ∨ a = t0 ∨ a = t1 then 31 else 0) = 31 := ha
    rw [if_neg z] at this
    cases this)
  show va_T .int a (if a = b then L else if a = t0 then 8 else 16) (fun j => .int (if a = b then xs j else if a = t0 then sig.getD j 0 else ckt.getD j 0)) (am_A0 s.heap.size) s s.heap
  rcases hd with rfl | rfl | rfl
  · simp only [if_true]
    exact hb
  · simp only [if_neg e0, if_true]
    exact h0
  · simp only [if_neg e1, if_neg e2]
    exact h1
theorem st_Wd {D : va_G} {g : Nat → ClassId} {b t0 t1 L : Nat} {xs : Nat → Int32} : am_Wd D g s.heap.size (st_h b t0 t1 L xs) s.heap := by
  refine ⟨[], fun a => ⟨(fun z => by cases z), fun z => ?_⟩, (fun k q hq => by cases hq), (fun i j p q hp => by cases hp), (fun k q hq => by cases hq)⟩
  obtain ⟨z1, z2⟩ := z
  by_cases hd : a = b ∨ a = t0 ∨ a = t1
  · exact absurd (show am_K (st_h b t0 t1 L xs) a = 31 from if_pos hd) z2
  · exact absurd (show am_K (st_h b t0 t1 L xs) a = 0 from if_neg hd) z1
theorem st_sz (s : State) : am_sz s.heap.size s.heap = 0 := by
  unfold am_sz
  rw [List.drop_eq_nil_of_le (by simp)]
  rfl
theorem st_E {D : va_G} {g : Nat → ClassId} {sa : Nat → Nat} {t0 t1 : Nat} (hts : ∀ w ∈ lw_tbl, w.before args s = true) (h : (Jvm.Cond.and given_1 narrow_1).before args s = true) (hD : ∀ (c : Nat) (q : vw_C), am_cl[c]? = some q → u_Kn s q.1 q.2.1 q.2.2 (D.1 c) (D.2 c)) (hg : ∀ (k : Nat) (q : ClassId × FieldType), (am_tys g)[k]? = some q → ArrOfT s q.1 q.2 ∧ va_RA s q.1 q.2) (hsa : ∀ k, k < 4 → vk_R (am_cn (am_sx k).1) (am_sx k).2.1 (am_sx k).2.2 (sa k) s)
    (h0 : (Term.static "SevenForms" "SIGNATURE" "[I").eval args s none [] s = some (.ref t0)) (h1 : (Term.static "SevenForms" "CHECK_STEPS" "[I").eval args s none [] s = some (.ref t1)) : am_E D g s.heap.size (st_t t0 t1) sa s := by
  have hs := flat_of_before _ h
  refine ⟨⟨hD, hg⟩, Nat.le_refl _, fun j hj => ?_, ?_, ?_, hsa, fun q hq => va_Nw.of rfl (hts _ (st_mn q hq)), fun q hq z => va_Nw.of rfl (hts _ (st_mf q hq z)), va_AO.of (hts _ (List.mem_of_getElem? (i := 123) (by decide +kernel))), va_AO.of (hts _ (List.mem_of_getElem? (i := 125) (by decide +kernel))), va_Nc.of (hs _ (by decide +kernel)), fun k hk => am_Ca.of (hts _ (st_mc k hk)), fun X hX => va_Nw.of rfl (hts _ (st_md X hX))⟩
  · have hi : (Cond.initialized "SevenForms").before args s = true := hts _ (List.mem_of_getElem? (i := 87) (by decide +kernel))
    have : j = 0 ∨ j = 1 := by omega
    rcases this with rfl | rfl
    · exact va_Zof (hts _ (st_ml 0 (by decide))) hi h0 st_A0
    · exact va_Zof (hts _ (st_ml 1 (by decide))) hi h1 st_A0
  · exact vx_Zqof (hts _ (List.mem_of_getElem? (i := 762) (by decide +kernel))) (hts _ (List.mem_of_getElem? (i := 99) (by decide +kernel))) (hs _ (by decide +kernel)) st_A0
  · exact vx_Zqof (hts _ (List.mem_of_getElem? (i := 764) (by decide +kernel))) (hts _ (List.mem_of_getElem? (i := 99) (by decide +kernel))) (hs _ (by decide +kernel)) st_A0
end STA
theorem st_bc : am_bc 205 = code := rfl
theorem st_rt : am_rt 205 = ret := rfl
theorem st_fr {s t : State} {o : Outcome} {L : List Loc} {k n : Nat} (hF : FrameEnd s o t L k n) (hf : ∀ q ∈ L, am_A0 s.heap.size q.base) : Framed s o t [] k n := by
  obtain ⟨z1, z2, y1, y2, y3, y4, y5, y6⟩ := hF
  refine ⟨z1, z2, y1, y2, y3, y4, y5, fun a c hc => ?_⟩
  obtain ⟨c', x1, x2, x3, x4⟩ := y6 a c hc
  refine ⟨c', x1, x2, x3, fun i _ => x4 i (fun hin => ?_)⟩
  have h1 : s.heap.size ≤ a := hf _ hin
  exact absurd (Array.getElem?_eq_some_iff.mp hc).1 (Nat.not_lt.mpr h1)
set_option maxHeartbeats 4000000 in
/-- from the entry, for every script of at most 2560 ints, the law comes to its end with true -/
theorem whole_start {p : Program} {e : Env} {s : State} {m : MethodId} {below : List Frame} {meth : Method} {c : Code} (l : Launch) (hl : l.stackTraces = false) {b L : Nat} {xs : Nat → Int32} (hL : L ≤ 2560) (hnm : meth.name = "law") (htb : c.exceptionTable.toList = []) (C0 : lw_At p s m meth c b L xs) : W p l e room_1 s m #[Value.ref b] below meth c s.heap [] 0 0 (lw_Z below #[Value.ref b] s) (entryFrame m ([Value.ref b] : List Value).toArray 7) := by
  obtain ⟨hx, hb, hr, hml, hown, hts, hX, hbl, hlk, hgv⟩ := C0
  obtain ⟨D, hD⟩ := st_D hts
  obtain ⟨g, hg⟩ := st_g hts
  obtain ⟨sa, hsa⟩ := st_sa hts
  obtain ⟨t0, h0, T0⟩ := st_sig hgv
  obtain ⟨t1, h1, T1⟩ := st_ckt hgv
  have hs := flat_of_before _ hgv
  have n0 : b ≠ t0 := st_ne (hs _ (by decide +kernel)) h0
  have n1 : b ≠ t1 := st_ne (hs _ (by decide +kernel)) h1
  have n2 : t0 ≠ t1 := st_n2 T0 T1
  have Tb : va_T .int b L (fun j => .int (xs j)) (am_A0 s.heap.size) s s.heap := by
    obtain ⟨scr, x1, x2, x3, x4, x5⟩ := hX
    exact ⟨scr, x1, x2, x3, by omega, by rw [x4], x5, st_A0 b hbl⟩
  have ev : am_Ev (st_t t0 t1) 205 0 (am_en [Value.ref b] (am_ml 205)) [] (st_h b t0 t1 L xs) (am_pI lwQ no_x) := law_ev (L := L) (xs := xs) (sc := b) hL (if_pos (Or.inl rfl)) (if_pos rfl) (fun j _ => if_pos rfl) (st_tt n0 n1 n2) rfl rfl
  have Cx : am_Cx l p room_1 s m #[Value.ref b] meth c 205 := ⟨hx, hb.trans st_bc.symm, hml, hr.trans st_rt.symm, hlk, hown, hnm, fun w hw => hts w (List.mem_filter.mp hw).1, by rw [am_hh_nil (show am_tb 205 = [] from rfl)]; exact htb, by decide, by decide, hl, by decide⟩
  have z := st_sz s
  have So := am_sound (l := l) (D := D) (g := g) (B0 := s.heap.size) (sa := sa) am_catch_ok ev p e room_1 s m #[Value.ref b] below meth c s.heap [] 0 0 _ Cx (st_E hts hgv hD hg hsa h0 h1) (am_en_lv (As := [Value.ref b]) (n := am_ml 205) (show 1 ≤ 7 by decide)) st_Wd (st_Ro n0 n1 n2 Tb T0 T1) va_S.rf ⟨by show 0 + s.heap.size ≤ s.heap.size + 0; omega, Nat.zero_le _, by show s.heap.size + 603072 ≤ s.heap.size + 603072; omega⟩ ⟨by rw [z]; exact Nat.zero_le _, Nat.zero_le _, by rw [z]; decide⟩
  rw [lg_entry_eq]
  refine am_Wmono (fun t hq => ?_) So
  obtain ⟨o, b1, b2, b3⟩ := hq
  rcases b3 with ⟨⟨v, h', rfl, hp, -⟩, Lc, hF, hf⟩ | ⟨q, -, E, ce, L', hx, -⟩
  · cases v with
    | none => exact hp.elim
    | some w =>
      cases w with
      | int x =>
        have hx1 : x = Int32.ofNat 1 := hp
        subst hx1
        exact ⟨_, b1, b2, rfl, st_fr hF hf⟩
      | _ => exact hp.elim
  · obtain ⟨h', hp, -⟩ := hx
    exact hp.elim
