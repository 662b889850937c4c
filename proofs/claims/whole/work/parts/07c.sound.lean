/-! ===== what holds at every state of the run beside the heap; what a method's end says; the small machine is sound ===== -/
def am_sn (j : Nat) : String := match j with
  | 0 => "SIGNATURE"
  | _ => "CHECK_STEPS"
def am_sx (k : Nat) : Nat × Nat × String := match k with
  | 0 => (2, 40, "a fault of the tape")
  | 1 => (2, 49, "the tape ends too early")
  | 2 => (9, 213, "the tape has no such byte")
  | _ => (9, 221, "a byte is 0 to 255")
/-- a class can be cast to another -/
def am_Ca (C T : String) (U : State) : Prop := ∃ c t : ClassId, U.vm.findClass C = some c ∧ U.vm.findClass T = some t ∧ U.vm.assignable c t = true
theorem am_Ca.moved {C T : String} {u U : State} (hvm : u.vm.Alike U.vm) (h : am_Ca C T u) : am_Ca C T U := by
  obtain ⟨c, t, h1, h2, h3⟩ := h
  exact ⟨c, t, by rw [hvm.findClass]; exact h1, by rw [hvm.findClass]; exact h2, by rw [hvm.assignable]; exact h3⟩
theorem am_Ca.use {C T : String} {U : State} {A : Array Value} (h : am_Ca C T U) : (Cond.castable C T).before A U = true := by
  obtain ⟨c, t, h1, h2, h3⟩ := h
  simp [Cond.before, Cond.holds, Cond.value, h1, h2, h3]
theorem am_Ca.of {C T : String} {U : State} {A : Array Value} (h : (Cond.castable C T).before A U = true) : am_Ca C T U := by
  obtain ⟨c, t, h1, h2, h3⟩ := Cond.castable_spec h
  exact ⟨c, t, h1, h2, h3⟩
def am_dn : List String := ["java/lang/IndexOutOfBoundsException", "java/lang/RuntimeException", "java/lang/Exception", Bundle.tN]
theorem am_Nd {x : MethodName} {s U : State} (hW : s.vm.Alike U.vm) (h : va_Nw (.declares x) s) : va_Nw (.declares x) U := va_tabs rfl (rfl : (s.setVm U.vm).vm = U.vm) (A := #[]) (by rw [Cond.declares_setVm hW]; exact h)
def am_E (D : va_G) (g : Nat → ClassId) (B0 : Nat) (tt sa : Nat → Nat) (U : State) : Prop :=
  va_K D am_cl (am_tys g) U ∧ B0 ≤ U.heap.size ∧ (∀ j, j < 2 → va_Z "SevenForms" (am_sn j) "[I" (.ref (tt j)) (am_A0 B0) U U.heap) ∧
  vx_Zq Bundle.tN "UNASSIGNED_STACK" Bundle.steD (am_A0 B0) U U.heap ∧ vx_Zq Bundle.tN "SUPPRESSED_SENTINEL" Bundle.listD (am_A0 B0) U U.heap ∧
  (∀ k, k < 4 → vk_R (am_cn (am_sx k).1) (am_sx k).2.1 (am_sx k).2.2 (sa k) U) ∧ (∀ q ∈ am_nl, va_Nw (.methodLinkNest (am_cn q.1) q.2.1 (am_ym q.2.2) "SevenForms") U) ∧
  (∀ q ∈ am_gs, q.2.2.2 = 1 → va_Nw (.fieldLinkNest (am_cn q.1) q.2.1 "SevenForms" (am_sn q.2.2.1) "[I" "SevenForms") U) ∧ va_AO RX4 U ∧ va_AO RX1 U ∧ va_Nc "java/lang/IllegalArgumentException" "java/lang/ArrayIndexOutOfBoundsException" U ∧ (∀ k, k < 3 → am_Ca (am_ex k) (am_ex k) U) ∧ (∀ X ∈ am_dn, va_Nw (.declares (Bundle.initS X)) U)
section AMS
variable {D : va_G} {g : Nat → ClassId} {B0 : Nat} {tt sa : Nat → Nat} {s U : State} {H : Heap} {locs : List Loc} {h : am_H}
theorem am_E.moved (hE : am_E D g B0 tt sa s) (hU : U.heap = H) (hS : va_S (am_A0 B0) s.heap H locs) (hW : s.WarmedH U.vm) : am_E D g B0 tt sa U := by
  obtain ⟨h1, h2, h3, h4, h5, h6, h7, h8, h9, h10, h11, h12, h13⟩ := hE
  refine ⟨va_K.moved hW.alike h1, by rw [hU]; exact Nat.le_trans h2 hS.1, fun j hj => by rw [hU]; exact va_Z.moved hW.alike ((h3 j hj).kept hS.2.1), by rw [hU]; exact vx_Zq.moved hW.alike (h4.kept hS.2.1), by rw [hU]; exact vx_Zq.moved hW.alike (h5.kept hS.2.1), fun k hk => vk_R.warm hW (h6 k hk), fun q hq => va_Nw.warmM hW (h7 q hq), fun q hq z => va_Nw.warmF hW (h8 q hq z), va_AO.moved hW.alike h9, va_AO.moved hW.alike h10, va_Nc.moved hW.alike h11, fun k hk => (h12 k hk).moved hW.alike, fun X hX => am_Nd hW.alike (h13 X hX)⟩
theorem am_Ro.moved (hR : am_Ro B0 h s) (hU : U.heap = H) (hS : va_S (am_A0 B0) s.heap H locs) (hW : s.vm.Alike U.vm) : am_Ro B0 h U := fun a ha => by
  rw [hU]
  exact va_T.moved hW ((hR a ha).kept hS.2.1)
theorem am_Ro.back (hR : am_Ro B0 h U) (hU : U.heap = H) (hB : B0 ≤ s.heap.size) (hS : va_S (am_A0 B0) s.heap H locs) (hW : s.vm.Alike U.vm) : am_Ro B0 h s := fun a ha => by
  have h1 := hR a ha
  rw [hU] at h1
  refine va_T.moved hW.symm (h1.kept fun b _ hb => (hS.2.1 b ?_ hb).symm)
  exact Nat.lt_of_lt_of_le (Nat.not_le.mp hb) hB
end AMS
/-! room: what was made since B0 -/
def am_sz (B0 : Nat) (H : Heap) : Nat := ((H.toList.drop B0).map (fun c : Cell => c.slots.size)).sum
def am_Zf (B0 : Nat) (h : am_H) (H : Heap) : Prop := H.size ≤ B0 + am_U h ∧ am_sz B0 H ≤ am_V h ∧ am_U h ≤ am_LC ∧ am_V h ≤ am_LS
def am_Zr (B0 : Nat) (H : Heap) (mc ms : Nat) : Prop := B0 + am_LC ≤ H.size + mc ∧ am_LS ≤ am_sz B0 H + ms
def am_Bc (B0 : Nat) (h : am_H) (s : State) (R : Room) (cells : Nat) : Prop := cells + s.heap.size ≤ B0 + am_U h ∧ am_U h ≤ am_LC ∧ B0 + am_LC ≤ s.heap.size + R.cells
def am_Bs (B0 : Nat) (h : am_H) (s : State) (R : Room) (slots : Nat) : Prop := slots + am_sz B0 s.heap ≤ am_V h ∧ am_V h ≤ am_LS ∧ am_LS ≤ am_sz B0 s.heap + R.slots
theorem am_szs {B0 k n : Nat} {s T : State} {locs : List Loc} (hB : B0 ≤ s.heap.size) (h : s.sameButNew T locs k n) : am_sz B0 T.heap = am_sz B0 s.heap + ((T.heap.toList.drop s.heap.size).map (fun c : Cell => c.slots.size)).sum := by
  obtain ⟨-, h2, -, -, -, h6⟩ := h
  have e1 : T.heap.toList.drop B0 = (T.heap.toList.take s.heap.size).drop B0 ++ T.heap.toList.drop s.heap.size := by
    conv => lhs; rw [← List.take_append_drop s.heap.size T.heap.toList]
    rw [List.drop_append_of_le_length (by simp; omega)]
  have e2 : (T.heap.toList.take s.heap.size).map (fun c : Cell => c.slots.size) = s.heap.toList.map (fun c : Cell => c.slots.size) := by
    refine List.ext_getElem? fun i => ?_
    rw [List.getElem?_map, List.getElem?_map]
    by_cases hi : i < s.heap.size
    · obtain ⟨c', e1, -, e3, -⟩ := h6 i _ (Array.getElem?_eq_getElem hi)
      rw [List.getElem?_take_of_lt hi, Array.getElem?_toList, Array.getElem?_toList, e1, Array.getElem?_eq_getElem hi]
      simp [e3]
    · rw [List.getElem?_eq_none (by simp; omega), List.getElem?_eq_none (by simp; omega)]
  unfold am_sz
  rw [e1, List.map_append, List.sum_append, List.map_drop, e2, ← List.map_drop]
section AMZ
variable {p : Program} {l : Launch} {e : Env} {R : Room} {s T : State} {m : MethodId} {args : Array Value} {below : List Frame} {meth : Method} {c : Code} {locs : List Loc} {cells slots B0 : Nat} {h : am_H}
theorem am_stz (X : Stand p l e R s m args below meth c T locs cells slots) (hB : B0 ≤ s.heap.size) (hc : am_Bc B0 h s R cells) (hs : am_Bs B0 h s R slots) : am_Zf B0 h T.heap := by
  have h1 : T.heap.size ≤ s.heap.size + cells := X.same.2.2.1
  have h2 : ((T.heap.toList.drop s.heap.size).map (fun c : Cell => c.slots.size)).sum ≤ slots := X.same.2.2.2.2.1
  have h3 : am_sz B0 T.heap = am_sz B0 s.heap + ((T.heap.toList.drop s.heap.size).map (fun c : Cell => c.slots.size)).sum := am_szs (T := T.setVm s.vm) hB X.same
  obtain ⟨c1, c2, c3⟩ := hc
  obtain ⟨s1, s2, s3⟩ := hs
  exact ⟨by omega, by omega, c2, s2⟩
theorem am_tight (X : Stand p l e R s m args below meth c T locs cells slots) (hB : B0 ≤ s.heap.size) (hz : am_Zf B0 h T.heap) : Stand p l e R s m args below meth c T locs (B0 + am_U h - s.heap.size) (am_V h - am_sz B0 s.heap) := by
  have h0 : s.heap.size ≤ T.heap.size := X.same.2.1
  have h3 : am_sz B0 T.heap = am_sz B0 s.heap + ((T.heap.toList.drop s.heap.size).map (fun c : Cell => c.slots.size)).sum := am_szs (T := T.setVm s.vm) hB X.same
  obtain ⟨z1, z2, z3, z4⟩ := hz
  refine { X with same := ⟨X.same.1, X.same.2.1, ?_, X.same.2.2.2.1, ?_, X.same.2.2.2.2.2⟩ }
  · show T.heap.size ≤ s.heap.size + (B0 + am_U h - s.heap.size)
    omega
  · show ((T.heap.toList.drop s.heap.size).map (fun c : Cell => c.slots.size)).sum ≤ am_V h - am_sz B0 s.heap
    omega
def am_Zt (B0 : Nat) (h : am_H) (s : State) : Prop := s.heap.size ≤ B0 + am_U h ∧ am_sz B0 s.heap ≤ am_V h ∧ am_U h ≤ am_LC ∧ am_V h ≤ am_LS
theorem am_zt (X : Stand p l e R s m args below meth c T locs cells slots) (hB : B0 ≤ s.heap.size) (hz : am_Zf B0 h T.heap) : am_Zt B0 h s := by
  have h0 : s.heap.size ≤ T.heap.size := X.same.2.1
  have h3 : am_sz B0 T.heap = am_sz B0 s.heap + ((T.heap.toList.drop s.heap.size).map (fun c : Cell => c.slots.size)).sum := am_szs (T := T.setVm s.vm) hB X.same
  obtain ⟨z1, z2, z3, z4⟩ := hz
  exact ⟨by omega, by omega, z3, z4⟩
variable {H : Heap} {Q : State → Prop} {gg : JFrame}
theorem am_wz (hB : B0 ≤ s.heap.size) (hc : am_Bc B0 h s R cells) (hs : am_Bs B0 h s R slots) (k : am_Zf B0 h H → W p l e R s m args below meth c H locs cells slots Q gg) : W p l e R s m args below meth c H locs cells slots Q gg := fun T hT X => k (hT ▸ am_stz X hB hc hs) T hT X
/-- the numbers as they are -/
theorem am_wa (hB : B0 ≤ s.heap.size) (hc : am_Bc B0 h s R cells) (hs : am_Bs B0 h s R slots) (k : ∀ cells slots, am_Zf B0 h H → cells + s.heap.size = H.size → slots + am_sz B0 s.heap = am_sz B0 H → W p l e R s m args below meth c H locs cells slots Q gg) : W p l e R s m args below meth c H locs cells slots Q gg := by
  intro T hT X
  have hz := am_stz X hB hc hs
  have h0 : s.heap.size ≤ T.heap.size := X.same.2.1
  have h3 : am_sz B0 T.heap = am_sz B0 s.heap + ((T.heap.toList.drop s.heap.size).map (fun c : Cell => c.slots.size)).sum := am_szs (T := T.setVm s.vm) hB X.same
  refine k (T.heap.size - s.heap.size) (am_sz B0 T.heap - am_sz B0 s.heap) (hT ▸ hz) (by rw [hT] at h0 ⊢; omega) (by rw [hT] at h3 ⊢; omega) T hT { X with same := ⟨X.same.1, X.same.2.1, ?_, X.same.2.2.2.1, ?_, X.same.2.2.2.2.2⟩ }
  · show T.heap.size ≤ s.heap.size + (T.heap.size - s.heap.size)
    omega
  · show ((T.heap.toList.drop s.heap.size).map (fun c : Cell => c.slots.size)).sum ≤ am_sz B0 T.heap - am_sz B0 s.heap
    omega
theorem am_Bt (z : am_Zt B0 h s) (c3 : B0 + am_LC ≤ s.heap.size + R.cells) (s3 : am_LS ≤ am_sz B0 s.heap + R.slots) : am_Bc B0 h s R (B0 + am_U h - s.heap.size) ∧ am_Bs B0 h s R (am_V h - am_sz B0 s.heap) := by
  obtain ⟨z1, z2, z3, z4⟩ := z
  exact ⟨⟨by omega, z3, c3⟩, ⟨by omega, z4, s3⟩⟩
end AMZ
def am_Qc (D : va_G) (g : Nat → ClassId) (B0 : Nat) (post : am_P) : Array Value → State → Outcome → State → Prop := fun _ st o t => ∃ (v : Option Value) (h' : am_H), o = .returned v ∧ post (.inl v) h' ∧ am_Wd D g B0 h' t.heap ∧ am_Ro B0 h' t ∧ am_Zf B0 h' t.heap ∧ va_F (am_A0 B0) st t
def am_Xc (D : va_G) (g : Nat → ClassId) (B0 : Nat) (post : am_P) : String → State → State → Prop := fun E st t => ∃ h' : am_H, post (.inr E) h' ∧ am_Wd D g B0 h' t.heap ∧ am_Ro B0 h' t ∧ am_Zf B0 h' t.heap ∧ va_F (am_A0 B0) st t
/-- a body of the method y -/
def am_Cx (l : Launch) (p : Program) (R : Room) (s : State) (m : MethodId) (args : Array Value) (meth : Method) (c : Code) (y : Nat) : Prop :=
  p.tables.exec = Jvm.exec ∧ c.code = am_bc y ∧ c.maxLocals = am_ml y ∧ meth.sig.returnType = am_rt y ∧ meth.locks = false ∧ s.vm.findClass (am_cn (am_ow y)) = some m.cls ∧ meth.name = (am_ym y).name ∧ (∀ w ∈ am_wG, w.before args s = true) ∧
  c.exceptionTable.toList = tableOf (am_hh y) ∧ am_rk y + 7 ≤ R.frames ∧ 40 * am_rk y + 200 ≤ R.locals ∧ l.stackTraces = false ∧ y < 206
def am_So (l : Launch) (D : va_G) (g : Nat → ClassId) (B0 : Nat) (tt sa : Nat → Nat) : am_X := fun y pc al st h post =>
  ∀ (p : Program) (e : Env) (R : Room) (s : State) (m : MethodId) (args : Array Value) (below : List Frame) (meth : Method) (c : Code) (H : Heap) (locs : List Loc) (cells slots : Nat) (ls : Array Slot),
    am_Cx l p R s m args meth c y → am_E D g B0 tt sa s → am_lv ls (am_ml y) al → am_Wd D g B0 h H → am_Ro B0 h s → va_S (am_A0 B0) s.heap H locs → am_Bc B0 h s R cells → am_Bs B0 h s R slots →
    W p l e R s m args below meth c H locs cells slots (vx_MQ below (am_Qc D g B0 post) (am_Xc D g B0 post) args s R.cells R.slots (am_A0 B0)) (F0 m pc ls st)
/-! the words of a call -/
def am_ws (y : Nat) : List Cond := am_wc y :: am_wG
def am_rm (y mc ms : Nat) : Room := { frames := am_rk y + 7, cells := mc, slots := ms, locals := 40 * am_rk y + 200 }
def am_Pc (D : va_G) (g : Nat → ClassId) (B0 : Nat) (tt sa : Nat → Nat) (h : am_H) (mc ms : Nat) (av : List Value) : Array Value → State → Prop := va_Pc av (fun U => am_E D g B0 tt sa U ∧ am_Wd D g B0 h U.heap ∧ am_Ro B0 h U ∧ am_Zf B0 h U.heap ∧ am_Zr B0 U.heap mc ms)
theorem am_good {L : List Cond} (h : ∀ w ∈ L, w ∈ am_wG) : GoodIn am_wG L := fun w hw => ⟨h w hw, good_of_word (List.mem_filter.mp (h w hw)).2⟩
theorem am_pn : ∀ y, y < 206 → plainName (am_ym y).cls = true ∧ (am_ym y).cls ≠ "java/lang/invoke/MethodHandle" ∧ (am_ym y).cls ≠ "java/lang/invoke/VarHandle" ∧ am_ml y ≤ 20 := by decide +kernel
theorem am_mw_lt : am_mw.all (fun q => decide (q.1 < 205)) = true := by decide +kernel
theorem am_kd_of {a k : Nat} (h : am_kd a k = true) : ∃ q ∈ am_mw, q.1 = a ∧ q.2.2.2.2 = k := by
  simp only [am_kd, List.any_eq_true, Bool.and_eq_true, beq_iff_eq] at h
  obtain ⟨q, h1, h2, h3⟩ := h
  exact ⟨q, h1, h2, h3⟩
theorem am_kd_all {a k : Nat} (h : am_kd a k = true) : a < 205 ∧ Cond.initialized (am_ym a).cls ∈ am_wG ∧ (am_ym a).cls = am_cn (am_ow a) ∧ (parseMethodDescriptor (am_ym a).desc).map (fun d => d.parameters.length) = some (am_np a) ∧ (k = 0 → Cond.instanceMethod (am_ym a) ∈ am_wG ∧ Cond.selects (am_ym a).cls (am_ym a) (am_ym a) ∈ am_wG) ∧ (k = 1 → Cond.static (am_ym a) ∈ am_wG) ∧ (k = 2 → Cond.instanceMethod (am_ym a) ∈ am_wG ∧ (am_ym a).name = "<init>") := by
  obtain ⟨q, hq, rfl, rfl⟩ := am_kd_of h
  have h1 := List.all_eq_true.mp am_mw_ok q hq
  have h2 := List.all_eq_true.mp am_mw_lt q hq
  simp only [decide_eq_true_eq] at h2
  simp only [am_mwk, Bool.and_eq_true, decide_eq_true_eq] at h1
  obtain ⟨a1, a2, a3, a4⟩ := h1
  refine ⟨h2, am_at_in a1, a2, a3, fun z => ?_, fun z => ?_, fun z => ?_⟩
  · rw [z] at a4
    simp only [Bool.and_eq_true] at a4
    exact ⟨am_at_in a4.1, am_at_in a4.2⟩
  · rw [z] at a4
    exact am_at_in a4
  · rw [z] at a4
    simp only [Bool.and_eq_true, decide_eq_true_eq] at a4
    exact ⟨am_at_in a4.1, a4.2⟩
theorem am_ea_len : ∀ As : List Value, (lg_sl As).length = (am_ea As).length
  | [] => rfl
  | v :: r => by
    have ih := am_ea_len r
    cases v <;> simp [lg_sl, am_ea, Value.category] at ih ⊢ <;> exact ih
theorem am_ea_get : ∀ (As : List Value) (k : Nat), ∀ q ∈ am_al k (am_ea As), q ∈ lv_args k As
  | [], k, q, hq => by simp [am_ea, am_al] at hq
  | v :: r, k, q, hq => by
    have ih1 := am_ea_get r (k + 1) q
    have ih2 := am_ea_get r (k + 1 + 1) q
    cases v <;> simp [am_ea, am_al, lv_args, Value.category] at hq ⊢ <;> first | exact hq.imp id ih1 | exact hq.imp id ih2
theorem am_en_lv {As : List Value} {n : Nat} (h : (am_ea As).length ≤ n) : am_lv ((lg_sl As ++ List.replicate (n - (lg_sl As).length) Slot.unset).toArray) n (am_en As n) := by
  have hl := lv_entry As (n := n) (by rw [am_ea_len]; exact h)
  refine ⟨hl.1, hl.2.1, by simp [am_en]; omega, fun i v hi => ?_⟩
  refine hl.2.2 (i, v) (am_ea_get As 0 (i, v) ((am_al_mem _ 0 i v).mpr ⟨Nat.zero_le _, ?_⟩))
  unfold am_en at hi
  rw [Nat.sub_zero]
  by_cases hlt : i < (am_ea As).length
  · rw [List.getElem?_append_left hlt] at hi
    exact hi
  · rw [List.getElem?_append_right (by omega)] at hi
    rw [List.getElem?_replicate] at hi
    split at hi <;> simp at hi
theorem am_blind {D : va_G} {g : Nat → ClassId} {B0 : Nat} {tt sa : Nat → Nat} {h : am_H} {mc ms : Nat} {av : List Value} : FrameBlind (am_Pc D g B0 tt sa h mc ms av) := by
  intro a U gg mk q
  obtain ⟨q1, q2, q3, q4, q5, q6⟩ := q
  exact ⟨q1, q2.moved (U := U.calling gg mk a) (H := U.heap) rfl va_S.rf (State.WarmedH.refl U), q3, q4.moved (U := U.calling gg mk a) (H := U.heap) rfl va_S.rf (Vm.Alike.refl U.vm), q5, q6⟩
theorem am_hh_nil {y : Nat} (h : am_tb y = []) : am_hh y = [] := by
  unfold am_hh
  rw [h]
  rfl
theorem am_wc_nil {y : Nat} (h : am_tb y = []) : am_wc y = .code (am_ym y) (am_bc y) (am_ml y) (am_rt y) := by
  unfold am_wc
  rw [h]
theorem am_wc_tab {y : Nat} (h : am_tb y ≠ []) : am_wc y = .codeWith (am_ym y) (am_bc y) (am_ml y) (am_rt y) (am_hh y) := by
  unfold am_wc
  split
  · rename_i h2
    exact absurd h2 h
  · rfl
set_option maxHeartbeats 1000000 in
theorem am_met {l : Launch} {D : va_G} {g : Nat → ClassId} {B0 : Nat} {tt sa : Nat → Nat} (hl : l.stackTraces = false) {y : Nat} {As : List Value} {h : am_H} {mc ms : Nat} {post : am_P} (hy : y < 205) (hc : (am_ym y).cls = am_cn (am_ow y)) (hfit : (am_ea As).length ≤ am_ml y) (hS : am_So l D g B0 tt sa y 0 (am_en As (am_ml y)) [] h post) :
    vx_Met l (am_ym y) (am_ws y) (am_rm y mc ms) (am_Pc D g B0 tt sa h mc ms As) (am_Qc D g B0 post) (am_Xc D g B0 post) mc ms (am_A0 B0) := by
  have key : ∀ (p : Program) (e : Env) (s : State) (m : MethodId) (args : Array Value) (below : List Frame) (meth : Method) (c : Code) (s₁ : State), BodyLoose p l (am_ym y) (headSpec (am_ws y) (am_rm y mc ms)) (am_bc y) (am_ml y) (am_rt y) e s m args below meth c s₁ → c.maxLocals = am_ml y → c.exceptionTable.toList = tableOf (am_hh y) → am_Pc D g B0 tt sa h mc ms As args s →
      W p l e (headSpec (am_ws y) (am_rm y mc ms)).room s m args below meth c s.heap [] 0 0 (vx_MQ below (am_Qc D g B0 post) (am_Xc D g B0 post) args s mc ms (am_A0 B0)) (entryFrame m args (am_ml y)) := by
    intro p e s m args below meth c s₁ B hml ht hv
    obtain ⟨rfl, hE, hWd, hRo, hZ, hZr⟩ := hv
    have hts := atoms_spec (ws := am_ws y) B.pre
    have hown : s.vm.findClass (am_cn (am_ow y)) = some m.cls := hc ▸ findClass_of_methodNamed B.named
    rw [lg_entry_eq]
    exact hS p e (am_rm y mc ms) s m _ below meth c s.heap [] 0 0 _ ⟨B.exec, B.bytes, hml, B.returns, B.notSynchronized, hown, (name_of_methodNamed B.named B.method).1, fun w hw => hts w (List.mem_cons_of_mem _ hw), ht, Nat.le_refl _, Nat.le_refl _, hl, by omega⟩ hE (am_en_lv hfit) hWd hRo va_S.rf ⟨by have := hZ.1; omega, hZ.2.2.1, hZr.1⟩ ⟨by have := hZ.2.1; omega, hZ.2.2.2, hZr.2⟩
  by_cases htb : am_tb y = []
  · refine vx_ofW (cc := am_bc y) (maxL := am_ml y) (ret := am_rt y) (am_pn y (by omega)).1 (ws' := am_wG) (by unfold am_ws; rw [am_wc_nil htb]) ?_
    intro p e s m args below meth c s₁ B hml ht hv
    refine key p e s m args below meth c s₁ B hml ?_ hv
    rw [am_hh_nil htb]
    cases hq : c.exceptionTable.toList with
    | nil => rfl
    | cons a r => exact absurd (ht a (by rw [hq]; exact List.mem_cons_self)) id
  · refine vx_ofWH (cc := am_bc y) (maxL := am_ml y) (ret := am_rt y) (hh := am_hh y) (am_pn y (by omega)).1 (ws' := am_wG) (by unfold am_ws; rw [am_wc_tab htb]) ?_
    intro p e s m args below meth c s₁ B hml hv
    refine key p e s m args below meth c s₁ B hml ?_ hv
    have hw := atoms_spec (ws := am_ws y) B.pre (am_wc y) List.mem_cons_self
    rw [am_wc_tab htb] at hw
    exact vx_table (x := am_ym y) B hw
