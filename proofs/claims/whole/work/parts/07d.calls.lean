/-! ===== calls, and the closure ===== -/
section AMC
variable {p : Program} {l : Launch} {e : Env} {R : Room} {s : State} {m : MethodId} {args : Array Value} {below : List Frame} {meth : Method} {c : Code} {H : Heap} {locs : List Loc} {cells slots : Nat} {Q : State → Prop}
variable {pc : Nat} {ls : Array Slot} {rest st0 : List Value} {D : va_G} {g : Nat → ClassId} {B0 : Nat} {a : Array Value} {mc ms : Nat}
/-- behind a call -/
theorem am_after {Qp : am_P} (hr : vx_Run p l e R s m args below meth c H locs cells slots mc ms (F0 m pc ls st0) rest (am_Qc D g B0 Qp a) (am_Xc D g B0 Qp) (am_A0 B0)) (hS : va_S (am_A0 B0) s.heap H locs) (hB : B0 ≤ s.heap.size)
    (kk : ∀ (v : Option Value) (h' : am_H) (H1 : Heap) (locs1 : List Loc), Qp (.inl v) h' → am_Wd D g B0 h' H1 → am_Ro B0 h' s → va_S (am_A0 B0) s.heap H1 locs1 → am_Zt B0 h' s → W p l e R s m args below meth c H1 locs1 (B0 + am_U h' - s.heap.size) (am_V h' - am_sz B0 s.heap) Q (F0 m (pc + 3) ls (v.toList ++ rest)))
    (kx : ∀ (E : String) (ce : Cell) (q : Addr) (h' : am_H) (H1 : Heap) (locs1 : List Loc), Qp (.inr E) h' → am_Wd D g B0 h' H1 → am_Ro B0 h' s → va_S (am_A0 B0) s.heap H1 locs1 → am_Zt B0 h' s → H1[q]? = some ce → ce.vm = .none → s.vm.findClass E = some ce.cls → vx_W p l e R s m args below meth c H1 locs1 (B0 + am_U h' - s.heap.size) (am_V h' - am_sz B0 s.heap) Q (F0 m pc ls rest) q) : W p l e R s m args below meth c H locs cells slots Q (F0 m pc ls st0) := by
  intro T hT X
  rcases hr T hT X with ⟨v, st₀, t, T', L, h0, X', hL, e1, e2, ⟨v', h', hv, hp, hw, ho, hz, hF⟩, st⟩ | ⟨q, st₀, t, T', L, E, ce, h0, X', hL, e1, e2, ⟨h', hp, hw, ho, hz, hF⟩, hce, hcv, hcl, st⟩
  · cases hv
    obtain ⟨k1, k2, k3⟩ := vx_keep h0 e1 hS (fun _ _ z => z) (fun _ z => z) hL hF
    have hal : s.vm.Alike t.vm := by rw [← e2]; exact X'.warmed.alike
    obtain ⟨t2, a1, b1⟩ := kk v h' T'.heap (locs ++ L) hp (by rw [e1]; exact hw) (am_Ro.back ho e1.symm hB k3 hal) k3 (am_zt X' hB (by rw [e1]; exact hz)) T' rfl (am_tight X' hB (by rw [e1]; exact hz))
    exact ⟨t2, st t2 a1, b1⟩
  · obtain ⟨k1, k2, k3⟩ := vx_keep h0 e1 hS (fun _ _ z => z) (fun _ z => z) hL hF
    have hal : s.vm.Alike t.vm := by rw [← e2]; exact X'.warmed.alike
    obtain ⟨t2, a1, b1⟩ := kx E ce q h' T'.heap (locs ++ L) hp (by rw [e1]; exact hw) (am_Ro.back ho e1.symm hB k3 hal) k3 (am_zt X' hB (by rw [e1]; exact hz)) (by rw [e1]; exact hce) hcv hcl T' rfl (am_tight X' hB (by rw [e1]; exact hz))
    exact ⟨t2, st.trans a1, b1⟩
theorem am_afterN {Qp : am_P} (hr : va_Run p l e R s m args below meth c H locs cells slots mc ms (F0 m pc ls st0) rest (am_Qc D g B0 Qp a) (am_A0 B0)) (hS : va_S (am_A0 B0) s.heap H locs) (hB : B0 ≤ s.heap.size)
    (kk : ∀ (v : Option Value) (h' : am_H) (H1 : Heap) (locs1 : List Loc), Qp (.inl v) h' → am_Wd D g B0 h' H1 → am_Ro B0 h' s → va_S (am_A0 B0) s.heap H1 locs1 → am_Zt B0 h' s → W p l e R s m args below meth c H1 locs1 (B0 + am_U h' - s.heap.size) (am_V h' - am_sz B0 s.heap) Q (F0 m (pc + 3) ls (v.toList ++ rest))) : W p l e R s m args below meth c H locs cells slots Q (F0 m pc ls st0) := by
  intro T hT X
  obtain ⟨v, st₀, t, T', L, h0, X', hL, e1, e2, ⟨v', h', hv, hp, hw, ho, hz, hF⟩, st⟩ := hr T hT X
  cases hv
  obtain ⟨k1, k2, k3⟩ := vx_keep h0 e1 hS (fun _ _ z => z) (fun _ z => z) hL hF
  have hal : s.vm.Alike t.vm := by rw [← e2]; exact X'.warmed.alike
  obtain ⟨t2, a1, b1⟩ := kk v h' T'.heap (locs ++ L) hp (by rw [e1]; exact hw) (am_Ro.back ho e1.symm hB k3 hal) k3 (am_zt X' hB (by rw [e1]; exact hz)) T' rfl (am_tight X' hB (by rw [e1]; exact hz))
  exact ⟨t2, st t2 a1, b1⟩
theorem am_Wmono {Q' : State → Prop} {gg : JFrame} (hq : ∀ t, Q t → Q' t) (k : W p l e R s m args below meth c H locs cells slots Q gg) : W p l e R s m args below meth c H locs cells slots Q' gg := fun T hT X => by
  obtain ⟨t, a1, b1⟩ := k T hT X
  exact ⟨t, a1, hq t b1⟩
end AMC
/-- a method that never throws -/
theorem am_metN {l : Launch} {D : va_G} {g : Nat → ClassId} {B0 : Nat} {tt sa : Nat → Nat} (hl : l.stackTraces = false) {y : Nat} {As : List Value} {h : am_H} {mc ms : Nat} {post : am_P} (hy : y < 205) (hc : (am_ym y).cls = am_cn (am_ow y)) (hfit : (am_ea As).length ≤ am_ml y) (htb : am_tb y = []) (hno : ∀ E h', ¬ post (.inr E) h') (hS : am_So l D g B0 tt sa y 0 (am_en As (am_ml y)) [] h post) :
    Met l (am_ym y) (am_ws y) (am_rm y mc ms) (am_Pc D g B0 tt sa h mc ms As) (am_Qc D g B0 post) mc ms (am_A0 B0) := by
  refine Met.ofW (cc := am_bc y) (maxL := am_ml y) (ret := am_rt y) (am_pn y (by omega)).1 (ws' := am_wG) (by unfold am_ws; rw [am_wc_nil htb]) ?_
  intro p e s m args below meth c s₁ B hml hv
  obtain ⟨rfl, hE, hWd, hRo, hZ, hZr⟩ := hv
  have hts := atoms_spec (ws := am_ws y) B.pre
  have hown : s.vm.findClass (am_cn (am_ow y)) = some m.cls := hc ▸ findClass_of_methodNamed B.named
  have ht : c.exceptionTable.toList = tableOf (am_hh y) := by
    rw [am_hh_nil htb]
    have hw := hts (am_wc y) List.mem_cons_self
    rw [am_wc_nil htb] at hw
    obtain ⟨meth9, c9, h1, h2, -, -, -, -, h7, -⟩ := Cond.code_spec B.named hw
    cases Option.some.inj (h1.symm.trans B.method)
    cases Option.some.inj (h2.symm.trans (Stand.of_body B).code)
    rw [Array.isEmpty_iff.mp h7]
    rfl
  rw [lg_entry_eq]
  refine am_Wmono (fun t hq => ?_) (hS p e (am_rm y mc ms) s m _ below meth c s.heap [] 0 0 _ ⟨B.exec, B.bytes, hml, B.returns, B.notSynchronized, hown, (name_of_methodNamed B.named B.method).1, fun w hw => hts w (List.mem_cons_of_mem _ hw), ht, Nat.le_refl _, Nat.le_refl _, hl, by omega⟩ hE (am_en_lv hfit) hWd hRo va_S.rf ⟨by have := hZ.1; omega, hZ.2.2.1, hZr.1⟩ ⟨by have := hZ.2.1; omega, hZ.2.2.2, hZr.2⟩)
  obtain ⟨o, b1, b2, b3⟩ := hq
  rcases b3 with b3 | ⟨q, -, E, ce, L, hx, -⟩
  · exact ⟨o, b1, b2, b3⟩
  · obtain ⟨h', hp, -⟩ := hx
    exact absurd hp (hno E h')
