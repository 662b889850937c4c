/-! ===== handlers and calls ===== -/
/-- what the library says of a throw that a row of the method's table catches (proved in a later part) -/
def am_Catch : Prop := ∀ {p : Program} {l : Launch} {e : Env} {R : Room} {s : State} {m : MethodId} {args : Array Value} {below : List Frame} {meth : Method} {c : Code} {H : Heap} {locs : List Loc} {cells slots : Nat} {Q : State → Prop} {pc : Nat} {ls : Array Slot} {rest : List Value} {own name E : String} {ce : Cell} {q : Addr} (_ : s.vm.findClass own = some m.cls) (pre : List ExceptionTableEntry) (x : ExceptionTableEntry) (suf : List ExceptionTableEntry) (_ : c.exceptionTable.toList = pre ++ x :: suf)
    (_ : ∀ z ∈ pre, covers z pc = false ∨ (z.catchType ≠ 0 ∧ ∃ nm : String, (Cond.classLink own z.catchType nm).before args s = true ∧ va_Nc E nm s)) (_ : covers x pc = true) (_ : x.catchType ≠ 0)
    (_ : (Cond.classLink own x.catchType name).before args s = true) (_ : (Cond.castable E name).before args s = true) (_ : H[q]? = some ce) (_ : ce.vm = .none) (_ : s.vm.findClass E = some ce.cls)
    (_ : W p l e R s m args below meth c H locs cells slots Q (F0 m x.handlerPc ls [.ref q])), vx_W p l e R s m args below meth c H locs cells slots Q (F0 m pc ls rest) q
theorem am_lv.s0 {ls : Array Slot} {nL : Nat} {al : List (Option Value)} {i : Nat} {v : Value} (h : am_lv ls nL al) {ls' : Array Slot} (h' : lv_has ls' nL ((i, v) :: (am_al 0 al).filter (fun q => !(q.1 == i) && !(q.1 + 1 == i && q.2.category == 2)))) : am_lv ls' nL ((am_kl al i).set i none) := by
  refine ⟨h'.1, h'.2.1, by simp [am_kl_len, h.2.2.1], fun j w hj => ?_⟩
  by_cases hji : j = i
  · subst hji
    rw [List.getElem?_set_self'] at hj
    cases hq : (am_kl al j)[j]? with
    | none => rw [hq] at hj; simp at hj
    | some z => rw [hq] at hj; simp at hj
  · rw [List.getElem?_set_ne (Ne.symm hji)] at hj
    obtain ⟨a, b⟩ := am_kl_get hj
    refine h'.2.2 (j, w) (List.mem_cons_of_mem _ (List.mem_filter.mpr ⟨(am_al_mem al 0 j w).mpr ⟨Nat.zero_le _, a⟩, ?_⟩))
    simp only [Bool.and_eq_true, Bool.not_eq_true', beq_eq_false_iff_ne, ne_eq, Bool.and_eq_false_imp, beq_iff_eq]
    exact ⟨hji, fun q => fun z => b ⟨q, z⟩⟩
theorem am_tbc : ∀ y, y < 206 → am_tb y ≠ [] → y = 112 ∨ y = 203 ∨ y = 204 := by decide +kernel
set_option maxRecDepth 100000 in
theorem am_w_c1 : Cond.classLink RX9 152 "java/lang/IllegalStateException" ∈ am_wG := am_in_of (i := 699) rfl rfl
set_option maxRecDepth 100000 in
theorem am_w_c2 : Cond.classLink RL 13 "java/lang/ArrayIndexOutOfBoundsException" ∈ am_wG := am_in_of (i := 1036) rfl rfl
set_option maxRecDepth 100000 in
theorem am_w_c3 : Cond.classLink RL 19 "java/lang/IllegalArgumentException" ∈ am_wG := am_in_of (i := 1071) rfl rfl
section AMT
variable {l : Launch} {D : va_G} {g : Nat → ClassId} {B0 : Nat} {tt sa : Nat → Nat} {y pc : Nat} {al : List (Option Value)} {st : List Value} {h : am_H} {post : am_P} {n a b x : Nat}
variable {p : Program} {e : Env} {R : Room} {s : State} {m : MethodId} {args : Array Value} {below : List Frame} {meth : Method} {c : Code} {H : Heap} {locs : List Loc} {cells slots : Nat} {ls : Array Slot}
/-- a handler that begins with astore -/
theorem am_hd (hCt : am_Catch) (hC : am_Cx l p R s m args meth c y) (hE : am_E D g B0 tt sa s) (hl : am_lv ls (am_ml y) al) (hW : am_Wd D g B0 h H) (hR : am_Ro B0 h s) (hS : va_S (am_A0 B0) s.heap H locs) (hc : am_Bc B0 h s R cells) (hs : am_Bs B0 h s R slots) {E name : String} {ce : Cell} {q : Addr} {rest : List Value}
    (pre : List ExceptionTableEntry) (z : ExceptionTableEntry) (suf : List ExceptionTableEntry) (hsplit : c.exceptionTable.toList = pre ++ z :: suf) (hpass : ∀ w ∈ pre, covers w pc = false ∨ (w.catchType ≠ 0 ∧ ∃ nm : String, (Cond.classLink (am_cn (am_ow y)) w.catchType nm).before args s = true ∧ va_Nc E nm s)) (hcov : covers z pc = true) (h0 : z.catchType ≠ 0)
    (hlink : (Cond.classLink (am_cn (am_ow y)) z.catchType name).before args s = true) (hcast : am_Ca E name s) (hcell : H[q]? = some ce) (hv : ce.vm = .none) (hcl : s.vm.findClass E = some ce.cls)
    (hx : match am_row y z.handlerPc with
      | some (.astore i, n, _, _) => i < al.length ∧ am_So l D g B0 tt sa y (z.handlerPc + n) ((am_kl al i).set i none) [] h post
      | some (.astore_n i, n, _, _) => (i : Nat) < al.length ∧ am_So l D g B0 tt sa y (z.handlerPc + n) ((am_kl al i).set i none) [] h post
      | _ => False) : vx_W p l e R s m args below meth c H locs cells slots (vx_MQ below (am_Qc D g B0 post) (am_Xc D g B0 post) args s R.cells R.slots (am_A0 B0)) (F0 m pc ls rest) q := by
  obtain ⟨hx1, hb, hml, hrt, hlk, hown, hnm, hts, htab, hfr, hlo, htr, hy⟩ := id hC
  refine hCt hown pre z suf hsplit hpass hcov h0 hlink hcast.use hcell hv hcl ?_
  split at hx
  · rename_i i n a1 b1 hrow
    have hd := am_rowd hy hrow
    have hok : (n == 2) = true := am_rowo hy hrow
    rw [beq_iff_eq] at hok
    subst hok
    exact lv_astore hx1 hb hd hl.has (by rw [← hl.2.2.1]; exact hx.1) rfl (fun ls' h' => hx.2 p e R s m args below meth c H locs cells slots ls' hC hE (hl.s0 h') hW hR hS hc hs)
  · rename_i i n a1 b1 hrow
    have hd := am_rowd hy hrow
    have hok : (n == 1) = true := am_rowo hy hrow
    rw [beq_iff_eq] at hok
    subst hok
    exact lv_astore_n hx1 hb hd rfl hl.has (by rw [← hl.2.2.1]; exact hx.1) rfl (fun ls' h' => hx.2 p e R s m args below meth c H locs cells slots ls' hC hE (hl.s0 h') hW hR hS hc hs)
  · exact absurd hx id
theorem am_thw (hCt : am_Catch) (hC : am_Cx l p R s m args meth c y) (hE : am_E D g B0 tt sa s) (hl : am_lv ls (am_ml y) al) (hW : am_Wd D g B0 h H) (hR : am_Ro B0 h s) (hS : va_S (am_A0 B0) s.heap H locs) (hc : am_Bc B0 h s R cells) (hs : am_Bs B0 h s R slots) {E : String} {ce : Cell} {q : Addr} {rest : List Value} (hcell : H[q]? = some ce) (hv : ce.vm = .none) (hcl : s.vm.findClass E = some ce.cls)
    (hx : am_th (am_So l D g B0 tt sa) y pc al h post E) : vx_W p l e R s m args below meth c H locs cells slots (vx_MQ below (am_Qc D g B0 post) (am_Xc D g B0 post) args s R.cells R.slots (am_A0 B0)) (F0 m pc ls rest) q := by
  obtain ⟨hx1, hb, hml, hrt, hlk, hown, hnm, hts, htab, hfr, hlo, htr, hy⟩ := id hC
  have fin : (∀ z ∈ c.exceptionTable.toList, covers z pc = false) → post (.inr E) h → vx_W p l e R s m args below meth c H locs cells slots (vx_MQ below (am_Qc D g B0 post) (am_Xc D g B0 post) args s R.cells R.slots (am_A0 B0)) (F0 m pc ls rest) q := fun h1 h2 T hT X => by
    have hz : am_Zf B0 h H := hT ▸ am_stz X hE.2.1 hc hs
    obtain ⟨c1, c2, c3⟩ := hc
    obtain ⟨s1, s2, s3⟩ := hs
    exact vx_out h1 hlk hcell hv hcl (fun t ht hal => ⟨h, h2, by rw [ht]; exact hW, am_Ro.moved hR ht hS hal, by rw [ht]; exact hz, hS.F ht⟩) hS.2.2 (by omega) (by omega) T hT X
  by_cases htb : am_tb y = []
  · unfold am_th at hx
    rw [htb] at hx
    refine fin (fun z hz => ?_) hx
    rw [htab, am_hh_nil htb] at hz
    cases hz
  · rcases am_tbc y hy htb with rfl | rfl | rfl
    · have hb1 : am_tb 112 = [(0, 15, 18, 152, "java/lang/IllegalStateException")] := rfl
      have ht1 : c.exceptionTable.toList = [⟨0, 15, 18, 152⟩] := htab
      unfold am_th at hx
      rw [hb1] at hx
      by_cases hp : pc < 15
      · rw [List.filter_cons_of_pos (by simp [hp]), List.filter_nil] at hx
        dsimp only at hx
        by_cases he : E = "java/lang/IllegalStateException"
        · subst he
          rw [show List.find? (fun q : Nat × Nat × Nat × Nat × String => decide (q.2.2.2.2 = "java/lang/IllegalStateException")) [(0, 15, 18, 152, "java/lang/IllegalStateException")] = some (0, 15, 18, 152, "java/lang/IllegalStateException") from by simp] at hx
          exact am_hd hCt hC hE hl hW hR hS hc hs [] ⟨0, 15, 18, 152⟩ [] ht1 (fun _ z => nomatch z) (by simp [covers, hp]) (by decide) (hts _ am_w_c1) (hE.2.2.2.2.2.2.2.2.2.2.2.1 0 (by decide)) hcell hv hcl hx
        · rw [show List.find? (fun q : Nat × Nat × Nat × Nat × String => decide (q.2.2.2.2 = E)) [(0, 15, 18, 152, "java/lang/IllegalStateException")] = none from by simp [Ne.symm he]] at hx
          exact absurd hx id
      · rw [List.filter_cons_of_neg (by simp [hp]), List.filter_nil] at hx
        refine fin (fun z hz => ?_) hx
        rw [ht1, List.mem_singleton] at hz
        subst hz
        simp [covers, hp]
    · have hb1 : am_tb 203 = [(0, 9, 12, 13, "java/lang/ArrayIndexOutOfBoundsException")] := rfl
      have ht1 : c.exceptionTable.toList = [⟨0, 9, 12, 13⟩] := htab
      unfold am_th at hx
      rw [hb1] at hx
      by_cases hp : pc < 9
      · rw [List.filter_cons_of_pos (by simp [hp]), List.filter_nil] at hx
        dsimp only at hx
        by_cases he : E = "java/lang/ArrayIndexOutOfBoundsException"
        · subst he
          rw [show List.find? (fun q : Nat × Nat × Nat × Nat × String => decide (q.2.2.2.2 = "java/lang/ArrayIndexOutOfBoundsException")) [(0, 9, 12, 13, "java/lang/ArrayIndexOutOfBoundsException")] = some (0, 9, 12, 13, "java/lang/ArrayIndexOutOfBoundsException") from by simp] at hx
          exact am_hd hCt hC hE hl hW hR hS hc hs [] ⟨0, 9, 12, 13⟩ [] ht1 (fun _ z => nomatch z) (by simp [covers, hp]) (by decide) (hts _ am_w_c2) (hE.2.2.2.2.2.2.2.2.2.2.2.1 1 (by decide)) hcell hv hcl hx
        · rw [show List.find? (fun q : Nat × Nat × Nat × Nat × String => decide (q.2.2.2.2 = E)) [(0, 9, 12, 13, "java/lang/ArrayIndexOutOfBoundsException")] = none from by simp [Ne.symm he]] at hx
          exact absurd hx id
      · rw [List.filter_cons_of_neg (by simp [hp]), List.filter_nil] at hx
        refine fin (fun z hz => ?_) hx
        rw [ht1, List.mem_singleton] at hz
        subst hz
        simp [covers, hp]
    · have hb1 : am_tb 204 = [(0, 11, 14, 13, "java/lang/ArrayIndexOutOfBoundsException"), (0, 11, 18, 19, "java/lang/IllegalArgumentException")] := rfl
      have ht1 : c.exceptionTable.toList = [⟨0, 11, 14, 13⟩, ⟨0, 11, 18, 19⟩] := htab
      unfold am_th at hx
      rw [hb1] at hx
      by_cases hp : pc < 11
      · rw [List.filter_cons_of_pos (by simp [hp]), List.filter_cons_of_pos (by simp [hp]), List.filter_nil] at hx
        dsimp only at hx
        by_cases he : E = "java/lang/ArrayIndexOutOfBoundsException"
        · subst he
          rw [show List.find? (fun q : Nat × Nat × Nat × Nat × String => decide (q.2.2.2.2 = "java/lang/ArrayIndexOutOfBoundsException")) [(0, 11, 14, 13, "java/lang/ArrayIndexOutOfBoundsException"), (0, 11, 18, 19, "java/lang/IllegalArgumentException")] = some (0, 11, 14, 13, "java/lang/ArrayIndexOutOfBoundsException") from by simp] at hx
          exact am_hd hCt hC hE hl hW hR hS hc hs [] ⟨0, 11, 14, 13⟩ [⟨0, 11, 18, 19⟩] ht1 (fun _ z => nomatch z) (by simp [covers, hp]) (by decide) (hts _ am_w_c2) (hE.2.2.2.2.2.2.2.2.2.2.2.1 1 (by decide)) hcell hv hcl hx
        · by_cases he2 : E = "java/lang/IllegalArgumentException"
          · subst he2
            rw [show List.find? (fun q : Nat × Nat × Nat × Nat × String => decide (q.2.2.2.2 = "java/lang/IllegalArgumentException")) [(0, 11, 14, 13, "java/lang/ArrayIndexOutOfBoundsException"), (0, 11, 18, 19, "java/lang/IllegalArgumentException")] = some (0, 11, 18, 19, "java/lang/IllegalArgumentException") from by simp] at hx
            refine am_hd hCt hC hE hl hW hR hS hc hs [⟨0, 11, 14, 13⟩] ⟨0, 11, 18, 19⟩ [] ht1 (fun w hw => ?_) (by simp [covers, hp]) (by decide) (hts _ am_w_c3) (hE.2.2.2.2.2.2.2.2.2.2.2.1 2 (by decide)) hcell hv hcl hx
            rw [List.mem_singleton] at hw
            subst hw
            exact Or.inr ⟨by decide, "java/lang/ArrayIndexOutOfBoundsException", hts _ am_w_c2, hE.2.2.2.2.2.2.2.2.2.2.1⟩
          · rw [show List.find? (fun q : Nat × Nat × Nat × Nat × String => decide (q.2.2.2.2 = E)) [(0, 11, 14, 13, "java/lang/ArrayIndexOutOfBoundsException"), (0, 11, 18, 19, "java/lang/IllegalArgumentException")] = none from by simp [Ne.symm he, Ne.symm he2]] at hx
            exact absurd hx id
      · rw [List.filter_cons_of_neg (by simp [hp]), List.filter_cons_of_neg (by simp [hp]), List.filter_nil] at hx
        refine fin (fun z hz => ?_) hx
        rw [ht1] at hz
        simp only [List.mem_cons, List.not_mem_nil, or_false] at hz
        rcases hz with rfl | rfl <;> simp [covers, hp]
end AMT
