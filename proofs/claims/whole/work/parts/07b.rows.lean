/-! ===== rows of the small machine: what it reads and writes ===== -/
theorem am_in_of {i : Nat} {q : Cond} (h : lw_tbl[i]? = some q) (hg : goodWord q = true) : q ∈ am_wG := List.mem_filter.mpr ⟨List.mem_of_getElem? h, hg⟩
def am_tys (g : Nat → ClassId) : List (ClassId × FieldType) := [(g 21, .int), (g 22, .long), (g 23, .byte), (g 24, .boolean), (g 25, .char), (g 26, .object RX4), (g 27, .object RX1)]
theorem am_Ro_sub {B0 : Nat} {h h' : am_H} {U : State} (hR : am_Ro B0 h U) (hq : ∀ a, am_K h' a = 31 → am_K h a = 31 ∧ am_N h' a = am_N h a ∧ am_A h' a = am_A h a) : am_Ro B0 h' U := by
  intro a ha
  obtain ⟨h1, h2, h3⟩ := hq a ha
  rw [h2, h3]
  exact hR a h1
section AMR
variable {p : Program} {l : Launch} {e : Env} {R : Room} {s : State} {m : MethodId} {args : Array Value} {below : List Frame} {meth : Method} {c : Code} {H : Heap} {locs : List Loc} {cells slots : Nat} {Q : State → Prop}
variable {cc : ByteArray} {pc : Nat} {ls : Array Slot} {rest : List Value} {D : va_G} {g : Nat → ClassId} {B0 : Nat} {h h' : am_H} {o : String}
theorem am_get (hx : p.tables.exec = Jvm.exec) (hb : c.code = cc) (hts : ∀ w ∈ am_wG, w.before args s = true) (hown : s.vm.findClass o = some m.cls) (hK : va_K D am_cl (am_tys g) s) (hW : am_Wd D g B0 h H) {x ci k r : Nat} (hf : Cond.fieldLink o x (am_F ci k).1 (am_F ci k).2.1 (am_F ci k).2.2.1 ∈ am_wG) (hc : ci < 11) (hk : k < am_n ci) (hr : am_K h r = ci + 1) (hd : decode cc pc = .ok (.getfield x, 3))
    (kk : W p l e R s m args below meth c H locs cells slots Q (F0 m (pc + 3) ls (am_fv h ci k r :: rest))) : W p l e R s m args below meth c H locs cells slots Q (F0 m pc ls (.ref r :: rest)) := by
  obtain ⟨L, hL, hP, hD⟩ := hW
  have hm : r ∈ L := (hL r).mpr ⟨by omega, by omega⟩
  obtain ⟨q0, hq⟩ := am_pg (f := am_ce g h) hm
  rw [am_ceO hr hc] at hq
  exact va_get hx hb hts (am_ck_in hc) hown hK hP q0 hq (am_ck_cl ci hc) k hk (hts _ hf) (fun x h => h) (am_fs_get hk) hd kk
theorem am_put (hx : p.tables.exec = Jvm.exec) (hb : c.code = cc) (hts : ∀ w ∈ am_wG, w.before args s = true) (hown : s.vm.findClass o = some m.cls) (hK : va_K D am_cl (am_tys g) s) (hW : am_Wd D g B0 h H) (hS : va_S (am_A0 B0) s.heap H locs) {x ci k r : Nat} {v : Value} (hf : Cond.fieldLink o x (am_F ci k).1 (am_F ci k).2.1 (am_F ci k).2.2.1 ∈ am_wG) (hc : ci < 11) (hk : k < am_n ci) (hr : am_K h r = ci + 1)
    (hn : narrow (am_ty ci k) v = v) (hfi : fits (am_ty ci k) v = true) (hfin : (am_F ci k).2.2.2 = false ∨ (meth.name = "<init>" ∧ am_cn ci = o)) (he : am_ce g h' = va_up (am_ce g h) r (.inr (ci, (am_fs h ci r).set k v))) (hKe : am_K h' = am_K h) (hd : decode cc pc = .ok (.putfield x, 3))
    (kk : ∀ (H1 : Heap) (locs1 : List Loc), am_Wd D g B0 h' H1 → va_S (am_A0 B0) s.heap H1 locs1 → W p l e R s m args below meth c H1 locs1 cells slots Q (F0 m (pc + 3) ls rest)) : W p l e R s m args below meth c H locs cells slots Q (F0 m pc ls (v :: .ref r :: rest)) := by
  obtain ⟨L, hL, hP, hD⟩ := hW
  have hm : r ∈ L := (hL r).mpr ⟨by omega, by omega⟩
  obtain ⟨q0, hq⟩ := am_pg (f := am_ce g h) hm
  have hset := am_ps (e := .inr (ci, (am_fs h ci r).set k v)) hD hm hq
  rw [am_ceO hr hc] at hq
  obtain ⟨ht1, ht2, ht3⟩ := am_ck_ty hc k hk
  have go : ∀ (H1 : Heap) (locs1 : List Loc), va_P D am_cl ((va_pl L (am_ce g h)).set q0 (r, .inr (ci, (am_fs h ci r).set k v))) H1 → va_D (am_A0 B0) ((va_pl L (am_ce g h)).set q0 (r, .inr (ci, (am_fs h ci r).set k v))) → va_S (am_A0 B0) s.heap H1 locs1 → W p l e R s m args below meth c H1 locs1 cells slots Q (F0 m (pc + 3) ls rest) := by
    intro H1 locs1 p1 d1 s1
    rw [hset] at p1 d1
    exact kk H1 locs1 ⟨L, by rw [hKe]; exact hL, by rw [he]; exact p1, by rw [he]; exact d1⟩ s1
  cases hfl : (am_F ci k).2.2.2 with
  | false => exact va_put hx hb hts (am_ck_in hc) (am_ty ci) (fun j hj => (am_ck_ty hc j hj).1) (am_ck_nm ci hc) hown hK hP hD hS q0 hq (am_ck_cl ci hc) k hk (hts _ hf) (fun x h => h) hfl ht1 hn hfi (by rw [am_fs_len]; exact hk) hd go
  | true =>
    rcases hfin with q | ⟨q1, q2⟩
    · rw [hfl] at q; cases q
    · exact va_putF hx hb hts (am_ck_in hc) (am_ty ci) (fun j hj => (am_ck_ty hc j hj).1) (am_ck_nm ci hc) hown hK hP hD hS q0 hq (am_ck_cl ci hc) k hk (hts _ hf) (fun x h => h) hfl q1 (ht3.trans q2) ht1 hn hfi (by rw [am_fs_len]; exact hk) hd go
/-- arrays that are read -/
theorem am_iald (hx : p.tables.exec = Jvm.exec) (hb : c.code = cc) (hK : va_K D am_cl (am_tys g) s) (hW : am_Wd D g B0 h H) (hR : am_Ro B0 h s) (hS : va_S (am_A0 B0) s.heap H locs) {x : Int32} {r : Nat} (hr : am_K h r = 21 ∨ am_K h r = 31) (hi : vp_in x (am_N h r)) (hd : decode cc pc = .ok (.iaload, 1))
    (kk : W p l e R s m args below meth c H locs cells slots Q (F0 m (pc + 1) ls (.int (am_A h r x.toNatClampNeg) :: rest))) : W p l e R s m args below meth c H locs cells slots Q (F0 m pc ls (.int x :: .ref r :: rest)) := by
  rcases hr with hr | hr
  · obtain ⟨L, hL, hP, hD⟩ := hW
    obtain ⟨q0, hq⟩ := am_pg (f := am_ce g h) ((hL r).mpr ⟨by omega, by omega⟩)
    rw [am_ceI hr (Or.inl rfl)] at hq
    exact va_iald hx hb hK hP q0 0 hq rfl hi hd kk
  · exact va_ti hx hb (hR r hr) hS hi rfl hd kk
theorem am_bald (hx : p.tables.exec = Jvm.exec) (hb : c.code = cc) (hK : va_K D am_cl (am_tys g) s) (hW : am_Wd D g B0 h H) {x : Int32} {r : Nat} (hr : am_K h r = 23 ∨ am_K h r = 24) (hi : vp_in x (am_N h r)) (hd : decode cc pc = .ok (.baload, 1))
    (kk : W p l e R s m args below meth c H locs cells slots Q (F0 m (pc + 1) ls (.int (am_A h r x.toNatClampNeg) :: rest))) : W p l e R s m args below meth c H locs cells slots Q (F0 m pc ls (.int x :: .ref r :: rest)) := by
  obtain ⟨L, hL, hP, hD⟩ := hW
  obtain ⟨q0, hq⟩ := am_pg (f := am_ce g h) ((hL r).mpr ⟨by omega, by omega⟩)
  rcases hr with hr | hr
  · rw [am_ceI hr (Or.inr (Or.inl rfl))] at hq
    exact va_bald hx hb hK hP q0 2 hq rfl hi hd kk
  · rw [am_ceI hr (Or.inr (Or.inr (Or.inl rfl)))] at hq
    exact va_zald hx hb hK hP q0 3 hq rfl hi hd kk
theorem am_cald (hx : p.tables.exec = Jvm.exec) (hb : c.code = cc) (hK : va_K D am_cl (am_tys g) s) (hW : am_Wd D g B0 h H) {x : Int32} {r : Nat} (hr : am_K h r = 25) (hi : vp_in x (am_N h r)) (hd : decode cc pc = .ok (.caload, 1))
    (kk : W p l e R s m args below meth c H locs cells slots Q (F0 m (pc + 1) ls (.int (am_A h r x.toNatClampNeg) :: rest))) : W p l e R s m args below meth c H locs cells slots Q (F0 m pc ls (.int x :: .ref r :: rest)) := by
  obtain ⟨L, hL, hP, hD⟩ := hW
  obtain ⟨q0, hq⟩ := am_pg (f := am_ce g h) ((hL r).mpr ⟨by omega, by omega⟩)
  rw [am_ceI hr (Or.inr (Or.inr (Or.inr rfl)))] at hq
  exact va_cald hx hb hK hP q0 4 hq rfl hi hd kk
theorem am_lald (hx : p.tables.exec = Jvm.exec) (hb : c.code = cc) (hK : va_K D am_cl (am_tys g) s) (hW : am_Wd D g B0 h H) {x : Int32} {r : Nat} (hr : am_K h r = 22) (hi : vp_in x (am_N h r)) (hd : decode cc pc = .ok (.laload, 1))
    (kk : W p l e R s m args below meth c H locs cells slots Q (F0 m (pc + 1) ls (.long (am_B h r x.toNatClampNeg) :: rest))) : W p l e R s m args below meth c H locs cells slots Q (F0 m pc ls (.int x :: .ref r :: rest)) := by
  obtain ⟨L, hL, hP, hD⟩ := hW
  obtain ⟨q0, hq⟩ := am_pg (f := am_ce g h) ((hL r).mpr ⟨by omega, by omega⟩)
  rw [am_ceL hr] at hq
  exact va_lald hx hb hK hP q0 1 hq rfl hi hd kk
theorem am_aald (hx : p.tables.exec = Jvm.exec) (hb : c.code = cc) (hK : va_K D am_cl (am_tys g) s) (hW : am_Wd D g B0 h H) {x : Int32} {r : Nat} (hr : am_K h r = 26 ∨ am_K h r = 27) (hi : vp_in x (am_N h r)) (hd : decode cc pc = .ok (.aaload, 1))
    (kk : W p l e R s m args below meth c H locs cells slots Q (F0 m (pc + 1) ls (va_rf (am_C h r x.toNatClampNeg) :: rest))) : W p l e R s m args below meth c H locs cells slots Q (F0 m pc ls (.int x :: .ref r :: rest)) := by
  obtain ⟨L, hL, hP, hD⟩ := hW
  obtain ⟨q0, hq⟩ := am_pg (f := am_ce g h) ((hL r).mpr ⟨by omega, by omega⟩)
  rcases hr with hr | hr
  · rw [am_ceQ hr (Or.inl rfl)] at hq
    exact va_aldq hx hb hK hP q0 5 hq rfl hi hd kk
  · rw [am_ceQ hr (Or.inr rfl)] at hq
    exact va_aldq hx hb hK hP q0 6 hq rfl hi hd kk
theorem am_alen (hx : p.tables.exec = Jvm.exec) (hb : c.code = cc) (hK : va_K D am_cl (am_tys g) s) (hW : am_Wd D g B0 h H) (hR : am_Ro B0 h s) (hS : va_S (am_A0 B0) s.heap H locs) {r : Nat} (hr : 20 < am_K h r) (hr2 : am_K h r ≤ 27 ∨ am_K h r = 31) (hd : decode cc pc = .ok (.arraylength, 1))
    (kk : W p l e R s m args below meth c H locs cells slots Q (F0 m (pc + 1) ls (.int (Int32.ofNat (am_N h r)) :: rest))) : W p l e R s m args below meth c H locs cells slots Q (F0 m pc ls (.ref r :: rest)) := by
  rcases hr2 with hr2 | hr2
  · obtain ⟨L, hL, hP, hD⟩ := hW
    obtain ⟨q0, hq⟩ := am_pg (f := am_ce g h) ((hL r).mpr ⟨by omega, by omega⟩)
    obtain ⟨k, hk⟩ : ∃ k, am_K h r = k := ⟨_, rfl⟩
    rcases (show k = 21 ∨ k = 22 ∨ k = 23 ∨ k = 24 ∨ k = 25 ∨ k = 26 ∨ k = 27 by omega) with rfl | rfl | rfl | rfl | rfl | rfl | rfl
    · rw [am_ceI hk (by omega)] at hq; exact va_alen (t0 := 0) hx hb hK hP q0 hq rfl rfl hd kk
    · rw [am_ceL hk] at hq; exact va_alen (t0 := 1) hx hb hK hP q0 hq rfl rfl hd kk
    · rw [am_ceI hk (by omega)] at hq; exact va_alen (t0 := 2) hx hb hK hP q0 hq rfl rfl hd kk
    · rw [am_ceI hk (by omega)] at hq; exact va_alen (t0 := 3) hx hb hK hP q0 hq rfl rfl hd kk
    · rw [am_ceI hk (by omega)] at hq; exact va_alen (t0 := 4) hx hb hK hP q0 hq rfl rfl hd kk
    · rw [am_ceQ hk (by omega)] at hq; exact va_alen (t0 := 5) hx hb hK hP q0 hq rfl rfl hd kk
    · rw [am_ceQ hk (by omega)] at hq; exact va_alen (t0 := 6) hx hb hK hP q0 hq rfl rfl hd kk
  · obtain ⟨cell, h1, h2, h3, h4, h5, -, h7⟩ := hR r hr2
    exact W.alen hx hb (by rw [hS.2.1 r (Array.getElem?_eq_some_iff.mp h1).1 h7]; exact h1) h2 h5 rfl rfl hd kk
/-- arrays that are written -/
theorem am_open {r : Nat} (hW : am_Wd D g B0 h H) (h0 : am_K h r ≠ 0) (h31 : am_K h r ≠ 31) : ∃ (ws : va_W) (q0 : Nat), va_P D am_cl ws H ∧ va_D (am_A0 B0) ws ∧ ws[q0]? = some (r, am_ce g h r) ∧
    ∀ (h' : am_H) (e' : va_E) (H1 : Heap), am_ce g h' = va_up (am_ce g h) r e' → am_K h' = am_K h → va_P D am_cl (ws.set q0 (r, e')) H1 → va_D (am_A0 B0) (ws.set q0 (r, e')) → am_Wd D g B0 h' H1 := by
  obtain ⟨L, hL, hP, hD⟩ := hW
  have hm : r ∈ L := (hL r).mpr ⟨h0, h31⟩
  obtain ⟨q0, hq⟩ := am_pg (f := am_ce g h) hm
  refine ⟨va_pl L (am_ce g h), q0, hP, hD, hq, fun h' e' H1 he hKe p1 d1 => ?_⟩
  rw [am_ps (e := e') hD hm hq] at p1 d1
  exact ⟨L, by rw [hKe]; exact hL, by rw [he]; exact p1, by rw [he]; exact d1⟩
theorem am_iast (hx : p.tables.exec = Jvm.exec) (hb : c.code = cc) (hK : va_K D am_cl (am_tys g) s) (hW : am_Wd D g B0 h H) (hS : va_S (am_A0 B0) s.heap H locs) {x v : Int32} {r : Nat} (hr : am_K h r = 21) (hi : vp_in x (am_N h r)) (hd : decode cc pc = .ok (.iastore, 1))
    (kk : ∀ (H1 : Heap) (locs1 : List Loc), am_Wd D g B0 (am_sA h r x.toNatClampNeg v) H1 → va_S (am_A0 B0) s.heap H1 locs1 → W p l e R s m args below meth c H1 locs1 cells slots Q (F0 m (pc + 1) ls rest)) : W p l e R s m args below meth c H locs cells slots Q (F0 m pc ls (.int v :: .int x :: .ref r :: rest)) := by
  obtain ⟨ws, q0, hP, hD, hq, go⟩ := am_open hW (r := r) (by omega) (by omega)
  rw [am_ceI hr (by omega)] at hq
  exact va_iast hx hb hK hP hD hS q0 0 hq rfl hi hd (fun H1 locs1 p1 d1 s1 => kk H1 locs1 (go _ _ _ (am_ce_sA hr (by omega)) rfl p1 d1) s1)
theorem am_bast (hx : p.tables.exec = Jvm.exec) (hb : c.code = cc) (hK : va_K D am_cl (am_tys g) s) (hW : am_Wd D g B0 h H) (hS : va_S (am_A0 B0) s.heap H locs) {x v : Int32} {r : Nat} (hr : am_K h r = 23) (hi : vp_in x (am_N h r)) (hd : decode cc pc = .ok (.bastore, 1))
    (kk : ∀ (H1 : Heap) (locs1 : List Loc), am_Wd D g B0 (am_sA h r x.toNatClampNeg v.toInt8.toInt32) H1 → va_S (am_A0 B0) s.heap H1 locs1 → W p l e R s m args below meth c H1 locs1 cells slots Q (F0 m (pc + 1) ls rest)) : W p l e R s m args below meth c H locs cells slots Q (F0 m pc ls (.int v :: .int x :: .ref r :: rest)) := by
  obtain ⟨ws, q0, hP, hD, hq, go⟩ := am_open hW (r := r) (by omega) (by omega)
  rw [am_ceI hr (by omega)] at hq
  exact va_bast hx hb hK hP hD hS q0 2 hq rfl hi hd (fun H1 locs1 p1 d1 s1 => kk H1 locs1 (go _ _ _ (am_ce_sA hr (by omega)) rfl p1 d1) s1)
theorem am_zast (hx : p.tables.exec = Jvm.exec) (hb : c.code = cc) (hK : va_K D am_cl (am_tys g) s) (hW : am_Wd D g B0 h H) (hS : va_S (am_A0 B0) s.heap H locs) {x v : Int32} {r : Nat} (hr : am_K h r = 24) (hi : vp_in x (am_N h r)) (hd : decode cc pc = .ok (.bastore, 1))
    (kk : ∀ (H1 : Heap) (locs1 : List Loc), am_Wd D g B0 (am_sA h r x.toNatClampNeg (v &&& 1)) H1 → va_S (am_A0 B0) s.heap H1 locs1 → W p l e R s m args below meth c H1 locs1 cells slots Q (F0 m (pc + 1) ls rest)) : W p l e R s m args below meth c H locs cells slots Q (F0 m pc ls (.int v :: .int x :: .ref r :: rest)) := by
  obtain ⟨ws, q0, hP, hD, hq, go⟩ := am_open hW (r := r) (by omega) (by omega)
  rw [am_ceI hr (by omega)] at hq
  exact va_zast hx hb hK hP hD hS q0 3 hq rfl hi hd (fun H1 locs1 p1 d1 s1 => kk H1 locs1 (go _ _ _ (am_ce_sA hr (by omega)) rfl p1 d1) s1)
theorem am_cast (hx : p.tables.exec = Jvm.exec) (hb : c.code = cc) (hK : va_K D am_cl (am_tys g) s) (hW : am_Wd D g B0 h H) (hS : va_S (am_A0 B0) s.heap H locs) {x v : Int32} {r : Nat} (hr : am_K h r = 25) (hi : vp_in x (am_N h r)) (hd : decode cc pc = .ok (.castore, 1))
    (kk : ∀ (H1 : Heap) (locs1 : List Loc), am_Wd D g B0 (am_sA h r x.toNatClampNeg v.toUInt32.toUInt16.toUInt32.toInt32) H1 → va_S (am_A0 B0) s.heap H1 locs1 → W p l e R s m args below meth c H1 locs1 cells slots Q (F0 m (pc + 1) ls rest)) : W p l e R s m args below meth c H locs cells slots Q (F0 m pc ls (.int v :: .int x :: .ref r :: rest)) := by
  obtain ⟨ws, q0, hP, hD, hq, go⟩ := am_open hW (r := r) (by omega) (by omega)
  rw [am_ceI hr (by omega)] at hq
  exact va_cast hx hb hK hP hD hS q0 4 hq rfl hi hd (fun H1 locs1 p1 d1 s1 => kk H1 locs1 (go _ _ _ (am_ce_sA hr (by omega)) rfl p1 d1) s1)
theorem am_last (hx : p.tables.exec = Jvm.exec) (hb : c.code = cc) (hK : va_K D am_cl (am_tys g) s) (hW : am_Wd D g B0 h H) (hS : va_S (am_A0 B0) s.heap H locs) {x : Int32} {v : Int64} {r : Nat} (hr : am_K h r = 22) (hi : vp_in x (am_N h r)) (hd : decode cc pc = .ok (.lastore, 1))
    (kk : ∀ (H1 : Heap) (locs1 : List Loc), am_Wd D g B0 (am_sB h r x.toNatClampNeg v) H1 → va_S (am_A0 B0) s.heap H1 locs1 → W p l e R s m args below meth c H1 locs1 cells slots Q (F0 m (pc + 1) ls rest)) : W p l e R s m args below meth c H locs cells slots Q (F0 m pc ls (.long v :: .int x :: .ref r :: rest)) := by
  obtain ⟨ws, q0, hP, hD, hq, go⟩ := am_open hW (r := r) (by omega) (by omega)
  rw [am_ceL hr] at hq
  exact va_last hx hb hK hP hD hS q0 1 hq rfl hi hd (fun H1 locs1 p1 d1 s1 => kk H1 locs1 (go _ _ _ (am_ce_sB hr) rfl p1 d1) s1)
theorem am_aast (hx : p.tables.exec = Jvm.exec) (hb : c.code = cc) (hK : va_K D am_cl (am_tys g) s) (hW : am_Wd D g B0 h H) (hS : va_S (am_A0 B0) s.heap H locs) {x : Int32} {q r : Nat} (hr : (am_K h r = 26 ∧ am_K h q = 5) ∨ (am_K h r = 27 ∧ am_K h q = 2)) (hi : vp_in x (am_N h r)) (hd : decode cc pc = .ok (.aastore, 1))
    (kk : ∀ (H1 : Heap) (locs1 : List Loc), am_Wd D g B0 (am_sC h r x.toNatClampNeg (some q)) H1 → va_S (am_A0 B0) s.heap H1 locs1 → W p l e R s m args below meth c H1 locs1 cells slots Q (F0 m (pc + 1) ls rest)) : W p l e R s m args below meth c H locs cells slots Q (F0 m pc ls (.ref q :: .int x :: .ref r :: rest)) := by
  obtain ⟨L, hL, hP, hD⟩ := hW
  have hm : r ∈ L := (hL r).mpr ⟨by omega, by omega⟩
  have hm2 : q ∈ L := (hL q).mpr ⟨by omega, by omega⟩
  obtain ⟨q0, hq⟩ := am_pg (f := am_ce g h) hm
  obtain ⟨q1, hq1⟩ := am_pg (f := am_ce g h) hm2
  have hset : ∀ e' : va_E, (va_pl L (am_ce g h)).set q0 (r, e') = va_pl L (va_up (am_ce g h) r e') := fun e' => am_ps hD hm hq
  have go : ∀ (k : Nat), am_K h r = k → (k = 26 ∨ k = 27) → ∀ (H1 : Heap) (locs1 : List Loc), va_P D am_cl ((va_pl L (am_ce g h)).set q0 (r, .inl (g k, am_N h r, .inr (.inr (.inr (.inr (va_up (am_C h r) x.toNatClampNeg (some q)))))))) H1 → va_D (am_A0 B0) ((va_pl L (am_ce g h)).set q0 (r, .inl (g k, am_N h r, .inr (.inr (.inr (.inr (va_up (am_C h r) x.toNatClampNeg (some q)))))))) → va_S (am_A0 B0) s.heap H1 locs1 → W p l e R s m args below meth c H1 locs1 cells slots Q (F0 m (pc + 1) ls rest) := by
    intro k hk hk2 H1 locs1 p1 d1 s1
    rw [hset] at p1 d1
    exact kk H1 locs1 ⟨L, hL, by rw [am_ce_sC hk hk2]; exact p1, by rw [am_ce_sC hk hk2]; exact d1⟩ s1
  rcases hr with ⟨hr, hr2⟩ | ⟨hr, hr2⟩
  · rw [am_ceQ hr (Or.inl rfl)] at hq
    rw [am_ceO (ci := 4) hr2 (by decide)] at hq1
    exact va_astq hx hb hK hP hD hS q0 5 q1 4 hq rfl hq1 (am_ck_cl 4 (by decide)) hi hd (go 26 hr (Or.inl rfl))
  · rw [am_ceQ hr (Or.inr rfl)] at hq
    rw [am_ceO (ci := 1) hr2 (by decide)] at hq1
    exact va_astq hx hb hK hP hD hS q0 6 q1 1 hq rfl hq1 (am_ck_cl 1 (by decide)) hi hd (go 27 hr (Or.inr rfl))
/-- what is made -/
theorem am_fresh {L : List Nat} {q : Nat} {e' : va_E} (hL : ∀ a, a ∈ L ↔ (am_K h a ≠ 0 ∧ am_K h a ≠ 31)) (hR : am_Ro B0 h s) (hD : va_D (am_A0 B0) (va_pl L (am_ce g h) ++ [(q, e')])) : am_K h q = 0 ∧ q ∉ L := by
  have hq : q ∉ L := va_pl_fresh2 (X := []) (f := am_ce g h) (e := e') (by simpa using hD)
  have hA : am_A0 B0 q := hD.2 (va_pl L (am_ce g h)).length (q, e') (by simp)
  refine ⟨?_, hq⟩
  by_cases h31 : am_K h q = 31
  · obtain ⟨cell, -, -, -, -, -, -, h7⟩ := hR q h31
    exact absurd hA h7
  · by_cases h0 : am_K h q = 0
    · exact h0
    · exact absurd ((hL q).mpr ⟨h0, h31⟩) hq
theorem am_newW {L : List Nat} {q k : Nat} {e' : va_E} {H1 : Heap} (hL : ∀ a, a ∈ L ↔ (am_K h a ≠ 0 ∧ am_K h a ≠ 31)) (hq : q ∉ L) (hk : k ≠ 0 ∧ k ≠ 31) (hK' : am_K h' = va_up (am_K h) q k) (he : am_ce g h' = va_up (am_ce g h) q e') (hP : va_P D am_cl (va_pl L (am_ce g h) ++ [(q, e')]) H1) (hD : va_D (am_A0 B0) (va_pl L (am_ce g h) ++ [(q, e')])) : am_Wd D g B0 h' H1 := by
  rw [va_pl_push hq, ← he] at hP hD
  refine ⟨L ++ [q], fun a => ?_, hP, hD⟩
  rw [hK', List.mem_append, List.mem_singleton]
  by_cases ha : a = q
  · subst ha
    simp [va_up, hk]
  · rw [show va_up (am_K h) q k a = am_K h a from if_neg ha, hL]
    simp [ha]
end AMR
