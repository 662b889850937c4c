/-! ===== the abstract heap's cells and the worlds of the kit ===== -/
theorem am_fs_len (h : am_H) (ci a : Nat) : (am_fs h ci a).length = am_n ci := by simp [am_fs]
theorem am_fs_get {h : am_H} {ci a k : Nat} (hk : k < am_n ci) : (am_fs h ci a)[k]? = some (am_fv h ci k a) := by simp [am_fs, hk]
theorem am_ceO {g : Nat → ClassId} {h : am_H} {a ci : Nat} (hk : am_K h a = ci + 1) (hc : ci < 11) : am_ce g h a = .inr (ci, am_fs h ci a) := by
  unfold am_ce
  rw [if_pos (by omega), hk]
  rfl
theorem am_ceI {g : Nat → ClassId} {h : am_H} {a k : Nat} (hk : am_K h a = k) (hc : k = 21 ∨ k = 23 ∨ k = 24 ∨ k = 25) : am_ce g h a = .inl (g k, am_N h a, .inl (am_A h a)) := by
  subst hk
  unfold am_ce
  rw [if_neg (by omega), if_neg (by omega), if_neg (by omega)]
theorem am_ceL {g : Nat → ClassId} {h : am_H} {a : Nat} (hk : am_K h a = 22) : am_ce g h a = .inl (g 22, am_N h a, .inr (.inl (am_B h a))) := by
  unfold am_ce
  rw [if_neg (by omega), if_pos hk]
theorem am_ceQ {g : Nat → ClassId} {h : am_H} {a k : Nat} (hk : am_K h a = k) (hc : k = 26 ∨ k = 27) : am_ce g h a = .inl (g k, am_N h a, .inr (.inr (.inr (.inr (am_C h a))))) := by
  subst hk
  unfold am_ce
  rw [if_neg (by omega), if_neg (by omega), if_pos hc]
/-- a cell depends on what it holds alone -/
theorem am_ce_same {g : Nat → ClassId} {h h' : am_H} {b : Nat} (hK : am_K h' b = am_K h b) (hI : ∀ c j, am_I h' c j b = am_I h c j b) (hJ : ∀ c j, am_J h' c j b = am_J h c j b) (hR : ∀ c j, am_R h' c j b = am_R h c j b) (hN : am_N h' b = am_N h b) (hA : am_A h' b = am_A h b) (hB : am_B h' b = am_B h b) (hC : am_C h' b = am_C h b) : am_ce g h' b = am_ce g h b := by
  have hf : ∀ c, am_fs h' c b = am_fs h c b := by
    intro c
    unfold am_fs
    refine List.map_congr_left fun k _ => ?_
    unfold am_fv
    rw [hI, hJ, hR]
  unfold am_ce
  rw [hK, hN, hA, hB, hC, hf]
theorem am_u3_ne {α : Type} {f : Nat → Nat → Nat → α} {ci k a c j b : Nat} {v : α} (h : b ≠ a) : am_u3 f ci k a v c j b = f c j b := by
  unfold am_u3
  rw [if_neg (fun z => h z.2.2)]
theorem am_u3_nk {α : Type} {f : Nat → Nat → Nat → α} {ci k a c j b : Nat} {v : α} (h : j ≠ k) : am_u3 f ci k a v c j b = f c j b := by
  unfold am_u3
  rw [if_neg (fun z => h z.2.1)]
theorem am_u3_eq {α : Type} {f : Nat → Nat → Nat → α} {ci k a : Nat} {v : α} : am_u3 f ci k a v ci k a = v := by
  unfold am_u3
  rw [if_pos ⟨rfl, rfl, rfl⟩]
theorem am_u2_ne {α : Type} {f : Nat → Nat → α} {a i b : Nat} {v : α} (h : b ≠ a) : am_u2 f a i v b = f b := by
  funext j
  unfold am_u2
  rw [if_neg (fun z => h z.1)]
theorem am_u2_eq {f : Nat → Nat → Int32} {a i : Nat} {v : Int32} : am_u2 f a i v a = upd (f a) i v := by
  funext j
  unfold am_u2 upd
  by_cases h : j = i
  · rw [if_pos ⟨rfl, h⟩, if_pos h]
  · rw [if_neg (fun z => h z.2), if_neg h]
theorem am_u2_eqL {f : Nat → Nat → Int64} {a i : Nat} {v : Int64} : am_u2 f a i v a = vp_updL (f a) i v := by
  funext j
  unfold am_u2 vp_updL
  by_cases h : j = i
  · rw [if_pos ⟨rfl, h⟩, if_pos h]
  · rw [if_neg (fun z => h z.2), if_neg h]
theorem am_u2_eqQ {f : Nat → Nat → Option Nat} {a i : Nat} {v : Option Nat} : am_u2 f a i v a = va_up (f a) i v := by
  funext j
  unfold am_u2 va_up
  by_cases h : j = i
  · rw [if_pos ⟨rfl, h⟩, if_pos h]
  · rw [if_neg (fun z => h z.2), if_neg h]
/-- fields behind a store -/
theorem am_fs_set {h h' : am_H} {ci a k : Nat} {v : Value} (hk : k < am_n ci) (hv : am_fv h' ci k a = v) (ho : ∀ j, j ≠ k → am_fv h' ci j a = am_fv h ci j a) : am_fs h' ci a = (am_fs h ci a).set k v := by
  refine List.ext_getElem? fun j => ?_
  by_cases hj : j < am_n ci
  · rw [am_fs_get hj]
    by_cases hjk : j = k
    · subst hjk
      rw [List.getElem?_set_self (by rw [am_fs_len]; exact hj), hv]
    · rw [List.getElem?_set_ne (Ne.symm hjk), am_fs_get hj, ho j hjk]
  · rw [List.getElem?_eq_none (by rw [am_fs_len]; omega), List.getElem?_eq_none (by rw [List.length_set, am_fs_len]; omega)]
theorem am_ce_sI {g : Nat → ClassId} {h : am_H} {ci k r : Nat} {x : Int32} (hK : am_K h r = ci + 1) (hc : ci < 11) (hk : k < am_n ci) (ht : am_t ci k = 0 ∨ am_t ci k = 3) : am_ce g (am_sI h ci k r x) = va_up (am_ce g h) r (.inr (ci, (am_fs h ci r).set k (.int x))) := by
  funext b
  unfold va_up
  by_cases hb : b = r
  · subst hb
    rw [if_pos rfl, am_ceO (h := am_sI h ci k b x) hK hc]
    refine congrArg (fun z => Sum.inr (ci, z)) (am_fs_set hk ?_ fun j hj => ?_)
    · unfold am_fv
      rcases ht with ht | ht <;> rw [ht] <;> exact congrArg Value.int am_u3_eq
    · unfold am_fv
      rw [show am_I (am_sI h ci k b x) ci j b = am_I h ci j b from am_u3_nk hj]
      rfl
  · rw [if_neg hb]
    exact am_ce_same rfl (fun c j => am_u3_ne hb) (fun _ _ => rfl) (fun _ _ => rfl) rfl rfl rfl rfl
theorem am_ce_sJ {g : Nat → ClassId} {h : am_H} {ci k r : Nat} {x : Int64} (hK : am_K h r = ci + 1) (hc : ci < 11) (hk : k < am_n ci) (ht : am_t ci k = 1) : am_ce g (am_sJ h ci k r x) = va_up (am_ce g h) r (.inr (ci, (am_fs h ci r).set k (.long x))) := by
  funext b
  unfold va_up
  by_cases hb : b = r
  · subst hb
    rw [if_pos rfl, am_ceO (h := am_sJ h ci k b x) hK hc]
    refine congrArg (fun z => Sum.inr (ci, z)) (am_fs_set hk ?_ fun j hj => ?_)
    · unfold am_fv
      rw [ht]
      exact congrArg Value.long am_u3_eq
    · unfold am_fv
      rw [show am_J (am_sJ h ci k b x) ci j b = am_J h ci j b from am_u3_nk hj]
      rfl
  · rw [if_neg hb]
    exact am_ce_same rfl (fun _ _ => rfl) (fun c j => am_u3_ne hb) (fun _ _ => rfl) rfl rfl rfl rfl
theorem am_ce_sR {g : Nat → ClassId} {h : am_H} {ci k r : Nat} {x : Option Nat} (hK : am_K h r = ci + 1) (hc : ci < 11) (hk : k < am_n ci) (ht : am_t ci k = 2) : am_ce g (am_sR h ci k r x) = va_up (am_ce g h) r (.inr (ci, (am_fs h ci r).set k (va_rf x))) := by
  funext b
  unfold va_up
  by_cases hb : b = r
  · subst hb
    rw [if_pos rfl, am_ceO (h := am_sR h ci k b x) hK hc]
    refine congrArg (fun z => Sum.inr (ci, z)) (am_fs_set hk ?_ fun j hj => ?_)
    · unfold am_fv
      rw [ht]
      exact congrArg va_rf am_u3_eq
    · unfold am_fv
      rw [show am_R (am_sR h ci k b x) ci j b = am_R h ci j b from am_u3_nk hj]
      rfl
  · rw [if_neg hb]
    exact am_ce_same rfl (fun _ _ => rfl) (fun _ _ => rfl) (fun c j => am_u3_ne hb) rfl rfl rfl rfl
theorem am_ce_sA {g : Nat → ClassId} {h : am_H} {r i k : Nat} {x : Int32} (hK : am_K h r = k) (hc : k = 21 ∨ k = 23 ∨ k = 24 ∨ k = 25) : am_ce g (am_sA h r i x) = va_up (am_ce g h) r (.inl (g k, am_N h r, .inl (upd (am_A h r) i x))) := by
  funext b
  unfold va_up
  by_cases hb : b = r
  · subst hb
    rw [if_pos rfl, am_ceI (h := am_sA h b i x) hK hc]
    exact congrArg (fun z => Sum.inl (g k, am_N h b, Sum.inl z)) am_u2_eq
  · rw [if_neg hb]
    exact am_ce_same rfl (fun _ _ => rfl) (fun _ _ => rfl) (fun _ _ => rfl) rfl (am_u2_ne hb) rfl rfl
theorem am_ce_cA {g : Nat → ClassId} {h : am_H} {r k : Nat} {f : Nat → Int32} (hK : am_K h r = k) (hc : k = 21 ∨ k = 23 ∨ k = 24 ∨ k = 25) : am_ce g (am_cA h r f) = va_up (am_ce g h) r (.inl (g k, am_N h r, .inl f)) := by
  funext b
  unfold va_up
  by_cases hb : b = r
  · subst hb
    rw [if_pos rfl, am_ceI (h := am_cA h b f) hK hc]
    refine congrArg (fun z => Sum.inl (g k, am_N h b, Sum.inl z)) ?_
    show va_up (am_A h) b f b = f
    unfold va_up
    rw [if_pos rfl]
  · rw [if_neg hb]
    refine am_ce_same rfl (fun _ _ => rfl) (fun _ _ => rfl) (fun _ _ => rfl) rfl ?_ rfl rfl
    show va_up (am_A h) r f b = am_A h b
    unfold va_up
    rw [if_neg hb]
theorem am_ce_sB {g : Nat → ClassId} {h : am_H} {r i : Nat} {x : Int64} (hK : am_K h r = 22) : am_ce g (am_sB h r i x) = va_up (am_ce g h) r (.inl (g 22, am_N h r, .inr (.inl (vp_updL (am_B h r) i x)))) := by
  funext b
  unfold va_up
  by_cases hb : b = r
  · subst hb
    rw [if_pos rfl, am_ceL (h := am_sB h b i x) hK]
    exact congrArg (fun z => Sum.inl (g 22, am_N h b, Sum.inr (Sum.inl z))) am_u2_eqL
  · rw [if_neg hb]
    exact am_ce_same rfl (fun _ _ => rfl) (fun _ _ => rfl) (fun _ _ => rfl) rfl rfl (am_u2_ne hb) rfl
theorem am_ce_sC {g : Nat → ClassId} {h : am_H} {r i k : Nat} {x : Option Nat} (hK : am_K h r = k) (hc : k = 26 ∨ k = 27) : am_ce g (am_sC h r i x) = va_up (am_ce g h) r (.inl (g k, am_N h r, .inr (.inr (.inr (.inr (va_up (am_C h r) i x)))))) := by
  funext b
  by_cases hb : b = r
  · subst hb
    rw [show va_up (am_ce g h) b (.inl (g k, am_N h b, .inr (.inr (.inr (.inr (va_up (am_C h b) i x)))))) b = _ from if_pos rfl, am_ceQ (h := am_sC h b i x) hK hc]
    exact congrArg (fun z => Sum.inl (g k, am_N h b, Sum.inr (Sum.inr (Sum.inr (Sum.inr z))))) am_u2_eqQ
  · rw [show va_up (am_ce g h) r (.inl (g k, am_N h r, .inr (.inr (.inr (.inr (va_up (am_C h r) i x)))))) b = am_ce g h b from if_neg hb]
    exact am_ce_same rfl (fun _ _ => rfl) (fun _ _ => rfl) (fun _ _ => rfl) rfl rfl rfl (am_u2_ne hb)
theorem am_ce_nO {g : Nat → ClassId} {h : am_H} {q ci : Nat} (hc : ci < 11) : am_ce g (am_nO h q ci) = va_up (am_ce g h) q (.inr (ci, am_fs (am_nO h q ci) ci q)) := by
  funext b
  by_cases hb : b = q
  · subst hb
    rw [show va_up (am_ce g h) b (.inr (ci, am_fs (am_nO h b ci) ci b)) b = _ from if_pos rfl]
    exact am_ceO (show va_up (am_K h) b (ci + 1) b = ci + 1 from if_pos rfl) hc
  · rw [show va_up (am_ce g h) q (.inr (ci, am_fs (am_nO h q ci) ci q)) b = am_ce g h b from if_neg hb]
    exact am_ce_same (show va_up (am_K h) q (ci + 1) b = _ from if_neg hb) (fun _ _ => if_neg hb) (fun _ _ => if_neg hb) (fun _ _ => if_neg hb) rfl rfl rfl rfl
theorem am_ce_nA {g : Nat → ClassId} {h : am_H} {q k n : Nat} : am_ce g (am_nA h q k n) = va_up (am_ce g h) q (am_ce g (am_nA h q k n) q) := by
  funext b
  by_cases hb : b = q
  · subst hb
    rw [show va_up (am_ce g h) b (am_ce g (am_nA h b k n) b) b = _ from if_pos rfl]
  · rw [show va_up (am_ce g h) q (am_ce g (am_nA h q k n) q) b = am_ce g h b from if_neg hb]
    exact am_ce_same (show va_up (am_K h) q k b = _ from if_neg hb) (fun _ _ => rfl) (fun _ _ => rfl) (fun _ _ => rfl) (show va_up (am_N h) q n b = _ from if_neg hb) (show va_up (am_A h) q (fun _ => 0) b = _ from if_neg hb) (show va_up (am_B h) q (fun _ => 0) b = _ from if_neg hb) (show va_up (am_C h) q (fun _ => none) b = _ from if_neg hb)
/-! the world -/
def am_A0 (B0 : Nat) : Nat → Prop := fun q => B0 ≤ q
def am_Wd (D : va_G) (g : Nat → ClassId) (B0 : Nat) (h : am_H) (H : Heap) : Prop := ∃ L : List Nat, (∀ a, a ∈ L ↔ (am_K h a ≠ 0 ∧ am_K h a ≠ 31)) ∧ va_P D am_cl (va_pl L (am_ce g h)) H ∧ va_D (am_A0 B0) (va_pl L (am_ce g h))
def am_Ro (B0 : Nat) (h : am_H) (U : State) : Prop := ∀ a, am_K h a = 31 → va_T .int a (am_N h a) (fun j => .int (am_A h a j)) (am_A0 B0) U U.heap
theorem am_pg {L : List Nat} {f : Nat → va_E} {a : Nat} (h : a ∈ L) : ∃ k : Nat, (va_pl L f)[k]? = some (a, f a) := by
  obtain ⟨k, hk⟩ := va_pl_get (X := []) (f := f) h
  exact ⟨k, by simpa using hk⟩
theorem am_ps {A : Nat → Prop} {L : List Nat} {f : Nat → va_E} {a k : Nat} {e : va_E} (hD : va_D A (va_pl L f)) (h : a ∈ L) (hk : (va_pl L f)[k]? = some (a, f a)) : (va_pl L f).set k (a, e) = va_pl L (va_up f a e) := by
  have := va_pl_set (X := []) (e := e) (by simpa using hD) h (by simpa using hk)
  simpa using this
