/-! deps: 15a -/
/-! ===== the class's object and what it holds ===== -/
def c_tp (w : Nat) : Nat := 10 + 2 * w
def c_tb (w : Nat) : Nat := 11 + 2 * w
/-- kinds and lengths of the rows of StreamsReader, by field -/
def skl : List (Nat × Nat) := [(0, 0), (0, 0), (21, 6), (21, 6), (21, 6), (21, 6), (21, 6), (0, 0), (21, 24), (21, 24), (21, 24), (21, 3), (21, 3), (21, 3), (24, 3)]
/-- the class's helpers -/
def cw_s (h : am_H) (cd : Nat → Nat) : Prop := am_K h (cd 20) = 9 ∧ am_R h 8 0 (cd 20) = some (cd 21) ∧ am_K h (cd 21) = 26 ∧ am_N h (cd 21) = 24 ∧ am_R h 8 1 (cd 20) = some (cd 22) ∧ am_K h (cd 22) = 24 ∧ am_N h (cd 22) = 24
def cr_s (h : am_H) (cd : Nat → Nat) : Prop := am_K h (cd 30) = 8 ∧ am_R h 7 0 (cd 30) = some (cd 31) ∧ am_R h 7 1 (cd 30) = some (cd 32) ∧ am_R h 7 2 (cd 30) = some (cd 33) ∧ am_K h (cd 31) = 3 ∧ am_K h (cd 32) = 6 ∧ am_R h 5 0 (cd 32) = some (cd 31) ∧
  (∀ k, k < 15 → ((skl.getD k (0, 0)).1 = 0 ∨ (am_R h 5 k (cd 32) = some (cd (40 + k)) ∧ am_K h (cd (40 + k)) = (skl.getD k (0, 0)).1 ∧ am_N h (cd (40 + k)) = (skl.getD k (0, 0)).2))) ∧ am_K h (cd 33) = 4 ∧ am_R h 3 0 (cd 33) = some (cd 31) ∧ am_R h 3 1 (cd 33) = some (cd 34) ∧ am_K h (cd 34) = 24 ∧ am_N h (cd 34) = 24
/-- the codes that are in use -/
def cK (k : Nat) : Prop := k = 0 ∨ (10 ≤ k ∧ k ≤ 13) ∨ (20 ≤ k ∧ k ≤ 22) ∨ (30 ≤ k ∧ k ≤ 34) ∨ (42 ≤ k ∧ k ≤ 46) ∨ (48 ≤ k ∧ k ≤ 54) ∨ (100 ≤ k ∧ k ≤ 102) ∨ (110 ≤ k ∧ k ≤ 157) ∨ (200 ≤ k ∧ k ≤ 217) ∨ (600 ≤ k ∧ k ≤ 602) ∨ (610 ≤ k ∧ k ≤ 657) ∨ (700 ≤ k ∧ k ≤ 717)
theorem cK_en {w i : Nat} (h : w < 2) (h2 : i < 24) : cK (c_en w i) := by
  rcases (show w = 0 ∨ w = 1 by omega) with rfl | rfl <;> (unfold cK c_en; omega)
theorem cK_un {w i : Nat} (h : w < 2) (h2 : i < 24) : cK (c_un w i) := by
  rcases (show w = 0 ∨ w = 1 by omega) with rfl | rfl <;> (unfold cK c_un; omega)
theorem cK_bk {w i : Nat} (h : w < 2) (h2 : i < 6) : cK (c_bk w i) := by
  rcases (show w = 0 ∨ w = 1 by omega) with rfl | rfl <;> (unfold cK c_bk; omega)
theorem cK_bi {w i : Nat} (h : w < 2) (h2 : i < 6) : cK (c_bi w i) := by
  rcases (show w = 0 ∨ w = 1 by omega) with rfl | rfl <;> (unfold cK c_bi; omega)
theorem cK_bd {w i : Nat} (h : w < 2) (h2 : i < 6) : cK (c_bd w i) := by
  rcases (show w = 0 ∨ w = 1 by omega) with rfl | rfl <;> (unfold cK c_bd; omega)
theorem cK_ar {w : Nat} (h : w < 2) : cK (c_ar w) := by
  rcases (show w = 0 ∨ w = 1 by omega) with rfl | rfl <;> (unfold cK c_ar; omega)
theorem cK_ea {w : Nat} (h : w < 2) : cK (c_ea w) := by
  rcases (show w = 0 ∨ w = 1 by omega) with rfl | rfl <;> (unfold cK c_ea; omega)
theorem cK_ba {w : Nat} (h : w < 2) : cK (c_ba w) := by
  rcases (show w = 0 ∨ w = 1 by omega) with rfl | rfl <;> (unfold cK c_ba; omega)
theorem cK_tp {w : Nat} (h : w < 2) : cK (c_tp w) := by
  rcases (show w = 0 ∨ w = 1 by omega) with rfl | rfl <;> (unfold cK c_tp; omega)
theorem cK_tb {w : Nat} (h : w < 2) : cK (c_tb w) := by
  rcases (show w = 0 ∨ w = 1 by omega) with rfl | rfl <;> (unfold cK c_tb; omega)
/-- addresses that never meet -/
def ci_s (cd : Nat → Nat) (bb : Nat → Nat → Nat) : Prop := (∀ k l, cd k = cd l → k = l) ∧ (∀ w i w' i', w < 2 → i < 24 → w' < 2 → i' < 24 → bb w i = bb w' i' → w = w' ∧ i = i') ∧ (∀ w i k, w < 2 → i < 24 → cK k → bb w i ≠ cd k)
def cx_s (h : am_H) (cd : Nat → Nat) (wa wt : Nat) : Prop := am_K h (cd 0) = 10 ∧ am_R h 9 0 (cd 0) = some (cd (c_ar wa)) ∧ am_R h 9 1 (cd 0) = some (cd (c_ar (1 - wa))) ∧ am_R h 9 2 (cd 0) = some (cd (c_tp wt)) ∧ am_R h 9 3 (cd 0) = some (cd (c_tp (1 - wt))) ∧ am_R h 9 4 (cd 0) = some (cd 20) ∧ am_R h 9 5 (cd 0) = some (cd 30)
def cl_s (h : am_H) (cd : Nat → Nat) (bb : Nat → Nat → Nat) (wa wt : Nat) : Prop := wa < 2 ∧ wt < 2 ∧ ci_s cd bb ∧ cx_s h cd wa wt ∧ (∀ w, w < 2 → car_s h cd bb w ∧ tp_s h (cd (c_tp w)) (cd (c_tb w))) ∧ cw_s h cd ∧ cr_s h cd
/-- others' cells -/
def fr1 (h h' : am_H) (a : Nat) : Prop := am_K h' a = am_K h a ∧ am_N h' a = am_N h a ∧ am_A h' a = am_A h a ∧ am_B h' a = am_B h a ∧ am_C h' a = am_C h a ∧ (∀ c k, am_I h' c k a = am_I h c k a) ∧ (∀ c k, am_J h' c k a = am_J h c k a) ∧ (∀ c k, am_R h' c k a = am_R h c k a)
def fr (P : Nat → Prop) (h h' : am_H) : Prop := ∀ a, P a → fr1 h h' a
theorem fr1.rf {h : am_H} {a : Nat} : fr1 h h a := ⟨rfl, rfl, rfl, rfl, rfl, fun _ _ => rfl, fun _ _ => rfl, fun _ _ => rfl⟩
theorem fr1.tr {h h' h'' : am_H} {a : Nat} (p : fr1 h h' a) (q : fr1 h' h'' a) : fr1 h h'' a := by
  obtain ⟨p1, p2, p3, p4, p5, p6, p7, p8⟩ := p
  obtain ⟨q1, q2, q3, q4, q5, q6, q7, q8⟩ := q
  exact ⟨q1.trans p1, q2.trans p2, q3.trans p3, q4.trans p4, q5.trans p5, fun c k => (q6 c k).trans (p6 c k), fun c k => (q7 c k).trans (p7 c k), fun c k => (q8 c k).trans (p8 c k)⟩
theorem fr.rf {P : Nat → Prop} {h : am_H} : fr P h h := fun _ _ => fr1.rf
theorem fr.tr {P : Nat → Prop} {h h' h'' : am_H} (p : fr P h h') (q : fr P h' h'') : fr P h h'' := fun a ha => (p a ha).tr (q a ha)
section FR
variable {h : am_H} {a b c k i : Nat}
theorem fr1.sI {v : Int32} (e : a ≠ b) : fr1 h (am_sI h c k b v) a := ⟨rfl, rfl, rfl, rfl, rfl, fun c' k' => by simp only [am_hs]; rw [if_neg (fun z => e z.2.2)], fun _ _ => rfl, fun _ _ => rfl⟩
theorem fr1.sJ {v : Int64} (e : a ≠ b) : fr1 h (am_sJ h c k b v) a := ⟨rfl, rfl, rfl, rfl, rfl, fun _ _ => rfl, fun c' k' => by simp only [am_hs]; rw [if_neg (fun z => e z.2.2)], fun _ _ => rfl⟩
theorem fr1.sR {v : Option Nat} (e : a ≠ b) : fr1 h (am_sR h c k b v) a := ⟨rfl, rfl, rfl, rfl, rfl, fun _ _ => rfl, fun _ _ => rfl, fun c' k' => by simp only [am_hs]; rw [if_neg (fun z => e z.2.2)]⟩
theorem fr1.sA {v : Int32} (e : a ≠ b) : fr1 h (am_sA h b i v) a := ⟨rfl, rfl, by funext j; simp only [am_hs]; rw [if_neg (fun z => e z.1)], rfl, rfl, fun _ _ => rfl, fun _ _ => rfl, fun _ _ => rfl⟩
theorem fr1.sB {v : Int64} (e : a ≠ b) : fr1 h (am_sB h b i v) a := ⟨rfl, rfl, rfl, by funext j; simp only [am_hs]; rw [if_neg (fun z => e z.1)], rfl, fun _ _ => rfl, fun _ _ => rfl, fun _ _ => rfl⟩
theorem fr1.sC {v : Option Nat} (e : a ≠ b) : fr1 h (am_sC h b i v) a := ⟨rfl, rfl, rfl, rfl, by funext j; simp only [am_hs]; rw [if_neg (fun z => e z.1)], fun _ _ => rfl, fun _ _ => rfl, fun _ _ => rfl⟩
theorem fr1.cA {f : Nat → Int32} (e : a ≠ b) : fr1 h (am_cA h b f) a := ⟨rfl, rfl, by simp only [am_hs]; rw [if_neg e], rfl, rfl, fun _ _ => rfl, fun _ _ => rfl, fun _ _ => rfl⟩
theorem fr1.nA {n : Nat} (e : a ≠ b) : fr1 h (am_nA h b k n) a := by
  have up : ∀ {α : Type} (f : Nat → α) (v : α), va_up f b v a = f a := fun f v => by rw [va_up, if_neg e]
  exact ⟨up _ _, up _ _, up _ _, up _ _, up _ _, fun _ _ => rfl, fun _ _ => rfl, fun _ _ => rfl⟩
theorem fr1.nX : fr1 h (am_nX h) a := fr1.rf
end FR
/-- THE CLASS at S; P: others' cells -/
def RC (tt : Nat → Nat) (P : Nat → Prop) (h : am_H) (cd : Nat → Nat) (bb : Nat → Nat → Nat) (wa wt : Nat) (S : sS) : Prop :=
  cl_s h cd bb wa wt ∧ car_v h cd bb wa S.1 ∧ wfA S.1 ∧ (am_I h 6 1 (cd (c_tp wt)) = Int32.ofNat S.2.1 ∧ S.2.1 ≤ 5000 ∧ (∀ j, j < S.2.1 → am_A h (cd (c_tb wt)) j = S.2.2.1 j ∧ by8 (S.2.2.1 j) = S.2.2.1 j)) ∧ am_I h 2 3 (cd 31) = S.2.2.2 ∧ tk_s tt h ∧ (∀ a, P a → am_K h a ≠ 0 ∧ (∀ k, a ≠ cd k) ∧ ∀ w i, w < 2 → i < 24 → a ≠ bb w i)
section CL
variable {tt : Nat → Nat} {P : Nat → Prop} {h h' : am_H} {cd : Nat → Nat} {bb : Nat → Nat → Nat} {wa wt : Nat} {S : sS}
theorem cl_s.t (s : cl_s h cd bb wa wt) (hK : am_K h' = am_K h) (hN : am_N h' = am_N h) (hR : am_R h' = am_R h) (hC : am_C h' = am_C h) : cl_s h' cd bb wa wt := by
  unfold cl_s cx_s car_s ce_s cb_s tp_s cw_s cr_s
  rw [hK, hN, hR, hC]
  exact s
theorem ce_v.same {e u b : Nat} {v : sE} {p : Prop} (q : ce_v h e u b v p) (hI : ∀ k, am_I h' 4 k e = am_I h 4 k e) (hJ : am_J h' 4 8 e = am_J h 4 8 e) (hu : am_A h' u = am_A h u) (hb : am_A h' b = am_A h b) (hN : am_N h' b = am_N h b) : ce_v h' e u b v p := by
  unfold ce_v
  simp only [hI, hJ, hu, hb, hN]
  exact q
theorem cb_v.same {k ka da : Nat} {v : sB} (q : cb_v h k ka da v) (hI : ∀ f, am_I h' 1 f k = am_I h 1 f k) (ha : am_A h' ka = am_A h ka) (hd : am_A h' da = am_A h da) : cb_v h' k ka da v := by
  unfold cb_v
  simp only [hI, ha, hd]
  exact q
/-- an entry's address is its own -/
theorem ci_en (i : ci_s cd bb) {w j k : Nat} : (cd (c_en w j) = cd (c_en w k)) = (j = k) := propext ⟨fun e => by have := i.1 _ _ e; unfold c_en at this; omega, fun e => by rw [e]⟩
theorem ci_un (i : ci_s cd bb) {w j k : Nat} : (cd (c_un w j) = cd (c_un w k)) = (j = k) := propext ⟨fun e => by have := i.1 _ _ e; unfold c_un at this; omega, fun e => by rw [e]⟩
theorem ci_bk (i : ci_s cd bb) {w j k : Nat} : (cd (c_bk w j) = cd (c_bk w k)) = (j = k) := propext ⟨fun e => by have := i.1 _ _ e; unfold c_bk at this; omega, fun e => by rw [e]⟩
theorem ci_bi (i : ci_s cd bb) {w j k : Nat} : (cd (c_bi w j) = cd (c_bi w k)) = (j = k) := propext ⟨fun e => by have := i.1 _ _ e; unfold c_bi at this; omega, fun e => by rw [e]⟩
theorem ci_bd (i : ci_s cd bb) {w j k : Nat} : (cd (c_bd w j) = cd (c_bd w k)) = (j = k) := propext ⟨fun e => by have := i.1 _ _ e; unfold c_bd at this; omega, fun e => by rw [e]⟩
theorem ci_id (i : ci_s cd bb) {w j k : Nat} : (cd (c_bi w j) = cd (c_bd w k)) = False := eq_false fun e => by have := i.1 _ _ e; unfold c_bi c_bd at this; omega
theorem ci_di (i : ci_s cd bb) {w j k : Nat} : (cd (c_bd w j) = cd (c_bi w k)) = False := eq_false fun e => by have := i.1 _ _ e; unfold c_bi c_bd at this; omega
/-- rows of different kinds are not one -/
theorem ne_K {a b : Nat} (e : am_K h a ≠ am_K h b) : a ≠ b := fun z => e (by rw [z])
theorem tk_t (q : tk_s tt h) (hK : am_K h' = am_K h) (hN : am_N h' = am_N h) (hA : ∀ a, am_K h a = 31 → am_A h' a = am_A h a) : tk_s tt h' := by
  unfold tk_s
  rw [hK, hN, hA _ q.1, hA _ q.2.2.2.1]
  exact q
end CL
