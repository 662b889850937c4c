/-! deps: 22i -/
/-! ===== the law: what holds between two calls ===== -/
theorem vc_203_0 (tt : Nat → Nat) (a0 : Nat) (a1 : Int64) (a3 : Nat) (h : am_H) (Q : Int32 → am_H → Prop) (Qx : String → am_H → Prop) (q :
  (am_K h a0 = 10 ∧ ∃ (Q2 : Int32 → am_H → Prop) (X2 : String → am_H → Prop), am_Ct tt 119 [.ref a0, .long a1] h (am_pI Q2 X2) ∧ (∀ x3 h1, Q2 x3 h1 →
   (am_K h1 a3 = 22 ∧ vp_in (Int32.ofNat 0) (am_N h1 a3) ∧
   Q (Int32.ofNat 0) (am_sB h1 a3 ((Int32.ofNat 0)).toNatClampNeg (x3).toInt64))) ∧ (∀ E4 h1, X2 E4 h1 → am_th (am_wp tt [] 8) 203 4 [some (.ref a0), some (.long a1), none, some (.ref a3), none] h1 (am_pI Q Qx) E4))) :
  am_Ev tt 203 0 [some (.ref a0), some (.long a1), none, some (.ref a3), none] [] h (am_pI Q Qx) := am_vc 12 [] q
theorem vc_204_0 (tt : Nat → Nat) (a0 : Nat) (a1 : Int64) (a3 : Int32) (a4 : Nat) (h : am_H) (Q : Int32 → am_H → Prop) (Qx : String → am_H → Prop) (q :
  (am_K h a0 = 10 ∧ ∃ (Q2 : Int32 → am_H → Prop) (X2 : String → am_H → Prop), am_Ct tt 120 [.ref a0, .long a1, .int a3] h (am_pI Q2 X2) ∧ (∀ x3 h1, Q2 x3 h1 →
   (am_K h1 a4 = 22 ∧ vp_in (Int32.ofNat 0) (am_N h1 a4) ∧
   Q (Int32.ofNat 0) (am_sB h1 a4 ((Int32.ofNat 0)).toNatClampNeg (x3).toInt64))) ∧ (∀ E4 h1, X2 E4 h1 → am_th (am_wp tt [] 8) 204 6 [some (.ref a0), some (.long a1), none, some (.int a3), some (.ref a4), none] h1 (am_pI Q Qx) E4))) :
  am_Ev tt 204 0 [some (.ref a0), some (.long a1), none, some (.int a3), some (.ref a4), none] [] h (am_pI Q Qx) := am_vc 13 [] q
theorem th_203 {tt : Nat → Nat} {a0 a3 : Nat} {a1 : Int64} {h : am_H} {Q : Int32 → am_H → Prop} {Qx : String → am_H → Prop} (q : Q (Int32.ofNat 1) h) : am_th (am_wp tt [] 8) 203 4 [some (.ref a0), some (.long a1), none, some (.ref a3), none] h (am_pI Q Qx) (am_ex 1) := by
  have hb : am_tb 203 = [(0, 9, 12, 13, "java/lang/ArrayIndexOutOfBoundsException")] := rfl
  unfold am_th
  rw [hb, List.filter_cons_of_pos (by simp), List.filter_nil]
  dsimp only
  rw [show List.find? (fun q : Nat × Nat × Nat × Nat × String => decide (q.2.2.2.2 = am_ex 1)) [(0, 9, 12, 13, "java/lang/ArrayIndexOutOfBoundsException")] = some (0, 9, 12, 13, "java/lang/ArrayIndexOutOfBoundsException") from by simp [am_ex]]
  exact ⟨show 4 < 5 by decide, q⟩
theorem th_204a {tt : Nat → Nat} {a0 a4 : Nat} {a1 : Int64} {a3 : Int32} {h : am_H} {Q : Int32 → am_H → Prop} {Qx : String → am_H → Prop} (q : Q (Int32.ofNat 1) h) : am_th (am_wp tt [] 8) 204 6 [some (.ref a0), some (.long a1), none, some (.int a3), some (.ref a4), none] h (am_pI Q Qx) (am_ex 1) := by
  have hb : am_tb 204 = [(0, 11, 14, 13, "java/lang/ArrayIndexOutOfBoundsException"), (0, 11, 18, 19, "java/lang/IllegalArgumentException")] := rfl
  unfold am_th
  rw [hb, List.filter_cons_of_pos (by simp), List.filter_cons_of_pos (by simp), List.filter_nil]
  dsimp only
  rw [show List.find? (fun q : Nat × Nat × Nat × Nat × String => decide (q.2.2.2.2 = am_ex 1)) [(0, 11, 14, 13, "java/lang/ArrayIndexOutOfBoundsException"), (0, 11, 18, 19, "java/lang/IllegalArgumentException")] = some (0, 11, 14, 13, "java/lang/ArrayIndexOutOfBoundsException") from by simp [am_ex]]
  exact ⟨show 5 < 6 by decide, q⟩
theorem th_204b {tt : Nat → Nat} {a0 a4 : Nat} {a1 : Int64} {a3 : Int32} {h : am_H} {Q : Int32 → am_H → Prop} {Qx : String → am_H → Prop} (q : Q (Int32.ofNat 2) h) : am_th (am_wp tt [] 8) 204 6 [some (.ref a0), some (.long a1), none, some (.int a3), some (.ref a4), none] h (am_pI Q Qx) (am_ex 2) := by
  have hb : am_tb 204 = [(0, 11, 14, 13, "java/lang/ArrayIndexOutOfBoundsException"), (0, 11, 18, 19, "java/lang/IllegalArgumentException")] := rfl
  unfold am_th
  rw [hb, List.filter_cons_of_pos (by simp), List.filter_cons_of_pos (by simp), List.filter_nil]
  dsimp only
  rw [show List.find? (fun q : Nat × Nat × Nat × Nat × String => decide (q.2.2.2.2 = am_ex 2)) [(0, 11, 14, 13, "java/lang/ArrayIndexOutOfBoundsException"), (0, 11, 18, 19, "java/lang/IllegalArgumentException")] = some (0, 11, 18, 19, "java/lang/IllegalArgumentException") from by simp [am_ex]]
  exact ⟨show 5 < 6 by decide, q⟩
section LAW
variable {tt : Nat → Nat} {P : Nat → Prop} {h h' h'' : am_H} {cd ad a0 : Nat → Nat} {bb : Nat → Nat → Nat} {wa wt m x sc ou L U V : Nat} {xs : Nat → Int32} {S S' : sS}
theorem ct_hpeek (q : RC tt P h cd bb wa wt S) (k1 : am_K h ou = 22) (k2 : am_N h ou = 1) {i : Int64} (hU : am_U h + 1 ≤ am_LC) (hV : am_V h + 6 ≤ am_LS) : am_Ct tt 203 [.ref (cd 0), .long i, .ref ou] h (am_pI (fun r h' => (inT S i = true ∧ r = Int32.ofNat 0 ∧ h' = am_sB h ou 0 (S.2.2.1 i.toNatClampNeg &&& Int32.ofNat 255).toInt64) ∨ (inT S i = false ∧ r = Int32.ofNat 1 ∧ h' = am_nX h)) no_x) := by
  refine vc_203_0 tt _ _ _ h _ _ ⟨q.1.2.2.2.1.1, _, _, ct_peek q hU hV, fun v k e => ?_, fun E k e => ?_⟩
  · obtain ⟨e1, rfl, rfl⟩ := e
    refine ⟨k1, ?_, Or.inl ⟨e1, rfl, rfl⟩⟩
    rw [k2, qi_in (by omega)]; omega
  · obtain ⟨rfl, e1, rfl⟩ := e
    exact th_203 (Or.inr ⟨e1, rfl, rfl⟩)
theorem ct_hpoke (q : RC tt P h cd bb wa wt S) (k1 : am_K h ou = 22) (k2 : am_N h ou = 1) (ho : P ou) {i : Int64} {v : Int32} (hU : am_U h + 1 ≤ am_LC) (hV : am_V h + 6 ≤ am_LS) : am_Ct tt 204 [.ref (cd 0), .long i, .int v, .ref ou] h (am_pI (fun r h' => (inT S i = true ∧ ¬ v < Int32.ofNat 0 ∧ v ≤ Int32.ofNat 255 ∧ r = Int32.ofNat 0 ∧ ∃ k, okC tt P h cd bb wa wt (f_poke S i v) k ∧ h' = am_sB k ou 0 (S.2.2.1 i.toNatClampNeg &&& Int32.ofNat 255).toInt64) ∨ (inT S i = false ∧ r = Int32.ofNat 1 ∧ h' = am_nX h) ∨ (inT S i = true ∧ (v < Int32.ofNat 0 ∨ ¬ v ≤ Int32.ofNat 255) ∧ r = Int32.ofNat 2 ∧ h' = am_nX h)) no_x) := by
  refine vc_204_0 tt _ _ _ _ h _ _ ⟨q.1.2.2.2.1.1, _, _, ct_poke q hU hV, fun w k e => ?_, fun E k e => ?_⟩
  · obtain ⟨e1, e2, e3, rfl, e4⟩ := e
    have f := e4.2.1 ou ho
    refine ⟨by rw [f.1]; exact k1, ?_, Or.inl ⟨e1, e2, e3, rfl, k, e4, rfl⟩⟩
    rw [f.2.1, k2, qi_in (by omega)]; omega
  · rcases e with ⟨rfl, e1, rfl⟩ | ⟨rfl, e1, e2, rfl⟩
    · exact th_204a (Or.inr (Or.inl ⟨e1, rfl, rfl⟩))
    · exact th_204b (Or.inr (Or.inr ⟨e1, e2, rfl, rfl⟩))
/-- cells that are not the class's -/
def PCf (m : Nat) (a0 : Nat → Nat) (sc ou : Nat) (a : Nat) : Prop := a = m ∨ (∃ k, mu k ∧ a = a0 k) ∨ a = sc ∨ a = ou
def LCl (tt : Nat → Nat) (x m : Nat) (a0 : Nat → Nat) (sc ou : Nat) (h : am_H) (S : sS) (U V : Nat) : Prop := ∃ cd bb wa wt, cd 0 = x ∧ RC tt (PCf m a0 sc ou) h cd bb wa wt S ∧ am_U h ≤ U ∧ am_V h ≤ V + 2 * pt h bb
def LMo (m : Nat) (a0 : Nat → Nat) (h : am_H) (S : sS) : Prop := ∃ ad, (∀ k, mu k → ad k = a0 k) ∧ RM (fun _ => False) h m ad S
def LEn (sc ou L : Nat) (xs : Nat → Int32) (a0 : Nat → Nat) (h : am_H) : Prop := am_K h sc = 31 ∧ am_N h sc = L ∧ (∀ j, j < L → am_A h sc j = xs j) ∧ am_K h ou = 22 ∧ am_N h ou = 1 ∧ ∀ k, mu k → ou ≠ a0 k
theorem LEn.mv (e : LEn sc ou L xs a0 h) (f1 : fr1 h h' sc) (f2 : am_K h' ou = am_K h ou) (f3 : am_N h' ou = am_N h ou) : LEn sc ou L xs a0 h' := by
  obtain ⟨e1, e2, e3, e4, e5, e6⟩ := e
  exact ⟨by rw [f1.1]; exact e1, by rw [f1.2.1]; exact e2, fun j hj => by rw [f1.2.2.1]; exact e3 j hj, by rw [f2]; exact e4, by rw [f3]; exact e5, e6⟩
/-- after a call of the class: the reference is as it was -/
theorem LMo.fr (q : LMo m a0 h S) (wf : wfS S) (f : fr (PCf m a0 sc ou) h h') : LMo m a0 h' S := by
  obtain ⟨ad, e, q⟩ := q
  exact ⟨ad, e, q.fr wf (f m (Or.inl rfl)) (fun k hk => f _ (Or.inr (Or.inl ⟨k, hk, e k hk⟩))) (fun _ _ => rfl) q.1.2.2 (fun a z => z.elim)⟩
theorem LEn.cl (e : LEn sc ou L xs a0 h) (f : fr (PCf m a0 sc ou) h h') : LEn sc ou L xs a0 h' := e.mv (f sc (Or.inr (Or.inr (Or.inl rfl)))) (f ou (Or.inr (Or.inr (Or.inr rfl)))).1 (f ou (Or.inr (Or.inr (Or.inr rfl)))).2.1
/-- a call of the reference -/
theorem lm_call2 (c : LCl tt x m a0 sc ou h S' U V) (q : LMo m a0 h S) (wf : wfS S) (e : LEn sc ou L xs a0 h) : ∃ ad P, RM P h m ad S ∧ (∀ S'' h', okM P h m ad S'' h' → LCl tt x m a0 sc ou h' S' U V ∧ LMo m a0 h' S'' ∧ LEn sc ou L xs a0 h' ∧ am_B h' ou = am_B h ou) := by
  obtain ⟨cd, bb, wa, wt, e0, rc, hU, hV⟩ := c
  obtain ⟨ad, ea, rm⟩ := q
  obtain ⟨M1, hM1⟩ := far cd 800
  obtain ⟨M2, hM2⟩ := far (fun k => bb (k / 24) (k % 24)) 48
  obtain ⟨M3, hM3⟩ := far ad 63
  have md := rm.1
  have tk := rc.2.2.2.2.2.1
  have rP := rc.2.2.2.2.2.2
  have km : ∀ k, mu k → am_K h (ad k) = (mkl.getD k (0, 0)).1 := fun k hk => ((md.2.1 k hk.1).resolve_left hk.2).2.1
  have k31 : ∀ k, mu k → am_K h (ad k) ≠ 31 := fun k hk => by
    rw [km k hk]
    have : ∀ k, k < 63 → (mkl.getD k (0, 0)).1 ≠ 31 := by decide
    exact this k hk.1
  have ne31 : ∀ a, am_K h a = 31 → a ≠ m ∧ ∀ k, mu k → a ≠ ad k := fun a ha => ⟨(fun z => by rw [z, md.1] at ha; cases ha), fun k hk z => k31 k hk (by rw [← z]; exact ha)⟩
  have hM : ∀ k, k < 63 → ad k < M1 + M2 + M3 + sc + ou + tt 0 + tt 1 + 1 := fun k hk => by have := hM3 k hk; omega
  have cKb : ∀ k, cK k → k < 800 := fun k hk => by unfold cK at hk; omega
  -- far from all
  have lt : ∀ a, CC tt cd bb a ∨ a = sc ∨ a = ou → a < M1 + M2 + M3 + sc + ou + tt 0 + tt 1 + 1 := by
    intro a ha
    rcases ha with (⟨k, hk, rfl⟩ | ⟨w, i, hw, hi, rfl⟩ | rfl | rfl) | rfl | rfl
    · have := hM1 k (cKb k hk); omega
    · have := hM2 (24 * w + i) (by omega)
      rw [show (24 * w + i) / 24 = w by omega, show (24 * w + i) % 24 = i by omega] at this
      omega
    · omega
    · omega
    · omega
    · omega
  have nm : ∀ a, CC tt cd bb a ∨ a = sc ∨ a = ou → am_K h a ≠ 0 ∧ a ≠ m ∧ ∀ k, mu k → a ≠ ad k := by
    intro a ha
    have inP : ∀ k, mu k → PCf m a0 sc ou (ad k) := fun k hk => Or.inr (Or.inl ⟨k, hk, ea k hk⟩)
    rcases ha with (⟨k, hk, rfl⟩ | ⟨w, i, hw, hi, rfl⟩ | rfl | rfl) | rfl | rfl
    · exact ⟨cl_K rc.1 k hk, fun z => (rP m (Or.inl rfl)).2.1 k z.symm, fun j hj z => (rP _ (inP j hj)).2.1 k z.symm⟩
    · refine ⟨?_, fun z => (rP m (Or.inl rfl)).2.2 w i hw hi z.symm, fun j hj z => (rP _ (inP j hj)).2.2 w i hw hi z.symm⟩
      rw [((rc.1.2.2.2.2.1 w hw).1.2.2.2.2.2.2.2.1 i hi).2.2.2.2.2.2.1]; decide
    · exact ⟨by rw [tk.2.2.2.1]; decide, ne31 _ tk.2.2.2.1⟩
    · exact ⟨by rw [tk.1]; decide, ne31 _ tk.1⟩
    · exact ⟨by rw [e.1]; decide, ne31 _ e.1⟩
    · refine ⟨by rw [e.2.2.2.1]; decide, fun z => ?_, fun k hk z => e.2.2.2.2.2 k hk (by rw [z]; exact ea k hk)⟩
      have := e.2.2.2.1
      rw [z, md.1] at this
      cases this
  have adc : ∀ k, ¬ mu k → adN ad (M1 + M2 + M3 + sc + ou + tt 0 + tt 1 + 1) k = M1 + M2 + M3 + sc + ou + tt 0 + tt 1 + 1 + k := fun k hk => adN_f hk
  have cond : ∀ a, (CC tt cd bb a ∨ a = sc ∨ a = ou) → am_K h a ≠ 0 ∧ a ≠ m ∧ ∀ k, a ≠ adN ad (M1 + M2 + M3 + sc + ou + tt 0 + tt 1 + 1) k := by
    intro a ha
    obtain ⟨n1, n2, n3⟩ := nm a ha
    refine ⟨n1, n2, fun k z => ?_⟩
    by_cases c : mu k
    · rw [adN_u c] at z; exact n3 k c z
    · rw [adc k c] at z
      have := lt a ha
      omega
  refine ⟨adN ad (M1 + M2 + M3 + sc + ou + tt 0 + tt 1 + 1), fun a => CC tt cd bb a ∨ a = sc ∨ a = ou, rm.fr wf fr1.rf (fun _ _ => fr1.rf) (fun k hk => adN_u hk) (adN_i md.2.2 hM) cond, fun S'' h' ok => ?_⟩
  obtain ⟨rm', f, hu, hv⟩ := ok
  have md' := rm'.1
  have fsc := f sc (Or.inr (Or.inl rfl))
  have fou := f ou (Or.inr (Or.inr rfl))
  refine ⟨⟨cd, bb, wa, wt, e0, rc.fr (fun a ha => f a (Or.inl ha)) (fun a ha => ?_), by rw [hu]; exact hU, ?_⟩, ⟨_, fun k hk => by rw [adN_u hk]; exact ea k hk, ⟨rm'.1, rm'.2.1, rm'.2.2.1, rm'.2.2.2.1, rm'.2.2.2.2.1, rm'.2.2.2.2.2.1, rm'.2.2.2.2.2.2.1, fun a z => z.elim⟩⟩, e.mv fsc fou.1 fou.2.1, fou.2.2.2.1⟩
  · obtain ⟨p1, p2, p3⟩ := rP a ha
    refine ⟨?_, p2, p3⟩
    rcases ha with rfl | ⟨k, hk, rfl⟩ | rfl | rfl
    · rw [md'.1]; decide
    · have := ((md'.2.1 k hk.1).resolve_left hk.2).2.1
      rw [adN_u hk, ea k hk] at this
      rw [this]; exact hk.2
    · rw [fsc.1]; exact p1
    · rw [fou.1]; exact p1
  · have : pt h' bb = pt h bb := pt1_same (fun w i hw hi => (f _ (Or.inl (Or.inr (Or.inl ⟨w, i, hw, hi, rfl⟩)))).2.1) (Nat.le_refl _)
    rw [hv, this]; exact hV
theorem lm_call (c : LCl tt x m a0 sc ou h S' U V) (q : LMo m a0 h S) (wf : wfS S) (e : LEn sc ou L xs a0 h) : ∃ ad P, RM P h m ad S ∧ (∀ S'' h', okM P h m ad S'' h' → LCl tt x m a0 sc ou h' S' U V ∧ LMo m a0 h' S'' ∧ LEn sc ou L xs a0 h') := by
  obtain ⟨ad, P, r, n⟩ := lm_call2 c q wf e
  exact ⟨ad, P, r, fun S'' h' ok => ⟨(n S'' h' ok).1, (n S'' h' ok).2.1, (n S'' h' ok).2.2.1⟩⟩
end LAW
