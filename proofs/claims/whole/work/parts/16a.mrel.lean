/-! deps: 15j -/
/-! ===== the reference's object and what it holds ===== -/
/-! 134 yX10_isEntry -/
theorem vc_134_0 (tt : Nat → Nat) (a0 : Nat) (a1 : Int32) (h : am_H) (Q : Int32 → am_H → Prop) (Qx : String → am_H → Prop) (q :
  (am_K h a0 = 11 ∧
  (∃ (Q2 : Int32 → am_H → Prop) (X2 : String → am_H → Prop), am_Ct tt 130 [.long (a1).toInt64, .long (Int64.ofNat 0), .long (((am_I h 10 1 a0) - (Int32.ofNat 1))).toInt64] h (am_pI Q2 X2) ∧ (∀ x3 h1, Q2 x3 h1 →
   ((x3 = (Int32.ofNat 0) ∨ x3 = (Int32.ofNat 1)) ∧ Q x3 h1)) ∧ (∀ E4 h1, X2 E4 h1 → Qx E4 h1)))) :
  am_Ev tt 134 0 [some (.ref a0), some (.int a1)] [] h (am_pI Q Qx) := am_vc 12 [] q

/-! 136 yX10_fresh -/
theorem vc_136_0 (tt : Nat → Nat) (a0 : Nat) (a1 : Int32) (a2 : Int32) (h : am_H) (Q : am_H → Prop) (Qx : String → am_H → Prop) (q :
  (am_K h a0 = 11 ∧ ∃ q1, am_R h 10 2 a0 = some q1 ∧
  (am_K h q1 = 21 ∧ vp_in a1 (am_N h q1) ∧
  (am_K h a0 = 11 ∧ ∃ q2, am_R h 10 3 a0 = some q2 ∧
  (am_K h q2 = 21 ∧ vp_in a1 (am_N h q2) ∧
  (am_K h a0 = 11 ∧ ∃ q3, am_R h 10 5 a0 = some q3 ∧
  (vp_in a1 (am_N h q3) ∧ ∃ w4, ((am_K h q3 = 23 ∧ w4 = ((Int32.ofNat 0)).toInt8.toInt32) ∨ (am_K h q3 = 24 ∧ w4 = ((Int32.ofNat 0) &&& 1))) ∧
  am_Ev tt 136 21 [some (.ref a0), some (.int a1), none] [] (am_sA (am_sA (am_sA h q1 (a1).toNatClampNeg a2) q2 (a1).toNatClampNeg (Int32.ofNat 0)) q3 (a1).toNatClampNeg w4) (am_pV Q Qx)))))))) :
  am_Ev tt 136 0 [some (.ref a0), some (.int a1), some (.int a2)] [] h (am_pV Q Qx) := am_vc 18 [(21, [true, true, false]), (42, [true, true, false])] q
theorem vc_136_21 (tt : Nat → Nat) (a0 : Nat) (a1 : Int32) (h : am_H) (Q : am_H → Prop) (Qx : String → am_H → Prop) (q :
  (am_K h a0 = 11 ∧ ∃ q1, am_R h 10 6 a0 = some q1 ∧
  (am_K h q1 = 22 ∧ vp_in a1 (am_N h q1) ∧
  (am_K h a0 = 11 ∧ ∃ q2, am_R h 10 7 a0 = some q2 ∧
  (vp_in a1 (am_N h q2) ∧ ∃ w3, ((am_K h q2 = 23 ∧ w3 = ((Int32.ofNat 0)).toInt8.toInt32) ∨ (am_K h q2 = 24 ∧ w3 = ((Int32.ofNat 0) &&& 1))) ∧
  (am_K h a0 = 11 ∧ ∃ q4, am_R h 10 8 a0 = some q4 ∧
  (am_K h q4 = 21 ∧ vp_in a1 (am_N h q4) ∧
  am_Ev tt 136 42 [some (.ref a0), some (.int a1), none] [] (am_sA (am_sA (am_sB h q1 (a1).toNatClampNeg (Int64.ofNat 0)) q2 (a1).toNatClampNeg w3) q4 (a1).toNatClampNeg (Int32.ofNat 0)) (am_pV Q Qx)))))))) :
  am_Ev tt 136 21 [some (.ref a0), some (.int a1), none] [] h (am_pV Q Qx) := am_vc 18 [(21, [true, true, false]), (42, [true, true, false])] q
theorem vc_136_42 (tt : Nat → Nat) (a0 : Nat) (a1 : Int32) (h : am_H) (Q : am_H → Prop) (Qx : String → am_H → Prop) (q :
  (am_K h a0 = 11 ∧ ∃ q1, am_R h 10 9 a0 = some q1 ∧
  (am_K h q1 = 21 ∧ vp_in a1 (am_N h q1) ∧
  (am_K h a0 = 11 ∧ ∃ q2, am_R h 10 11 a0 = some q2 ∧
  (am_K h q2 = 21 ∧ vp_in a1 (am_N h q2) ∧
  (am_K h a0 = 11 ∧ ∃ q3, am_R h 10 12 a0 = some q3 ∧
  (vp_in a1 (am_N h q3) ∧ ∃ w4, ((am_K h q3 = 23 ∧ w4 = ((Int32.ofNat 0)).toInt8.toInt32) ∨ (am_K h q3 = 24 ∧ w4 = ((Int32.ofNat 0) &&& 1))) ∧
  (am_K h a0 = 11 ∧ ∃ q5, am_R h 10 13 a0 = some q5 ∧
  (vp_in a1 (am_N h q5) ∧ ∃ w6, ((am_K h q5 = 23 ∧ w6 = ((Int32.ofNat 0)).toInt8.toInt32) ∨ (am_K h q5 = 24 ∧ w6 = ((Int32.ofNat 0) &&& 1))) ∧
  Q (am_sA (am_sA (am_sA (am_sA h q1 (a1).toNatClampNeg (Int32.ofNat 0)) q2 (a1).toNatClampNeg (Int32.ofNat 0)) q3 (a1).toNatClampNeg w4) q5 (a1).toNatClampNeg w6)))))))))) :
  am_Ev tt 136 42 [some (.ref a0), some (.int a1), none] [] h (am_pV Q Qx) := am_vc 23 [(21, [true, true, false]), (42, [true, true, false])] q

def wfS (S : sS) : Prop := wfA S.1 ∧ S.2.1 ≤ 5000 ∧ ∀ j, j < S.2.1 → by8 (S.2.2.1 j) = S.2.2.1 j
theorem RC.wf {tt : Nat → Nat} {P : Nat → Prop} {h : am_H} {cd : Nat → Nat} {bb : Nat → Nat → Nat} {wa wt : Nat} {S : sS} (q : RC tt P h cd bb wa wt S) : wfS S := ⟨q.2.2.1, q.2.2.2.1.2.1, fun j hj => (q.2.2.2.1.2.2 j hj).2⟩
def me_v (h : am_H) (ad : Nat → Nat) (i : Nat) (v : sE) (p : Prop) : Prop :=
  am_A h (ad 2) i = Int32.ofNat (e_kd v) ∧ am_A h (ad 3) i = Int32.ofNat (e_un v) ∧ (∀ j, j < e_un v → am_A h (ad 4) (20 * i + j) = e_nm v j) ∧ am_A h (ad 9) i = Int32.ofNat (e_sz v) ∧ am_A h (ad 11) i = Int32.ofNat (e_hm v) ∧ am_A h (ad 12) i = b01 (e_an v) ∧
  am_A h (ad 5) i = b01 (e_tm v).isSome ∧ am_B h (ad 6) i = (e_tm v).getD (Int64.ofNat 0) ∧ am_A h (ad 7) i = b01 (e_av v).isSome ∧ am_A h (ad 8) i = (e_av v).getD (Int32.ofNat 0) ∧ am_A h (ad 13) i = b01 (e_wr v) ∧ (p → ∀ j, j < e_sz v → am_A h (ad 10) (2400 * i + j) = e_by v j)
def mb_v (h : am_H) (ad : Nat → Nat) (b : Nat) (v : sB) : Prop := am_A h (ad 17) b = b01 (!b_kn v) ∧ (b_kn v = true → am_A h (ad 14) b = Int32.ofNat (b_cn v) ∧ ∀ j, j < b_cn v → am_A h (ad 15) (3 * b + j) = b_ck v j ∧ am_A h (ad 16) (3 * b + j) = b_cd v j) ∧ (b_kn v = false → am_A h (ad 14) b = Int32.ofNat 0)
/-- THE REFERENCE at S; P: others' cells -/
def RM (P : Nat → Prop) (h : am_H) (m : Nat) (ad : Nat → Nat) (S : sS) : Prop :=
  md_s h m ad ∧ am_I h 10 1 m = Int32.ofNat (a_n S.1) ∧ (∀ i, i < a_n S.1 → me_v h ad i (a_E S.1 i) (a_kn S.1 i = true)) ∧ (∀ b, b < 6 → mb_v h ad b (a_B S.1 b)) ∧ am_I h 10 19 m = Int32.ofNat S.2.1 ∧ (∀ j, j < S.2.1 → am_A h (ad 18) j = S.2.2.1 j) ∧ am_I h 10 20 m = S.2.2.2 ∧ (∀ a, P a → am_K h a ≠ 0 ∧ a ≠ m ∧ ∀ k, a ≠ ad k)
def okM (P : Nat → Prop) (h : am_H) (m : Nat) (ad : Nat → Nat) (S : sS) (h' : am_H) : Prop := RM P h' m ad S ∧ fr P h h' ∧ am_U h' = am_U h ∧ am_V h' = am_V h
/-- what changes but the reference's own cells -/
def mfr (h : am_H) (m : Nat) (ad : Nat → Nat) (h' : am_H) : Prop := am_K h' = am_K h ∧ am_N h' = am_N h ∧ am_R h' = am_R h ∧ am_C h' = am_C h ∧ am_U h' = am_U h ∧ am_V h' = am_V h ∧ (∀ c f a, ¬ (c = 10 ∧ a = m) → am_I h' c f a = am_I h c f a) ∧ (∀ c f a, ¬ (c = 10 ∧ a = m) → am_J h' c f a = am_J h c f a) ∧ (∀ a, (∀ k, a ≠ ad k) → am_A h' a = am_A h a) ∧ (∀ a, (∀ k, a ≠ ad k) → am_B h' a = am_B h a)
section MR
variable {tt : Nat → Nat} {P : Nat → Prop} {h h' h'' : am_H} {m : Nat} {ad : Nat → Nat} {S : sS}
theorem mfr.rf : mfr h m ad h := ⟨rfl, rfl, rfl, rfl, rfl, rfl, fun _ _ _ _ => rfl, fun _ _ _ _ => rfl, fun _ _ => rfl, fun _ _ => rfl⟩
theorem mfr.tr (p : mfr h m ad h') (q : mfr h' m ad h'') : mfr h m ad h'' := by
  obtain ⟨p1, p2, p3, p4, p5, p6, p7, p8, p9, p10⟩ := p
  obtain ⟨q1, q2, q3, q4, q5, q6, q7, q8, q9, q10⟩ := q
  exact ⟨q1.trans p1, q2.trans p2, q3.trans p3, q4.trans p4, q5.trans p5, q6.trans p6, fun c f a z => (q7 c f a z).trans (p7 c f a z), fun c f a z => (q8 c f a z).trans (p8 c f a z), fun a z => (q9 a z).trans (p9 a z), fun a z => (q10 a z).trans (p10 a z)⟩
theorem mfr.sI {f : Nat} {v : Int32} : mfr h m ad (am_sI h 10 f m v) := ⟨rfl, rfl, rfl, rfl, rfl, rfl, fun c f' a z => by simp only [am_hs]; rw [if_neg (fun w => z ⟨w.1, w.2.2⟩)], fun _ _ _ _ => rfl, fun _ _ => rfl, fun _ _ => rfl⟩
theorem mfr.sJ {f : Nat} {v : Int64} : mfr h m ad (am_sJ h 10 f m v) := ⟨rfl, rfl, rfl, rfl, rfl, rfl, fun _ _ _ _ => rfl, fun c f' a z => by simp only [am_hs]; rw [if_neg (fun w => z ⟨w.1, w.2.2⟩)], fun _ _ => rfl, fun _ _ => rfl⟩
theorem mfr.sA {k i : Nat} {v : Int32} : mfr h m ad (am_sA h (ad k) i v) := ⟨rfl, rfl, rfl, rfl, rfl, rfl, fun _ _ _ _ => rfl, fun _ _ _ _ => rfl, fun a z => by funext j; simp only [am_hs]; rw [if_neg (fun w => z k w.1)], fun _ _ => rfl⟩
theorem mfr.sB {k i : Nat} {v : Int64} : mfr h m ad (am_sB h (ad k) i v) := ⟨rfl, rfl, rfl, rfl, rfl, rfl, fun _ _ _ _ => rfl, fun _ _ _ _ => rfl, fun _ _ => rfl, fun a z => by funext j; simp only [am_hs]; rw [if_neg (fun w => z k w.1)]⟩
theorem mfr.cA {k : Nat} {f : Nat → Int32} : mfr h m ad (am_cA h (ad k) f) := ⟨rfl, rfl, rfl, rfl, rfl, rfl, fun _ _ _ _ => rfl, fun _ _ _ _ => rfl, fun a z => by simp only [am_hs]; rw [if_neg (z k)], fun _ _ => rfl⟩
theorem mfr.fr (p : mfr h m ad h') (q : RM P h m ad S) : fr P h h' := by
  obtain ⟨p1, p2, p3, p4, p5, p6, p7, p8, p9, p10⟩ := p
  intro a ha
  obtain ⟨z1, z2, z3⟩ := q.2.2.2.2.2.2.2 a ha
  exact ⟨by rw [p1], by rw [p2], p9 a z3, p10 a z3, by rw [p4], fun c k => p7 c k a (fun w => z2 w.2), fun c k => p8 c k a (fun w => z2 w.2), fun c k => by rw [p3]⟩
theorem mfr.md (p : mfr h m ad h') (s : md_s h m ad) : md_s h' m ad := md_t s p.1 p.2.1 p.2.2.1
/-- all that the reference holds, given anew -/
theorem RM.mk' (q : RM P h m ad S) (p : mfr h m ad h') {S' : sS} (h1 : am_I h' 10 1 m = Int32.ofNat (a_n S'.1)) (h2 : ∀ i, i < a_n S'.1 → me_v h' ad i (a_E S'.1 i) (a_kn S'.1 i = true)) (h3 : ∀ b, b < 6 → mb_v h' ad b (a_B S'.1 b)) (h4 : am_I h' 10 19 m = Int32.ofNat S'.2.1) (h5 : ∀ j, j < S'.2.1 → am_A h' (ad 18) j = S'.2.2.1 j) (h6 : am_I h' 10 20 m = S'.2.2.2) : okM P h m ad S' h' :=
  ⟨⟨p.md q.1, h1, h2, h3, h4, h5, h6, fun a ha => by rw [p.1]; exact q.2.2.2.2.2.2.2 a ha⟩, p.fr q, p.2.2.2.2.1, p.2.2.2.2.2.1⟩
theorem okM.rf (q : RM P h m ad S) : okM P h m ad S h := ⟨q, fr.rf, rfl, rfl⟩
theorem okM.tr {S' S'' : sS} (a : okM P h m ad S' h') (b : okM P h' m ad S'' h'') : okM P h m ad S'' h'' := ⟨b.1, a.2.1.tr b.2.1, b.2.2.1.trans a.2.2.1, b.2.2.2.trans a.2.2.2⟩
theorem me_v.same {i : Nat} {v : sE} {p : Prop} (q : me_v h ad i v p) (hu : e_un v ≤ 20) (hz : e_sz v ≤ 2400) (hA : ∀ k, k = 2 ∨ k = 3 ∨ k = 5 ∨ k = 7 ∨ k = 8 ∨ k = 9 ∨ k = 11 ∨ k = 12 ∨ k = 13 → am_A h' (ad k) i = am_A h (ad k) i) (hB : am_B h' (ad 6) i = am_B h (ad 6) i) (h4 : ∀ j, j < 20 → am_A h' (ad 4) (20 * i + j) = am_A h (ad 4) (20 * i + j)) (h10 : ∀ j, j < 2400 → am_A h' (ad 10) (2400 * i + j) = am_A h (ad 10) (2400 * i + j)) : me_v h' ad i v p := by
  obtain ⟨y1, y2, y3, y4, y5, y6, y7, y8, y9, y10, y11, y12⟩ := q
  refine ⟨by rw [hA 2 (by omega)]; exact y1, by rw [hA 3 (by omega)]; exact y2, fun j hj => by rw [h4 j (by omega)]; exact y3 j hj, by rw [hA 9 (by omega)]; exact y4, by rw [hA 11 (by omega)]; exact y5, by rw [hA 12 (by omega)]; exact y6, by rw [hA 5 (by omega)]; exact y7, by rw [hB]; exact y8, by rw [hA 7 (by omega)]; exact y9, by rw [hA 8 (by omega)]; exact y10, by rw [hA 13 (by omega)]; exact y11, fun hp j hj => by rw [h10 j (by omega)]; exact y12 hp j hj⟩
theorem mb_v.same {b : Nat} {v : sB} (q : mb_v h ad b v) (hc : b_cn v ≤ 3) (h17 : am_A h' (ad 17) b = am_A h (ad 17) b) (h14 : am_A h' (ad 14) b = am_A h (ad 14) b) (h15 : ∀ j, j < 3 → am_A h' (ad 15) (3 * b + j) = am_A h (ad 15) (3 * b + j)) (h16 : ∀ j, j < 3 → am_A h' (ad 16) (3 * b + j) = am_A h (ad 16) (3 * b + j)) : mb_v h' ad b v := by
  refine ⟨by rw [h17]; exact q.1, fun hk => ?_, fun hk => by rw [h14]; exact q.2.2 hk⟩
  obtain ⟨q1, q2⟩ := q.2.1 hk
  exact ⟨by rw [h14]; exact q1, fun j hj => by rw [h15 j (by omega), h16 j (by omega)]; exact q2 j hj⟩
/-- an entry changes: what may change with it -/
def tch (i k j : Nat) : Prop := ((k = 2 ∨ k = 3 ∨ k = 5 ∨ k = 7 ∨ k = 8 ∨ k = 9 ∨ k = 11 ∨ k = 12 ∨ k = 13) ∧ j = i) ∨ (k = 4 ∧ 20 * i ≤ j ∧ j < 20 * i + 20) ∨ (k = 10 ∧ 2400 * i ≤ j ∧ j < 2400 * i + 2400)
theorem RM.upE (q : RM P h m ad S) (wf : wfS S) {i : Nat} (p : mfr h m ad h') (hI : ∀ f, ¬ f = 0 → am_I h' 10 f m = am_I h 10 f m) (hA : ∀ k j, ¬ tch i k j → am_A h' (ad k) j = am_A h (ad k) j) (hB : ∀ j, ¬ j = i → am_B h' (ad 6) j = am_B h (ad 6) j) {e' : sE} (hv : me_v h' ad i e' (b_kn (a_B S.1 (e_hm e')) = true)) : okM P h m ad (put_E S i e') h' := by
  obtain ⟨q1, q2, q3, q4, q5, q6, q7, q8⟩ := q
  have n24 := wf.1.1
  refine RM.mk' ⟨q1, q2, q3, q4, q5, q6, q7, q8⟩ p (by rw [hI 1 (by omega)]; exact q2) (fun j hj => ?_) (fun b hb => ?_) (by rw [hI 19 (by omega)]; exact q5) (fun j hj => by rw [hA _ _ (by unfold tch; omega)]; exact q6 j hj) (by rw [hI 20 (by omega)]; exact q7)
  · have hj' : j < a_n S.1 := hj
    show me_v h' ad j (a_E (put_E S i e').1 j) (b_kn (a_B S.1 (e_hm (a_E (put_E S i e').1 j))) = true)
    rw [a_E_put]
    by_cases c : j = i
    · subst c
      rw [if_pos rfl]
      exact hv
    · rw [if_neg c]
      obtain ⟨w1, w2, w3, w4⟩ := wf.1.2.1 j hj'
      exact (q3 j hj').same w2 w3 (fun k hk => hA _ _ (by unfold tch; omega)) (hB j c) (fun k hk => hA _ _ (by unfold tch; omega)) (fun k hk => hA _ _ (by unfold tch; omega))
  · exact (q4 b hb).same (wf.1.2.2.1 b hb).1 (hA _ _ (by unfold tch; omega)) (hA _ _ (by unfold tch; omega)) (fun j hj => hA _ _ (by unfold tch; omega)) (fun j hj => hA _ _ (by unfold tch; omega))
/-- a block changes -/
theorem RM.upB (q : RM P h m ad S) (wf : wfS S) {i : Nat} (p : mfr h m ad h') (hI : ∀ f, ¬ f = 0 → am_I h' 10 f m = am_I h 10 f m) (hA : ∀ k j, ¬ ((k = 14 ∧ j = i) ∨ ((k = 15 ∨ k = 16) ∧ 3 * i ≤ j ∧ j < 3 * i + 3)) → am_A h' (ad k) j = am_A h (ad k) j) (hB : ∀ j, am_B h' (ad 6) j = am_B h (ad 6) j) {b' : sB} (hv : mb_v h' ad i b') (hkn : b_kn b' = b_kn (a_B S.1 i)) : okM P h m ad (put_B S i b') h' := by
  obtain ⟨q1, q2, q3, q4, q5, q6, q7, q8⟩ := q
  have n24 := wf.1.1
  have kn : ∀ j, a_kn (put_B S i b').1 j = a_kn S.1 j := by
    intro j
    show b_kn (va_up (a_B S.1) i b' (e_hm (a_E S.1 j))) = b_kn (a_B S.1 (e_hm (a_E S.1 j)))
    unfold va_up
    split
    · next e => rw [e]; exact hkn
    · rfl
  refine RM.mk' ⟨q1, q2, q3, q4, q5, q6, q7, q8⟩ p (by rw [hI 1 (by omega)]; exact q2) (fun j hj => ?_) (fun b hb => ?_) (by rw [hI 19 (by omega)]; exact q5) (fun j hj => by rw [hA _ _ (by omega)]; exact q6 j hj) (by rw [hI 20 (by omega)]; exact q7)
  · have hj' : j < a_n S.1 := hj
    rw [kn j]
    obtain ⟨w1, w2, w3, w4⟩ := wf.1.2.1 j hj'
    exact (q3 j hj').same w2 w3 (fun k hk => hA _ _ (by omega)) (hB j) (fun k hk => hA _ _ (by omega)) (fun k hk => hA _ _ (by omega))
  · show mb_v h' ad b (va_up (a_B S.1) i b' b)
    unfold va_up
    by_cases c : b = i
    · subst c; rw [if_pos rfl]; exact hv
    · rw [if_neg c]
      exact (q4 b hb).same (wf.1.2.2.1 b hb).1 (hA _ _ (by omega)) (hA _ _ (by omega)) (fun j hj => hA _ _ (by omega)) (fun j hj => hA _ _ (by omega))
/-- the tape changes -/
theorem RM.upT (q : RM P h m ad S) (wf : wfS S) (p : mfr h m ad h') (hI : ∀ f, ¬ f = 0 → ¬ f = 19 → am_I h' 10 f m = am_I h 10 f m) (hA : ∀ k, ¬ k = 18 → am_A h' (ad k) = am_A h (ad k)) (hB : am_B h' (ad 6) = am_B h (ad 6)) {n : Nat} {T : Nat → Int32} (h4 : am_I h' 10 19 m = Int32.ofNat n) (h5 : ∀ j, j < n → am_A h' (ad 18) j = T j) : okM P h m ad (put_T S n T) h' := by
  obtain ⟨q1, q2, q3, q4, q5, q6, q7, q8⟩ := q
  refine RM.mk' ⟨q1, q2, q3, q4, q5, q6, q7, q8⟩ p (by rw [hI 1 (by omega) (by omega)]; exact q2) (fun j hj => ?_) (fun b hb => ?_) h4 h5 (by rw [hI 20 (by omega) (by omega)]; exact q7)
  · have hj' : j < a_n S.1 := hj
    obtain ⟨w1, w2, w3, w4⟩ := wf.1.2.1 j hj'
    exact (q3 j hj').same w2 w3 (fun k hk => by rw [hA _ (by omega)]) (by rw [hB]) (fun k hk => by rw [hA _ (by omega)]) (fun k hk => by rw [hA _ (by omega)])
  · exact (q4 b hb).same (wf.1.2.2.1 b hb).1 (by rw [hA _ (by omega)]) (by rw [hA _ (by omega)]) (fun j hj => by rw [hA _ (by omega)]) (fun j hj => by rw [hA _ (by omega)])
/-- thrown is none of it -/
theorem RM.th (q : RM P h m ad S) (v : Int32) : okM P h m ad S (am_sI h 10 0 m v) :=
  RM.mk' q mfr.sI (by simp only [am_hs, true_and, and_true, and_self, true_or, or_true, false_or, or_false, false_and, and_false, not_true_eq_false, not_false_eq_true, Classical.not_not, true_implies, false_implies, implies_true, exists_eq_left, exists_eq_left', Option.some.injEq, reduceIte, Nat.reduceEqDiff, Nat.reduceLT, Nat.reduceLeDiff, Nat.reduceAdd, Nat.reduceSub, Nat.reduceMul, eq_self, ne_eq, and_imp, forall_const, reduceCtorEq, am_w, List.map_cons, List.map_nil, List.sum_cons, List.sum_nil, Value.category, Nat.zero_le, Nat.le_refl]; exact q.2.1) q.2.2.1 q.2.2.2.1 (by simp only [am_hs, true_and, and_true, and_self, true_or, or_true, false_or, or_false, false_and, and_false, not_true_eq_false, not_false_eq_true, Classical.not_not, true_implies, false_implies, implies_true, exists_eq_left, exists_eq_left', Option.some.injEq, reduceIte, Nat.reduceEqDiff, Nat.reduceLT, Nat.reduceLeDiff, Nat.reduceAdd, Nat.reduceSub, Nat.reduceMul, eq_self, ne_eq, and_imp, forall_const, reduceCtorEq, am_w, List.map_cons, List.map_nil, List.sum_cons, List.sum_nil, Value.category, Nat.zero_le, Nat.le_refl]; exact q.2.2.2.2.1) q.2.2.2.2.2.1 (by simp only [am_hs, true_and, and_true, and_self, true_or, or_true, false_or, or_false, false_and, and_false, not_true_eq_false, not_false_eq_true, Classical.not_not, true_implies, false_implies, implies_true, exists_eq_left, exists_eq_left', Option.some.injEq, reduceIte, Nat.reduceEqDiff, Nat.reduceLT, Nat.reduceLeDiff, Nat.reduceAdd, Nat.reduceSub, Nat.reduceMul, eq_self, ne_eq, and_imp, forall_const, reduceCtorEq, am_w, List.map_cons, List.map_nil, List.sum_cons, List.sum_nil, Value.category, Nat.zero_le, Nat.le_refl]; exact q.2.2.2.2.2.2.1)
theorem in_n {x : Int32} {n : Nat} {hi : Int64} (hn : n ≤ 60000) (he : hi = (Int32.ofNat n - Int32.ofNat 1).toInt64 ∨ (1 ≤ n ∧ hi = Int64.ofNat (n - 1))) : (if Int64.ofNat 0 ≤ x.toInt64 ∧ x.toInt64 ≤ hi then Int32.ofNat 1 else Int32.ofNat 0) = b01 (ixo n x).isSome := by
  have h1 : 1 ≤ n → hi = Int64.ofNat (n - 1) := by
    intro h1
    rcases he with e | e
    · rw [e, qi_sub h1, qi_l (by omega)]
    · exact e.2
  rcases qi_cases x with hx | ⟨b, hb, rfl⟩
  · rw [ixo_neg hx, if_neg]
    · rfl
    · intro z
      have z1 := z.1
      rw [Int64.le_iff_toInt_le, Int32.toInt_toInt64] at z1
      rw [Int32.lt_iff_toInt_lt] at hx
      have e0 : (Int64.ofNat 0).toInt = 0 := rfl
      have e1 : (Int32.ofNat 0).toInt = 0 := rfl
      omega
  · rw [qi_l hb]
    by_cases c : b < n
    · rw [ixo_n c (by omega), if_pos]
      · rfl
      · rw [h1 (by omega)]
        simp (disch := omega) only [qi_lt, qi_le, qi_eq, qi_nn, qi_in, qi_add, qi_l, ql_i, ql_lt, ql_le, ql_eq, ql_add, qc_lt, qc_eq, qc_ge, qc_gt, qc_le]
        omega
    · rw [ixo_ge hb (by omega), if_neg]
      · rfl
      · intro z
        by_cases c1 : 1 ≤ n
        · rw [h1 c1] at z
          simp (disch := omega) only [qi_lt, qi_le, qi_eq, qi_nn, qi_in, qi_add, qi_l, ql_i, ql_lt, ql_le, ql_eq, ql_add, qc_lt, qc_eq, qc_ge, qc_gt, qc_le] at z
          omega
        · have : n = 0 := by omega
          subst this
          rcases he with e | e
          · rw [e, show (Int32.ofNat 0 - Int32.ofNat 1).toInt64 = (-1 : Int64) from rfl] at z
            have z2 := z.2
            rw [Int64.le_iff_toInt_le, show (-1 : Int64).toInt = -1 from rfl, Int64.toInt_ofNat_of_lt (by omega)] at z2
            omega
          · omega
theorem ct_inN {x : Int32} {n : Nat} {hi : Int64} (hn : n ≤ 60000) (he : hi = (Int32.ofNat n - Int32.ofNat 1).toInt64 ∨ (1 ≤ n ∧ hi = Int64.ofNat (n - 1))) : am_Ct tt 130 [.long x.toInt64, .long (Int64.ofNat 0), .long hi] h (am_pI (fun r h' => h' = h ∧ r = b01 (ixo n x).isSome) no_x) := by
  have := ct_in (tt := tt) (h := h) (v := x.toInt64) (lo := Int64.ofNat 0) (hi := hi)
  rw [in_n hn he] at this
  exact this
theorem ct_isEntry {x : Int32} {n : Nat} (hK : am_K h m = 11) (h1 : am_I h 10 1 m = Int32.ofNat n) (hn : n ≤ 60000) : am_Ct tt 134 [.ref m, .int x] h (am_pI (fun r h' => h' = h ∧ r = b01 (ixo n x).isSome) no_x) := by
  refine vc_134_0 tt _ _ h _ _ ⟨hK, _, _, ct_inN (n := n) hn (Or.inl (by rw [h1])), fun r k e => ?_, fun _ _ z => z⟩
  obtain ⟨ek, e⟩ := e
  subst k e
  exact ⟨b01_01, rfl, rfl⟩
end MR
