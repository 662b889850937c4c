/-! deps: 19i -/
/-! ===== the class reads: entries ===== -/
/-! 32 yX3_takeEntries -/
theorem vc_32_0 (tt : Nat → Nat) (a0 : Nat) (a1 : Nat) (a2 : Nat) (h : am_H) (Q : am_H → Prop) (Qx : String → am_H → Prop) (q :
  (am_K h a0 = 4 ∧ ∃ q1, am_R h 3 0 a0 = some q1 ∧
  (am_K h a1 = 6 ∧
  (am_w [.ref q1] ≤ 8 ∧
  (am_K h q1 = 3 ∧ ∃ (Q3 : Int64 → am_H → Prop) (X3 : String → am_H → Prop), am_Ct tt 29 [.ref q1, .long ((if (Int32.ofNat 1) < (am_I h 5 7 a1) then (am_I h 5 7 a1) else (Int32.ofNat 1))).toInt64, .long (Int64.ofNat 24)] h (am_pL Q3 X3) ∧ (∀ x4 h2, Q3 x4 h2 →
   (am_K h2 a1 = 6 ∧
   am_Ev tt 32 32 [some (.ref a0), some (.ref a1), some (.ref a2), some (.int (x4).toInt32), some (.int ((x4).toInt32 - (am_I h2 5 7 a1))), some (.int (Int32.ofNat 0))] [] h2 (am_pV Q Qx))) ∧ (∀ E5 h2, X3 E5 h2 → Qx E5 h2)))))) :
  am_Ev tt 32 0 [some (.ref a0), some (.ref a1), some (.ref a2), none, none, none] [] h (am_pV Q Qx) := am_vc 21 [(32, [true, true, true, true, true, true]), (81, [true, true, true, true, true, false]), (97, [true, true, true, true, true, true]), (138, [true, false, true, false, true, true]), (172, [true, false, false, false, false, true])] q
theorem vc_32_32 (tt : Nat → Nat) (a0 : Nat) (a1 : Nat) (a2 : Nat) (a3 : Int32) (a4 : Int32) (a5 : Int32) (h : am_H) (Q : am_H → Prop) (Qx : String → am_H → Prop) (q :
  (((Int32.ofNat 24) ≤ a5 →
   (am_K h a0 = 4 ∧ ∃ q1, am_R h 3 0 a0 = some q1 ∧
   (am_K h q1 = 3 ∧ ∃ (Q3 : Int32 → am_H → Prop) (X3 : String → am_H → Prop), am_Ct tt 26 [.ref q1] h (am_pI Q3 X3) ∧ (∀ x4 h2, Q3 x4 h2 →
    ((a4 ≤ (Int32.ofNat 0) →
     am_Ev tt 32 97 [some (.ref a0), some (.ref a1), some (.ref a2), some (.int a3), some (.int a4), some (.int x4)] [] h2 (am_pV Q Qx)) ∧
    (¬ (a4 ≤ (Int32.ofNat 0)) →
     ((x4 = (Int32.ofNat 14) →
      am_Ev tt 32 81 [some (.ref a0), some (.ref a1), some (.ref a2), some (.int a3), some (.int a4), none] [] h2 (am_pV Q Qx)) ∧
     (¬ (x4 = (Int32.ofNat 14)) →
      (am_K h2 a0 = 4 ∧ ∃ q5, am_R h2 3 0 a0 = some q5 ∧
      (am_K h2 q5 = 3 ∧ ∃ (Q7 : am_H → Prop) (X7 : String → am_H → Prop), am_Ct tt 23 [.ref q5] h2 (am_pV Q7 X7) ∧ (∀ h6, Q7 h6 →
       am_Ev tt 32 81 [some (.ref a0), some (.ref a1), some (.ref a2), some (.int a3), some (.int a4), none] [] h6 (am_pV Q Qx)) ∧ (∀ E8 h6, X7 E8 h6 → Qx E8 h6)))))))) ∧ (∀ E9 h2, X3 E9 h2 → Qx E9 h2)))) ∧
  (¬ ((Int32.ofNat 24) ≤ a5) →
   (am_K h a0 = 4 ∧ ∃ q10, am_R h 3 1 a0 = some q10 ∧
   (vp_in a5 (am_N h q10) ∧ ∃ w11, ((am_K h q10 = 23 ∧ w11 = ((Int32.ofNat 0)).toInt8.toInt32) ∨ (am_K h q10 = 24 ∧ w11 = ((Int32.ofNat 0) &&& 1))) ∧
   am_Ev tt 32 32 [some (.ref a0), some (.ref a1), some (.ref a2), some (.int a3), some (.int a4), some (.int (a5 + (Int32.ofNat 1)))] [] (am_sA h q10 (a5).toNatClampNeg w11) (am_pV Q Qx)))))) :
  am_Ev tt 32 32 [some (.ref a0), some (.ref a1), some (.ref a2), some (.int a3), some (.int a4), some (.int a5)] [] h (am_pV Q Qx) := am_vc 18 [(32, [true, true, true, true, true, true]), (81, [true, true, true, true, true, false]), (97, [true, true, true, true, true, true]), (138, [true, false, true, false, true, true]), (172, [true, false, false, false, false, true])] q
theorem vc_32_81 (tt : Nat → Nat) (a0 : Nat) (a1 : Nat) (a2 : Nat) (a3 : Int32) (a4 : Int32) (h : am_H) (Q : am_H → Prop) (Qx : String → am_H → Prop) (q :
  (am_K h a0 = 4 ∧ ∃ (Q2 : am_H → Prop) (X2 : String → am_H → Prop), am_Ct tt 33 [.ref a0, .int a3, .int a4] h (am_pV Q2 X2) ∧ (∀ h1, Q2 h1 →
   (am_K h1 a0 = 4 ∧ ∃ q3, am_R h1 3 0 a0 = some q3 ∧
   (am_K h1 q3 = 3 ∧ ∃ (Q5 : Int32 → am_H → Prop) (X5 : String → am_H → Prop), am_Ct tt 26 [.ref q3] h1 (am_pI Q5 X5) ∧ (∀ x6 h4, Q5 x6 h4 →
    am_Ev tt 32 97 [some (.ref a0), some (.ref a1), some (.ref a2), some (.int a3), some (.int a4), some (.int x6)] [] h4 (am_pV Q Qx)) ∧ (∀ E7 h4, X5 E7 h4 → Qx E7 h4)))) ∧ (∀ E8 h1, X2 E8 h1 → Qx E8 h1))) :
  am_Ev tt 32 81 [some (.ref a0), some (.ref a1), some (.ref a2), some (.int a3), some (.int a4), none] [] h (am_pV Q Qx) := am_vc 11 [(32, [true, true, true, true, true, true]), (81, [true, true, true, true, true, false]), (97, [true, true, true, true, true, true]), (138, [true, false, true, false, true, true]), (172, [true, false, false, false, false, true])] q
theorem vc_32_97 (tt : Nat → Nat) (a0 : Nat) (a1 : Nat) (a2 : Nat) (a3 : Int32) (a4 : Int32) (a5 : Int32) (h : am_H) (Q : am_H → Prop) (Qx : String → am_H → Prop) (q :
  (am_K h a0 = 4 ∧ ∃ (Q2 : am_H → Prop) (X2 : String → am_H → Prop), am_Ct tt 34 [.ref a0, .int a3, .ref a1, .ref a2] h (am_pV Q2 X2) ∧ (∀ h1, Q2 h1 →
   ((a4 ≤ (Int32.ofNat 0) →
    am_Ev tt 32 138 [some (.ref a0), none, some (.ref a2), none, some (.int a4), some (.int a5)] [] h1 (am_pV Q Qx)) ∧
   (¬ (a4 ≤ (Int32.ofNat 0)) →
    ((¬ a5 = (Int32.ofNat 15) →
     am_Ev tt 32 138 [some (.ref a0), none, some (.ref a2), none, some (.int a4), some (.int a5)] [] h1 (am_pV Q Qx)) ∧
    (¬ (¬ a5 = (Int32.ofNat 15)) →
     (am_K h1 a0 = 4 ∧ ∃ (Q4 : am_H → Prop) (X4 : String → am_H → Prop), am_Ct tt 35 [.ref a0, .int a4] h1 (am_pV Q4 X4) ∧ (∀ h3, Q4 h3 →
      (am_K h3 a0 = 4 ∧ ∃ (Q6 : am_H → Prop) (X6 : String → am_H → Prop), am_Ct tt 36 [.ref a0, .ref a2, .int a5] h3 (am_pV Q6 X6) ∧ (∀ h5, Q6 h5 →
       (am_K h5 a0 = 4 ∧ ∃ q7, am_R h5 3 0 a0 = some q7 ∧
       (am_K h5 q7 = 3 ∧ ∃ (Q9 : Int32 → am_H → Prop) (X9 : String → am_H → Prop), am_Ct tt 26 [.ref q7] h5 (am_pI Q9 X9) ∧ (∀ x10 h8, Q9 x10 h8 →
        am_Ev tt 32 138 [some (.ref a0), none, some (.ref a2), none, some (.int a4), some (.int x10)] [] h8 (am_pV Q Qx)) ∧ (∀ E11 h8, X9 E11 h8 → Qx E11 h8)))) ∧ (∀ E12 h5, X6 E12 h5 → Qx E12 h5))) ∧ (∀ E13 h3, X4 E13 h3 → Qx E13 h3))))))) ∧ (∀ E14 h1, X2 E14 h1 → Qx E14 h1))) :
  am_Ev tt 32 97 [some (.ref a0), some (.ref a1), some (.ref a2), some (.int a3), some (.int a4), some (.int a5)] [] h (am_pV Q Qx) := am_vc 24 [(32, [true, true, true, true, true, true]), (81, [true, true, true, true, true, false]), (97, [true, true, true, true, true, true]), (138, [true, false, true, false, true, true]), (172, [true, false, false, false, false, true])] q
theorem vc_32_138 (tt : Nat → Nat) (a0 : Nat) (a2 : Nat) (a4 : Int32) (a5 : Int32) (h : am_H) (Q : am_H → Prop) (Qx : String → am_H → Prop) (q :
  ((a4 ≤ (Int32.ofNat 0) →
   am_Ev tt 32 172 [some (.ref a0), none, none, none, none, some (.int a5)] [] h (am_pV Q Qx)) ∧
  (¬ (a4 ≤ (Int32.ofNat 0)) →
   ((¬ a5 = (Int32.ofNat 16) →
    am_Ev tt 32 172 [some (.ref a0), none, none, none, none, some (.int a5)] [] h (am_pV Q Qx)) ∧
   (¬ (¬ a5 = (Int32.ofNat 16)) →
    (am_K h a0 = 4 ∧ ∃ (Q2 : am_H → Prop) (X2 : String → am_H → Prop), am_Ct tt 35 [.ref a0, .int a4] h (am_pV Q2 X2) ∧ (∀ h1, Q2 h1 →
     (am_K h1 a0 = 4 ∧ ∃ (Q4 : am_H → Prop) (X4 : String → am_H → Prop), am_Ct tt 36 [.ref a0, .ref a2, .int a5] h1 (am_pV Q4 X4) ∧ (∀ h3, Q4 h3 →
      (am_K h3 a0 = 4 ∧ ∃ q5, am_R h3 3 0 a0 = some q5 ∧
      (am_K h3 q5 = 3 ∧ ∃ (Q7 : Int32 → am_H → Prop) (X7 : String → am_H → Prop), am_Ct tt 26 [.ref q5] h3 (am_pI Q7 X7) ∧ (∀ x8 h6, Q7 x8 h6 →
       am_Ev tt 32 172 [some (.ref a0), none, none, none, none, some (.int x8)] [] h6 (am_pV Q Qx)) ∧ (∀ E9 h6, X7 E9 h6 → Qx E9 h6)))) ∧ (∀ E10 h3, X4 E10 h3 → Qx E10 h3))) ∧ (∀ E11 h1, X2 E11 h1 → Qx E11 h1))))))) :
  am_Ev tt 32 138 [some (.ref a0), none, some (.ref a2), none, some (.int a4), some (.int a5)] [] h (am_pV Q Qx) := am_vc 19 [(32, [true, true, true, true, true, true]), (81, [true, true, true, true, true, false]), (97, [true, true, true, true, true, true]), (138, [true, false, true, false, true, true]), (172, [true, false, false, false, false, true])] q
theorem vc_32_172 (tt : Nat → Nat) (a0 : Nat) (a5 : Int32) (h : am_H) (Q : am_H → Prop) (Qx : String → am_H → Prop) (q :
  ((a5 = (Int32.ofNat 17) →
   Q h) ∧
  (¬ (a5 = (Int32.ofNat 17)) →
   (am_K h a0 = 4 ∧ ∃ q1, am_R h 3 0 a0 = some q1 ∧
   (am_K h q1 = 3 ∧ ∃ (Q3 : am_H → Prop) (X3 : String → am_H → Prop), am_Ct tt 23 [.ref q1] h (am_pV Q3 X3) ∧ (∀ h2, Q3 h2 →
    Q h2) ∧ (∀ E4 h2, X3 E4 h2 → Qx E4 h2)))))) :
  am_Ev tt 32 172 [some (.ref a0), none, none, none, none, some (.int a5)] [] h (am_pV Q Qx) := am_vc 9 [(32, [true, true, true, true, true, true]), (81, [true, true, true, true, true, false]), (97, [true, true, true, true, true, true]), (138, [true, false, true, false, true, true]), (172, [true, false, false, false, false, true])] q

theorem rk_cn (em : Nat → Bool) : ∀ i, rk em i + cn em i = i
  | 0 => rfl
  | i + 1 => by
    have := rk_cn em i
    unfold rk cn
    cases em i <;> simp <;> omega
theorem cn_mo (em : Nat → Bool) : ∀ (d i : Nat), cn em i ≤ cn em (i + d)
  | 0, i => Nat.le_refl _
  | d + 1, i => by
    have := cn_mo em d i
    show cn em i ≤ cn em (i + d + 1)
    rw [cn]
    omega
theorem rk_mo (em : Nat → Bool) : ∀ (d i : Nat), rk em i ≤ rk em (i + d)
  | 0, i => Nat.le_refl _
  | d + 1, i => by
    have := rk_mo em d i
    show rk em i ≤ rk em (i + d + 1)
    rw [rk]
    omega
theorem rk_lt {em : Nat → Bool} {i N : Nat} (h : i < N) (e : em i = false) : rk em i < rk em N := by
  have := rk_mo em (N - (i + 1)) (i + 1)
  rw [show i + 1 + (N - (i + 1)) = N by omega, rk, e] at this
  simp at this
  omega
theorem cn_lt {em : Nat → Bool} {i N : Nat} (h : i < N) (e : em i = true) : i - rk em i < cn em N := by
  have := cn_mo em (N - (i + 1)) (i + 1)
  rw [show i + 1 + (N - (i + 1)) = N by omega, cn, e] at this
  have h2 := rk_cn em i
  simp at this
  omega
theorem cn_f : ∀ n, cn fls n = 0
  | 0 => rfl
  | n + 1 => by rw [cn, cn_f n]; rfl
theorem rk_f (n : Nat) : rk fls n = n := by
  have := rk_cn fls n
  rw [cn_f] at this
  omega
section RE3
variable {tt : Nat → Nat} {h0 h h' h'' : am_H} {cd : Nat → Nat} {bb : Nat → Nat → Nat} {wa wt n p : Nat}
def Ye (wa c g k : Nat) : Prop := (c = 2 ∧ g = 2 ∧ k = 31) ∨ (c = 0 ∧ g = 1 ∧ k = 100 + 500 * (1 - wa)) ∨ (c = 4 ∧ 110 + 500 * (1 - wa) ≤ k ∧ k ≤ 157 + 500 * (1 - wa))
theorem Yl_e {c g k : Nat} (h : Yl wa c g k) : Ye wa c g k := Or.inr h
theorem Ym_e {c g k : Nat} (h : Ym wa c g k) : Ye wa c g k := by unfold Ym at h; unfold Ye; omega
theorem Yc_e {c g k : Nat} (h : Yc c g k) : Ye wa c g k := Or.inl h
theorem DA.k {X : Nat → Prop} {Y : Nat → Nat → Nat → Prop} (ci : ci_s cd bb) (q : rf cd X Y h h') {N : Nat} {V : Nat → sE} {T : Nat → Int32} (h0 : ¬ Y 0 1 (c_ar (1 - wa))) (h1 : ∀ i, i < N → ¬ X (c_un (1 - wa) i)) (h2 : ∀ i g, i < N → ¬ Y 4 g (c_en (1 - wa) i)) (z : DA cd wa h N V T) : DA cd wa h' N V T := ⟨by rw [q.i ci h0]; exact z.1, fun i hi => (z.2 i hi).k ci q (h1 i hi) (fun g => h2 i g hi)⟩
def enQ (tt : Nat → Nat) (h0 : am_H) (cd : Nat → Nat) (bb : Nat → Nat → Nat) (wa wt n : Nat) (h : am_H) (z : FI) (c : Nat → Int64) (r : Except pe (EN × Nat)) (h' : am_H) : Prop := ∃ en p', r = .ok (en, p') ∧ CX tt h0 cd bb wa wt n h' p' ∧ rf cd X34 (Ye wa) h h' ∧ DA cd wa h' en.1 (dE z en.2.1 en.2.2.1 en.2.2.2 zrs zrr nn6 nn3) (tC c en.2.1) ∧ 1 ≤ en.1 ∧ en.1 ≤ 24 ∧ ∀ i, i < en.1 → en.2.1 i = false → rk en.2.1 i < z.1
theorem ct_takeEntries (x : CX tt h0 cd bb wa wt n h p) {z : FI} (fr : FR cd h z) (z24 : z.1 ≤ 24) {c : Nat → Int64} (hc : ∀ f, f < z.1 → am_A h (cd 50) f = (c f).toInt32) (hs : ∀ f, f < z.1 → 1 ≤ z.2.2 f ∧ z.2.2 f ≤ 2400) (hz : am_I h 0 1 (cd (c_ar (1 - wa))) = Int32.ofNat 0) {r : Except pe (EN × Nat)} (hr : r = pEN (FF cd wt h0) n z.1 p) :
    am_Ct tt 32 [.ref (cd 33), .ref (cd 32), .ref (cd (c_ar (1 - wa)))] h (am_pV (enQ tt h0 cd bb wa wt n h z c r) (ER cd wa h0 r)) := by
  have ci := x.ci
  have f := x.f
  have mvf : ∀ {k : am_H} {q : Nat}, rf cd Xn Yc k (cp k (cd 31) q) := rf.mv ⟨rfl, rfl, rfl⟩
  have l172 : ∀ (k : am_H) (q N : Nat) (em fl an : Nat → Bool) (a5 : Int32), CX tt h0 cd bb wa wt n k (q + 1) → q < n → a5 = FF cd wt h0 q &&& Int32.ofNat 255 → rf cd X34 (Ye wa) h k → DA cd wa k N (dE z em fl an zrs zrr nn6 nn3) (tC c em) → 1 ≤ N → N ≤ 24 → (∀ i, i < N → em i = false → rk em i < z.1) → r = bd (tX (FF cd wt h0) n q 17) (fun _ p6 => .ok ((N, em, fl, an), p6)) →
      am_Ev tt 32 172 [some (.ref (cd 33)), none, none, none, none, some (.int a5)] [] k (am_pV (enQ tt h0 cd bb wa wt n h z c r) (ER cd wa h0 r)) := by
    intro k q N em fl an a5 y hq e5 fk da h1 h24 hm hr2
    have F := y.f
    rw [tX, if_pos hq, ← e5] at hr2
    refine vc_32_172 tt _ _ _ _ _ ⟨fun c1 => ?_, fun c1 => ?_⟩
    · rw [if_pos c1] at hr2
      exact ⟨_, _, hr2, y, fk, da, h1, h24, hm⟩
    · rw [if_neg c1] at hr2
      simp (disch := omega) only [F, qi_lt, qi_le, qi_eq, qi_nn, qi_in, qi_add, qi_l, ql_i, ql_lt, ql_le, ql_eq, ql_add, qc_lt, qc_eq, qc_ge, qc_gt, qc_le, true_and, and_true, and_self, true_or, or_true, false_or, or_false, false_and, and_false, not_true_eq_false, not_false_eq_true, Classical.not_not, true_implies, false_implies, implies_true, exists_eq_left, exists_eq_left', Option.some.injEq, reduceIte, Nat.reduceEqDiff, Nat.reduceLT, Nat.reduceLeDiff, Nat.reduceAdd, Nat.reduceSub, Nat.reduceMul, eq_self, ne_eq, and_imp, forall_const, reduceCtorEq, am_w, List.map_cons, List.map_nil, List.sum_cons, List.sum_nil, Value.category, Nat.zero_le, Nat.le_refl]
      exact ⟨_, _, y.fl (by omega) hr2, fun _ z => z.elim, fun _ _ z => z⟩
  -- marks: a tag, a row, what it marks
  have mk : ∀ (k : am_H) (q N tg : Nat) (em fl an : Nat → Bool), CX tt h0 cd bb wa wt n k (q + 1) → q < n → FF cd wt h0 q &&& Int32.ofNat 255 = Int32.ofNat tg → rf cd X34 (Ye wa) h k → DA cd wa k N (dE z em fl an zrs zrr nn6 nn3) (tC c em) → 1 ≤ N → N ≤ 24 → (∀ i, i < N → em i = false → rk em i < z.1) → 1 ≤ cn em N → (tg = 15 ∨ tg = 16) → ∀ {K : (Nat → Bool) → Nat → Except pe (EN × Nat)}, r = bd (tM (FF cd wt h0) n tg (cn em N) q) K →
      ∀ {G : Int32 → am_H → Prop}, (∀ (g : Nat → Bool) (q' : Nat) (k' : am_H) (a5 : Int32), CX tt h0 cd bb wa wt n k' (q' + 1) → q' < n → a5 = FF cd wt h0 q' &&& Int32.ofNat 255 → rf cd X34 (Ye wa) h k' → DA cd wa k' N (dE z em (if tg = 15 then g else fl) (if tg = 15 then an else g) zrs zrr nn6 nn3) (tC c em) → r = K g q' → (∃ v q2, K g q' = bd (tX (FF cd wt h0) n q' v) q2) ∨ (∃ t E q2, K g q' = bd (tM (FF cd wt h0) n t E q') q2) → G a5 k') → (∀ g q', (∃ v q2, K g q' = bd (tX (FF cd wt h0) n q' v) q2) ∨ (∃ t E q2, K g q' = bd (tM (FF cd wt h0) n t E q') q2)) →
      ∃ (Q4 : am_H → Prop) (X4 : String → am_H → Prop), am_Ct tt 35 [.ref (cd 33), .int (Int32.ofNat (cn em N))] k (am_pV Q4 X4) ∧ (∀ h3, Q4 h3 → am_K h3 (cd 33) = 4 ∧ ∃ (Q6 : am_H → Prop) (X6 : String → am_H → Prop), am_Ct tt 36 [.ref (cd 33), .ref (cd (c_ar (1 - wa))), .int (Int32.ofNat tg)] h3 (am_pV Q6 X6) ∧ (∀ h5, Q6 h5 → am_K h5 (cd 33) = 4 ∧ ∃ q7, am_R h5 3 0 (cd 33) = some q7 ∧ (am_K h5 q7 = 3 ∧ ∃ (Q9 : Int32 → am_H → Prop) (X9 : String → am_H → Prop), am_Ct tt 26 [.ref q7] h5 (am_pI Q9 X9) ∧ (∀ x10 h8, Q9 x10 h8 → G x10 h8) ∧ (∀ E h2, X9 E h2 → ER cd wa h0 r E h2))) ∧ (∀ E h2, X6 E h2 → ER cd wa h0 r E h2)) ∧ (∀ E h2, X4 E h2 → ER cd wa h0 r E h2) := by
    intro k q N tg em fl an y hq e5 fk da h1 h24 hm hE htg K hr2 G hG hK
    have F := y.f
    have cl := cn_le em N
    rw [tM, if_pos hq, if_pos e5] at hr2
    refine ⟨_, _, ct_takeFlags y (by omega) hE (by omega) rfl, fun h3 w => ?_, fun E h2 w => w.bd hr2⟩
    obtain ⟨g, p', w1, y3, f3, w4⟩ := w
    rw [show q + 1 - 1 = q from rfl] at w1
    rw [bd_ok w1] at hr2
    have da3 : DA cd wa h3 N (dE z em fl an zrs zrr nn6 nn3) (tC c em) := da.k ci f3 (by unfold Yc c_ar; omega) (fun i hi => by unfold X34 c_un; omega) (fun i g hi => by unfold Yc; omega)
    refine ⟨y3.f.2.2.1, _, _, ct_markEmpties y3 h24 da3 (fun i hi e => hs _ (hm i hi e)) (g := g) (fun i hi e => w4 _ (cn_lt hi e)) (fl' := if tg = 15 then g else fl) (an' := if tg = 15 then an else g) ?_, fun h5 w => ?_, fun _ _ z => z.elim⟩
    · rcases htg with rfl | rfl
      · exact Or.inl ⟨rfl, rfl, rfl⟩
      · exact Or.inr ⟨rfl, rfl, rfl⟩
    · obtain ⟨y5, f5, da5⟩ := w
      have F5 := y5.f
      refine ⟨F5.2.2.1, cd 31, F5.2.2.2.2.1, ?_⟩
      have fk5 : rf cd X34 (Ye wa) h h5 := fk.tr ((f3.mo (fun _ z => z) (fun c g k z => Yc_e z)).tr (f5.mo (fun _ z => z.elim) (fun c g k z => Ym_e z)))
      have step : ∃ K2 : Int32 → Nat → Except pe (EN × Nat), r = bd (tB (FF cd wt h0) n p') K2 := by
        rcases hK g p' with ⟨v, q2, e⟩ | ⟨t, E, q2, e⟩
        · rw [hr2, e, tX_B, bd_as]; exact ⟨_, rfl⟩
        · refine ⟨fun _ _ => r, ?_⟩
          by_cases c1 : p' < n
          · rw [bd_ok (show tB (FF cd wt h0) n p' = .ok (_, _) from by rw [tB, if_pos c1])]
          · rw [hr2, e, tM, if_neg c1, bd_er (show tB (FF cd wt h0) n p' = .error (1, n) from by rw [tB, if_neg c1])]; rfl
      obtain ⟨K2, hr3⟩ := step
      refine y5.b hr3 fun v h6 hn ev e6 x6 r6 => ?_
      have f6 : rf cd Xn Yc h5 h6 := by rw [e6]; exact mvf
      exact hG g p' h6 v x6 hn ev (fk5.tr (f6.mo (fun _ z => z.elim) (fun c g k z => Yc_e z))) (da5.k ci f6 (by unfold Yc c_ar; omega) (fun i hi z => z) (fun i g hi => by unfold Yc; omega)) hr2 (hK g p')
  have l138 : ∀ (k : am_H) (q N : Nat) (em fl : Nat → Bool) (a5 : Int32), CX tt h0 cd bb wa wt n k (q + 1) → q < n → a5 = FF cd wt h0 q &&& Int32.ofNat 255 → rf cd X34 (Ye wa) h k → DA cd wa k N (dE z em fl fls zrs zrr nn6 nn3) (tC c em) → 1 ≤ N → N ≤ 24 → (∀ i, i < N → em i = false → rk em i < z.1) → 1 ≤ cn em N → r = bd (tM (FF cd wt h0) n 16 (cn em N) q) (fun an p5 => bd (tX (FF cd wt h0) n p5 17) (fun _ p6 => .ok ((N, em, fl, an), p6))) →
      am_Ev tt 32 138 [some (.ref (cd 33)), none, some (.ref (cd (c_ar (1 - wa)))), none, some (.int (Int32.ofNat (cn em N))), some (.int a5)] [] k (am_pV (enQ tt h0 cd bb wa wt n h z c r) (ER cd wa h0 r)) := by
    intro k q N em fl a5 y hq e5 fk da h1 h24 hm hE hr2
    have F := y.f
    have cl := cn_le em N
    refine vc_32_138 tt _ _ _ _ _ _ _ ?_
    simp (disch := omega) only [F, qi_lt, qi_le, qi_eq, qi_nn, qi_in, qi_add, qi_l, ql_i, ql_lt, ql_le, ql_eq, ql_add, qc_lt, qc_eq, qc_ge, qc_gt, qc_le, true_and, and_true, and_self, true_or, or_true, false_or, or_false, false_and, and_false, not_true_eq_false, not_false_eq_true, Classical.not_not, true_implies, false_implies, implies_true, exists_eq_left, exists_eq_left', Option.some.injEq, reduceIte, Nat.reduceEqDiff, Nat.reduceLT, Nat.reduceLeDiff, Nat.reduceAdd, Nat.reduceSub, Nat.reduceMul, eq_self, ne_eq, and_imp, forall_const, reduceCtorEq, am_w, List.map_cons, List.map_nil, List.sum_cons, List.sum_nil, Value.category, Nat.zero_le, Nat.le_refl]
    refine ⟨fun z => by omega, fun _ => ⟨fun c1 => ?_, fun c1 => ?_⟩⟩
    · rw [tM, if_pos hq, ← e5, if_neg c1] at hr2
      exact l172 k q N em fl fls a5 y hq e5 fk da h1 h24 hm hr2
    · rw [c1]
      rw [c1] at e5
      refine mk k q N 16 em fl fls y hq e5.symm fk da h1 h24 hm hE (Or.inr rfl) hr2 (fun g q' k' a' y' hq' e' fk' da' r' _ => ?_) (fun g q' => Or.inl ⟨_, _, rfl⟩)
      exact l172 k' q' N em fl g a' y' hq' e' fk' da' h1 h24 hm r'
  have l97 : ∀ (k : am_H) (q N : Nat) (em : Nat → Bool) (a5 : Int32), CX tt h0 cd bb wa wt n k (q + 1) → q < n → a5 = FF cd wt h0 q &&& Int32.ofNat 255 → rf cd X34 Yc h k → (∀ j, j < N → am_A k (cd 34) j = b01 (em j)) → 1 ≤ N → N ≤ 24 → (∀ i, i < N → em i = false → rk em i < z.1) → (cn em N = 0 ∧ r = bd (tX (FF cd wt h0) n q 17) (fun _ p6 => .ok ((N, em, fls, fls), p6)) ∨ 1 ≤ cn em N ∧ r = bd (tM (FF cd wt h0) n 15 (cn em N) q) (fun fl p4 => bd (tM (FF cd wt h0) n 16 (cn em N) p4) (fun an p5 => bd (tX (FF cd wt h0) n p5 17) (fun _ p6 => .ok ((N, em, fl, an), p6))))) →
      am_Ev tt 32 97 [some (.ref (cd 33)), some (.ref (cd 32)), some (.ref (cd (c_ar (1 - wa)))), some (.int (Int32.ofNat N)), some (.int (Int32.ofNat (cn em N))), some (.int a5)] [] k (am_pV (enQ tt h0 cd bb wa wt n h z c r) (ER cd wa h0 r)) := by
    intro k q N em a5 y hq e5 fk he h1 h24 hm hr2
    have F := y.f
    have cl := cn_le em N
    refine vc_32_97 tt _ _ _ _ _ _ _ _ _ ?_
    simp (disch := omega) only [F, qi_lt, qi_le, qi_eq, qi_nn, qi_in, qi_add, qi_l, ql_i, ql_lt, ql_le, ql_eq, ql_add, qc_lt, qc_eq, qc_ge, qc_gt, qc_le, true_and, and_true, and_self, true_or, or_true, false_or, or_false, false_and, and_false, not_true_eq_false, not_false_eq_true, Classical.not_not, true_implies, false_implies, implies_true, exists_eq_left, exists_eq_left', Option.some.injEq, reduceIte, Nat.reduceEqDiff, Nat.reduceLT, Nat.reduceLeDiff, Nat.reduceAdd, Nat.reduceSub, Nat.reduceMul, eq_self, ne_eq, and_imp, forall_const, reduceCtorEq, am_w, List.map_cons, List.map_nil, List.sum_cons, List.sum_nil, Value.category, Nat.zero_le, Nat.le_refl]
    refine ⟨_, _, ct_layOut y h24 (z := z) ?_ z24 (c := c) (fun g hg => ?_) he hm ?_, fun k2 w => ?_, fun _ _ z => z.elim⟩
    · refine ⟨?_, fun g hg => ?_⟩
      · rw [fk.i ci (by unfold Yc; omega)]; exact fr.1
      · rw [fk.a ci (by unfold X34; omega), fk.a ci (by unfold X34; omega)]; exact fr.2 g hg
    · rw [fk.a ci (by unfold X34; omega)]; exact hc g hg
    · rw [fk.i ci (by unfold Yc; omega)]; exact hz
    · obtain ⟨y2, f2, da⟩ := w
      have F2 := y2.f
      have fk2 : rf cd X34 (Ye wa) h k2 := (fk.mo (fun _ z => z) (fun c g k z => Yc_e z)).tr (f2.mo (fun _ z => z.elim) (fun c g k z => Yl_e z))
      rcases hr2 with ⟨e0, hr2⟩ | ⟨e0, hr2⟩
      · rw [e0]
        refine ⟨fun _ => ?_, fun z => absurd (Nat.le_refl _) z⟩
        refine vc_32_138 tt _ _ _ _ _ _ _ ⟨fun _ => ?_, fun z => absurd (Int32.le_refl _) z⟩
        exact l172 k2 q N em fls fls a5 y2 hq e5 fk2 da h1 h24 hm hr2
      · refine ⟨fun z => by omega, fun _ => ⟨fun c1 => ?_, fun c1 => ?_⟩⟩
        · rw [tM, if_pos hq, ← e5, if_neg c1] at hr2
          exact l138 k2 q N em fls a5 y2 hq e5 fk2 da h1 h24 hm e0 hr2
        · rw [c1]
          rw [c1] at e5
          simp (disch := omega) only [F2, qi_lt, qi_le, qi_eq, qi_nn, qi_in, qi_add, qi_l, ql_i, ql_lt, ql_le, ql_eq, ql_add, qc_lt, qc_eq, qc_ge, qc_gt, qc_le, true_and, and_true, and_self, true_or, or_true, false_or, or_false, false_and, and_false, not_true_eq_false, not_false_eq_true, Classical.not_not, true_implies, false_implies, implies_true, exists_eq_left, exists_eq_left', Option.some.injEq, reduceIte, Nat.reduceEqDiff, Nat.reduceLT, Nat.reduceLeDiff, Nat.reduceAdd, Nat.reduceSub, Nat.reduceMul, eq_self, ne_eq, and_imp, forall_const, reduceCtorEq, am_w, List.map_cons, List.map_nil, List.sum_cons, List.sum_nil, Value.category, Nat.zero_le, Nat.le_refl]
          refine mk k2 q N 15 em fls fls y2 hq e5.symm fk2 da h1 h24 hm e0 (Or.inl rfl) hr2 (fun g q' k' a' y' hq' e' fk' da' r' _ => ?_) (fun g q' => Or.inr ⟨_, _, _, rfl⟩)
          exact l138 k' q' N em g a' y' hq' e' fk' da' h1 h24 hm e0 r'
  have l32 : ∀ (N : Nat), 1 ≤ N → N ≤ 24 → z.1 ≤ N → ∀ (q : Nat), (r = if N = z.1 then bd (tX (FF cd wt h0) n q 17) (fun _ p6 => .ok ((N, fls, fls, fls), p6)) else bd (tX (FF cd wt h0) n q 14) fun _ p1 => bd (tN (FF cd wt h0) n p1 (l64 ((N + 7) / 8)) (l64 ((N + 7) / 8))) fun _ p2 => bd (tR (FF cd wt h0) n p2 N) fun em p3 => if ¬ cn em N = N - z.1 then .error (5, p1) else bd (tM (FF cd wt h0) n 15 (N - z.1) p3) fun fl p4 => bd (tM (FF cd wt h0) n 16 (N - z.1) p4) fun an p5 => bd (tX (FF cd wt h0) n p5 17) fun _ p6 => .ok ((N, em, fl, an), p6)) → ∀ (d i : Nat) (k : am_H), d + i = 24 → CX tt h0 cd bb wa wt n k q → rf cd X34 Yc h k → (∀ j, j < i → am_A k (cd 34) j = Int32.ofNat 0) →
      am_Ev tt 32 32 [some (.ref (cd 33)), some (.ref (cd 32)), some (.ref (cd (c_ar (1 - wa)))), some (.int (Int32.ofNat N)), some (.int (Int32.ofNat (N - z.1))), some (.int (Int32.ofNat i))] [] k (am_pV (enQ tt h0 cd bb wa wt n h z c r) (ER cd wa h0 r)) := by
    intro N h1 h24 hzN q hr2 d
    induction d with
    | zero =>
      intro i k e y fk hj
      have F := y.f
      have ei : i = 24 := by omega
      rw [ei] at hj ⊢
      refine vc_32_32 tt _ _ _ _ _ _ _ _ _ ?_
      simp (disch := omega) only [F, qi_lt, qi_le, qi_eq, qi_nn, qi_in, qi_add, qi_l, ql_i, ql_lt, ql_le, ql_eq, ql_add, qc_lt, qc_eq, qc_ge, qc_gt, qc_le, true_and, and_true, and_self, true_or, or_true, false_or, or_false, false_and, and_false, not_true_eq_false, not_false_eq_true, Classical.not_not, true_implies, false_implies, implies_true, exists_eq_left, exists_eq_left', Option.some.injEq, reduceIte, Nat.reduceEqDiff, Nat.reduceLT, Nat.reduceLeDiff, Nat.reduceAdd, Nat.reduceSub, Nat.reduceMul, eq_self, ne_eq, and_imp, forall_const, reduceCtorEq, am_w, List.map_cons, List.map_nil, List.sum_cons, List.sum_nil, Value.category, Nat.zero_le, Nat.le_refl]
      have sp : ∃ K2 : Int32 → Nat → Except pe (EN × Nat), r = bd (tB (FF cd wt h0) n q) K2 := by
        by_cases c1 : N = z.1
        · rw [if_pos c1, tX_B, bd_as] at hr2; exact ⟨_, hr2⟩
        · rw [if_neg c1, tX_B, bd_as] at hr2; exact ⟨_, hr2⟩
      obtain ⟨K2, hr3⟩ := sp
      refine (y.b hr3 fun v h3 hn ev e3 x3 r3 => ?_).2
      have f3 : rf cd X34 Yc h h3 := by rw [e3]; exact fk.tr (rf.mv ⟨rfl, rfl, rfl⟩)
      have ea3 : am_A h3 = am_A k := by rw [e3]; rfl
      have F3 := x3.f
      refine ⟨fun c1 => ?_, fun c1 => ?_⟩
      · have eN : N = z.1 := by omega
        rw [if_pos eN] at hr2
        have := l97 h3 q N fls v x3 hn ev f3 (fun j hj2 => by rw [ea3]; exact hj j (by omega)) h1 h24 (fun i hi _ => by rw [rk_f]; omega) (Or.inl ⟨cn_f N, hr2⟩)
        rw [cn_f] at this
        rw [show N - z.1 = 0 by omega]
        exact this
      · rw [if_neg (by omega)] at hr2
        have hr4 := hr2
        rw [tX, if_pos hn, ← ev] at hr4
        refine ⟨fun c2 => ?_, fun c2 => ?_⟩
        · rw [if_pos c2] at hr4
          have hr5 : r = bd (bd (tN (FF cd wt h0) n (q + 1) (l64 ((N + 7) / 8)) (l64 ((N + 7) / 8))) fun _ p2 => bd (tR (FF cd wt h0) n p2 N) fun g p3 => if ¬ cn g N = N - z.1 then .error (5, q + 1) else .ok (g, p3)) (fun em p3 => bd (tM (FF cd wt h0) n 15 (N - z.1) p3) fun fl p4 => bd (tM (FF cd wt h0) n 16 (N - z.1) p4) fun an p5 => bd (tX (FF cd wt h0) n p5 17) fun _ p6 => .ok ((N, em, fl, an), p6)) := by
            rw [hr4, bd_as]
            show bd (tN (FF cd wt h0) n (q + 1) (l64 ((N + 7) / 8)) (l64 ((N + 7) / 8))) _ = _
            congr 1
            funext _ p2
            rw [bd_as]
            congr 1
            funext em p3
            split <;> rfl
          refine vc_32_81 tt _ _ _ _ _ _ _ _ ?_
          simp (disch := omega) only [F3, qi_lt, qi_le, qi_eq, qi_nn, qi_in, qi_add, qi_l, ql_i, ql_lt, ql_le, ql_eq, ql_add, qc_lt, qc_eq, qc_ge, qc_gt, qc_le, true_and, and_true, and_self, true_or, or_true, false_or, or_false, false_and, and_false, not_true_eq_false, not_false_eq_true, Classical.not_not, true_implies, false_implies, implies_true, exists_eq_left, exists_eq_left', Option.some.injEq, reduceIte, Nat.reduceEqDiff, Nat.reduceLT, Nat.reduceLeDiff, Nat.reduceAdd, Nat.reduceSub, Nat.reduceMul, eq_self, ne_eq, and_imp, forall_const, reduceCtorEq, am_w, List.map_cons, List.map_nil, List.sum_cons, List.sum_nil, Value.category, Nat.zero_le, Nat.le_refl]
          refine ⟨_, _, ct_takeEmptyRow x3 h1 h24 (by omega) rfl, fun k4 w => ?_, fun E h2 w => w.bd hr5⟩
          obtain ⟨em, p', w1, y4, f4, w4, w5⟩ := w
          rw [bd_ok w1] at hr5
          have F4 := y4.f
          simp (disch := omega) only [F4, qi_lt, qi_le, qi_eq, qi_nn, qi_in, qi_add, qi_l, ql_i, ql_lt, ql_le, ql_eq, ql_add, qc_lt, qc_eq, qc_ge, qc_gt, qc_le, true_and, and_true, and_self, true_or, or_true, false_or, or_false, false_and, and_false, not_true_eq_false, not_false_eq_true, Classical.not_not, true_implies, false_implies, implies_true, exists_eq_left, exists_eq_left', Option.some.injEq, reduceIte, Nat.reduceEqDiff, Nat.reduceLT, Nat.reduceLeDiff, Nat.reduceAdd, Nat.reduceSub, Nat.reduceMul, eq_self, ne_eq, and_imp, forall_const, reduceCtorEq, am_w, List.map_cons, List.map_nil, List.sum_cons, List.sum_nil, Value.category, Nat.zero_le, Nat.le_refl]
          have sp : ∃ K2 : Int32 → Nat → Except pe (EN × Nat), r = bd (tB (FF cd wt h0) n p') K2 := by
            refine ⟨fun _ _ => r, ?_⟩
            by_cases c1 : p' < n
            · rw [bd_ok (show tB (FF cd wt h0) n p' = .ok (_, _) from by rw [tB, if_pos c1])]
            · rw [hr5, tM, if_neg c1, bd_er (show tB (FF cd wt h0) n p' = .error (1, n) from by rw [tB, if_neg c1])]; rfl
          obtain ⟨K3, hr6⟩ := sp
          refine (y4.b hr6 fun v6 h6 hn6 ev6 e6 x6 r6 => ?_).2
          have rc := rk_cn em N
          have := l97 h6 p' N em v6 x6 hn6 ev6 (by rw [e6]; exact f3.tr (f4.tr (rf.mv ⟨rfl, rfl, rfl⟩))) (fun j hj2 => by rw [e6]; exact w5 j hj2) h1 h24 (fun i hi e => by have := rk_lt hi e; omega) (Or.inr ⟨by omega, by rw [w4]; exact hr5⟩)
          rw [w4] at this
          exact this
        · rw [if_neg c2] at hr4
          simp (disch := omega) only [F3, qi_lt, qi_le, qi_eq, qi_nn, qi_in, qi_add, qi_l, ql_i, ql_lt, ql_le, ql_eq, ql_add, qc_lt, qc_eq, qc_ge, qc_gt, qc_le, true_and, and_true, and_self, true_or, or_true, false_or, or_false, false_and, and_false, not_true_eq_false, not_false_eq_true, Classical.not_not, true_implies, false_implies, implies_true, exists_eq_left, exists_eq_left', Option.some.injEq, reduceIte, Nat.reduceEqDiff, Nat.reduceLT, Nat.reduceLeDiff, Nat.reduceAdd, Nat.reduceSub, Nat.reduceMul, eq_self, ne_eq, and_imp, forall_const, reduceCtorEq, am_w, List.map_cons, List.map_nil, List.sum_cons, List.sum_nil, Value.category, Nat.zero_le, Nat.le_refl]
          exact ⟨_, _, x3.fl (by omega) hr4, fun _ z => z.elim, fun _ _ z => z⟩
    | succ d ih =>
      intro i k e y fk hj
      have F := y.f
      have hi : i < 24 := by omega
      have q1 : ¬ 24 ≤ i := by omega
      refine vc_32_32 tt _ _ _ _ _ _ _ _ _ ?_
      simp (disch := omega) only [F, hi, q1, z_1, qi_lt, qi_le, qi_eq, qi_nn, qi_in, qi_add, qi_l, ql_i, ql_lt, ql_le, ql_eq, ql_add, qc_lt, qc_eq, qc_ge, qc_gt, qc_le, true_and, and_true, and_self, true_or, or_true, false_or, or_false, false_and, and_false, not_true_eq_false, not_false_eq_true, Classical.not_not, true_implies, false_implies, implies_true, exists_eq_left, exists_eq_left', Option.some.injEq, reduceIte, Nat.reduceEqDiff, Nat.reduceLT, Nat.reduceLeDiff, Nat.reduceAdd, Nat.reduceSub, Nat.reduceMul, eq_self, ne_eq, and_imp, forall_const, reduceCtorEq, am_w, List.map_cons, List.map_nil, List.sum_cons, List.sum_nil, Value.category, Nat.zero_le, Nat.le_refl]
      refine ih (i + 1) _ (by omega) (y.on (rf.sA (by unfold XA; omega)) rfl rfl (fun _ _ => rfl)) (fk.tr (rf.sA rfl)) (fun j hj2 => ?_)
      simp only [am_hs, true_and, and_true, and_self, true_or, or_true, false_or, or_false, false_and, and_false, not_true_eq_false, not_false_eq_true, Classical.not_not, true_implies, false_implies, implies_true, exists_eq_left, exists_eq_left', Option.some.injEq, reduceIte, Nat.reduceEqDiff, Nat.reduceLT, Nat.reduceLeDiff, Nat.reduceAdd, Nat.reduceSub, Nat.reduceMul, eq_self, ne_eq, and_imp, forall_const, reduceCtorEq, am_w, List.map_cons, List.map_nil, List.sum_cons, List.sum_nil, Value.category, Nat.zero_le, Nat.le_refl]
      by_cases c : j = i
      · rw [if_pos c]
      · rw [if_neg c]; exact hj j (by omega)
  have em1 : (if Int32.ofNat 1 < Int32.ofNat z.1 then Int32.ofNat z.1 else Int32.ofNat 1).toInt64 = l64 (if z.1 = 0 then 1 else z.1) := by
    have e1 : (Int32.ofNat 1 < Int32.ofNat z.1) = (1 < z.1) := qi_lt (by omega) (by omega)
    by_cases c1 : 1 < z.1
    · rw [if_pos (by rw [e1]; exact c1), if_neg (by omega), qi_l (by omega)]
    · rw [if_neg (by rw [e1]; exact c1), qi_l (by omega)]
      by_cases c2 : z.1 = 0
      · rw [if_pos c2]
      · rw [if_neg c2, show z.1 = 1 by omega]
  have i7 := fr.1
  unfold pEN at hr
  refine vc_32_0 tt _ _ _ h _ _ ?_
  simp (disch := omega) only [f, i7, em1, true_and, and_true, and_self, true_or, or_true, false_or, or_false, false_and, and_false, not_true_eq_false, not_false_eq_true, Classical.not_not, true_implies, false_implies, implies_true, exists_eq_left, exists_eq_left', Option.some.injEq, reduceIte, Nat.reduceEqDiff, Nat.reduceLT, Nat.reduceLeDiff, Nat.reduceAdd, Nat.reduceSub, Nat.reduceMul, eq_self, ne_eq, and_imp, forall_const, reduceCtorEq, am_w, List.map_cons, List.map_nil, List.sum_cons, List.sum_nil, Value.category, Nat.zero_le, Nat.le_refl]
  refine (x.nu hr fun v q2 h2 ev e2 x2 r2 => ?_).2
  obtain ⟨N, rfl, w1, w2, w3⟩ := tN_n (by split <;> omega) (by omega) ev
  rw [w3] at r2
  have f2 := x2.f
  have i72 : am_I h2 5 7 (cd 32) = Int32.ofNat z.1 := by rw [e2, cp]; simp only [am_hs, true_and, and_true, and_self, true_or, or_true, false_or, or_false, false_and, and_false, not_true_eq_false, not_false_eq_true, Classical.not_not, true_implies, false_implies, implies_true, exists_eq_left, exists_eq_left', Option.some.injEq, reduceIte, Nat.reduceEqDiff, Nat.reduceLT, Nat.reduceLeDiff, Nat.reduceAdd, Nat.reduceSub, Nat.reduceMul, eq_self, ne_eq, and_imp, forall_const, reduceCtorEq, am_w, List.map_cons, List.map_nil, List.sum_cons, List.sum_nil, Value.category, Nat.zero_le, Nat.le_refl]; exact i7
  have w1' : 1 ≤ N ∧ z.1 ≤ N := by
    by_cases c2 : z.1 = 0
    · rw [if_pos c2] at w1; omega
    · rw [if_neg c2] at w1; omega
  simp (disch := omega) only [f2, i72, qi_sub, qi_lt, qi_le, qi_eq, qi_nn, qi_in, qi_add, qi_l, ql_i, ql_lt, ql_le, ql_eq, ql_add, qc_lt, qc_eq, qc_ge, qc_gt, qc_le, true_and, and_true, and_self, true_or, or_true, false_or, or_false, false_and, and_false, not_true_eq_false, not_false_eq_true, Classical.not_not, true_implies, false_implies, implies_true, exists_eq_left, exists_eq_left', Option.some.injEq, reduceIte, Nat.reduceEqDiff, Nat.reduceLT, Nat.reduceLeDiff, Nat.reduceAdd, Nat.reduceSub, Nat.reduceMul, eq_self, ne_eq, and_imp, forall_const, reduceCtorEq, am_w, List.map_cons, List.map_nil, List.sum_cons, List.sum_nil, Value.category, Nat.zero_le, Nat.le_refl]
  exact l32 N w1'.1 w2 w1'.2 q2 r2 24 0 h2 (by omega) x2 (by rw [e2]; exact rf.mv ⟨rfl, rfl, rfl⟩) (fun j hj => absurd hj (Nat.not_lt_zero j))
end RE3
