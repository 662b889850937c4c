/-! deps: 10b -/
/-! ===== the class's tape: bytes are added ===== -/
def no_x : String → am_H → Prop := fun _ _ => False
/-! 68 yX6_addByte -/
theorem vc_68_0 (tt : Nat → Nat) (a0 : Nat) (a1 : Int32) (h : am_H) (Q : am_H → Prop) (Qx : String → am_H → Prop) (q :
  (am_K h a0 = 7 ∧
  (((am_I h 6 1 a0) < (Int32.ofNat 5000) →
   (am_K h a0 = 7 ∧ ∃ q1, am_R h 6 0 a0 = some q1 ∧
   (am_K h a0 = 7 ∧
   (vp_in (am_I h 6 1 a0) (am_N h q1) ∧ ∃ w2, ((am_K h q1 = 23 ∧ w2 = ((a1).toInt8.toInt32).toInt8.toInt32) ∨ (am_K h q1 = 24 ∧ w2 = ((a1).toInt8.toInt32 &&& 1))) ∧
   (am_K h a0 = 7 ∧
   (am_K h a0 = 7 ∧
   Q (am_sI (am_sA h q1 ((am_I h 6 1 a0)).toNatClampNeg w2) 6 1 a0 ((am_I h 6 1 a0) + (Int32.ofNat 1))))))))) ∧
  (¬ ((am_I h 6 1 a0) < (Int32.ofNat 5000)) →
   (am_K h a0 = 7 ∧ ((Int32.ofNat 1) = (Int32.ofNat 0) ∨ (Int32.ofNat 1) = (Int32.ofNat 1)) ∧
   Q (am_sI h 6 2 a0 (Int32.ofNat 1))))))) :
  am_Ev tt 68 0 [some (.ref a0), some (.int a1)] [] h (am_pV Q Qx) := am_vc 20 [] q

/-! 69 yX6_addBytes -/
theorem vc_69_0 (tt : Nat → Nat) (a0 : Nat) (a1 : Nat) (a2 : Int32) (h : am_H) (Q : am_H → Prop) (Qx : String → am_H → Prop) (q :
  am_Ev tt 69 2 [some (.ref a0), some (.ref a1), some (.int a2), some (.int (Int32.ofNat 0))] [] h (am_pV Q Qx)) :
  am_Ev tt 69 0 [some (.ref a0), some (.ref a1), some (.int a2), none] [] h (am_pV Q Qx) := am_vc 5 [(2, [true, true, true, true])] q
theorem vc_69_2 (tt : Nat → Nat) (a0 : Nat) (a1 : Nat) (a2 : Int32) (a3 : Int32) (h : am_H) (Q : am_H → Prop) (Qx : String → am_H → Prop) (q :
  ((a2 ≤ a3 →
   Q h) ∧
  (¬ (a2 ≤ a3) →
   ((20 < am_K h a1 ∧ (am_K h a1 ≤ 27 ∨ am_K h a1 = 31)) ∧
   (((Int32.ofNat (am_N h a1)) ≤ a3 →
    Q h) ∧
   (¬ ((Int32.ofNat (am_N h a1)) ≤ a3) →
    ((am_K h a1 = 23 ∨ am_K h a1 = 24) ∧ vp_in a3 (am_N h a1) ∧
    (am_K h a0 = 7 ∧ ∃ (Q2 : am_H → Prop) (X2 : String → am_H → Prop), am_Ct tt 68 [.ref a0, .int (am_A h a1 (a3).toNatClampNeg)] h (am_pV Q2 X2) ∧ (∀ h1, Q2 h1 →
     am_Ev tt 69 2 [some (.ref a0), some (.ref a1), some (.int a2), some (.int (a3 + (Int32.ofNat 1)))] [] h1 (am_pV Q Qx)) ∧ (∀ E3 h1, X2 E3 h1 → Qx E3 h1))))))))) :
  am_Ev tt 69 2 [some (.ref a0), some (.ref a1), some (.int a2), some (.int a3)] [] h (am_pV Q Qx) := am_vc 17 [(2, [true, true, true, true])] q

/-! 70 yX6_addLittle -/
theorem vc_70_0 (tt : Nat → Nat) (a0 : Nat) (a1 : Int64) (a3 : Int32) (h : am_H) (Q : am_H → Prop) (Qx : String → am_H → Prop) (q :
  am_Ev tt 70 3 [some (.ref a0), some (.long a1), none, some (.int a3), some (.int (Int32.ofNat 0))] [] h (am_pV Q Qx)) :
  am_Ev tt 70 0 [some (.ref a0), some (.long a1), none, some (.int a3), none] [] h (am_pV Q Qx) := am_vc 5 [(3, [true, true, false, true, true])] q
theorem vc_70_3 (tt : Nat → Nat) (a0 : Nat) (a1 : Int64) (a3 : Int32) (a4 : Int32) (h : am_H) (Q : am_H → Prop) (Qx : String → am_H → Prop) (q :
  ((a3 ≤ a4 →
   Q h) ∧
  (¬ (a3 ≤ a4) →
   (am_K h a0 = 7 ∧ ∃ (Q2 : am_H → Prop) (X2 : String → am_H → Prop), am_Ct tt 68 [.ref a0, .int (((a1).toUInt64 >>> ((((Int32.ofNat 8) * a4)).toInt64.toUInt64 &&& Int64.toUInt64 63)).toInt64).toInt32] h (am_pV Q2 X2) ∧ (∀ h1, Q2 h1 →
    am_Ev tt 70 3 [some (.ref a0), some (.long a1), none, some (.int a3), some (.int (a4 + (Int32.ofNat 1)))] [] h1 (am_pV Q Qx)) ∧ (∀ E3 h1, X2 E3 h1 → Qx E3 h1))))) :
  am_Ev tt 70 3 [some (.ref a0), some (.long a1), none, some (.int a3), some (.int a4)] [] h (am_pV Q Qx) := am_vc 16 [(3, [true, true, false, true, true])] q

/-! 71 yX6_addNumber -/
theorem vc_71_0 (tt : Nat → Nat) (a0 : Nat) (a1 : Int64) (h : am_H) (Q : am_H → Prop) (Qx : String → am_H → Prop) (q :
  am_Ev tt 71 2 [some (.ref a0), some (.long a1), none, some (.int (Int32.ofNat 0)), none, none] [] h (am_pV Q Qx)) :
  am_Ev tt 71 0 [some (.ref a0), some (.long a1), none, none, none, none] [] h (am_pV Q Qx) := am_vc 5 [(2, [true, true, false, true, false, false]), (60, [true, true, false, true, false, true])] q
theorem vc_71_2 (tt : Nat → Nat) (a0 : Nat) (a1 : Int64) (a3 : Int32) (h : am_H) (Q : am_H → Prop) (Qx : String → am_H → Prop) (q :
  (((Int32.ofNat 8) ≤ a3 →
   (((Int32.ofNat 8) ≤ a3 →
    ((0 : Nat) = 0 ∧
    (am_K h a0 = 7 ∧ ∃ (Q2 : am_H → Prop) (X2 : String → am_H → Prop), am_Ct tt 68 [.ref a0, .int (((Int32.ofNat 65280) >>> (a3 &&& 31)) ||| (Int32.ofNat 0))] h (am_pV Q2 X2) ∧ (∀ h1, Q2 h1 →
     am_Ev tt 71 60 [some (.ref a0), some (.long a1), none, some (.int a3), none, some (.int (Int32.ofNat 0))] [] h1 (am_pV Q Qx)) ∧ (∀ E3 h1, X2 E3 h1 → Qx E3 h1)))) ∧
   (¬ ((Int32.ofNat 8) ≤ a3) →
    ((0 : Nat) = 0 ∧
    (am_K h a0 = 7 ∧ ∃ (Q5 : am_H → Prop) (X5 : String → am_H → Prop), am_Ct tt 68 [.ref a0, .int (((Int32.ofNat 65280) >>> (a3 &&& 31)) ||| (((a1).toUInt64 >>> ((((Int32.ofNat 8) * a3)).toInt64.toUInt64 &&& Int64.toUInt64 63)).toInt64).toInt32)] h (am_pV Q5 X5) ∧ (∀ h4, Q5 h4 →
     am_Ev tt 71 60 [some (.ref a0), some (.long a1), none, some (.int a3), none, some (.int (Int32.ofNat 0))] [] h4 (am_pV Q Qx)) ∧ (∀ E6 h4, X5 E6 h4 → Qx E6 h4)))))) ∧
  (¬ ((Int32.ofNat 8) ≤ a3) →
   (((lg_cmp ((a1).toUInt64 >>> ((((Int32.ofNat 7) * (a3 + (Int32.ofNat 1)))).toInt64.toUInt64 &&& Int64.toUInt64 63)).toInt64 (Int64.ofNat 0)) = (Int32.ofNat 0) →
    (((Int32.ofNat 8) ≤ a3 →
     ((0 : Nat) = 0 ∧
     (am_K h a0 = 7 ∧ ∃ (Q8 : am_H → Prop) (X8 : String → am_H → Prop), am_Ct tt 68 [.ref a0, .int (((Int32.ofNat 65280) >>> (a3 &&& 31)) ||| (Int32.ofNat 0))] h (am_pV Q8 X8) ∧ (∀ h7, Q8 h7 →
      am_Ev tt 71 60 [some (.ref a0), some (.long a1), none, some (.int a3), none, some (.int (Int32.ofNat 0))] [] h7 (am_pV Q Qx)) ∧ (∀ E9 h7, X8 E9 h7 → Qx E9 h7)))) ∧
    (¬ ((Int32.ofNat 8) ≤ a3) →
     ((0 : Nat) = 0 ∧
     (am_K h a0 = 7 ∧ ∃ (Q11 : am_H → Prop) (X11 : String → am_H → Prop), am_Ct tt 68 [.ref a0, .int (((Int32.ofNat 65280) >>> (a3 &&& 31)) ||| (((a1).toUInt64 >>> ((((Int32.ofNat 8) * a3)).toInt64.toUInt64 &&& Int64.toUInt64 63)).toInt64).toInt32)] h (am_pV Q11 X11) ∧ (∀ h10, Q11 h10 →
      am_Ev tt 71 60 [some (.ref a0), some (.long a1), none, some (.int a3), none, some (.int (Int32.ofNat 0))] [] h10 (am_pV Q Qx)) ∧ (∀ E12 h10, X11 E12 h10 → Qx E12 h10)))))) ∧
   (¬ ((lg_cmp ((a1).toUInt64 >>> ((((Int32.ofNat 7) * (a3 + (Int32.ofNat 1)))).toInt64.toUInt64 &&& Int64.toUInt64 63)).toInt64 (Int64.ofNat 0)) = (Int32.ofNat 0)) →
    am_Ev tt 71 2 [some (.ref a0), some (.long a1), none, some (.int (a3 + (Int32.ofNat 1))), none, none] [] h (am_pV Q Qx)))))) :
  am_Ev tt 71 2 [some (.ref a0), some (.long a1), none, some (.int a3), none, none] [] h (am_pV Q Qx) := am_vc 36 [(2, [true, true, false, true, false, false]), (60, [true, true, false, true, false, true])] q
theorem vc_71_60 (tt : Nat → Nat) (a0 : Nat) (a1 : Int64) (a3 : Int32) (a5 : Int32) (h : am_H) (Q : am_H → Prop) (Qx : String → am_H → Prop) (q :
  ((a3 ≤ a5 →
   Q h) ∧
  (¬ (a3 ≤ a5) →
   (am_K h a0 = 7 ∧ ∃ (Q2 : am_H → Prop) (X2 : String → am_H → Prop), am_Ct tt 68 [.ref a0, .int (((a1).toUInt64 >>> ((((Int32.ofNat 8) * a5)).toInt64.toUInt64 &&& Int64.toUInt64 63)).toInt64).toInt32] h (am_pV Q2 X2) ∧ (∀ h1, Q2 h1 →
    am_Ev tt 71 60 [some (.ref a0), some (.long a1), none, some (.int a3), none, some (.int (a5 + (Int32.ofNat 1)))] [] h1 (am_pV Q Qx)) ∧ (∀ E3 h1, X2 E3 h1 → Qx E3 h1))))) :
  am_Ev tt 71 60 [some (.ref a0), some (.long a1), none, some (.int a3), none, some (.int a5)] [] h (am_pV Q Qx) := am_vc 16 [(2, [true, true, false, true, false, false]), (60, [true, true, false, true, false, true])] q

/-! 66 yX6_empty -/
theorem vc_66_0 (tt : Nat → Nat) (a0 : Nat) (h : am_H) (Q : am_H → Prop) (Qx : String → am_H → Prop) (q :
  (am_K h a0 = 7 ∧
  (am_K h a0 = 7 ∧ ((Int32.ofNat 0) = (Int32.ofNat 0) ∨ (Int32.ofNat 0) = (Int32.ofNat 1)) ∧
  Q (am_sI (am_sI h 6 1 a0 (Int32.ofNat 0)) 6 2 a0 (Int32.ofNat 0))))) :
  am_Ev tt 66 0 [some (.ref a0)] [] h (am_pV Q Qx) := am_vc 9 [] q

/-! 67 yX6_holds -/
theorem vc_67_0 (tt : Nat → Nat) (a0 : Nat) (a1 : Int64) (h : am_H) (Q : Int32 → am_H → Prop) (Qx : String → am_H → Prop) (q :
  (((lg_cmp a1 (Int64.ofNat 0)) < (Int32.ofNat 0) →
   (((Int32.ofNat 0) = (Int32.ofNat 0) ∨ (Int32.ofNat 0) = (Int32.ofNat 1)) ∧ Q (Int32.ofNat 0) h)) ∧
  (¬ ((lg_cmp a1 (Int64.ofNat 0)) < (Int32.ofNat 0)) →
   (am_K h a0 = 7 ∧
   (((Int32.ofNat 0) ≤ (lg_cmp a1 ((am_I h 6 1 a0)).toInt64) →
    (((Int32.ofNat 0) = (Int32.ofNat 0) ∨ (Int32.ofNat 0) = (Int32.ofNat 1)) ∧ Q (Int32.ofNat 0) h)) ∧
   (¬ ((Int32.ofNat 0) ≤ (lg_cmp a1 ((am_I h 6 1 a0)).toInt64)) →
    (((Int32.ofNat 1) = (Int32.ofNat 0) ∨ (Int32.ofNat 1) = (Int32.ofNat 1)) ∧ Q (Int32.ofNat 1) h))))))) :
  am_Ev tt 67 0 [some (.ref a0), some (.long a1), none] [] h (am_pI Q Qx) := am_vc 15 [] q

/-- a tape object t with its bytes b -/
def tp_s (h : am_H) (t b : Nat) : Prop := am_K h t = 7 ∧ am_R h 6 0 t = some b ∧ am_K h b = 23 ∧ am_N h b = 5000
/-- .. with n bytes -/
def tp_n (h : am_H) (t b n : Nat) : Prop := tp_s h t b ∧ am_I h 6 1 t = Int32.ofNat n ∧ n ≤ 5000
/-- one byte more -/
def tp_b (t b : Nat) (h : am_H) (v : Int32) : am_H := if am_I h 6 1 t < Int32.ofNat 5000 then am_sI (am_sA h b (am_I h 6 1 t).toNatClampNeg v.toInt8.toInt32) 6 1 t (am_I h 6 1 t + Int32.ofNat 1) else am_sI h 6 2 t (Int32.ofNat 1)
/-- bytes more -/
def tp_l (t b : Nat) (h : am_H) (l : List Int32) : am_H := l.foldl (tp_b t b) h
theorem tp_l_nil {t b : Nat} {h : am_H} : tp_l t b h [] = h := rfl
theorem tp_l_cons {t b : Nat} {h : am_H} {v : Int32} {l : List Int32} : tp_l t b h (v :: l) = tp_l t b (tp_b t b h v) l := rfl
theorem tp_l_app {t b : Nat} {h : am_H} {l l' : List Int32} : tp_l t b (tp_l t b h l) l' = tp_l t b h (l ++ l') := by simp [tp_l]
theorem tp_b_8 {t b : Nat} {h : am_H} {v w : Int32} (e : v.toInt8 = w.toInt8) : tp_b t b h v = tp_b t b h w := by unfold tp_b; rw [e]
theorem tp_b_fr : (∀ t b h v, am_K (tp_b t b h v) = am_K h) ∧ (∀ t b h v, am_N (tp_b t b h v) = am_N h) ∧ (∀ t b h v, am_R (tp_b t b h v) = am_R h) ∧ (∀ t b h v, am_C (tp_b t b h v) = am_C h) ∧ (∀ t b h v, am_J (tp_b t b h v) = am_J h) ∧ (∀ t b h v, am_B (tp_b t b h v) = am_B h) ∧ (∀ t b h v, am_U (tp_b t b h v) = am_U h) ∧ (∀ t b h v, am_V (tp_b t b h v) = am_V h) := by
  refine ⟨?_, ?_, ?_, ?_, ?_, ?_, ?_, ?_⟩ <;> intro t b h v <;> unfold tp_b <;> split <;> rfl
theorem tp_b_I {t b : Nat} {h : am_H} {v : Int32} {c k a : Nat} (e : ¬ (c = 6 ∧ a = t)) : am_I (tp_b t b h v) c k a = am_I h c k a := by
  unfold tp_b; split <;> simp only [am_hs] <;> rw [if_neg (fun z => e ⟨z.1, z.2.2⟩)]
theorem tp_b_A {t b : Nat} {h : am_H} {v : Int32} {a : Nat} (e : a ≠ b) : am_A (tp_b t b h v) a = am_A h a := by
  unfold tp_b; split
  · funext j; simp only [am_hs]; rw [if_neg (fun z => e z.1)]
  · rfl
theorem tp_l_fr : (∀ t b l h, am_K (tp_l t b h l) = am_K h) ∧ (∀ t b l h, am_N (tp_l t b h l) = am_N h) ∧ (∀ t b l h, am_R (tp_l t b h l) = am_R h) ∧ (∀ t b l h, am_C (tp_l t b h l) = am_C h) ∧ (∀ t b l h, am_J (tp_l t b h l) = am_J h) ∧ (∀ t b l h, am_B (tp_l t b h l) = am_B h) ∧ (∀ t b l h, am_U (tp_l t b h l) = am_U h) ∧ (∀ t b l h, am_V (tp_l t b h l) = am_V h) := by
  refine ⟨?_, ?_, ?_, ?_, ?_, ?_, ?_, ?_⟩ <;> intro t b l <;> induction l with
  | nil => intro h; rfl
  | cons v l ih => intro h; rw [tp_l_cons, ih]; simp only [tp_b_fr]
theorem tp_l_I {t b : Nat} {c k a : Nat} (e : ¬ (c = 6 ∧ a = t)) : ∀ {l : List Int32} {h : am_H}, am_I (tp_l t b h l) c k a = am_I h c k a
  | [], _ => rfl
  | v :: l, h => by rw [tp_l_cons, tp_l_I e, tp_b_I e]
theorem tp_l_A {t b a : Nat} (e : a ≠ b) : ∀ {l : List Int32} {h : am_H}, am_A (tp_l t b h l) a = am_A h a
  | [], _ => rfl
  | v :: l, h => by rw [tp_l_cons, tp_l_A e, tp_b_A e]
theorem tp_b_s {t b t' b' : Nat} {h : am_H} {v : Int32} : tp_s (tp_b t b h v) t' b' = tp_s h t' b' := by unfold tp_s; simp only [tp_b_fr]
theorem tp_l_s {t b t' b' : Nat} {h : am_H} {l : List Int32} : tp_s (tp_l t b h l) t' b' = tp_s h t' b' := by unfold tp_s; simp only [tp_l_fr]
theorem tp_b_n {t b n : Nat} {h : am_H} {v : Int32} (q : tp_n h t b n) : tp_n (tp_b t b h v) t b (if n < 5000 then n + 1 else n) := by
  obtain ⟨q1, q2, q3⟩ := q
  refine ⟨by rw [tp_b_s]; exact q1, ?_, by split <;> omega⟩
  unfold tp_b
  rw [q2]
  simp (disch := omega) only [qi_lt, qi_le, qi_eq, qi_nn, qi_in, qi_add, qi_l, ql_i, ql_lt, ql_le, ql_eq, ql_add, qc_lt, qc_eq, qc_ge, qc_gt, qc_le]
  by_cases e : n < 5000
  · rw [if_pos e, if_pos e]; simp only [am_hs, true_and, and_true, and_self, true_or, or_true, false_or, or_false, false_and, and_false, not_true_eq_false, not_false_eq_true, Classical.not_not, true_implies, false_implies, implies_true, exists_eq_left, exists_eq_left', Option.some.injEq, reduceIte, Nat.reduceEqDiff, Nat.reduceLT, Nat.reduceLeDiff, Nat.reduceAdd, Nat.reduceSub, Nat.reduceMul, eq_self, ne_eq, and_imp, forall_const, reduceCtorEq, am_w, List.map_cons, List.map_nil, List.sum_cons, List.sum_nil, Value.category, Nat.zero_le, Nat.le_refl]
  · rw [if_neg e, if_neg e]; simp only [am_hs, true_and, and_true, and_self, true_or, or_true, false_or, or_false, false_and, and_false, not_true_eq_false, not_false_eq_true, Classical.not_not, true_implies, false_implies, implies_true, exists_eq_left, exists_eq_left', Option.some.injEq, reduceIte, Nat.reduceEqDiff, Nat.reduceLT, Nat.reduceLeDiff, Nat.reduceAdd, Nat.reduceSub, Nat.reduceMul, eq_self, ne_eq, and_imp, forall_const, reduceCtorEq, am_w, List.map_cons, List.map_nil, List.sum_cons, List.sum_nil, Value.category, Nat.zero_le, Nat.le_refl]; simp [q2]
theorem tp_l_n {t b : Nat} : ∀ {l : List Int32} {h : am_H} {n : Nat}, tp_n h t b n → tp_n (tp_l t b h l) t b (if n + l.length < 5000 then n + l.length else 5000)
  | [], h, n, q => by
    have := q.2.2
    have e : (if n + ([] : List Int32).length < 5000 then n + ([] : List Int32).length else 5000) = n := by simp; omega
    rw [e]; exact q
  | v :: l, h, n, q => by
    have h1 := tp_l_n (l := l) (tp_b_n (v := v) q)
    have := q.2.2
    have e : (if n + (v :: l).length < 5000 then n + (v :: l).length else 5000) = (if (if n < 5000 then n + 1 else n) + l.length < 5000 then (if n < 5000 then n + 1 else n) + l.length else 5000) := by
      simp only [List.length_cons]
      split <;> split <;> (try split) <;> omega
    rw [e]; exact h1
theorem ct_addByte {tt : Nat → Nat} {h : am_H} {t b n : Nat} {v : Int32} (q : tp_n h t b n) : am_Ct tt 68 [.ref t, .int v] h (am_pV (fun h' => h' = tp_b t b h v) no_x) := by
  obtain ⟨⟨h1, h2, h3, h4⟩, hn, hl⟩ := q
  refine vc_68_0 tt t v h _ _ ?_
  simp (disch := omega) only [tp_b, h1, h2, h3, h4, hn, q8_8, am_hs, qi_lt, qi_le, qi_eq, qi_nn, qi_in, qi_add, qi_l, ql_i, ql_lt, ql_le, ql_eq, ql_add, qc_lt, qc_eq, qc_ge, qc_gt, qc_le, true_and, and_true, and_self, true_or, or_true, false_or, or_false, false_and, and_false, not_true_eq_false, not_false_eq_true, Classical.not_not, true_implies, false_implies, implies_true, exists_eq_left, exists_eq_left', Option.some.injEq, reduceIte, Nat.reduceEqDiff, Nat.reduceLT, Nat.reduceLeDiff, Nat.reduceAdd, Nat.reduceSub, Nat.reduceMul, eq_self, ne_eq, and_imp, forall_const, reduceCtorEq, am_w, List.map_cons, List.map_nil, List.sum_cons, List.sum_nil, Value.category, Nat.zero_le, Nat.le_refl]
  grind
theorem ct_addBytes {tt : Nat → Nat} {h : am_H} {t b n r m : Nat} (q : tp_n h t b n) (hr : am_K h r = 23) (hm : m ≤ am_N h r) (hN : am_N h r ≤ 60000) (hne : r ≠ b) : am_Ct tt 69 [.ref t, .ref r, .int (Int32.ofNat m)] h (am_pV (fun h' => h' = tp_l t b h ((List.range' 0 m).map (am_A h r))) no_x) := by
  have key : ∀ (d i n : Nat) (k : am_H), d + i = m → tp_n k t b n → am_K k = am_K h → am_N k = am_N h → am_A k r = am_A h r →
      am_Ev tt 69 2 [some (.ref t), some (.ref r), some (.int (Int32.ofNat m)), some (.int (Int32.ofNat i))] [] k (am_pV (fun h' => h' = tp_l t b k ((List.range' i d).map (am_A h r))) no_x) := by
    intro d
    induction d with
    | zero =>
      intro i n k e q hK hN' hA
      refine vc_69_2 tt t r _ _ k _ _ ?_
      have : m = i := by omega
      subst this
      simp (disch := omega) only [qi_lt, qi_le, qi_eq, qi_nn, qi_in, qi_add, qi_l, ql_i, ql_lt, ql_le, ql_eq, ql_add, qc_lt, qc_eq, qc_ge, qc_gt, qc_le, true_and, and_true, and_self, true_or, or_true, false_or, or_false, false_and, and_false, not_true_eq_false, not_false_eq_true, Classical.not_not, true_implies, false_implies, implies_true, exists_eq_left, exists_eq_left', Option.some.injEq, reduceIte, Nat.reduceEqDiff, Nat.reduceLT, Nat.reduceLeDiff, Nat.reduceAdd, Nat.reduceSub, Nat.reduceMul, eq_self, ne_eq, and_imp, forall_const, reduceCtorEq, am_w, List.map_cons, List.map_nil, List.sum_cons, List.sum_nil, Value.category, Nat.zero_le, Nat.le_refl, List.range', List.map_nil, tp_l_nil]
    | succ d ih =>
      intro i n k e q hK hN' hA
      refine vc_69_2 tt t r _ _ k _ _ ?_
      have hT : am_K h t = 7 := by rw [← hK]; exact q.1.1
      simp (disch := omega) only [hK, hN', hr, hT, qi_lt, qi_le, qi_eq, qi_nn, qi_in, qi_add, qi_l, ql_i, ql_lt, ql_le, ql_eq, ql_add, qc_lt, qc_eq, qc_ge, qc_gt, qc_le, true_and, and_true, and_self, true_or, or_true, false_or, or_false, false_and, and_false, not_true_eq_false, not_false_eq_true, Classical.not_not, true_implies, false_implies, implies_true, exists_eq_left, exists_eq_left', Option.some.injEq, reduceIte, Nat.reduceEqDiff, Nat.reduceLT, Nat.reduceLeDiff, Nat.reduceAdd, Nat.reduceSub, Nat.reduceMul, eq_self, ne_eq, and_imp, forall_const, reduceCtorEq, am_w, List.map_cons, List.map_nil, List.sum_cons, List.sum_nil, Value.category, Nat.zero_le, Nat.le_refl]
      refine ⟨fun z => by omega, fun _ => ⟨fun z => by omega, fun _ => ⟨by omega, _, _, ct_addByte q, fun k' e' => ?_, fun _ _ z => z⟩⟩⟩
      subst e'
      have h1 := ih (i + 1) _ (tp_b t b k (am_A k r i)) (by omega) (tp_b_n q) (by simp only [tp_b_fr, hK]) (by simp only [tp_b_fr, hN']) (by rw [tp_b_A hne, hA])
      rw [List.range'_succ, List.map_cons, tp_l_cons, ← hA]
      rw [← hA] at h1
      exact h1
  exact vc_69_0 tt t r _ h _ _ (key m 0 n h (by omega) q rfl rfl rfl)
theorem ct_addLittle {tt : Nat → Nat} {h : am_H} {t b n m : Nat} {v : Int64} (q : tp_n h t b n) (hm : m ≤ 8) : am_Ct tt 70 [.ref t, .long v, .int (Int32.ofNat m)] h (am_pV (fun h' => h' = tp_l t b h ((List.range' 0 m).map (lb v))) no_x) := by
  have key : ∀ (d i n : Nat) (k : am_H), d + i = m → tp_n k t b n →
      am_Ev tt 70 3 [some (.ref t), some (.long v), none, some (.int (Int32.ofNat m)), some (.int (Int32.ofNat i))] [] k (am_pV (fun h' => h' = tp_l t b k ((List.range' i d).map (lb v))) no_x) := by
    intro d
    induction d with
    | zero =>
      intro i n k e q
      refine vc_70_3 tt t v _ _ k _ _ ?_
      have : m = i := by omega
      subst this
      simp (disch := omega) only [qi_lt, qi_le, qi_eq, qi_nn, qi_in, qi_add, qi_l, ql_i, ql_lt, ql_le, ql_eq, ql_add, qc_lt, qc_eq, qc_ge, qc_gt, qc_le, true_and, and_true, and_self, true_or, or_true, false_or, or_false, false_and, and_false, not_true_eq_false, not_false_eq_true, Classical.not_not, true_implies, false_implies, implies_true, exists_eq_left, exists_eq_left', Option.some.injEq, reduceIte, Nat.reduceEqDiff, Nat.reduceLT, Nat.reduceLeDiff, Nat.reduceAdd, Nat.reduceSub, Nat.reduceMul, eq_self, ne_eq, and_imp, forall_const, reduceCtorEq, am_w, List.map_cons, List.map_nil, List.sum_cons, List.sum_nil, Value.category, Nat.zero_le, Nat.le_refl, List.range', List.map_nil, tp_l_nil]
    | succ d ih =>
      intro i n k e q
      refine vc_70_3 tt t v _ _ k _ _ ?_
      simp (disch := omega) only [q.1.1, qi_mul, qi_lt, qi_le, qi_eq, qi_nn, qi_in, qi_add, qi_l, ql_i, ql_lt, ql_le, ql_eq, ql_add, qc_lt, qc_eq, qc_ge, qc_gt, qc_le, true_and, and_true, and_self, true_or, or_true, false_or, or_false, false_and, and_false, not_true_eq_false, not_false_eq_true, Classical.not_not, true_implies, false_implies, implies_true, exists_eq_left, exists_eq_left', Option.some.injEq, reduceIte, Nat.reduceEqDiff, Nat.reduceLT, Nat.reduceLeDiff, Nat.reduceAdd, Nat.reduceSub, Nat.reduceMul, eq_self, ne_eq, and_imp, forall_const, reduceCtorEq, am_w, List.map_cons, List.map_nil, List.sum_cons, List.sum_nil, Value.category, Nat.zero_le, Nat.le_refl]
      refine ⟨fun z => by omega, fun _ => ⟨_, _, ct_addByte q, fun k' e' => ?_, fun _ _ z => z⟩⟩
      subst e'
      rw [tp_b_8 (lb_u (by omega)), List.range'_succ, List.map_cons, tp_l_cons]
      exact ih (i + 1) _ _ (by omega) (tp_b_n q)
  exact vc_70_0 tt t v _ h _ _ (key m 0 n h (by omega) q)
theorem ct_tempty {tt : Nat → Nat} {h : am_H} {t : Nat} (q : am_K h t = 7) : am_Ct tt 66 [.ref t] h (am_pV (fun h' => h' = am_sI (am_sI h 6 1 t (Int32.ofNat 0)) 6 2 t (Int32.ofNat 0)) no_x) := by
  refine vc_66_0 tt t h _ _ ?_
  simp (disch := omega) only [q, qi_lt, qi_le, qi_eq, qi_nn, qi_in, qi_add, qi_l, ql_i, ql_lt, ql_le, ql_eq, ql_add, qc_lt, qc_eq, qc_ge, qc_gt, qc_le, true_and, and_true, and_self, true_or, or_true, false_or, or_false, false_and, and_false, not_true_eq_false, not_false_eq_true, Classical.not_not, true_implies, false_implies, implies_true, exists_eq_left, exists_eq_left', Option.some.injEq, reduceIte, Nat.reduceEqDiff, Nat.reduceLT, Nat.reduceLeDiff, Nat.reduceAdd, Nat.reduceSub, Nat.reduceMul, eq_self, ne_eq, and_imp, forall_const, reduceCtorEq, am_w, List.map_cons, List.map_nil, List.sum_cons, List.sum_nil, Value.category, Nat.zero_le, Nat.le_refl]
theorem ct_holds {tt : Nat → Nat} {h : am_H} {t n : Nat} {v : Int64} (q : am_K h t = 7) (hn : am_I h 6 1 t = Int32.ofNat n) (hl : n ≤ 5000) : am_Ct tt 67 [.ref t, .long v] h (am_pI (fun x h' => h' = h ∧ x = if ¬ v < Int64.ofNat 0 ∧ v < Int64.ofNat n then Int32.ofNat 1 else Int32.ofNat 0) no_x) := by
  refine vc_67_0 tt t v h _ _ ?_
  simp (disch := omega) only [q, hn, qi_lt, qi_le, qi_eq, qi_nn, qi_in, qi_add, qi_l, ql_i, ql_lt, ql_le, ql_eq, ql_add, qc_lt, qc_eq, qc_ge, qc_gt, qc_le, true_and, and_true, and_self, true_or, or_true, false_or, or_false, false_and, and_false, not_true_eq_false, not_false_eq_true, Classical.not_not, true_implies, false_implies, implies_true, exists_eq_left, exists_eq_left', Option.some.injEq, reduceIte, Nat.reduceEqDiff, Nat.reduceLT, Nat.reduceLeDiff, Nat.reduceAdd, Nat.reduceSub, Nat.reduceMul, eq_self, ne_eq, and_imp, forall_const, reduceCtorEq, am_w, List.map_cons, List.map_nil, List.sum_cons, List.sum_nil, Value.category, Nat.zero_le, Nat.le_refl]
  refine ⟨fun z => by rw [if_neg (fun e => e.1 z)], fun z => ⟨fun e => by rw [if_neg]; intro w; exact absurd w.2 (Int64.not_lt.2 e), fun e => by rw [if_pos]; exact ⟨z, Int64.not_le.1 e⟩⟩⟩
