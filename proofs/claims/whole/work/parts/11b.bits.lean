/-! deps: 11a -/
/-! ===== the class's cursor: a ROW OF BITS ===== -/
/-! 30 yX2_takeBits -/
theorem vc_30_0 (tt : Nat → Nat) (a0 : Nat) (a1 : Nat) (a2 : Int32) (h : am_H) (Q : Int32 → am_H → Prop) (Qx : String → am_H → Prop) (q :
  am_Ev tt 30 5 [some (.ref a0), some (.ref a1), some (.int a2), some (.int (Int32.ofNat 0)), some (.int (Int32.ofNat 0)), none, none, none] [] h (am_pI Q Qx)) :
  am_Ev tt 30 0 [some (.ref a0), some (.ref a1), some (.int a2), none, none, none, none, none] [] h (am_pI Q Qx) := am_vc 7 [(5, [true, true, true, true, true, false, false, false]), (20, [true, true, true, true, true, true, true, false]), (92, [true, true, true, true, true, true, true, true]), (108, [true, true, true, true, true, true, true, false])] q
theorem vc_30_5 (tt : Nat → Nat) (a0 : Nat) (a1 : Nat) (a2 : Int32) (a3 : Int32) (a4 : Int32) (h : am_H) (Q : Int32 → am_H → Prop) (Qx : String → am_H → Prop) (q :
  ((a2 ≤ a4 →
   Q a3 h) ∧
  (¬ (a2 ≤ a4) →
   (am_K h a0 = 3 ∧ ∃ (Q2 : Int32 → am_H → Prop) (X2 : String → am_H → Prop), am_Ct tt 26 [.ref a0] h (am_pI Q2 X2) ∧ (∀ x3 h1, Q2 x3 h1 →
    am_Ev tt 30 20 [some (.ref a0), some (.ref a1), some (.int a2), some (.int a3), some (.int a4), some (.int x3), some (.int (Int32.ofNat 0)), none] [] h1 (am_pI Q Qx)) ∧ (∀ E4 h1, X2 E4 h1 → Qx E4 h1))))) :
  am_Ev tt 30 5 [some (.ref a0), some (.ref a1), some (.int a2), some (.int a3), some (.int a4), none, none, none] [] h (am_pI Q Qx) := am_vc 11 [(5, [true, true, true, true, true, false, false, false]), (20, [true, true, true, true, true, true, true, false]), (92, [true, true, true, true, true, true, true, true]), (108, [true, true, true, true, true, true, true, false])] q
theorem vc_30_20 (tt : Nat → Nat) (a0 : Nat) (a1 : Nat) (a2 : Int32) (a3 : Int32) (a4 : Int32) (a5 : Int32) (a6 : Int32) (h : am_H) (Q : Int32 → am_H → Prop) (Qx : String → am_H → Prop) (q :
  (((Int32.ofNat 8) ≤ a6 →
   am_Ev tt 30 5 [some (.ref a0), some (.ref a1), some (.int a2), some (.int a3), some (.int (a4 + (Int32.ofNat 8))), none, none, none] [] h (am_pI Q Qx)) ∧
  (¬ ((Int32.ofNat 8) ≤ a6) →
   ((¬ ((a5 >>> (((Int32.ofNat 7) - a6) &&& 31)) &&& (Int32.ofNat 1)) = (Int32.ofNat 1) →
    ((a2 ≤ (a4 + a6) →
     am_Ev tt 30 92 [some (.ref a0), some (.ref a1), some (.int a2), some (.int a3), some (.int a4), some (.int a5), some (.int a6), some (.int (Int32.ofNat 0))] [] h (am_pI Q Qx)) ∧
    (¬ (a2 ≤ (a4 + a6)) →
     ((20 < am_K h a1 ∧ (am_K h a1 ≤ 27 ∨ am_K h a1 = 31)) ∧
     (((Int32.ofNat (am_N h a1)) ≤ (a4 + a6) →
      am_Ev tt 30 92 [some (.ref a0), some (.ref a1), some (.int a2), some (.int a3), some (.int a4), some (.int a5), some (.int a6), some (.int (Int32.ofNat 0))] [] h (am_pI Q Qx)) ∧
     (¬ ((Int32.ofNat (am_N h a1)) ≤ (a4 + a6)) →
      (vp_in (a4 + a6) (am_N h a1) ∧ ∃ w1, ((am_K h a1 = 23 ∧ w1 = ((Int32.ofNat 0)).toInt8.toInt32) ∨ (am_K h a1 = 24 ∧ w1 = ((Int32.ofNat 0) &&& 1))) ∧
      (((Int32.ofNat 0) = (Int32.ofNat 0) →
       am_Ev tt 30 108 [some (.ref a0), some (.ref a1), some (.int a2), some (.int (a3 + (Int32.ofNat 0))), some (.int a4), some (.int a5), some (.int a6), none] [] (am_sA h a1 ((a4 + a6)).toNatClampNeg w1) (am_pI Q Qx)) ∧
      (¬ ((Int32.ofNat 0) = (Int32.ofNat 0)) →
       am_Ev tt 30 108 [some (.ref a0), some (.ref a1), some (.int a2), some (.int (a3 + (Int32.ofNat 1))), some (.int a4), some (.int a5), some (.int a6), none] [] (am_sA h a1 ((a4 + a6)).toNatClampNeg w1) (am_pI Q Qx)))))))))) ∧
   (¬ (¬ ((a5 >>> (((Int32.ofNat 7) - a6) &&& 31)) &&& (Int32.ofNat 1)) = (Int32.ofNat 1)) →
    ((a2 ≤ (a4 + a6) →
     am_Ev tt 30 92 [some (.ref a0), some (.ref a1), some (.int a2), some (.int a3), some (.int a4), some (.int a5), some (.int a6), some (.int (Int32.ofNat 1))] [] h (am_pI Q Qx)) ∧
    (¬ (a2 ≤ (a4 + a6)) →
     ((20 < am_K h a1 ∧ (am_K h a1 ≤ 27 ∨ am_K h a1 = 31)) ∧
     (((Int32.ofNat (am_N h a1)) ≤ (a4 + a6) →
      am_Ev tt 30 92 [some (.ref a0), some (.ref a1), some (.int a2), some (.int a3), some (.int a4), some (.int a5), some (.int a6), some (.int (Int32.ofNat 1))] [] h (am_pI Q Qx)) ∧
     (¬ ((Int32.ofNat (am_N h a1)) ≤ (a4 + a6)) →
      (vp_in (a4 + a6) (am_N h a1) ∧ ∃ w2, ((am_K h a1 = 23 ∧ w2 = ((Int32.ofNat 1)).toInt8.toInt32) ∨ (am_K h a1 = 24 ∧ w2 = ((Int32.ofNat 1) &&& 1))) ∧
      (((Int32.ofNat 1) = (Int32.ofNat 0) →
       am_Ev tt 30 108 [some (.ref a0), some (.ref a1), some (.int a2), some (.int (a3 + (Int32.ofNat 0))), some (.int a4), some (.int a5), some (.int a6), none] [] (am_sA h a1 ((a4 + a6)).toNatClampNeg w2) (am_pI Q Qx)) ∧
      (¬ ((Int32.ofNat 1) = (Int32.ofNat 0)) →
       am_Ev tt 30 108 [some (.ref a0), some (.ref a1), some (.int a2), some (.int (a3 + (Int32.ofNat 1))), some (.int a4), some (.int a5), some (.int a6), none] [] (am_sA h a1 ((a4 + a6)).toNatClampNeg w2) (am_pI Q Qx)))))))))))))) :
  am_Ev tt 30 20 [some (.ref a0), some (.ref a1), some (.int a2), some (.int a3), some (.int a4), some (.int a5), some (.int a6), none] [] h (am_pI Q Qx) := am_vc 43 [(5, [true, true, true, true, true, false, false, false]), (20, [true, true, true, true, true, true, true, false]), (92, [true, true, true, true, true, true, true, true]), (108, [true, true, true, true, true, true, true, false])] q
theorem vc_30_92 (tt : Nat → Nat) (a0 : Nat) (a1 : Nat) (a2 : Int32) (a3 : Int32) (a4 : Int32) (a5 : Int32) (a6 : Int32) (a7 : Int32) (h : am_H) (Q : Int32 → am_H → Prop) (Qx : String → am_H → Prop) (q :
  ((a7 = (Int32.ofNat 0) →
   am_Ev tt 30 108 [some (.ref a0), some (.ref a1), some (.int a2), some (.int a3), some (.int a4), some (.int a5), some (.int a6), none] [] h (am_pI Q Qx)) ∧
  (¬ (a7 = (Int32.ofNat 0)) →
   (am_K h a0 = 3 ∧
   (am_K h a0 = 3 ∧ ∃ (Q2 : am_H → Prop) (X2 : String → am_H → Prop), am_Ct tt 22 [.ref a0, .int (Int32.ofNat 2), .int ((am_I h 2 2 a0) - (Int32.ofNat 1))] h (am_pV Q2 X2) ∧ (∀ h1, Q2 h1 →
    am_Ev tt 30 108 [some (.ref a0), some (.ref a1), some (.int a2), some (.int a3), some (.int a4), some (.int a5), some (.int a6), none] [] h1 (am_pI Q Qx)) ∧ (∀ E3 h1, X2 E3 h1 → Qx E3 h1)))))) :
  am_Ev tt 30 92 [some (.ref a0), some (.ref a1), some (.int a2), some (.int a3), some (.int a4), some (.int a5), some (.int a6), some (.int a7)] [] h (am_pI Q Qx) := am_vc 12 [(5, [true, true, true, true, true, false, false, false]), (20, [true, true, true, true, true, true, true, false]), (92, [true, true, true, true, true, true, true, true]), (108, [true, true, true, true, true, true, true, false])] q
theorem vc_30_108 (tt : Nat → Nat) (a0 : Nat) (a1 : Nat) (a2 : Int32) (a3 : Int32) (a4 : Int32) (a5 : Int32) (a6 : Int32) (h : am_H) (Q : Int32 → am_H → Prop) (Qx : String → am_H → Prop) (q :
  am_Ev tt 30 20 [some (.ref a0), some (.ref a1), some (.int a2), some (.int a3), some (.int a4), some (.int a5), some (.int (a6 + (Int32.ofNat 1))), none] [] h (am_pI Q Qx)) :
  am_Ev tt 30 108 [some (.ref a0), some (.ref a1), some (.int a2), some (.int a3), some (.int a4), some (.int a5), some (.int a6), none] [] h (am_pI Q Qx) := am_vc 5 [(5, [true, true, true, true, true, false, false, false]), (20, [true, true, true, true, true, true, true, false]), (92, [true, true, true, true, true, true, true, true]), (108, [true, true, true, true, true, true, true, false])] q

/-- the bit j of the bytes from p on -/
def bt (f : Nat → Int32) (p j : Nat) : Bool := decide ((((f (p + j / 8) &&& Int32.ofNat 255) >>> (Int32.ofNat (7 - j % 8) &&& 31)) &&& Int32.ofNat 1) = Int32.ofNat 1)
def b01 (b : Bool) : Int32 := if b then Int32.ofNat 1 else Int32.ofNat 0
/-- the first n of a row are told anew -/
def fb (g : Nat → Bool) (n : Nat) (o : Nat → Int32) (j : Nat) : Int32 := if j < n then b01 (g j) else o j
/-- how many are up -/
def cn (g : Nat → Bool) : Nat → Nat
  | 0 => 0
  | n + 1 => cn g n + (if g n then 1 else 0)
theorem cn_le (g : Nat → Bool) : ∀ n, cn g n ≤ n
  | 0 => Nat.le_refl _
  | n + 1 => by have := cn_le g n; unfold cn; split <;> omega
def tR (f : Nat → Int32) (n p m : Nat) : Except pe ((Nat → Bool) × Nat) :=
  if p + (m + 7) / 8 ≤ n then (if ∃ j, j < 8 * ((m + 7) / 8) ∧ m ≤ j ∧ bt f p j = true then .error (2, p + (m + 7) / 8 - 1) else .ok (bt f p, p + (m + 7) / 8)) else .error (1, n)
def erq {α : Type} (h : am_H) (c row : Nat) (r : Except pe α) (E : String) (h' : am_H) : Prop := E = am_ex 0 ∧ ∃ (g : Nat → Int32) (f pl p' : Nat), r = .error (f, pl) ∧ h' = cf (cp (am_cA h row g) c p') c f pl
theorem fb_s {g : Nat → Bool} {i : Nat} {o : Nat → Int32} : va_up (fb g i o) i (b01 (g i)) = fb g (i + 1) o := by
  funext j
  simp only [va_up, fb]
  by_cases e : j = i
  · subst e; rw [if_pos rfl, if_pos (by omega)]
  · rw [if_neg e]
    by_cases e2 : j < i
    · rw [if_pos e2, if_pos (by omega)]
    · rw [if_neg e2, if_neg (by omega)]
theorem fb_0 {g : Nat → Bool} {o : Nat → Int32} : fb g 0 o = o := by funext j; rw [fb, if_neg (by omega)]
theorem cu_cA {h : am_H} {c b n p q r : Nat} {f : Nat → Int32} (s : cu_s h c b n p) (hq : q ≤ n) : cu_s (cp (am_cA h r f) c q) c b n q := by
  obtain ⟨s1, s2, s3, s4, s5, s6, s7, s8, s9, s10⟩ := s
  refine ⟨s1, s2, s3, s4, s5, ?_, ?_, hq, s9, s10⟩
  · rw [cp_I, if_neg (by omega)]; exact s6
  · rw [cp_I, if_pos (by simp)]
theorem cp_sA {h : am_H} {c p r i : Nat} {f : Nat → Int32} {v : Int32} : am_sA (cp (am_cA h r f) c p) r i v = cp (am_cA h r (va_up f i v)) c p := by
  rw [← cA_sA]; rfl
theorem cp_cAA {h : am_H} {c p r a : Nat} {f : Nat → Int32} (e : a ≠ r) : am_A (cp (am_cA h r f) c p) a = am_A h a := by
  simp only [cp_fr, am_hs]
  rw [if_neg e]
theorem ct_takeBits {tt : Nat → Nat} {h : am_H} {c b n p r m : Nat} (s : cu_s h c b n p) (hr : am_K h r = 24) (hm : m ≤ am_N h r) (hN : am_N h r ≤ 60000) (hne : b ≠ r) (h1 : 1 ≤ m) :
    am_Ct tt 30 [.ref c, .ref r, .int (Int32.ofNat m)] h (am_pI (fun x h' => tR (am_A h b) n p m = .ok (bt (am_A h b) p, p + (m + 7) / 8) ∧ p + (m + 7) / 8 ≤ n ∧ x = Int32.ofNat (cn (bt (am_A h b) p) m) ∧ h' = cp (am_cA h r (fb (bt (am_A h b) p) m (am_A h r))) c (p + (m + 7) / 8)) (erq h c r (tR (am_A h b) n p m))) := by
  have hp : p ≤ n := s.2.2.2.2.2.2.2.1
  have hn : n ≤ 5000 := s.2.2.2.2.1
  -- inner loop
  have inner : ∀ (d j q : Nat) (Q : Int32 → am_H → Prop), d + j = 8 → 8 * q < m → p + q + 1 ≤ n → (∀ k, k < 8 * q + j → m ≤ k → bt (am_A h b) p k = false) →
      ((∀ k, k < 8 * q + 8 → m ≤ k → bt (am_A h b) p k = false) → am_Ev tt 30 5 [some (.ref c), some (.ref r), some (.int (Int32.ofNat m)), some (.int (Int32.ofNat (cn (bt (am_A h b) p) (min (8 * q + 8) m)))), some (.int (Int32.ofNat (8 * q + 8))), none, none, none] [] (cp (am_cA h r (fb (bt (am_A h b) p) (min (8 * q + 8) m) (am_A h r))) c (p + q + 1)) (am_pI Q (erq h c r (tR (am_A h b) n p m)))) →
      am_Ev tt 30 20 [some (.ref c), some (.ref r), some (.int (Int32.ofNat m)), some (.int (Int32.ofNat (cn (bt (am_A h b) p) (min (8 * q + j) m)))), some (.int (Int32.ofNat (8 * q))), some (.int (am_A h b (p + q) &&& Int32.ofNat 255)), some (.int (Int32.ofNat j)), none] [] (cp (am_cA h r (fb (bt (am_A h b) p) (min (8 * q + j) m) (am_A h r))) c (p + q + 1)) (am_pI Q (erq h c r (tR (am_A h b) n p m))) := by
    intro d
    induction d with
    | zero =>
      intro j q Q e h1 h2 h3 k
      have ej : j = 8 := by omega
      subst ej
      refine vc_30_20 tt c r _ _ _ _ _ _ _ _ ?_
      simp (disch := omega) only [qi_lt, qi_le, qi_eq, qi_nn, qi_in, qi_add, qi_l, ql_i, ql_lt, ql_le, ql_eq, ql_add, qc_lt, qc_eq, qc_ge, qc_gt, qc_le, true_and, and_true, and_self, true_or, or_true, false_or, or_false, false_and, and_false, not_true_eq_false, not_false_eq_true, Classical.not_not, true_implies, false_implies, implies_true, exists_eq_left, exists_eq_left', Option.some.injEq, reduceIte, Nat.reduceEqDiff, Nat.reduceLT, Nat.reduceLeDiff, Nat.reduceAdd, Nat.reduceSub, Nat.reduceMul, eq_self, ne_eq, and_imp, forall_const, reduceCtorEq, am_w, List.map_cons, List.map_nil, List.sum_cons, List.sum_nil, Value.category, Nat.zero_le, Nat.le_refl]
      exact k h3
    | succ d ih =>
      intro j q Q e h1 h2 h3 k
      refine vc_30_20 tt c r _ _ _ _ _ _ _ _ ?_
      have eb : bt (am_A h b) p (8 * q + j) = decide ((((am_A h b (p + q) &&& Int32.ofNat 255) >>> (Int32.ofNat (7 - j) &&& 31)) &&& Int32.ofNat 1) = Int32.ofNat 1) := by
        unfold bt
        rw [show (8 * q + j) / 8 = q by omega, show (8 * q + j) % 8 = j by omega]
      have cl := cn_le (bt (am_A h b) p) (8 * q + j)
      -- the next bit
      have nxt : ∀ z : Nat, z = cn (bt (am_A h b) p) (min (8 * q + (j + 1)) m) → (∀ k, k < 8 * q + (j + 1) → m ≤ k → bt (am_A h b) p k = false) → am_Ev tt 30 108 [some (.ref c), some (.ref r), some (.int (Int32.ofNat m)), some (.int (Int32.ofNat z)), some (.int (Int32.ofNat (8 * q))), some (.int (am_A h b (p + q) &&& Int32.ofNat 255)), some (.int (Int32.ofNat j)), none] [] (cp (am_cA h r (fb (bt (am_A h b) p) (min (8 * q + (j + 1)) m) (am_A h r))) c (p + q + 1)) (am_pI Q (erq h c r (tR (am_A h b) n p m))) := by
        intro z ez h4
        refine vc_30_108 tt c r _ _ _ _ _ _ _ _ ?_
        simp (disch := omega) only [qi_lt, qi_le, qi_eq, qi_nn, qi_in, qi_add, qi_l, ql_i, ql_lt, ql_le, ql_eq, ql_add, qc_lt, qc_eq, qc_ge, qc_gt, qc_le, true_and, and_true, and_self, true_or, or_true, false_or, or_false, false_and, and_false, not_true_eq_false, not_false_eq_true, Classical.not_not, true_implies, false_implies, implies_true, exists_eq_left, exists_eq_left', Option.some.injEq, reduceIte, Nat.reduceEqDiff, Nat.reduceLT, Nat.reduceLeDiff, Nat.reduceAdd, Nat.reduceSub, Nat.reduceMul, eq_self, ne_eq, and_imp, forall_const, reduceCtorEq, am_w, List.map_cons, List.map_nil, List.sum_cons, List.sum_nil, Value.category, Nat.zero_le, Nat.le_refl]
        rw [ez]
        exact ih (j + 1) q Q (by omega) h1 h2 h4 k
      have s' : cu_s (cp (am_cA h r (fb (bt (am_A h b) p) (min (8 * q + j) m) (am_A h r))) c (p + q + 1)) c b n (p + q + 1) := cu_cA s h2
      have sI' : am_I (cp (am_cA h r (fb (bt (am_A h b) p) (min (8 * q + j) m) (am_A h r))) c (p + q + 1)) 2 2 c = Int32.ofNat (p + q + 1) := s'.2.2.2.2.2.2.1
      have hK' : am_K (cp (am_cA h r (fb (bt (am_A h b) p) (min (8 * q + j) m) (am_A h r))) c (p + q + 1)) r = 24 := hr
      have hN' : am_N (cp (am_cA h r (fb (bt (am_A h b) p) (min (8 * q + j) m) (am_A h r))) c (p + q + 1)) r = am_N h r := rfl
      have e00 : (Int32.ofNat 0 &&& 1) = b01 false := rfl
      have e11 : (Int32.ofNat 1 &&& 1) = b01 true := rfl
      simp (disch := omega) only [qi_sub, hK', hN', qi_lt, qi_le, qi_eq, qi_nn, qi_in, qi_add, qi_l, ql_i, ql_lt, ql_le, ql_eq, ql_add, qc_lt, qc_eq, qc_ge, qc_gt, qc_le, true_and, and_true, and_self, true_or, or_true, false_or, or_false, false_and, and_false, not_true_eq_false, not_false_eq_true, Classical.not_not, true_implies, false_implies, implies_true, exists_eq_left, exists_eq_left', Option.some.injEq, reduceIte, Nat.reduceEqDiff, Nat.reduceLT, Nat.reduceLeDiff, Nat.reduceAdd, Nat.reduceSub, Nat.reduceMul, eq_self, ne_eq, and_imp, forall_const, reduceCtorEq, am_w, List.map_cons, List.map_nil, List.sum_cons, List.sum_nil, Value.category, Nat.zero_le, Nat.le_refl]
      refine ⟨fun z => by omega, fun _ => ⟨fun on => ?_, fun on => ?_⟩⟩
      · have on' : bt (am_A h b) p (8 * q + j) = false := by rw [eb]; exact decide_eq_false on
        refine ⟨fun z => ?_, fun z => ⟨fun z2 => by omega, fun _ => ⟨by omega, ?_⟩⟩⟩
        · refine vc_30_92 tt c r _ _ _ _ _ _ _ _ _ ?_
          simp (disch := omega) only [qi_lt, qi_le, qi_eq, qi_nn, qi_in, qi_add, qi_l, ql_i, ql_lt, ql_le, ql_eq, ql_add, qc_lt, qc_eq, qc_ge, qc_gt, qc_le, true_and, and_true, and_self, true_or, or_true, false_or, or_false, false_and, and_false, not_true_eq_false, not_false_eq_true, Classical.not_not, true_implies, false_implies, implies_true, exists_eq_left, exists_eq_left', Option.some.injEq, reduceIte, Nat.reduceEqDiff, Nat.reduceLT, Nat.reduceLeDiff, Nat.reduceAdd, Nat.reduceSub, Nat.reduceMul, eq_self, ne_eq, and_imp, forall_const, reduceCtorEq, am_w, List.map_cons, List.map_nil, List.sum_cons, List.sum_nil, Value.category, Nat.zero_le, Nat.le_refl]
          have := nxt (cn (bt (am_A h b) p) (min (8 * q + j) m)) (by congr 1; omega) (fun k hk hm => by
            by_cases e : k = 8 * q + j
            · rw [e]; exact on'
            · exact h3 k (by omega) hm)
          rw [show min (8 * q + (j + 1)) m = min (8 * q + j) m by omega] at this
          exact this
        · have := nxt (cn (bt (am_A h b) p) (8 * q + j)) (by rw [show min (8 * q + (j + 1)) m = 8 * q + j + 1 by omega]; simp [cn, on']) (fun k hk hm => by omega)
          rw [show min (8 * q + (j + 1)) m = 8 * q + j + 1 by omega, ← fb_s, on'] at this
          rw [show min (8 * q + j) m = 8 * q + j by omega, cp_sA, e00]
          exact this
      · have on' : bt (am_A h b) p (8 * q + j) = true := by rw [eb]; exact decide_eq_true on
        refine ⟨fun z => ?_, fun z => ⟨fun z2 => by omega, fun _ => ⟨by omega, ?_⟩⟩⟩
        · refine vc_30_92 tt c r _ _ _ _ _ _ _ _ _ ?_
          simp (disch := omega) only [s'.1, sI', qi_sub, qi_lt, qi_le, qi_eq, qi_nn, qi_in, qi_add, qi_l, ql_i, ql_lt, ql_le, ql_eq, ql_add, qc_lt, qc_eq, qc_ge, qc_gt, qc_le, true_and, and_true, and_self, true_or, or_true, false_or, or_false, false_and, and_false, not_true_eq_false, not_false_eq_true, Classical.not_not, true_implies, false_implies, implies_true, exists_eq_left, exists_eq_left', Option.some.injEq, reduceIte, Nat.reduceEqDiff, Nat.reduceLT, Nat.reduceLeDiff, Nat.reduceAdd, Nat.reduceSub, Nat.reduceMul, eq_self, ne_eq, and_imp, forall_const, reduceCtorEq, am_w, List.map_cons, List.map_nil, List.sum_cons, List.sum_nil, Value.category, Nat.zero_le, Nat.le_refl]
          refine ⟨_, _, ct_cfail' s', fun _ z => z.elim, fun E k w => ⟨w.1, fb (bt (am_A h b) p) (min (8 * q + j) m) (am_A h r), 2, p + q, p + q + 1, ?_, ?_⟩⟩
          · rw [tR, if_pos (by omega), if_pos ⟨8 * q + j, by omega, z, on'⟩]
            congr 2
            omega
          · rw [w.2, cp_cp]
            rfl
        · have := nxt (cn (bt (am_A h b) p) (8 * q + j) + 1) (by rw [show min (8 * q + (j + 1)) m = 8 * q + j + 1 by omega]; simp [cn, on']) (fun k hk hm => by omega)
          rw [show min (8 * q + (j + 1)) m = 8 * q + j + 1 by omega, ← fb_s, on'] at this
          rw [show min (8 * q + j) m = 8 * q + j by omega, cp_sA, e11]
          exact this
  have outer : ∀ (d q : Nat), d + q = (m + 7) / 8 → p + q ≤ n → (∀ k, k < 8 * q → m ≤ k → bt (am_A h b) p k = false) →
      am_Ev tt 30 5 [some (.ref c), some (.ref r), some (.int (Int32.ofNat m)), some (.int (Int32.ofNat (cn (bt (am_A h b) p) (min (8 * q) m)))), some (.int (Int32.ofNat (8 * q))), none, none, none] [] (cp (am_cA h r (fb (bt (am_A h b) p) (min (8 * q) m) (am_A h r))) c (p + q)) (am_pI (fun x h' => tR (am_A h b) n p m = .ok (bt (am_A h b) p, p + (m + 7) / 8) ∧ p + (m + 7) / 8 ≤ n ∧ x = Int32.ofNat (cn (bt (am_A h b) p) m) ∧ h' = cp (am_cA h r (fb (bt (am_A h b) p) m (am_A h r))) c (p + (m + 7) / 8)) (erq h c r (tR (am_A h b) n p m))) := by
    intro d
    induction d with
    | zero =>
      intro q e h2 h3
      have eq' : q = (m + 7) / 8 := by omega
      refine vc_30_5 tt c r _ _ _ _ _ _ ?_
      simp (disch := omega) only [qi_lt, qi_le, qi_eq, qi_nn, qi_in, qi_add, qi_l, ql_i, ql_lt, ql_le, ql_eq, ql_add, qc_lt, qc_eq, qc_ge, qc_gt, qc_le, true_and, and_true, and_self, true_or, or_true, false_or, or_false, false_and, and_false, not_true_eq_false, not_false_eq_true, Classical.not_not, true_implies, false_implies, implies_true, exists_eq_left, exists_eq_left', Option.some.injEq, reduceIte, Nat.reduceEqDiff, Nat.reduceLT, Nat.reduceLeDiff, Nat.reduceAdd, Nat.reduceSub, Nat.reduceMul, eq_self, ne_eq, and_imp, forall_const, reduceCtorEq, am_w, List.map_cons, List.map_nil, List.sum_cons, List.sum_nil, Value.category, Nat.zero_le, Nat.le_refl]
      refine ⟨fun _ => ⟨?_, by omega, by rw [show min (8 * q) m = m by omega], by rw [show min (8 * q) m = m by omega, eq']⟩, fun z => by omega⟩
      rw [tR, if_pos (by omega), if_neg]
      intro w
      obtain ⟨k, k1, k2, k3⟩ := w
      have := h3 k (by omega) k2
      rw [this] at k3
      cases k3
    | succ d ih =>
      intro q e h2 h3
      refine vc_30_5 tt c r _ _ _ _ _ _ ?_
      have s' : cu_s (cp (am_cA h r (fb (bt (am_A h b) p) (min (8 * q) m) (am_A h r))) c (p + q)) c b n (p + q) := cu_cA s h2
      simp (disch := omega) only [s'.1, qi_lt, qi_le, qi_eq, qi_nn, qi_in, qi_add, qi_l, ql_i, ql_lt, ql_le, ql_eq, ql_add, qc_lt, qc_eq, qc_ge, qc_gt, qc_le, true_and, and_true, and_self, true_or, or_true, false_or, or_false, false_and, and_false, not_true_eq_false, not_false_eq_true, Classical.not_not, true_implies, false_implies, implies_true, exists_eq_left, exists_eq_left', Option.some.injEq, reduceIte, Nat.reduceEqDiff, Nat.reduceLT, Nat.reduceLeDiff, Nat.reduceAdd, Nat.reduceSub, Nat.reduceMul, eq_self, ne_eq, and_imp, forall_const, reduceCtorEq, am_w, List.map_cons, List.map_nil, List.sum_cons, List.sum_nil, Value.category, Nat.zero_le, Nat.le_refl]
      refine ⟨fun z => by omega, fun z => ⟨_, _, ct_takeByte s', fun x k e => ?_, fun E k e => ?_⟩⟩
      · obtain ⟨p', e1, e2, e3⟩ := e
        obtain ⟨e4, e5, e6⟩ := tB_ok e1
        subst e3 e6
        rw [cp_cAA hne] at e5
        subst e5
        rw [cp_cp]
        refine inner 8 0 q _ (by omega) (by omega) (by omega) (fun k hk => h3 k (by omega)) (fun h4 => ?_)
        exact ih (q + 1) (by omega) (by omega) (fun k hk => h4 k (by omega))
      · obtain ⟨e1, f, pl, p', e2, e3⟩ := e
        obtain ⟨z, rfl, rfl⟩ := tB_er e2
        rw [cp_cp] at e3
        exact ⟨e1, _, 1, _, p', by rw [tR, if_neg (by omega)], e3⟩
  have h0 := outer ((m + 7) / 8) 0 (by omega) (by omega) (fun k hk => by omega)
  rw [show min (8 * 0) m = 0 by omega, fb_0, cA_id, Nat.add_zero, cp_id s.2.2.2.2.2.2.1] at h0
  exact vc_30_0 tt c r _ h _ _ h0
