/-! deps: 20f -/
/-! ===== the reference reads: a coder's id, a bond ===== -/
/-! 186 yX10_idOf -/
theorem vc_186_0 (tt : Nat → Nat) (a0 : Nat) (a1 : Int32) (h : am_H) (Q : Int32 → am_H → Prop) (Qx : String → am_H → Prop) (q :
  (am_K h a0 = 11 ∧ ∃ q1, am_R h 10 54 a0 = some q1 ∧
  ((am_K h q1 = 21 ∨ am_K h q1 = 31) ∧ vp_in ((Int32.ofNat 4) * a1) (am_N h q1) ∧
  (am_K h a0 = 11 ∧ ∃ q2, am_R h 10 53 a0 = some q2 ∧
  ((am_K h q2 = 21 ∨ am_K h q2 = 31) ∧ vp_in a1 (am_N h q2) ∧
  ((¬ (am_A h q2 (a1).toNatClampNeg) = (Int32.ofNat 1) →
   am_Ev tt 186 34 [some (.ref a0), some (.int a1), some (.int (am_A h q1 (((Int32.ofNat 4) * a1)).toNatClampNeg)), none] [] h (am_pI Q Qx)) ∧
  (¬ (¬ (am_A h q2 (a1).toNatClampNeg) = (Int32.ofNat 1)) →
   ((¬ (am_A h q1 (((Int32.ofNat 4) * a1)).toNatClampNeg) = (Int32.ofNat 0) →
    am_Ev tt 186 34 [some (.ref a0), some (.int a1), some (.int (am_A h q1 (((Int32.ofNat 4) * a1)).toNatClampNeg)), none] [] h (am_pI Q Qx)) ∧
   (¬ (¬ (am_A h q1 (((Int32.ofNat 4) * a1)).toNatClampNeg) = (Int32.ofNat 0)) →
    (am_K h a0 = 11 ∧ ∃ q3, am_R h 10 55 a0 = some q3 ∧
    ((am_K h q3 = 21 ∨ am_K h q3 = 31) ∧ vp_in a1 (am_N h q3) ∧
    ((¬ (am_A h q3 (a1).toNatClampNeg) = (Int32.ofNat 0) →
     am_Ev tt 186 34 [some (.ref a0), some (.int a1), some (.int (am_A h q1 (((Int32.ofNat 4) * a1)).toNatClampNeg)), none] [] h (am_pI Q Qx)) ∧
    (¬ (¬ (am_A h q3 (a1).toNatClampNeg) = (Int32.ofNat 0)) →
     Q (Int32.ofNat 0) h))))))))))))) :
  am_Ev tt 186 0 [some (.ref a0), some (.int a1), none, none] [] h (am_pI Q Qx) := am_vc 24 [(34, [true, true, true, false]), (61, [true, true, true, false])] q
theorem vc_186_34 (tt : Nat → Nat) (a0 : Nat) (a1 : Int32) (a2 : Int32) (h : am_H) (Q : Int32 → am_H → Prop) (Qx : String → am_H → Prop) (q :
  (am_K h a0 = 11 ∧ ∃ q1, am_R h 10 53 a0 = some q1 ∧
  ((am_K h q1 = 21 ∨ am_K h q1 = 31) ∧ vp_in a1 (am_N h q1) ∧
  ((¬ (am_A h q1 (a1).toNatClampNeg) = (Int32.ofNat 1) →
   am_Ev tt 186 61 [some (.ref a0), some (.int a1), some (.int a2), none] [] h (am_pI Q Qx)) ∧
  (¬ (¬ (am_A h q1 (a1).toNatClampNeg) = (Int32.ofNat 1)) →
   ((¬ a2 = (Int32.ofNat 3) →
    am_Ev tt 186 61 [some (.ref a0), some (.int a1), some (.int a2), none] [] h (am_pI Q Qx)) ∧
   (¬ (¬ a2 = (Int32.ofNat 3)) →
    (am_K h a0 = 11 ∧ ∃ q2, am_R h 10 55 a0 = some q2 ∧
    ((am_K h q2 = 21 ∨ am_K h q2 = 31) ∧ vp_in a1 (am_N h q2) ∧
    ((¬ (am_A h q2 (a1).toNatClampNeg) = (Int32.ofNat 1) →
     am_Ev tt 186 61 [some (.ref a0), some (.int a1), some (.int a2), none] [] h (am_pI Q Qx)) ∧
    (¬ (¬ (am_A h q2 (a1).toNatClampNeg) = (Int32.ofNat 1)) →
     Q (Int32.ofNat 1) h))))))))))) :
  am_Ev tt 186 34 [some (.ref a0), some (.int a1), some (.int a2), none] [] h (am_pI Q Qx) := am_vc 19 [(34, [true, true, true, false]), (61, [true, true, true, false])] q
theorem vc_186_61 (tt : Nat → Nat) (a0 : Nat) (a1 : Int32) (a2 : Int32) (h : am_H) (Q : Int32 → am_H → Prop) (Qx : String → am_H → Prop) (q :
  (am_K h a0 = 11 ∧ ∃ q1, am_R h 10 53 a0 = some q1 ∧
  ((am_K h q1 = 21 ∨ am_K h q1 = 31) ∧ vp_in a1 (am_N h q1) ∧
  ((¬ (am_A h q1 (a1).toNatClampNeg) = (Int32.ofNat 3) →
   Q (-1 : Int32) h) ∧
  (¬ (¬ (am_A h q1 (a1).toNatClampNeg) = (Int32.ofNat 3)) →
   ((¬ a2 = (Int32.ofNat 2) →
    Q (-1 : Int32) h) ∧
   (¬ (¬ a2 = (Int32.ofNat 2)) →
    (am_K h a0 = 11 ∧ ∃ q2, am_R h 10 54 a0 = some q2 ∧
    ((am_K h q2 = 21 ∨ am_K h q2 = 31) ∧ vp_in (((Int32.ofNat 4) * a1) + (Int32.ofNat 1)) (am_N h q2) ∧
    ((¬ (am_A h q2 ((((Int32.ofNat 4) * a1) + (Int32.ofNat 1))).toNatClampNeg) = (Int32.ofNat 3) →
     Q (-1 : Int32) h) ∧
    (¬ (¬ (am_A h q2 ((((Int32.ofNat 4) * a1) + (Int32.ofNat 1))).toNatClampNeg) = (Int32.ofNat 3)) →
     (am_K h a0 = 11 ∧ ∃ q3, am_R h 10 55 a0 = some q3 ∧
     ((am_K h q3 = 21 ∨ am_K h q3 = 31) ∧ vp_in a1 (am_N h q3) ∧
     ((¬ (am_A h q3 (a1).toNatClampNeg) = (Int32.ofNat 0) →
      Q (-1 : Int32) h) ∧
     (¬ (¬ (am_A h q3 (a1).toNatClampNeg) = (Int32.ofNat 0)) →
      (am_K h a0 = 11 ∧ ∃ q4, am_R h 10 54 a0 = some q4 ∧
      ((am_K h q4 = 21 ∨ am_K h q4 = 31) ∧ vp_in (((Int32.ofNat 4) * a1) + (Int32.ofNat 2)) (am_N h q4) ∧
      ((¬ (am_A h q4 ((((Int32.ofNat 4) * a1) + (Int32.ofNat 2))).toNatClampNeg) = (Int32.ofNat 2) →
       ((¬ (am_A h q4 ((((Int32.ofNat 4) * a1) + (Int32.ofNat 2))).toNatClampNeg) = (Int32.ofNat 4) →
        Q (-1 : Int32) h) ∧
       (¬ (¬ (am_A h q4 ((((Int32.ofNat 4) * a1) + (Int32.ofNat 2))).toNatClampNeg) = (Int32.ofNat 4)) →
        Q (Int32.ofNat 3) h))) ∧
      (¬ (¬ (am_A h q4 ((((Int32.ofNat 4) * a1) + (Int32.ofNat 2))).toNatClampNeg) = (Int32.ofNat 2)) →
       Q (Int32.ofNat 2) h))))))))))))))))))) :
  am_Ev tt 186 61 [some (.ref a0), some (.int a1), some (.int a2), none] [] h (am_pI Q Qx) := am_vc 44 [(34, [true, true, true, false]), (61, [true, true, true, false])] q

/-! 187 yX10_bond -/
theorem vc_187_0 (tt : Nat → Nat) (a0 : Nat) (a1 : Int32) (h : am_H) (Q : am_H → Prop) (Qx : String → am_H → Prop) (q :
  (am_K h a0 = 11 ∧
  (am_K h a0 = 11 ∧ ∃ (Q2 : Int32 → am_H → Prop) (X2 : String → am_H → Prop), am_Ct tt 182 [.ref a0, .long (Int64.ofNat 0), .long ((a1 - (Int32.ofNat 1))).toInt64] h (am_pI Q2 X2) ∧ (∀ x3 h1, Q2 x3 h1 →
   (am_K h1 a0 = 11 ∧ ∃ (Q5 : Int32 → am_H → Prop) (X5 : String → am_H → Prop), am_Ct tt 182 [.ref a0, .long (Int64.ofNat 0), .long ((a1 - (Int32.ofNat 1))).toInt64] h1 (am_pI Q5 X5) ∧ (∀ x6 h4, Q5 x6 h4 →
    (am_K h4 a0 = 11 ∧ ∃ (Q8 : Int32 → am_H → Prop) (X8 : String → am_H → Prop), am_Ct tt 176 [.ref a0] h4 (am_pI Q8 X8) ∧ (∀ x9 h7, Q8 x9 h7 →
     ((¬ x9 = (Int32.ofNat 0) →
      am_Ev tt 187 41 [some (.ref a0), none, some (.int (am_I h 10 27 a0)), some (.int x3), some (.int x6), some (.int (Int32.ofNat 0)), some (.int x6)] [] h7 (am_pV Q Qx)) ∧
     (¬ (¬ x9 = (Int32.ofNat 0)) →
      Q h7))) ∧ (∀ E10 h7, X8 E10 h7 → Qx E10 h7))) ∧ (∀ E11 h4, X5 E11 h4 → Qx E11 h4))) ∧ (∀ E12 h1, X2 E12 h1 → Qx E12 h1)))) :
  am_Ev tt 187 0 [some (.ref a0), some (.int a1), none, none, none, none, none] [] h (am_pV Q Qx) := am_vc 29 [(41, [true, false, true, true, true, true, true]), (58, [true, false, true, true, true, false, true]), (77, [true, false, true, true, true, true, false]), (103, [true, false, true, false, false, false, false]), (111, [true, false, false, true, true, false, false])] q
theorem vc_187_41 (tt : Nat → Nat) (a0 : Nat) (a2 : Int32) (a3 : Int32) (a4 : Int32) (a5 : Int32) (a6 : Int32) (h : am_H) (Q : am_H → Prop) (Qx : String → am_H → Prop) (q :
  ((a6 = (-1 : Int32) →
   am_Ev tt 187 77 [some (.ref a0), none, some (.int a2), some (.int a3), some (.int a4), some (.int a5), none] [] h (am_pV Q Qx)) ∧
  (¬ (a6 = (-1 : Int32)) →
   ((¬ a5 = (Int32.ofNat 0) →
    am_Ev tt 187 58 [some (.ref a0), none, some (.int a2), some (.int a3), some (.int a4), none, some (.int a6)] [] h (am_pV Q Qx)) ∧
   (¬ (¬ a5 = (Int32.ofNat 0)) →
    ((¬ a6 = a3 →
     (am_K h a0 = 11 ∧ ∃ q1, am_R h 10 57 a0 = some q1 ∧
     ((am_K h q1 = 21 ∨ am_K h q1 = 31) ∧ vp_in a6 (am_N h q1) ∧
     am_Ev tt 187 41 [some (.ref a0), none, some (.int a2), some (.int a3), some (.int a4), some (.int (Int32.ofNat 0)), some (.int (am_A h q1 (a6).toNatClampNeg))] [] h (am_pV Q Qx)))) ∧
    (¬ (¬ a6 = a3) →
     am_Ev tt 187 58 [some (.ref a0), none, some (.int a2), some (.int a3), some (.int a4), none, some (.int a6)] [] h (am_pV Q Qx)))))))) :
  am_Ev tt 187 41 [some (.ref a0), none, some (.int a2), some (.int a3), some (.int a4), some (.int a5), some (.int a6)] [] h (am_pV Q Qx) := am_vc 19 [(41, [true, false, true, true, true, true, true]), (58, [true, false, true, true, true, false, true]), (77, [true, false, true, true, true, true, false]), (103, [true, false, true, false, false, false, false]), (111, [true, false, false, true, true, false, false])] q
theorem vc_187_58 (tt : Nat → Nat) (a0 : Nat) (a2 : Int32) (a3 : Int32) (a4 : Int32) (a6 : Int32) (h : am_H) (Q : am_H → Prop) (Qx : String → am_H → Prop) (q :
  (am_K h a0 = 11 ∧ ∃ q1, am_R h 10 57 a0 = some q1 ∧
  ((am_K h q1 = 21 ∨ am_K h q1 = 31) ∧ vp_in a6 (am_N h q1) ∧
  am_Ev tt 187 41 [some (.ref a0), none, some (.int a2), some (.int a3), some (.int a4), some (.int (Int32.ofNat 1)), some (.int (am_A h q1 (a6).toNatClampNeg))] [] h (am_pV Q Qx)))) :
  am_Ev tt 187 58 [some (.ref a0), none, some (.int a2), some (.int a3), some (.int a4), none, some (.int a6)] [] h (am_pV Q Qx) := am_vc 12 [(41, [true, false, true, true, true, true, true]), (58, [true, false, true, true, true, false, true]), (77, [true, false, true, true, true, true, false]), (103, [true, false, true, false, false, false, false]), (111, [true, false, false, true, true, false, false])] q
theorem vc_187_77 (tt : Nat → Nat) (a0 : Nat) (a2 : Int32) (a3 : Int32) (a4 : Int32) (a5 : Int32) (h : am_H) (Q : am_H → Prop) (Qx : String → am_H → Prop) (q :
  (am_K h a0 = 11 ∧ ∃ q1, am_R h 10 57 a0 = some q1 ∧
  ((am_K h q1 = 21 ∨ am_K h q1 = 31) ∧ vp_in a3 (am_N h q1) ∧
  ((¬ (am_A h q1 (a3).toNatClampNeg) = (-1 : Int32) →
   am_Ev tt 187 103 [some (.ref a0), none, some (.int a2), none, none, none, none] [] h (am_pV Q Qx)) ∧
  (¬ (¬ (am_A h q1 (a3).toNatClampNeg) = (-1 : Int32)) →
   (am_K h a0 = 11 ∧ ∃ q2, am_R h 10 58 a0 = some q2 ∧
   ((am_K h q2 = 21 ∨ am_K h q2 = 31) ∧ vp_in a4 (am_N h q2) ∧
   ((¬ (am_A h q2 (a4).toNatClampNeg) = (-1 : Int32) →
    am_Ev tt 187 103 [some (.ref a0), none, some (.int a2), none, none, none, none] [] h (am_pV Q Qx)) ∧
   (¬ (¬ (am_A h q2 (a4).toNatClampNeg) = (-1 : Int32)) →
    ((a5 = (Int32.ofNat 0) →
     am_Ev tt 187 111 [some (.ref a0), none, none, some (.int a3), some (.int a4), none, none] [] h (am_pV Q Qx)) ∧
    (¬ (a5 = (Int32.ofNat 0)) →
     am_Ev tt 187 103 [some (.ref a0), none, some (.int a2), none, none, none, none] [] h (am_pV Q Qx)))))))))))) :
  am_Ev tt 187 77 [some (.ref a0), none, some (.int a2), some (.int a3), some (.int a4), some (.int a5), none] [] h (am_pV Q Qx) := am_vc 17 [(41, [true, false, true, true, true, true, true]), (58, [true, false, true, true, true, false, true]), (77, [true, false, true, true, true, true, false]), (103, [true, false, true, false, false, false, false]), (111, [true, false, false, true, true, false, false])] q
theorem vc_187_103 (tt : Nat → Nat) (a0 : Nat) (a2 : Int32) (h : am_H) (Q : am_H → Prop) (Qx : String → am_H → Prop) (q :
  (am_K h a0 = 11 ∧ ∃ (Q2 : am_H → Prop) (X2 : String → am_H → Prop), am_Ct tt 177 [.ref a0, .int (Int32.ofNat 7), .int a2] h (am_pV Q2 X2) ∧ (∀ h1, Q2 h1 →
   Q h1) ∧ (∀ E3 h1, X2 E3 h1 → Qx E3 h1))) :
  am_Ev tt 187 103 [some (.ref a0), none, some (.int a2), none, none, none, none] [] h (am_pV Q Qx) := am_vc 7 [(41, [true, false, true, true, true, true, true]), (58, [true, false, true, true, true, false, true]), (77, [true, false, true, true, true, true, false]), (103, [true, false, true, false, false, false, false]), (111, [true, false, false, true, true, false, false])] q
theorem vc_187_111 (tt : Nat → Nat) (a0 : Nat) (a3 : Int32) (a4 : Int32) (h : am_H) (Q : am_H → Prop) (Qx : String → am_H → Prop) (q :
  (am_K h a0 = 11 ∧ ∃ q1, am_R h 10 57 a0 = some q1 ∧
  (am_K h q1 = 21 ∧ vp_in a3 (am_N h q1) ∧
  (am_K h a0 = 11 ∧ ∃ q2, am_R h 10 58 a0 = some q2 ∧
  (am_K h q2 = 21 ∧ vp_in a4 (am_N h q2) ∧
  Q (am_sA (am_sA h q1 (a3).toNatClampNeg a4) q2 (a4).toNatClampNeg a3)))))) :
  am_Ev tt 187 111 [some (.ref a0), none, none, some (.int a3), some (.int a4), none, none] [] h (am_pV Q Qx) := am_vc 13 [(41, [true, false, true, true, true, true, true]), (58, [true, false, true, true, true, false, true]), (77, [true, false, true, true, true, true, false]), (103, [true, false, true, false, false, false, false]), (111, [true, false, false, true, true, false, false])] q

theorem or8n {a b : Nat} (ha : a < 65536) (hb : b < 256) : (Int32.ofNat a <<< (Int32.ofNat 8 &&& 31)) ||| Int32.ofNat b = Int32.ofNat (a * 256 + b) := by
  apply Int32.toBitVec_inj.1
  rw [Int32.toBitVec_or, Int32.toBitVec_shiftLeft]
  have e : ((Int32.ofNat 8 &&& 31).toBitVec.smod 32) = 8#32 := by decide
  rw [e]
  apply BitVec.eq_of_toNat_eq
  have e1 : (Int32.ofNat a).toBitVec.toNat = a := by show a % 2 ^ 32 = a; omega
  have e2 : (Int32.ofNat b).toBitVec.toNat = b := by show b % 2 ^ 32 = b; omega
  have e3 : (Int32.ofNat (a * 256 + b)).toBitVec.toNat = a * 256 + b := by show (a * 256 + b) % 2 ^ 32 = _; omega
  rw [BitVec.toNat_or, BitVec.shiftLeft_eq', BitVec.toNat_shiftLeft, e1, e2, e3, show (8#32).toNat = 8 from rfl, Nat.shiftLeft_eq, Nat.mod_eq_of_lt (by omega), ← Nat.shiftLeft_eq, ← Nat.shiftLeft_add_eq_or_of_lt (by omega), Nat.shiftLeft_eq]
def idv (S a b c pr : Int32) : Int32 := if S = Int32.ofNat 1 ∧ a = Int32.ofNat 0 ∧ pr = Int32.ofNat 0 then Int32.ofNat 0 else if S = Int32.ofNat 1 ∧ a = Int32.ofNat 3 ∧ pr = Int32.ofNat 1 then Int32.ofNat 1 else if S = Int32.ofNat 3 ∧ a = Int32.ofNat 2 ∧ b = Int32.ofNat 3 ∧ pr = Int32.ofNat 0 then (if c = Int32.ofNat 2 then Int32.ofNat 2 else if c = Int32.ofNat 4 then Int32.ofNat 3 else -1) else -1
theorem idn_1 {F : Fn} {p : Nat} : idn F p 1 = F p &&& Int32.ofNat 255 := by
  obtain ⟨a, ha, ea⟩ := a255 (F p)
  rw [idn, idn, Nat.add_zero, ea, or8n (by omega) ha, Nat.zero_mul, Nat.zero_add]
theorem idn_3 {F : Fn} {p a b c : Nat} (ha : a < 256) (hb : b < 256) (hc : c < 256) (ea : F p &&& Int32.ofNat 255 = Int32.ofNat a) (eb : F (p + 1) &&& Int32.ofNat 255 = Int32.ofNat b) (ec : F (p + 2) &&& Int32.ofNat 255 = Int32.ofNat c) : idn F p 3 = Int32.ofNat ((a * 256 + b) * 256 + c) := by
  rw [idn, idn, idn_1, ea, eb, ec, or8n (by omega) hb, or8n (by omega) hc]
theorem idv_k {F : Fn} {p ib pr : Nat} {a b c : Int32} (h1 : 1 ≤ ib) (h4 : ib ≤ 4) (hp : pr ≤ 4) (ea : a = F p &&& Int32.ofNat 255) (eb : 1 < ib → b = F (p + 1) &&& Int32.ofNat 255) (ec : 2 < ib → c = F (p + 2) &&& Int32.ofNat 255) : idv (Int32.ofNat ib) a b c (Int32.ofNat pr) = kdF ib (idn F p ib) pr := by
  obtain ⟨x, hx, ex⟩ := a255 (F p)
  rw [ex] at ea
  subst ea
  unfold idv kdF
  by_cases c1 : ib = 1
  · subst c1
    rw [idn_1, ex]
    simp (disch := omega) only [qi_lt, qi_le, qi_eq, qi_nn, qi_in, qi_add, qi_l, ql_i, ql_lt, ql_le, ql_eq, ql_add, qc_lt, qc_eq, qc_ge, qc_gt, qc_le, true_and, and_true, and_self, true_or, or_true, false_or, or_false, false_and, and_false, not_true_eq_false, not_false_eq_true, Classical.not_not, true_implies, false_implies, implies_true, exists_eq_left, exists_eq_left', Option.some.injEq, reduceIte, Nat.reduceEqDiff, Nat.reduceLT, Nat.reduceLeDiff, Nat.reduceAdd, Nat.reduceSub, Nat.reduceMul, eq_self, ne_eq, and_imp, forall_const, reduceCtorEq, am_w, List.map_cons, List.map_nil, List.sum_cons, List.sum_nil, Value.category, Nat.zero_le, Nat.le_refl]
    by_cases q0 : x = 0 ∧ pr = 0
    · rw [if_pos q0, if_neg (by omega), if_neg (by omega), if_pos (by omega)]
    · rw [if_neg q0]
      by_cases q1 : x = 3 ∧ pr = 1
      · rw [if_pos q1, if_pos q1]
      · rw [if_neg q1, if_neg q1]
        by_cases q2 : 0 < pr
        · rw [if_pos q2]
        · rw [if_neg q2, if_neg (by omega)]
  · by_cases c3 : ib = 3
    · subst c3
      have eb := eb (by omega)
      have ec := ec (by omega)
      obtain ⟨y, hy, ey⟩ := a255 (F (p + 1))
      obtain ⟨z, hz, ez⟩ := a255 (F (p + 2))
      rw [ey] at eb
      rw [ez] at ec
      subst eb
      subst ec
      rw [idn_3 hx hy hz ex ey ez]
      simp (disch := omega) only [qi_lt, qi_le, qi_eq, qi_nn, qi_in, qi_add, qi_l, ql_i, ql_lt, ql_le, ql_eq, ql_add, qc_lt, qc_eq, qc_ge, qc_gt, qc_le, true_and, and_true, and_self, true_or, or_true, false_or, or_false, false_and, and_false, not_true_eq_false, not_false_eq_true, Classical.not_not, true_implies, false_implies, implies_true, exists_eq_left, exists_eq_left', Option.some.injEq, reduceIte, Nat.reduceEqDiff, Nat.reduceLT, Nat.reduceLeDiff, Nat.reduceAdd, Nat.reduceSub, Nat.reduceMul, eq_self, ne_eq, and_imp, forall_const, reduceCtorEq, am_w, List.map_cons, List.map_nil, List.sum_cons, List.sum_nil, Value.category, Nat.zero_le, Nat.le_refl]
      by_cases q2 : 0 < pr
      · rw [if_pos q2]
        have : ¬ (x = 2 ∧ y = 3 ∧ pr = 0) := by omega
        simp [this]
      · have q2 : pr = 0 := by omega
        subst q2
        by_cases qa : x = 2 ∧ y = 3
        · obtain ⟨rfl, rfl⟩ := qa
          by_cases qc : z = 2
          · subst qc; simp
          · by_cases qd : z = 4
            · subst qd; simp
            · have g1 : ¬ (2 * 256 + 3) * 256 + z = 131842 := by omega
              have g2 : ¬ (2 * 256 + 3) * 256 + z = 131844 := by omega
              simp [qc, qd, g1, g2]
        · have g1 : ¬ (x * 256 + y) * 256 + z = 131842 := by omega
          have g2 : ¬ (x * 256 + y) * 256 + z = 131844 := by omega
          have g3 : ¬ (x = 2 ∧ y = 3 ∧ True) := by simp only [and_true]; exact qa
          simp only [and_true] at g3
          simp [g1, g2, g3]
    · simp (disch := omega) only [qi_lt, qi_le, qi_eq, qi_nn, qi_in, qi_add, qi_l, ql_i, ql_lt, ql_le, ql_eq, ql_add, qc_lt, qc_eq, qc_ge, qc_gt, qc_le, true_and, and_true, and_self, true_or, or_true, false_or, or_false, false_and, and_false, not_true_eq_false, not_false_eq_true, Classical.not_not, true_implies, false_implies, implies_true, exists_eq_left, exists_eq_left', Option.some.injEq, reduceIte, Nat.reduceEqDiff, Nat.reduceLT, Nat.reduceLeDiff, Nat.reduceAdd, Nat.reduceSub, Nat.reduceMul, eq_self, ne_eq, and_imp, forall_const, reduceCtorEq, am_w, List.map_cons, List.map_nil, List.sum_cons, List.sum_nil, Value.category, Nat.zero_le, Nat.le_refl]
      simp [c1, c3]
section MBO
variable {tt : Nat → Nat} {F : Fn} {n m : Nat} {ad : Nat → Nat} {h h' h'' k k' : am_H} {s : Ms} {X Y X' Y' : Nat → Prop}
theorem ct_ridOf (sm : md_s h m ad) {c : Nat} (hc : c < 3) : am_Ct tt 186 [.ref m, .int (Int32.ofNat c)] h (am_pI (fun v k => k = h ∧ v = idv (am_A h (ad 53) c) (am_A h (ad 54) (4 * c)) (am_A h (ad 54) (4 * c + 1)) (am_A h (ad 54) (4 * c + 2)) (am_A h (ad 55) c)) no_x) := by
  have k1 := sm.1
  obtain ⟨a1, a2, a3⟩ := md_r sm (k := 53) (by decide) rfl (by decide)
  obtain ⟨b1, b2, b3⟩ := md_r sm (k := 54) (by decide) rfl (by decide)
  obtain ⟨c1, c2, c3⟩ := md_r sm (k := 55) (by decide) rfl (by decide)
  generalize eS : am_A h (ad 53) c = S
  generalize ea : am_A h (ad 54) (4 * c) = a
  generalize eb : am_A h (ad 54) (4 * c + 1) = b
  generalize ec : am_A h (ad 54) (4 * c + 2) = d
  generalize ep : am_A h (ad 55) c = pr
  have i4 : 4 * c < 12 := by omega
  have i5 : 4 * c + 1 < 12 := by omega
  have i6 : 4 * c + 2 < 12 := by omega
  have l61 : ¬ (S = Int32.ofNat 1 ∧ a = Int32.ofNat 0 ∧ pr = Int32.ofNat 0) → ¬ (S = Int32.ofNat 1 ∧ a = Int32.ofNat 3 ∧ pr = Int32.ofNat 1) → am_Ev tt 186 61 [some (.ref m), some (.int (Int32.ofNat c)), some (.int a), none] [] h (am_pI (fun v k => k = h ∧ v = idv S a b d pr) no_x) := by
    intro n0 n1
    refine vc_186_61 tt _ _ _ _ _ _ ?_
    simp (disch := omega) only [k1, a1, a2, a3, b1, b2, b3, c1, c2, c3, eS, ea, eb, ec, ep, i4, i5, i6, hc, qi_mul, qi_lt, qi_le, qi_eq, qi_nn, qi_in, qi_add, qi_l, ql_i, ql_lt, ql_le, ql_eq, ql_add, qc_lt, qc_eq, qc_ge, qc_gt, qc_le, true_and, and_true, and_self, true_or, or_true, false_or, or_false, false_and, and_false, not_true_eq_false, not_false_eq_true, Classical.not_not, true_implies, false_implies, implies_true, exists_eq_left, exists_eq_left', Option.some.injEq, reduceIte, Nat.reduceEqDiff, Nat.reduceLT, Nat.reduceLeDiff, Nat.reduceAdd, Nat.reduceSub, Nat.reduceMul, eq_self, ne_eq, and_imp, forall_const, reduceCtorEq, am_w, List.map_cons, List.map_nil, List.sum_cons, List.sum_nil, Value.category, Nat.zero_le, Nat.le_refl]
    unfold idv
    rw [if_neg n0, if_neg n1]
    refine ⟨fun z => ?_, fun z => ⟨fun z2 => ?_, fun z2 => ⟨fun z3 => ?_, fun z3 => ⟨fun z4 => ?_, fun z4 => ⟨fun z5 => ⟨fun z6 => ?_, fun z6 => ?_⟩, fun z5 => ?_⟩⟩⟩⟩⟩
    · rw [if_neg (fun w => z w.1)]
    · rw [if_neg (fun w => z2 w.2.1)]
    · rw [if_neg (fun w => z3 w.2.2.1)]
    · rw [if_neg (fun w => z4 w.2.2.2)]
    · rw [if_pos ⟨z, z2, z3, z4⟩, if_neg z5, if_neg z6]
    · rw [if_pos ⟨z, z2, z3, z4⟩, if_neg z5, if_pos z6]
    · rw [if_pos ⟨z, z2, z3, z4⟩, if_pos z5]
  have l34 : ¬ (S = Int32.ofNat 1 ∧ a = Int32.ofNat 0 ∧ pr = Int32.ofNat 0) → am_Ev tt 186 34 [some (.ref m), some (.int (Int32.ofNat c)), some (.int a), none] [] h (am_pI (fun v k => k = h ∧ v = idv S a b d pr) no_x) := by
    intro n0
    refine vc_186_34 tt _ _ _ _ _ _ ?_
    simp (disch := omega) only [k1, a1, a2, a3, c1, c2, c3, eS, ep, hc, qi_mul, qi_lt, qi_le, qi_eq, qi_nn, qi_in, qi_add, qi_l, ql_i, ql_lt, ql_le, ql_eq, ql_add, qc_lt, qc_eq, qc_ge, qc_gt, qc_le, true_and, and_true, and_self, true_or, or_true, false_or, or_false, false_and, and_false, not_true_eq_false, not_false_eq_true, Classical.not_not, true_implies, false_implies, implies_true, exists_eq_left, exists_eq_left', Option.some.injEq, reduceIte, Nat.reduceEqDiff, Nat.reduceLT, Nat.reduceLeDiff, Nat.reduceAdd, Nat.reduceSub, Nat.reduceMul, eq_self, ne_eq, and_imp, forall_const, reduceCtorEq, am_w, List.map_cons, List.map_nil, List.sum_cons, List.sum_nil, Value.category, Nat.zero_le, Nat.le_refl]
    refine ⟨fun z => l61 n0 (fun w => z w.1), fun z => ⟨fun z2 => l61 n0 (fun w => z2 w.2.1), fun z2 => ⟨fun z3 => l61 n0 (fun w => z3 w.2.2), fun z3 => ?_⟩⟩⟩
    unfold idv
    rw [if_neg n0, if_pos ⟨z, z2, z3⟩]
  refine vc_186_0 tt _ _ h _ _ ?_
  simp (disch := omega) only [k1, a1, a2, a3, b1, b2, b3, c1, c2, c3, eS, ea, ep, hc, i4, qi_mul, qi_lt, qi_le, qi_eq, qi_nn, qi_in, qi_add, qi_l, ql_i, ql_lt, ql_le, ql_eq, ql_add, qc_lt, qc_eq, qc_ge, qc_gt, qc_le, true_and, and_true, and_self, true_or, or_true, false_or, or_false, false_and, and_false, not_true_eq_false, not_false_eq_true, Classical.not_not, true_implies, false_implies, implies_true, exists_eq_left, exists_eq_left', Option.some.injEq, reduceIte, Nat.reduceEqDiff, Nat.reduceLT, Nat.reduceLeDiff, Nat.reduceAdd, Nat.reduceSub, Nat.reduceMul, eq_self, ne_eq, and_imp, forall_const, reduceCtorEq, am_w, List.map_cons, List.map_nil, List.sum_cons, List.sum_nil, Value.category, Nat.zero_le, Nat.le_refl]
  refine ⟨fun z => l34 (fun w => z w.1), fun z => ⟨fun z2 => l34 (fun w => z2 w.2.1), fun z2 => ⟨fun z3 => l34 (fun w => z3 w.2.2), fun z3 => ?_⟩⟩⟩
  unfold idv
  rw [if_pos ⟨z, z2, z3⟩]
/-- one bond -/
def pB1 (F : Fn) (n nc : Nat) (bs : List (Nat × Nat)) (p : Nat) : Except pe (List (Nat × Nat) × Nat) := bd (tN F n p (l64 0) (l64 (nc - 1))) fun t p1 => bd (tN F n p1 (l64 0) (l64 (nc - 1))) fun g p2 =>
      if ¬ tkL bs t.toNatClampNeg = 3 ∨ ¬ gvL bs g.toNatClampNeg = 3 ∨ lds bs g.toNatClampNeg t.toNatClampNeg = true then .error (7, p) else .ok (bs ++ [(t.toNatClampNeg, g.toNatClampNeg)], p2)
theorem lBo_1 {F : Fn} {n nc d p : Nat} {bs : List (Nat × Nat)} : lBo F n nc (d + 1) p bs = bd (pB1 F n nc bs p) fun bs' p' => lBo F n nc d p' bs' := by
  rw [lBo, pB1]
  cases tN F n p (l64 0) (l64 (nc - 1)) with
  | error e => rfl
  | ok a =>
    obtain ⟨t, p1⟩ := a
    show bd (tN F n p1 _ _) _ = bd (bd (tN F n p1 _ _) _) _
    cases tN F n p1 (l64 0) (l64 (nc - 1)) with
    | error e => rfl
    | ok a =>
      obtain ⟨g, p2⟩ := a
      show (if _ then _ else _) = bd (if _ then _ else _) _
      split
      · rfl
      · rfl
def MBR (ad : Nat → Nat) (h : am_H) (bs : List (Nat × Nat)) : Prop := (∀ c, c < 3 → am_A h (ad 57) c = tkv (tkL bs c)) ∧ (∀ c, c < 3 → am_A h (ad 58) c = tkv (gvL bs c))
abbrev Xbd (k : Nat) : Prop := k = 57 ∨ k = 58
theorem tk2 {nc : Nat} : ∀ {bs : List (Nat × Nat)} {o : Nat}, vB nc bs → bs.length ≤ 1 → tkL bs o < 3 → tkL bs (tkL bs o) = 3
  | [], o, _, _, h => absurd h (by show ¬ 3 < 3; omega)
  | [(a, b)], o, hv, _, h => by
    have hv : okB nc [] a b := hv
    have h3 := hv.2.2.1
    have ne : ¬ b = a := by
      intro e
      subst e
      unfold lds at h3
      rw [decide_eq_false_iff_not] at h3
      exact h3 (Or.inl rfl)
    unfold tkL at h ⊢
    unfold tkL at h ⊢
    by_cases c : a = o
    · rw [if_pos c] at h ⊢
      rw [if_neg (fun z => ne z.symm)]
    · rw [if_neg c] at h
      omega
  | _ :: _ :: _, _, _, hl, _ => by simp only [List.length_cons] at hl; omega
theorem ct_rbond (y : MY F n h m ad s) {nc : Nat} (h1 : 1 ≤ nc) (h3 : nc ≤ 3) {bs' : List (Nat × Nat)} (br : MBR ad h bs') (hv : vB nc bs') (hl : bs'.length ≤ 1) {r : Except pe (List (Nat × Nat) × Nat)} (hr : r = bs s (pB1 F n nc bs')) : am_Ct tt 187 [.ref m, .int (Int32.ofNat nc)] h (am_pV (fun k => MY F n k m ad (st r) ∧ mg m ad Xbd Yn h k ∧ ∀ b p', r = .ok (b, p') → MBR ad k b) no_x) := by
  have k1 := y.1.1
  have hbs := vB_b h3 hv
  have eu : (Int32.ofNat nc - Int32.ofNat 1).toInt64 = l64 (nc - 1) := by rw [qi_sub h1, qi_l (by omega)]
  refine vc_187_0 tt _ _ h _ _ ⟨k1, k1, _, _, ct_rnumberIn y (u := (Int32.ofNat nc - Int32.ofNat 1).toInt64) (Int64.le_refl _) rfl, fun x k e => ?_, fun _ _ z => z.elim⟩
  obtain ⟨y2, g2, v2, _, _⟩ := e
  refine ⟨y2.1.1, _, _, ct_rnumberIn y2 (u := (Int32.ofNat nc - Int32.ofNat 1).toInt64) (Int64.le_refl _) rfl, fun x3 k3 e => ?_, fun _ _ z => z.elim⟩
  obtain ⟨y3, g3, v3, _, _⟩ := e
  have g23 : mg m ad Xn Yn h k3 := g2.tr g3
  have g23b : mg m ad Xbd Yn h k3 := g23.mo (fun _ z => z.elim) (fun _ z => z)
  refine ⟨y3.1.1, _, _, ct_mfine y3, fun w k4 e => ?_, fun _ _ z => z.elim⟩
  obtain ⟨rfl, rfl⟩ := e
  rw [eu] at y3 v3 y2 v2
  cases s with
  | error e =>
    have er : r = .error e := hr
    refine ⟨fun z => absurd rfl z, fun _ => ?_⟩
    rw [er]
    exact ⟨y3, g23b, fun b p' z => by cases z⟩
  | ok p =>
    have e27 := y.2.2.2.2.1.2
    have hr : r = pB1 F n nc bs' p := hr
    have y2 : MY F n k m ad (st (tN F n p (l64 0) (l64 (nc - 1)))) := y2
    have v2 : ∀ a p', tN F n p (l64 0) (l64 (nc - 1)) = .ok (a, p') → x = a.toInt32 := v2
    rw [eu]
    rw [show bs (Except.ok p : Ms) (fun p => tN F n p (Int64.ofNat 0) (l64 (nc - 1))) = tN F n p (l64 0) (l64 (nc - 1)) from rfl] at *
    cases e1 : tN F n p (l64 0) (l64 (nc - 1)) with
    | error e =>
      rw [e1] at y3 v3
      have er : r = .error e := by rw [hr, pB1, e1]; rfl
      refine ⟨fun z => absurd rfl z, fun _ => ?_⟩
      rw [er]
      exact ⟨y3, g23b, fun b p' z => by cases z⟩
    | ok a1 =>
      obtain ⟨t, p1⟩ := a1
      rw [e1] at y3 v3
      have ex := v2 t p1 e1
      have y3 : MY F n k4 m ad (st (tN F n p1 (l64 0) (l64 (nc - 1)))) := y3
      have v3 : ∀ a p', tN F n p1 (l64 0) (l64 (nc - 1)) = .ok (a, p') → x3 = a.toInt32 := v3
      have hr : r = bd (tN F n p1 (l64 0) (l64 (nc - 1))) fun g p2 => if ¬ tkL bs' t.toNatClampNeg = 3 ∨ ¬ gvL bs' g.toNatClampNeg = 3 ∨ lds bs' g.toNatClampNeg t.toNatClampNeg = true then .error (7, p) else .ok (bs' ++ [(t.toNatClampNeg, g.toNatClampNeg)], p2) := by rw [hr, pB1, e1]; rfl
      rw [show bs (st (Except.ok (t, p1) : Except pe (Int64 × Nat))) (fun p => tN F n p (Int64.ofNat 0) (l64 (nc - 1))) = tN F n p1 (l64 0) (l64 (nc - 1)) from rfl]
      cases e2 : tN F n p1 (l64 0) (l64 (nc - 1)) with
      | error e =>
        rw [e2] at y3
        have er : r = .error e := by rw [hr, e2]; rfl
        refine ⟨fun z => absurd rfl z, fun _ => ?_⟩
        rw [er]
        exact ⟨y3, g23b, fun b p' z => by cases z⟩
      | ok a2 =>
        obtain ⟨g, p2⟩ := a2
        have ex3 := v3 g p2 e2
        rw [e2] at y3
        have y3 : MY F n k4 m ad (.ok p2) := y3
        obtain ⟨ti, rfl, t1, t2, _⟩ := tN_n (by omega) (by omega) e1
        obtain ⟨gi, rfl, q1, q2, _⟩ := tN_n (by omega) (by omega) e2
        rw [e2] at hr
        have hr : r = if ¬ tkL bs' (Int64.ofNat ti).toNatClampNeg = 3 ∨ ¬ gvL bs' (Int64.ofNat gi).toNatClampNeg = 3 ∨ lds bs' (Int64.ofNat gi).toNatClampNeg (Int64.ofNat ti).toNatClampNeg = true then .error (7, p) else .ok (bs' ++ [((Int64.ofNat ti).toNatClampNeg, (Int64.ofNat gi).toNatClampNeg)], p2) := hr
        have c1 : (Int64.ofNat ti).toNatClampNeg = ti := Int64.toNatClampNeg_ofNat_of_lt (by omega)
        have c2 : (Int64.ofNat gi).toNatClampNeg = gi := Int64.toNatClampNeg_ofNat_of_lt (by omega)
        rw [c1, c2] at hr
        have ex : x = Int32.ofNat ti := by rw [ex]; exact ql_i
        have ex3 : x3 = Int32.ofNat gi := by rw [ex3]; exact ql_i
        subst ex
        subst ex3
        refine ⟨fun _ => ?_, fun z => absurd (show ¬ Int32.ofNat 1 = Int32.ofNat 0 by decide) z⟩
        rw [e27]
        have kk := y3.1.1
        obtain ⟨a1, a2, a3⟩ := md_r y3.1 (k := 57) (by decide) rfl (by decide)
        obtain ⟨b1, b2, b3⟩ := md_r y3.1 (k := 58) (by decide) rfl (by decide)
        have r57 : ∀ c, c < 3 → am_A k4 (ad 57) c = tkv (tkL bs' c) := fun c hc => by rw [(g23.2.1 57 (fun z => z)).1]; exact br.1 c hc
        have r58 : ∀ c, c < 3 → am_A k4 (ad 58) c = tkv (gvL bs' c) := fun c hc => by rw [(g23.2.1 58 (fun z => z)).1]; exact br.2 c hc
        have lt3 : ti < 3 := by omega
        have lg3 : gi < 3 := by omega
        have tl := tkL_le (c := ti) hbs
        have gl := gvL_le (c := gi) hbs
        have no : (¬ tkL bs' ti = 3 ∨ ¬ gvL bs' gi = 3 ∨ lds bs' gi ti = true) → am_Ev tt 187 103 [some (.ref m), none, some (.int (Int32.ofNat p)), none, none, none, none] [] k4 (am_pV (fun k => MY F n k m ad (st r) ∧ mg m ad Xbd Yn h k ∧ ∀ b p', r = .ok (b, p') → MBR ad k b) no_x) := by
          intro hc
          rw [if_pos hc] at hr
          refine vc_187_103 tt _ _ _ _ _ ⟨kk, _, _, ct_mfails y3 (f := 7) (pl := p) (by omega) (by omega), fun k5 w5 => ?_, fun _ _ z => z.elim⟩
          rw [hr]
          exact ⟨w5.1, g23b.tr (w5.2.qn.mo (fun _ z => z.elim) (fun _ z => z)), fun b p' z => by cases z⟩
        have l77 : am_Ev tt 187 77 [some (.ref m), none, some (.int (Int32.ofNat p)), some (.int (Int32.ofNat ti)), some (.int (Int32.ofNat gi)), some (.int (b01 (lds bs' gi ti))), none] [] k4 (am_pV (fun k => MY F n k m ad (st r) ∧ mg m ad Xbd Yn h k ∧ ∀ b p', r = .ok (b, p') → MBR ad k b) no_x) := by
          have e1 := r57 ti lt3
          have e2 := r58 gi lg3
          refine vc_187_77 tt _ _ _ _ _ _ _ _ ?_
          simp (disch := omega) only [kk, a1, a2, a3, b1, b2, b3, e1, e2, lt3, lg3, tkv_m tl, tkv_m gl, qi_lt, qi_le, qi_eq, qi_nn, qi_in, qi_add, qi_l, ql_i, ql_lt, ql_le, ql_eq, ql_add, qc_lt, qc_eq, qc_ge, qc_gt, qc_le, true_and, and_true, and_self, true_or, or_true, false_or, or_false, false_and, and_false, not_true_eq_false, not_false_eq_true, Classical.not_not, true_implies, false_implies, implies_true, exists_eq_left, exists_eq_left', Option.some.injEq, reduceIte, Nat.reduceEqDiff, Nat.reduceLT, Nat.reduceLeDiff, Nat.reduceAdd, Nat.reduceSub, Nat.reduceMul, eq_self, ne_eq, and_imp, forall_const, reduceCtorEq, am_w, List.map_cons, List.map_nil, List.sum_cons, List.sum_nil, Value.category, Nat.zero_le, Nat.le_refl]
          refine ⟨fun z => no (Or.inl z), fun z => ⟨fun z2 => no (Or.inr (Or.inl z2)), fun z2 => ⟨fun z3 => ?_, fun z3 => no (Or.inr (Or.inr ?_))⟩⟩⟩
          · have lf : lds bs' gi ti = false := by
              cases hq : lds bs' gi ti with
              | false => rfl
              | true => rw [hq] at z3; exact absurd z3 (by decide)
            rw [if_neg (by rw [lf]; simp [z, z2])] at hr
            refine vc_187_111 tt _ _ _ _ _ _ ?_
            simp (disch := omega) only [kk, a1, a2, a3, b1, b2, b3, lt3, lg3, qi_lt, qi_le, qi_eq, qi_nn, qi_in, qi_add, qi_l, ql_i, ql_lt, ql_le, ql_eq, ql_add, qc_lt, qc_eq, qc_ge, qc_gt, qc_le, true_and, and_true, and_self, true_or, or_true, false_or, or_false, false_and, and_false, not_true_eq_false, not_false_eq_true, Classical.not_not, true_implies, false_implies, implies_true, exists_eq_left, exists_eq_left', Option.some.injEq, reduceIte, Nat.reduceEqDiff, Nat.reduceLT, Nat.reduceLeDiff, Nat.reduceAdd, Nat.reduceSub, Nat.reduceMul, eq_self, ne_eq, and_imp, forall_const, reduceCtorEq, am_w, List.map_cons, List.map_nil, List.sum_cons, List.sum_nil, Value.category, Nat.zero_le, Nat.le_refl]
            rw [hr]
            have s1 : mg m ad Xbd (fun _ => False) k4 (am_sA k4 (ad 57) ti (Int32.ofNat gi)) := mg.sA y3.1 (by omega)
            have s2 : mg m ad Xbd (fun _ => False) (am_sA k4 (ad 57) ti (Int32.ofNat gi)) (am_sA (am_sA k4 (ad 57) ti (Int32.ofNat gi)) (ad 58) gi (Int32.ofNat ti)) := mg.sA (s1.1.md y3.1) (by omega)
            have s12 := s1.tr s2
            have ne : ¬ ad 57 = ad 58 := fun z => absurd (y3.1.2.2 _ _ z) (by omega)
            have ne' : ¬ ad 58 = ad 57 := fun z => ne z.symm
            refine ⟨y3.on s12 (by omega) id id id id, g23b.tr (s12.mo (fun _ z => z) (fun _ z => z.elim)), fun b p' z4 => ?_⟩
            cases z4
            refine ⟨fun c hc => ?_, fun c hc => ?_⟩
            · simp only [am_hs, ne, true_and, and_true, and_self, true_or, or_true, false_or, or_false, false_and, and_false, not_true_eq_false, not_false_eq_true, Classical.not_not, true_implies, false_implies, implies_true, exists_eq_left, exists_eq_left', Option.some.injEq, reduceIte, Nat.reduceEqDiff, Nat.reduceLT, Nat.reduceLeDiff, Nat.reduceAdd, Nat.reduceSub, Nat.reduceMul, eq_self, ne_eq, and_imp, forall_const, reduceCtorEq, am_w, List.map_cons, List.map_nil, List.sum_cons, List.sum_nil, Value.category, Nat.zero_le, Nat.le_refl]
              rw [tkL_app hbs, r57 c hc]
              by_cases cc : c = ti
              · subst cc
                rw [if_pos rfl, if_pos z, if_pos rfl, tkv, if_neg (by omega)]
              · rw [if_neg cc]
                by_cases c5 : tkL bs' c = 3
                · rw [if_pos c5, if_neg (fun z => cc z.symm), c5]
                · rw [if_neg c5]
            · simp only [am_hs, ne', true_and, and_true, and_self, true_or, or_true, false_or, or_false, false_and, and_false, not_true_eq_false, not_false_eq_true, Classical.not_not, true_implies, false_implies, implies_true, exists_eq_left, exists_eq_left', Option.some.injEq, reduceIte, Nat.reduceEqDiff, Nat.reduceLT, Nat.reduceLeDiff, Nat.reduceAdd, Nat.reduceSub, Nat.reduceMul, eq_self, ne_eq, and_imp, forall_const, reduceCtorEq, am_w, List.map_cons, List.map_nil, List.sum_cons, List.sum_nil, Value.category, Nat.zero_le, Nat.le_refl]
              rw [gvL_app hbs, r58 c hc]
              by_cases cc : c = gi
              · subst cc
                rw [if_pos rfl, if_pos z2, if_pos rfl, tkv, if_neg (by omega)]
              · rw [if_neg cc]
                by_cases c5 : gvL bs' c = 3
                · rw [if_pos c5, if_neg (fun z => cc z.symm), c5]
                · rw [if_neg c5]
          · cases hq : lds bs' gi ti with
            | false => rw [hq] at z3; exact absurd rfl z3
            | true => rfl
        -- round the ring
        have endl : ∀ (R : Bool), R = lds bs' gi ti → am_Ev tt 187 41 [some (.ref m), none, some (.int (Int32.ofNat p)), some (.int (Int32.ofNat ti)), some (.int (Int32.ofNat gi)), some (.int (b01 R)), some (.int (-1 : Int32))] [] k4 (am_pV (fun k => MY F n k m ad (st r) ∧ mg m ad Xbd Yn h k ∧ ∀ b p', r = .ok (b, p') → MBR ad k b) no_x) := by
          intro R eR
          subst eR
          exact vc_187_41 tt _ _ _ _ _ _ _ _ _ ⟨fun _ => l77, fun z => absurd rfl z⟩
        have stp : ∀ (R : Bool) (c : Nat), c < 3 → am_Ev tt 187 41 [some (.ref m), none, some (.int (Int32.ofNat p)), some (.int (Int32.ofNat ti)), some (.int (Int32.ofNat gi)), some (.int (b01 (R || decide (c = ti)))), some (.int (tkv (tkL bs' c)))] [] k4 (am_pV (fun k => MY F n k m ad (st r) ∧ mg m ad Xbd Yn h k ∧ ∀ b p', r = .ok (b, p') → MBR ad k b) no_x) → am_Ev tt 187 41 [some (.ref m), none, some (.int (Int32.ofNat p)), some (.int (Int32.ofNat ti)), some (.int (Int32.ofNat gi)), some (.int (b01 R)), some (.int (Int32.ofNat c))] [] k4 (am_pV (fun k => MY F n k m ad (st r) ∧ mg m ad Xbd Yn h k ∧ ∀ b p', r = .ok (b, p') → MBR ad k b) no_x) := by
          intro R c hc nx
          have ev := r57 c hc
          have l58 : (R || decide (c = ti)) = true → am_Ev tt 187 58 [some (.ref m), none, some (.int (Int32.ofNat p)), some (.int (Int32.ofNat ti)), some (.int (Int32.ofNat gi)), none, some (.int (Int32.ofNat c))] [] k4 (am_pV (fun k => MY F n k m ad (st r) ∧ mg m ad Xbd Yn h k ∧ ∀ b p', r = .ok (b, p') → MBR ad k b) no_x) := by
            intro hR
            rw [hR] at nx
            refine vc_187_58 tt _ _ _ _ _ _ _ _ ?_
            simp (disch := omega) only [kk, a1, a2, a3, ev, hc, qi_lt, qi_le, qi_eq, qi_nn, qi_in, qi_add, qi_l, ql_i, ql_lt, ql_le, ql_eq, ql_add, qc_lt, qc_eq, qc_ge, qc_gt, qc_le, true_and, and_true, and_self, true_or, or_true, false_or, or_false, false_and, and_false, not_true_eq_false, not_false_eq_true, Classical.not_not, true_implies, false_implies, implies_true, exists_eq_left, exists_eq_left', Option.some.injEq, reduceIte, Nat.reduceEqDiff, Nat.reduceLT, Nat.reduceLeDiff, Nat.reduceAdd, Nat.reduceSub, Nat.reduceMul, eq_self, ne_eq, and_imp, forall_const, reduceCtorEq, am_w, List.map_cons, List.map_nil, List.sum_cons, List.sum_nil, Value.category, Nat.zero_le, Nat.le_refl]
            exact nx
          refine vc_187_41 tt _ _ _ _ _ _ _ _ _ ⟨fun z => absurd z (by rw [qi_m1 (by omega)]; exact id), fun _ => ⟨fun z => ?_, fun z => ⟨fun z2 => ?_, fun z2 => ?_⟩⟩⟩
          · refine l58 ?_
            cases R with
            | true => rfl
            | false => exact absurd rfl z
          · have hR : (R || decide (c = ti)) = false := by
              cases R with
              | true => exact absurd (show ¬ Int32.ofNat 1 = Int32.ofNat 0 by decide) z
              | false => exact decide_eq_false (fun w => z2 (by rw [w]))
            rw [hR] at nx
            simp (disch := omega) only [kk, a1, a2, a3, ev, hc, qi_lt, qi_le, qi_eq, qi_nn, qi_in, qi_add, qi_l, ql_i, ql_lt, ql_le, ql_eq, ql_add, qc_lt, qc_eq, qc_ge, qc_gt, qc_le, true_and, and_true, and_self, true_or, or_true, false_or, or_false, false_and, and_false, not_true_eq_false, not_false_eq_true, Classical.not_not, true_implies, false_implies, implies_true, exists_eq_left, exists_eq_left', Option.some.injEq, reduceIte, Nat.reduceEqDiff, Nat.reduceLT, Nat.reduceLeDiff, Nat.reduceAdd, Nat.reduceSub, Nat.reduceMul, eq_self, ne_eq, and_imp, forall_const, reduceCtorEq, am_w, List.map_cons, List.map_nil, List.sum_cons, List.sum_nil, Value.category, Nat.zero_le, Nat.le_refl]
            exact nx
          · refine l58 ?_
            have e5 : Int32.ofNat c = Int32.ofNat ti := Classical.not_not.1 z2
            rw [qi_eq (by omega) (by omega)] at e5
            rw [decide_eq_true e5, Bool.or_true]
        have el : lds bs' gi ti = decide (gi = ti ∨ tkL bs' gi = ti) := by
          unfold lds
          apply decide_eq_decide.2
          refine ⟨fun z => ?_, fun z => ?_⟩
          · rcases z with z | z | ⟨z, z2⟩
            · exact Or.inl z
            · exact Or.inr z
            · have := tk2 hv hl z; omega
          · rcases z with z | z
            · exact Or.inl z
            · exact Or.inr (Or.inl z)
        refine stp false gi lg3 ?_
        have lgi := tkL_le (c := gi) hbs
        by_cases c5 : tkL bs' gi = 3
        · rw [show tkv (tkL bs' gi) = -1 from by rw [tkv, if_pos c5]]
          refine endl _ ?_
          rw [el, Bool.false_or]
          exact decide_eq_decide.2 (by omega)
        · rw [show tkv (tkL bs' gi) = Int32.ofNat (tkL bs' gi) from by rw [tkv, if_neg c5]]
          refine stp _ _ (by omega) ?_
          rw [show tkv (tkL bs' (tkL bs' gi)) = -1 from by rw [tkv, if_pos (tk2 hv hl (by omega))]]
          refine endl _ ?_
          rw [el, Bool.false_or, Bool.decide_or]
end MBO
