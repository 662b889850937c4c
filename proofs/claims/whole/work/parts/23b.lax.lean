/-! deps: 23a -/
/-! ===== the law's cases ===== -/
/-! 205 yL_law -/
set_option maxRecDepth 4096 in
theorem vc_205_0 (tt : Nat → Nat) (a0 : Nat) (h : am_H) (Q : Int32 → am_H → Prop) (Qx : String → am_H → Prop) (q :
  (am_U h + 1 ≤ am_LC ∧ am_V h + 6 ≤ am_LS ∧ ∀ q1, am_K h q1 = 0 →
  (∃ (Q3 : am_H → Prop), am_Ct tt 103 [.ref q1] (am_nO h q1 9) (am_pV Q3 (fun _ _ => False)) ∧ (∀ h2, Q3 h2 →
   am_Ev tt 205 8 [some (.ref a0), some (.ref q1), none, none, none, none, none] [] h2 (am_pI Q Qx))))) :
  am_Ev tt 205 0 [some (.ref a0), none, none, none, none, none, none] [] h (am_pI Q Qx) := am_vc 7 [(8, [true, true, false, false, false, false, false]), (16, [true, true, true, false, false, false, false]), (20, [true, true, true, true, false, false, false]), (23, [true, true, true, true, true, false, false]), (32, [true, true, true, true, true, false, false]), (132, [true, true, true, true, true, false, false]), (157, [true, true, true, true, true, false, false]), (196, [true, true, true, true, true, false, false]), (277, [true, true, true, true, true, false, false]), (314, [true, true, true, true, true, false, false]), (363, [true, true, true, true, true, false, false]), (444, [true, true, true, true, true, false, false]), (457, [true, true, true, true, true, false, false]), (470, [true, true, true, true, true, false, false]), (483, [true, true, true, true, true, false, false]), (520, [true, true, true, true, true, false, false]), (558, [true, true, true, true, true, false, false]), (607, [true, true, true, true, true, false, false]), (644, [true, true, true, true, true, false, false]), (673, [true, true, true, true, true, true, false]), (701, [true, true, true, true, true, true, true]), (712, [true, true, true, true, true, true, true]), (729, [true, true, true, true, true, false, false]), (732, [true, true, true, true, true, false, false]), (767, [true, true, true, true, true, true, false]), (801, [true, true, true, true, true, true, true]), (812, [true, true, true, true, true, true, true]), (829, [true, true, true, true, true, false, false]), (832, [true, true, true, true, true, false, false]), (901, [true, true, true, true, true, false, false]), (926, [true, true, true, true, true, false, false]), (951, [true, true, true, true, true, false, false]), (976, [true, true, true, true, true, false, false]), (989, [true, true, true, true, true, false, false])] q
set_option maxRecDepth 4096 in
theorem vc_205_8 (tt : Nat → Nat) (a0 : Nat) (a1 : Nat) (h : am_H) (Q : Int32 → am_H → Prop) (Qx : String → am_H → Prop) (q :
  (am_U h + 1 ≤ am_LC ∧ am_V h + 63 ≤ am_LS ∧ ∀ q1, am_K h q1 = 0 →
  (∃ (Q3 : am_H → Prop), am_Ct tt 128 [.ref q1] (am_nO h q1 10) (am_pV Q3 (fun _ _ => False)) ∧ (∀ h2, Q3 h2 →
   am_Ev tt 205 16 [some (.ref a0), some (.ref a1), some (.ref q1), none, none, none, none] [] h2 (am_pI Q Qx))))) :
  am_Ev tt 205 8 [some (.ref a0), some (.ref a1), none, none, none, none, none] [] h (am_pI Q Qx) := am_vc 7 [(8, [true, true, false, false, false, false, false]), (16, [true, true, true, false, false, false, false]), (20, [true, true, true, true, false, false, false]), (23, [true, true, true, true, true, false, false]), (32, [true, true, true, true, true, false, false]), (132, [true, true, true, true, true, false, false]), (157, [true, true, true, true, true, false, false]), (196, [true, true, true, true, true, false, false]), (277, [true, true, true, true, true, false, false]), (314, [true, true, true, true, true, false, false]), (363, [true, true, true, true, true, false, false]), (444, [true, true, true, true, true, false, false]), (457, [true, true, true, true, true, false, false]), (470, [true, true, true, true, true, false, false]), (483, [true, true, true, true, true, false, false]), (520, [true, true, true, true, true, false, false]), (558, [true, true, true, true, true, false, false]), (607, [true, true, true, true, true, false, false]), (644, [true, true, true, true, true, false, false]), (673, [true, true, true, true, true, true, false]), (701, [true, true, true, true, true, true, true]), (712, [true, true, true, true, true, true, true]), (729, [true, true, true, true, true, false, false]), (732, [true, true, true, true, true, false, false]), (767, [true, true, true, true, true, true, false]), (801, [true, true, true, true, true, true, true]), (812, [true, true, true, true, true, true, true]), (829, [true, true, true, true, true, false, false]), (832, [true, true, true, true, true, false, false]), (901, [true, true, true, true, true, false, false]), (926, [true, true, true, true, true, false, false]), (951, [true, true, true, true, true, false, false]), (976, [true, true, true, true, true, false, false]), (989, [true, true, true, true, true, false, false])] q
set_option maxRecDepth 4096 in
theorem vc_205_16 (tt : Nat → Nat) (a0 : Nat) (a1 : Nat) (a2 : Nat) (h : am_H) (Q : Int32 → am_H → Prop) (Qx : String → am_H → Prop) (q :
  (¬ (Int32.ofNat 1) < (Int32.ofNat 0) ∧ ((Int32.ofNat 1)).toNatClampNeg ≤ 60000 ∧ am_U h + 1 ≤ am_LC ∧ am_V h + ((Int32.ofNat 1)).toNatClampNeg ≤ am_LS ∧ ∀ q1, am_K h q1 = 0 →
  am_Ev tt 205 20 [some (.ref a0), some (.ref a1), some (.ref a2), some (.ref q1), none, none, none] [] (am_nA h q1 22 ((Int32.ofNat 1)).toNatClampNeg) (am_pI Q Qx))) :
  am_Ev tt 205 16 [some (.ref a0), some (.ref a1), some (.ref a2), none, none, none, none] [] h (am_pI Q Qx) := am_vc 6 [(8, [true, true, false, false, false, false, false]), (16, [true, true, true, false, false, false, false]), (20, [true, true, true, true, false, false, false]), (23, [true, true, true, true, true, false, false]), (32, [true, true, true, true, true, false, false]), (132, [true, true, true, true, true, false, false]), (157, [true, true, true, true, true, false, false]), (196, [true, true, true, true, true, false, false]), (277, [true, true, true, true, true, false, false]), (314, [true, true, true, true, true, false, false]), (363, [true, true, true, true, true, false, false]), (444, [true, true, true, true, true, false, false]), (457, [true, true, true, true, true, false, false]), (470, [true, true, true, true, true, false, false]), (483, [true, true, true, true, true, false, false]), (520, [true, true, true, true, true, false, false]), (558, [true, true, true, true, true, false, false]), (607, [true, true, true, true, true, false, false]), (644, [true, true, true, true, true, false, false]), (673, [true, true, true, true, true, true, false]), (701, [true, true, true, true, true, true, true]), (712, [true, true, true, true, true, true, true]), (729, [true, true, true, true, true, false, false]), (732, [true, true, true, true, true, false, false]), (767, [true, true, true, true, true, true, false]), (801, [true, true, true, true, true, true, true]), (812, [true, true, true, true, true, true, true]), (829, [true, true, true, true, true, false, false]), (832, [true, true, true, true, true, false, false]), (901, [true, true, true, true, true, false, false]), (926, [true, true, true, true, true, false, false]), (951, [true, true, true, true, true, false, false]), (976, [true, true, true, true, true, false, false]), (989, [true, true, true, true, true, false, false])] q
set_option maxRecDepth 4096 in
theorem vc_205_20 (tt : Nat → Nat) (a0 : Nat) (a1 : Nat) (a2 : Nat) (a3 : Nat) (h : am_H) (Q : Int32 → am_H → Prop) (Qx : String → am_H → Prop) (q :
  am_Ev tt 205 23 [some (.ref a0), some (.ref a1), some (.ref a2), some (.ref a3), some (.int (Int32.ofNat 0)), none, none] [] h (am_pI Q Qx)) :
  am_Ev tt 205 20 [some (.ref a0), some (.ref a1), some (.ref a2), some (.ref a3), none, none, none] [] h (am_pI Q Qx) := am_vc 5 [(8, [true, true, false, false, false, false, false]), (16, [true, true, true, false, false, false, false]), (20, [true, true, true, true, false, false, false]), (23, [true, true, true, true, true, false, false]), (32, [true, true, true, true, true, false, false]), (132, [true, true, true, true, true, false, false]), (157, [true, true, true, true, true, false, false]), (196, [true, true, true, true, true, false, false]), (277, [true, true, true, true, true, false, false]), (314, [true, true, true, true, true, false, false]), (363, [true, true, true, true, true, false, false]), (444, [true, true, true, true, true, false, false]), (457, [true, true, true, true, true, false, false]), (470, [true, true, true, true, true, false, false]), (483, [true, true, true, true, true, false, false]), (520, [true, true, true, true, true, false, false]), (558, [true, true, true, true, true, false, false]), (607, [true, true, true, true, true, false, false]), (644, [true, true, true, true, true, false, false]), (673, [true, true, true, true, true, true, false]), (701, [true, true, true, true, true, true, true]), (712, [true, true, true, true, true, true, true]), (729, [true, true, true, true, true, false, false]), (732, [true, true, true, true, true, false, false]), (767, [true, true, true, true, true, true, false]), (801, [true, true, true, true, true, true, true]), (812, [true, true, true, true, true, true, true]), (829, [true, true, true, true, true, false, false]), (832, [true, true, true, true, true, false, false]), (901, [true, true, true, true, true, false, false]), (926, [true, true, true, true, true, false, false]), (951, [true, true, true, true, true, false, false]), (976, [true, true, true, true, true, false, false]), (989, [true, true, true, true, true, false, false])] q
set_option maxRecDepth 4096 in
theorem vc_205_23 (tt : Nat → Nat) (a0 : Nat) (a1 : Nat) (a2 : Nat) (a3 : Nat) (a4 : Int32) (h : am_H) (Q : Int32 → am_H → Prop) (Qx : String → am_H → Prop) (q :
  ((20 < am_K h a0 ∧ (am_K h a0 ≤ 27 ∨ am_K h a0 = 31)) ∧
  ((((Int32.ofNat (am_N h a0)) - (Int32.ofNat 5)) < a4 →
   (((Int32.ofNat 1) = (Int32.ofNat 0) ∨ (Int32.ofNat 1) = (Int32.ofNat 1)) ∧ Q (Int32.ofNat 1) h)) ∧
  (¬ (((Int32.ofNat (am_N h a0)) - (Int32.ofNat 5)) < a4) →
   am_Ev tt 205 32 [some (.ref a0), some (.ref a1), some (.ref a2), some (.ref a3), some (.int a4), none, none] [] h (am_pI Q Qx))))) :
  am_Ev tt 205 23 [some (.ref a0), some (.ref a1), some (.ref a2), some (.ref a3), some (.int a4), none, none] [] h (am_pI Q Qx) := am_vc 10 [(8, [true, true, false, false, false, false, false]), (16, [true, true, true, false, false, false, false]), (20, [true, true, true, true, false, false, false]), (23, [true, true, true, true, true, false, false]), (32, [true, true, true, true, true, false, false]), (132, [true, true, true, true, true, false, false]), (157, [true, true, true, true, true, false, false]), (196, [true, true, true, true, true, false, false]), (277, [true, true, true, true, true, false, false]), (314, [true, true, true, true, true, false, false]), (363, [true, true, true, true, true, false, false]), (444, [true, true, true, true, true, false, false]), (457, [true, true, true, true, true, false, false]), (470, [true, true, true, true, true, false, false]), (483, [true, true, true, true, true, false, false]), (520, [true, true, true, true, true, false, false]), (558, [true, true, true, true, true, false, false]), (607, [true, true, true, true, true, false, false]), (644, [true, true, true, true, true, false, false]), (673, [true, true, true, true, true, true, false]), (701, [true, true, true, true, true, true, true]), (712, [true, true, true, true, true, true, true]), (729, [true, true, true, true, true, false, false]), (732, [true, true, true, true, true, false, false]), (767, [true, true, true, true, true, true, false]), (801, [true, true, true, true, true, true, true]), (812, [true, true, true, true, true, true, true]), (829, [true, true, true, true, true, false, false]), (832, [true, true, true, true, true, false, false]), (901, [true, true, true, true, true, false, false]), (926, [true, true, true, true, true, false, false]), (951, [true, true, true, true, true, false, false]), (976, [true, true, true, true, true, false, false]), (989, [true, true, true, true, true, false, false])] q
set_option maxRecDepth 4096 in
theorem vc_205_32 (tt : Nat → Nat) (a0 : Nat) (a1 : Nat) (a2 : Nat) (a3 : Nat) (a4 : Int32) (h : am_H) (Q : Int32 → am_H → Prop) (Qx : String → am_H → Prop) (q :
  ((am_K h a0 = 21 ∨ am_K h a0 = 31) ∧ vp_in a4 (am_N h a0) ∧
  (((((am_A h a0 (a4).toNatClampNeg) &&& (Int32.ofNat 31))).toInt < 0 ∨ 19 < (((am_A h a0 (a4).toNatClampNeg) &&& (Int32.ofNat 31))).toInt →
   am_Ev tt 205 989 [some (.ref a0), some (.ref a1), some (.ref a2), some (.ref a3), some (.int a4), none, none] [] h (am_pI Q Qx)) ∧
  ((((am_A h a0 (a4).toNatClampNeg) &&& (Int32.ofNat 31))).toInt = 0 →
   am_Ev tt 205 132 [some (.ref a0), some (.ref a1), some (.ref a2), some (.ref a3), some (.int a4), none, none] [] h (am_pI Q Qx)) ∧
  ((((am_A h a0 (a4).toNatClampNeg) &&& (Int32.ofNat 31))).toInt = 1 →
   am_Ev tt 205 157 [some (.ref a0), some (.ref a1), some (.ref a2), some (.ref a3), some (.int a4), none, none] [] h (am_pI Q Qx)) ∧
  ((((am_A h a0 (a4).toNatClampNeg) &&& (Int32.ofNat 31))).toInt = 2 →
   am_Ev tt 205 196 [some (.ref a0), some (.ref a1), some (.ref a2), some (.ref a3), some (.int a4), none, none] [] h (am_pI Q Qx)) ∧
  ((((am_A h a0 (a4).toNatClampNeg) &&& (Int32.ofNat 31))).toInt = 3 →
   am_Ev tt 205 277 [some (.ref a0), some (.ref a1), some (.ref a2), some (.ref a3), some (.int a4), none, none] [] h (am_pI Q Qx)) ∧
  ((((am_A h a0 (a4).toNatClampNeg) &&& (Int32.ofNat 31))).toInt = 4 →
   am_Ev tt 205 314 [some (.ref a0), some (.ref a1), some (.ref a2), some (.ref a3), some (.int a4), none, none] [] h (am_pI Q Qx)) ∧
  ((((am_A h a0 (a4).toNatClampNeg) &&& (Int32.ofNat 31))).toInt = 5 →
   am_Ev tt 205 363 [some (.ref a0), some (.ref a1), some (.ref a2), some (.ref a3), some (.int a4), none, none] [] h (am_pI Q Qx)) ∧
  ((((am_A h a0 (a4).toNatClampNeg) &&& (Int32.ofNat 31))).toInt = 6 →
   am_Ev tt 205 444 [some (.ref a0), some (.ref a1), some (.ref a2), some (.ref a3), some (.int a4), none, none] [] h (am_pI Q Qx)) ∧
  ((((am_A h a0 (a4).toNatClampNeg) &&& (Int32.ofNat 31))).toInt = 7 →
   am_Ev tt 205 457 [some (.ref a0), some (.ref a1), some (.ref a2), some (.ref a3), some (.int a4), none, none] [] h (am_pI Q Qx)) ∧
  ((((am_A h a0 (a4).toNatClampNeg) &&& (Int32.ofNat 31))).toInt = 8 →
   am_Ev tt 205 470 [some (.ref a0), some (.ref a1), some (.ref a2), some (.ref a3), some (.int a4), none, none] [] h (am_pI Q Qx)) ∧
  ((((am_A h a0 (a4).toNatClampNeg) &&& (Int32.ofNat 31))).toInt = 9 →
   am_Ev tt 205 483 [some (.ref a0), some (.ref a1), some (.ref a2), some (.ref a3), some (.int a4), none, none] [] h (am_pI Q Qx)) ∧
  ((((am_A h a0 (a4).toNatClampNeg) &&& (Int32.ofNat 31))).toInt = 10 →
   am_Ev tt 205 520 [some (.ref a0), some (.ref a1), some (.ref a2), some (.ref a3), some (.int a4), none, none] [] h (am_pI Q Qx)) ∧
  ((((am_A h a0 (a4).toNatClampNeg) &&& (Int32.ofNat 31))).toInt = 11 →
   am_Ev tt 205 558 [some (.ref a0), some (.ref a1), some (.ref a2), some (.ref a3), some (.int a4), none, none] [] h (am_pI Q Qx)) ∧
  ((((am_A h a0 (a4).toNatClampNeg) &&& (Int32.ofNat 31))).toInt = 12 →
   am_Ev tt 205 607 [some (.ref a0), some (.ref a1), some (.ref a2), some (.ref a3), some (.int a4), none, none] [] h (am_pI Q Qx)) ∧
  ((((am_A h a0 (a4).toNatClampNeg) &&& (Int32.ofNat 31))).toInt = 13 →
   am_Ev tt 205 644 [some (.ref a0), some (.ref a1), some (.ref a2), some (.ref a3), some (.int a4), none, none] [] h (am_pI Q Qx)) ∧
  ((((am_A h a0 (a4).toNatClampNeg) &&& (Int32.ofNat 31))).toInt = 14 →
   am_Ev tt 205 732 [some (.ref a0), some (.ref a1), some (.ref a2), some (.ref a3), some (.int a4), none, none] [] h (am_pI Q Qx)) ∧
  ((((am_A h a0 (a4).toNatClampNeg) &&& (Int32.ofNat 31))).toInt = 15 →
   am_Ev tt 205 832 [some (.ref a0), some (.ref a1), some (.ref a2), some (.ref a3), some (.int a4), none, none] [] h (am_pI Q Qx)) ∧
  ((((am_A h a0 (a4).toNatClampNeg) &&& (Int32.ofNat 31))).toInt = 16 →
   am_Ev tt 205 901 [some (.ref a0), some (.ref a1), some (.ref a2), some (.ref a3), some (.int a4), none, none] [] h (am_pI Q Qx)) ∧
  ((((am_A h a0 (a4).toNatClampNeg) &&& (Int32.ofNat 31))).toInt = 17 →
   am_Ev tt 205 926 [some (.ref a0), some (.ref a1), some (.ref a2), some (.ref a3), some (.int a4), none, none] [] h (am_pI Q Qx)) ∧
  ((((am_A h a0 (a4).toNatClampNeg) &&& (Int32.ofNat 31))).toInt = 18 →
   am_Ev tt 205 951 [some (.ref a0), some (.ref a1), some (.ref a2), some (.ref a3), some (.int a4), none, none] [] h (am_pI Q Qx)) ∧
  ((((am_A h a0 (a4).toNatClampNeg) &&& (Int32.ofNat 31))).toInt = 19 →
   am_Ev tt 205 976 [some (.ref a0), some (.ref a1), some (.ref a2), some (.ref a3), some (.int a4), none, none] [] h (am_pI Q Qx)) ∧
  True))) :
  am_Ev tt 205 32 [some (.ref a0), some (.ref a1), some (.ref a2), some (.ref a3), some (.int a4), none, none] [] h (am_pI Q Qx) := am_vc 9 [(8, [true, true, false, false, false, false, false]), (16, [true, true, true, false, false, false, false]), (20, [true, true, true, true, false, false, false]), (23, [true, true, true, true, true, false, false]), (32, [true, true, true, true, true, false, false]), (132, [true, true, true, true, true, false, false]), (157, [true, true, true, true, true, false, false]), (196, [true, true, true, true, true, false, false]), (277, [true, true, true, true, true, false, false]), (314, [true, true, true, true, true, false, false]), (363, [true, true, true, true, true, false, false]), (444, [true, true, true, true, true, false, false]), (457, [true, true, true, true, true, false, false]), (470, [true, true, true, true, true, false, false]), (483, [true, true, true, true, true, false, false]), (520, [true, true, true, true, true, false, false]), (558, [true, true, true, true, true, false, false]), (607, [true, true, true, true, true, false, false]), (644, [true, true, true, true, true, false, false]), (673, [true, true, true, true, true, true, false]), (701, [true, true, true, true, true, true, true]), (712, [true, true, true, true, true, true, true]), (729, [true, true, true, true, true, false, false]), (732, [true, true, true, true, true, false, false]), (767, [true, true, true, true, true, true, false]), (801, [true, true, true, true, true, true, true]), (812, [true, true, true, true, true, true, true]), (829, [true, true, true, true, true, false, false]), (832, [true, true, true, true, true, false, false]), (901, [true, true, true, true, true, false, false]), (926, [true, true, true, true, true, false, false]), (951, [true, true, true, true, true, false, false]), (976, [true, true, true, true, true, false, false]), (989, [true, true, true, true, true, false, false])] q
set_option maxRecDepth 4096 in
theorem vc_205_132 (tt : Nat → Nat) (a0 : Nat) (a1 : Nat) (a2 : Nat) (a3 : Nat) (a4 : Int32) (h : am_H) (Q : Int32 → am_H → Prop) (Qx : String → am_H → Prop) (q :
  ((am_K h a0 = 21 ∨ am_K h a0 = 31) ∧ vp_in (a4 + (Int32.ofNat 1)) (am_N h a0) ∧
  (am_K h a1 = 10 ∧ ∃ (Q2 : Int32 → am_H → Prop) (X2 : String → am_H → Prop), am_Ct tt 104 [.ref a1, .int (am_A h a0 ((a4 + (Int32.ofNat 1))).toNatClampNeg)] h (am_pI Q2 X2) ∧ (∀ x3 h1, Q2 x3 h1 →
   ((am_K h1 a0 = 21 ∨ am_K h1 a0 = 31) ∧ vp_in (a4 + (Int32.ofNat 1)) (am_N h1 a0) ∧
   (am_K h1 a2 = 11 ∧ ∃ (Q5 : Int32 → am_H → Prop) (X5 : String → am_H → Prop), am_Ct tt 135 [.ref a2, .int (am_A h1 a0 ((a4 + (Int32.ofNat 1))).toNatClampNeg)] h1 (am_pI Q5 X5) ∧ (∀ x6 h4, Q5 x6 h4 →
    ((x3 = x6 →
     am_Ev tt 205 989 [some (.ref a0), some (.ref a1), some (.ref a2), some (.ref a3), some (.int a4), none, none] [] h4 (am_pI Q Qx)) ∧
    (¬ (x3 = x6) →
     (((Int32.ofNat 0) = (Int32.ofNat 0) ∨ (Int32.ofNat 0) = (Int32.ofNat 1)) ∧ Q (Int32.ofNat 0) h4)))) ∧ (∀ E7 h4, X5 E7 h4 → Qx E7 h4)))) ∧ (∀ E8 h1, X2 E8 h1 → Qx E8 h1)))) :
  am_Ev tt 205 132 [some (.ref a0), some (.ref a1), some (.ref a2), some (.ref a3), some (.int a4), none, none] [] h (am_pI Q Qx) := am_vc 19 [(8, [true, true, false, false, false, false, false]), (16, [true, true, true, false, false, false, false]), (20, [true, true, true, true, false, false, false]), (23, [true, true, true, true, true, false, false]), (32, [true, true, true, true, true, false, false]), (132, [true, true, true, true, true, false, false]), (157, [true, true, true, true, true, false, false]), (196, [true, true, true, true, true, false, false]), (277, [true, true, true, true, true, false, false]), (314, [true, true, true, true, true, false, false]), (363, [true, true, true, true, true, false, false]), (444, [true, true, true, true, true, false, false]), (457, [true, true, true, true, true, false, false]), (470, [true, true, true, true, true, false, false]), (483, [true, true, true, true, true, false, false]), (520, [true, true, true, true, true, false, false]), (558, [true, true, true, true, true, false, false]), (607, [true, true, true, true, true, false, false]), (644, [true, true, true, true, true, false, false]), (673, [true, true, true, true, true, true, false]), (701, [true, true, true, true, true, true, true]), (712, [true, true, true, true, true, true, true]), (729, [true, true, true, true, true, false, false]), (732, [true, true, true, true, true, false, false]), (767, [true, true, true, true, true, true, false]), (801, [true, true, true, true, true, true, true]), (812, [true, true, true, true, true, true, true]), (829, [true, true, true, true, true, false, false]), (832, [true, true, true, true, true, false, false]), (901, [true, true, true, true, true, false, false]), (926, [true, true, true, true, true, false, false]), (951, [true, true, true, true, true, false, false]), (976, [true, true, true, true, true, false, false]), (989, [true, true, true, true, true, false, false])] q
set_option maxRecDepth 4096 in
theorem vc_205_157 (tt : Nat → Nat) (a0 : Nat) (a1 : Nat) (a2 : Nat) (a3 : Nat) (a4 : Int32) (h : am_H) (Q : Int32 → am_H → Prop) (Qx : String → am_H → Prop) (q :
  ((am_K h a0 = 21 ∨ am_K h a0 = 31) ∧ vp_in (a4 + (Int32.ofNat 1)) (am_N h a0) ∧
  ((am_K h a0 = 21 ∨ am_K h a0 = 31) ∧ vp_in (a4 + (Int32.ofNat 2)) (am_N h a0) ∧
  (am_K h a1 = 10 ∧ ∃ (Q2 : Int32 → am_H → Prop) (X2 : String → am_H → Prop), am_Ct tt 105 [.ref a1, .int (am_A h a0 ((a4 + (Int32.ofNat 1))).toNatClampNeg), .int (((am_A h a0 ((a4 + (Int32.ofNat 2))).toNatClampNeg)).toUInt32 % 65536).toInt32] h (am_pI Q2 X2) ∧ (∀ x3 h1, Q2 x3 h1 →
   ((am_K h1 a0 = 21 ∨ am_K h1 a0 = 31) ∧ vp_in (a4 + (Int32.ofNat 1)) (am_N h1 a0) ∧
   ((am_K h1 a0 = 21 ∨ am_K h1 a0 = 31) ∧ vp_in (a4 + (Int32.ofNat 2)) (am_N h1 a0) ∧
   (am_K h1 a2 = 11 ∧ ∃ (Q5 : Int32 → am_H → Prop) (X5 : String → am_H → Prop), am_Ct tt 137 [.ref a2, .int (am_A h1 a0 ((a4 + (Int32.ofNat 1))).toNatClampNeg), .int (((am_A h1 a0 ((a4 + (Int32.ofNat 2))).toNatClampNeg)).toUInt32 % 65536).toInt32] h1 (am_pI Q5 X5) ∧ (∀ x6 h4, Q5 x6 h4 →
    ((x3 = x6 →
     am_Ev tt 205 989 [some (.ref a0), some (.ref a1), some (.ref a2), some (.ref a3), some (.int a4), none, none] [] h4 (am_pI Q Qx)) ∧
    (¬ (x3 = x6) →
     (((Int32.ofNat 0) = (Int32.ofNat 0) ∨ (Int32.ofNat 0) = (Int32.ofNat 1)) ∧ Q (Int32.ofNat 0) h4)))) ∧ (∀ E7 h4, X5 E7 h4 → Qx E7 h4))))) ∧ (∀ E8 h1, X2 E8 h1 → Qx E8 h1))))) :
  am_Ev tt 205 157 [some (.ref a0), some (.ref a1), some (.ref a2), some (.ref a3), some (.int a4), none, none] [] h (am_pI Q Qx) := am_vc 31 [(8, [true, true, false, false, false, false, false]), (16, [true, true, true, false, false, false, false]), (20, [true, true, true, true, false, false, false]), (23, [true, true, true, true, true, false, false]), (32, [true, true, true, true, true, false, false]), (132, [true, true, true, true, true, false, false]), (157, [true, true, true, true, true, false, false]), (196, [true, true, true, true, true, false, false]), (277, [true, true, true, true, true, false, false]), (314, [true, true, true, true, true, false, false]), (363, [true, true, true, true, true, false, false]), (444, [true, true, true, true, true, false, false]), (457, [true, true, true, true, true, false, false]), (470, [true, true, true, true, true, false, false]), (483, [true, true, true, true, true, false, false]), (520, [true, true, true, true, true, false, false]), (558, [true, true, true, true, true, false, false]), (607, [true, true, true, true, true, false, false]), (644, [true, true, true, true, true, false, false]), (673, [true, true, true, true, true, true, false]), (701, [true, true, true, true, true, true, true]), (712, [true, true, true, true, true, true, true]), (729, [true, true, true, true, true, false, false]), (732, [true, true, true, true, true, false, false]), (767, [true, true, true, true, true, true, false]), (801, [true, true, true, true, true, true, true]), (812, [true, true, true, true, true, true, true]), (829, [true, true, true, true, true, false, false]), (832, [true, true, true, true, true, false, false]), (901, [true, true, true, true, true, false, false]), (926, [true, true, true, true, true, false, false]), (951, [true, true, true, true, true, false, false]), (976, [true, true, true, true, true, false, false]), (989, [true, true, true, true, true, false, false])] q
set_option maxRecDepth 4096 in
theorem vc_205_196 (tt : Nat → Nat) (a0 : Nat) (a1 : Nat) (a2 : Nat) (a3 : Nat) (a4 : Int32) (h : am_H) (Q : Int32 → am_H → Prop) (Qx : String → am_H → Prop) (q :
  ((am_K h a0 = 21 ∨ am_K h a0 = 31) ∧ vp_in (a4 + (Int32.ofNat 1)) (am_N h a0) ∧
  ((am_K h a0 = 21 ∨ am_K h a0 = 31) ∧ vp_in (a4 + (Int32.ofNat 2)) (am_N h a0) ∧
  ((am_K h a0 = 21 ∨ am_K h a0 = 31) ∧ vp_in (a4 + (Int32.ofNat 3)) (am_N h a0) ∧
  ((am_K h a0 = 21 ∨ am_K h a0 = 31) ∧ vp_in (a4 + (Int32.ofNat 4)) (am_N h a0) ∧
  (am_K h a1 = 10 ∧ ∃ (Q2 : Int32 → am_H → Prop) (X2 : String → am_H → Prop), am_Ct tt 106 [.ref a1, .int (am_A h a0 ((a4 + (Int32.ofNat 1))).toNatClampNeg), .long ((((am_A h a0 ((a4 + (Int32.ofNat 2))).toNatClampNeg)).toInt64 <<< (((Int32.ofNat 32)).toInt64 &&& 63)) ||| (((am_A h a0 ((a4 + (Int32.ofNat 3))).toNatClampNeg)).toInt64 &&& (Int64.ofNat 4294967295))), .int (am_A h a0 ((a4 + (Int32.ofNat 4))).toNatClampNeg)] h (am_pI Q2 X2) ∧ (∀ x3 h1, Q2 x3 h1 →
   ((am_K h1 a0 = 21 ∨ am_K h1 a0 = 31) ∧ vp_in (a4 + (Int32.ofNat 1)) (am_N h1 a0) ∧
   ((am_K h1 a0 = 21 ∨ am_K h1 a0 = 31) ∧ vp_in (a4 + (Int32.ofNat 2)) (am_N h1 a0) ∧
   ((am_K h1 a0 = 21 ∨ am_K h1 a0 = 31) ∧ vp_in (a4 + (Int32.ofNat 3)) (am_N h1 a0) ∧
   ((am_K h1 a0 = 21 ∨ am_K h1 a0 = 31) ∧ vp_in (a4 + (Int32.ofNat 4)) (am_N h1 a0) ∧
   (am_K h1 a2 = 11 ∧ ∃ (Q5 : Int32 → am_H → Prop) (X5 : String → am_H → Prop), am_Ct tt 138 [.ref a2, .int (am_A h1 a0 ((a4 + (Int32.ofNat 1))).toNatClampNeg), .long ((((am_A h1 a0 ((a4 + (Int32.ofNat 2))).toNatClampNeg)).toInt64 <<< (((Int32.ofNat 32)).toInt64 &&& 63)) ||| (((am_A h1 a0 ((a4 + (Int32.ofNat 3))).toNatClampNeg)).toInt64 &&& (Int64.ofNat 4294967295))), .int (am_A h1 a0 ((a4 + (Int32.ofNat 4))).toNatClampNeg)] h1 (am_pI Q5 X5) ∧ (∀ x6 h4, Q5 x6 h4 →
    ((x3 = x6 →
     am_Ev tt 205 989 [some (.ref a0), some (.ref a1), some (.ref a2), some (.ref a3), some (.int a4), none, none] [] h4 (am_pI Q Qx)) ∧
    (¬ (x3 = x6) →
     (((Int32.ofNat 0) = (Int32.ofNat 0) ∨ (Int32.ofNat 0) = (Int32.ofNat 1)) ∧ Q (Int32.ofNat 0) h4)))) ∧ (∀ E7 h4, X5 E7 h4 → Qx E7 h4))))))) ∧ (∀ E8 h1, X2 E8 h1 → Qx E8 h1))))))) :
  am_Ev tt 205 196 [some (.ref a0), some (.ref a1), some (.ref a2), some (.ref a3), some (.int a4), none, none] [] h (am_pI Q Qx) := am_vc 63 [(8, [true, true, false, false, false, false, false]), (16, [true, true, true, false, false, false, false]), (20, [true, true, true, true, false, false, false]), (23, [true, true, true, true, true, false, false]), (32, [true, true, true, true, true, false, false]), (132, [true, true, true, true, true, false, false]), (157, [true, true, true, true, true, false, false]), (196, [true, true, true, true, true, false, false]), (277, [true, true, true, true, true, false, false]), (314, [true, true, true, true, true, false, false]), (363, [true, true, true, true, true, false, false]), (444, [true, true, true, true, true, false, false]), (457, [true, true, true, true, true, false, false]), (470, [true, true, true, true, true, false, false]), (483, [true, true, true, true, true, false, false]), (520, [true, true, true, true, true, false, false]), (558, [true, true, true, true, true, false, false]), (607, [true, true, true, true, true, false, false]), (644, [true, true, true, true, true, false, false]), (673, [true, true, true, true, true, true, false]), (701, [true, true, true, true, true, true, true]), (712, [true, true, true, true, true, true, true]), (729, [true, true, true, true, true, false, false]), (732, [true, true, true, true, true, false, false]), (767, [true, true, true, true, true, true, false]), (801, [true, true, true, true, true, true, true]), (812, [true, true, true, true, true, true, true]), (829, [true, true, true, true, true, false, false]), (832, [true, true, true, true, true, false, false]), (901, [true, true, true, true, true, false, false]), (926, [true, true, true, true, true, false, false]), (951, [true, true, true, true, true, false, false]), (976, [true, true, true, true, true, false, false]), (989, [true, true, true, true, true, false, false])] q
set_option maxRecDepth 4096 in
theorem vc_205_277 (tt : Nat → Nat) (a0 : Nat) (a1 : Nat) (a2 : Nat) (a3 : Nat) (a4 : Int32) (h : am_H) (Q : Int32 → am_H → Prop) (Qx : String → am_H → Prop) (q :
  ((am_K h a0 = 21 ∨ am_K h a0 = 31) ∧ vp_in (a4 + (Int32.ofNat 1)) (am_N h a0) ∧
  ((am_K h a0 = 21 ∨ am_K h a0 = 31) ∧ vp_in (a4 + (Int32.ofNat 2)) (am_N h a0) ∧
  (am_K h a1 = 10 ∧ ∃ (Q2 : Int32 → am_H → Prop) (X2 : String → am_H → Prop), am_Ct tt 107 [.ref a1, .int (am_A h a0 ((a4 + (Int32.ofNat 1))).toNatClampNeg), .int (am_A h a0 ((a4 + (Int32.ofNat 2))).toNatClampNeg)] h (am_pI Q2 X2) ∧ (∀ x3 h1, Q2 x3 h1 →
   ((am_K h1 a0 = 21 ∨ am_K h1 a0 = 31) ∧ vp_in (a4 + (Int32.ofNat 1)) (am_N h1 a0) ∧
   ((am_K h1 a0 = 21 ∨ am_K h1 a0 = 31) ∧ vp_in (a4 + (Int32.ofNat 2)) (am_N h1 a0) ∧
   (am_K h1 a2 = 11 ∧ ∃ (Q5 : Int32 → am_H → Prop) (X5 : String → am_H → Prop), am_Ct tt 139 [.ref a2, .int (am_A h1 a0 ((a4 + (Int32.ofNat 1))).toNatClampNeg), .int (am_A h1 a0 ((a4 + (Int32.ofNat 2))).toNatClampNeg)] h1 (am_pI Q5 X5) ∧ (∀ x6 h4, Q5 x6 h4 →
    ((x3 = x6 →
     am_Ev tt 205 989 [some (.ref a0), some (.ref a1), some (.ref a2), some (.ref a3), some (.int a4), none, none] [] h4 (am_pI Q Qx)) ∧
    (¬ (x3 = x6) →
     (((Int32.ofNat 0) = (Int32.ofNat 0) ∨ (Int32.ofNat 0) = (Int32.ofNat 1)) ∧ Q (Int32.ofNat 0) h4)))) ∧ (∀ E7 h4, X5 E7 h4 → Qx E7 h4))))) ∧ (∀ E8 h1, X2 E8 h1 → Qx E8 h1))))) :
  am_Ev tt 205 277 [some (.ref a0), some (.ref a1), some (.ref a2), some (.ref a3), some (.int a4), none, none] [] h (am_pI Q Qx) := am_vc 29 [(8, [true, true, false, false, false, false, false]), (16, [true, true, true, false, false, false, false]), (20, [true, true, true, true, false, false, false]), (23, [true, true, true, true, true, false, false]), (32, [true, true, true, true, true, false, false]), (132, [true, true, true, true, true, false, false]), (157, [true, true, true, true, true, false, false]), (196, [true, true, true, true, true, false, false]), (277, [true, true, true, true, true, false, false]), (314, [true, true, true, true, true, false, false]), (363, [true, true, true, true, true, false, false]), (444, [true, true, true, true, true, false, false]), (457, [true, true, true, true, true, false, false]), (470, [true, true, true, true, true, false, false]), (483, [true, true, true, true, true, false, false]), (520, [true, true, true, true, true, false, false]), (558, [true, true, true, true, true, false, false]), (607, [true, true, true, true, true, false, false]), (644, [true, true, true, true, true, false, false]), (673, [true, true, true, true, true, true, false]), (701, [true, true, true, true, true, true, true]), (712, [true, true, true, true, true, true, true]), (729, [true, true, true, true, true, false, false]), (732, [true, true, true, true, true, false, false]), (767, [true, true, true, true, true, true, false]), (801, [true, true, true, true, true, true, true]), (812, [true, true, true, true, true, true, true]), (829, [true, true, true, true, true, false, false]), (832, [true, true, true, true, true, false, false]), (901, [true, true, true, true, true, false, false]), (926, [true, true, true, true, true, false, false]), (951, [true, true, true, true, true, false, false]), (976, [true, true, true, true, true, false, false]), (989, [true, true, true, true, true, false, false])] q
set_option maxRecDepth 4096 in
theorem vc_205_314 (tt : Nat → Nat) (a0 : Nat) (a1 : Nat) (a2 : Nat) (a3 : Nat) (a4 : Int32) (h : am_H) (Q : Int32 → am_H → Prop) (Qx : String → am_H → Prop) (q :
  ((am_K h a0 = 21 ∨ am_K h a0 = 31) ∧ vp_in (a4 + (Int32.ofNat 1)) (am_N h a0) ∧
  ((am_K h a0 = 21 ∨ am_K h a0 = 31) ∧ vp_in (a4 + (Int32.ofNat 2)) (am_N h a0) ∧
  ((am_K h a0 = 21 ∨ am_K h a0 = 31) ∧ vp_in (a4 + (Int32.ofNat 3)) (am_N h a0) ∧
  (am_K h a1 = 10 ∧ ∃ (Q2 : Int32 → am_H → Prop) (X2 : String → am_H → Prop), am_Ct tt 108 [.ref a1, .int (am_A h a0 ((a4 + (Int32.ofNat 1))).toNatClampNeg), .int (am_A h a0 ((a4 + (Int32.ofNat 2))).toNatClampNeg), .int (am_A h a0 ((a4 + (Int32.ofNat 3))).toNatClampNeg)] h (am_pI Q2 X2) ∧ (∀ x3 h1, Q2 x3 h1 →
   ((am_K h1 a0 = 21 ∨ am_K h1 a0 = 31) ∧ vp_in (a4 + (Int32.ofNat 1)) (am_N h1 a0) ∧
   ((am_K h1 a0 = 21 ∨ am_K h1 a0 = 31) ∧ vp_in (a4 + (Int32.ofNat 2)) (am_N h1 a0) ∧
   ((am_K h1 a0 = 21 ∨ am_K h1 a0 = 31) ∧ vp_in (a4 + (Int32.ofNat 3)) (am_N h1 a0) ∧
   (am_K h1 a2 = 11 ∧ ∃ (Q5 : Int32 → am_H → Prop) (X5 : String → am_H → Prop), am_Ct tt 140 [.ref a2, .int (am_A h1 a0 ((a4 + (Int32.ofNat 1))).toNatClampNeg), .int (am_A h1 a0 ((a4 + (Int32.ofNat 2))).toNatClampNeg), .int (am_A h1 a0 ((a4 + (Int32.ofNat 3))).toNatClampNeg)] h1 (am_pI Q5 X5) ∧ (∀ x6 h4, Q5 x6 h4 →
    ((x3 = x6 →
     am_Ev tt 205 989 [some (.ref a0), some (.ref a1), some (.ref a2), some (.ref a3), some (.int a4), none, none] [] h4 (am_pI Q Qx)) ∧
    (¬ (x3 = x6) →
     (((Int32.ofNat 0) = (Int32.ofNat 0) ∨ (Int32.ofNat 0) = (Int32.ofNat 1)) ∧ Q (Int32.ofNat 0) h4)))) ∧ (∀ E7 h4, X5 E7 h4 → Qx E7 h4)))))) ∧ (∀ E8 h1, X2 E8 h1 → Qx E8 h1)))))) :
  am_Ev tt 205 314 [some (.ref a0), some (.ref a1), some (.ref a2), some (.ref a3), some (.int a4), none, none] [] h (am_pI Q Qx) := am_vc 39 [(8, [true, true, false, false, false, false, false]), (16, [true, true, true, false, false, false, false]), (20, [true, true, true, true, false, false, false]), (23, [true, true, true, true, true, false, false]), (32, [true, true, true, true, true, false, false]), (132, [true, true, true, true, true, false, false]), (157, [true, true, true, true, true, false, false]), (196, [true, true, true, true, true, false, false]), (277, [true, true, true, true, true, false, false]), (314, [true, true, true, true, true, false, false]), (363, [true, true, true, true, true, false, false]), (444, [true, true, true, true, true, false, false]), (457, [true, true, true, true, true, false, false]), (470, [true, true, true, true, true, false, false]), (483, [true, true, true, true, true, false, false]), (520, [true, true, true, true, true, false, false]), (558, [true, true, true, true, true, false, false]), (607, [true, true, true, true, true, false, false]), (644, [true, true, true, true, true, false, false]), (673, [true, true, true, true, true, true, false]), (701, [true, true, true, true, true, true, true]), (712, [true, true, true, true, true, true, true]), (729, [true, true, true, true, true, false, false]), (732, [true, true, true, true, true, false, false]), (767, [true, true, true, true, true, true, false]), (801, [true, true, true, true, true, true, true]), (812, [true, true, true, true, true, true, true]), (829, [true, true, true, true, true, false, false]), (832, [true, true, true, true, true, false, false]), (901, [true, true, true, true, true, false, false]), (926, [true, true, true, true, true, false, false]), (951, [true, true, true, true, true, false, false]), (976, [true, true, true, true, true, false, false]), (989, [true, true, true, true, true, false, false])] q
set_option maxRecDepth 4096 in
theorem vc_205_363 (tt : Nat → Nat) (a0 : Nat) (a1 : Nat) (a2 : Nat) (a3 : Nat) (a4 : Int32) (h : am_H) (Q : Int32 → am_H → Prop) (Qx : String → am_H → Prop) (q :
  ((am_K h a0 = 21 ∨ am_K h a0 = 31) ∧ vp_in (a4 + (Int32.ofNat 1)) (am_N h a0) ∧
  ((am_K h a0 = 21 ∨ am_K h a0 = 31) ∧ vp_in (a4 + (Int32.ofNat 2)) (am_N h a0) ∧
  ((am_K h a0 = 21 ∨ am_K h a0 = 31) ∧ vp_in (a4 + (Int32.ofNat 3)) (am_N h a0) ∧
  ((am_K h a0 = 21 ∨ am_K h a0 = 31) ∧ vp_in (a4 + (Int32.ofNat 4)) (am_N h a0) ∧
  (am_K h a1 = 10 ∧ ∃ (Q2 : Int32 → am_H → Prop) (X2 : String → am_H → Prop), am_Ct tt 109 [.ref a1, .int (am_A h a0 ((a4 + (Int32.ofNat 1))).toNatClampNeg), .int (am_A h a0 ((a4 + (Int32.ofNat 2))).toNatClampNeg), .long ((((am_A h a0 ((a4 + (Int32.ofNat 3))).toNatClampNeg)).toInt64 <<< (((Int32.ofNat 32)).toInt64 &&& 63)) ||| (((am_A h a0 ((a4 + (Int32.ofNat 4))).toNatClampNeg)).toInt64 &&& (Int64.ofNat 4294967295)))] h (am_pI Q2 X2) ∧ (∀ x3 h1, Q2 x3 h1 →
   ((am_K h1 a0 = 21 ∨ am_K h1 a0 = 31) ∧ vp_in (a4 + (Int32.ofNat 1)) (am_N h1 a0) ∧
   ((am_K h1 a0 = 21 ∨ am_K h1 a0 = 31) ∧ vp_in (a4 + (Int32.ofNat 2)) (am_N h1 a0) ∧
   ((am_K h1 a0 = 21 ∨ am_K h1 a0 = 31) ∧ vp_in (a4 + (Int32.ofNat 3)) (am_N h1 a0) ∧
   ((am_K h1 a0 = 21 ∨ am_K h1 a0 = 31) ∧ vp_in (a4 + (Int32.ofNat 4)) (am_N h1 a0) ∧
   (am_K h1 a2 = 11 ∧ ∃ (Q5 : Int32 → am_H → Prop) (X5 : String → am_H → Prop), am_Ct tt 141 [.ref a2, .int (am_A h1 a0 ((a4 + (Int32.ofNat 1))).toNatClampNeg), .int (am_A h1 a0 ((a4 + (Int32.ofNat 2))).toNatClampNeg), .long ((((am_A h1 a0 ((a4 + (Int32.ofNat 3))).toNatClampNeg)).toInt64 <<< (((Int32.ofNat 32)).toInt64 &&& 63)) ||| (((am_A h1 a0 ((a4 + (Int32.ofNat 4))).toNatClampNeg)).toInt64 &&& (Int64.ofNat 4294967295)))] h1 (am_pI Q5 X5) ∧ (∀ x6 h4, Q5 x6 h4 →
    ((x3 = x6 →
     am_Ev tt 205 989 [some (.ref a0), some (.ref a1), some (.ref a2), some (.ref a3), some (.int a4), none, none] [] h4 (am_pI Q Qx)) ∧
    (¬ (x3 = x6) →
     (((Int32.ofNat 0) = (Int32.ofNat 0) ∨ (Int32.ofNat 0) = (Int32.ofNat 1)) ∧ Q (Int32.ofNat 0) h4)))) ∧ (∀ E7 h4, X5 E7 h4 → Qx E7 h4))))))) ∧ (∀ E8 h1, X2 E8 h1 → Qx E8 h1))))))) :
  am_Ev tt 205 363 [some (.ref a0), some (.ref a1), some (.ref a2), some (.ref a3), some (.int a4), none, none] [] h (am_pI Q Qx) := am_vc 63 [(8, [true, true, false, false, false, false, false]), (16, [true, true, true, false, false, false, false]), (20, [true, true, true, true, false, false, false]), (23, [true, true, true, true, true, false, false]), (32, [true, true, true, true, true, false, false]), (132, [true, true, true, true, true, false, false]), (157, [true, true, true, true, true, false, false]), (196, [true, true, true, true, true, false, false]), (277, [true, true, true, true, true, false, false]), (314, [true, true, true, true, true, false, false]), (363, [true, true, true, true, true, false, false]), (444, [true, true, true, true, true, false, false]), (457, [true, true, true, true, true, false, false]), (470, [true, true, true, true, true, false, false]), (483, [true, true, true, true, true, false, false]), (520, [true, true, true, true, true, false, false]), (558, [true, true, true, true, true, false, false]), (607, [true, true, true, true, true, false, false]), (644, [true, true, true, true, true, false, false]), (673, [true, true, true, true, true, true, false]), (701, [true, true, true, true, true, true, true]), (712, [true, true, true, true, true, true, true]), (729, [true, true, true, true, true, false, false]), (732, [true, true, true, true, true, false, false]), (767, [true, true, true, true, true, true, false]), (801, [true, true, true, true, true, true, true]), (812, [true, true, true, true, true, true, true]), (829, [true, true, true, true, true, false, false]), (832, [true, true, true, true, true, false, false]), (901, [true, true, true, true, true, false, false]), (926, [true, true, true, true, true, false, false]), (951, [true, true, true, true, true, false, false]), (976, [true, true, true, true, true, false, false]), (989, [true, true, true, true, true, false, false])] q
set_option maxRecDepth 4096 in
theorem vc_205_444 (tt : Nat → Nat) (a0 : Nat) (a1 : Nat) (a2 : Nat) (a3 : Nat) (a4 : Int32) (h : am_H) (Q : Int32 → am_H → Prop) (Qx : String → am_H → Prop) (q :
  (am_K h a1 = 10 ∧ ∃ (Q2 : Int32 → am_H → Prop) (X2 : String → am_H → Prop), am_Ct tt 111 [.ref a1] h (am_pI Q2 X2) ∧ (∀ x3 h1, Q2 x3 h1 →
   (am_K h1 a2 = 11 ∧ ∃ (Q5 : Int32 → am_H → Prop) (X5 : String → am_H → Prop), am_Ct tt 174 [.ref a2] h1 (am_pI Q5 X5) ∧ (∀ x6 h4, Q5 x6 h4 →
    ((x3 = x6 →
     am_Ev tt 205 989 [some (.ref a0), some (.ref a1), some (.ref a2), some (.ref a3), some (.int a4), none, none] [] h4 (am_pI Q Qx)) ∧
    (¬ (x3 = x6) →
     (((Int32.ofNat 0) = (Int32.ofNat 0) ∨ (Int32.ofNat 0) = (Int32.ofNat 1)) ∧ Q (Int32.ofNat 0) h4)))) ∧ (∀ E7 h4, X5 E7 h4 → Qx E7 h4))) ∧ (∀ E8 h1, X2 E8 h1 → Qx E8 h1))) :
  am_Ev tt 205 444 [some (.ref a0), some (.ref a1), some (.ref a2), some (.ref a3), some (.int a4), none, none] [] h (am_pI Q Qx) := am_vc 9 [(8, [true, true, false, false, false, false, false]), (16, [true, true, true, false, false, false, false]), (20, [true, true, true, true, false, false, false]), (23, [true, true, true, true, true, false, false]), (32, [true, true, true, true, true, false, false]), (132, [true, true, true, true, true, false, false]), (157, [true, true, true, true, true, false, false]), (196, [true, true, true, true, true, false, false]), (277, [true, true, true, true, true, false, false]), (314, [true, true, true, true, true, false, false]), (363, [true, true, true, true, true, false, false]), (444, [true, true, true, true, true, false, false]), (457, [true, true, true, true, true, false, false]), (470, [true, true, true, true, true, false, false]), (483, [true, true, true, true, true, false, false]), (520, [true, true, true, true, true, false, false]), (558, [true, true, true, true, true, false, false]), (607, [true, true, true, true, true, false, false]), (644, [true, true, true, true, true, false, false]), (673, [true, true, true, true, true, true, false]), (701, [true, true, true, true, true, true, true]), (712, [true, true, true, true, true, true, true]), (729, [true, true, true, true, true, false, false]), (732, [true, true, true, true, true, false, false]), (767, [true, true, true, true, true, true, false]), (801, [true, true, true, true, true, true, true]), (812, [true, true, true, true, true, true, true]), (829, [true, true, true, true, true, false, false]), (832, [true, true, true, true, true, false, false]), (901, [true, true, true, true, true, false, false]), (926, [true, true, true, true, true, false, false]), (951, [true, true, true, true, true, false, false]), (976, [true, true, true, true, true, false, false]), (989, [true, true, true, true, true, false, false])] q
set_option maxRecDepth 4096 in
theorem vc_205_457 (tt : Nat → Nat) (a0 : Nat) (a1 : Nat) (a2 : Nat) (a3 : Nat) (a4 : Int32) (h : am_H) (Q : Int32 → am_H → Prop) (Qx : String → am_H → Prop) (q :
  (am_K h a1 = 10 ∧ ∃ (Q2 : Int32 → am_H → Prop) (X2 : String → am_H → Prop), am_Ct tt 112 [.ref a1] h (am_pI Q2 X2) ∧ (∀ x3 h1, Q2 x3 h1 →
   (am_K h1 a2 = 11 ∧ ∃ (Q5 : Int32 → am_H → Prop) (X5 : String → am_H → Prop), am_Ct tt 200 [.ref a2] h1 (am_pI Q5 X5) ∧ (∀ x6 h4, Q5 x6 h4 →
    ((x3 = x6 →
     am_Ev tt 205 989 [some (.ref a0), some (.ref a1), some (.ref a2), some (.ref a3), some (.int a4), none, none] [] h4 (am_pI Q Qx)) ∧
    (¬ (x3 = x6) →
     (((Int32.ofNat 0) = (Int32.ofNat 0) ∨ (Int32.ofNat 0) = (Int32.ofNat 1)) ∧ Q (Int32.ofNat 0) h4)))) ∧ (∀ E7 h4, X5 E7 h4 → Qx E7 h4))) ∧ (∀ E8 h1, X2 E8 h1 → Qx E8 h1))) :
  am_Ev tt 205 457 [some (.ref a0), some (.ref a1), some (.ref a2), some (.ref a3), some (.int a4), none, none] [] h (am_pI Q Qx) := am_vc 9 [(8, [true, true, false, false, false, false, false]), (16, [true, true, true, false, false, false, false]), (20, [true, true, true, true, false, false, false]), (23, [true, true, true, true, true, false, false]), (32, [true, true, true, true, true, false, false]), (132, [true, true, true, true, true, false, false]), (157, [true, true, true, true, true, false, false]), (196, [true, true, true, true, true, false, false]), (277, [true, true, true, true, true, false, false]), (314, [true, true, true, true, true, false, false]), (363, [true, true, true, true, true, false, false]), (444, [true, true, true, true, true, false, false]), (457, [true, true, true, true, true, false, false]), (470, [true, true, true, true, true, false, false]), (483, [true, true, true, true, true, false, false]), (520, [true, true, true, true, true, false, false]), (558, [true, true, true, true, true, false, false]), (607, [true, true, true, true, true, false, false]), (644, [true, true, true, true, true, false, false]), (673, [true, true, true, true, true, true, false]), (701, [true, true, true, true, true, true, true]), (712, [true, true, true, true, true, true, true]), (729, [true, true, true, true, true, false, false]), (732, [true, true, true, true, true, false, false]), (767, [true, true, true, true, true, true, false]), (801, [true, true, true, true, true, true, true]), (812, [true, true, true, true, true, true, true]), (829, [true, true, true, true, true, false, false]), (832, [true, true, true, true, true, false, false]), (901, [true, true, true, true, true, false, false]), (926, [true, true, true, true, true, false, false]), (951, [true, true, true, true, true, false, false]), (976, [true, true, true, true, true, false, false]), (989, [true, true, true, true, true, false, false])] q
set_option maxRecDepth 4096 in
theorem vc_205_470 (tt : Nat → Nat) (a0 : Nat) (a1 : Nat) (a2 : Nat) (a3 : Nat) (a4 : Int32) (h : am_H) (Q : Int32 → am_H → Prop) (Qx : String → am_H → Prop) (q :
  (am_K h a1 = 10 ∧ ∃ (Q2 : Int32 → am_H → Prop) (X2 : String → am_H → Prop), am_Ct tt 113 [.ref a1] h (am_pI Q2 X2) ∧ (∀ x3 h1, Q2 x3 h1 →
   (am_K h1 a2 = 11 ∧ ∃ (Q5 : Int32 → am_H → Prop) (X5 : String → am_H → Prop), am_Ct tt 158 [.ref a2] h1 (am_pI Q5 X5) ∧ (∀ x6 h4, Q5 x6 h4 →
    ((x3 = x6 →
     am_Ev tt 205 989 [some (.ref a0), some (.ref a1), some (.ref a2), some (.ref a3), some (.int a4), none, none] [] h4 (am_pI Q Qx)) ∧
    (¬ (x3 = x6) →
     (((Int32.ofNat 0) = (Int32.ofNat 0) ∨ (Int32.ofNat 0) = (Int32.ofNat 1)) ∧ Q (Int32.ofNat 0) h4)))) ∧ (∀ E7 h4, X5 E7 h4 → Qx E7 h4))) ∧ (∀ E8 h1, X2 E8 h1 → Qx E8 h1))) :
  am_Ev tt 205 470 [some (.ref a0), some (.ref a1), some (.ref a2), some (.ref a3), some (.int a4), none, none] [] h (am_pI Q Qx) := am_vc 9 [(8, [true, true, false, false, false, false, false]), (16, [true, true, true, false, false, false, false]), (20, [true, true, true, true, false, false, false]), (23, [true, true, true, true, true, false, false]), (32, [true, true, true, true, true, false, false]), (132, [true, true, true, true, true, false, false]), (157, [true, true, true, true, true, false, false]), (196, [true, true, true, true, true, false, false]), (277, [true, true, true, true, true, false, false]), (314, [true, true, true, true, true, false, false]), (363, [true, true, true, true, true, false, false]), (444, [true, true, true, true, true, false, false]), (457, [true, true, true, true, true, false, false]), (470, [true, true, true, true, true, false, false]), (483, [true, true, true, true, true, false, false]), (520, [true, true, true, true, true, false, false]), (558, [true, true, true, true, true, false, false]), (607, [true, true, true, true, true, false, false]), (644, [true, true, true, true, true, false, false]), (673, [true, true, true, true, true, true, false]), (701, [true, true, true, true, true, true, true]), (712, [true, true, true, true, true, true, true]), (729, [true, true, true, true, true, false, false]), (732, [true, true, true, true, true, false, false]), (767, [true, true, true, true, true, true, false]), (801, [true, true, true, true, true, true, true]), (812, [true, true, true, true, true, true, true]), (829, [true, true, true, true, true, false, false]), (832, [true, true, true, true, true, false, false]), (901, [true, true, true, true, true, false, false]), (926, [true, true, true, true, true, false, false]), (951, [true, true, true, true, true, false, false]), (976, [true, true, true, true, true, false, false]), (989, [true, true, true, true, true, false, false])] q
set_option maxRecDepth 4096 in
theorem vc_205_483 (tt : Nat → Nat) (a0 : Nat) (a1 : Nat) (a2 : Nat) (a3 : Nat) (a4 : Int32) (h : am_H) (Q : Int32 → am_H → Prop) (Qx : String → am_H → Prop) (q :
  ((am_K h a0 = 21 ∨ am_K h a0 = 31) ∧ vp_in (a4 + (Int32.ofNat 1)) (am_N h a0) ∧
  ((am_K h a0 = 21 ∨ am_K h a0 = 31) ∧ vp_in (a4 + (Int32.ofNat 2)) (am_N h a0) ∧
  (am_K h a1 = 10 ∧ ∃ (Q2 : Int32 → am_H → Prop) (X2 : String → am_H → Prop), am_Ct tt 114 [.ref a1, .int (am_A h a0 ((a4 + (Int32.ofNat 1))).toNatClampNeg), .int (am_A h a0 ((a4 + (Int32.ofNat 2))).toNatClampNeg)] h (am_pI Q2 X2) ∧ (∀ x3 h1, Q2 x3 h1 →
   ((am_K h1 a0 = 21 ∨ am_K h1 a0 = 31) ∧ vp_in (a4 + (Int32.ofNat 1)) (am_N h1 a0) ∧
   ((am_K h1 a0 = 21 ∨ am_K h1 a0 = 31) ∧ vp_in (a4 + (Int32.ofNat 2)) (am_N h1 a0) ∧
   (am_K h1 a2 = 11 ∧ ∃ (Q5 : Int32 → am_H → Prop) (X5 : String → am_H → Prop), am_Ct tt 142 [.ref a2, .int (am_A h1 a0 ((a4 + (Int32.ofNat 1))).toNatClampNeg), .int (am_A h1 a0 ((a4 + (Int32.ofNat 2))).toNatClampNeg)] h1 (am_pI Q5 X5) ∧ (∀ x6 h4, Q5 x6 h4 →
    ((x3 = x6 →
     am_Ev tt 205 989 [some (.ref a0), some (.ref a1), some (.ref a2), some (.ref a3), some (.int a4), none, none] [] h4 (am_pI Q Qx)) ∧
    (¬ (x3 = x6) →
     (((Int32.ofNat 0) = (Int32.ofNat 0) ∨ (Int32.ofNat 0) = (Int32.ofNat 1)) ∧ Q (Int32.ofNat 0) h4)))) ∧ (∀ E7 h4, X5 E7 h4 → Qx E7 h4))))) ∧ (∀ E8 h1, X2 E8 h1 → Qx E8 h1))))) :
  am_Ev tt 205 483 [some (.ref a0), some (.ref a1), some (.ref a2), some (.ref a3), some (.int a4), none, none] [] h (am_pI Q Qx) := am_vc 29 [(8, [true, true, false, false, false, false, false]), (16, [true, true, true, false, false, false, false]), (20, [true, true, true, true, false, false, false]), (23, [true, true, true, true, true, false, false]), (32, [true, true, true, true, true, false, false]), (132, [true, true, true, true, true, false, false]), (157, [true, true, true, true, true, false, false]), (196, [true, true, true, true, true, false, false]), (277, [true, true, true, true, true, false, false]), (314, [true, true, true, true, true, false, false]), (363, [true, true, true, true, true, false, false]), (444, [true, true, true, true, true, false, false]), (457, [true, true, true, true, true, false, false]), (470, [true, true, true, true, true, false, false]), (483, [true, true, true, true, true, false, false]), (520, [true, true, true, true, true, false, false]), (558, [true, true, true, true, true, false, false]), (607, [true, true, true, true, true, false, false]), (644, [true, true, true, true, true, false, false]), (673, [true, true, true, true, true, true, false]), (701, [true, true, true, true, true, true, true]), (712, [true, true, true, true, true, true, true]), (729, [true, true, true, true, true, false, false]), (732, [true, true, true, true, true, false, false]), (767, [true, true, true, true, true, true, false]), (801, [true, true, true, true, true, true, true]), (812, [true, true, true, true, true, true, true]), (829, [true, true, true, true, true, false, false]), (832, [true, true, true, true, true, false, false]), (901, [true, true, true, true, true, false, false]), (926, [true, true, true, true, true, false, false]), (951, [true, true, true, true, true, false, false]), (976, [true, true, true, true, true, false, false]), (989, [true, true, true, true, true, false, false])] q
set_option maxRecDepth 4096 in
theorem vc_205_520 (tt : Nat → Nat) (a0 : Nat) (a1 : Nat) (a2 : Nat) (a3 : Nat) (a4 : Int32) (h : am_H) (Q : Int32 → am_H → Prop) (Qx : String → am_H → Prop) (q :
  ((am_K h a0 = 21 ∨ am_K h a0 = 31) ∧ vp_in (a4 + (Int32.ofNat 1)) (am_N h a0) ∧
  ((am_K h a0 = 21 ∨ am_K h a0 = 31) ∧ vp_in (a4 + (Int32.ofNat 2)) (am_N h a0) ∧
  (am_K h a1 = 10 ∧ ∃ (Q2 : Int64 → am_H → Prop) (X2 : String → am_H → Prop), am_Ct tt 116 [.ref a1, .int (am_A h a0 ((a4 + (Int32.ofNat 1))).toNatClampNeg), .int (am_A h a0 ((a4 + (Int32.ofNat 2))).toNatClampNeg)] h (am_pL Q2 X2) ∧ (∀ x3 h1, Q2 x3 h1 →
   ((am_K h1 a0 = 21 ∨ am_K h1 a0 = 31) ∧ vp_in (a4 + (Int32.ofNat 1)) (am_N h1 a0) ∧
   ((am_K h1 a0 = 21 ∨ am_K h1 a0 = 31) ∧ vp_in (a4 + (Int32.ofNat 2)) (am_N h1 a0) ∧
   (am_K h1 a2 = 11 ∧ ∃ (Q5 : Int64 → am_H → Prop) (X5 : String → am_H → Prop), am_Ct tt 144 [.ref a2, .int (am_A h1 a0 ((a4 + (Int32.ofNat 1))).toNatClampNeg), .int (am_A h1 a0 ((a4 + (Int32.ofNat 2))).toNatClampNeg)] h1 (am_pL Q5 X5) ∧ (∀ x6 h4, Q5 x6 h4 →
    (((lg_cmp x3 x6) = (Int32.ofNat 0) →
     am_Ev tt 205 989 [some (.ref a0), some (.ref a1), some (.ref a2), some (.ref a3), some (.int a4), none, none] [] h4 (am_pI Q Qx)) ∧
    (¬ ((lg_cmp x3 x6) = (Int32.ofNat 0)) →
     (((Int32.ofNat 0) = (Int32.ofNat 0) ∨ (Int32.ofNat 0) = (Int32.ofNat 1)) ∧ Q (Int32.ofNat 0) h4)))) ∧ (∀ E7 h4, X5 E7 h4 → Qx E7 h4))))) ∧ (∀ E8 h1, X2 E8 h1 → Qx E8 h1))))) :
  am_Ev tt 205 520 [some (.ref a0), some (.ref a1), some (.ref a2), some (.ref a3), some (.int a4), none, none] [] h (am_pI Q Qx) := am_vc 30 [(8, [true, true, false, false, false, false, false]), (16, [true, true, true, false, false, false, false]), (20, [true, true, true, true, false, false, false]), (23, [true, true, true, true, true, false, false]), (32, [true, true, true, true, true, false, false]), (132, [true, true, true, true, true, false, false]), (157, [true, true, true, true, true, false, false]), (196, [true, true, true, true, true, false, false]), (277, [true, true, true, true, true, false, false]), (314, [true, true, true, true, true, false, false]), (363, [true, true, true, true, true, false, false]), (444, [true, true, true, true, true, false, false]), (457, [true, true, true, true, true, false, false]), (470, [true, true, true, true, true, false, false]), (483, [true, true, true, true, true, false, false]), (520, [true, true, true, true, true, false, false]), (558, [true, true, true, true, true, false, false]), (607, [true, true, true, true, true, false, false]), (644, [true, true, true, true, true, false, false]), (673, [true, true, true, true, true, true, false]), (701, [true, true, true, true, true, true, true]), (712, [true, true, true, true, true, true, true]), (729, [true, true, true, true, true, false, false]), (732, [true, true, true, true, true, false, false]), (767, [true, true, true, true, true, true, false]), (801, [true, true, true, true, true, true, true]), (812, [true, true, true, true, true, true, true]), (829, [true, true, true, true, true, false, false]), (832, [true, true, true, true, true, false, false]), (901, [true, true, true, true, true, false, false]), (926, [true, true, true, true, true, false, false]), (951, [true, true, true, true, true, false, false]), (976, [true, true, true, true, true, false, false]), (989, [true, true, true, true, true, false, false])] q
set_option maxRecDepth 4096 in
theorem vc_205_558 (tt : Nat → Nat) (a0 : Nat) (a1 : Nat) (a2 : Nat) (a3 : Nat) (a4 : Int32) (h : am_H) (Q : Int32 → am_H → Prop) (Qx : String → am_H → Prop) (q :
  ((am_K h a0 = 21 ∨ am_K h a0 = 31) ∧ vp_in (a4 + (Int32.ofNat 1)) (am_N h a0) ∧
  ((am_K h a0 = 21 ∨ am_K h a0 = 31) ∧ vp_in (a4 + (Int32.ofNat 2)) (am_N h a0) ∧
  ((am_K h a0 = 21 ∨ am_K h a0 = 31) ∧ vp_in (a4 + (Int32.ofNat 3)) (am_N h a0) ∧
  (am_K h a1 = 10 ∧ ∃ (Q2 : Int32 → am_H → Prop) (X2 : String → am_H → Prop), am_Ct tt 117 [.ref a1, .int (am_A h a0 ((a4 + (Int32.ofNat 1))).toNatClampNeg), .int (am_A h a0 ((a4 + (Int32.ofNat 2))).toNatClampNeg), .int (am_A h a0 ((a4 + (Int32.ofNat 3))).toNatClampNeg)] h (am_pI Q2 X2) ∧ (∀ x3 h1, Q2 x3 h1 →
   ((am_K h1 a0 = 21 ∨ am_K h1 a0 = 31) ∧ vp_in (a4 + (Int32.ofNat 1)) (am_N h1 a0) ∧
   ((am_K h1 a0 = 21 ∨ am_K h1 a0 = 31) ∧ vp_in (a4 + (Int32.ofNat 2)) (am_N h1 a0) ∧
   ((am_K h1 a0 = 21 ∨ am_K h1 a0 = 31) ∧ vp_in (a4 + (Int32.ofNat 3)) (am_N h1 a0) ∧
   (am_K h1 a2 = 11 ∧ ∃ (Q5 : Int32 → am_H → Prop) (X5 : String → am_H → Prop), am_Ct tt 145 [.ref a2, .int (am_A h1 a0 ((a4 + (Int32.ofNat 1))).toNatClampNeg), .int (am_A h1 a0 ((a4 + (Int32.ofNat 2))).toNatClampNeg), .int (am_A h1 a0 ((a4 + (Int32.ofNat 3))).toNatClampNeg)] h1 (am_pI Q5 X5) ∧ (∀ x6 h4, Q5 x6 h4 →
    ((x3 = x6 →
     am_Ev tt 205 989 [some (.ref a0), some (.ref a1), some (.ref a2), some (.ref a3), some (.int a4), none, none] [] h4 (am_pI Q Qx)) ∧
    (¬ (x3 = x6) →
     (((Int32.ofNat 0) = (Int32.ofNat 0) ∨ (Int32.ofNat 0) = (Int32.ofNat 1)) ∧ Q (Int32.ofNat 0) h4)))) ∧ (∀ E7 h4, X5 E7 h4 → Qx E7 h4)))))) ∧ (∀ E8 h1, X2 E8 h1 → Qx E8 h1)))))) :
  am_Ev tt 205 558 [some (.ref a0), some (.ref a1), some (.ref a2), some (.ref a3), some (.int a4), none, none] [] h (am_pI Q Qx) := am_vc 39 [(8, [true, true, false, false, false, false, false]), (16, [true, true, true, false, false, false, false]), (20, [true, true, true, true, false, false, false]), (23, [true, true, true, true, true, false, false]), (32, [true, true, true, true, true, false, false]), (132, [true, true, true, true, true, false, false]), (157, [true, true, true, true, true, false, false]), (196, [true, true, true, true, true, false, false]), (277, [true, true, true, true, true, false, false]), (314, [true, true, true, true, true, false, false]), (363, [true, true, true, true, true, false, false]), (444, [true, true, true, true, true, false, false]), (457, [true, true, true, true, true, false, false]), (470, [true, true, true, true, true, false, false]), (483, [true, true, true, true, true, false, false]), (520, [true, true, true, true, true, false, false]), (558, [true, true, true, true, true, false, false]), (607, [true, true, true, true, true, false, false]), (644, [true, true, true, true, true, false, false]), (673, [true, true, true, true, true, true, false]), (701, [true, true, true, true, true, true, true]), (712, [true, true, true, true, true, true, true]), (729, [true, true, true, true, true, false, false]), (732, [true, true, true, true, true, false, false]), (767, [true, true, true, true, true, true, false]), (801, [true, true, true, true, true, true, true]), (812, [true, true, true, true, true, true, true]), (829, [true, true, true, true, true, false, false]), (832, [true, true, true, true, true, false, false]), (901, [true, true, true, true, true, false, false]), (926, [true, true, true, true, true, false, false]), (951, [true, true, true, true, true, false, false]), (976, [true, true, true, true, true, false, false]), (989, [true, true, true, true, true, false, false])] q
set_option maxRecDepth 4096 in
theorem vc_205_607 (tt : Nat → Nat) (a0 : Nat) (a1 : Nat) (a2 : Nat) (a3 : Nat) (a4 : Int32) (h : am_H) (Q : Int32 → am_H → Prop) (Qx : String → am_H → Prop) (q :
  ((am_K h a0 = 21 ∨ am_K h a0 = 31) ∧ vp_in (a4 + (Int32.ofNat 1)) (am_N h a0) ∧
  ((am_K h a0 = 21 ∨ am_K h a0 = 31) ∧ vp_in (a4 + (Int32.ofNat 2)) (am_N h a0) ∧
  (am_K h a1 = 10 ∧ ∃ (Q2 : Int32 → am_H → Prop) (X2 : String → am_H → Prop), am_Ct tt 118 [.ref a1, .int (am_A h a0 ((a4 + (Int32.ofNat 1))).toNatClampNeg), .int (am_A h a0 ((a4 + (Int32.ofNat 2))).toNatClampNeg)] h (am_pI Q2 X2) ∧ (∀ x3 h1, Q2 x3 h1 →
   ((am_K h1 a0 = 21 ∨ am_K h1 a0 = 31) ∧ vp_in (a4 + (Int32.ofNat 1)) (am_N h1 a0) ∧
   ((am_K h1 a0 = 21 ∨ am_K h1 a0 = 31) ∧ vp_in (a4 + (Int32.ofNat 2)) (am_N h1 a0) ∧
   (am_K h1 a2 = 11 ∧ ∃ (Q5 : Int32 → am_H → Prop) (X5 : String → am_H → Prop), am_Ct tt 146 [.ref a2, .int (am_A h1 a0 ((a4 + (Int32.ofNat 1))).toNatClampNeg), .int (am_A h1 a0 ((a4 + (Int32.ofNat 2))).toNatClampNeg)] h1 (am_pI Q5 X5) ∧ (∀ x6 h4, Q5 x6 h4 →
    ((x3 = x6 →
     am_Ev tt 205 989 [some (.ref a0), some (.ref a1), some (.ref a2), some (.ref a3), some (.int a4), none, none] [] h4 (am_pI Q Qx)) ∧
    (¬ (x3 = x6) →
     (((Int32.ofNat 0) = (Int32.ofNat 0) ∨ (Int32.ofNat 0) = (Int32.ofNat 1)) ∧ Q (Int32.ofNat 0) h4)))) ∧ (∀ E7 h4, X5 E7 h4 → Qx E7 h4))))) ∧ (∀ E8 h1, X2 E8 h1 → Qx E8 h1))))) :
  am_Ev tt 205 607 [some (.ref a0), some (.ref a1), some (.ref a2), some (.ref a3), some (.int a4), none, none] [] h (am_pI Q Qx) := am_vc 29 [(8, [true, true, false, false, false, false, false]), (16, [true, true, true, false, false, false, false]), (20, [true, true, true, true, false, false, false]), (23, [true, true, true, true, true, false, false]), (32, [true, true, true, true, true, false, false]), (132, [true, true, true, true, true, false, false]), (157, [true, true, true, true, true, false, false]), (196, [true, true, true, true, true, false, false]), (277, [true, true, true, true, true, false, false]), (314, [true, true, true, true, true, false, false]), (363, [true, true, true, true, true, false, false]), (444, [true, true, true, true, true, false, false]), (457, [true, true, true, true, true, false, false]), (470, [true, true, true, true, true, false, false]), (483, [true, true, true, true, true, false, false]), (520, [true, true, true, true, true, false, false]), (558, [true, true, true, true, true, false, false]), (607, [true, true, true, true, true, false, false]), (644, [true, true, true, true, true, false, false]), (673, [true, true, true, true, true, true, false]), (701, [true, true, true, true, true, true, true]), (712, [true, true, true, true, true, true, true]), (729, [true, true, true, true, true, false, false]), (732, [true, true, true, true, true, false, false]), (767, [true, true, true, true, true, true, false]), (801, [true, true, true, true, true, true, true]), (812, [true, true, true, true, true, true, true]), (829, [true, true, true, true, true, false, false]), (832, [true, true, true, true, true, false, false]), (901, [true, true, true, true, true, false, false]), (926, [true, true, true, true, true, false, false]), (951, [true, true, true, true, true, false, false]), (976, [true, true, true, true, true, false, false]), (989, [true, true, true, true, true, false, false])] q
set_option maxRecDepth 4096 in
theorem vc_205_644 (tt : Nat → Nat) (a0 : Nat) (a1 : Nat) (a2 : Nat) (a3 : Nat) (a4 : Int32) (h : am_H) (Q : Int32 → am_H → Prop) (Qx : String → am_H → Prop) (q :
  ((am_K h a0 = 21 ∨ am_K h a0 = 31) ∧ vp_in (a4 + (Int32.ofNat 1)) (am_N h a0) ∧
  ((am_K h a0 = 21 ∨ am_K h a0 = 31) ∧ vp_in (a4 + (Int32.ofNat 2)) (am_N h a0) ∧
  (∃ (Q2 : Int32 → am_H → Prop) (X2 : String → am_H → Prop), am_Ct tt 203 [.ref a1, .long ((((am_A h a0 ((a4 + (Int32.ofNat 1))).toNatClampNeg)).toInt64 <<< (((Int32.ofNat 32)).toInt64 &&& 63)) ||| (((am_A h a0 ((a4 + (Int32.ofNat 2))).toNatClampNeg)).toInt64 &&& (Int64.ofNat 4294967295))), .ref a3] h (am_pI Q2 X2) ∧ (∀ x3 h1, Q2 x3 h1 →
   am_Ev tt 205 673 [some (.ref a0), some (.ref a1), some (.ref a2), some (.ref a3), some (.int a4), some (.int x3), none] [] h1 (am_pI Q Qx)) ∧ (∀ E4 h1, X2 E4 h1 → Qx E4 h1))))) :
  am_Ev tt 205 644 [some (.ref a0), some (.ref a1), some (.ref a2), some (.ref a3), some (.int a4), none, none] [] h (am_pI Q Qx) := am_vc 24 [(8, [true, true, false, false, false, false, false]), (16, [true, true, true, false, false, false, false]), (20, [true, true, true, true, false, false, false]), (23, [true, true, true, true, true, false, false]), (32, [true, true, true, true, true, false, false]), (132, [true, true, true, true, true, false, false]), (157, [true, true, true, true, true, false, false]), (196, [true, true, true, true, true, false, false]), (277, [true, true, true, true, true, false, false]), (314, [true, true, true, true, true, false, false]), (363, [true, true, true, true, true, false, false]), (444, [true, true, true, true, true, false, false]), (457, [true, true, true, true, true, false, false]), (470, [true, true, true, true, true, false, false]), (483, [true, true, true, true, true, false, false]), (520, [true, true, true, true, true, false, false]), (558, [true, true, true, true, true, false, false]), (607, [true, true, true, true, true, false, false]), (644, [true, true, true, true, true, false, false]), (673, [true, true, true, true, true, true, false]), (701, [true, true, true, true, true, true, true]), (712, [true, true, true, true, true, true, true]), (729, [true, true, true, true, true, false, false]), (732, [true, true, true, true, true, false, false]), (767, [true, true, true, true, true, true, false]), (801, [true, true, true, true, true, true, true]), (812, [true, true, true, true, true, true, true]), (829, [true, true, true, true, true, false, false]), (832, [true, true, true, true, true, false, false]), (901, [true, true, true, true, true, false, false]), (926, [true, true, true, true, true, false, false]), (951, [true, true, true, true, true, false, false]), (976, [true, true, true, true, true, false, false]), (989, [true, true, true, true, true, false, false])] q
set_option maxRecDepth 4096 in
theorem vc_205_673 (tt : Nat → Nat) (a0 : Nat) (a1 : Nat) (a2 : Nat) (a3 : Nat) (a4 : Int32) (a5 : Int32) (h : am_H) (Q : Int32 → am_H → Prop) (Qx : String → am_H → Prop) (q :
  ((am_K h a0 = 21 ∨ am_K h a0 = 31) ∧ vp_in (a4 + (Int32.ofNat 1)) (am_N h a0) ∧
  ((am_K h a0 = 21 ∨ am_K h a0 = 31) ∧ vp_in (a4 + (Int32.ofNat 2)) (am_N h a0) ∧
  (am_K h a2 = 11 ∧ ∃ (Q2 : Int32 → am_H → Prop) (X2 : String → am_H → Prop), am_Ct tt 149 [.ref a2, .long ((((am_A h a0 ((a4 + (Int32.ofNat 1))).toNatClampNeg)).toInt64 <<< (((Int32.ofNat 32)).toInt64 &&& 63)) ||| (((am_A h a0 ((a4 + (Int32.ofNat 2))).toNatClampNeg)).toInt64 &&& (Int64.ofNat 4294967295)))] h (am_pI Q2 X2) ∧ (∀ x3 h1, Q2 x3 h1 →
   am_Ev tt 205 701 [some (.ref a0), some (.ref a1), some (.ref a2), some (.ref a3), some (.int a4), some (.int a5), some (.int x3)] [] h1 (am_pI Q Qx)) ∧ (∀ E4 h1, X2 E4 h1 → Qx E4 h1))))) :
  am_Ev tt 205 673 [some (.ref a0), some (.ref a1), some (.ref a2), some (.ref a3), some (.int a4), some (.int a5), none] [] h (am_pI Q Qx) := am_vc 23 [(8, [true, true, false, false, false, false, false]), (16, [true, true, true, false, false, false, false]), (20, [true, true, true, true, false, false, false]), (23, [true, true, true, true, true, false, false]), (32, [true, true, true, true, true, false, false]), (132, [true, true, true, true, true, false, false]), (157, [true, true, true, true, true, false, false]), (196, [true, true, true, true, true, false, false]), (277, [true, true, true, true, true, false, false]), (314, [true, true, true, true, true, false, false]), (363, [true, true, true, true, true, false, false]), (444, [true, true, true, true, true, false, false]), (457, [true, true, true, true, true, false, false]), (470, [true, true, true, true, true, false, false]), (483, [true, true, true, true, true, false, false]), (520, [true, true, true, true, true, false, false]), (558, [true, true, true, true, true, false, false]), (607, [true, true, true, true, true, false, false]), (644, [true, true, true, true, true, false, false]), (673, [true, true, true, true, true, true, false]), (701, [true, true, true, true, true, true, true]), (712, [true, true, true, true, true, true, true]), (729, [true, true, true, true, true, false, false]), (732, [true, true, true, true, true, false, false]), (767, [true, true, true, true, true, true, false]), (801, [true, true, true, true, true, true, true]), (812, [true, true, true, true, true, true, true]), (829, [true, true, true, true, true, false, false]), (832, [true, true, true, true, true, false, false]), (901, [true, true, true, true, true, false, false]), (926, [true, true, true, true, true, false, false]), (951, [true, true, true, true, true, false, false]), (976, [true, true, true, true, true, false, false]), (989, [true, true, true, true, true, false, false])] q
set_option maxRecDepth 4096 in
theorem vc_205_701 (tt : Nat → Nat) (a0 : Nat) (a1 : Nat) (a2 : Nat) (a3 : Nat) (a4 : Int32) (a5 : Int32) (a6 : Int32) (h : am_H) (Q : Int32 → am_H → Prop) (Qx : String → am_H → Prop) (q :
  (am_K h a2 = 11 ∧ ∃ (Q2 : Int32 → am_H → Prop) (X2 : String → am_H → Prop), am_Ct tt 129 [.ref a2] h (am_pI Q2 X2) ∧ (∀ x3 h1, Q2 x3 h1 →
   ((x3 = a5 →
    am_Ev tt 205 712 [some (.ref a0), some (.ref a1), some (.ref a2), some (.ref a3), some (.int a4), some (.int a5), some (.int a6)] [] h1 (am_pI Q Qx)) ∧
   (¬ (x3 = a5) →
    (((Int32.ofNat 0) = (Int32.ofNat 0) ∨ (Int32.ofNat 0) = (Int32.ofNat 1)) ∧ Q (Int32.ofNat 0) h1)))) ∧ (∀ E4 h1, X2 E4 h1 → Qx E4 h1))) :
  am_Ev tt 205 701 [some (.ref a0), some (.ref a1), some (.ref a2), some (.ref a3), some (.int a4), some (.int a5), some (.int a6)] [] h (am_pI Q Qx) := am_vc 8 [(8, [true, true, false, false, false, false, false]), (16, [true, true, true, false, false, false, false]), (20, [true, true, true, true, false, false, false]), (23, [true, true, true, true, true, false, false]), (32, [true, true, true, true, true, false, false]), (132, [true, true, true, true, true, false, false]), (157, [true, true, true, true, true, false, false]), (196, [true, true, true, true, true, false, false]), (277, [true, true, true, true, true, false, false]), (314, [true, true, true, true, true, false, false]), (363, [true, true, true, true, true, false, false]), (444, [true, true, true, true, true, false, false]), (457, [true, true, true, true, true, false, false]), (470, [true, true, true, true, true, false, false]), (483, [true, true, true, true, true, false, false]), (520, [true, true, true, true, true, false, false]), (558, [true, true, true, true, true, false, false]), (607, [true, true, true, true, true, false, false]), (644, [true, true, true, true, true, false, false]), (673, [true, true, true, true, true, true, false]), (701, [true, true, true, true, true, true, true]), (712, [true, true, true, true, true, true, true]), (729, [true, true, true, true, true, false, false]), (732, [true, true, true, true, true, false, false]), (767, [true, true, true, true, true, true, false]), (801, [true, true, true, true, true, true, true]), (812, [true, true, true, true, true, true, true]), (829, [true, true, true, true, true, false, false]), (832, [true, true, true, true, true, false, false]), (901, [true, true, true, true, true, false, false]), (926, [true, true, true, true, true, false, false]), (951, [true, true, true, true, true, false, false]), (976, [true, true, true, true, true, false, false]), (989, [true, true, true, true, true, false, false])] q
set_option maxRecDepth 4096 in
theorem vc_205_712 (tt : Nat → Nat) (a0 : Nat) (a1 : Nat) (a2 : Nat) (a3 : Nat) (a4 : Int32) (a5 : Int32) (a6 : Int32) (h : am_H) (Q : Int32 → am_H → Prop) (Qx : String → am_H → Prop) (q :
  ((¬ a5 = (Int32.ofNat 0) →
   am_Ev tt 205 729 [some (.ref a0), some (.ref a1), some (.ref a2), some (.ref a3), some (.int a4), none, none] [] h (am_pI Q Qx)) ∧
  (¬ (¬ a5 = (Int32.ofNat 0)) →
   (am_K h a3 = 22 ∧ vp_in (Int32.ofNat 0) (am_N h a3) ∧
   (((lg_cmp (am_B h a3 ((Int32.ofNat 0)).toNatClampNeg) (a6).toInt64) = (Int32.ofNat 0) →
    am_Ev tt 205 729 [some (.ref a0), some (.ref a1), some (.ref a2), some (.ref a3), some (.int a4), none, none] [] h (am_pI Q Qx)) ∧
   (¬ ((lg_cmp (am_B h a3 ((Int32.ofNat 0)).toNatClampNeg) (a6).toInt64) = (Int32.ofNat 0)) →
    (((Int32.ofNat 0) = (Int32.ofNat 0) ∨ (Int32.ofNat 0) = (Int32.ofNat 1)) ∧ Q (Int32.ofNat 0) h))))))) :
  am_Ev tt 205 712 [some (.ref a0), some (.ref a1), some (.ref a2), some (.ref a3), some (.int a4), some (.int a5), some (.int a6)] [] h (am_pI Q Qx) := am_vc 13 [(8, [true, true, false, false, false, false, false]), (16, [true, true, true, false, false, false, false]), (20, [true, true, true, true, false, false, false]), (23, [true, true, true, true, true, false, false]), (32, [true, true, true, true, true, false, false]), (132, [true, true, true, true, true, false, false]), (157, [true, true, true, true, true, false, false]), (196, [true, true, true, true, true, false, false]), (277, [true, true, true, true, true, false, false]), (314, [true, true, true, true, true, false, false]), (363, [true, true, true, true, true, false, false]), (444, [true, true, true, true, true, false, false]), (457, [true, true, true, true, true, false, false]), (470, [true, true, true, true, true, false, false]), (483, [true, true, true, true, true, false, false]), (520, [true, true, true, true, true, false, false]), (558, [true, true, true, true, true, false, false]), (607, [true, true, true, true, true, false, false]), (644, [true, true, true, true, true, false, false]), (673, [true, true, true, true, true, true, false]), (701, [true, true, true, true, true, true, true]), (712, [true, true, true, true, true, true, true]), (729, [true, true, true, true, true, false, false]), (732, [true, true, true, true, true, false, false]), (767, [true, true, true, true, true, true, false]), (801, [true, true, true, true, true, true, true]), (812, [true, true, true, true, true, true, true]), (829, [true, true, true, true, true, false, false]), (832, [true, true, true, true, true, false, false]), (901, [true, true, true, true, true, false, false]), (926, [true, true, true, true, true, false, false]), (951, [true, true, true, true, true, false, false]), (976, [true, true, true, true, true, false, false]), (989, [true, true, true, true, true, false, false])] q
set_option maxRecDepth 4096 in
theorem vc_205_729 (tt : Nat → Nat) (a0 : Nat) (a1 : Nat) (a2 : Nat) (a3 : Nat) (a4 : Int32) (h : am_H) (Q : Int32 → am_H → Prop) (Qx : String → am_H → Prop) (q :
  am_Ev tt 205 989 [some (.ref a0), some (.ref a1), some (.ref a2), some (.ref a3), some (.int a4), none, none] [] h (am_pI Q Qx)) :
  am_Ev tt 205 729 [some (.ref a0), some (.ref a1), some (.ref a2), some (.ref a3), some (.int a4), none, none] [] h (am_pI Q Qx) := am_vc 4 [(8, [true, true, false, false, false, false, false]), (16, [true, true, true, false, false, false, false]), (20, [true, true, true, true, false, false, false]), (23, [true, true, true, true, true, false, false]), (32, [true, true, true, true, true, false, false]), (132, [true, true, true, true, true, false, false]), (157, [true, true, true, true, true, false, false]), (196, [true, true, true, true, true, false, false]), (277, [true, true, true, true, true, false, false]), (314, [true, true, true, true, true, false, false]), (363, [true, true, true, true, true, false, false]), (444, [true, true, true, true, true, false, false]), (457, [true, true, true, true, true, false, false]), (470, [true, true, true, true, true, false, false]), (483, [true, true, true, true, true, false, false]), (520, [true, true, true, true, true, false, false]), (558, [true, true, true, true, true, false, false]), (607, [true, true, true, true, true, false, false]), (644, [true, true, true, true, true, false, false]), (673, [true, true, true, true, true, true, false]), (701, [true, true, true, true, true, true, true]), (712, [true, true, true, true, true, true, true]), (729, [true, true, true, true, true, false, false]), (732, [true, true, true, true, true, false, false]), (767, [true, true, true, true, true, true, false]), (801, [true, true, true, true, true, true, true]), (812, [true, true, true, true, true, true, true]), (829, [true, true, true, true, true, false, false]), (832, [true, true, true, true, true, false, false]), (901, [true, true, true, true, true, false, false]), (926, [true, true, true, true, true, false, false]), (951, [true, true, true, true, true, false, false]), (976, [true, true, true, true, true, false, false]), (989, [true, true, true, true, true, false, false])] q
set_option maxRecDepth 4096 in
theorem vc_205_732 (tt : Nat → Nat) (a0 : Nat) (a1 : Nat) (a2 : Nat) (a3 : Nat) (a4 : Int32) (h : am_H) (Q : Int32 → am_H → Prop) (Qx : String → am_H → Prop) (q :
  ((am_K h a0 = 21 ∨ am_K h a0 = 31) ∧ vp_in (a4 + (Int32.ofNat 1)) (am_N h a0) ∧
  ((am_K h a0 = 21 ∨ am_K h a0 = 31) ∧ vp_in (a4 + (Int32.ofNat 2)) (am_N h a0) ∧
  ((am_K h a0 = 21 ∨ am_K h a0 = 31) ∧ vp_in (a4 + (Int32.ofNat 3)) (am_N h a0) ∧
  (∃ (Q2 : Int32 → am_H → Prop) (X2 : String → am_H → Prop), am_Ct tt 204 [.ref a1, .long ((((am_A h a0 ((a4 + (Int32.ofNat 1))).toNatClampNeg)).toInt64 <<< (((Int32.ofNat 32)).toInt64 &&& 63)) ||| (((am_A h a0 ((a4 + (Int32.ofNat 2))).toNatClampNeg)).toInt64 &&& (Int64.ofNat 4294967295))), .int (am_A h a0 ((a4 + (Int32.ofNat 3))).toNatClampNeg), .ref a3] h (am_pI Q2 X2) ∧ (∀ x3 h1, Q2 x3 h1 →
   am_Ev tt 205 767 [some (.ref a0), some (.ref a1), some (.ref a2), some (.ref a3), some (.int a4), some (.int x3), none] [] h1 (am_pI Q Qx)) ∧ (∀ E4 h1, X2 E4 h1 → Qx E4 h1)))))) :
  am_Ev tt 205 732 [some (.ref a0), some (.ref a1), some (.ref a2), some (.ref a3), some (.int a4), none, none] [] h (am_pI Q Qx) := am_vc 29 [(8, [true, true, false, false, false, false, false]), (16, [true, true, true, false, false, false, false]), (20, [true, true, true, true, false, false, false]), (23, [true, true, true, true, true, false, false]), (32, [true, true, true, true, true, false, false]), (132, [true, true, true, true, true, false, false]), (157, [true, true, true, true, true, false, false]), (196, [true, true, true, true, true, false, false]), (277, [true, true, true, true, true, false, false]), (314, [true, true, true, true, true, false, false]), (363, [true, true, true, true, true, false, false]), (444, [true, true, true, true, true, false, false]), (457, [true, true, true, true, true, false, false]), (470, [true, true, true, true, true, false, false]), (483, [true, true, true, true, true, false, false]), (520, [true, true, true, true, true, false, false]), (558, [true, true, true, true, true, false, false]), (607, [true, true, true, true, true, false, false]), (644, [true, true, true, true, true, false, false]), (673, [true, true, true, true, true, true, false]), (701, [true, true, true, true, true, true, true]), (712, [true, true, true, true, true, true, true]), (729, [true, true, true, true, true, false, false]), (732, [true, true, true, true, true, false, false]), (767, [true, true, true, true, true, true, false]), (801, [true, true, true, true, true, true, true]), (812, [true, true, true, true, true, true, true]), (829, [true, true, true, true, true, false, false]), (832, [true, true, true, true, true, false, false]), (901, [true, true, true, true, true, false, false]), (926, [true, true, true, true, true, false, false]), (951, [true, true, true, true, true, false, false]), (976, [true, true, true, true, true, false, false]), (989, [true, true, true, true, true, false, false])] q
set_option maxRecDepth 4096 in
theorem vc_205_767 (tt : Nat → Nat) (a0 : Nat) (a1 : Nat) (a2 : Nat) (a3 : Nat) (a4 : Int32) (a5 : Int32) (h : am_H) (Q : Int32 → am_H → Prop) (Qx : String → am_H → Prop) (q :
  ((am_K h a0 = 21 ∨ am_K h a0 = 31) ∧ vp_in (a4 + (Int32.ofNat 1)) (am_N h a0) ∧
  ((am_K h a0 = 21 ∨ am_K h a0 = 31) ∧ vp_in (a4 + (Int32.ofNat 2)) (am_N h a0) ∧
  ((am_K h a0 = 21 ∨ am_K h a0 = 31) ∧ vp_in (a4 + (Int32.ofNat 3)) (am_N h a0) ∧
  (am_K h a2 = 11 ∧ ∃ (Q2 : Int32 → am_H → Prop) (X2 : String → am_H → Prop), am_Ct tt 150 [.ref a2, .long ((((am_A h a0 ((a4 + (Int32.ofNat 1))).toNatClampNeg)).toInt64 <<< (((Int32.ofNat 32)).toInt64 &&& 63)) ||| (((am_A h a0 ((a4 + (Int32.ofNat 2))).toNatClampNeg)).toInt64 &&& (Int64.ofNat 4294967295))), .int (am_A h a0 ((a4 + (Int32.ofNat 3))).toNatClampNeg)] h (am_pI Q2 X2) ∧ (∀ x3 h1, Q2 x3 h1 →
   am_Ev tt 205 801 [some (.ref a0), some (.ref a1), some (.ref a2), some (.ref a3), some (.int a4), some (.int a5), some (.int x3)] [] h1 (am_pI Q Qx)) ∧ (∀ E4 h1, X2 E4 h1 → Qx E4 h1)))))) :
  am_Ev tt 205 767 [some (.ref a0), some (.ref a1), some (.ref a2), some (.ref a3), some (.int a4), some (.int a5), none] [] h (am_pI Q Qx) := am_vc 28 [(8, [true, true, false, false, false, false, false]), (16, [true, true, true, false, false, false, false]), (20, [true, true, true, true, false, false, false]), (23, [true, true, true, true, true, false, false]), (32, [true, true, true, true, true, false, false]), (132, [true, true, true, true, true, false, false]), (157, [true, true, true, true, true, false, false]), (196, [true, true, true, true, true, false, false]), (277, [true, true, true, true, true, false, false]), (314, [true, true, true, true, true, false, false]), (363, [true, true, true, true, true, false, false]), (444, [true, true, true, true, true, false, false]), (457, [true, true, true, true, true, false, false]), (470, [true, true, true, true, true, false, false]), (483, [true, true, true, true, true, false, false]), (520, [true, true, true, true, true, false, false]), (558, [true, true, true, true, true, false, false]), (607, [true, true, true, true, true, false, false]), (644, [true, true, true, true, true, false, false]), (673, [true, true, true, true, true, true, false]), (701, [true, true, true, true, true, true, true]), (712, [true, true, true, true, true, true, true]), (729, [true, true, true, true, true, false, false]), (732, [true, true, true, true, true, false, false]), (767, [true, true, true, true, true, true, false]), (801, [true, true, true, true, true, true, true]), (812, [true, true, true, true, true, true, true]), (829, [true, true, true, true, true, false, false]), (832, [true, true, true, true, true, false, false]), (901, [true, true, true, true, true, false, false]), (926, [true, true, true, true, true, false, false]), (951, [true, true, true, true, true, false, false]), (976, [true, true, true, true, true, false, false]), (989, [true, true, true, true, true, false, false])] q
set_option maxRecDepth 4096 in
theorem vc_205_801 (tt : Nat → Nat) (a0 : Nat) (a1 : Nat) (a2 : Nat) (a3 : Nat) (a4 : Int32) (a5 : Int32) (a6 : Int32) (h : am_H) (Q : Int32 → am_H → Prop) (Qx : String → am_H → Prop) (q :
  (am_K h a2 = 11 ∧ ∃ (Q2 : Int32 → am_H → Prop) (X2 : String → am_H → Prop), am_Ct tt 129 [.ref a2] h (am_pI Q2 X2) ∧ (∀ x3 h1, Q2 x3 h1 →
   ((x3 = a5 →
    am_Ev tt 205 812 [some (.ref a0), some (.ref a1), some (.ref a2), some (.ref a3), some (.int a4), some (.int a5), some (.int a6)] [] h1 (am_pI Q Qx)) ∧
   (¬ (x3 = a5) →
    (((Int32.ofNat 0) = (Int32.ofNat 0) ∨ (Int32.ofNat 0) = (Int32.ofNat 1)) ∧ Q (Int32.ofNat 0) h1)))) ∧ (∀ E4 h1, X2 E4 h1 → Qx E4 h1))) :
  am_Ev tt 205 801 [some (.ref a0), some (.ref a1), some (.ref a2), some (.ref a3), some (.int a4), some (.int a5), some (.int a6)] [] h (am_pI Q Qx) := am_vc 8 [(8, [true, true, false, false, false, false, false]), (16, [true, true, true, false, false, false, false]), (20, [true, true, true, true, false, false, false]), (23, [true, true, true, true, true, false, false]), (32, [true, true, true, true, true, false, false]), (132, [true, true, true, true, true, false, false]), (157, [true, true, true, true, true, false, false]), (196, [true, true, true, true, true, false, false]), (277, [true, true, true, true, true, false, false]), (314, [true, true, true, true, true, false, false]), (363, [true, true, true, true, true, false, false]), (444, [true, true, true, true, true, false, false]), (457, [true, true, true, true, true, false, false]), (470, [true, true, true, true, true, false, false]), (483, [true, true, true, true, true, false, false]), (520, [true, true, true, true, true, false, false]), (558, [true, true, true, true, true, false, false]), (607, [true, true, true, true, true, false, false]), (644, [true, true, true, true, true, false, false]), (673, [true, true, true, true, true, true, false]), (701, [true, true, true, true, true, true, true]), (712, [true, true, true, true, true, true, true]), (729, [true, true, true, true, true, false, false]), (732, [true, true, true, true, true, false, false]), (767, [true, true, true, true, true, true, false]), (801, [true, true, true, true, true, true, true]), (812, [true, true, true, true, true, true, true]), (829, [true, true, true, true, true, false, false]), (832, [true, true, true, true, true, false, false]), (901, [true, true, true, true, true, false, false]), (926, [true, true, true, true, true, false, false]), (951, [true, true, true, true, true, false, false]), (976, [true, true, true, true, true, false, false]), (989, [true, true, true, true, true, false, false])] q
set_option maxRecDepth 4096 in
theorem vc_205_812 (tt : Nat → Nat) (a0 : Nat) (a1 : Nat) (a2 : Nat) (a3 : Nat) (a4 : Int32) (a5 : Int32) (a6 : Int32) (h : am_H) (Q : Int32 → am_H → Prop) (Qx : String → am_H → Prop) (q :
  ((¬ a5 = (Int32.ofNat 0) →
   am_Ev tt 205 829 [some (.ref a0), some (.ref a1), some (.ref a2), some (.ref a3), some (.int a4), none, none] [] h (am_pI Q Qx)) ∧
  (¬ (¬ a5 = (Int32.ofNat 0)) →
   (am_K h a3 = 22 ∧ vp_in (Int32.ofNat 0) (am_N h a3) ∧
   (((lg_cmp (am_B h a3 ((Int32.ofNat 0)).toNatClampNeg) (a6).toInt64) = (Int32.ofNat 0) →
    am_Ev tt 205 829 [some (.ref a0), some (.ref a1), some (.ref a2), some (.ref a3), some (.int a4), none, none] [] h (am_pI Q Qx)) ∧
   (¬ ((lg_cmp (am_B h a3 ((Int32.ofNat 0)).toNatClampNeg) (a6).toInt64) = (Int32.ofNat 0)) →
    (((Int32.ofNat 0) = (Int32.ofNat 0) ∨ (Int32.ofNat 0) = (Int32.ofNat 1)) ∧ Q (Int32.ofNat 0) h))))))) :
  am_Ev tt 205 812 [some (.ref a0), some (.ref a1), some (.ref a2), some (.ref a3), some (.int a4), some (.int a5), some (.int a6)] [] h (am_pI Q Qx) := am_vc 13 [(8, [true, true, false, false, false, false, false]), (16, [true, true, true, false, false, false, false]), (20, [true, true, true, true, false, false, false]), (23, [true, true, true, true, true, false, false]), (32, [true, true, true, true, true, false, false]), (132, [true, true, true, true, true, false, false]), (157, [true, true, true, true, true, false, false]), (196, [true, true, true, true, true, false, false]), (277, [true, true, true, true, true, false, false]), (314, [true, true, true, true, true, false, false]), (363, [true, true, true, true, true, false, false]), (444, [true, true, true, true, true, false, false]), (457, [true, true, true, true, true, false, false]), (470, [true, true, true, true, true, false, false]), (483, [true, true, true, true, true, false, false]), (520, [true, true, true, true, true, false, false]), (558, [true, true, true, true, true, false, false]), (607, [true, true, true, true, true, false, false]), (644, [true, true, true, true, true, false, false]), (673, [true, true, true, true, true, true, false]), (701, [true, true, true, true, true, true, true]), (712, [true, true, true, true, true, true, true]), (729, [true, true, true, true, true, false, false]), (732, [true, true, true, true, true, false, false]), (767, [true, true, true, true, true, true, false]), (801, [true, true, true, true, true, true, true]), (812, [true, true, true, true, true, true, true]), (829, [true, true, true, true, true, false, false]), (832, [true, true, true, true, true, false, false]), (901, [true, true, true, true, true, false, false]), (926, [true, true, true, true, true, false, false]), (951, [true, true, true, true, true, false, false]), (976, [true, true, true, true, true, false, false]), (989, [true, true, true, true, true, false, false])] q
set_option maxRecDepth 4096 in
theorem vc_205_829 (tt : Nat → Nat) (a0 : Nat) (a1 : Nat) (a2 : Nat) (a3 : Nat) (a4 : Int32) (h : am_H) (Q : Int32 → am_H → Prop) (Qx : String → am_H → Prop) (q :
  am_Ev tt 205 989 [some (.ref a0), some (.ref a1), some (.ref a2), some (.ref a3), some (.int a4), none, none] [] h (am_pI Q Qx)) :
  am_Ev tt 205 829 [some (.ref a0), some (.ref a1), some (.ref a2), some (.ref a3), some (.int a4), none, none] [] h (am_pI Q Qx) := am_vc 4 [(8, [true, true, false, false, false, false, false]), (16, [true, true, true, false, false, false, false]), (20, [true, true, true, true, false, false, false]), (23, [true, true, true, true, true, false, false]), (32, [true, true, true, true, true, false, false]), (132, [true, true, true, true, true, false, false]), (157, [true, true, true, true, true, false, false]), (196, [true, true, true, true, true, false, false]), (277, [true, true, true, true, true, false, false]), (314, [true, true, true, true, true, false, false]), (363, [true, true, true, true, true, false, false]), (444, [true, true, true, true, true, false, false]), (457, [true, true, true, true, true, false, false]), (470, [true, true, true, true, true, false, false]), (483, [true, true, true, true, true, false, false]), (520, [true, true, true, true, true, false, false]), (558, [true, true, true, true, true, false, false]), (607, [true, true, true, true, true, false, false]), (644, [true, true, true, true, true, false, false]), (673, [true, true, true, true, true, true, false]), (701, [true, true, true, true, true, true, true]), (712, [true, true, true, true, true, true, true]), (729, [true, true, true, true, true, false, false]), (732, [true, true, true, true, true, false, false]), (767, [true, true, true, true, true, true, false]), (801, [true, true, true, true, true, true, true]), (812, [true, true, true, true, true, true, true]), (829, [true, true, true, true, true, false, false]), (832, [true, true, true, true, true, false, false]), (901, [true, true, true, true, true, false, false]), (926, [true, true, true, true, true, false, false]), (951, [true, true, true, true, true, false, false]), (976, [true, true, true, true, true, false, false]), (989, [true, true, true, true, true, false, false])] q
set_option maxRecDepth 4096 in
theorem vc_205_832 (tt : Nat → Nat) (a0 : Nat) (a1 : Nat) (a2 : Nat) (a3 : Nat) (a4 : Int32) (h : am_H) (Q : Int32 → am_H → Prop) (Qx : String → am_H → Prop) (q :
  ((am_K h a0 = 21 ∨ am_K h a0 = 31) ∧ vp_in (a4 + (Int32.ofNat 1)) (am_N h a0) ∧
  ((am_K h a0 = 21 ∨ am_K h a0 = 31) ∧ vp_in (a4 + (Int32.ofNat 2)) (am_N h a0) ∧
  ((am_K h a0 = 21 ∨ am_K h a0 = 31) ∧ vp_in (a4 + (Int32.ofNat 3)) (am_N h a0) ∧
  (am_K h a1 = 10 ∧ ∃ (Q2 : Int32 → am_H → Prop) (X2 : String → am_H → Prop), am_Ct tt 121 [.ref a1, .long ((((am_A h a0 ((a4 + (Int32.ofNat 1))).toNatClampNeg)).toInt64 <<< (((Int32.ofNat 32)).toInt64 &&& 63)) ||| (((am_A h a0 ((a4 + (Int32.ofNat 2))).toNatClampNeg)).toInt64 &&& (Int64.ofNat 4294967295))), .int (am_A h a0 ((a4 + (Int32.ofNat 3))).toNatClampNeg)] h (am_pI Q2 X2) ∧ (∀ x3 h1, Q2 x3 h1 →
   ((am_K h1 a0 = 21 ∨ am_K h1 a0 = 31) ∧ vp_in (a4 + (Int32.ofNat 1)) (am_N h1 a0) ∧
   ((am_K h1 a0 = 21 ∨ am_K h1 a0 = 31) ∧ vp_in (a4 + (Int32.ofNat 2)) (am_N h1 a0) ∧
   ((am_K h1 a0 = 21 ∨ am_K h1 a0 = 31) ∧ vp_in (a4 + (Int32.ofNat 3)) (am_N h1 a0) ∧
   (am_K h1 a2 = 11 ∧ ∃ (Q5 : Int32 → am_H → Prop) (X5 : String → am_H → Prop), am_Ct tt 151 [.ref a2, .long ((((am_A h1 a0 ((a4 + (Int32.ofNat 1))).toNatClampNeg)).toInt64 <<< (((Int32.ofNat 32)).toInt64 &&& 63)) ||| (((am_A h1 a0 ((a4 + (Int32.ofNat 2))).toNatClampNeg)).toInt64 &&& (Int64.ofNat 4294967295))), .int (am_A h1 a0 ((a4 + (Int32.ofNat 3))).toNatClampNeg)] h1 (am_pI Q5 X5) ∧ (∀ x6 h4, Q5 x6 h4 →
    ((x3 = x6 →
     am_Ev tt 205 989 [some (.ref a0), some (.ref a1), some (.ref a2), some (.ref a3), some (.int a4), none, none] [] h4 (am_pI Q Qx)) ∧
    (¬ (x3 = x6) →
     (((Int32.ofNat 0) = (Int32.ofNat 0) ∨ (Int32.ofNat 0) = (Int32.ofNat 1)) ∧ Q (Int32.ofNat 0) h4)))) ∧ (∀ E7 h4, X5 E7 h4 → Qx E7 h4)))))) ∧ (∀ E8 h1, X2 E8 h1 → Qx E8 h1)))))) :
  am_Ev tt 205 832 [some (.ref a0), some (.ref a1), some (.ref a2), some (.ref a3), some (.int a4), none, none] [] h (am_pI Q Qx) := am_vc 53 [(8, [true, true, false, false, false, false, false]), (16, [true, true, true, false, false, false, false]), (20, [true, true, true, true, false, false, false]), (23, [true, true, true, true, true, false, false]), (32, [true, true, true, true, true, false, false]), (132, [true, true, true, true, true, false, false]), (157, [true, true, true, true, true, false, false]), (196, [true, true, true, true, true, false, false]), (277, [true, true, true, true, true, false, false]), (314, [true, true, true, true, true, false, false]), (363, [true, true, true, true, true, false, false]), (444, [true, true, true, true, true, false, false]), (457, [true, true, true, true, true, false, false]), (470, [true, true, true, true, true, false, false]), (483, [true, true, true, true, true, false, false]), (520, [true, true, true, true, true, false, false]), (558, [true, true, true, true, true, false, false]), (607, [true, true, true, true, true, false, false]), (644, [true, true, true, true, true, false, false]), (673, [true, true, true, true, true, true, false]), (701, [true, true, true, true, true, true, true]), (712, [true, true, true, true, true, true, true]), (729, [true, true, true, true, true, false, false]), (732, [true, true, true, true, true, false, false]), (767, [true, true, true, true, true, true, false]), (801, [true, true, true, true, true, true, true]), (812, [true, true, true, true, true, true, true]), (829, [true, true, true, true, true, false, false]), (832, [true, true, true, true, true, false, false]), (901, [true, true, true, true, true, false, false]), (926, [true, true, true, true, true, false, false]), (951, [true, true, true, true, true, false, false]), (976, [true, true, true, true, true, false, false]), (989, [true, true, true, true, true, false, false])] q
set_option maxRecDepth 4096 in
theorem vc_205_901 (tt : Nat → Nat) (a0 : Nat) (a1 : Nat) (a2 : Nat) (a3 : Nat) (a4 : Int32) (h : am_H) (Q : Int32 → am_H → Prop) (Qx : String → am_H → Prop) (q :
  ((am_K h a0 = 21 ∨ am_K h a0 = 31) ∧ vp_in (a4 + (Int32.ofNat 1)) (am_N h a0) ∧
  (am_K h a1 = 10 ∧ ∃ (Q2 : Int32 → am_H → Prop) (X2 : String → am_H → Prop), am_Ct tt 122 [.ref a1, .int (am_A h a0 ((a4 + (Int32.ofNat 1))).toNatClampNeg)] h (am_pI Q2 X2) ∧ (∀ x3 h1, Q2 x3 h1 →
   ((am_K h1 a0 = 21 ∨ am_K h1 a0 = 31) ∧ vp_in (a4 + (Int32.ofNat 1)) (am_N h1 a0) ∧
   (am_K h1 a2 = 11 ∧ ∃ (Q5 : Int32 → am_H → Prop) (X5 : String → am_H → Prop), am_Ct tt 152 [.ref a2, .int (am_A h1 a0 ((a4 + (Int32.ofNat 1))).toNatClampNeg)] h1 (am_pI Q5 X5) ∧ (∀ x6 h4, Q5 x6 h4 →
    ((x3 = x6 →
     am_Ev tt 205 989 [some (.ref a0), some (.ref a1), some (.ref a2), some (.ref a3), some (.int a4), none, none] [] h4 (am_pI Q Qx)) ∧
    (¬ (x3 = x6) →
     (((Int32.ofNat 0) = (Int32.ofNat 0) ∨ (Int32.ofNat 0) = (Int32.ofNat 1)) ∧ Q (Int32.ofNat 0) h4)))) ∧ (∀ E7 h4, X5 E7 h4 → Qx E7 h4)))) ∧ (∀ E8 h1, X2 E8 h1 → Qx E8 h1)))) :
  am_Ev tt 205 901 [some (.ref a0), some (.ref a1), some (.ref a2), some (.ref a3), some (.int a4), none, none] [] h (am_pI Q Qx) := am_vc 19 [(8, [true, true, false, false, false, false, false]), (16, [true, true, true, false, false, false, false]), (20, [true, true, true, true, false, false, false]), (23, [true, true, true, true, true, false, false]), (32, [true, true, true, true, true, false, false]), (132, [true, true, true, true, true, false, false]), (157, [true, true, true, true, true, false, false]), (196, [true, true, true, true, true, false, false]), (277, [true, true, true, true, true, false, false]), (314, [true, true, true, true, true, false, false]), (363, [true, true, true, true, true, false, false]), (444, [true, true, true, true, true, false, false]), (457, [true, true, true, true, true, false, false]), (470, [true, true, true, true, true, false, false]), (483, [true, true, true, true, true, false, false]), (520, [true, true, true, true, true, false, false]), (558, [true, true, true, true, true, false, false]), (607, [true, true, true, true, true, false, false]), (644, [true, true, true, true, true, false, false]), (673, [true, true, true, true, true, true, false]), (701, [true, true, true, true, true, true, true]), (712, [true, true, true, true, true, true, true]), (729, [true, true, true, true, true, false, false]), (732, [true, true, true, true, true, false, false]), (767, [true, true, true, true, true, true, false]), (801, [true, true, true, true, true, true, true]), (812, [true, true, true, true, true, true, true]), (829, [true, true, true, true, true, false, false]), (832, [true, true, true, true, true, false, false]), (901, [true, true, true, true, true, false, false]), (926, [true, true, true, true, true, false, false]), (951, [true, true, true, true, true, false, false]), (976, [true, true, true, true, true, false, false]), (989, [true, true, true, true, true, false, false])] q
set_option maxRecDepth 4096 in
theorem vc_205_926 (tt : Nat → Nat) (a0 : Nat) (a1 : Nat) (a2 : Nat) (a3 : Nat) (a4 : Int32) (h : am_H) (Q : Int32 → am_H → Prop) (Qx : String → am_H → Prop) (q :
  ((am_K h a0 = 21 ∨ am_K h a0 = 31) ∧ vp_in (a4 + (Int32.ofNat 1)) (am_N h a0) ∧
  (am_K h a1 = 10 ∧ ∃ (Q2 : Int32 → am_H → Prop) (X2 : String → am_H → Prop), am_Ct tt 123 [.ref a1, .int (am_A h a0 ((a4 + (Int32.ofNat 1))).toNatClampNeg)] h (am_pI Q2 X2) ∧ (∀ x3 h1, Q2 x3 h1 →
   ((am_K h1 a0 = 21 ∨ am_K h1 a0 = 31) ∧ vp_in (a4 + (Int32.ofNat 1)) (am_N h1 a0) ∧
   (am_K h1 a2 = 11 ∧ ∃ (Q5 : Int32 → am_H → Prop) (X5 : String → am_H → Prop), am_Ct tt 156 [.ref a2, .int (am_A h1 a0 ((a4 + (Int32.ofNat 1))).toNatClampNeg)] h1 (am_pI Q5 X5) ∧ (∀ x6 h4, Q5 x6 h4 →
    ((x3 = x6 →
     am_Ev tt 205 989 [some (.ref a0), some (.ref a1), some (.ref a2), some (.ref a3), some (.int a4), none, none] [] h4 (am_pI Q Qx)) ∧
    (¬ (x3 = x6) →
     (((Int32.ofNat 0) = (Int32.ofNat 0) ∨ (Int32.ofNat 0) = (Int32.ofNat 1)) ∧ Q (Int32.ofNat 0) h4)))) ∧ (∀ E7 h4, X5 E7 h4 → Qx E7 h4)))) ∧ (∀ E8 h1, X2 E8 h1 → Qx E8 h1)))) :
  am_Ev tt 205 926 [some (.ref a0), some (.ref a1), some (.ref a2), some (.ref a3), some (.int a4), none, none] [] h (am_pI Q Qx) := am_vc 19 [(8, [true, true, false, false, false, false, false]), (16, [true, true, true, false, false, false, false]), (20, [true, true, true, true, false, false, false]), (23, [true, true, true, true, true, false, false]), (32, [true, true, true, true, true, false, false]), (132, [true, true, true, true, true, false, false]), (157, [true, true, true, true, true, false, false]), (196, [true, true, true, true, true, false, false]), (277, [true, true, true, true, true, false, false]), (314, [true, true, true, true, true, false, false]), (363, [true, true, true, true, true, false, false]), (444, [true, true, true, true, true, false, false]), (457, [true, true, true, true, true, false, false]), (470, [true, true, true, true, true, false, false]), (483, [true, true, true, true, true, false, false]), (520, [true, true, true, true, true, false, false]), (558, [true, true, true, true, true, false, false]), (607, [true, true, true, true, true, false, false]), (644, [true, true, true, true, true, false, false]), (673, [true, true, true, true, true, true, false]), (701, [true, true, true, true, true, true, true]), (712, [true, true, true, true, true, true, true]), (729, [true, true, true, true, true, false, false]), (732, [true, true, true, true, true, false, false]), (767, [true, true, true, true, true, true, false]), (801, [true, true, true, true, true, true, true]), (812, [true, true, true, true, true, true, true]), (829, [true, true, true, true, true, false, false]), (832, [true, true, true, true, true, false, false]), (901, [true, true, true, true, true, false, false]), (926, [true, true, true, true, true, false, false]), (951, [true, true, true, true, true, false, false]), (976, [true, true, true, true, true, false, false]), (989, [true, true, true, true, true, false, false])] q
set_option maxRecDepth 4096 in
theorem vc_205_951 (tt : Nat → Nat) (a0 : Nat) (a1 : Nat) (a2 : Nat) (a3 : Nat) (a4 : Int32) (h : am_H) (Q : Int32 → am_H → Prop) (Qx : String → am_H → Prop) (q :
  ((am_K h a0 = 21 ∨ am_K h a0 = 31) ∧ vp_in (a4 + (Int32.ofNat 1)) (am_N h a0) ∧
  (am_K h a1 = 10 ∧ ∃ (Q2 : Int32 → am_H → Prop) (X2 : String → am_H → Prop), am_Ct tt 124 [.ref a1, .int (am_A h a0 ((a4 + (Int32.ofNat 1))).toNatClampNeg)] h (am_pI Q2 X2) ∧ (∀ x3 h1, Q2 x3 h1 →
   ((am_K h1 a0 = 21 ∨ am_K h1 a0 = 31) ∧ vp_in (a4 + (Int32.ofNat 1)) (am_N h1 a0) ∧
   (am_K h1 a2 = 11 ∧ ∃ (Q5 : Int32 → am_H → Prop) (X5 : String → am_H → Prop), am_Ct tt 157 [.ref a2, .int (am_A h1 a0 ((a4 + (Int32.ofNat 1))).toNatClampNeg)] h1 (am_pI Q5 X5) ∧ (∀ x6 h4, Q5 x6 h4 →
    ((x3 = x6 →
     am_Ev tt 205 989 [some (.ref a0), some (.ref a1), some (.ref a2), some (.ref a3), some (.int a4), none, none] [] h4 (am_pI Q Qx)) ∧
    (¬ (x3 = x6) →
     (((Int32.ofNat 0) = (Int32.ofNat 0) ∨ (Int32.ofNat 0) = (Int32.ofNat 1)) ∧ Q (Int32.ofNat 0) h4)))) ∧ (∀ E7 h4, X5 E7 h4 → Qx E7 h4)))) ∧ (∀ E8 h1, X2 E8 h1 → Qx E8 h1)))) :
  am_Ev tt 205 951 [some (.ref a0), some (.ref a1), some (.ref a2), some (.ref a3), some (.int a4), none, none] [] h (am_pI Q Qx) := am_vc 19 [(8, [true, true, false, false, false, false, false]), (16, [true, true, true, false, false, false, false]), (20, [true, true, true, true, false, false, false]), (23, [true, true, true, true, true, false, false]), (32, [true, true, true, true, true, false, false]), (132, [true, true, true, true, true, false, false]), (157, [true, true, true, true, true, false, false]), (196, [true, true, true, true, true, false, false]), (277, [true, true, true, true, true, false, false]), (314, [true, true, true, true, true, false, false]), (363, [true, true, true, true, true, false, false]), (444, [true, true, true, true, true, false, false]), (457, [true, true, true, true, true, false, false]), (470, [true, true, true, true, true, false, false]), (483, [true, true, true, true, true, false, false]), (520, [true, true, true, true, true, false, false]), (558, [true, true, true, true, true, false, false]), (607, [true, true, true, true, true, false, false]), (644, [true, true, true, true, true, false, false]), (673, [true, true, true, true, true, true, false]), (701, [true, true, true, true, true, true, true]), (712, [true, true, true, true, true, true, true]), (729, [true, true, true, true, true, false, false]), (732, [true, true, true, true, true, false, false]), (767, [true, true, true, true, true, true, false]), (801, [true, true, true, true, true, true, true]), (812, [true, true, true, true, true, true, true]), (829, [true, true, true, true, true, false, false]), (832, [true, true, true, true, true, false, false]), (901, [true, true, true, true, true, false, false]), (926, [true, true, true, true, true, false, false]), (951, [true, true, true, true, true, false, false]), (976, [true, true, true, true, true, false, false]), (989, [true, true, true, true, true, false, false])] q
set_option maxRecDepth 4096 in
theorem vc_205_976 (tt : Nat → Nat) (a0 : Nat) (a1 : Nat) (a2 : Nat) (a3 : Nat) (a4 : Int32) (h : am_H) (Q : Int32 → am_H → Prop) (Qx : String → am_H → Prop) (q :
  (am_K h a1 = 10 ∧ ∃ (Q2 : Int32 → am_H → Prop) (X2 : String → am_H → Prop), am_Ct tt 125 [.ref a1] h (am_pI Q2 X2) ∧ (∀ x3 h1, Q2 x3 h1 →
   (am_K h1 a2 = 11 ∧ ∃ (Q5 : Int32 → am_H → Prop) (X5 : String → am_H → Prop), am_Ct tt 147 [.ref a2] h1 (am_pI Q5 X5) ∧ (∀ x6 h4, Q5 x6 h4 →
    ((x3 = x6 →
     am_Ev tt 205 989 [some (.ref a0), some (.ref a1), some (.ref a2), some (.ref a3), some (.int a4), none, none] [] h4 (am_pI Q Qx)) ∧
    (¬ (x3 = x6) →
     (((Int32.ofNat 0) = (Int32.ofNat 0) ∨ (Int32.ofNat 0) = (Int32.ofNat 1)) ∧ Q (Int32.ofNat 0) h4)))) ∧ (∀ E7 h4, X5 E7 h4 → Qx E7 h4))) ∧ (∀ E8 h1, X2 E8 h1 → Qx E8 h1))) :
  am_Ev tt 205 976 [some (.ref a0), some (.ref a1), some (.ref a2), some (.ref a3), some (.int a4), none, none] [] h (am_pI Q Qx) := am_vc 9 [(8, [true, true, false, false, false, false, false]), (16, [true, true, true, false, false, false, false]), (20, [true, true, true, true, false, false, false]), (23, [true, true, true, true, true, false, false]), (32, [true, true, true, true, true, false, false]), (132, [true, true, true, true, true, false, false]), (157, [true, true, true, true, true, false, false]), (196, [true, true, true, true, true, false, false]), (277, [true, true, true, true, true, false, false]), (314, [true, true, true, true, true, false, false]), (363, [true, true, true, true, true, false, false]), (444, [true, true, true, true, true, false, false]), (457, [true, true, true, true, true, false, false]), (470, [true, true, true, true, true, false, false]), (483, [true, true, true, true, true, false, false]), (520, [true, true, true, true, true, false, false]), (558, [true, true, true, true, true, false, false]), (607, [true, true, true, true, true, false, false]), (644, [true, true, true, true, true, false, false]), (673, [true, true, true, true, true, true, false]), (701, [true, true, true, true, true, true, true]), (712, [true, true, true, true, true, true, true]), (729, [true, true, true, true, true, false, false]), (732, [true, true, true, true, true, false, false]), (767, [true, true, true, true, true, true, false]), (801, [true, true, true, true, true, true, true]), (812, [true, true, true, true, true, true, true]), (829, [true, true, true, true, true, false, false]), (832, [true, true, true, true, true, false, false]), (901, [true, true, true, true, true, false, false]), (926, [true, true, true, true, true, false, false]), (951, [true, true, true, true, true, false, false]), (976, [true, true, true, true, true, false, false]), (989, [true, true, true, true, true, false, false])] q
set_option maxRecDepth 4096 in
theorem vc_205_989 (tt : Nat → Nat) (a0 : Nat) (a1 : Nat) (a2 : Nat) (a3 : Nat) (a4 : Int32) (h : am_H) (Q : Int32 → am_H → Prop) (Qx : String → am_H → Prop) (q :
  am_Ev tt 205 23 [some (.ref a0), some (.ref a1), some (.ref a2), some (.ref a3), some (.int (a4 + (Int32.ofNat 5))), none, none] [] h (am_pI Q Qx)) :
  am_Ev tt 205 989 [some (.ref a0), some (.ref a1), some (.ref a2), some (.ref a3), some (.int a4), none, none] [] h (am_pI Q Qx) := am_vc 5 [(8, [true, true, false, false, false, false, false]), (16, [true, true, true, false, false, false, false]), (20, [true, true, true, true, false, false, false]), (23, [true, true, true, true, true, false, false]), (32, [true, true, true, true, true, false, false]), (132, [true, true, true, true, true, false, false]), (157, [true, true, true, true, true, false, false]), (196, [true, true, true, true, true, false, false]), (277, [true, true, true, true, true, false, false]), (314, [true, true, true, true, true, false, false]), (363, [true, true, true, true, true, false, false]), (444, [true, true, true, true, true, false, false]), (457, [true, true, true, true, true, false, false]), (470, [true, true, true, true, true, false, false]), (483, [true, true, true, true, true, false, false]), (520, [true, true, true, true, true, false, false]), (558, [true, true, true, true, true, false, false]), (607, [true, true, true, true, true, false, false]), (644, [true, true, true, true, true, false, false]), (673, [true, true, true, true, true, true, false]), (701, [true, true, true, true, true, true, true]), (712, [true, true, true, true, true, true, true]), (729, [true, true, true, true, true, false, false]), (732, [true, true, true, true, true, false, false]), (767, [true, true, true, true, true, true, false]), (801, [true, true, true, true, true, true, true]), (812, [true, true, true, true, true, true, true]), (829, [true, true, true, true, true, false, false]), (832, [true, true, true, true, true, false, false]), (901, [true, true, true, true, true, false, false]), (926, [true, true, true, true, true, false, false]), (951, [true, true, true, true, true, false, false]), (976, [true, true, true, true, true, false, false]), (989, [true, true, true, true, true, false, false])] q

section LAX
variable {tt : Nat → Nat} {P : Nat → Prop} {h h' h'' : am_H} {cd ad a0 : Nat → Nat} {bb : Nat → Nat → Nat} {wa wt m x sc ou L U V i : Nat} {xs : Nat → Int32} {S S' : sS}
/-- the law's answer -/
def lwQ (r : Int32) (_ : am_H) : Prop := r = Int32.ofNat 1
theorem LCl.up {U' V' : Nat} (c : LCl tt x m a0 sc ou h S U V) (hU : U ≤ U') (hV : V ≤ V') : LCl tt x m a0 sc ou h S U' V' := by
  obtain ⟨cd, bb, wa, wt, e0, rc, u, v⟩ := c
  exact ⟨cd, bb, wa, wt, e0, rc, by omega, by omega⟩
theorem ck_C (e0 : cd 0 = x) (ok : okC tt (PCf m a0 sc ou) h cd bb wa wt S' h') (u : am_U h ≤ U) (v : am_V h ≤ V + 2 * pt h bb) : LCl tt x m a0 sc ou h' S' U V ∧ fr (PCf m a0 sc ou) h h' := by
  obtain ⟨rc, f, hu, hv, hn⟩ := ok
  exact ⟨⟨cd, bb, wa, wt, e0, rc, by rw [hu]; exact u, by rw [hv, pt_same hn]; exact v⟩, f⟩
theorem ck_R (e0 : cd 0 = x) (ok : okR tt (PCf m a0 sc ou) h cd bb wa wt S' h') (u : am_U h ≤ U) (v : am_V h ≤ V + 2 * pt h bb) : LCl tt x m a0 sc ou h' S' (U + 1) V ∧ fr (PCf m a0 sc ou) h h' := by
  obtain ⟨bb', rc, f, hu, hv⟩ := ok
  exact ⟨⟨cd, bb', wa, wt, e0, rc, by omega, by omega⟩, f⟩
theorem ck_Q (e0 : cd 0 = x) (ok : okQ tt (PCf m a0 sc ou) h cd bb wt S' h') (u : am_U h ≤ U) (v : am_V h ≤ V + 2 * pt h bb) : LCl tt x m a0 sc ou h' S' (U + 25) (V + 6) ∧ fr (PCf m a0 sc ou) h h' := by
  obtain ⟨bb', wa', rc, f, hu, hv⟩ := ok
  exact ⟨⟨cd, bb', wa', wt, e0, rc, by omega, by omega⟩, f⟩
theorem lw_132 (c : LCl tt x m a0 sc ou h S U V) (q : LMo m a0 h S) (e : LEn sc ou L xs a0 h) (hi : i + 5 ≤ L) (hL : L ≤ 2560) (hU : U + 26 ≤ am_LC) (hV : V + 800000 ≤ am_LS) (nx : ∀ h' S', LCl tt x m a0 sc ou h' S' (U + 26) (V + 6) → LMo m a0 h' S' → LEn sc ou L xs a0 h' → am_Ev tt 205 989 [some (.ref sc), some (.ref x), some (.ref m), some (.ref ou), some (.int (Int32.ofNat i)), none, none] [] h' (am_pI lwQ no_x)) : am_Ev tt 205 132 [some (.ref sc), some (.ref x), some (.ref m), some (.ref ou), some (.int (Int32.ofNat i)), none, none] [] h (am_pI lwQ no_x) := by
  obtain ⟨cd, bb, wa, wt, e0, rc, u, v⟩ := c
  have wf := rc.wf
  have pl := pt1_le rc.1 (Nat.le_refl 24)
  have pe : pt h bb = pt1 h bb 24 := rfl
  have hx : am_K h x = 10 := by rw [← e0]; exact rc.1.2.2.2.1.1
  have s1 := e.1
  have s2 := e.2.1
  have i1 : i + 1 < L := by omega
  have r1 := e.2.2.1 (i + 1) i1
  refine vc_205_132 tt _ _ _ _ _ _ _ _ ?_
  simp (disch := omega) only [s1, s2, hx, r1, i1, ch_m, qi_lt, qi_le, qi_eq, qi_nn, qi_in, qi_add, qi_l, ql_i, ql_lt, ql_le, ql_eq, ql_add, qc_lt, qc_eq, qc_ge, qc_gt, qc_le, true_and, and_true, and_self, true_or, or_true, false_or, or_false, false_and, and_false, not_true_eq_false, not_false_eq_true, Classical.not_not, true_implies, false_implies, implies_true, exists_eq_left, exists_eq_left', Option.some.injEq, reduceIte, Nat.reduceEqDiff, Nat.reduceLT, Nat.reduceLeDiff, Nat.reduceAdd, Nat.reduceSub, Nat.reduceMul, eq_self, ne_eq, and_imp, forall_const, reduceCtorEq, am_w, List.map_cons, List.map_nil, List.sum_cons, List.sum_nil, Value.category, Nat.zero_le, Nat.le_refl]
  refine ⟨_, _, by rw [← e0]; exact ct_entry rc, fun z1 h1 w1 => ?_, fun _ _ z => z⟩
  obtain ⟨rfl, ok⟩ := w1
  obtain ⟨c1, f1⟩ := ck_C e0 ok u v
  have q1 := q.fr wf f1
  have e1 := e.cl f1
  have t1 := e1.1
  have t2 := e1.2.1
  have y1 := e1.2.2.1 (i + 1) i1
  obtain ⟨ad, P, rm, nxt⟩ := lm_call c1 q1 wf e1
  have km := rm.1.1
  simp (disch := omega) only [t1, t2, km, y1, i1, ch_m, qi_lt, qi_le, qi_eq, qi_nn, qi_in, qi_add, qi_l, ql_i, ql_lt, ql_le, ql_eq, ql_add, qc_lt, qc_eq, qc_ge, qc_gt, qc_le, true_and, and_true, and_self, true_or, or_true, false_or, or_false, false_and, and_false, not_true_eq_false, not_false_eq_true, Classical.not_not, true_implies, false_implies, implies_true, exists_eq_left, exists_eq_left', Option.some.injEq, reduceIte, Nat.reduceEqDiff, Nat.reduceLT, Nat.reduceLeDiff, Nat.reduceAdd, Nat.reduceSub, Nat.reduceMul, eq_self, ne_eq, and_imp, forall_const, reduceCtorEq, am_w, List.map_cons, List.map_nil, List.sum_cons, List.sum_nil, Value.category, Nat.zero_le, Nat.le_refl]
  refine ⟨_, _, ct_mentry rm wf, fun z2 h2 w2 => ?_, fun _ _ z => z⟩
  obtain ⟨rfl, ok2⟩ := w2
  obtain ⟨c2, q2, e2⟩ := nxt _ _ ok2
  exact ⟨fun _ => nx h2 _ (c2.up (by omega) (by omega)) q2 e2, fun z => absurd rfl z⟩
theorem lw_157 (c : LCl tt x m a0 sc ou h S U V) (q : LMo m a0 h S) (e : LEn sc ou L xs a0 h) (hi : i + 5 ≤ L) (hL : L ≤ 2560) (hU : U + 26 ≤ am_LC) (hV : V + 800000 ≤ am_LS) (nx : ∀ h' S', LCl tt x m a0 sc ou h' S' (U + 26) (V + 6) → LMo m a0 h' S' → LEn sc ou L xs a0 h' → am_Ev tt 205 989 [some (.ref sc), some (.ref x), some (.ref m), some (.ref ou), some (.int (Int32.ofNat i)), none, none] [] h' (am_pI lwQ no_x)) : am_Ev tt 205 157 [some (.ref sc), some (.ref x), some (.ref m), some (.ref ou), some (.int (Int32.ofNat i)), none, none] [] h (am_pI lwQ no_x) := by
  obtain ⟨cd, bb, wa, wt, e0, rc, u, v⟩ := c
  have wf := rc.wf
  have pl := pt1_le rc.1 (Nat.le_refl 24)
  have pe : pt h bb = pt1 h bb 24 := rfl
  have hx : am_K h x = 10 := by rw [← e0]; exact rc.1.2.2.2.1.1
  have s1 := e.1
  have s2 := e.2.1
  have i1 : i + 1 < L := by omega
  have r1 := e.2.2.1 (i + 1) i1
  have i2 : i + 2 < L := by omega
  have r2 := e.2.2.1 (i + 2) i2
  refine vc_205_157 tt _ _ _ _ _ _ _ _ ?_
  simp (disch := omega) only [s1, s2, hx, r1, r2, i1, i2, ch_m, qi_lt, qi_le, qi_eq, qi_nn, qi_in, qi_add, qi_l, ql_i, ql_lt, ql_le, ql_eq, ql_add, qc_lt, qc_eq, qc_ge, qc_gt, qc_le, true_and, and_true, and_self, true_or, or_true, false_or, or_false, false_and, and_false, not_true_eq_false, not_false_eq_true, Classical.not_not, true_implies, false_implies, implies_true, exists_eq_left, exists_eq_left', Option.some.injEq, reduceIte, Nat.reduceEqDiff, Nat.reduceLT, Nat.reduceLeDiff, Nat.reduceAdd, Nat.reduceSub, Nat.reduceMul, eq_self, ne_eq, and_imp, forall_const, reduceCtorEq, am_w, List.map_cons, List.map_nil, List.sum_cons, List.sum_nil, Value.category, Nat.zero_le, Nat.le_refl]
  refine ⟨_, _, by rw [← e0]; exact ct_name rc (ch_ch _), fun z1 h1 w1 => ?_, fun _ _ z => z⟩
  obtain ⟨rfl, ok⟩ := w1
  obtain ⟨c1, f1⟩ := ck_C e0 ok u v
  have q1 := q.fr wf f1
  have e1 := e.cl f1
  have t1 := e1.1
  have t2 := e1.2.1
  have y1 := e1.2.2.1 (i + 1) i1
  have y2 := e1.2.2.1 (i + 2) i2
  obtain ⟨ad, P, rm, nxt⟩ := lm_call c1 q1 wf e1
  have km := rm.1.1
  simp (disch := omega) only [t1, t2, km, y1, y2, i1, i2, ch_m, qi_lt, qi_le, qi_eq, qi_nn, qi_in, qi_add, qi_l, ql_i, ql_lt, ql_le, ql_eq, ql_add, qc_lt, qc_eq, qc_ge, qc_gt, qc_le, true_and, and_true, and_self, true_or, or_true, false_or, or_false, false_and, and_false, not_true_eq_false, not_false_eq_true, Classical.not_not, true_implies, false_implies, implies_true, exists_eq_left, exists_eq_left', Option.some.injEq, reduceIte, Nat.reduceEqDiff, Nat.reduceLT, Nat.reduceLeDiff, Nat.reduceAdd, Nat.reduceSub, Nat.reduceMul, eq_self, ne_eq, and_imp, forall_const, reduceCtorEq, am_w, List.map_cons, List.map_nil, List.sum_cons, List.sum_nil, Value.category, Nat.zero_le, Nat.le_refl]
  refine ⟨_, _, ct_mname rm wf, fun z2 h2 w2 => ?_, fun _ _ z => z⟩
  obtain ⟨rfl, ok2⟩ := w2
  obtain ⟨c2, q2, e2⟩ := nxt _ _ ok2
  exact ⟨fun _ => nx h2 _ (c2.up (by omega) (by omega)) q2 e2, fun z => absurd rfl z⟩
theorem lw_196 (c : LCl tt x m a0 sc ou h S U V) (q : LMo m a0 h S) (e : LEn sc ou L xs a0 h) (hi : i + 5 ≤ L) (hL : L ≤ 2560) (hU : U + 26 ≤ am_LC) (hV : V + 800000 ≤ am_LS) (nx : ∀ h' S', LCl tt x m a0 sc ou h' S' (U + 26) (V + 6) → LMo m a0 h' S' → LEn sc ou L xs a0 h' → am_Ev tt 205 989 [some (.ref sc), some (.ref x), some (.ref m), some (.ref ou), some (.int (Int32.ofNat i)), none, none] [] h' (am_pI lwQ no_x)) : am_Ev tt 205 196 [some (.ref sc), some (.ref x), some (.ref m), some (.ref ou), some (.int (Int32.ofNat i)), none, none] [] h (am_pI lwQ no_x) := by
  obtain ⟨cd, bb, wa, wt, e0, rc, u, v⟩ := c
  have wf := rc.wf
  have pl := pt1_le rc.1 (Nat.le_refl 24)
  have pe : pt h bb = pt1 h bb 24 := rfl
  have hx : am_K h x = 10 := by rw [← e0]; exact rc.1.2.2.2.1.1
  have s1 := e.1
  have s2 := e.2.1
  have i1 : i + 1 < L := by omega
  have r1 := e.2.2.1 (i + 1) i1
  have i2 : i + 2 < L := by omega
  have r2 := e.2.2.1 (i + 2) i2
  have i3 : i + 3 < L := by omega
  have r3 := e.2.2.1 (i + 3) i3
  have i4 : i + 4 < L := by omega
  have r4 := e.2.2.1 (i + 4) i4
  refine vc_205_196 tt _ _ _ _ _ _ _ _ ?_
  simp (disch := omega) only [s1, s2, hx, r1, r2, r3, r4, i1, i2, i3, i4, ch_m, qi_lt, qi_le, qi_eq, qi_nn, qi_in, qi_add, qi_l, ql_i, ql_lt, ql_le, ql_eq, ql_add, qc_lt, qc_eq, qc_ge, qc_gt, qc_le, true_and, and_true, and_self, true_or, or_true, false_or, or_false, false_and, and_false, not_true_eq_false, not_false_eq_true, Classical.not_not, true_implies, false_implies, implies_true, exists_eq_left, exists_eq_left', Option.some.injEq, reduceIte, Nat.reduceEqDiff, Nat.reduceLT, Nat.reduceLeDiff, Nat.reduceAdd, Nat.reduceSub, Nat.reduceMul, eq_self, ne_eq, and_imp, forall_const, reduceCtorEq, am_w, List.map_cons, List.map_nil, List.sum_cons, List.sum_nil, Value.category, Nat.zero_le, Nat.le_refl]
  refine ⟨_, _, by rw [← e0]; exact ct_put rc (by omega) (by omega), fun z1 h1 w1 => ?_, fun _ _ z => z⟩
  obtain ⟨rfl, ok⟩ := w1
  obtain ⟨c1, f1⟩ := ck_R e0 ok u v
  have q1 := q.fr wf f1
  have e1 := e.cl f1
  have t1 := e1.1
  have t2 := e1.2.1
  have y1 := e1.2.2.1 (i + 1) i1
  have y2 := e1.2.2.1 (i + 2) i2
  have y3 := e1.2.2.1 (i + 3) i3
  have y4 := e1.2.2.1 (i + 4) i4
  obtain ⟨ad, P, rm, nxt⟩ := lm_call c1 q1 wf e1
  have km := rm.1.1
  simp (disch := omega) only [t1, t2, km, y1, y2, y3, y4, i1, i2, i3, i4, ch_m, qi_lt, qi_le, qi_eq, qi_nn, qi_in, qi_add, qi_l, ql_i, ql_lt, ql_le, ql_eq, ql_add, qc_lt, qc_eq, qc_ge, qc_gt, qc_le, true_and, and_true, and_self, true_or, or_true, false_or, or_false, false_and, and_false, not_true_eq_false, not_false_eq_true, Classical.not_not, true_implies, false_implies, implies_true, exists_eq_left, exists_eq_left', Option.some.injEq, reduceIte, Nat.reduceEqDiff, Nat.reduceLT, Nat.reduceLeDiff, Nat.reduceAdd, Nat.reduceSub, Nat.reduceMul, eq_self, ne_eq, and_imp, forall_const, reduceCtorEq, am_w, List.map_cons, List.map_nil, List.sum_cons, List.sum_nil, Value.category, Nat.zero_le, Nat.le_refl]
  refine ⟨_, _, ct_mput rm wf, fun z2 h2 w2 => ?_, fun _ _ z => z⟩
  obtain ⟨rfl, ok2⟩ := w2
  obtain ⟨c2, q2, e2⟩ := nxt _ _ ok2
  exact ⟨fun _ => nx h2 _ (c2.up (by omega) (by omega)) q2 e2, fun z => absurd rfl z⟩
theorem lw_277 (c : LCl tt x m a0 sc ou h S U V) (q : LMo m a0 h S) (e : LEn sc ou L xs a0 h) (hi : i + 5 ≤ L) (hL : L ≤ 2560) (hU : U + 26 ≤ am_LC) (hV : V + 800000 ≤ am_LS) (nx : ∀ h' S', LCl tt x m a0 sc ou h' S' (U + 26) (V + 6) → LMo m a0 h' S' → LEn sc ou L xs a0 h' → am_Ev tt 205 989 [some (.ref sc), some (.ref x), some (.ref m), some (.ref ou), some (.int (Int32.ofNat i)), none, none] [] h' (am_pI lwQ no_x)) : am_Ev tt 205 277 [some (.ref sc), some (.ref x), some (.ref m), some (.ref ou), some (.int (Int32.ofNat i)), none, none] [] h (am_pI lwQ no_x) := by
  obtain ⟨cd, bb, wa, wt, e0, rc, u, v⟩ := c
  have wf := rc.wf
  have pl := pt1_le rc.1 (Nat.le_refl 24)
  have pe : pt h bb = pt1 h bb 24 := rfl
  have hx : am_K h x = 10 := by rw [← e0]; exact rc.1.2.2.2.1.1
  have s1 := e.1
  have s2 := e.2.1
  have i1 : i + 1 < L := by omega
  have r1 := e.2.2.1 (i + 1) i1
  have i2 : i + 2 < L := by omega
  have r2 := e.2.2.1 (i + 2) i2
  refine vc_205_277 tt _ _ _ _ _ _ _ _ ?_
  simp (disch := omega) only [s1, s2, hx, r1, r2, i1, i2, ch_m, qi_lt, qi_le, qi_eq, qi_nn, qi_in, qi_add, qi_l, ql_i, ql_lt, ql_le, ql_eq, ql_add, qc_lt, qc_eq, qc_ge, qc_gt, qc_le, true_and, and_true, and_self, true_or, or_true, false_or, or_false, false_and, and_false, not_true_eq_false, not_false_eq_true, Classical.not_not, true_implies, false_implies, implies_true, exists_eq_left, exists_eq_left', Option.some.injEq, reduceIte, Nat.reduceEqDiff, Nat.reduceLT, Nat.reduceLeDiff, Nat.reduceAdd, Nat.reduceSub, Nat.reduceMul, eq_self, ne_eq, and_imp, forall_const, reduceCtorEq, am_w, List.map_cons, List.map_nil, List.sum_cons, List.sum_nil, Value.category, Nat.zero_le, Nat.le_refl]
  refine ⟨_, _, by rw [← e0]; exact ct_block rc, fun z1 h1 w1 => ?_, fun _ _ z => z⟩
  obtain ⟨rfl, ok⟩ := w1
  obtain ⟨c1, f1⟩ := ck_C e0 ok u v
  have q1 := q.fr wf f1
  have e1 := e.cl f1
  have t1 := e1.1
  have t2 := e1.2.1
  have y1 := e1.2.2.1 (i + 1) i1
  have y2 := e1.2.2.1 (i + 2) i2
  obtain ⟨ad, P, rm, nxt⟩ := lm_call c1 q1 wf e1
  have km := rm.1.1
  simp (disch := omega) only [t1, t2, km, y1, y2, i1, i2, ch_m, qi_lt, qi_le, qi_eq, qi_nn, qi_in, qi_add, qi_l, ql_i, ql_lt, ql_le, ql_eq, ql_add, qc_lt, qc_eq, qc_ge, qc_gt, qc_le, true_and, and_true, and_self, true_or, or_true, false_or, or_false, false_and, and_false, not_true_eq_false, not_false_eq_true, Classical.not_not, true_implies, false_implies, implies_true, exists_eq_left, exists_eq_left', Option.some.injEq, reduceIte, Nat.reduceEqDiff, Nat.reduceLT, Nat.reduceLeDiff, Nat.reduceAdd, Nat.reduceSub, Nat.reduceMul, eq_self, ne_eq, and_imp, forall_const, reduceCtorEq, am_w, List.map_cons, List.map_nil, List.sum_cons, List.sum_nil, Value.category, Nat.zero_le, Nat.le_refl]
  refine ⟨_, _, ct_mblock rm wf, fun z2 h2 w2 => ?_, fun _ _ z => z⟩
  obtain ⟨rfl, ok2⟩ := w2
  obtain ⟨c2, q2, e2⟩ := nxt _ _ ok2
  exact ⟨fun _ => nx h2 _ (c2.up (by omega) (by omega)) q2 e2, fun z => absurd rfl z⟩
theorem lw_314 (c : LCl tt x m a0 sc ou h S U V) (q : LMo m a0 h S) (e : LEn sc ou L xs a0 h) (hi : i + 5 ≤ L) (hL : L ≤ 2560) (hU : U + 26 ≤ am_LC) (hV : V + 800000 ≤ am_LS) (nx : ∀ h' S', LCl tt x m a0 sc ou h' S' (U + 26) (V + 6) → LMo m a0 h' S' → LEn sc ou L xs a0 h' → am_Ev tt 205 989 [some (.ref sc), some (.ref x), some (.ref m), some (.ref ou), some (.int (Int32.ofNat i)), none, none] [] h' (am_pI lwQ no_x)) : am_Ev tt 205 314 [some (.ref sc), some (.ref x), some (.ref m), some (.ref ou), some (.int (Int32.ofNat i)), none, none] [] h (am_pI lwQ no_x) := by
  obtain ⟨cd, bb, wa, wt, e0, rc, u, v⟩ := c
  have wf := rc.wf
  have pl := pt1_le rc.1 (Nat.le_refl 24)
  have pe : pt h bb = pt1 h bb 24 := rfl
  have hx : am_K h x = 10 := by rw [← e0]; exact rc.1.2.2.2.1.1
  have s1 := e.1
  have s2 := e.2.1
  have i1 : i + 1 < L := by omega
  have r1 := e.2.2.1 (i + 1) i1
  have i2 : i + 2 < L := by omega
  have r2 := e.2.2.1 (i + 2) i2
  have i3 : i + 3 < L := by omega
  have r3 := e.2.2.1 (i + 3) i3
  refine vc_205_314 tt _ _ _ _ _ _ _ _ ?_
  simp (disch := omega) only [s1, s2, hx, r1, r2, r3, i1, i2, i3, ch_m, qi_lt, qi_le, qi_eq, qi_nn, qi_in, qi_add, qi_l, ql_i, ql_lt, ql_le, ql_eq, ql_add, qc_lt, qc_eq, qc_ge, qc_gt, qc_le, true_and, and_true, and_self, true_or, or_true, false_or, or_false, false_and, and_false, not_true_eq_false, not_false_eq_true, Classical.not_not, true_implies, false_implies, implies_true, exists_eq_left, exists_eq_left', Option.some.injEq, reduceIte, Nat.reduceEqDiff, Nat.reduceLT, Nat.reduceLeDiff, Nat.reduceAdd, Nat.reduceSub, Nat.reduceMul, eq_self, ne_eq, and_imp, forall_const, reduceCtorEq, am_w, List.map_cons, List.map_nil, List.sum_cons, List.sum_nil, Value.category, Nat.zero_le, Nat.le_refl]
  refine ⟨_, _, by rw [← e0]; exact ct_coder rc, fun z1 h1 w1 => ?_, fun _ _ z => z⟩
  obtain ⟨rfl, ok⟩ := w1
  obtain ⟨c1, f1⟩ := ck_C e0 ok u v
  have q1 := q.fr wf f1
  have e1 := e.cl f1
  have t1 := e1.1
  have t2 := e1.2.1
  have y1 := e1.2.2.1 (i + 1) i1
  have y2 := e1.2.2.1 (i + 2) i2
  have y3 := e1.2.2.1 (i + 3) i3
  obtain ⟨ad, P, rm, nxt⟩ := lm_call c1 q1 wf e1
  have km := rm.1.1
  simp (disch := omega) only [t1, t2, km, y1, y2, y3, i1, i2, i3, ch_m, qi_lt, qi_le, qi_eq, qi_nn, qi_in, qi_add, qi_l, ql_i, ql_lt, ql_le, ql_eq, ql_add, qc_lt, qc_eq, qc_ge, qc_gt, qc_le, true_and, and_true, and_self, true_or, or_true, false_or, or_false, false_and, and_false, not_true_eq_false, not_false_eq_true, Classical.not_not, true_implies, false_implies, implies_true, exists_eq_left, exists_eq_left', Option.some.injEq, reduceIte, Nat.reduceEqDiff, Nat.reduceLT, Nat.reduceLeDiff, Nat.reduceAdd, Nat.reduceSub, Nat.reduceMul, eq_self, ne_eq, and_imp, forall_const, reduceCtorEq, am_w, List.map_cons, List.map_nil, List.sum_cons, List.sum_nil, Value.category, Nat.zero_le, Nat.le_refl]
  refine ⟨_, _, ct_mcoder rm wf, fun z2 h2 w2 => ?_, fun _ _ z => z⟩
  obtain ⟨rfl, ok2⟩ := w2
  obtain ⟨c2, q2, e2⟩ := nxt _ _ ok2
  exact ⟨fun _ => nx h2 _ (c2.up (by omega) (by omega)) q2 e2, fun z => absurd rfl z⟩
theorem lw_363 (c : LCl tt x m a0 sc ou h S U V) (q : LMo m a0 h S) (e : LEn sc ou L xs a0 h) (hi : i + 5 ≤ L) (hL : L ≤ 2560) (hU : U + 26 ≤ am_LC) (hV : V + 800000 ≤ am_LS) (nx : ∀ h' S', LCl tt x m a0 sc ou h' S' (U + 26) (V + 6) → LMo m a0 h' S' → LEn sc ou L xs a0 h' → am_Ev tt 205 989 [some (.ref sc), some (.ref x), some (.ref m), some (.ref ou), some (.int (Int32.ofNat i)), none, none] [] h' (am_pI lwQ no_x)) : am_Ev tt 205 363 [some (.ref sc), some (.ref x), some (.ref m), some (.ref ou), some (.int (Int32.ofNat i)), none, none] [] h (am_pI lwQ no_x) := by
  obtain ⟨cd, bb, wa, wt, e0, rc, u, v⟩ := c
  have wf := rc.wf
  have pl := pt1_le rc.1 (Nat.le_refl 24)
  have pe : pt h bb = pt1 h bb 24 := rfl
  have hx : am_K h x = 10 := by rw [← e0]; exact rc.1.2.2.2.1.1
  have s1 := e.1
  have s2 := e.2.1
  have i1 : i + 1 < L := by omega
  have r1 := e.2.2.1 (i + 1) i1
  have i2 : i + 2 < L := by omega
  have r2 := e.2.2.1 (i + 2) i2
  have i3 : i + 3 < L := by omega
  have r3 := e.2.2.1 (i + 3) i3
  have i4 : i + 4 < L := by omega
  have r4 := e.2.2.1 (i + 4) i4
  refine vc_205_363 tt _ _ _ _ _ _ _ _ ?_
  simp (disch := omega) only [s1, s2, hx, r1, r2, r3, r4, i1, i2, i3, i4, ch_m, qi_lt, qi_le, qi_eq, qi_nn, qi_in, qi_add, qi_l, ql_i, ql_lt, ql_le, ql_eq, ql_add, qc_lt, qc_eq, qc_ge, qc_gt, qc_le, true_and, and_true, and_self, true_or, or_true, false_or, or_false, false_and, and_false, not_true_eq_false, not_false_eq_true, Classical.not_not, true_implies, false_implies, implies_true, exists_eq_left, exists_eq_left', Option.some.injEq, reduceIte, Nat.reduceEqDiff, Nat.reduceLT, Nat.reduceLeDiff, Nat.reduceAdd, Nat.reduceSub, Nat.reduceMul, eq_self, ne_eq, and_imp, forall_const, reduceCtorEq, am_w, List.map_cons, List.map_nil, List.sum_cons, List.sum_nil, Value.category, Nat.zero_le, Nat.le_refl]
  refine ⟨_, _, by rw [← e0]; exact ct_set rc, fun z1 h1 w1 => ?_, fun _ _ z => z⟩
  obtain ⟨rfl, ok⟩ := w1
  obtain ⟨c1, f1⟩ := ck_C e0 ok u v
  have q1 := q.fr wf f1
  have e1 := e.cl f1
  have t1 := e1.1
  have t2 := e1.2.1
  have y1 := e1.2.2.1 (i + 1) i1
  have y2 := e1.2.2.1 (i + 2) i2
  have y3 := e1.2.2.1 (i + 3) i3
  have y4 := e1.2.2.1 (i + 4) i4
  obtain ⟨ad, P, rm, nxt⟩ := lm_call c1 q1 wf e1
  have km := rm.1.1
  simp (disch := omega) only [t1, t2, km, y1, y2, y3, y4, i1, i2, i3, i4, ch_m, qi_lt, qi_le, qi_eq, qi_nn, qi_in, qi_add, qi_l, ql_i, ql_lt, ql_le, ql_eq, ql_add, qc_lt, qc_eq, qc_ge, qc_gt, qc_le, true_and, and_true, and_self, true_or, or_true, false_or, or_false, false_and, and_false, not_true_eq_false, not_false_eq_true, Classical.not_not, true_implies, false_implies, implies_true, exists_eq_left, exists_eq_left', Option.some.injEq, reduceIte, Nat.reduceEqDiff, Nat.reduceLT, Nat.reduceLeDiff, Nat.reduceAdd, Nat.reduceSub, Nat.reduceMul, eq_self, ne_eq, and_imp, forall_const, reduceCtorEq, am_w, List.map_cons, List.map_nil, List.sum_cons, List.sum_nil, Value.category, Nat.zero_le, Nat.le_refl]
  refine ⟨_, _, ct_mset rm wf, fun z2 h2 w2 => ?_, fun _ _ z => z⟩
  obtain ⟨rfl, ok2⟩ := w2
  obtain ⟨c2, q2, e2⟩ := nxt _ _ ok2
  exact ⟨fun _ => nx h2 _ (c2.up (by omega) (by omega)) q2 e2, fun z => absurd rfl z⟩
theorem lw_444 (c : LCl tt x m a0 sc ou h S U V) (q : LMo m a0 h S) (e : LEn sc ou L xs a0 h) (hi : i + 5 ≤ L) (hL : L ≤ 2560) (hU : U + 26 ≤ am_LC) (hV : V + 800000 ≤ am_LS) (nx : ∀ h' S', LCl tt x m a0 sc ou h' S' (U + 26) (V + 6) → LMo m a0 h' S' → LEn sc ou L xs a0 h' → am_Ev tt 205 989 [some (.ref sc), some (.ref x), some (.ref m), some (.ref ou), some (.int (Int32.ofNat i)), none, none] [] h' (am_pI lwQ no_x)) : am_Ev tt 205 444 [some (.ref sc), some (.ref x), some (.ref m), some (.ref ou), some (.int (Int32.ofNat i)), none, none] [] h (am_pI lwQ no_x) := by
  obtain ⟨cd, bb, wa, wt, e0, rc, u, v⟩ := c
  have wf := rc.wf
  have pl := pt1_le rc.1 (Nat.le_refl 24)
  have pe : pt h bb = pt1 h bb 24 := rfl
  have hx : am_K h x = 10 := by rw [← e0]; exact rc.1.2.2.2.1.1
  have s1 := e.1
  have s2 := e.2.1
  refine vc_205_444 tt _ _ _ _ _ _ _ _ ?_
  simp (disch := omega) only [s1, s2, hx, ch_m, qi_lt, qi_le, qi_eq, qi_nn, qi_in, qi_add, qi_l, ql_i, ql_lt, ql_le, ql_eq, ql_add, qc_lt, qc_eq, qc_ge, qc_gt, qc_le, true_and, and_true, and_self, true_or, or_true, false_or, or_false, false_and, and_false, not_true_eq_false, not_false_eq_true, Classical.not_not, true_implies, false_implies, implies_true, exists_eq_left, exists_eq_left', Option.some.injEq, reduceIte, Nat.reduceEqDiff, Nat.reduceLT, Nat.reduceLeDiff, Nat.reduceAdd, Nat.reduceSub, Nat.reduceMul, eq_self, ne_eq, and_imp, forall_const, reduceCtorEq, am_w, List.map_cons, List.map_nil, List.sum_cons, List.sum_nil, Value.category, Nat.zero_le, Nat.le_refl]
  refine ⟨_, _, by rw [← e0]; exact ct_write rc, fun z1 h1 w1 => ?_, fun _ _ z => z⟩
  obtain ⟨rfl, wt2, ok⟩ := w1
  obtain ⟨c1, f1⟩ := ck_C e0 ok u v
  have q1 := q.fr wf f1
  have e1 := e.cl f1
  have t1 := e1.1
  have t2 := e1.2.1
  obtain ⟨ad, P, rm, nxt⟩ := lm_call c1 q1 wf e1
  have km := rm.1.1
  simp (disch := omega) only [t1, t2, km, ch_m, qi_lt, qi_le, qi_eq, qi_nn, qi_in, qi_add, qi_l, ql_i, ql_lt, ql_le, ql_eq, ql_add, qc_lt, qc_eq, qc_ge, qc_gt, qc_le, true_and, and_true, and_self, true_or, or_true, false_or, or_false, false_and, and_false, not_true_eq_false, not_false_eq_true, Classical.not_not, true_implies, false_implies, implies_true, exists_eq_left, exists_eq_left', Option.some.injEq, reduceIte, Nat.reduceEqDiff, Nat.reduceLT, Nat.reduceLeDiff, Nat.reduceAdd, Nat.reduceSub, Nat.reduceMul, eq_self, ne_eq, and_imp, forall_const, reduceCtorEq, am_w, List.map_cons, List.map_nil, List.sum_cons, List.sum_nil, Value.category, Nat.zero_le, Nat.le_refl]
  refine ⟨_, _, ct_mwrite rm wf, fun z2 h2 w2 => ?_, fun _ _ z => z⟩
  obtain ⟨rfl, ok2⟩ := w2
  obtain ⟨c2, q2, e2⟩ := nxt _ _ ok2
  exact ⟨fun _ => nx h2 _ (c2.up (by omega) (by omega)) q2 e2, fun z => absurd rfl z⟩
theorem lw_470 (c : LCl tt x m a0 sc ou h S U V) (q : LMo m a0 h S) (e : LEn sc ou L xs a0 h) (hi : i + 5 ≤ L) (hL : L ≤ 2560) (hU : U + 26 ≤ am_LC) (hV : V + 800000 ≤ am_LS) (nx : ∀ h' S', LCl tt x m a0 sc ou h' S' (U + 26) (V + 6) → LMo m a0 h' S' → LEn sc ou L xs a0 h' → am_Ev tt 205 989 [some (.ref sc), some (.ref x), some (.ref m), some (.ref ou), some (.int (Int32.ofNat i)), none, none] [] h' (am_pI lwQ no_x)) : am_Ev tt 205 470 [some (.ref sc), some (.ref x), some (.ref m), some (.ref ou), some (.int (Int32.ofNat i)), none, none] [] h (am_pI lwQ no_x) := by
  obtain ⟨cd, bb, wa, wt, e0, rc, u, v⟩ := c
  have wf := rc.wf
  have pl := pt1_le rc.1 (Nat.le_refl 24)
  have pe : pt h bb = pt1 h bb 24 := rfl
  have hx : am_K h x = 10 := by rw [← e0]; exact rc.1.2.2.2.1.1
  have s1 := e.1
  have s2 := e.2.1
  refine vc_205_470 tt _ _ _ _ _ _ _ _ ?_
  simp (disch := omega) only [s1, s2, hx, ch_m, qi_lt, qi_le, qi_eq, qi_nn, qi_in, qi_add, qi_l, ql_i, ql_lt, ql_le, ql_eq, ql_add, qc_lt, qc_eq, qc_ge, qc_gt, qc_le, true_and, and_true, and_self, true_or, or_true, false_or, or_false, false_and, and_false, not_true_eq_false, not_false_eq_true, Classical.not_not, true_implies, false_implies, implies_true, exists_eq_left, exists_eq_left', Option.some.injEq, reduceIte, Nat.reduceEqDiff, Nat.reduceLT, Nat.reduceLeDiff, Nat.reduceAdd, Nat.reduceSub, Nat.reduceMul, eq_self, ne_eq, and_imp, forall_const, reduceCtorEq, am_w, List.map_cons, List.map_nil, List.sum_cons, List.sum_nil, Value.category, Nat.zero_le, Nat.le_refl]
  refine ⟨_, _, by rw [← e0]; exact ct_fault rc, fun z1 h1 w1 => ?_, fun _ _ z => z⟩
  obtain ⟨rfl, ok⟩ := w1
  obtain ⟨c1, f1⟩ := ck_C e0 ok u v
  have q1 := q.fr wf f1
  have e1 := e.cl f1
  have t1 := e1.1
  have t2 := e1.2.1
  obtain ⟨ad, P, rm, nxt⟩ := lm_call c1 q1 wf e1
  have km := rm.1.1
  simp (disch := omega) only [t1, t2, km, ch_m, qi_lt, qi_le, qi_eq, qi_nn, qi_in, qi_add, qi_l, ql_i, ql_lt, ql_le, ql_eq, ql_add, qc_lt, qc_eq, qc_ge, qc_gt, qc_le, true_and, and_true, and_self, true_or, or_true, false_or, or_false, false_and, and_false, not_true_eq_false, not_false_eq_true, Classical.not_not, true_implies, false_implies, implies_true, exists_eq_left, exists_eq_left', Option.some.injEq, reduceIte, Nat.reduceEqDiff, Nat.reduceLT, Nat.reduceLeDiff, Nat.reduceAdd, Nat.reduceSub, Nat.reduceMul, eq_self, ne_eq, and_imp, forall_const, reduceCtorEq, am_w, List.map_cons, List.map_nil, List.sum_cons, List.sum_nil, Value.category, Nat.zero_le, Nat.le_refl]
  refine ⟨_, _, ct_mfault rm, fun z2 h2 w2 => ?_, fun _ _ z => z⟩
  obtain ⟨rfl, ok2⟩ := w2
  obtain ⟨c2, q2, e2⟩ := nxt _ _ ok2
  exact ⟨fun _ => nx h2 _ (c2.up (by omega) (by omega)) q2 e2, fun z => absurd rfl z⟩
theorem lw_483 (c : LCl tt x m a0 sc ou h S U V) (q : LMo m a0 h S) (e : LEn sc ou L xs a0 h) (hi : i + 5 ≤ L) (hL : L ≤ 2560) (hU : U + 26 ≤ am_LC) (hV : V + 800000 ≤ am_LS) (nx : ∀ h' S', LCl tt x m a0 sc ou h' S' (U + 26) (V + 6) → LMo m a0 h' S' → LEn sc ou L xs a0 h' → am_Ev tt 205 989 [some (.ref sc), some (.ref x), some (.ref m), some (.ref ou), some (.int (Int32.ofNat i)), none, none] [] h' (am_pI lwQ no_x)) : am_Ev tt 205 483 [some (.ref sc), some (.ref x), some (.ref m), some (.ref ou), some (.int (Int32.ofNat i)), none, none] [] h (am_pI lwQ no_x) := by
  obtain ⟨cd, bb, wa, wt, e0, rc, u, v⟩ := c
  have wf := rc.wf
  have pl := pt1_le rc.1 (Nat.le_refl 24)
  have pe : pt h bb = pt1 h bb 24 := rfl
  have hx : am_K h x = 10 := by rw [← e0]; exact rc.1.2.2.2.1.1
  have s1 := e.1
  have s2 := e.2.1
  have i1 : i + 1 < L := by omega
  have r1 := e.2.2.1 (i + 1) i1
  have i2 : i + 2 < L := by omega
  have r2 := e.2.2.1 (i + 2) i2
  refine vc_205_483 tt _ _ _ _ _ _ _ _ ?_
  simp (disch := omega) only [s1, s2, hx, r1, r2, i1, i2, ch_m, qi_lt, qi_le, qi_eq, qi_nn, qi_in, qi_add, qi_l, ql_i, ql_lt, ql_le, ql_eq, ql_add, qc_lt, qc_eq, qc_ge, qc_gt, qc_le, true_and, and_true, and_self, true_or, or_true, false_or, or_false, false_and, and_false, not_true_eq_false, not_false_eq_true, Classical.not_not, true_implies, false_implies, implies_true, exists_eq_left, exists_eq_left', Option.some.injEq, reduceIte, Nat.reduceEqDiff, Nat.reduceLT, Nat.reduceLeDiff, Nat.reduceAdd, Nat.reduceSub, Nat.reduceMul, eq_self, ne_eq, and_imp, forall_const, reduceCtorEq, am_w, List.map_cons, List.map_nil, List.sum_cons, List.sum_nil, Value.category, Nat.zero_le, Nat.le_refl]
  refine ⟨_, _, by rw [← e0]; exact ct_of rc, fun z1 h1 w1 => ?_, fun _ _ z => z⟩
  obtain ⟨rfl, ok⟩ := w1
  obtain ⟨c1, f1⟩ := ck_C e0 ok u v
  have q1 := q.fr wf f1
  have e1 := e.cl f1
  have t1 := e1.1
  have t2 := e1.2.1
  have y1 := e1.2.2.1 (i + 1) i1
  have y2 := e1.2.2.1 (i + 2) i2
  obtain ⟨ad, P, rm, nxt⟩ := lm_call c1 q1 wf e1
  have km := rm.1.1
  simp (disch := omega) only [t1, t2, km, y1, y2, i1, i2, ch_m, qi_lt, qi_le, qi_eq, qi_nn, qi_in, qi_add, qi_l, ql_i, ql_lt, ql_le, ql_eq, ql_add, qc_lt, qc_eq, qc_ge, qc_gt, qc_le, true_and, and_true, and_self, true_or, or_true, false_or, or_false, false_and, and_false, not_true_eq_false, not_false_eq_true, Classical.not_not, true_implies, false_implies, implies_true, exists_eq_left, exists_eq_left', Option.some.injEq, reduceIte, Nat.reduceEqDiff, Nat.reduceLT, Nat.reduceLeDiff, Nat.reduceAdd, Nat.reduceSub, Nat.reduceMul, eq_self, ne_eq, and_imp, forall_const, reduceCtorEq, am_w, List.map_cons, List.map_nil, List.sum_cons, List.sum_nil, Value.category, Nat.zero_le, Nat.le_refl]
  refine ⟨_, _, ct_mof rm wf, fun z2 h2 w2 => ?_, fun _ _ z => z⟩
  obtain ⟨rfl, ok2⟩ := w2
  obtain ⟨c2, q2, e2⟩ := nxt _ _ ok2
  exact ⟨fun _ => nx h2 _ (c2.up (by omega) (by omega)) q2 e2, fun z => absurd rfl z⟩
theorem lw_520 (c : LCl tt x m a0 sc ou h S U V) (q : LMo m a0 h S) (e : LEn sc ou L xs a0 h) (hi : i + 5 ≤ L) (hL : L ≤ 2560) (hU : U + 26 ≤ am_LC) (hV : V + 800000 ≤ am_LS) (nx : ∀ h' S', LCl tt x m a0 sc ou h' S' (U + 26) (V + 6) → LMo m a0 h' S' → LEn sc ou L xs a0 h' → am_Ev tt 205 989 [some (.ref sc), some (.ref x), some (.ref m), some (.ref ou), some (.int (Int32.ofNat i)), none, none] [] h' (am_pI lwQ no_x)) : am_Ev tt 205 520 [some (.ref sc), some (.ref x), some (.ref m), some (.ref ou), some (.int (Int32.ofNat i)), none, none] [] h (am_pI lwQ no_x) := by
  obtain ⟨cd, bb, wa, wt, e0, rc, u, v⟩ := c
  have wf := rc.wf
  have pl := pt1_le rc.1 (Nat.le_refl 24)
  have pe : pt h bb = pt1 h bb 24 := rfl
  have hx : am_K h x = 10 := by rw [← e0]; exact rc.1.2.2.2.1.1
  have s1 := e.1
  have s2 := e.2.1
  have i1 : i + 1 < L := by omega
  have r1 := e.2.2.1 (i + 1) i1
  have i2 : i + 2 < L := by omega
  have r2 := e.2.2.1 (i + 2) i2
  refine vc_205_520 tt _ _ _ _ _ _ _ _ ?_
  simp (disch := omega) only [s1, s2, hx, r1, r2, i1, i2, ch_m, qi_lt, qi_le, qi_eq, qi_nn, qi_in, qi_add, qi_l, ql_i, ql_lt, ql_le, ql_eq, ql_add, qc_lt, qc_eq, qc_ge, qc_gt, qc_le, true_and, and_true, and_self, true_or, or_true, false_or, or_false, false_and, and_false, not_true_eq_false, not_false_eq_true, Classical.not_not, true_implies, false_implies, implies_true, exists_eq_left, exists_eq_left', Option.some.injEq, reduceIte, Nat.reduceEqDiff, Nat.reduceLT, Nat.reduceLeDiff, Nat.reduceAdd, Nat.reduceSub, Nat.reduceMul, eq_self, ne_eq, and_imp, forall_const, reduceCtorEq, am_w, List.map_cons, List.map_nil, List.sum_cons, List.sum_nil, Value.category, Nat.zero_le, Nat.le_refl]
  refine ⟨_, _, by rw [← e0]; exact ct_number rc, fun z1 h1 w1 => ?_, fun _ _ z => z⟩
  obtain ⟨rfl, ok⟩ := w1
  obtain ⟨c1, f1⟩ := ck_C e0 ok u v
  have q1 := q.fr wf f1
  have e1 := e.cl f1
  have t1 := e1.1
  have t2 := e1.2.1
  have y1 := e1.2.2.1 (i + 1) i1
  have y2 := e1.2.2.1 (i + 2) i2
  obtain ⟨ad, P, rm, nxt⟩ := lm_call c1 q1 wf e1
  have km := rm.1.1
  simp (disch := omega) only [t1, t2, km, y1, y2, i1, i2, ch_m, qi_lt, qi_le, qi_eq, qi_nn, qi_in, qi_add, qi_l, ql_i, ql_lt, ql_le, ql_eq, ql_add, qc_lt, qc_eq, qc_ge, qc_gt, qc_le, true_and, and_true, and_self, true_or, or_true, false_or, or_false, false_and, and_false, not_true_eq_false, not_false_eq_true, Classical.not_not, true_implies, false_implies, implies_true, exists_eq_left, exists_eq_left', Option.some.injEq, reduceIte, Nat.reduceEqDiff, Nat.reduceLT, Nat.reduceLeDiff, Nat.reduceAdd, Nat.reduceSub, Nat.reduceMul, eq_self, ne_eq, and_imp, forall_const, reduceCtorEq, am_w, List.map_cons, List.map_nil, List.sum_cons, List.sum_nil, Value.category, Nat.zero_le, Nat.le_refl]
  refine ⟨_, _, ct_mnumber rm wf, fun z2 h2 w2 => ?_, fun _ _ z => z⟩
  obtain ⟨rfl, ok2⟩ := w2
  obtain ⟨c2, q2, e2⟩ := nxt _ _ ok2
  exact ⟨fun _ => nx h2 _ (c2.up (by omega) (by omega)) q2 e2, fun z => absurd rfl z⟩
theorem lw_558 (c : LCl tt x m a0 sc ou h S U V) (q : LMo m a0 h S) (e : LEn sc ou L xs a0 h) (hi : i + 5 ≤ L) (hL : L ≤ 2560) (hU : U + 26 ≤ am_LC) (hV : V + 800000 ≤ am_LS) (nx : ∀ h' S', LCl tt x m a0 sc ou h' S' (U + 26) (V + 6) → LMo m a0 h' S' → LEn sc ou L xs a0 h' → am_Ev tt 205 989 [some (.ref sc), some (.ref x), some (.ref m), some (.ref ou), some (.int (Int32.ofNat i)), none, none] [] h' (am_pI lwQ no_x)) : am_Ev tt 205 558 [some (.ref sc), some (.ref x), some (.ref m), some (.ref ou), some (.int (Int32.ofNat i)), none, none] [] h (am_pI lwQ no_x) := by
  obtain ⟨cd, bb, wa, wt, e0, rc, u, v⟩ := c
  have wf := rc.wf
  have pl := pt1_le rc.1 (Nat.le_refl 24)
  have pe : pt h bb = pt1 h bb 24 := rfl
  have hx : am_K h x = 10 := by rw [← e0]; exact rc.1.2.2.2.1.1
  have s1 := e.1
  have s2 := e.2.1
  have i1 : i + 1 < L := by omega
  have r1 := e.2.2.1 (i + 1) i1
  have i2 : i + 2 < L := by omega
  have r2 := e.2.2.1 (i + 2) i2
  have i3 : i + 3 < L := by omega
  have r3 := e.2.2.1 (i + 3) i3
  refine vc_205_558 tt _ _ _ _ _ _ _ _ ?_
  simp (disch := omega) only [s1, s2, hx, r1, r2, r3, i1, i2, i3, ch_m, qi_lt, qi_le, qi_eq, qi_nn, qi_in, qi_add, qi_l, ql_i, ql_lt, ql_le, ql_eq, ql_add, qc_lt, qc_eq, qc_ge, qc_gt, qc_le, true_and, and_true, and_self, true_or, or_true, false_or, or_false, false_and, and_false, not_true_eq_false, not_false_eq_true, Classical.not_not, true_implies, false_implies, implies_true, exists_eq_left, exists_eq_left', Option.some.injEq, reduceIte, Nat.reduceEqDiff, Nat.reduceLT, Nat.reduceLeDiff, Nat.reduceAdd, Nat.reduceSub, Nat.reduceMul, eq_self, ne_eq, and_imp, forall_const, reduceCtorEq, am_w, List.map_cons, List.map_nil, List.sum_cons, List.sum_nil, Value.category, Nat.zero_le, Nat.le_refl]
  refine ⟨_, _, by rw [← e0]; exact ct_at rc, fun z1 h1 w1 => ?_, fun _ _ z => z⟩
  obtain ⟨rfl, ok⟩ := w1
  obtain ⟨c1, f1⟩ := ck_C e0 ok u v
  have q1 := q.fr wf f1
  have e1 := e.cl f1
  have t1 := e1.1
  have t2 := e1.2.1
  have y1 := e1.2.2.1 (i + 1) i1
  have y2 := e1.2.2.1 (i + 2) i2
  have y3 := e1.2.2.1 (i + 3) i3
  obtain ⟨ad, P, rm, nxt⟩ := lm_call c1 q1 wf e1
  have km := rm.1.1
  simp (disch := omega) only [t1, t2, km, y1, y2, y3, i1, i2, i3, ch_m, qi_lt, qi_le, qi_eq, qi_nn, qi_in, qi_add, qi_l, ql_i, ql_lt, ql_le, ql_eq, ql_add, qc_lt, qc_eq, qc_ge, qc_gt, qc_le, true_and, and_true, and_self, true_or, or_true, false_or, or_false, false_and, and_false, not_true_eq_false, not_false_eq_true, Classical.not_not, true_implies, false_implies, implies_true, exists_eq_left, exists_eq_left', Option.some.injEq, reduceIte, Nat.reduceEqDiff, Nat.reduceLT, Nat.reduceLeDiff, Nat.reduceAdd, Nat.reduceSub, Nat.reduceMul, eq_self, ne_eq, and_imp, forall_const, reduceCtorEq, am_w, List.map_cons, List.map_nil, List.sum_cons, List.sum_nil, Value.category, Nat.zero_le, Nat.le_refl]
  refine ⟨_, _, ct_mat rm wf, fun z2 h2 w2 => ?_, fun _ _ z => z⟩
  obtain ⟨rfl, ok2⟩ := w2
  obtain ⟨c2, q2, e2⟩ := nxt _ _ ok2
  exact ⟨fun _ => nx h2 _ (c2.up (by omega) (by omega)) q2 e2, fun z => absurd rfl z⟩
theorem lw_607 (c : LCl tt x m a0 sc ou h S U V) (q : LMo m a0 h S) (e : LEn sc ou L xs a0 h) (hi : i + 5 ≤ L) (hL : L ≤ 2560) (hU : U + 26 ≤ am_LC) (hV : V + 800000 ≤ am_LS) (nx : ∀ h' S', LCl tt x m a0 sc ou h' S' (U + 26) (V + 6) → LMo m a0 h' S' → LEn sc ou L xs a0 h' → am_Ev tt 205 989 [some (.ref sc), some (.ref x), some (.ref m), some (.ref ou), some (.int (Int32.ofNat i)), none, none] [] h' (am_pI lwQ no_x)) : am_Ev tt 205 607 [some (.ref sc), some (.ref x), some (.ref m), some (.ref ou), some (.int (Int32.ofNat i)), none, none] [] h (am_pI lwQ no_x) := by
  obtain ⟨cd, bb, wa, wt, e0, rc, u, v⟩ := c
  have wf := rc.wf
  have pl := pt1_le rc.1 (Nat.le_refl 24)
  have pe : pt h bb = pt1 h bb 24 := rfl
  have hx : am_K h x = 10 := by rw [← e0]; exact rc.1.2.2.2.1.1
  have s1 := e.1
  have s2 := e.2.1
  have i1 : i + 1 < L := by omega
  have r1 := e.2.2.1 (i + 1) i1
  have i2 : i + 2 < L := by omega
  have r2 := e.2.2.1 (i + 2) i2
  refine vc_205_607 tt _ _ _ _ _ _ _ _ ?_
  simp (disch := omega) only [s1, s2, hx, r1, r2, i1, i2, ch_m, qi_lt, qi_le, qi_eq, qi_nn, qi_in, qi_add, qi_l, ql_i, ql_lt, ql_le, ql_eq, ql_add, qc_lt, qc_eq, qc_ge, qc_gt, qc_le, true_and, and_true, and_self, true_or, or_true, false_or, or_false, false_and, and_false, not_true_eq_false, not_false_eq_true, Classical.not_not, true_implies, false_implies, implies_true, exists_eq_left, exists_eq_left', Option.some.injEq, reduceIte, Nat.reduceEqDiff, Nat.reduceLT, Nat.reduceLeDiff, Nat.reduceAdd, Nat.reduceSub, Nat.reduceMul, eq_self, ne_eq, and_imp, forall_const, reduceCtorEq, am_w, List.map_cons, List.map_nil, List.sum_cons, List.sum_nil, Value.category, Nat.zero_le, Nat.le_refl]
  refine ⟨_, _, by rw [← e0]; exact ct_coderAt rc, fun z1 h1 w1 => ?_, fun _ _ z => z⟩
  obtain ⟨rfl, ok⟩ := w1
  obtain ⟨c1, f1⟩ := ck_C e0 ok u v
  have q1 := q.fr wf f1
  have e1 := e.cl f1
  have t1 := e1.1
  have t2 := e1.2.1
  have y1 := e1.2.2.1 (i + 1) i1
  have y2 := e1.2.2.1 (i + 2) i2
  obtain ⟨ad, P, rm, nxt⟩ := lm_call c1 q1 wf e1
  have km := rm.1.1
  simp (disch := omega) only [t1, t2, km, y1, y2, i1, i2, ch_m, qi_lt, qi_le, qi_eq, qi_nn, qi_in, qi_add, qi_l, ql_i, ql_lt, ql_le, ql_eq, ql_add, qc_lt, qc_eq, qc_ge, qc_gt, qc_le, true_and, and_true, and_self, true_or, or_true, false_or, or_false, false_and, and_false, not_true_eq_false, not_false_eq_true, Classical.not_not, true_implies, false_implies, implies_true, exists_eq_left, exists_eq_left', Option.some.injEq, reduceIte, Nat.reduceEqDiff, Nat.reduceLT, Nat.reduceLeDiff, Nat.reduceAdd, Nat.reduceSub, Nat.reduceMul, eq_self, ne_eq, and_imp, forall_const, reduceCtorEq, am_w, List.map_cons, List.map_nil, List.sum_cons, List.sum_nil, Value.category, Nat.zero_le, Nat.le_refl]
  refine ⟨_, _, ct_mcoderAt rm wf, fun z2 h2 w2 => ?_, fun _ _ z => z⟩
  obtain ⟨rfl, ok2⟩ := w2
  obtain ⟨c2, q2, e2⟩ := nxt _ _ ok2
  exact ⟨fun _ => nx h2 _ (c2.up (by omega) (by omega)) q2 e2, fun z => absurd rfl z⟩
theorem lw_832 (c : LCl tt x m a0 sc ou h S U V) (q : LMo m a0 h S) (e : LEn sc ou L xs a0 h) (hi : i + 5 ≤ L) (hL : L ≤ 2560) (hU : U + 26 ≤ am_LC) (hV : V + 800000 ≤ am_LS) (nx : ∀ h' S', LCl tt x m a0 sc ou h' S' (U + 26) (V + 6) → LMo m a0 h' S' → LEn sc ou L xs a0 h' → am_Ev tt 205 989 [some (.ref sc), some (.ref x), some (.ref m), some (.ref ou), some (.int (Int32.ofNat i)), none, none] [] h' (am_pI lwQ no_x)) : am_Ev tt 205 832 [some (.ref sc), some (.ref x), some (.ref m), some (.ref ou), some (.int (Int32.ofNat i)), none, none] [] h (am_pI lwQ no_x) := by
  obtain ⟨cd, bb, wa, wt, e0, rc, u, v⟩ := c
  have wf := rc.wf
  have pl := pt1_le rc.1 (Nat.le_refl 24)
  have pe : pt h bb = pt1 h bb 24 := rfl
  have hx : am_K h x = 10 := by rw [← e0]; exact rc.1.2.2.2.1.1
  have s1 := e.1
  have s2 := e.2.1
  have i1 : i + 1 < L := by omega
  have r1 := e.2.2.1 (i + 1) i1
  have i2 : i + 2 < L := by omega
  have r2 := e.2.2.1 (i + 2) i2
  have i3 : i + 3 < L := by omega
  have r3 := e.2.2.1 (i + 3) i3
  refine vc_205_832 tt _ _ _ _ _ _ _ _ ?_
  simp (disch := omega) only [s1, s2, hx, r1, r2, r3, i1, i2, i3, ch_m, qi_lt, qi_le, qi_eq, qi_nn, qi_in, qi_add, qi_l, ql_i, ql_lt, ql_le, ql_eq, ql_add, qc_lt, qc_eq, qc_ge, qc_gt, qc_le, true_and, and_true, and_self, true_or, or_true, false_or, or_false, false_and, and_false, not_true_eq_false, not_false_eq_true, Classical.not_not, true_implies, false_implies, implies_true, exists_eq_left, exists_eq_left', Option.some.injEq, reduceIte, Nat.reduceEqDiff, Nat.reduceLT, Nat.reduceLeDiff, Nat.reduceAdd, Nat.reduceSub, Nat.reduceMul, eq_self, ne_eq, and_imp, forall_const, reduceCtorEq, am_w, List.map_cons, List.map_nil, List.sum_cons, List.sum_nil, Value.category, Nat.zero_le, Nat.le_refl]
  refine ⟨_, _, by rw [← e0]; exact ct_type rc, fun z1 h1 w1 => ?_, fun _ _ z => z⟩
  obtain ⟨rfl, ok⟩ := w1
  obtain ⟨c1, f1⟩ := ck_C e0 ok u v
  have q1 := q.fr wf f1
  have e1 := e.cl f1
  have t1 := e1.1
  have t2 := e1.2.1
  have y1 := e1.2.2.1 (i + 1) i1
  have y2 := e1.2.2.1 (i + 2) i2
  have y3 := e1.2.2.1 (i + 3) i3
  obtain ⟨ad, P, rm, nxt⟩ := lm_call c1 q1 wf e1
  have km := rm.1.1
  simp (disch := omega) only [t1, t2, km, y1, y2, y3, i1, i2, i3, ch_m, qi_lt, qi_le, qi_eq, qi_nn, qi_in, qi_add, qi_l, ql_i, ql_lt, ql_le, ql_eq, ql_add, qc_lt, qc_eq, qc_ge, qc_gt, qc_le, true_and, and_true, and_self, true_or, or_true, false_or, or_false, false_and, and_false, not_true_eq_false, not_false_eq_true, Classical.not_not, true_implies, false_implies, implies_true, exists_eq_left, exists_eq_left', Option.some.injEq, reduceIte, Nat.reduceEqDiff, Nat.reduceLT, Nat.reduceLeDiff, Nat.reduceAdd, Nat.reduceSub, Nat.reduceMul, eq_self, ne_eq, and_imp, forall_const, reduceCtorEq, am_w, List.map_cons, List.map_nil, List.sum_cons, List.sum_nil, Value.category, Nat.zero_le, Nat.le_refl]
  refine ⟨_, _, ct_mtype rm wf, fun z2 h2 w2 => ?_, fun _ _ z => z⟩
  obtain ⟨rfl, ok2⟩ := w2
  obtain ⟨c2, q2, e2⟩ := nxt _ _ ok2
  exact ⟨fun _ => nx h2 _ (c2.up (by omega) (by omega)) q2 e2, fun z => absurd rfl z⟩
theorem lw_901 (c : LCl tt x m a0 sc ou h S U V) (q : LMo m a0 h S) (e : LEn sc ou L xs a0 h) (hi : i + 5 ≤ L) (hL : L ≤ 2560) (hU : U + 26 ≤ am_LC) (hV : V + 800000 ≤ am_LS) (nx : ∀ h' S', LCl tt x m a0 sc ou h' S' (U + 26) (V + 6) → LMo m a0 h' S' → LEn sc ou L xs a0 h' → am_Ev tt 205 989 [some (.ref sc), some (.ref x), some (.ref m), some (.ref ou), some (.int (Int32.ofNat i)), none, none] [] h' (am_pI lwQ no_x)) : am_Ev tt 205 901 [some (.ref sc), some (.ref x), some (.ref m), some (.ref ou), some (.int (Int32.ofNat i)), none, none] [] h (am_pI lwQ no_x) := by
  obtain ⟨cd, bb, wa, wt, e0, rc, u, v⟩ := c
  have wf := rc.wf
  have pl := pt1_le rc.1 (Nat.le_refl 24)
  have pe : pt h bb = pt1 h bb 24 := rfl
  have hx : am_K h x = 10 := by rw [← e0]; exact rc.1.2.2.2.1.1
  have s1 := e.1
  have s2 := e.2.1
  have i1 : i + 1 < L := by omega
  have r1 := e.2.2.1 (i + 1) i1
  refine vc_205_901 tt _ _ _ _ _ _ _ _ ?_
  simp (disch := omega) only [s1, s2, hx, r1, i1, ch_m, qi_lt, qi_le, qi_eq, qi_nn, qi_in, qi_add, qi_l, ql_i, ql_lt, ql_le, ql_eq, ql_add, qc_lt, qc_eq, qc_ge, qc_gt, qc_le, true_and, and_true, and_self, true_or, or_true, false_or, or_false, false_and, and_false, not_true_eq_false, not_false_eq_true, Classical.not_not, true_implies, false_implies, implies_true, exists_eq_left, exists_eq_left', Option.some.injEq, reduceIte, Nat.reduceEqDiff, Nat.reduceLT, Nat.reduceLeDiff, Nat.reduceAdd, Nat.reduceSub, Nat.reduceMul, eq_self, ne_eq, and_imp, forall_const, reduceCtorEq, am_w, List.map_cons, List.map_nil, List.sum_cons, List.sum_nil, Value.category, Nat.zero_le, Nat.le_refl]
  refine ⟨_, _, by rw [← e0]; exact ct_cut rc, fun z1 h1 w1 => ?_, fun _ _ z => z⟩
  obtain ⟨rfl, ok⟩ := w1
  obtain ⟨c1, f1⟩ := ck_C e0 ok u v
  have q1 := q.fr wf f1
  have e1 := e.cl f1
  have t1 := e1.1
  have t2 := e1.2.1
  have y1 := e1.2.2.1 (i + 1) i1
  obtain ⟨ad, P, rm, nxt⟩ := lm_call c1 q1 wf e1
  have km := rm.1.1
  simp (disch := omega) only [t1, t2, km, y1, i1, ch_m, qi_lt, qi_le, qi_eq, qi_nn, qi_in, qi_add, qi_l, ql_i, ql_lt, ql_le, ql_eq, ql_add, qc_lt, qc_eq, qc_ge, qc_gt, qc_le, true_and, and_true, and_self, true_or, or_true, false_or, or_false, false_and, and_false, not_true_eq_false, not_false_eq_true, Classical.not_not, true_implies, false_implies, implies_true, exists_eq_left, exists_eq_left', Option.some.injEq, reduceIte, Nat.reduceEqDiff, Nat.reduceLT, Nat.reduceLeDiff, Nat.reduceAdd, Nat.reduceSub, Nat.reduceMul, eq_self, ne_eq, and_imp, forall_const, reduceCtorEq, am_w, List.map_cons, List.map_nil, List.sum_cons, List.sum_nil, Value.category, Nat.zero_le, Nat.le_refl]
  refine ⟨_, _, ct_mcut rm wf, fun z2 h2 w2 => ?_, fun _ _ z => z⟩
  obtain ⟨rfl, ok2⟩ := w2
  obtain ⟨c2, q2, e2⟩ := nxt _ _ ok2
  exact ⟨fun _ => nx h2 _ (c2.up (by omega) (by omega)) q2 e2, fun z => absurd rfl z⟩
theorem lw_926 (c : LCl tt x m a0 sc ou h S U V) (q : LMo m a0 h S) (e : LEn sc ou L xs a0 h) (hi : i + 5 ≤ L) (hL : L ≤ 2560) (hU : U + 26 ≤ am_LC) (hV : V + 800000 ≤ am_LS) (nx : ∀ h' S', LCl tt x m a0 sc ou h' S' (U + 26) (V + 6) → LMo m a0 h' S' → LEn sc ou L xs a0 h' → am_Ev tt 205 989 [some (.ref sc), some (.ref x), some (.ref m), some (.ref ou), some (.int (Int32.ofNat i)), none, none] [] h' (am_pI lwQ no_x)) : am_Ev tt 205 926 [some (.ref sc), some (.ref x), some (.ref m), some (.ref ou), some (.int (Int32.ofNat i)), none, none] [] h (am_pI lwQ no_x) := by
  obtain ⟨cd, bb, wa, wt, e0, rc, u, v⟩ := c
  have wf := rc.wf
  have pl := pt1_le rc.1 (Nat.le_refl 24)
  have pe : pt h bb = pt1 h bb 24 := rfl
  have hx : am_K h x = 10 := by rw [← e0]; exact rc.1.2.2.2.1.1
  have s1 := e.1
  have s2 := e.2.1
  have i1 : i + 1 < L := by omega
  have r1 := e.2.2.1 (i + 1) i1
  refine vc_205_926 tt _ _ _ _ _ _ _ _ ?_
  simp (disch := omega) only [s1, s2, hx, r1, i1, ch_m, qi_lt, qi_le, qi_eq, qi_nn, qi_in, qi_add, qi_l, ql_i, ql_lt, ql_le, ql_eq, ql_add, qc_lt, qc_eq, qc_ge, qc_gt, qc_le, true_and, and_true, and_self, true_or, or_true, false_or, or_false, false_and, and_false, not_true_eq_false, not_false_eq_true, Classical.not_not, true_implies, false_implies, implies_true, exists_eq_left, exists_eq_left', Option.some.injEq, reduceIte, Nat.reduceEqDiff, Nat.reduceLT, Nat.reduceLeDiff, Nat.reduceAdd, Nat.reduceSub, Nat.reduceMul, eq_self, ne_eq, and_imp, forall_const, reduceCtorEq, am_w, List.map_cons, List.map_nil, List.sum_cons, List.sum_nil, Value.category, Nat.zero_le, Nat.le_refl]
  refine ⟨_, _, by rw [← e0]; exact ct_seal rc, fun z1 h1 w1 => ?_, fun _ _ z => z⟩
  obtain ⟨rfl, ok⟩ := w1
  obtain ⟨c1, f1⟩ := ck_C e0 ok u v
  have q1 := q.fr wf f1
  have e1 := e.cl f1
  have t1 := e1.1
  have t2 := e1.2.1
  have y1 := e1.2.2.1 (i + 1) i1
  obtain ⟨ad, P, rm, nxt⟩ := lm_call c1 q1 wf e1
  have km := rm.1.1
  simp (disch := omega) only [t1, t2, km, y1, i1, ch_m, qi_lt, qi_le, qi_eq, qi_nn, qi_in, qi_add, qi_l, ql_i, ql_lt, ql_le, ql_eq, ql_add, qc_lt, qc_eq, qc_ge, qc_gt, qc_le, true_and, and_true, and_self, true_or, or_true, false_or, or_false, false_and, and_false, not_true_eq_false, not_false_eq_true, Classical.not_not, true_implies, false_implies, implies_true, exists_eq_left, exists_eq_left', Option.some.injEq, reduceIte, Nat.reduceEqDiff, Nat.reduceLT, Nat.reduceLeDiff, Nat.reduceAdd, Nat.reduceSub, Nat.reduceMul, eq_self, ne_eq, and_imp, forall_const, reduceCtorEq, am_w, List.map_cons, List.map_nil, List.sum_cons, List.sum_nil, Value.category, Nat.zero_le, Nat.le_refl]
  refine ⟨_, _, ct_mseal rm wf, fun z2 h2 w2 => ?_, fun _ _ z => z⟩
  obtain ⟨rfl, ok2⟩ := w2
  obtain ⟨c2, q2, e2⟩ := nxt _ _ ok2
  exact ⟨fun _ => nx h2 _ (c2.up (by omega) (by omega)) q2 e2, fun z => absurd rfl z⟩
theorem lw_951 (c : LCl tt x m a0 sc ou h S U V) (q : LMo m a0 h S) (e : LEn sc ou L xs a0 h) (hi : i + 5 ≤ L) (hL : L ≤ 2560) (hU : U + 26 ≤ am_LC) (hV : V + 800000 ≤ am_LS) (nx : ∀ h' S', LCl tt x m a0 sc ou h' S' (U + 26) (V + 6) → LMo m a0 h' S' → LEn sc ou L xs a0 h' → am_Ev tt 205 989 [some (.ref sc), some (.ref x), some (.ref m), some (.ref ou), some (.int (Int32.ofNat i)), none, none] [] h' (am_pI lwQ no_x)) : am_Ev tt 205 951 [some (.ref sc), some (.ref x), some (.ref m), some (.ref ou), some (.int (Int32.ofNat i)), none, none] [] h (am_pI lwQ no_x) := by
  obtain ⟨cd, bb, wa, wt, e0, rc, u, v⟩ := c
  have wf := rc.wf
  have pl := pt1_le rc.1 (Nat.le_refl 24)
  have pe : pt h bb = pt1 h bb 24 := rfl
  have hx : am_K h x = 10 := by rw [← e0]; exact rc.1.2.2.2.1.1
  have s1 := e.1
  have s2 := e.2.1
  have i1 : i + 1 < L := by omega
  have r1 := e.2.2.1 (i + 1) i1
  refine vc_205_951 tt _ _ _ _ _ _ _ _ ?_
  simp (disch := omega) only [s1, s2, hx, r1, i1, ch_m, qi_lt, qi_le, qi_eq, qi_nn, qi_in, qi_add, qi_l, ql_i, ql_lt, ql_le, ql_eq, ql_add, qc_lt, qc_eq, qc_ge, qc_gt, qc_le, true_and, and_true, and_self, true_or, or_true, false_or, or_false, false_and, and_false, not_true_eq_false, not_false_eq_true, Classical.not_not, true_implies, false_implies, implies_true, exists_eq_left, exists_eq_left', Option.some.injEq, reduceIte, Nat.reduceEqDiff, Nat.reduceLT, Nat.reduceLeDiff, Nat.reduceAdd, Nat.reduceSub, Nat.reduceMul, eq_self, ne_eq, and_imp, forall_const, reduceCtorEq, am_w, List.map_cons, List.map_nil, List.sum_cons, List.sum_nil, Value.category, Nat.zero_le, Nat.le_refl]
  refine ⟨_, _, by rw [← e0]; exact ct_count rc, fun z1 h1 w1 => ?_, fun _ _ z => z⟩
  obtain ⟨rfl, ok⟩ := w1
  obtain ⟨c1, f1⟩ := ck_C e0 ok u v
  have q1 := q.fr wf f1
  have e1 := e.cl f1
  have t1 := e1.1
  have t2 := e1.2.1
  have y1 := e1.2.2.1 (i + 1) i1
  obtain ⟨ad, P, rm, nxt⟩ := lm_call c1 q1 wf e1
  have km := rm.1.1
  simp (disch := omega) only [t1, t2, km, y1, i1, ch_m, qi_lt, qi_le, qi_eq, qi_nn, qi_in, qi_add, qi_l, ql_i, ql_lt, ql_le, ql_eq, ql_add, qc_lt, qc_eq, qc_ge, qc_gt, qc_le, true_and, and_true, and_self, true_or, or_true, false_or, or_false, false_and, and_false, not_true_eq_false, not_false_eq_true, Classical.not_not, true_implies, false_implies, implies_true, exists_eq_left, exists_eq_left', Option.some.injEq, reduceIte, Nat.reduceEqDiff, Nat.reduceLT, Nat.reduceLeDiff, Nat.reduceAdd, Nat.reduceSub, Nat.reduceMul, eq_self, ne_eq, and_imp, forall_const, reduceCtorEq, am_w, List.map_cons, List.map_nil, List.sum_cons, List.sum_nil, Value.category, Nat.zero_le, Nat.le_refl]
  refine ⟨_, _, ct_mcount rm, fun z2 h2 w2 => ?_, fun _ _ z => z⟩
  obtain ⟨rfl, ok2⟩ := w2
  obtain ⟨c2, q2, e2⟩ := nxt _ _ ok2
  exact ⟨fun _ => nx h2 _ (c2.up (by omega) (by omega)) q2 e2, fun z => absurd rfl z⟩
theorem lw_976 (c : LCl tt x m a0 sc ou h S U V) (q : LMo m a0 h S) (e : LEn sc ou L xs a0 h) (hi : i + 5 ≤ L) (hL : L ≤ 2560) (hU : U + 26 ≤ am_LC) (hV : V + 800000 ≤ am_LS) (nx : ∀ h' S', LCl tt x m a0 sc ou h' S' (U + 26) (V + 6) → LMo m a0 h' S' → LEn sc ou L xs a0 h' → am_Ev tt 205 989 [some (.ref sc), some (.ref x), some (.ref m), some (.ref ou), some (.int (Int32.ofNat i)), none, none] [] h' (am_pI lwQ no_x)) : am_Ev tt 205 976 [some (.ref sc), some (.ref x), some (.ref m), some (.ref ou), some (.int (Int32.ofNat i)), none, none] [] h (am_pI lwQ no_x) := by
  obtain ⟨cd, bb, wa, wt, e0, rc, u, v⟩ := c
  have wf := rc.wf
  have pl := pt1_le rc.1 (Nat.le_refl 24)
  have pe : pt h bb = pt1 h bb 24 := rfl
  have hx : am_K h x = 10 := by rw [← e0]; exact rc.1.2.2.2.1.1
  have s1 := e.1
  have s2 := e.2.1
  refine vc_205_976 tt _ _ _ _ _ _ _ _ ?_
  simp (disch := omega) only [s1, s2, hx, ch_m, qi_lt, qi_le, qi_eq, qi_nn, qi_in, qi_add, qi_l, ql_i, ql_lt, ql_le, ql_eq, ql_add, qc_lt, qc_eq, qc_ge, qc_gt, qc_le, true_and, and_true, and_self, true_or, or_true, false_or, or_false, false_and, and_false, not_true_eq_false, not_false_eq_true, Classical.not_not, true_implies, false_implies, implies_true, exists_eq_left, exists_eq_left', Option.some.injEq, reduceIte, Nat.reduceEqDiff, Nat.reduceLT, Nat.reduceLeDiff, Nat.reduceAdd, Nat.reduceSub, Nat.reduceMul, eq_self, ne_eq, and_imp, forall_const, reduceCtorEq, am_w, List.map_cons, List.map_nil, List.sum_cons, List.sum_nil, Value.category, Nat.zero_le, Nat.le_refl]
  refine ⟨_, _, by rw [← e0]; exact ct_clear rc, fun z1 h1 w1 => ?_, fun _ _ z => z⟩
  obtain ⟨rfl, ok⟩ := w1
  obtain ⟨c1, f1⟩ := ck_C e0 ok u v
  have q1 := q.fr wf f1
  have e1 := e.cl f1
  have t1 := e1.1
  have t2 := e1.2.1
  obtain ⟨ad, P, rm, nxt⟩ := lm_call c1 q1 wf e1
  have km := rm.1.1
  simp (disch := omega) only [t1, t2, km, ch_m, qi_lt, qi_le, qi_eq, qi_nn, qi_in, qi_add, qi_l, ql_i, ql_lt, ql_le, ql_eq, ql_add, qc_lt, qc_eq, qc_ge, qc_gt, qc_le, true_and, and_true, and_self, true_or, or_true, false_or, or_false, false_and, and_false, not_true_eq_false, not_false_eq_true, Classical.not_not, true_implies, false_implies, implies_true, exists_eq_left, exists_eq_left', Option.some.injEq, reduceIte, Nat.reduceEqDiff, Nat.reduceLT, Nat.reduceLeDiff, Nat.reduceAdd, Nat.reduceSub, Nat.reduceMul, eq_self, ne_eq, and_imp, forall_const, reduceCtorEq, am_w, List.map_cons, List.map_nil, List.sum_cons, List.sum_nil, Value.category, Nat.zero_le, Nat.le_refl]
  refine ⟨_, _, ct_mclear rm wf, fun z2 h2 w2 => ?_, fun _ _ z => z⟩
  obtain ⟨rfl, ok2⟩ := w2
  obtain ⟨c2, q2, e2⟩ := nxt _ _ ok2
  exact ⟨fun _ => nx h2 _ (c2.up (by omega) (by omega)) q2 e2, fun z => absurd rfl z⟩
end LAX
