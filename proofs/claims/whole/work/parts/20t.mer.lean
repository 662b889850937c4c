/-! deps: 20s -/
/-! ===== the reference reads: ENTRIES ===== -/
/-! 198 yX10_entryRows -/
theorem vc_198_0 (tt : Nat → Nat) (a0 : Nat) (h : am_H) (Q : am_H → Prop) (Qx : String → am_H → Prop) (q :
  (am_K h a0 = 11 ∧ ∃ (Q2 : am_H → Prop) (X2 : String → am_H → Prop), am_Ct tt 180 [.ref a0, .int (Int32.ofNat 5)] h (am_pV Q2 X2) ∧ (∀ h1, Q2 h1 →
   (am_K h1 a0 = 11 ∧
   (((am_I h1 10 29 a0) ≤ (Int32.ofNat 0) →
    (am_K h1 a0 = 11 ∧ ∃ (Q4 : Int32 → am_H → Prop) (X4 : String → am_H → Prop), am_Ct tt 182 [.ref a0, .long (Int64.ofNat 1), .long (Int64.ofNat 24)] h1 (am_pI Q4 X4) ∧ (∀ x5 h3, Q4 x5 h3 →
     (am_K h3 a0 = 11 ∧
     am_Ev tt 198 32 [some (.ref a0), none, none] [] (am_sI h3 10 41 a0 x5) (am_pV Q Qx))) ∧ (∀ E6 h3, X4 E6 h3 → Qx E6 h3))) ∧
   (¬ ((am_I h1 10 29 a0) ≤ (Int32.ofNat 0)) →
    (am_K h1 a0 = 11 ∧
    (am_K h1 a0 = 11 ∧ ∃ (Q8 : Int32 → am_H → Prop) (X8 : String → am_H → Prop), am_Ct tt 182 [.ref a0, .long ((am_I h1 10 29 a0)).toInt64, .long (Int64.ofNat 24)] h1 (am_pI Q8 X8) ∧ (∀ x9 h7, Q8 x9 h7 →
     (am_K h7 a0 = 11 ∧
     am_Ev tt 198 32 [some (.ref a0), none, none] [] (am_sI h7 10 41 a0 x9) (am_pV Q Qx))) ∧ (∀ E10 h7, X8 E10 h7 → Qx E10 h7))))))) ∧ (∀ E11 h1, X2 E11 h1 → Qx E11 h1))) :
  am_Ev tt 198 0 [some (.ref a0), none, none] [] h (am_pV Q Qx) := am_vc 18 [(32, [true, false, false]), (43, [true, false, false]), (72, [true, false, false]), (74, [true, false, false]), (82, [true, false, false]), (111, [true, false, false]), (113, [true, false, false]), (125, [true, false, false]), (133, [true, false, true]), (159, [true, false, false]), (167, [true, false, true]), (193, [true, false, false])] q
theorem vc_198_32 (tt : Nat → Nat) (a0 : Nat) (h : am_H) (Q : am_H → Prop) (Qx : String → am_H → Prop) (q :
  (am_K h a0 = 11 ∧ ∃ (Q2 : Int32 → am_H → Prop) (X2 : String → am_H → Prop), am_Ct tt 176 [.ref a0] h (am_pI Q2 X2) ∧ (∀ x3 h1, Q2 x3 h1 →
   ((x3 = (Int32.ofNat 0) →
    am_Ev tt 198 43 [some (.ref a0), none, none] [] h1 (am_pV Q Qx)) ∧
   (¬ (x3 = (Int32.ofNat 0)) →
    (am_K h1 a0 = 11 ∧ ∃ (Q5 : am_H → Prop) (X5 : String → am_H → Prop), am_Ct tt 194 [.ref a0] h1 (am_pV Q5 X5) ∧ (∀ h4, Q5 h4 →
     am_Ev tt 198 43 [some (.ref a0), none, none] [] h4 (am_pV Q Qx)) ∧ (∀ E6 h4, X5 E6 h4 → Qx E6 h4))))) ∧ (∀ E7 h1, X2 E7 h1 → Qx E7 h1))) :
  am_Ev tt 198 32 [some (.ref a0), none, none] [] h (am_pV Q Qx) := am_vc 8 [(32, [true, false, false]), (43, [true, false, false]), (72, [true, false, false]), (74, [true, false, false]), (82, [true, false, false]), (111, [true, false, false]), (113, [true, false, false]), (125, [true, false, false]), (133, [true, false, true]), (159, [true, false, false]), (167, [true, false, true]), (193, [true, false, false])] q
theorem vc_198_43 (tt : Nat → Nat) (a0 : Nat) (h : am_H) (Q : am_H → Prop) (Qx : String → am_H → Prop) (q :
  (am_K h a0 = 11 ∧ ∃ (Q2 : Int32 → am_H → Prop) (X2 : String → am_H → Prop), am_Ct tt 176 [.ref a0] h (am_pI Q2 X2) ∧ (∀ x3 h1, Q2 x3 h1 →
   ((x3 = (Int32.ofNat 0) →
    am_Ev tt 198 72 [some (.ref a0), none, none] [] h1 (am_pV Q Qx)) ∧
   (¬ (x3 = (Int32.ofNat 0)) →
    (am_K h1 a0 = 11 ∧
    (am_K h1 a0 = 11 ∧
    (am_K h1 a0 = 11 ∧ ∃ (Q5 : Int32 → am_H → Prop) (X5 : String → am_H → Prop), am_Ct tt 193 [.ref a0, .int (Int32.ofNat 15), .int ((am_I h1 10 41 a0) - (am_I h1 10 29 a0))] h1 (am_pI Q5 X5) ∧ (∀ x6 h4, Q5 x6 h4 →
     ((x6 = (Int32.ofNat 0) →
      am_Ev tt 198 72 [some (.ref a0), none, none] [] h4 (am_pV Q Qx)) ∧
     (¬ (x6 = (Int32.ofNat 0)) →
      am_Ev tt 198 74 [some (.ref a0), none, none] [] h4 (am_pV Q Qx)))) ∧ (∀ E7 h4, X5 E7 h4 → Qx E7 h4))))))) ∧ (∀ E8 h1, X2 E8 h1 → Qx E8 h1))) :
  am_Ev tt 198 43 [some (.ref a0), none, none] [] h (am_pV Q Qx) := am_vc 18 [(32, [true, false, false]), (43, [true, false, false]), (72, [true, false, false]), (74, [true, false, false]), (82, [true, false, false]), (111, [true, false, false]), (113, [true, false, false]), (125, [true, false, false]), (133, [true, false, true]), (159, [true, false, false]), (167, [true, false, true]), (193, [true, false, false])] q
theorem vc_198_72 (tt : Nat → Nat) (a0 : Nat) (h : am_H) (Q : am_H → Prop) (Qx : String → am_H → Prop) (q :
  am_Ev tt 198 74 [some (.ref a0), none, none] [] h (am_pV Q Qx)) :
  am_Ev tt 198 72 [some (.ref a0), none, none] [] h (am_pV Q Qx) := am_vc 5 [(32, [true, false, false]), (43, [true, false, false]), (72, [true, false, false]), (74, [true, false, false]), (82, [true, false, false]), (111, [true, false, false]), (113, [true, false, false]), (125, [true, false, false]), (133, [true, false, true]), (159, [true, false, false]), (167, [true, false, true]), (193, [true, false, false])] q
theorem vc_198_74 (tt : Nat → Nat) (a0 : Nat) (h : am_H) (Q : am_H → Prop) (Qx : String → am_H → Prop) (q :
  (am_K h a0 = 11 ∧ ∃ q1, am_R h 10 43 a0 = some q1 ∧
  (am_K h a0 = 11 ∧ ∃ (Q3 : am_H → Prop) (X3 : String → am_H → Prop), am_Ct tt 195 [.ref a0, .ref q1] h (am_pV Q3 X3) ∧ (∀ h2, Q3 h2 →
   am_Ev tt 198 82 [some (.ref a0), none, none] [] h2 (am_pV Q Qx)) ∧ (∀ E4 h2, X3 E4 h2 → Qx E4 h2)))) :
  am_Ev tt 198 74 [some (.ref a0), none, none] [] h (am_pV Q Qx) := am_vc 7 [(32, [true, false, false]), (43, [true, false, false]), (72, [true, false, false]), (74, [true, false, false]), (82, [true, false, false]), (111, [true, false, false]), (113, [true, false, false]), (125, [true, false, false]), (133, [true, false, true]), (159, [true, false, false]), (167, [true, false, true]), (193, [true, false, false])] q
theorem vc_198_82 (tt : Nat → Nat) (a0 : Nat) (h : am_H) (Q : am_H → Prop) (Qx : String → am_H → Prop) (q :
  (am_K h a0 = 11 ∧ ∃ (Q2 : Int32 → am_H → Prop) (X2 : String → am_H → Prop), am_Ct tt 176 [.ref a0] h (am_pI Q2 X2) ∧ (∀ x3 h1, Q2 x3 h1 →
   ((x3 = (Int32.ofNat 0) →
    am_Ev tt 198 111 [some (.ref a0), none, none] [] h1 (am_pV Q Qx)) ∧
   (¬ (x3 = (Int32.ofNat 0)) →
    (am_K h1 a0 = 11 ∧
    (am_K h1 a0 = 11 ∧
    (am_K h1 a0 = 11 ∧ ∃ (Q5 : Int32 → am_H → Prop) (X5 : String → am_H → Prop), am_Ct tt 193 [.ref a0, .int (Int32.ofNat 16), .int ((am_I h1 10 41 a0) - (am_I h1 10 29 a0))] h1 (am_pI Q5 X5) ∧ (∀ x6 h4, Q5 x6 h4 →
     ((x6 = (Int32.ofNat 0) →
      am_Ev tt 198 111 [some (.ref a0), none, none] [] h4 (am_pV Q Qx)) ∧
     (¬ (x6 = (Int32.ofNat 0)) →
      am_Ev tt 198 113 [some (.ref a0), none, none] [] h4 (am_pV Q Qx)))) ∧ (∀ E7 h4, X5 E7 h4 → Qx E7 h4))))))) ∧ (∀ E8 h1, X2 E8 h1 → Qx E8 h1))) :
  am_Ev tt 198 82 [some (.ref a0), none, none] [] h (am_pV Q Qx) := am_vc 18 [(32, [true, false, false]), (43, [true, false, false]), (72, [true, false, false]), (74, [true, false, false]), (82, [true, false, false]), (111, [true, false, false]), (113, [true, false, false]), (125, [true, false, false]), (133, [true, false, true]), (159, [true, false, false]), (167, [true, false, true]), (193, [true, false, false])] q
theorem vc_198_111 (tt : Nat → Nat) (a0 : Nat) (h : am_H) (Q : am_H → Prop) (Qx : String → am_H → Prop) (q :
  am_Ev tt 198 113 [some (.ref a0), none, none] [] h (am_pV Q Qx)) :
  am_Ev tt 198 111 [some (.ref a0), none, none] [] h (am_pV Q Qx) := am_vc 5 [(32, [true, false, false]), (43, [true, false, false]), (72, [true, false, false]), (74, [true, false, false]), (82, [true, false, false]), (111, [true, false, false]), (113, [true, false, false]), (125, [true, false, false]), (133, [true, false, true]), (159, [true, false, false]), (167, [true, false, true]), (193, [true, false, false])] q
theorem vc_198_113 (tt : Nat → Nat) (a0 : Nat) (h : am_H) (Q : am_H → Prop) (Qx : String → am_H → Prop) (q :
  (am_K h a0 = 11 ∧ ∃ q1, am_R h 10 44 a0 = some q1 ∧
  (am_K h a0 = 11 ∧ ∃ (Q3 : am_H → Prop) (X3 : String → am_H → Prop), am_Ct tt 195 [.ref a0, .ref q1] h (am_pV Q3 X3) ∧ (∀ h2, Q3 h2 →
   (am_K h2 a0 = 11 ∧ ∃ (Q5 : am_H → Prop) (X5 : String → am_H → Prop), am_Ct tt 196 [.ref a0] h2 (am_pV Q5 X5) ∧ (∀ h4, Q5 h4 →
    am_Ev tt 198 125 [some (.ref a0), none, none] [] h4 (am_pV Q Qx)) ∧ (∀ E6 h4, X5 E6 h4 → Qx E6 h4))) ∧ (∀ E7 h2, X3 E7 h2 → Qx E7 h2)))) :
  am_Ev tt 198 113 [some (.ref a0), none, none] [] h (am_pV Q Qx) := am_vc 9 [(32, [true, false, false]), (43, [true, false, false]), (72, [true, false, false]), (74, [true, false, false]), (82, [true, false, false]), (111, [true, false, false]), (113, [true, false, false]), (125, [true, false, false]), (133, [true, false, true]), (159, [true, false, false]), (167, [true, false, true]), (193, [true, false, false])] q
theorem vc_198_125 (tt : Nat → Nat) (a0 : Nat) (h : am_H) (Q : am_H → Prop) (Qx : String → am_H → Prop) (q :
  (am_K h a0 = 11 ∧ ∃ (Q2 : am_H → Prop) (X2 : String → am_H → Prop), am_Ct tt 197 [.ref a0, .int (Int32.ofNat 20)] h (am_pV Q2 X2) ∧ (∀ h1, Q2 h1 →
   am_Ev tt 198 133 [some (.ref a0), none, some (.int (Int32.ofNat 0))] [] h1 (am_pV Q Qx)) ∧ (∀ E3 h1, X2 E3 h1 → Qx E3 h1))) :
  am_Ev tt 198 125 [some (.ref a0), none, none] [] h (am_pV Q Qx) := am_vc 8 [(32, [true, false, false]), (43, [true, false, false]), (72, [true, false, false]), (74, [true, false, false]), (82, [true, false, false]), (111, [true, false, false]), (113, [true, false, false]), (125, [true, false, false]), (133, [true, false, true]), (159, [true, false, false]), (167, [true, false, true]), (193, [true, false, false])] q
theorem vc_198_133 (tt : Nat → Nat) (a0 : Nat) (a2 : Int32) (h : am_H) (Q : am_H → Prop) (Qx : String → am_H → Prop) (q :
  (am_K h a0 = 11 ∧
  (((am_I h 10 41 a0) ≤ a2 →
   am_Ev tt 198 159 [some (.ref a0), none, none] [] h (am_pV Q Qx)) ∧
  (¬ ((am_I h 10 41 a0) ≤ a2) →
   (am_K h a0 = 11 ∧ ∃ q1, am_R h 10 47 a0 = some q1 ∧
   (am_K h a0 = 11 ∧ ∃ q2, am_R h 10 26 a0 = some q2 ∧
   ((am_K h q2 = 23 ∨ am_K h q2 = 24) ∧ vp_in a2 (am_N h q2) ∧
   (vp_in a2 (am_N h q1) ∧ ∃ w3, ((am_K h q1 = 23 ∧ w3 = ((am_A h q2 (a2).toNatClampNeg)).toInt8.toInt32) ∨ (am_K h q1 = 24 ∧ w3 = ((am_A h q2 (a2).toNatClampNeg) &&& 1))) ∧
   am_Ev tt 198 133 [some (.ref a0), none, some (.int (a2 + (Int32.ofNat 1)))] [] (am_sA h q1 (a2).toNatClampNeg w3) (am_pV Q Qx))))))))) :
  am_Ev tt 198 133 [some (.ref a0), none, some (.int a2)] [] h (am_pV Q Qx) := am_vc 17 [(32, [true, false, false]), (43, [true, false, false]), (72, [true, false, false]), (74, [true, false, false]), (82, [true, false, false]), (111, [true, false, false]), (113, [true, false, false]), (125, [true, false, false]), (133, [true, false, true]), (159, [true, false, false]), (167, [true, false, true]), (193, [true, false, false])] q
theorem vc_198_159 (tt : Nat → Nat) (a0 : Nat) (h : am_H) (Q : am_H → Prop) (Qx : String → am_H → Prop) (q :
  (am_K h a0 = 11 ∧ ∃ (Q2 : am_H → Prop) (X2 : String → am_H → Prop), am_Ct tt 197 [.ref a0, .int (Int32.ofNat 21)] h (am_pV Q2 X2) ∧ (∀ h1, Q2 h1 →
   am_Ev tt 198 167 [some (.ref a0), none, some (.int (Int32.ofNat 0))] [] h1 (am_pV Q Qx)) ∧ (∀ E3 h1, X2 E3 h1 → Qx E3 h1))) :
  am_Ev tt 198 159 [some (.ref a0), none, none] [] h (am_pV Q Qx) := am_vc 8 [(32, [true, false, false]), (43, [true, false, false]), (72, [true, false, false]), (74, [true, false, false]), (82, [true, false, false]), (111, [true, false, false]), (113, [true, false, false]), (125, [true, false, false]), (133, [true, false, true]), (159, [true, false, false]), (167, [true, false, true]), (193, [true, false, false])] q
theorem vc_198_167 (tt : Nat → Nat) (a0 : Nat) (a2 : Int32) (h : am_H) (Q : am_H → Prop) (Qx : String → am_H → Prop) (q :
  (am_K h a0 = 11 ∧
  (((am_I h 10 41 a0) ≤ a2 →
   am_Ev tt 198 193 [some (.ref a0), none, none] [] h (am_pV Q Qx)) ∧
  (¬ ((am_I h 10 41 a0) ≤ a2) →
   (am_K h a0 = 11 ∧ ∃ q1, am_R h 10 49 a0 = some q1 ∧
   (am_K h a0 = 11 ∧ ∃ q2, am_R h 10 26 a0 = some q2 ∧
   ((am_K h q2 = 23 ∨ am_K h q2 = 24) ∧ vp_in a2 (am_N h q2) ∧
   (vp_in a2 (am_N h q1) ∧ ∃ w3, ((am_K h q1 = 23 ∧ w3 = ((am_A h q2 (a2).toNatClampNeg)).toInt8.toInt32) ∨ (am_K h q1 = 24 ∧ w3 = ((am_A h q2 (a2).toNatClampNeg) &&& 1))) ∧
   am_Ev tt 198 167 [some (.ref a0), none, some (.int (a2 + (Int32.ofNat 1)))] [] (am_sA h q1 (a2).toNatClampNeg w3) (am_pV Q Qx))))))))) :
  am_Ev tt 198 167 [some (.ref a0), none, some (.int a2)] [] h (am_pV Q Qx) := am_vc 17 [(32, [true, false, false]), (43, [true, false, false]), (72, [true, false, false]), (74, [true, false, false]), (82, [true, false, false]), (111, [true, false, false]), (113, [true, false, false]), (125, [true, false, false]), (133, [true, false, true]), (159, [true, false, false]), (167, [true, false, true]), (193, [true, false, false])] q
theorem vc_198_193 (tt : Nat → Nat) (a0 : Nat) (h : am_H) (Q : am_H → Prop) (Qx : String → am_H → Prop) (q :
  (am_K h a0 = 11 ∧ ∃ (Q2 : am_H → Prop) (X2 : String → am_H → Prop), am_Ct tt 180 [.ref a0, .int (Int32.ofNat 0)] h (am_pV Q2 X2) ∧ (∀ h1, Q2 h1 →
   Q h1) ∧ (∀ E3 h1, X2 E3 h1 → Qx E3 h1))) :
  am_Ev tt 198 193 [some (.ref a0), none, none] [] h (am_pV Q Qx) := am_vc 6 [(32, [true, false, false]), (43, [true, false, false]), (72, [true, false, false]), (74, [true, false, false]), (82, [true, false, false]), (111, [true, false, false]), (113, [true, false, false]), (125, [true, false, false]), (133, [true, false, true]), (159, [true, false, false]), (167, [true, false, true]), (193, [true, false, false])] q

abbrev ERd : Type := EN × US × VO × VO
def kE7 (F : Fn) (n : Nat) (x : ERd) (p : Nat) : Except pe (ERd × Nat) := bd (tX F n p 0) fun _ p => .ok (x, p)
def kE6 (F : Fn) (n : Nat) (en : EN) (nm : US) (tm : VO) (p : Nat) : Except pe (ERd × Nat) := bd (pVA F n en.1 21 4 p) fun av p => kE7 F n (en, nm, tm, av) p
def kE5 (F : Fn) (n : Nat) (en : EN) (nm : US) (p : Nat) : Except pe (ERd × Nat) := bd (pVA F n en.1 20 8 p) fun tm p => kE6 F n en nm tm p
def kE4 (F : Fn) (n : Nat) (en : EN) (p : Nat) : Except pe (ERd × Nat) := bd (pNa F n en.1 p) fun nm p => kE5 F n en nm p
def kE3 (F : Fn) (n files N : Nat) (em fl : Nat → Bool) (p : Nat) : Except pe (ERd × Nat) := bd (pMk F n 16 (N - files) p) fun an p => kE4 F n (N, em, fl, an) p
def kE2 (F : Fn) (n files N : Nat) (em : Nat → Bool) (p : Nat) : Except pe (ERd × Nat) := bd (pMk F n 15 (N - files) p) fun fl p => kE3 F n files N em fl p
def kE1 (F : Fn) (n files N : Nat) (p : Nat) : Except pe (ERd × Nat) := bd (pEm F n N files p) fun em p => kE2 F n files N em p
def kE0 (F : Fn) (n files : Nat) (p : Nat) : Except pe (ERd × Nat) := bd (tX F n p 5) fun _ p => bd (tN F n p (l64 (if files = 0 then 1 else files)) (l64 24)) fun N p => kE1 F n files N.toNatClampNeg p
/-- entries, as they are told -/
def pER (F : Fn) (n files p : Nat) : Except pe (ERd × Nat) := bd (tX F n p 5) fun _ p => bd (pEN F n files p) fun en p => bd (pNM F n en.1 p) fun nm p => bd (pVA F n en.1 20 8 p) fun tm p => bd (pVA F n en.1 21 4 p) fun av p => bd (tX F n p 0) fun _ p => .ok ((en, nm, tm, av), p)
theorem pER_k {F : Fn} {n files p : Nat} (hf : files ≤ 24) : pER F n files p = kE0 F n files p := by
  rw [pER, kE0]
  cases tX F n p 5 with
  | error e => rfl
  | ok a =>
    obtain ⟨u, p1⟩ := a
    show bd (pEN F n files p1) _ = bd (tN F n p1 _ _) _
    rw [pEN, bd_as]
    cases e1 : tN F n p1 (l64 (if files = 0 then 1 else files)) (l64 24) with
    | error e => rfl
    | ok a =>
      obtain ⟨N, p2⟩ := a
      obtain ⟨N', rfl, u1, u2, u3⟩ := tN_n (by split <;> omega) (by omega) e1
      rw [bd_o, bd_o, u3]
      have fN : files ≤ N' := by split at u1 <;> omega
      by_cases c : N' = files
      · rw [if_pos c, kE1, pEm, if_pos c, bd_o, kE2, pMk, if_pos (by omega), bd_o, kE3, pMk, if_pos (by omega), bd_o, kE4, pNa, bd_as, bd_as]
        simp only [kE5, kE6, kE7, bd_o]
      · rw [if_neg c, kE1, pEm, if_neg c]
        simp only [bd_as, bd_o]
        congr 1
        funext _ q1
        congr 1
        funext _ q2
        congr 1
        funext em q3
        by_cases c2 : cn em N' = N' - files
        · rw [if_neg (fun z => z c2), if_neg (fun z => z c2)]
          simp only [bd_as, bd_o, kE2, kE3, kE4, kE5, kE6, kE7, pMk, pNa, if_neg (show ¬ N' - files = 0 by omega)]
        · rw [if_pos c2, if_pos c2]; rfl
section MER
variable {tt : Nat → Nat} {F : Fn} {n m : Nat} {ad : Nat → Nat} {h h' h'' k k' : am_H} {s : Ms} {X Y X' Y' : Nat → Prop} {N files : Nat} {em fl an : Nat → Bool} {r : Except pe (ERd × Nat)}
abbrev Xen (k : Nat) : Prop := k = 26 ∨ (42 ≤ k ∧ k ≤ 50)
abbrev Yen (f : Nat) : Prop := f = 20 ∨ f = 27 ∨ f = 28 ∨ f = 51 ∨ f = 61 ∨ f = 62 ∨ f = 41
def eA (ad : Nat → Nat) (N : Nat) (em : Nat → Bool) (k : am_H) : Prop := ∀ j, j < N → am_A k (ad 42) j = b01 (em j)
def eB (ad : Nat → Nat) (a N : Nat) (em fl : Nat → Bool) (k : am_H) : Prop := ∀ j, j < N → am_A k (ad a) j = b01 (em j && fl (j - rk em j))
def eC (F : Fn) (ad : Nat → Nat) (N : Nat) (nm : US) (k : am_H) : Prop := ∀ j, j < N → nmR F ad j (nm.1 j) (nm.2 j) k
def eD (ad : Nat → Nat) (N : Nat) (tm : VO) (k : am_H) : Prop := ∀ j, j < N → am_A k (ad 47) j = b01 (tm j).isSome ∧ ∀ x, tm j = some x → am_B k (ad 48) j = x
def eE (ad : Nat → Nat) (N : Nat) (av : VO) (k : am_H) : Prop := ∀ j, j < N → am_A k (ad 49) j = b01 (av j).isSome ∧ ∀ x, av j = some x → am_A k (ad 50) j = x.toInt32
theorem eA.mo (q : eA ad N em k) (g : mg m ad X Y k k') (h1 : ¬ X 42) : eA ad N em k' := fun j hj => by rw [(g.2.1 42 h1).1]; exact q j hj
theorem eB.mo {a : Nat} (q : eB ad a N em fl k) (g : mg m ad X Y k k') (h1 : ¬ X a) : eB ad a N em fl k' := fun j hj => by rw [(g.2.1 a h1).1]; exact q j hj
theorem eC.mo {nm : US} (q : eC F ad N nm k) (g : mg m ad X Y k k') (h1 : ¬ X 45) (h2 : ¬ X 46) : eC F ad N nm k' := fun j hj => ⟨by rw [(g.2.1 45 h1).1]; exact (q j hj).1, fun i hi => by rw [(g.2.1 46 h2).1]; exact (q j hj).2 i hi⟩
theorem eD.mo {tm : VO} (q : eD ad N tm k) (g : mg m ad X Y k k') (h1 : ¬ X 47) (h2 : ¬ X 48) : eD ad N tm k' := fun j hj => ⟨by rw [(g.2.1 47 h1).1]; exact (q j hj).1, fun x hx => by rw [(g.2.1 48 h2).2]; exact (q j hj).2 x hx⟩
theorem eE.mo {av : VO} (q : eE ad N av k) (g : mg m ad X Y k k') (h1 : ¬ X 49) (h2 : ¬ X 50) : eE ad N av k' := fun j hj => ⟨by rw [(g.2.1 49 h1).1]; exact (q j hj).1, fun x hx => by rw [(g.2.1 50 h2).1]; exact (q j hj).2 x hx⟩
def enR (F : Fn) (m : Nat) (ad : Nat → Nat) (x : ERd) (k : am_H) : Prop := am_I k 10 41 m = Int32.ofNat x.1.1 ∧ eA ad x.1.1 x.1.2.1 k ∧ eB ad 43 x.1.1 x.1.2.1 x.1.2.2.1 k ∧ eB ad 44 x.1.1 x.1.2.1 x.1.2.2.2 k ∧ eC F ad x.1.1 x.2.1 k ∧ eD ad x.1.1 x.2.2.1 k ∧ eE ad x.1.1 x.2.2.2 k
theorem enR.mo {x : ERd} (q : enR F m ad x k) (g : mg m ad X Y k k') (h1 : ∀ r, 42 ≤ r → r ≤ 50 → ¬ X r) (h2 : ¬ Y 41) : enR F m ad x k' := by
  obtain ⟨q1, q2, q3, q4, q5, q6, q7⟩ := q
  exact ⟨by rw [(g.2.2 41 h2).1]; exact q1, q2.mo g (h1 _ (by omega) (by omega)), q3.mo g (h1 _ (by omega) (by omega)), q4.mo g (h1 _ (by omega) (by omega)), q5.mo g (h1 _ (by omega) (by omega)) (h1 _ (by omega) (by omega)), q6.mo g (h1 _ (by omega) (by omega)) (h1 _ (by omega) (by omega)), q7.mo g (h1 _ (by omega) (by omega)) (h1 _ (by omega) (by omega))⟩
def enRQ (F : Fn) (n m : Nat) (ad : Nat → Nat) (h : am_H) (r : Except pe (ERd × Nat)) (k : am_H) : Prop := MY F n k m ad (st r) ∧ mg m ad Xen Yen h k ∧ ∀ x p', r = .ok (x, p') → enR F m ad x k
theorem en_193 {x : ERd} (y : MY F n k m ad s) (g : mg m ad Xen Yen h k) (hr : r = bs s (kE7 F n x)) (hv : isOk s = true → enR F m ad x k) : am_Ev tt 198 193 [some (.ref m), none, none] [] k (am_pV (enRQ F n m ad h r) no_x) := by
  refine vc_198_193 tt _ _ _ _ ⟨y.1.1, _, _, ct_mneed y rfl, fun k1 w1 => ?_, fun _ _ z => z.elim⟩
  unfold kE7 at hr
  rw [bs_n ()] at hr
  have ok : ∀ v' p', r = .ok (v', p') → v' = x ∧ isOk s = true := by
    intro v' p' z
    rw [hr] at z
    generalize e : st (bs s fun p => tX F n p 0) = s2 at z
    cases s2 with
    | error e => cases z
    | ok q =>
      cases z
      exact ⟨rfl, ok_b (by rw [e]; rfl)⟩
  have es : st r = st (bs s fun p => tX F n p 0) := by
    rw [hr]
    generalize st (bs s fun p => tX F n p 0) = s2
    cases s2 with
    | error e => rfl
    | ok q => rfl
  refine ⟨by rw [es]; exact w1.1, g.tr (w1.2.mo (fun _ z => z.elim) (fun _ z => by omega)), fun v' p' z => ?_⟩
  obtain ⟨rfl, q⟩ := ok v' p' z
  exact (hv q).mo w1.2 (fun _ _ _ z => z) (by omega)
/-- a row of bits is copied -/
theorem en_167 {Q : am_H → Prop} (hN : N ≤ 24) (nx : ∀ k', MY F n k' m ad s → mg m ad (fun r => r = 49) Yz k k' → (∀ j, j < N → am_A k' (ad 49) j = am_A k (ad 26) j &&& 1) → am_Ev tt 198 193 [some (.ref m), none, none] [] k' (am_pV Q no_x)) (e41 : am_I k 10 41 m = Int32.ofNat N) : ∀ (d i : Nat) (k' : am_H), d + i = N → MY F n k' m ad s → mg m ad (fun r => r = 49) Yz k k' → (∀ j, j < i → am_A k' (ad 49) j = am_A k (ad 26) j &&& 1) → am_Ev tt 198 167 [some (.ref m), none, some (.int (Int32.ofNat i))] [] k' (am_pV Q no_x) := by
  intro d
  induction d with
  | zero =>
    intro i k' ei y g hc
    have : i = N := by omega
    subst this
    have kk := y.1.1
    have e41' : am_I k' 10 41 m = Int32.ofNat i := by rw [(g.2.2 41 id).1]; exact e41
    refine vc_198_167 tt _ _ _ _ _ ?_
    simp (disch := omega) only [kk, e41', qi_lt, qi_le, qi_eq, qi_nn, qi_in, qi_add, qi_l, ql_i, ql_lt, ql_le, ql_eq, ql_add, qc_lt, qc_eq, qc_ge, qc_gt, qc_le, true_and, and_true, and_self, true_or, or_true, false_or, or_false, false_and, and_false, not_true_eq_false, not_false_eq_true, Classical.not_not, true_implies, false_implies, implies_true, exists_eq_left, exists_eq_left', Option.some.injEq, reduceIte, Nat.reduceEqDiff, Nat.reduceLT, Nat.reduceLeDiff, Nat.reduceAdd, Nat.reduceSub, Nat.reduceMul, eq_self, ne_eq, and_imp, forall_const, reduceCtorEq, am_w, List.map_cons, List.map_nil, List.sum_cons, List.sum_nil, Value.category, Nat.zero_le, Nat.le_refl]
    exact nx k' y g hc
  | succ d ih =>
    intro i k' ei y g hc
    have kk := y.1.1
    have e41' : am_I k' 10 41 m = Int32.ofNat N := by rw [(g.2.2 41 id).1]; exact e41
    have q1 : ¬ N ≤ i := by omega
    have i24 : i < 24 := by omega
    have e26 : am_A k' (ad 26) i = am_A k (ad 26) i := by rw [(g.2.1 26 (by omega)).1]
    obtain ⟨b1, b2, b3⟩ := md_r y.1 (k := 26) (by decide) rfl (by decide)
    obtain ⟨c1, c2, c3⟩ := md_r y.1 (k := 49) (by decide) rfl (by decide)
    refine vc_198_167 tt _ _ _ _ _ ?_
    simp (disch := omega) only [kk, e41', q1, b1, b2, b3, c1, c2, c3, i24, e26, qi_lt, qi_le, qi_eq, qi_nn, qi_in, qi_add, qi_l, ql_i, ql_lt, ql_le, ql_eq, ql_add, qc_lt, qc_eq, qc_ge, qc_gt, qc_le, true_and, and_true, and_self, true_or, or_true, false_or, or_false, false_and, and_false, not_true_eq_false, not_false_eq_true, Classical.not_not, true_implies, false_implies, implies_true, exists_eq_left, exists_eq_left', Option.some.injEq, reduceIte, Nat.reduceEqDiff, Nat.reduceLT, Nat.reduceLeDiff, Nat.reduceAdd, Nat.reduceSub, Nat.reduceMul, eq_self, ne_eq, and_imp, forall_const, reduceCtorEq, am_w, List.map_cons, List.map_nil, List.sum_cons, List.sum_nil, Value.category, Nat.zero_le, Nat.le_refl]
    have s1 : mg m ad (fun r => r = 49) Yz k' (am_sA k' (ad 49) i (am_A k (ad 26) i &&& 1)) := mg.sA y.1 rfl
    refine ih (i + 1) _ (by omega) (y.on s1 (by omega) id id id id) (g.tr s1) (fun j hj => ?_)
    by_cases cj : j = i
    · subst cj
      simp only [am_hs, true_and, and_true, and_self, true_or, or_true, false_or, or_false, false_and, and_false, not_true_eq_false, not_false_eq_true, Classical.not_not, true_implies, false_implies, implies_true, exists_eq_left, exists_eq_left', Option.some.injEq, reduceIte, Nat.reduceEqDiff, Nat.reduceLT, Nat.reduceLeDiff, Nat.reduceAdd, Nat.reduceSub, Nat.reduceMul, eq_self, ne_eq, and_imp, forall_const, reduceCtorEq, am_w, List.map_cons, List.map_nil, List.sum_cons, List.sum_nil, Value.category, Nat.zero_le, Nat.le_refl]
    · simp (disch := omega) only [am_hs, cj, true_and, and_true, and_self, true_or, or_true, false_or, or_false, false_and, and_false, not_true_eq_false, not_false_eq_true, Classical.not_not, true_implies, false_implies, implies_true, exists_eq_left, exists_eq_left', Option.some.injEq, reduceIte, Nat.reduceEqDiff, Nat.reduceLT, Nat.reduceLeDiff, Nat.reduceAdd, Nat.reduceSub, Nat.reduceMul, eq_self, ne_eq, and_imp, forall_const, reduceCtorEq, am_w, List.map_cons, List.map_nil, List.sum_cons, List.sum_nil, Value.category, Nat.zero_le, Nat.le_refl]
      exact hc j (by omega)
theorem en_133 {Q : am_H → Prop} (hN : N ≤ 24) (nx : ∀ k', MY F n k' m ad s → mg m ad (fun r => r = 47) Yz k k' → (∀ j, j < N → am_A k' (ad 47) j = am_A k (ad 26) j &&& 1) → am_Ev tt 198 159 [some (.ref m), none, none] [] k' (am_pV Q no_x)) (e41 : am_I k 10 41 m = Int32.ofNat N) : ∀ (d i : Nat) (k' : am_H), d + i = N → MY F n k' m ad s → mg m ad (fun r => r = 47) Yz k k' → (∀ j, j < i → am_A k' (ad 47) j = am_A k (ad 26) j &&& 1) → am_Ev tt 198 133 [some (.ref m), none, some (.int (Int32.ofNat i))] [] k' (am_pV Q no_x) := by
  intro d
  induction d with
  | zero =>
    intro i k' ei y g hc
    have : i = N := by omega
    subst this
    have kk := y.1.1
    have e41' : am_I k' 10 41 m = Int32.ofNat i := by rw [(g.2.2 41 id).1]; exact e41
    refine vc_198_133 tt _ _ _ _ _ ?_
    simp (disch := omega) only [kk, e41', qi_lt, qi_le, qi_eq, qi_nn, qi_in, qi_add, qi_l, ql_i, ql_lt, ql_le, ql_eq, ql_add, qc_lt, qc_eq, qc_ge, qc_gt, qc_le, true_and, and_true, and_self, true_or, or_true, false_or, or_false, false_and, and_false, not_true_eq_false, not_false_eq_true, Classical.not_not, true_implies, false_implies, implies_true, exists_eq_left, exists_eq_left', Option.some.injEq, reduceIte, Nat.reduceEqDiff, Nat.reduceLT, Nat.reduceLeDiff, Nat.reduceAdd, Nat.reduceSub, Nat.reduceMul, eq_self, ne_eq, and_imp, forall_const, reduceCtorEq, am_w, List.map_cons, List.map_nil, List.sum_cons, List.sum_nil, Value.category, Nat.zero_le, Nat.le_refl]
    exact nx k' y g hc
  | succ d ih =>
    intro i k' ei y g hc
    have kk := y.1.1
    have e41' : am_I k' 10 41 m = Int32.ofNat N := by rw [(g.2.2 41 id).1]; exact e41
    have q1 : ¬ N ≤ i := by omega
    have i24 : i < 24 := by omega
    have e26 : am_A k' (ad 26) i = am_A k (ad 26) i := by rw [(g.2.1 26 (by omega)).1]
    obtain ⟨b1, b2, b3⟩ := md_r y.1 (k := 26) (by decide) rfl (by decide)
    obtain ⟨c1, c2, c3⟩ := md_r y.1 (k := 47) (by decide) rfl (by decide)
    refine vc_198_133 tt _ _ _ _ _ ?_
    simp (disch := omega) only [kk, e41', q1, b1, b2, b3, c1, c2, c3, i24, e26, qi_lt, qi_le, qi_eq, qi_nn, qi_in, qi_add, qi_l, ql_i, ql_lt, ql_le, ql_eq, ql_add, qc_lt, qc_eq, qc_ge, qc_gt, qc_le, true_and, and_true, and_self, true_or, or_true, false_or, or_false, false_and, and_false, not_true_eq_false, not_false_eq_true, Classical.not_not, true_implies, false_implies, implies_true, exists_eq_left, exists_eq_left', Option.some.injEq, reduceIte, Nat.reduceEqDiff, Nat.reduceLT, Nat.reduceLeDiff, Nat.reduceAdd, Nat.reduceSub, Nat.reduceMul, eq_self, ne_eq, and_imp, forall_const, reduceCtorEq, am_w, List.map_cons, List.map_nil, List.sum_cons, List.sum_nil, Value.category, Nat.zero_le, Nat.le_refl]
    have s1 : mg m ad (fun r => r = 47) Yz k' (am_sA k' (ad 47) i (am_A k (ad 26) i &&& 1)) := mg.sA y.1 rfl
    refine ih (i + 1) _ (by omega) (y.on s1 (by omega) id id id id) (g.tr s1) (fun j hj => ?_)
    by_cases cj : j = i
    · subst cj
      simp only [am_hs, true_and, and_true, and_self, true_or, or_true, false_or, or_false, false_and, and_false, not_true_eq_false, not_false_eq_true, Classical.not_not, true_implies, false_implies, implies_true, exists_eq_left, exists_eq_left', Option.some.injEq, reduceIte, Nat.reduceEqDiff, Nat.reduceLT, Nat.reduceLeDiff, Nat.reduceAdd, Nat.reduceSub, Nat.reduceMul, eq_self, ne_eq, and_imp, forall_const, reduceCtorEq, am_w, List.map_cons, List.map_nil, List.sum_cons, List.sum_nil, Value.category, Nat.zero_le, Nat.le_refl]
    · simp (disch := omega) only [am_hs, cj, true_and, and_true, and_self, true_or, or_true, false_or, or_false, false_and, and_false, not_true_eq_false, not_false_eq_true, Classical.not_not, true_implies, false_implies, implies_true, exists_eq_left, exists_eq_left', Option.some.injEq, reduceIte, Nat.reduceEqDiff, Nat.reduceLT, Nat.reduceLeDiff, Nat.reduceAdd, Nat.reduceSub, Nat.reduceMul, eq_self, ne_eq, and_imp, forall_const, reduceCtorEq, am_w, List.map_cons, List.map_nil, List.sum_cons, List.sum_nil, Value.category, Nat.zero_le, Nat.le_refl]
      exact hc j (by omega)
theorem en_159 (hN : N ≤ 24) {nm : US} {tm : VO} (y : MY F n k m ad s) (g : mg m ad Xen Yen h k) (e41 : am_I k 10 41 m = Int32.ofNat N) (hr : r = bs s (kE6 F n (N, em, fl, an) nm tm)) (hv : isOk s = true → eA ad N em k ∧ eB ad 43 N em fl k ∧ eB ad 44 N em an k ∧ eC F ad N nm k ∧ eD ad N tm k) : am_Ev tt 198 159 [some (.ref m), none, none] [] k (am_pV (enRQ F n m ad h r) no_x) := by
  unfold kE6 at hr
  rw [bs_n (fun _ => none)] at hr
  refine vc_198_159 tt _ _ _ _ ⟨y.1.1, _, _, ct_rvalued (t := 21) (w := 4) y hN (Or.inr ⟨rfl, rfl⟩) e41 rfl, fun k1 w1 => ?_, fun _ _ z => z.elim⟩
  obtain ⟨y1, g1, v1⟩ := w1
  have e41' : am_I k1 10 41 m = Int32.ofNat N := by rw [(g1.2.2 41 (by omega)).1]; exact e41
  refine en_167 (k := k1) hN (fun k2 y2 g2 c2 => ?_) e41' N 0 k1 (by omega) y1 mg.re (fun j hj => absurd hj (by omega))
  refine en_193 y2 (g.tr ((g1.mo (fun _ z => by omega) (fun _ z => by omega)).tr (g2.mo (fun _ z => by omega) (fun _ z => z.elim)))) hr (fun z => ?_)
  obtain ⟨p, e⟩ := ok_v (fun _ => none) z
  obtain ⟨q1, q2, q3, q4, q5⟩ := hv (ok_b z)
  have vv := v1 _ p e
  refine ⟨by rw [(g2.2.2 41 id).1]; exact e41', (q1.mo g1 (by omega)).mo g2 (by omega), (q2.mo g1 (by omega)).mo g2 (by omega), (q3.mo g1 (by omega)).mo g2 (by omega), (q4.mo g1 (by omega) (by omega)).mo g2 (by omega) (by omega), (q5.mo g1 (by omega) (by omega)).mo g2 (by omega) (by omega), fun j hj => ?_⟩
  obtain ⟨r1, r2⟩ := vv j hj
  exact ⟨by rw [c2 j hj]; exact b_and1 r1, fun x hx => by rw [(g2.2.1 50 (by omega)).1]; exact (r2 x hx).2 rfl⟩
theorem en_125 (hN : N ≤ 24) {nm : US} (y : MY F n k m ad s) (g : mg m ad Xen Yen h k) (e41 : am_I k 10 41 m = Int32.ofNat N) (hr : r = bs s (kE5 F n (N, em, fl, an) nm)) (hv : isOk s = true → eA ad N em k ∧ eB ad 43 N em fl k ∧ eB ad 44 N em an k ∧ eC F ad N nm k) : am_Ev tt 198 125 [some (.ref m), none, none] [] k (am_pV (enRQ F n m ad h r) no_x) := by
  unfold kE5 at hr
  rw [bs_n (fun _ => none)] at hr
  refine vc_198_125 tt _ _ _ _ ⟨y.1.1, _, _, ct_rvalued (t := 20) (w := 8) y hN (Or.inl ⟨rfl, rfl⟩) e41 rfl, fun k1 w1 => ?_, fun _ _ z => z.elim⟩
  obtain ⟨y1, g1, v1⟩ := w1
  have e41' : am_I k1 10 41 m = Int32.ofNat N := by rw [(g1.2.2 41 (by omega)).1]; exact e41
  refine en_133 (k := k1) hN (fun k2 y2 g2 c2 => ?_) e41' N 0 k1 (by omega) y1 mg.re (fun j hj => absurd hj (by omega))
  refine en_159 hN y2 (g.tr ((g1.mo (fun _ z => by omega) (fun _ z => by omega)).tr (g2.mo (fun _ z => by omega) (fun _ z => z.elim)))) (by rw [(g2.2.2 41 id).1]; exact e41') hr (fun z => ?_)
  obtain ⟨p, e⟩ := ok_v (fun _ => none) z
  obtain ⟨q1, q2, q3, q4⟩ := hv (ok_b z)
  have vv := v1 _ p e
  refine ⟨(q1.mo g1 (by omega)).mo g2 (by omega), (q2.mo g1 (by omega)).mo g2 (by omega), (q3.mo g1 (by omega)).mo g2 (by omega), (q4.mo g1 (by omega) (by omega)).mo g2 (by omega) (by omega), fun j hj => ?_⟩
  obtain ⟨r1, r2⟩ := vv j hj
  exact ⟨by rw [c2 j hj]; exact b_and1 r1, fun x hx => by rw [(g2.2.1 48 (by omega)).2]; exact (r2 x hx).1 rfl⟩
/-- spread marks are the told ones -/
theorem sp_e {a E : Nat} (hE : cn em N = E) (q1 : eA ad N em k) (q2 : ∀ j, j < E → am_A k (ad 26) j = b01 (fl j)) (w : ∀ j, j < N → am_A k' (ad a) j = b01 (decide (¬ am_A k (ad 42) j = Int32.ofNat 0) && decide (¬ am_A k (ad 26) (j - rk (fun j => decide (¬ am_A k (ad 42) j = Int32.ofNat 0)) j) = Int32.ofNat 0))) : eB ad a N em fl k' := by
  have db : ∀ (v : Int32) (b : Bool), v = b01 b → decide (¬ v = Int32.ofNat 0) = b := by
    intro v b e
    subst e
    cases b <;> rfl
  intro j hj
  rw [w j hj]
  have er : rk (fun j => decide (¬ am_A k (ad 42) j = Int32.ofNat 0)) j = rk em j := rk_c j (fun i hi => db _ _ (q1 i (by omega)))
  rw [er, db _ _ (q1 j hj)]
  cases ej : em j with
  | false => rfl
  | true =>
    have := cn_lt hj ej
    rw [db _ _ (q2 _ (by omega))]
theorem en_113 (hN : N ≤ 24) (y : MY F n k m ad s) (g : mg m ad Xen Yen h k) (e41 : am_I k 10 41 m = Int32.ofNat N) (hr : r = bs s (kE4 F n (N, em, fl, an))) (hv : isOk s = true → eA ad N em k ∧ eB ad 43 N em fl k ∧ cn em N = N - files ∧ ∀ j, j < N - files → am_A k (ad 26) j = b01 (an j)) : am_Ev tt 198 113 [some (.ref m), none, none] [] k (am_pV (enRQ F n m ad h r) no_x) := by
  unfold kE4 at hr
  rw [bs_n (fun _ => 0, fun _ => 0)] at hr
  obtain ⟨b1, b2, b3⟩ := md_r y.1 (k := 44) (by decide) rfl (by decide)
  refine vc_198_113 tt _ _ _ _ ⟨y.1.1, _, b1, y.1.1, _, _, ct_rspread y.1 (a := 44) (Or.inr rfl) hN e41, fun k1 w1 => ?_, fun _ _ z => z.elim⟩
  obtain ⟨g1, c1⟩ := w1
  have y1 := y.on g1 (by omega) id id id id
  have e41' : am_I k1 10 41 m = Int32.ofNat N := by rw [(g1.2.2 41 id).1]; exact e41
  refine ⟨y1.1.1, _, _, ct_rnaming y1 hN e41' rfl, fun k2 w2 => ?_, fun _ _ z => z.elim⟩
  obtain ⟨y2, g2, v2⟩ := w2
  refine en_125 hN y2 (g.tr ((g1.mo (fun _ z => by omega) (fun _ z => z.elim)).tr (g2.mo (fun _ z => by omega) (fun _ z => by omega)))) (by rw [(g2.2.2 41 (by omega)).1]; exact e41') hr (fun z => ?_)
  obtain ⟨p, e⟩ := ok_v (fun _ => 0, fun _ => 0) z
  obtain ⟨q1, q2, q3, q4⟩ := hv (ok_b z)
  exact ⟨(q1.mo g1 (by omega)).mo g2 (by omega), (q2.mo g1 (by omega)).mo g2 (by omega), (sp_e q3 q1 q4 c1).mo g2 (by omega), v2 _ p e⟩
theorem en_82 (hN : N ≤ 24) (hf : isOk s = true → files ≤ N ∧ am_I k 10 29 m = Int32.ofNat files) (y : MY F n k m ad s) (g : mg m ad Xen Yen h k) (e41 : am_I k 10 41 m = Int32.ofNat N) (hr : r = bs s (kE3 F n files N em fl)) (hv : isOk s = true → eA ad N em k ∧ eB ad 43 N em fl k ∧ cn em N = N - files) : am_Ev tt 198 82 [some (.ref m), none, none] [] k (am_pV (enRQ F n m ad h r) no_x) := by
  have kk := y.1.1
  refine vc_198_82 tt _ _ _ _ ⟨kk, _, _, ct_mfine y, fun z k1 e1 => ?_, fun _ _ z => z.elim⟩
  obtain ⟨rfl, rfl⟩ := e1
  cases s with
  | error e => exact ⟨fun _ => vc_198_111 tt _ _ _ _ (en_113 (files := 0) (em := em) (fl := fl) (an := fl) hN y g e41 hr (fun z => by cases z)), fun z => absurd rfl z⟩
  | ok p =>
    obtain ⟨fN, e29⟩ := hf rfl
    obtain ⟨q1, q2, q3⟩ := hv rfl
    refine ⟨fun z => absurd z (show ¬ Int32.ofNat 1 = Int32.ofNat 0 by decide), fun _ => ⟨kk, kk, kk, ?_⟩⟩
    rw [e41, e29, qi_sub fN]
    refine ⟨_, _, ct_rmarks y (t := 16) (E := N - files) (by omega) (by omega) rfl, fun v k2 w2 => ?_, fun _ _ z => z.elim⟩
    obtain ⟨y2, g2, v2⟩ := w2
    have nx : am_Ev tt 198 113 [some (.ref m), none, none] [] k2 (am_pV (enRQ F n m ad h r) no_x) := by
      unfold kE3 at hr
      rw [bs_n (fun _ => false)] at hr
      refine en_113 (files := files) hN y2 (g.tr (g2.mo (fun _ z => by omega) (fun _ z => by omega))) (by rw [(g2.2.2 41 (by omega)).1]; exact e41) hr (fun z => ?_)
      obtain ⟨p', e⟩ := ok_v (fun _ => false) z
      exact ⟨q1.mo g2 (by omega), q2.mo g2 (by omega), q3, v2 _ p' e⟩
    exact ⟨fun _ => vc_198_111 tt _ _ _ _ nx, fun _ => nx⟩
theorem en_74 (hN : N ≤ 24) (hf : isOk s = true → files ≤ N ∧ am_I k 10 29 m = Int32.ofNat files) (y : MY F n k m ad s) (g : mg m ad Xen Yen h k) (e41 : am_I k 10 41 m = Int32.ofNat N) (hr : r = bs s (kE3 F n files N em fl)) (hv : isOk s = true → eA ad N em k ∧ cn em N = N - files ∧ ∀ j, j < N - files → am_A k (ad 26) j = b01 (fl j)) : am_Ev tt 198 74 [some (.ref m), none, none] [] k (am_pV (enRQ F n m ad h r) no_x) := by
  obtain ⟨b1, b2, b3⟩ := md_r y.1 (k := 43) (by decide) rfl (by decide)
  refine vc_198_74 tt _ _ _ _ ⟨y.1.1, _, b1, y.1.1, _, _, ct_rspread y.1 (a := 43) (Or.inl rfl) hN e41, fun k1 w1 => ?_, fun _ _ z => z.elim⟩
  obtain ⟨g1, c1⟩ := w1
  refine en_82 hN (fun z => ⟨(hf z).1, by rw [(g1.2.2 29 id).1]; exact (hf z).2⟩) (y.on g1 (by omega) id id id id) (g.tr (g1.mo (fun _ z => by omega) (fun _ z => z.elim))) (by rw [(g1.2.2 41 id).1]; exact e41) hr (fun z => ?_)
  obtain ⟨q1, q2, q3⟩ := hv z
  exact ⟨q1.mo g1 (by omega), sp_e q2 q1 q3 c1, q2⟩
theorem en_43 (hN : N ≤ 24) (hf : isOk s = true → files ≤ N ∧ am_I k 10 29 m = Int32.ofNat files) (y : MY F n k m ad s) (g : mg m ad Xen Yen h k) (e41 : am_I k 10 41 m = Int32.ofNat N) (hr : r = bs s (kE2 F n files N em)) (hv : isOk s = true → eA ad N em k ∧ cn em N = N - files) : am_Ev tt 198 43 [some (.ref m), none, none] [] k (am_pV (enRQ F n m ad h r) no_x) := by
  have kk := y.1.1
  refine vc_198_43 tt _ _ _ _ ⟨kk, _, _, ct_mfine y, fun z k1 e1 => ?_, fun _ _ z => z.elim⟩
  obtain ⟨rfl, rfl⟩ := e1
  cases s with
  | error e => exact ⟨fun _ => vc_198_72 tt _ _ _ _ (en_74 (files := files) (em := em) (fl := em) hN (fun z => by cases z) y g e41 hr (fun z => by cases z)), fun z => absurd rfl z⟩
  | ok p =>
    obtain ⟨fN, e29⟩ := hf rfl
    obtain ⟨q1, q3⟩ := hv rfl
    refine ⟨fun z => absurd z (show ¬ Int32.ofNat 1 = Int32.ofNat 0 by decide), fun _ => ⟨kk, kk, kk, ?_⟩⟩
    rw [e41, e29, qi_sub fN]
    refine ⟨_, _, ct_rmarks y (t := 15) (E := N - files) (by omega) (by omega) rfl, fun v k2 w2 => ?_, fun _ _ z => z.elim⟩
    obtain ⟨y2, g2, v2⟩ := w2
    have nx : am_Ev tt 198 74 [some (.ref m), none, none] [] k2 (am_pV (enRQ F n m ad h r) no_x) := by
      unfold kE2 at hr
      rw [bs_n (fun _ => false)] at hr
      refine en_74 (files := files) hN (fun _ => ⟨fN, by rw [(g2.2.2 29 (by omega)).1]; exact e29⟩) y2 (g.tr (g2.mo (fun _ z => by omega) (fun _ z => by omega))) (by rw [(g2.2.2 41 (by omega)).1]; exact e41) hr (fun z => ?_)
      obtain ⟨p', e⟩ := ok_v (fun _ => false) z
      exact ⟨q1.mo g2 (by omega), q3, v2 _ p' e⟩
    exact ⟨fun _ => vc_198_72 tt _ _ _ _ nx, fun _ => nx⟩
theorem pEm_c {p p' : Nat} (h : pEm F n N files p = .ok (em, p')) : cn em N = N - files := by
  unfold pEm at h
  split at h
  · next c =>
    cases h
    rw [c, Nat.sub_self]
    exact cn_f files
  · obtain ⟨_, _, _, h⟩ := bd_inv h
    obtain ⟨_, _, _, h⟩ := bd_inv h
    obtain ⟨g, _, _, h⟩ := bd_inv h
    split at h
    · cases h
    · next c => cases h; exact Classical.not_not.1 c
theorem en_32 (hN : N ≤ 24) (hf : isOk s = true → files ≤ N ∧ am_I k 10 29 m = Int32.ofNat files) (y : MY F n k m ad s) (g : mg m ad Xen Yen h k) (e41 : am_I k 10 41 m = Int32.ofNat N) (hr : r = bs s (kE1 F n files N)) : am_Ev tt 198 32 [some (.ref m), none, none] [] k (am_pV (enRQ F n m ad h r) no_x) := by
  have kk := y.1.1
  refine vc_198_32 tt _ _ _ _ ⟨kk, _, _, ct_mfine y, fun z k1 e1 => ?_, fun _ _ z => z.elim⟩
  obtain ⟨rfl, rfl⟩ := e1
  cases s with
  | error e => exact ⟨fun _ => en_43 (files := files) (em := fun _ => false) hN (fun z => by cases z) y g e41 hr (fun z => by cases z), fun z => absurd rfl z⟩
  | ok p =>
    obtain ⟨fN, e29⟩ := hf rfl
    refine ⟨fun z => absurd z (show ¬ Int32.ofNat 1 = Int32.ofNat 0 by decide), fun _ => ⟨kk, _, _, ct_rempties y hN fN e41 e29 rfl, fun k2 w2 => ?_, fun _ _ z => z.elim⟩⟩
    obtain ⟨y2, g2, v2⟩ := w2
    unfold kE1 at hr
    rw [bs_n (fun _ => false)] at hr
    refine en_43 (files := files) hN (fun _ => ⟨fN, by rw [(g2.2.2 29 (by omega)).1]; exact e29⟩) y2 (g.tr (g2.mo (fun _ z => by omega) (fun _ z => by omega))) (by rw [(g2.2.2 41 (by omega)).1]; exact e41) hr (fun z => ?_)
    obtain ⟨p', e⟩ := ok_v (fun _ => false) z
    exact ⟨v2 _ p' e, pEm_c e⟩
theorem ct_rentryRows (y : MY F n h m ad s) (hf : isOk s = true → files ≤ 24 ∧ am_I h 10 29 m = Int32.ofNat files) (hr : r = bs s (pER F n files)) : am_Ct tt 198 [.ref m] h (am_pV (enRQ F n m ad h r) no_x) := by
  refine vc_198_0 tt _ h _ _ ⟨y.1.1, _, _, ct_mneed y rfl, fun k1 w1 => ⟨w1.1.1.1, ?_⟩, fun _ _ z => z.elim⟩
  obtain ⟨y1, g1⟩ := w1
  have kk1 := y1.1.1
  have g1' : mg m ad Xen Yen h k1 := g1.mo (fun _ z => z.elim) (fun _ z => by omega)
  -- on, with the number
  have nx : ∀ (l : Int64) (x : Int32) (k2 : am_H), (isOk (st (bs s fun p => tX F n p 5)) = true → l = l64 (if files = 0 then 1 else files)) → MY F n k2 m ad (st (bs (st (bs s fun p => tX F n p 5)) fun p => tN F n p l (l64 24))) → mg m ad Xn Yn k1 k2 → (∀ a p', (bs (st (bs s fun p => tX F n p 5)) fun p => tN F n p l (l64 24)) = .ok (a, p') → x = a.toInt32) → (∀ e, (bs (st (bs s fun p => tX F n p 5)) fun p => tN F n p l (l64 24)) = .error e → x = Int32.ofNat 0) → am_Ev tt 198 32 [some (.ref m), none, none] [] (am_sI k2 10 41 m x) (am_pV (enRQ F n m ad h r) no_x) := by
    intro l x k2 hl y2 g2 v2 v2e
    have s1 : mg m ad Xn (fun f => f = 41) k2 (am_sI k2 10 41 m x) := mg.sI rfl
    have y3 := y2.on s1 (fun z => z) (by omega) (by omega) (by omega) (by omega)
    have gg : mg m ad Xen Yen h (am_sI k2 10 41 m x) := g1'.tr ((g2.mo (fun _ z => z.elim) (fun _ z => by omega)).tr (s1.mo (fun _ z => z.elim) (fun _ z => by omega)))
    cases es : (st (bs s fun p => tX F n p 5)) with
    | error e =>
      rw [es] at y3 v2e
      have ex := v2e e rfl
      subst ex
      have er : r = .error e := by
        rw [hr]
        cases s with
        | error e' => cases es; rfl
        | ok p =>
          show pER F n files p = _
          have es : st (tX F n p 5) = .error e := es
          rw [pER]
          cases e5 : tX F n p 5 with
          | error e' => rw [e5] at es; cases es; rfl
          | ok a => rw [e5] at es; cases es
      exact en_32 (N := 0) (files := 0) (s := .error e) (by omega) (fun z => by cases z) y3 gg (by simp only [am_hs, true_and, and_true, and_self, true_or, or_true, false_or, or_false, false_and, and_false, not_true_eq_false, not_false_eq_true, Classical.not_not, true_implies, false_implies, implies_true, exists_eq_left, exists_eq_left', Option.some.injEq, reduceIte, Nat.reduceEqDiff, Nat.reduceLT, Nat.reduceLeDiff, Nat.reduceAdd, Nat.reduceSub, Nat.reduceMul, eq_self, ne_eq, and_imp, forall_const, reduceCtorEq, am_w, List.map_cons, List.map_nil, List.sum_cons, List.sum_nil, Value.category, Nat.zero_le, Nat.le_refl]) er
    | ok p1 =>
      rw [es] at y3 v2 v2e hl
      have hl := hl rfl
      subst hl
      have so := ok_b (s := s) (a := fun p => tX F n p 5) (by rw [es]; rfl)
      obtain ⟨f24, e29⟩ := hf so
      have hr2 : r = bd (tN F n p1 (l64 (if files = 0 then 1 else files)) (l64 24)) fun N p => kE1 F n files N.toNatClampNeg p := by
        rw [hr]
        cases s with
        | error e' => cases so
        | ok p =>
          show pER F n files p = _
          have es : st (tX F n p 5) = .ok p1 := es
          rw [pER_k f24, kE0]
          cases e5 : tX F n p 5 with
          | error e' => rw [e5] at es; cases es
          | ok a => rw [e5] at es; cases es; rfl
      have y3 : MY F n (am_sI k2 10 41 m x) m ad (st (tN F n p1 (l64 (if files = 0 then 1 else files)) (l64 24))) := y3
      have v2 : ∀ a p', tN F n p1 (l64 (if files = 0 then 1 else files)) (l64 24) = .ok (a, p') → x = a.toInt32 := v2
      have v2e : ∀ e, tN F n p1 (l64 (if files = 0 then 1 else files)) (l64 24) = .error e → x = Int32.ofNat 0 := v2e
      cases e1 : tN F n p1 (l64 (if files = 0 then 1 else files)) (l64 24) with
      | error e =>
        have ex := v2e e e1
        subst ex
        rw [e1] at y3 hr2
        exact en_32 (N := 0) (files := 0) (s := .error e) (by omega) (fun z => by cases z) y3 gg (by simp only [am_hs, true_and, and_true, and_self, true_or, or_true, false_or, or_false, false_and, and_false, not_true_eq_false, not_false_eq_true, Classical.not_not, true_implies, false_implies, implies_true, exists_eq_left, exists_eq_left', Option.some.injEq, reduceIte, Nat.reduceEqDiff, Nat.reduceLT, Nat.reduceLeDiff, Nat.reduceAdd, Nat.reduceSub, Nat.reduceMul, eq_self, ne_eq, and_imp, forall_const, reduceCtorEq, am_w, List.map_cons, List.map_nil, List.sum_cons, List.sum_nil, Value.category, Nat.zero_le, Nat.le_refl]) hr2
      | ok a =>
        obtain ⟨a, p2⟩ := a
        obtain ⟨N', rfl, u1, u2, u3⟩ := tN_n (by split <;> omega) (by omega) e1
        have ex : x = Int32.ofNat N' := by rw [v2 _ _ e1]; exact ql_i
        subst ex
        rw [e1] at y3 hr2
        have hr2 : r = kE1 F n files (Int64.ofNat N').toNatClampNeg p2 := hr2
        rw [u3] at hr2
        exact en_32 (N := N') (files := files) (s := .ok p2) u2 (fun _ => ⟨by split at u1 <;> omega, by rw [(s1.2.2 29 (by omega)).1, (g2.2.2 29 (by omega)).1, (g1.2.2 29 (by omega)).1]; exact e29⟩) y3 gg (by simp only [am_hs, true_and, and_true, and_self, true_or, or_true, false_or, or_false, false_and, and_false, not_true_eq_false, not_false_eq_true, Classical.not_not, true_implies, false_implies, implies_true, exists_eq_left, exists_eq_left', Option.some.injEq, reduceIte, Nat.reduceEqDiff, Nat.reduceLT, Nat.reduceLeDiff, Nat.reduceAdd, Nat.reduceSub, Nat.reduceMul, eq_self, ne_eq, and_imp, forall_const, reduceCtorEq, am_w, List.map_cons, List.map_nil, List.sum_cons, List.sum_nil, Value.category, Nat.zero_le, Nat.le_refl]) hr2
  have hf1 : isOk (st (bs s fun p => tX F n p 5)) = true → files ≤ 24 ∧ am_I k1 10 29 m = Int32.ofNat files := fun z => ⟨(hf (ok_b z)).1, by rw [(g1.2.2 29 (by omega)).1]; exact (hf (ok_b z)).2⟩
  refine ⟨fun c => ⟨kk1, _, _, ct_rnumberIn y1 (l := l64 1) (u := l64 24) (by decide) rfl, fun x k2 w2 => ⟨w2.1.1.1, nx _ x k2 (fun z => ?_) w2.1 w2.2.1 w2.2.2.1 w2.2.2.2.1⟩, fun _ _ z => z.elim⟩, fun c => ⟨kk1, kk1, _, _, ct_rnumberIn y1 (l := (am_I k1 10 29 m).toInt64) (u := l64 24) ?_ rfl, fun x k2 w2 => ⟨w2.1.1.1, nx _ x k2 (fun z => ?_) w2.1 w2.2.1 w2.2.2.1 w2.2.2.2.1⟩, fun _ _ z => z.elim⟩⟩
  · obtain ⟨f24, e29⟩ := hf1 z
    rw [e29, qi_le (by omega) (by omega)] at c
    rw [if_pos (by omega)]
  · rw [Int64.le_iff_toInt_le, Int32.toInt_toInt64]
    rw [Int32.le_iff_toInt_le] at c
    have e0 : (Int64.ofNat 0).toInt = 0 := rfl
    have e1 : (Int32.ofNat 0).toInt = 0 := rfl
    omega
  · obtain ⟨f24, e29⟩ := hf1 z
    rw [e29, qi_le (by omega) (by omega)] at c
    rw [if_neg (by omega), e29, qi_l (by omega)]
end MER
