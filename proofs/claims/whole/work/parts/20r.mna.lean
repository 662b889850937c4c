/-! deps: 20q -/
/-! ===== the reference reads: names ===== -/
/-! 196 yX10_naming -/
theorem vc_196_0 (tt : Nat → Nat) (a0 : Nat) (h : am_H) (Q : am_H → Prop) (Qx : String → am_H → Prop) (q :
  (am_K h a0 = 11 ∧ ∃ (Q2 : am_H → Prop) (X2 : String → am_H → Prop), am_Ct tt 180 [.ref a0, .int (Int32.ofNat 17)] h (am_pV Q2 X2) ∧ (∀ h1, Q2 h1 →
   (am_K h1 a0 = 11 ∧ ∃ (Q4 : am_H → Prop) (X4 : String → am_H → Prop), am_Ct tt 191 [.ref a0] h1 (am_pV Q4 X4) ∧ (∀ h3, Q4 h3 →
    (am_K h3 a0 = 11 ∧
    (am_K h3 a0 = 11 ∧ ∃ (Q6 : am_H → Prop) (X6 : String → am_H → Prop), am_Ct tt 180 [.ref a0, .int (Int32.ofNat 0)] h3 (am_pV Q6 X6) ∧ (∀ h5, Q6 h5 →
     am_Ev tt 196 22 [some (.ref a0), some (.int (am_I h3 10 27 a0)), some (.int (Int32.ofNat 0)), none, none] [] h5 (am_pV Q Qx)) ∧ (∀ E7 h5, X6 E7 h5 → Qx E7 h5)))) ∧ (∀ E8 h3, X4 E8 h3 → Qx E8 h3))) ∧ (∀ E9 h1, X2 E9 h1 → Qx E9 h1))) :
  am_Ev tt 196 0 [some (.ref a0), none, none, none, none] [] h (am_pV Q Qx) := am_vc 16 [(22, [true, true, true, false, false]), (52, [true, true, true, true, true]), (107, [true, true, true, true, true]), (117, [true, true, true, true, true]), (160, [true, true, true, false, false]), (166, [true, true, false, false, false])] q
theorem vc_196_22 (tt : Nat → Nat) (a0 : Nat) (a1 : Int32) (a2 : Int32) (h : am_H) (Q : am_H → Prop) (Qx : String → am_H → Prop) (q :
  (am_K h a0 = 11 ∧
  (((am_I h 10 41 a0) ≤ a2 →
   am_Ev tt 196 166 [some (.ref a0), some (.int a1), none, none, none] [] h (am_pV Q Qx)) ∧
  (¬ ((am_I h 10 41 a0) ≤ a2) →
   (am_K h a0 = 11 ∧ ∃ (Q2 : Int32 → am_H → Prop) (X2 : String → am_H → Prop), am_Ct tt 176 [.ref a0] h (am_pI Q2 X2) ∧ (∀ x3 h1, Q2 x3 h1 →
    ((x3 = (Int32.ofNat 0) →
     am_Ev tt 196 166 [some (.ref a0), some (.int a1), none, none, none] [] h1 (am_pV Q Qx)) ∧
    (¬ (x3 = (Int32.ofNat 0)) →
     (am_K h1 a0 = 11 ∧
     (am_K h1 a0 = 11 ∧ ∃ q4, am_R h1 10 45 a0 = some q4 ∧
     (am_K h1 q4 = 21 ∧ vp_in a2 (am_N h1 q4) ∧
     am_Ev tt 196 52 [some (.ref a0), some (.int a1), some (.int a2), some (.int (am_I h1 10 27 a0)), some (.int (Int32.ofNat 1))] [] (am_sA h1 q4 (a2).toNatClampNeg (Int32.ofNat 0)) (am_pV Q Qx))))))) ∧ (∀ E5 h1, X2 E5 h1 → Qx E5 h1)))))) :
  am_Ev tt 196 22 [some (.ref a0), some (.int a1), some (.int a2), none, none] [] h (am_pV Q Qx) := am_vc 20 [(22, [true, true, true, false, false]), (52, [true, true, true, true, true]), (107, [true, true, true, true, true]), (117, [true, true, true, true, true]), (160, [true, true, true, false, false]), (166, [true, true, false, false, false])] q
theorem vc_196_52 (tt : Nat → Nat) (a0 : Nat) (a1 : Int32) (a2 : Int32) (a3 : Int32) (a4 : Int32) (h : am_H) (Q : am_H → Prop) (Qx : String → am_H → Prop) (q :
  ((a4 = (Int32.ofNat 0) →
   am_Ev tt 196 160 [some (.ref a0), some (.int a1), some (.int a2), none, none] [] h (am_pV Q Qx)) ∧
  (¬ (a4 = (Int32.ofNat 0)) →
   (am_K h a0 = 11 ∧ ∃ (Q2 : Int32 → am_H → Prop) (X2 : String → am_H → Prop), am_Ct tt 176 [.ref a0] h (am_pI Q2 X2) ∧ (∀ x3 h1, Q2 x3 h1 →
    ((x3 = (Int32.ofNat 0) →
     am_Ev tt 196 160 [some (.ref a0), some (.int a1), some (.int a2), none, none] [] h1 (am_pV Q Qx)) ∧
    (¬ (x3 = (Int32.ofNat 0)) →
     (am_K h1 a0 = 11 ∧ ∃ (Q5 : Int64 → am_H → Prop) (X5 : String → am_H → Prop), am_Ct tt 183 [.ref a0, .int (Int32.ofNat 2)] h1 (am_pL Q5 X5) ∧ (∀ x6 h4, Q5 x6 h4 →
      (am_K h4 a0 = 11 ∧ ∃ (Q8 : Int32 → am_H → Prop) (X8 : String → am_H → Prop), am_Ct tt 176 [.ref a0] h4 (am_pI Q8 X8) ∧ (∀ x9 h7, Q8 x9 h7 →
       ((x9 = (Int32.ofNat 0) →
        am_Ev tt 196 117 [some (.ref a0), some (.int a1), some (.int a2), some (.int a3), some (.int (x6).toInt32)] [] h7 (am_pV Q Qx)) ∧
       (¬ (x9 = (Int32.ofNat 0)) →
        ((¬ (x6).toInt32 = (Int32.ofNat 0) →
         (am_K h7 a0 = 11 ∧ ∃ q10, am_R h7 10 45 a0 = some q10 ∧
         ((am_K h7 q10 = 21 ∨ am_K h7 q10 = 31) ∧ vp_in a2 (am_N h7 q10) ∧
         ((¬ (am_A h7 q10 (a2).toNatClampNeg) = (Int32.ofNat 20) →
          am_Ev tt 196 117 [some (.ref a0), some (.int a1), some (.int a2), some (.int a3), some (.int (x6).toInt32)] [] h7 (am_pV Q Qx)) ∧
         (¬ (¬ (am_A h7 q10 (a2).toNatClampNeg) = (Int32.ofNat 20)) →
          am_Ev tt 196 107 [some (.ref a0), some (.int a1), some (.int a2), some (.int a3), some (.int (x6).toInt32)] [] h7 (am_pV Q Qx)))))) ∧
        (¬ (¬ (x6).toInt32 = (Int32.ofNat 0)) →
         (am_K h7 a0 = 11 ∧ ∃ q11, am_R h7 10 45 a0 = some q11 ∧
         ((am_K h7 q11 = 21 ∨ am_K h7 q11 = 31) ∧ vp_in a2 (am_N h7 q11) ∧
         ((¬ (am_A h7 q11 (a2).toNatClampNeg) = (Int32.ofNat 0) →
          am_Ev tt 196 117 [some (.ref a0), some (.int a1), some (.int a2), some (.int a3), some (.int (x6).toInt32)] [] h7 (am_pV Q Qx)) ∧
         (¬ (¬ (am_A h7 q11 (a2).toNatClampNeg) = (Int32.ofNat 0)) →
          am_Ev tt 196 107 [some (.ref a0), some (.int a1), some (.int a2), some (.int a3), some (.int (x6).toInt32)] [] h7 (am_pV Q Qx)))))))))) ∧ (∀ E12 h7, X8 E12 h7 → Qx E12 h7))) ∧ (∀ E13 h4, X5 E13 h4 → Qx E13 h4))))) ∧ (∀ E14 h1, X2 E14 h1 → Qx E14 h1))))) :
  am_Ev tt 196 52 [some (.ref a0), some (.int a1), some (.int a2), some (.int a3), some (.int a4)] [] h (am_pV Q Qx) := am_vc 24 [(22, [true, true, true, false, false]), (52, [true, true, true, true, true]), (107, [true, true, true, true, true]), (117, [true, true, true, true, true]), (160, [true, true, true, false, false]), (166, [true, true, false, false, false])] q
theorem vc_196_107 (tt : Nat → Nat) (a0 : Nat) (a1 : Int32) (a2 : Int32) (a3 : Int32) (a4 : Int32) (h : am_H) (Q : am_H → Prop) (Qx : String → am_H → Prop) (q :
  (am_K h a0 = 11 ∧ ∃ (Q2 : am_H → Prop) (X2 : String → am_H → Prop), am_Ct tt 177 [.ref a0, .int (Int32.ofNat 8), .int a3] h (am_pV Q2 X2) ∧ (∀ h1, Q2 h1 →
   am_Ev tt 196 52 [some (.ref a0), some (.int a1), some (.int a2), some (.int a3), some (.int a4)] [] h1 (am_pV Q Qx)) ∧ (∀ E3 h1, X2 E3 h1 → Qx E3 h1))) :
  am_Ev tt 196 107 [some (.ref a0), some (.int a1), some (.int a2), some (.int a3), some (.int a4)] [] h (am_pV Q Qx) := am_vc 8 [(22, [true, true, true, false, false]), (52, [true, true, true, true, true]), (107, [true, true, true, true, true]), (117, [true, true, true, true, true]), (160, [true, true, true, false, false]), (166, [true, true, false, false, false])] q
theorem vc_196_117 (tt : Nat → Nat) (a0 : Nat) (a1 : Int32) (a2 : Int32) (a3 : Int32) (a4 : Int32) (h : am_H) (Q : am_H → Prop) (Qx : String → am_H → Prop) (q :
  (am_K h a0 = 11 ∧ ∃ (Q2 : Int32 → am_H → Prop) (X2 : String → am_H → Prop), am_Ct tt 176 [.ref a0] h (am_pI Q2 X2) ∧ (∀ x3 h1, Q2 x3 h1 →
   ((x3 = (Int32.ofNat 0) →
    am_Ev tt 196 52 [some (.ref a0), some (.int a1), some (.int a2), some (.int a3), some (.int a4)] [] h1 (am_pV Q Qx)) ∧
   (¬ (x3 = (Int32.ofNat 0)) →
    ((a4 = (Int32.ofNat 0) →
     am_Ev tt 196 52 [some (.ref a0), some (.int a1), some (.int a2), some (.int a3), some (.int a4)] [] h1 (am_pV Q Qx)) ∧
    (¬ (a4 = (Int32.ofNat 0)) →
     (am_K h1 a0 = 11 ∧ ∃ q4, am_R h1 10 46 a0 = some q4 ∧
     (am_K h1 a0 = 11 ∧ ∃ q5, am_R h1 10 45 a0 = some q5 ∧
     ((am_K h1 q5 = 21 ∨ am_K h1 q5 = 31) ∧ vp_in a2 (am_N h1 q5) ∧
     (am_K h1 q4 = 21 ∧ vp_in (((Int32.ofNat 20) * a2) + (am_A h1 q5 (a2).toNatClampNeg)) (am_N h1 q4) ∧
     (am_K h1 a0 = 11 ∧ ∃ q6, am_R h1 10 45 a0 = some q6 ∧
     ((am_K h1 q6 = 21 ∨ am_K h1 q6 = 31) ∧ vp_in a2 (am_N h1 q6) ∧
     (am_K h1 q6 = 21 ∧ vp_in a2 (am_N h1 q6) ∧
     am_Ev tt 196 52 [some (.ref a0), some (.int a1), some (.int a2), some (.int a3), some (.int a4)] [] (am_sA (am_sA h1 q4 ((((Int32.ofNat 20) * a2) + (am_A h1 q5 (a2).toNatClampNeg))).toNatClampNeg a4) q6 (a2).toNatClampNeg ((am_A (am_sA h1 q4 ((((Int32.ofNat 20) * a2) + (am_A h1 q5 (a2).toNatClampNeg))).toNatClampNeg a4) q6 (a2).toNatClampNeg) + (Int32.ofNat 1))) (am_pV Q Qx))))))))))))) ∧ (∀ E7 h1, X2 E7 h1 → Qx E7 h1))) :
  am_Ev tt 196 117 [some (.ref a0), some (.int a1), some (.int a2), some (.int a3), some (.int a4)] [] h (am_pV Q Qx) := am_vc 29 [(22, [true, true, true, false, false]), (52, [true, true, true, true, true]), (107, [true, true, true, true, true]), (117, [true, true, true, true, true]), (160, [true, true, true, false, false]), (166, [true, true, false, false, false])] q
theorem vc_196_160 (tt : Nat → Nat) (a0 : Nat) (a1 : Int32) (a2 : Int32) (h : am_H) (Q : am_H → Prop) (Qx : String → am_H → Prop) (q :
  am_Ev tt 196 22 [some (.ref a0), some (.int a1), some (.int (a2 + (Int32.ofNat 1))), none, none] [] h (am_pV Q Qx)) :
  am_Ev tt 196 160 [some (.ref a0), some (.int a1), some (.int a2), none, none] [] h (am_pV Q Qx) := am_vc 5 [(22, [true, true, true, false, false]), (52, [true, true, true, true, true]), (107, [true, true, true, true, true]), (117, [true, true, true, true, true]), (160, [true, true, true, false, false]), (166, [true, true, false, false, false])] q
theorem vc_196_166 (tt : Nat → Nat) (a0 : Nat) (a1 : Int32) (h : am_H) (Q : am_H → Prop) (Qx : String → am_H → Prop) (q :
  (am_K h a0 = 11 ∧
  (am_K h a0 = 11 ∧ ∃ (Q2 : am_H → Prop) (X2 : String → am_H → Prop), am_Ct tt 192 [.ref a0, .long (((am_I h 10 27 a0) - a1)).toInt64] h (am_pV Q2 X2) ∧ (∀ h1, Q2 h1 →
   Q h1) ∧ (∀ E3 h1, X2 E3 h1 → Qx E3 h1)))) :
  am_Ev tt 196 166 [some (.ref a0), some (.int a1), none, none, none] [] h (am_pV Q Qx) := am_vc 10 [(22, [true, true, true, false, false]), (52, [true, true, true, true, true]), (107, [true, true, true, true, true]), (117, [true, true, true, true, true]), (160, [true, true, true, false, false]), (166, [true, true, false, false, false])] q

theorem lt2_0 {F : Fn} {p : Nat} : ((lt F p 2).toInt32 = Int32.ofNat 0) ↔ lt F p 2 = Int64.ofNat 0 := by
  refine ⟨fun h => ?_, fun h => by rw [h]; decide⟩
  apply Int64.toBitVec_inj.1
  apply BitVec.eq_of_getLsbD_eq
  intro i hi
  rw [show (Int64.ofNat 0).toBitVec = 0#64 from rfl, BitVec.getLsbD_zero]
  by_cases c : i < 16
  · have h2 := congrArg (fun x : Int32 => x.toBitVec.getLsbD i) h
    simp only [Int64.toBitVec_toInt32] at h2
    rw [BitVec.getLsbD_signExtend, if_pos (by omega), show (Int32.ofNat 0).toBitVec = 0#32 from rfl, BitVec.getLsbD_zero, decide_eq_true (show i < 32 by omega), Bool.true_and] at h2
    exact h2
  · rw [lt_bit (by omega), decide_eq_false (by omega), Bool.false_and]
abbrev US : Type := (Nat → Nat) × (Nat → Nat)
def pNa (F : Fn) (n N p : Nat) : Except pe (US × Nat) := bd (tX F n p 17) fun _ p => pNM F n N p
section MNA
variable {tt : Nat → Nat} {F : Fn} {n m : Nat} {ad : Nat → Nat} {h h' h'' k k' : am_H} {s : Ms} {X Y X' Y' : Nat → Prop}
abbrev Xna (k : Nat) : Prop := k = 45 ∨ k = 46
/-- a name is told -/
def nmR (F : Fn) (ad : Nat → Nat) (e u st0 : Nat) (k : am_H) : Prop := am_A k (ad 45) e = Int32.ofNat u ∧ ∀ j, j < u → am_A k (ad 46) (20 * e + j) = (lt F (st0 + 2 * j) 2).toInt32
def nmQ (F : Fn) (n m : Nat) (ad : Nat → Nat) (h : am_H) (N : Nat) (r : Except pe (US × Nat)) (k : am_H) : Prop := MY F n k m ad (st r) ∧ mg m ad Xna Ybg h k ∧ ∀ us p', r = .ok (us, p') → ∀ e, e < N → nmR F ad e (us.1 e) (us.2 e) k
def kN (e : Nat) (ad : Nat → Nat) (k k' : am_H) : Prop := (∀ j, ¬ j = e → am_A k' (ad 45) j = am_A k (ad 45) j) ∧ ∀ j, ¬ (20 * e ≤ j ∧ j < 20 * e + 20) → am_A k' (ad 46) j = am_A k (ad 46) j
theorem na_166 {N : Nat} {r : Except pe (US × Nat)} {us : US} {told : Int64} {p1 pl : Nat} {a1 : Int32} (y : MY F n k m ad s) (g : mg m ad Xna Ybg h k) (hr : r = bs s (fun p3 => if told = Int64.ofNat (p3 - p1) then .ok (us, p3) else .error (5, pl))) (hv : ∀ p3, s = .ok p3 → a1 = Int32.ofNat p1 ∧ p1 ≤ p3 ∧ am_J k 10 62 m = told ∧ am_I k 10 61 m = Int32.ofNat pl ∧ ∀ e, e < N → nmR F ad e (us.1 e) (us.2 e) k) : am_Ev tt 196 166 [some (.ref m), some (.int a1), none, none, none] [] k (am_pV (nmQ F n m ad h N r) no_x) := by
  have kk := y.1.1
  cases s with
  | error e =>
    refine vc_196_166 tt _ _ _ _ _ ⟨kk, kk, _, _, ct_risLong (v := 0) (pl := 0) y (fun z => by cases z), fun k2 w => ?_, fun _ _ z => z.elim⟩
    have hr : r = .error e := hr
    rw [hr]
    exact ⟨w.1, g.tr (w.2.mo (fun _ z => z.elim) (fun _ z => by omega)), fun us p' z => by cases z⟩
  | ok p3 =>
    obtain ⟨rfl, p13, e62, e61, hn⟩ := hv p3 rfl
    have e27 := y.2.2.2.2.1.2
    have n5 := y.2.2.1
    have pn := y.2.2.2.2.2 p3 rfl
    have hr : r = if told = Int64.ofNat (p3 - p1) then .ok (us, p3) else .error (5, pl) := hr
    refine vc_196_166 tt _ _ _ _ _ ⟨kk, kk, ?_⟩
    rw [e27, qi_sub p13, qi_l (by omega)]
    refine ⟨_, _, ct_risLong y (v := told) (pl := pl) (fun _ => ⟨e62, e61⟩), fun k2 w => ?_, fun _ _ z => z.elim⟩
    have gg := g.tr (w.2.mo (fun _ z => z.elim) (fun _ z => by omega))
    have y2 : MY F n k2 m ad (if told = Int64.ofNat (p3 - p1) then .ok p3 else .error (5, pl)) := w.1
    by_cases c : told = Int64.ofNat (p3 - p1)
    · rw [if_pos c] at hr y2
      rw [hr]
      refine ⟨y2, gg, fun us' p' z e he => ?_⟩
      cases z
      obtain ⟨q1, q2⟩ := hn e he
      exact ⟨by rw [(w.2.2.1 45 (fun z => z)).1]; exact q1, fun j hj => by rw [(w.2.2.1 46 (fun z => z)).1]; exact q2 j hj⟩
    · rw [if_neg c] at hr y2
      rw [hr]
      exact ⟨y2, gg, fun us p' z => by cases z⟩
theorem na_22b {N : Nat} {r : Except pe (US × Nat)} {e : pe} {a1 a2 : Int32} (y : MY F n k m ad (.error e)) (g : mg m ad Xna Ybg h k) (er : r = .error e) : am_Ev tt 196 22 [some (.ref m), some (.int a1), some (.int a2), none, none] [] k (am_pV (nmQ F n m ad h N r) no_x) := by
  have nx : am_Ev tt 196 166 [some (.ref m), some (.int a1), none, none, none] [] k (am_pV (nmQ F n m ad h N r) no_x) := na_166 (us := (fun _ => 0, fun _ => 0)) (told := 0) (p1 := 0) (pl := 0) y g er (fun p3 z => by cases z)
  refine vc_196_22 tt _ _ _ _ _ _ ⟨y.1.1, fun _ => nx, fun _ => ⟨y.1.1, _, _, ct_mfine y, fun z k2 e2 => ?_, fun _ _ z => z.elim⟩⟩
  obtain ⟨rfl, rfl⟩ := e2
  exact ⟨fun _ => nx, fun z => absurd rfl z⟩
theorem na_52b {N : Nat} {r : Except pe (US × Nat)} {e : pe} {a1 a2 a3 a4 : Int32} (y : MY F n k m ad (.error e)) (g : mg m ad Xna Ybg h k) (er : r = .error e) : am_Ev tt 196 52 [some (.ref m), some (.int a1), some (.int a2), some (.int a3), some (.int a4)] [] k (am_pV (nmQ F n m ad h N r) no_x) := by
  have nx : am_Ev tt 196 160 [some (.ref m), some (.int a1), some (.int a2), none, none] [] k (am_pV (nmQ F n m ad h N r) no_x) := vc_196_160 tt _ _ _ _ _ _ (na_22b y g er)
  refine vc_196_52 tt _ _ _ _ _ _ _ _ ⟨fun _ => nx, fun _ => ⟨y.1.1, _, _, ct_mfine y, fun z k2 e2 => ?_, fun _ _ z => z.elim⟩⟩
  obtain ⟨rfl, rfl⟩ := e2
  exact ⟨fun _ => nx, fun z => absurd rfl z⟩
theorem na_117b {N : Nat} {r : Except pe (US × Nat)} {e : pe} {a1 a2 a3 a4 : Int32} (y : MY F n k m ad (.error e)) (g : mg m ad Xna Ybg h k) (er : r = .error e) : am_Ev tt 196 117 [some (.ref m), some (.int a1), some (.int a2), some (.int a3), some (.int a4)] [] k (am_pV (nmQ F n m ad h N r) no_x) := by
  refine vc_196_117 tt _ _ _ _ _ _ _ _ ⟨y.1.1, _, _, ct_mfine y, fun z k2 e2 => ?_, fun _ _ z => z.elim⟩
  obtain ⟨rfl, rfl⟩ := e2
  exact ⟨fun _ => na_52b y g er, fun z => absurd rfl z⟩
/-- a name's units -/
theorem na_52 {N : Nat} {r : Except pe (US × Nat)} {a1 : Int32} {e st0 : Nat} (he : e < 24) (st5 : st0 ≤ 5000) {K : Nat → Nat → Except pe (US × Nat)} {k0 : am_H}
    (nx : ∀ (k' : am_H) (q u : Nat), MY F n k' m ad (.ok q) → mg m ad Xna Ybg h k' → mg m ad Xna Yq k0 k' → kN e ad k0 k' → nmR F ad e u st0 k' → st0 ≤ q → u ≤ 20 → r = K u q → am_Ev tt 196 160 [some (.ref m), some (.int a1), some (.int (Int32.ofNat e)), none, none] [] k' (am_pV (nmQ F n m ad h N r) no_x)) :
    ∀ (d u : Nat) (k : am_H) (q : Nat) (a4 : Int32), d + u = 20 → ¬ a4 = Int32.ofNat 0 → q = st0 + 2 * u → MY F n k m ad (.ok q) → mg m ad Xna Ybg h k → mg m ad Xna Yq k0 k → kN e ad k0 k → nmR F ad e u st0 k → r = bd (lU F n st0 d u q) K → am_Ev tt 196 52 [some (.ref m), some (.int a1), some (.int (Int32.ofNat e)), some (.int (Int32.ofNat st0)), some (.int a4)] [] k (am_pV (nmQ F n m ad h N r) no_x) := by
  intro d
  induction d with
  | zero =>
    intro u k q a4 eu ha eq y g g0 hk hn hr
    have : u = 20 := by omega
    subst this
    have kk := y.1.1
    rw [lU] at hr
    refine vc_196_52 tt _ _ _ _ _ _ _ _ ⟨fun z => absurd z ha, fun _ => ⟨kk, _, _, ct_mfine y, fun z k2 e2 => ?_, fun _ _ z => z.elim⟩⟩
    obtain ⟨rfl, rfl⟩ := e2
    refine ⟨fun z => absurd z (show ¬ Int32.ofNat 1 = Int32.ofNat 0 by decide), fun _ => ⟨kk, _, _, ct_mtakeLittle y (by omega) rfl, fun v k3 e3 => ?_, fun _ _ z => z.elim⟩⟩
    obtain ⟨y3, g3, v3⟩ := e3
    have y3 : MY F n k3 m ad (st (tL F n q 2)) := y3
    have v3 : ∀ a p', tL F n q 2 = .ok (a, p') → v = a := v3
    have gg : mg m ad Xna Ybg h k3 := g.tr (g3.mo (fun _ z => z.elim) (fun _ z => by omega))
    have gg0 : mg m ad Xna Yq k0 k3 := g0.tr (g3.mo (fun _ z => z.elim) (fun _ z => z))
    have kk3 := y3.1.1
    refine ⟨kk3, _, _, ct_mfine y3, fun z k4 e4 => ?_, fun _ _ z => z.elim⟩
    obtain ⟨rfl, rfl⟩ := e4
    cases e1 : tL F n q 2 with
    | error ee =>
      rw [e1] at y3 hr
      exact ⟨fun _ => na_117b y3 gg hr, fun z => absurd rfl z⟩
    | ok a =>
      obtain ⟨a, q'⟩ := a
      have ev := v3 _ _ e1
      subst ev
      have e1' := e1
      rw [tL] at e1'
      split at e1'
      case isFalse => cases e1'
      case isTrue hq =>
      cases e1'
      rw [e1] at y3 hr
      have y3 : MY F n k4 m ad (.ok (q + 2)) := y3
      have hr : r = bd (if lt F q 2 = Int64.ofNat 0 then .ok (20, q + 2) else .error (8, st0)) K := hr
      obtain ⟨b1, b2, b3⟩ := md_r y3.1 (k := 45) (by decide) rfl (by decide)
      have e45 : am_A k4 (ad 45) e = Int32.ofNat 20 := by rw [(g3.2.1 45 (fun z => z)).1]; exact hn.1
      refine ⟨fun z => absurd z (show ¬ Int32.ofNat 1 = Int32.ofNat 0 by decide), fun _ => ?_⟩
      simp (disch := omega) only [kk3, b1, b2, b3, he, e45, lt2_0, qi_lt, qi_le, qi_eq, qi_nn, qi_in, qi_add, qi_l, ql_i, ql_lt, ql_le, ql_eq, ql_add, qc_lt, qc_eq, qc_ge, qc_gt, qc_le, true_and, and_true, and_self, true_or, or_true, false_or, or_false, false_and, and_false, not_true_eq_false, not_false_eq_true, Classical.not_not, true_implies, false_implies, implies_true, exists_eq_left, exists_eq_left', Option.some.injEq, reduceIte, Nat.reduceEqDiff, Nat.reduceLT, Nat.reduceLeDiff, Nat.reduceAdd, Nat.reduceSub, Nat.reduceMul, eq_self, ne_eq, and_imp, forall_const, reduceCtorEq, am_w, List.map_cons, List.map_nil, List.sum_cons, List.sum_nil, Value.category, Nat.zero_le, Nat.le_refl]
      refine ⟨fun c => ?_, fun c => ?_⟩
      · rw [if_neg c] at hr
        refine vc_196_107 tt _ _ _ _ _ _ _ _ ⟨kk3, _, _, ct_mfails y3 (f := 8) (pl := st0) (by omega) (by omega), fun k5 w5 => ?_, fun _ _ z => z.elim⟩
        exact na_52b (e := (8, st0)) w5.1 (gg.tr (w5.2.mo (fun _ z => z.elim) (fun _ z => by omega))) hr
      · rw [if_pos c] at hr
        have c' := lt2_0.2 c
        refine vc_196_117 tt _ _ _ _ _ _ _ _ ⟨kk3, _, _, ct_mfine y3, fun z k5 e5 => ?_, fun _ _ z => z.elim⟩
        obtain ⟨rfl, rfl⟩ := e5
        refine ⟨fun z => absurd z (show ¬ Int32.ofNat 1 = Int32.ofNat 0 by decide), fun _ => ⟨fun _ => ?_, fun z => absurd c' z⟩⟩
        refine vc_196_52 tt _ _ _ _ _ _ _ _ ⟨fun _ => ?_, fun z => absurd c' z⟩
        exact nx k5 (q + 2) 20 y3 gg gg0 ⟨fun j hj => by rw [(g3.2.1 45 (fun z => z)).1]; exact hk.1 j hj, fun j hj => by rw [(g3.2.1 46 (fun z => z)).1]; exact hk.2 j hj⟩ ⟨e45, fun j hj => by rw [(g3.2.1 46 (fun z => z)).1]; exact hn.2 j hj⟩ (by omega) (by omega) hr
  | succ d ih =>
    intro u k q a4 eu ha eq y g g0 hk hn hr
    have kk := y.1.1
    rw [lU] at hr
    refine vc_196_52 tt _ _ _ _ _ _ _ _ ⟨fun z => absurd z ha, fun _ => ⟨kk, _, _, ct_mfine y, fun z k2 e2 => ?_, fun _ _ z => z.elim⟩⟩
    obtain ⟨rfl, rfl⟩ := e2
    refine ⟨fun z => absurd z (show ¬ Int32.ofNat 1 = Int32.ofNat 0 by decide), fun _ => ⟨kk, _, _, ct_mtakeLittle y (by omega) rfl, fun v k3 e3 => ?_, fun _ _ z => z.elim⟩⟩
    obtain ⟨y3, g3, v3⟩ := e3
    have y3 : MY F n k3 m ad (st (tL F n q 2)) := y3
    have v3 : ∀ a p', tL F n q 2 = .ok (a, p') → v = a := v3
    have gg : mg m ad Xna Ybg h k3 := g.tr (g3.mo (fun _ z => z.elim) (fun _ z => by omega))
    have gg0 : mg m ad Xna Yq k0 k3 := g0.tr (g3.mo (fun _ z => z.elim) (fun _ z => z))
    have kk3 := y3.1.1
    refine ⟨kk3, _, _, ct_mfine y3, fun z k4 e4 => ?_, fun _ _ z => z.elim⟩
    obtain ⟨rfl, rfl⟩ := e4
    cases e1 : tL F n q 2 with
    | error ee =>
      rw [e1] at y3 hr
      exact ⟨fun _ => na_117b y3 gg hr, fun z => absurd rfl z⟩
    | ok a =>
      obtain ⟨a, q'⟩ := a
      have ev := v3 _ _ e1
      subst ev
      have e1' := e1
      rw [tL] at e1'
      split at e1'
      case isFalse => cases e1'
      case isTrue hq =>
      cases e1'
      rw [e1] at y3 hr
      have y3 : MY F n k4 m ad (.ok (q + 2)) := y3
      have hr : r = bd (if lt F q 2 = Int64.ofNat 0 then (if u = 0 then .error (8, st0) else .ok (u, q + 2)) else lU F n st0 d (u + 1) (q + 2)) K := hr
      obtain ⟨b1, b2, b3⟩ := md_r y3.1 (k := 45) (by decide) rfl (by decide)
      obtain ⟨d1, d2, d3⟩ := md_r y3.1 (k := 46) (by decide) rfl (by decide)
      have e45 : am_A k4 (ad 45) e = Int32.ofNat u := by rw [(g3.2.1 45 (fun z => z)).1]; exact hn.1
      have hk4 : kN e ad k0 k4 := ⟨fun j hj => by rw [(g3.2.1 45 (fun z => z)).1]; exact hk.1 j hj, fun j hj => by rw [(g3.2.1 46 (fun z => z)).1]; exact hk.2 j hj⟩
      have u20 : ¬ u = 20 := by omega
      refine ⟨fun z => absurd z (show ¬ Int32.ofNat 1 = Int32.ofNat 0 by decide), fun _ => ?_⟩
      simp (disch := omega) only [kk3, b1, b2, b3, he, e45, u20, lt2_0, qi_lt, qi_le, qi_eq, qi_nn, qi_in, qi_add, qi_l, ql_i, ql_lt, ql_le, ql_eq, ql_add, qc_lt, qc_eq, qc_ge, qc_gt, qc_le, true_and, and_true, and_self, true_or, or_true, false_or, or_false, false_and, and_false, not_true_eq_false, not_false_eq_true, Classical.not_not, true_implies, false_implies, implies_true, exists_eq_left, exists_eq_left', Option.some.injEq, reduceIte, Nat.reduceEqDiff, Nat.reduceLT, Nat.reduceLeDiff, Nat.reduceAdd, Nat.reduceSub, Nat.reduceMul, eq_self, ne_eq, and_imp, forall_const, reduceCtorEq, am_w, List.map_cons, List.map_nil, List.sum_cons, List.sum_nil, Value.category, Nat.zero_le, Nat.le_refl]
      refine ⟨fun c => ?_, fun c => ⟨fun c2 => ?_, fun c2 => ?_⟩⟩
      · rw [if_neg c] at hr
        have c' : ¬ (lt F q 2).toInt32 = Int32.ofNat 0 := fun z => c (lt2_0.1 z)
        refine vc_196_117 tt _ _ _ _ _ _ _ _ ⟨kk3, _, _, ct_mfine y3, fun z k5 e5 => ?_, fun _ _ z => z.elim⟩
        obtain ⟨rfl, rfl⟩ := e5
        refine ⟨fun z => absurd z (show ¬ Int32.ofNat 1 = Int32.ofNat 0 by decide), fun _ => ⟨fun z => absurd z c', fun _ => ?_⟩⟩
        have dj := ad_ne y3.1
        have i480 : 20 * e + u < 480 := by omega
        simp (disch := omega) only [kk3, b1, b2, b3, d1, d2, d3, he, e45, i480, dj, am_hs, qi_mul, qi_lt, qi_le, qi_eq, qi_nn, qi_in, qi_add, qi_l, ql_i, ql_lt, ql_le, ql_eq, ql_add, qc_lt, qc_eq, qc_ge, qc_gt, qc_le, true_and, and_true, and_self, true_or, or_true, false_or, or_false, false_and, and_false, not_true_eq_false, not_false_eq_true, Classical.not_not, true_implies, false_implies, implies_true, exists_eq_left, exists_eq_left', Option.some.injEq, reduceIte, Nat.reduceEqDiff, Nat.reduceLT, Nat.reduceLeDiff, Nat.reduceAdd, Nat.reduceSub, Nat.reduceMul, eq_self, ne_eq, and_imp, forall_const, reduceCtorEq, am_w, List.map_cons, List.map_nil, List.sum_cons, List.sum_nil, Value.category, Nat.zero_le, Nat.le_refl]
        have s1 : mg m ad Xna Yz k5 (am_sA k5 (ad 46) (20 * e + u) (lt F q 2).toInt32) := mg.sA y3.1 (by omega)
        have s2 : mg m ad Xna Yz (am_sA k5 (ad 46) (20 * e + u) (lt F q 2).toInt32) (am_sA (am_sA k5 (ad 46) (20 * e + u) (lt F q 2).toInt32) (ad 45) e (Int32.ofNat (u + 1))) := mg.sA (s1.1.md y3.1) (by omega)
        have s12 := s1.tr s2
        refine ih (u + 1) _ (q + 2) _ (by omega) c' (by omega) (y3.on s12 (by omega) id id id id) (gg.tr (s12.mo (fun _ z => z) (fun _ z => z.elim))) (gg0.tr (s12.mo (fun _ z => z) (fun _ z => z.elim))) ⟨fun j hj => ?_, fun j hj => ?_⟩ ⟨?_, fun j hj => ?_⟩ hr
        · simp (disch := omega) only [am_hs, dj, hj, true_and, and_true, and_self, true_or, or_true, false_or, or_false, false_and, and_false, not_true_eq_false, not_false_eq_true, Classical.not_not, true_implies, false_implies, implies_true, exists_eq_left, exists_eq_left', Option.some.injEq, reduceIte, Nat.reduceEqDiff, Nat.reduceLT, Nat.reduceLeDiff, Nat.reduceAdd, Nat.reduceSub, Nat.reduceMul, eq_self, ne_eq, and_imp, forall_const, reduceCtorEq, am_w, List.map_cons, List.map_nil, List.sum_cons, List.sum_nil, Value.category, Nat.zero_le, Nat.le_refl]
          exact hk4.1 j hj
        · have q9 : ¬ j = 20 * e + u := by omega
          simp (disch := omega) only [am_hs, dj, q9, true_and, and_true, and_self, true_or, or_true, false_or, or_false, false_and, and_false, not_true_eq_false, not_false_eq_true, Classical.not_not, true_implies, false_implies, implies_true, exists_eq_left, exists_eq_left', Option.some.injEq, reduceIte, Nat.reduceEqDiff, Nat.reduceLT, Nat.reduceLeDiff, Nat.reduceAdd, Nat.reduceSub, Nat.reduceMul, eq_self, ne_eq, and_imp, forall_const, reduceCtorEq, am_w, List.map_cons, List.map_nil, List.sum_cons, List.sum_nil, Value.category, Nat.zero_le, Nat.le_refl]
          exact hk4.2 j hj
        · simp (disch := omega) only [am_hs, dj, true_and, and_true, and_self, true_or, or_true, false_or, or_false, false_and, and_false, not_true_eq_false, not_false_eq_true, Classical.not_not, true_implies, false_implies, implies_true, exists_eq_left, exists_eq_left', Option.some.injEq, reduceIte, Nat.reduceEqDiff, Nat.reduceLT, Nat.reduceLeDiff, Nat.reduceAdd, Nat.reduceSub, Nat.reduceMul, eq_self, ne_eq, and_imp, forall_const, reduceCtorEq, am_w, List.map_cons, List.map_nil, List.sum_cons, List.sum_nil, Value.category, Nat.zero_le, Nat.le_refl]
        · by_cases cj : j = u
          · subst cj
            simp (disch := omega) only [am_hs, dj, true_and, and_true, and_self, true_or, or_true, false_or, or_false, false_and, and_false, not_true_eq_false, not_false_eq_true, Classical.not_not, true_implies, false_implies, implies_true, exists_eq_left, exists_eq_left', Option.some.injEq, reduceIte, Nat.reduceEqDiff, Nat.reduceLT, Nat.reduceLeDiff, Nat.reduceAdd, Nat.reduceSub, Nat.reduceMul, eq_self, ne_eq, and_imp, forall_const, reduceCtorEq, am_w, List.map_cons, List.map_nil, List.sum_cons, List.sum_nil, Value.category, Nat.zero_le, Nat.le_refl]
            rw [eq]
          · have q9 : ¬ 20 * e + j = 20 * e + u := by omega
            simp (disch := omega) only [am_hs, dj, q9, true_and, and_true, and_self, true_or, or_true, false_or, or_false, false_and, and_false, not_true_eq_false, not_false_eq_true, Classical.not_not, true_implies, false_implies, implies_true, exists_eq_left, exists_eq_left', Option.some.injEq, reduceIte, Nat.reduceEqDiff, Nat.reduceLT, Nat.reduceLeDiff, Nat.reduceAdd, Nat.reduceSub, Nat.reduceMul, eq_self, ne_eq, and_imp, forall_const, reduceCtorEq, am_w, List.map_cons, List.map_nil, List.sum_cons, List.sum_nil, Value.category, Nat.zero_le, Nat.le_refl]
            rw [(g3.2.1 46 (fun z => z)).1]
            exact hn.2 j (by omega)
      · rw [if_pos c, if_neg c2] at hr
        have c' := lt2_0.2 c
        refine vc_196_117 tt _ _ _ _ _ _ _ _ ⟨kk3, _, _, ct_mfine y3, fun z k5 e5 => ?_, fun _ _ z => z.elim⟩
        obtain ⟨rfl, rfl⟩ := e5
        refine ⟨fun z => absurd z (show ¬ Int32.ofNat 1 = Int32.ofNat 0 by decide), fun _ => ⟨fun _ => ?_, fun z => absurd c' z⟩⟩
        refine vc_196_52 tt _ _ _ _ _ _ _ _ ⟨fun _ => ?_, fun z => absurd c' z⟩
        exact nx k5 (q + 2) u y3 gg gg0 hk4 ⟨e45, fun j hj => by rw [(g3.2.1 46 (fun z => z)).1]; exact hn.2 j hj⟩ (by omega) (by omega) hr
      · rw [if_pos c, if_pos c2] at hr
        refine vc_196_107 tt _ _ _ _ _ _ _ _ ⟨kk3, _, _, ct_mfails y3 (f := 8) (pl := st0) (by omega) (by omega), fun k5 w5 => ?_, fun _ _ z => z.elim⟩
        exact na_52b (e := (8, st0)) w5.1 (gg.tr (w5.2.mo (fun _ z => z.elim) (fun _ z => by omega))) hr
theorem ct_rnaming (y : MY F n h m ad s) {N : Nat} (hN : N ≤ 24) (e41 : am_I h 10 41 m = Int32.ofNat N) {r : Except pe (US × Nat)} (hr : r = bs s (pNa F n N)) : am_Ct tt 196 [.ref m] h (am_pV (nmQ F n m ad h N r) no_x) := by
  refine vc_196_0 tt _ h _ _ ⟨y.1.1, _, _, ct_mneed y rfl, fun k1 w1 => ⟨w1.1.1.1, _, _, ct_rbegins w1.1 rfl, fun k2 w2 => ⟨w2.1.1.1, w2.1.1.1, _, _, ct_mneed w2.1 rfl, fun k3 w3 => ?_, fun _ _ z => z.elim⟩, fun _ _ z => z.elim⟩, fun _ _ z => z.elim⟩
  obtain ⟨y1, g1⟩ := w1
  obtain ⟨y2, g2, v2, e61⟩ := w2
  obtain ⟨y3, g3⟩ := w3
  have g13 : mg m ad Xn Ybg h k3 := (g1.mo (fun _ z => z) (fun _ z => by omega)).tr (g2.tr (g3.mo (fun _ z => z) (fun _ z => by omega)))
  have gg : mg m ad Xna Ybg h k3 := g13.mo (fun _ z => z.elim) (fun _ z => z)
  have e41' : am_I k3 10 41 m = Int32.ofNat N := by rw [(g13.2.2 41 (by omega)).1]; exact e41
  unfold pNa at hr
  rw [bs_n ()] at hr
  generalize st (bs s fun p => tX F n p 17) = s1 at *
  cases s1 with
  | error e => exact na_22b y3 gg hr
  | ok p =>
    have e61 := e61 p rfl
    have hr : r = pNM F n N p := hr
    rw [pNM] at hr
    have y2 : MY F n k2 m ad (st (tN F n p (l64 0) mx64)) := y2
    have v2 : ∀ v p', tN F n p (l64 0) mx64 = .ok (v, p') → am_J k2 10 62 m = v := v2
    have y3 : MY F n k3 m ad (st (bs (st (tN F n p (l64 0) mx64)) fun p => tX F n p 0)) := y3
    cases e1 : tN F n p (l64 0) mx64 with
    | error e =>
      rw [e1] at y3 hr
      exact na_22b y3 gg hr
    | ok a =>
      obtain ⟨told, p1⟩ := a
      have e62 := v2 _ _ e1
      rw [e1] at y2 y3 hr
      have e27 := y2.2.2.2.2.1.2
      rw [e27]
      have y3 : MY F n k3 m ad (st (tX F n p1 0)) := y3
      have hr : r = bd (tX F n p1 0) fun _ p2 => bd (lNm F n N 0 p2 (fun _ => 0) (fun _ => 0)) fun us p3 => if told = Int64.ofNat (p3 - p1) then .ok (us, p3) else .error (5, p) := hr
      cases e2 : tX F n p1 0 with
      | error e =>
        rw [e2] at y3 hr
        exact na_22b y3 gg hr
      | ok a =>
        obtain ⟨u, p2⟩ := a
        have p12 : p1 ≤ p2 := by
          rw [tX] at e2
          split at e2
          · split at e2
            · cases e2; omega
            · cases e2
          · cases e2
        rw [e2] at y3 hr
        have e62' : am_J k3 10 62 m = told := by rw [(g3.2.2 62 (by omega)).2]; exact e62
        have e61' : am_I k3 10 61 m = Int32.ofNat p := by rw [(g3.2.2 61 (by omega)).1]; exact e61
        have key : ∀ (d i : Nat) (k : am_H) (q : Nat) (un st0 : Nat → Nat), d + i = N → p1 ≤ q → MY F n k m ad (.ok q) → mg m ad Xna Ybg h k → am_I k 10 41 m = Int32.ofNat N → am_J k 10 62 m = told → am_I k 10 61 m = Int32.ofNat p → (∀ e, e < i → nmR F ad e (un e) (st0 e) k) → (∀ e, e < i → un e ≤ 20) → r = bd (lNm F n d i q un st0) (fun us p3 => if told = Int64.ofNat (p3 - p1) then .ok (us, p3) else .error (5, p)) → am_Ev tt 196 22 [some (.ref m), some (.int (Int32.ofNat p1)), some (.int (Int32.ofNat i)), none, none] [] k (am_pV (nmQ F n m ad h N r) no_x) := by
          intro d
          induction d with
          | zero =>
            intro i k q un st0 ei pq y g e41 e62 e61 hn hu hr0
            have : i = N := by omega
            subst this
            have kk := y.1.1
            refine vc_196_22 tt _ _ _ _ _ _ ?_
            simp (disch := omega) only [kk, e41, qi_lt, qi_le, qi_eq, qi_nn, qi_in, qi_add, qi_l, ql_i, ql_lt, ql_le, ql_eq, ql_add, qc_lt, qc_eq, qc_ge, qc_gt, qc_le, true_and, and_true, and_self, true_or, or_true, false_or, or_false, false_and, and_false, not_true_eq_false, not_false_eq_true, Classical.not_not, true_implies, false_implies, implies_true, exists_eq_left, exists_eq_left', Option.some.injEq, reduceIte, Nat.reduceEqDiff, Nat.reduceLT, Nat.reduceLeDiff, Nat.reduceAdd, Nat.reduceSub, Nat.reduceMul, eq_self, ne_eq, and_imp, forall_const, reduceCtorEq, am_w, List.map_cons, List.map_nil, List.sum_cons, List.sum_nil, Value.category, Nat.zero_le, Nat.le_refl]
            exact na_166 (s := .ok q) (us := (un, st0)) (told := told) (p1 := p1) (pl := p) y g hr0 (fun p3 z => by cases z; exact ⟨rfl, pq, e62, e61, hn⟩)
          | succ d ih =>
            intro i k q un st0 ei pq y g e41 e62 e61 hn hu hr
            have kk := y.1.1
            have n5 := y.2.2.1
            have pn := y.2.2.2.2.2 q rfl
            have e27 := y.2.2.2.2.1.2
            have q1 : ¬ N ≤ i := by omega
            have i24 : i < 24 := by omega
            have dj := ad_ne y.1
            obtain ⟨b1, b2, b3⟩ := md_r y.1 (k := 45) (by decide) rfl (by decide)
            refine vc_196_22 tt _ _ _ _ _ _ ?_
            simp (disch := omega) only [kk, e41, q1, qi_lt, qi_le, qi_eq, qi_nn, qi_in, qi_add, qi_l, ql_i, ql_lt, ql_le, ql_eq, ql_add, qc_lt, qc_eq, qc_ge, qc_gt, qc_le, true_and, and_true, and_self, true_or, or_true, false_or, or_false, false_and, and_false, not_true_eq_false, not_false_eq_true, Classical.not_not, true_implies, false_implies, implies_true, exists_eq_left, exists_eq_left', Option.some.injEq, reduceIte, Nat.reduceEqDiff, Nat.reduceLT, Nat.reduceLeDiff, Nat.reduceAdd, Nat.reduceSub, Nat.reduceMul, eq_self, ne_eq, and_imp, forall_const, reduceCtorEq, am_w, List.map_cons, List.map_nil, List.sum_cons, List.sum_nil, Value.category, Nat.zero_le, Nat.le_refl]
            refine ⟨_, _, ct_mfine y, fun z k2 e2 => ?_, fun _ _ z => z.elim⟩
            obtain ⟨rfl, rfl⟩ := e2
            refine ⟨fun z => absurd z (show ¬ Int32.ofNat 1 = Int32.ofNat 0 by decide), fun _ => ?_⟩
            simp (disch := omega) only [kk, b1, b2, b3, i24, e27, qi_lt, qi_le, qi_eq, qi_nn, qi_in, qi_add, qi_l, ql_i, ql_lt, ql_le, ql_eq, ql_add, qc_lt, qc_eq, qc_ge, qc_gt, qc_le, true_and, and_true, and_self, true_or, or_true, false_or, or_false, false_and, and_false, not_true_eq_false, not_false_eq_true, Classical.not_not, true_implies, false_implies, implies_true, exists_eq_left, exists_eq_left', Option.some.injEq, reduceIte, Nat.reduceEqDiff, Nat.reduceLT, Nat.reduceLeDiff, Nat.reduceAdd, Nat.reduceSub, Nat.reduceMul, eq_self, ne_eq, and_imp, forall_const, reduceCtorEq, am_w, List.map_cons, List.map_nil, List.sum_cons, List.sum_nil, Value.category, Nat.zero_le, Nat.le_refl]
            rw [lNm, bd_as] at hr
            have s1 : mg m ad Xna Yz k2 (am_sA k2 (ad 45) i (Int32.ofNat 0)) := mg.sA y.1 (by omega)
            refine na_52 (k0 := k2) (st0 := q) i24 (by omega) (K := fun u p' => bd (lNm F n d (i + 1) p' (va_up un i u) (va_up st0 i q)) (fun us p3 => if told = Int64.ofNat (p3 - p1) then .ok (us, p3) else .error (5, p))) (fun k4 q' u' y4 g4 g40 hk4 hn4 sq u20 hr4 => ?_) 20 0 _ q (Int32.ofNat 1) (by omega) (by decide) (by omega) (y.on s1 (by omega) id id id id) (g.tr (s1.mo (fun _ z => z) (fun _ z => z.elim))) (s1.mo (fun _ z => z) (fun _ z => z.elim)) ⟨fun j hj => ?_, fun j hj => ?_⟩ ⟨?_, fun j hj => absurd hj (by omega)⟩ hr
            · refine vc_196_160 tt _ _ _ _ _ _ ?_
              simp (disch := omega) only [qi_lt, qi_le, qi_eq, qi_nn, qi_in, qi_add, qi_l, ql_i, ql_lt, ql_le, ql_eq, ql_add, qc_lt, qc_eq, qc_ge, qc_gt, qc_le]
              refine ih (i + 1) k4 q' _ _ (by omega) (by omega) y4 g4 (by rw [(g40.2.2 41 (by omega)).1]; exact e41) (by rw [(g40.2.2 62 (by omega)).2]; exact e62) (by rw [(g40.2.2 61 (by omega)).1]; exact e61) (fun e' he' => ?_) (fun e' he' => ?_) hr4
              · unfold va_up
                by_cases ce : e' = i
                · subst ce
                  rw [if_pos rfl, if_pos rfl]
                  exact hn4
                · rw [if_neg ce, if_neg ce]
                  have hu' := hu e' (by omega)
                  obtain ⟨q5, q6⟩ := hn e' (by omega)
                  exact ⟨by rw [hk4.1 e' ce]; exact q5, fun j hj => by rw [hk4.2 _ (by omega)]; exact q6 j hj⟩
              · unfold va_up
                by_cases ce : e' = i
                · rw [if_pos ce]; exact u20
                · rw [if_neg ce]; exact hu e' (by omega)
            · simp (disch := omega) only [am_hs, hj, true_and, and_true, and_self, true_or, or_true, false_or, or_false, false_and, and_false, not_true_eq_false, not_false_eq_true, Classical.not_not, true_implies, false_implies, implies_true, exists_eq_left, exists_eq_left', Option.some.injEq, reduceIte, Nat.reduceEqDiff, Nat.reduceLT, Nat.reduceLeDiff, Nat.reduceAdd, Nat.reduceSub, Nat.reduceMul, eq_self, ne_eq, and_imp, forall_const, reduceCtorEq, am_w, List.map_cons, List.map_nil, List.sum_cons, List.sum_nil, Value.category, Nat.zero_le, Nat.le_refl]
            · simp (disch := omega) only [am_hs, dj, true_and, and_true, and_self, true_or, or_true, false_or, or_false, false_and, and_false, not_true_eq_false, not_false_eq_true, Classical.not_not, true_implies, false_implies, implies_true, exists_eq_left, exists_eq_left', Option.some.injEq, reduceIte, Nat.reduceEqDiff, Nat.reduceLT, Nat.reduceLeDiff, Nat.reduceAdd, Nat.reduceSub, Nat.reduceMul, eq_self, ne_eq, and_imp, forall_const, reduceCtorEq, am_w, List.map_cons, List.map_nil, List.sum_cons, List.sum_nil, Value.category, Nat.zero_le, Nat.le_refl]
            · simp only [am_hs, true_and, and_true, and_self, true_or, or_true, false_or, or_false, false_and, and_false, not_true_eq_false, not_false_eq_true, Classical.not_not, true_implies, false_implies, implies_true, exists_eq_left, exists_eq_left', Option.some.injEq, reduceIte, Nat.reduceEqDiff, Nat.reduceLT, Nat.reduceLeDiff, Nat.reduceAdd, Nat.reduceSub, Nat.reduceMul, eq_self, ne_eq, and_imp, forall_const, reduceCtorEq, am_w, List.map_cons, List.map_nil, List.sum_cons, List.sum_nil, Value.category, Nat.zero_le, Nat.le_refl]
        exact key N 0 k3 p2 _ _ (by omega) p12 y3 gg e41' e62' e61' (fun e he => absurd he (by omega)) (fun e he => absurd he (by omega)) hr
end MNA
