/-! deps: 17h -/
/-! ===== the class's writer: the whole tape ===== -/
/-! 86 yX8_build -/
theorem vc_86_0 (tt : Nat → Nat) (a0 : Nat) (a1 : Nat) (a2 : Nat) (h : am_H) (Q : am_H → Prop) (Qx : String → am_H → Prop) (q :
  (am_K h a0 = 9 ∧
  (am_K h a0 = 9 ∧
  (am_K h a0 = 9 ∧ ∃ q1, am_R (am_sR (am_sR h 8 2 a0 (some a1)) 8 3 a0 (some a2)) 8 3 a0 = some q1 ∧
  (am_K h q1 = 7 ∧ ∃ (Q3 : am_H → Prop) (X3 : String → am_H → Prop), am_Ct tt 66 [.ref q1] (am_sR (am_sR h 8 2 a0 (some a1)) 8 3 a0 (some a2)) (am_pV Q3 X3) ∧ (∀ h2, Q3 h2 →
   am_Ev tt 86 19 [some (.ref a0), none, none, some (.int (Int32.ofNat 0))] [] h2 (am_pV Q Qx)) ∧ (∀ E4 h2, X3 E4 h2 → Qx E4 h2)))))) :
  am_Ev tt 86 0 [some (.ref a0), some (.ref a1), some (.ref a2), none] [] h (am_pV Q Qx) := am_vc 14 [(19, [true, false, false, true]), (132, [true, false, false, true])] q
theorem vc_86_19 (tt : Nat → Nat) (a0 : Nat) (a3 : Int32) (h : am_H) (Q : am_H → Prop) (Qx : String → am_H → Prop) (q :
  (((Int32.ofNat 32) ≤ a3 →
   (am_K h a0 = 9 ∧ ∃ q1, am_R h 8 2 a0 = some q1 ∧
   (am_K h q1 = 1 ∧
   ((¬ (am_I h 0 1 q1) = (Int32.ofNat 0) →
    (am_K h a0 = 9 ∧ ∃ (Q3 : am_H → Prop) (X3 : String → am_H → Prop), am_Ct tt 87 [.ref a0] h (am_pV Q3 X3) ∧ (∀ h2, Q3 h2 →
     (am_K h2 a0 = 9 ∧ ∃ (Q5 : am_H → Prop) (X5 : String → am_H → Prop), am_Ct tt 89 [.ref a0] h2 (am_pV Q5 X5) ∧ (∀ h4, Q5 h4 →
      (am_K h4 a0 = 9 ∧ ∃ q6, am_R h4 8 3 a0 = some q6 ∧
      (am_K h4 q6 = 7 ∧
      (am_K h4 a0 = 9 ∧ ∃ q7, am_R h4 8 3 a0 = some q7 ∧
      (am_K h4 q7 = 7 ∧ ∃ (Q9 : am_H → Prop) (X9 : String → am_H → Prop), am_Ct tt 68 [.ref q7, .int (Int32.ofNat 1)] h4 (am_pV Q9 X9) ∧ (∀ h8, Q9 h8 →
       (am_K h8 a0 = 9 ∧
       (((am_I h8 8 5 a0) ≤ (Int32.ofNat 0) →
        am_Ev tt 86 132 [some (.ref a0), none, none, some (.int (am_I h4 6 1 q6))] [] h8 (am_pV Q Qx)) ∧
       (¬ ((am_I h8 8 5 a0) ≤ (Int32.ofNat 0)) →
        (am_K h8 a0 = 9 ∧ ∃ q10, am_R h8 8 3 a0 = some q10 ∧
        (am_K h8 q10 = 7 ∧ ∃ (Q12 : am_H → Prop) (X12 : String → am_H → Prop), am_Ct tt 68 [.ref q10, .int (Int32.ofNat 4)] h8 (am_pV Q12 X12) ∧ (∀ h11, Q12 h11 →
         (am_K h11 a0 = 9 ∧ ∃ (Q14 : am_H → Prop) (X14 : String → am_H → Prop), am_Ct tt 90 [.ref a0] h11 (am_pV Q14 X14) ∧ (∀ h13, Q14 h13 →
          (am_K h13 a0 = 9 ∧ ∃ (Q16 : am_H → Prop) (X16 : String → am_H → Prop), am_Ct tt 91 [.ref a0] h13 (am_pV Q16 X16) ∧ (∀ h15, Q16 h15 →
           (am_K h15 a0 = 9 ∧ ∃ (Q18 : am_H → Prop) (X18 : String → am_H → Prop), am_Ct tt 94 [.ref a0] h15 (am_pV Q18 X18) ∧ (∀ h17, Q18 h17 →
            (am_K h17 a0 = 9 ∧ ∃ q19, am_R h17 8 3 a0 = some q19 ∧
            (am_K h17 q19 = 7 ∧ ∃ (Q21 : am_H → Prop) (X21 : String → am_H → Prop), am_Ct tt 68 [.ref q19, .int (Int32.ofNat 0)] h17 (am_pV Q21 X21) ∧ (∀ h20, Q21 h20 →
             am_Ev tt 86 132 [some (.ref a0), none, none, some (.int (am_I h4 6 1 q6))] [] h20 (am_pV Q Qx)) ∧ (∀ E22 h20, X21 E22 h20 → Qx E22 h20)))) ∧ (∀ E23 h17, X18 E23 h17 → Qx E23 h17))) ∧ (∀ E24 h15, X16 E24 h15 → Qx E24 h15))) ∧ (∀ E25 h13, X14 E25 h13 → Qx E25 h13))) ∧ (∀ E26 h11, X12 E26 h11 → Qx E26 h11))))))) ∧ (∀ E27 h8, X9 E27 h8 → Qx E27 h8)))))) ∧ (∀ E28 h4, X5 E28 h4 → Qx E28 h4))) ∧ (∀ E29 h2, X3 E29 h2 → Qx E29 h2))) ∧
   (¬ (¬ (am_I h 0 1 q1) = (Int32.ofNat 0)) →
    (am_K h a0 = 9 ∧ ∃ q30, am_R h 8 3 a0 = some q30 ∧
    (am_K h q30 = 7 ∧ ∃ (Q32 : am_H → Prop) (X32 : String → am_H → Prop), am_Ct tt 78 [.ref q30] h (am_pV Q32 X32) ∧ (∀ h31, Q32 h31 →
     Q h31) ∧ (∀ E33 h31, X32 E33 h31 → Qx E33 h31)))))))) ∧
  (¬ ((Int32.ofNat 32) ≤ a3) →
   (am_K h a0 = 9 ∧ ∃ q34, am_R h 8 3 a0 = some q34 ∧
   ((20 < am_K h (tt 0) ∧ (am_K h (tt 0) ≤ 27 ∨ am_K h (tt 0) = 31)) ∧
   (((Int32.ofNat (am_N h (tt 0))) ≤ a3 →
    (am_K h q34 = 7 ∧ ∃ (Q36 : am_H → Prop) (X36 : String → am_H → Prop), am_Ct tt 68 [.ref q34, .int (Int32.ofNat 0)] h (am_pV Q36 X36) ∧ (∀ h35, Q36 h35 →
     am_Ev tt 86 19 [some (.ref a0), none, none, some (.int (a3 + (Int32.ofNat 1)))] [] h35 (am_pV Q Qx)) ∧ (∀ E37 h35, X36 E37 h35 → Qx E37 h35))) ∧
   (¬ ((Int32.ofNat (am_N h (tt 0))) ≤ a3) →
    ((am_K h (tt 0) = 21 ∨ am_K h (tt 0) = 31) ∧ vp_in a3 (am_N h (tt 0)) ∧
    (am_K h q34 = 7 ∧ ∃ (Q39 : am_H → Prop) (X39 : String → am_H → Prop), am_Ct tt 68 [.ref q34, .int (am_A h (tt 0) (a3).toNatClampNeg)] h (am_pV Q39 X39) ∧ (∀ h38, Q39 h38 →
     am_Ev tt 86 19 [some (.ref a0), none, none, some (.int (a3 + (Int32.ofNat 1)))] [] h38 (am_pV Q Qx)) ∧ (∀ E40 h38, X39 E40 h38 → Qx E40 h38)))))))))) :
  am_Ev tt 86 19 [some (.ref a0), none, none, some (.int a3)] [] h (am_pV Q Qx) := am_vc 39 [(19, [true, false, false, true]), (132, [true, false, false, true])] q
theorem vc_86_132 (tt : Nat → Nat) (a0 : Nat) (a3 : Int32) (h : am_H) (Q : am_H → Prop) (Qx : String → am_H → Prop) (q :
  (am_K h a0 = 9 ∧ ∃ q1, am_R h 8 3 a0 = some q1 ∧
  (am_K h q1 = 7 ∧ ∃ (Q3 : am_H → Prop) (X3 : String → am_H → Prop), am_Ct tt 68 [.ref q1, .int (Int32.ofNat 5)] h (am_pV Q3 X3) ∧ (∀ h2, Q3 h2 →
   (am_K h2 a0 = 9 ∧ ∃ (Q5 : am_H → Prop) (X5 : String → am_H → Prop), am_Ct tt 97 [.ref a0] h2 (am_pV Q5 X5) ∧ (∀ h4, Q5 h4 →
    (am_K h4 a0 = 9 ∧ ∃ q6, am_R h4 8 3 a0 = some q6 ∧
    (am_K h4 q6 = 7 ∧ ∃ (Q8 : am_H → Prop) (X8 : String → am_H → Prop), am_Ct tt 68 [.ref q6, .int (Int32.ofNat 0)] h4 (am_pV Q8 X8) ∧ (∀ h7, Q8 h7 →
     (am_K h7 a0 = 9 ∧ ∃ q9, am_R h7 8 3 a0 = some q9 ∧
     (am_K h7 q9 = 7 ∧ ∃ (Q11 : am_H → Prop) (X11 : String → am_H → Prop), am_Ct tt 73 [.ref q9, .int (Int32.ofNat 12), .long ((a3 - (Int32.ofNat 32))).toInt64, .int (Int32.ofNat 8)] h7 (am_pV Q11 X11) ∧ (∀ h10, Q11 h10 →
      (am_K h10 a0 = 9 ∧ ∃ q12, am_R h10 8 3 a0 = some q12 ∧
      (am_K h10 a0 = 9 ∧ ∃ q13, am_R h10 8 3 a0 = some q13 ∧
      (am_K h10 q13 = 7 ∧
      (am_K h10 q12 = 7 ∧ ∃ (Q15 : am_H → Prop) (X15 : String → am_H → Prop), am_Ct tt 73 [.ref q12, .int (Int32.ofNat 20), .long (((am_I h10 6 1 q13) - a3)).toInt64, .int (Int32.ofNat 8)] h10 (am_pV Q15 X15) ∧ (∀ h14, Q15 h14 →
       (am_K h14 a0 = 9 ∧ ∃ q16, am_R h14 8 3 a0 = some q16 ∧
       (am_K h14 q16 = 7 ∧ ∃ (Q18 : am_H → Prop) (X18 : String → am_H → Prop), am_Ct tt 79 [.ref q16] h14 (am_pV Q18 X18) ∧ (∀ h17, Q18 h17 →
        (am_K h17 a0 = 9 ∧ ∃ q19, am_R h17 8 3 a0 = some q19 ∧
        (am_K h17 q19 = 7 ∧ ∃ (Q21 : am_H → Prop) (X21 : String → am_H → Prop), am_Ct tt 78 [.ref q19] h17 (am_pV Q21 X21) ∧ (∀ h20, Q21 h20 →
         Q h20) ∧ (∀ E22 h20, X21 E22 h20 → Qx E22 h20)))) ∧ (∀ E23 h17, X18 E23 h17 → Qx E23 h17)))) ∧ (∀ E24 h14, X15 E24 h14 → Qx E24 h14)))))) ∧ (∀ E25 h10, X11 E25 h10 → Qx E25 h10)))) ∧ (∀ E26 h7, X8 E26 h7 → Qx E26 h7)))) ∧ (∀ E27 h4, X5 E27 h4 → Qx E27 h4))) ∧ (∀ E28 h2, X3 E28 h2 → Qx E28 h2)))) :
  am_Ev tt 86 132 [some (.ref a0), none, none, some (.int a3)] [] h (am_pV Q Qx) := am_vc 39 [(19, [true, false, false, true]), (132, [true, false, false, true])] q

theorem lb_bit {v : Int64} {k i : Nat} (hi : i < 8) : (lb v k).toBitVec.getLsbD i = v.toBitVec.getLsbD (8 * k + i) := by
  unfold lb
  rw [Int8.toBitVec_toInt32, Int8.toBitVec_ofBitVec, BitVec.getLsbD_signExtend, BitVec.getLsbD_extractLsb']
  simp [hi, show i < 32 by omega]
theorem m255 : ∀ i : Fin 64, (255#64).getLsbD i.val = decide (i.val < 8) := by decide
theorem b255 {x : Int32} {m : Nat} (hm : m < 64) : (x.toInt64 &&& Int64.ofNat 255).toBitVec.getLsbD m = (decide (m < 8) && x.toBitVec.getLsbD m) := by
  have e1 : (Int64.ofNat 255).toBitVec = 255#64 := rfl
  have h1 := m255 ⟨m, hm⟩
  simp only [] at h1
  rw [Int64.toBitVec_and, e1, BitVec.getLsbD_and, h1, Int32.toBitVec_toInt64, BitVec.getLsbD_signExtend]
  by_cases c : m < 8
  · simp [c, hm, show m < 32 by omega]
  · simp [c]
theorem lt_bit {f : Nat → Int32} {p : Nat} : ∀ {n i : Nat}, n ≤ 8 → (lt f p n).toBitVec.getLsbD i = (decide (i < 8 * n) && (f (p + i / 8)).toBitVec.getLsbD (i % 8))
  | 0, i, _ => by
    have e : (lt f p 0).toBitVec = 0#64 := rfl
    rw [e]
    simp
  | n + 1, i, hn => by
    unfold lt
    rw [Int64.toBitVec_or, BitVec.getLsbD_or, lt_bit (n := n) (i := i) (by omega), sl_n (by omega), BitVec.getLsbD_shiftLeft]
    by_cases c1 : i < 8 * n
    · simp [c1, show i < 8 * (n + 1) by omega]
    · by_cases c2 : i < 8 * (n + 1)
      · rw [b255 (by omega), show i / 8 = n by omega, show i - 8 * n = i % 8 by omega]
        simp [c1, c2, show i < 64 by omega, show i % 8 < 8 by omega]
      · by_cases c3 : i < 64
        · rw [b255 (by omega)]
          simp [c1, c2, show ¬ i - 8 * n < 8 by omega]
        · simp [c1, c2, c3]
theorem lt_lay {f : Nat → Int32} {p : Nat} {v : Int64} : lt (lay f p v 8) p 8 = v := by
  apply Int64.toBitVec_inj.1
  apply BitVec.eq_of_getLsbD_eq
  intro i hi
  rw [lt_bit (Nat.le_refl _), lay, if_pos (by omega), Nat.add_sub_cancel_left, lb_bit (by omega), show 8 * (i / 8) + i % 8 = i by omega]
  simp [hi]
theorem lay_fr {f g : Nat → Int32} {p n j : Nat} {v : Int64} (h : f j = g j) : lay f p v n j = lay g p v n j := by
  unfold lay
  split
  · rfl
  · exact h
theorem lay_o {f : Nat → Int32} {p n j : Nat} {v : Int64} (h : ¬ (p ≤ j ∧ j < p + n)) : lay f p v n j = f j := by rw [lay, if_neg h]
/-! what is written -/
def hd32 : List Int32 := (R0 32).flatMap (fun i => [if i < 8 then sig.getD i 0 else Int32.ofNat 0])
def wO (a : sA) : Nat := (wP2 a).length
def wN (a : sA) : Nat := 32 + wO a + (wH a).length
def wT0 (a : sA) : Nat → Int32 := apl (apl (apl (fun _ => 0) 0 hd32) 32 (wP2 a)) (32 + wO a) (wH a)
def wT2 (a : sA) : Nat → Int32 := lay (lay (wT0 a) 12 (Int64.ofNat (wO a)) 8) 20 (Int64.ofNat (wN a - (32 + wO a))) 8
def wT3 (a : sA) : Nat → Int32 := lay (wT2 a) 28 (ck (wT2 a) (32 + wO a) (wN a - (32 + wO a))).toInt64 4
def wTf (a : sA) : Nat → Int32 := slh (wT3 a)
noncomputable def f_write (s : sS) : Int32 × sS := @ite _ (rdy s.1) (Classical.propDecidable _) (@ite _ (∀ b, b < 6 → sbo (a_E s.1) b (a_n s.1) ≤ 2400) (Classical.propDecidable _) (if wN s.1 ≤ 5000 then (Int32.ofNat (wN s.1), put_T s (wN s.1) (wTf s.1)) else (-4, s)) (-4, s)) (-3, s)
theorem f_wr3 {s : sS} (h : ¬ rdy s.1) : f_write s = (-3, s) := by unfold f_write; rw [if_neg h]
theorem f_wr4 {s : sS} (h : rdy s.1) (h2 : ¬ ∀ b, b < 6 → sbo (a_E s.1) b (a_n s.1) ≤ 2400) : f_write s = (-4, s) := by unfold f_write; rw [if_pos h, if_neg h2]
theorem f_wr {s : sS} (h : wok s.1) : f_write s = if wN s.1 ≤ 5000 then (Int32.ofNat (wN s.1), put_T s (wN s.1) (wTf s.1)) else (-4, s) := by unfold f_write; rw [if_pos h.1, if_pos h.2]
theorem wT0_8 {a : sA} {j : Nat} : by8 (wT0 a j) = wT0 a j := by
  unfold wT0 apl
  split
  · exact by8_8
  · split
    · exact by8_8
    · split
      · exact by8_8
      · rfl
theorem wTf_8 {a : sA} {j : Nat} : by8 (wTf a j) = wTf a j := lay_8 (lay_8 (lay_8 (lay_8 wT0_8)))
theorem hd32_l : hd32.length = 32 := by decide
theorem hd32_g : ∀ j, j < 32 → 8 ≤ j → by8 (hd32.getD j 0) = 0 := by decide
theorem lb_0 : ∀ k, k < 8 → lb (Int64.ofNat 0) k = 0 := by decide
theorem ck_0 {f : Nat → Int32} {p : Nat} : ck f p 0 = 0 := by
  unfold ck ckr
  decide
/-- nothing to write but the head -/
theorem oBn_0 {E : Nat → sE} {b : Nat} : oBn E b 0 = [] := rfl
theorem wP2_0 {a : sA} (h : a_n a = 0) : wP2 a = [] := by
  have : ∀ b, pk2 a b = [] := by
    intro b
    have e : raw a b = [] := by rw [raw, h, oBn_0]; rfl
    rw [pk2, e]; rfl
  unfold wP2
  rw [show (R0 6).flatMap (pk2 a) = pk2 a 0 ++ (pk2 a 1 ++ (pk2 a 2 ++ (pk2 a 3 ++ (pk2 a 4 ++ (pk2 a 5 ++ []))))) from rfl]
  simp only [this, List.append_nil]
theorem w_0 {a : sA} (h : a_n a = 0) : wO a = 0 ∧ wN a = 32 := by
  unfold wN wO
  rw [wP2_0 h, wH, if_pos h]
  exact ⟨rfl, rfl⟩
theorem wT3_0 {a : sA} (h : a_n a = 0) : ∀ j, j < 32 → wT3 a j = apl (fun _ => 0) 0 hd32 j := by
  intro j hj
  obtain ⟨h1, h2⟩ := w_0 h
  have e0 : wT0 a = apl (fun _ => 0) 0 hd32 := by
    unfold wT0
    rw [wP2_0 h, apl_nil, wH, if_pos h, apl_nil]
  have z : ∀ i, i < 32 → 8 ≤ i → apl (fun _ => 0) 0 hd32 i = 0 := by
    intro i h1 h2
    rw [apl, if_pos (by rw [hd32_l]; omega)]
    exact hd32_g i h1 h2
  have e2 : ∀ i, i < 32 → wT2 a i = apl (fun _ => 0) 0 hd32 i := by
    intro i hi
    unfold wT2
    rw [h1, h2, e0]
    simp only [Nat.add_zero, Nat.sub_self]
    by_cases c : 20 ≤ i ∧ i < 20 + 8
    · rw [lay, if_pos c, lb_0 _ (by omega), z i hi (by omega)]
    · rw [lay_o c]
      by_cases c2 : 12 ≤ i ∧ i < 12 + 8
      · rw [lay, if_pos c2, lb_0 _ (by omega), z i hi (by omega)]
      · rw [lay_o c2]
  unfold wT3
  rw [h1, h2]
  simp only [Nat.add_zero, Nat.sub_self]
  rw [ck_0, show (0 : Int32).toInt64 = Int64.ofNat 0 from rfl]
  by_cases c : 28 ≤ j ∧ j < 28 + 4
  · rw [lay, if_pos c, lb_0 _ (by omega), z j hj (by omega)]
  · rw [lay_o c]
    exact e2 j hj
section WJ
variable {tt : Nat → Nat} {h h' k : am_H} {cd : Nat → Nat} {bb : Nat → Nat → Nat} {wa wt : Nat} {a : sA}
theorem WT.same {n : Nat} {T : Nat → Int32} (w : WT cd wt h n T) (hI : ∀ f, am_I h' 6 f (cd (c_tp (1 - wt))) = am_I h 6 f (cd (c_tp (1 - wt)))) (hA : am_A h' (cd (c_tb (1 - wt))) = am_A h (cd (c_tb (1 - wt)))) : WT cd wt h' n T := by
  unfold WT
  rw [hI, hI, hA]
  exact w
theorem WA.tl (x1 : WA tt h cd bb wa wt a) (l : List Int32) : WA tt (tw cd wt h l) cd bb wa wt a := by
  obtain ⟨n, ht⟩ := x1.2.2.2.2.2.2
  exact x1.same (by simp only [tp_l_fr]) (by simp only [tp_l_fr]) (by simp only [tp_l_fr]) (by simp only [tp_l_fr]) (fun x _ => by simp only [tp_l_fr]) (fun c f x hc => tp_l_I (by omega)) (fun y h1 h2 => tp_l_A h1) ⟨_, tp_l_n ht⟩
theorem WA.ct (x1 : WA tt h cd bb wa wt a) (f : Nat → Int32) : WA tt (am_cA h (cd (c_tb (1 - wt))) f) cd bb wa wt a :=
  x1.same rfl rfl rfl rfl (fun x _ => rfl) (fun c f x hc => rfl) (fun y h1 h2 => by simp only [am_hs]; rw [if_neg h1]) x1.2.2.2.2.2.2
theorem WA.tp (x : WA tt h cd bb wa wt a) {n : Nat} {T : Nat → Int32} (w : WT cd wt h n T) : tp_n h (cd (c_tp (1 - wt))) (cd (c_tb (1 - wt))) (if n ≤ 5000 then n else 5000) := by
  obtain ⟨l, t⟩ := x.2.2.2.2.2.2
  exact ⟨t.1, w.1, by split <;> omega⟩
/-- the end: what was told, and the checks -/
theorem bld_end (x : WA tt h cd bb wa wt a) (hT : WT cd wt h (wN a) (wT0 a)) {G : am_H → Prop} (hG : ∀ h', WA tt h' cd bb wa wt a → wfr cd wt h h' → WT cd wt h' (wN a) (wTf a) → G h') {s : Int32} (hs : s = Int32.ofNat (if 32 + wO a ≤ 5000 then 32 + wO a else 5000)) :
    am_K h (cd 20) = 9 ∧ ∃ q18, am_R h 8 3 (cd 20) = some q18 ∧
           (am_K h q18 = 7 ∧ ∃ (Q20 : am_H → Prop) (X20 : String → am_H → Prop), am_Ct tt 73 [.ref q18, .int (Int32.ofNat 12), .long ((s - (Int32.ofNat 32))).toInt64, .int (Int32.ofNat 8)] h (am_pV Q20 X20) ∧ (∀ h19, Q20 h19 →
            (am_K h19 (cd 20) = 9 ∧ ∃ q21, am_R h19 8 3 (cd 20) = some q21 ∧
            (am_K h19 (cd 20) = 9 ∧ ∃ q22, am_R h19 8 3 (cd 20) = some q22 ∧
            (am_K h19 q22 = 7 ∧
            (am_K h19 q21 = 7 ∧ ∃ (Q24 : am_H → Prop) (X24 : String → am_H → Prop), am_Ct tt 73 [.ref q21, .int (Int32.ofNat 20), .long (((am_I h19 6 1 q22) - s)).toInt64, .int (Int32.ofNat 8)] h19 (am_pV Q24 X24) ∧ (∀ h23, Q24 h23 →
             (am_K h23 (cd 20) = 9 ∧ ∃ q25, am_R h23 8 3 (cd 20) = some q25 ∧
             (am_K h23 q25 = 7 ∧ ∃ (Q27 : am_H → Prop) (X27 : String → am_H → Prop), am_Ct tt 79 [.ref q25] h23 (am_pV Q27 X27) ∧ (∀ h26, Q27 h26 →
              (am_K h26 (cd 20) = 9 ∧ ∃ q28, am_R h26 8 3 (cd 20) = some q28 ∧
              (am_K h26 q28 = 7 ∧ ∃ (Q30 : am_H → Prop) (X30 : String → am_H → Prop), am_Ct tt 78 [.ref q28] h26 (am_pV Q30 X30) ∧ (∀ h29, Q30 h29 →
               G h29) ∧ (∀ E31 h29, X30 E31 h29 → no_x E31 h29)))) ∧ (∀ E32 h26, X27 E32 h26 → no_x E32 h26)))) ∧ (∀ E33 h23, X24 E33 h23 → no_x E33 h23)))))) ∧ (∀ E34 h19, X20 E34 h19 → no_x E34 h19)) := by
  subst hs
  have F := x.f
  have hNO : 32 + wO a ≤ wN a := by unfold wN; omega
  have tp := x.tp hT
  generalize eN : (if wN a ≤ 5000 then wN a else 5000) = N at tp
  generalize eS : (if 32 + wO a ≤ 5000 then 32 + wO a else 5000) = st
  have hst : 32 ≤ st ∧ st ≤ N ∧ N ≤ 5000 := by
    rw [← eN, ← eS]
    split <;> split <;> omega
  have k1 := x.2.2.2.1
  refine ⟨F.1, _, x.2.2.2.2.2.1, tp.1.1, _, _, ct_setLittle tp (by omega) (by omega), fun h1 e1 => ?_, fun _ _ z => z⟩
  rw [qi_sub (by omega), qi_l (by omega)] at e1
  have x1 : WA tt h1 cd bb wa wt a := by rw [e1]; exact x.ct _
  have tp1 : tp_n h1 (cd (c_tp (1 - wt))) (cd (c_tb (1 - wt))) N := by rw [e1]; exact tp
  have F1 := x1.f
  refine ⟨F1.1, _, x1.2.2.2.2.2.1, F1.1, _, x1.2.2.2.2.2.1, tp1.1.1, tp1.1.1, _, _, ct_setLittle tp1 (by omega) (by omega), fun h2 e2 => ?_, fun _ _ z => z⟩
  rw [tp1.2.1, qi_sub (by omega), qi_l (by omega)] at e2
  have x2 : WA tt h2 cd bb wa wt a := by rw [e2]; exact x1.ct _
  have tp2 : tp_n h2 (cd (c_tp (1 - wt))) (cd (c_tb (1 - wt))) N := by rw [e2]; exact tp1
  have F2 := x2.f
  have A1 : am_A h1 (cd (c_tb (1 - wt))) = lay (am_A h (cd (c_tb (1 - wt)))) 12 (Int64.ofNat (st - 32)) 8 := by rw [e1, cA_A]
  have A2 : am_A h2 (cd (c_tb (1 - wt))) = lay (lay (am_A h (cd (c_tb (1 - wt)))) 12 (Int64.ofNat (st - 32)) 8) 20 (Int64.ofNat (N - st)) 8 := by rw [e2, cA_A, A1]
  have L2 : lt (am_A h2 (cd (c_tb (1 - wt)))) 12 8 = Int64.ofNat (st - 32) := by
    rw [A2, lt_fr (g := lay (am_A h (cd (c_tb (1 - wt)))) 12 (Int64.ofNat (st - 32)) 8) (fun j h1 h2 => lay_o (by omega)), lt_lay]
  refine ⟨F2.1, _, x2.2.2.2.2.2.1, tp2.1.1, _, _, ct_sealHeader x2.2.2.2.1 tp2 (by omega) L2 (by omega), fun h3 e3 => ?_, fun _ _ z => z⟩
  have x3 : WA tt h3 cd bb wa wt a := by rw [e3]; exact x2.ct _
  have tp3 : tp_n h3 (cd (c_tp (1 - wt))) (cd (c_tb (1 - wt))) N := by rw [e3]; exact tp2
  have F3 := x3.f
  refine ⟨F3.1, _, x3.2.2.2.2.2.1, tp3.1.1, _, _, ct_sealHead x3.2.2.2.1 tp3 (by omega), fun h4 e4 => ?_, fun _ _ z => z⟩
  refine hG h4 (by rw [e4]; exact x3.ct _) (by rw [e4]; refine wfr.tr ?_ wfr.ct; rw [e3]; refine wfr.tr ?_ wfr.ct; rw [e2]; refine wfr.tr ?_ wfr.ct; rw [e1]; exact wfr.ct) ?_
  have I4 : ∀ f, am_I h4 6 f (cd (c_tp (1 - wt))) = am_I h 6 f (cd (c_tp (1 - wt))) := by intro f; rw [e4, e3, e2, e1]; rfl
  refine ⟨by rw [I4]; exact hT.1, by rw [I4]; exact hT.2.1, fun h5 j hj => ?_⟩
  rw [if_pos h5] at eN
  rw [if_pos (by omega)] at eS
  subst eN eS
  have A0 := hT.2.2 h5
  have B2 : ∀ i, i < wN a → am_A h2 (cd (c_tb (1 - wt))) i = wT2 a i := by
    intro i hi
    rw [A2, Nat.add_sub_cancel_left]
    exact lay_fr (lay_fr (A0 i hi))
  have B3 : ∀ i, i < wN a → am_A h3 (cd (c_tb (1 - wt))) i = wT3 a i := by
    intro i hi
    rw [e3, cA_A, Nat.add_sub_cancel_left, ck_fr (f := am_A h2 (cd (c_tb (1 - wt)))) (g := wT2 a) (fun j h1 h2 => B2 j (by omega))]
    exact lay_fr (B2 i hi)
  rw [e4, cA_A, ck_fr (f := am_A h3 (cd (c_tb (1 - wt)))) (g := wT3 a) (fun j h1 h2 => B3 j (by omega))]
  exact lay_fr (B3 j hj)
theorem ct_build1 (x : WA tt h cd bb wa wt a) (w : wok a) (hT : WT cd wt h 0 (fun _ => 0)) : am_Ev tt 86 19 [some (.ref (cd 20)), none, none, some (.int (Int32.ofNat 0))] [] h (am_pV (fun h' => WA tt h' cd bb wa wt a ∧ wfr cd wt h h' ∧ WT cd wt h' (wN a) (wTf a)) no_x) := by
  have wf := x.2.2.1
  have n24 := wf.1
  have hK := oK_le wf
  -- from the entries on
  have key3 : ∀ (k : am_H) (l : List Int32), WX tt k cd bb wa wt a → wfr cd wt h k → WT cd wt k (32 + wO a + l.length) (apl (apl (apl (fun _ => 0) 0 hd32) 32 (wP2 a)) (32 + wO a) l) → l ++ (wE a ++ [Int32.ofNat 0]) = wH a →
      am_Ev tt 86 132 [some (.ref (cd 20)), none, none, some (.int (Int32.ofNat (if 32 + wO a ≤ 5000 then 32 + wO a else 5000)))] [] k (am_pV (fun h' => WA tt h' cd bb wa wt a ∧ wfr cd wt h h' ∧ WT cd wt h' (wN a) (wTf a)) no_x) := by
    intro k l y fk hk el
    refine vc_86_132 tt _ _ _ _ _ (y.b fun h1 e1 x1 => ⟨x1.1.f.1, _, _, ct_addEntries x1, fun h2 e2 => ?_, fun _ _ z => z⟩)
    obtain ⟨f, e2⟩ := e2
    have x2 : WX tt h2 cd bb wa wt a := by rw [e2]; exact (x1.fl f).tl _
    refine x2.b fun h3 e3 x3 => bld_end x3.1 ?_ (fun h' y' f' t' => ⟨y', (fk.tr ?_).tr f', t'⟩) rfl
    · have ne := y.1.n22
      have t0 : WT cd wt (am_cA k (cd 22) f) _ _ := hk.same (fun _ => rfl) (by simp only [am_hs]; rw [if_neg ne.symm])
      have e1 : h1 = tw cd wt k [Int32.ofNat 5] := e1
      have e3 : h3 = tw cd wt h2 [Int32.ofNat 0] := e3
      rw [e1, tp_l_cA ne, tw_a] at e2
      rw [e2, tw_a] at e3
      have t4 := t0.tl ([Int32.ofNat 5] ++ (nb (a_n a) ++ (wEm a ++ ([Int32.ofNat 17] ++ (nb (1 + 2 * uns a) ++ ([Int32.ofNat 0] ++ (wNm a ++ (wVal a 20 8 (vT a) ++ (wVal a 21 4 (vA a) ++ [Int32.ofNat 0])))))))) ++ [Int32.ofNat 0])
      rw [← e3, apl_app, Nat.add_assoc, ← List.length_append] at t4
      have eH : l ++ ([Int32.ofNat 5] ++ (nb (a_n a) ++ (wEm a ++ ([Int32.ofNat 17] ++ (nb (1 + 2 * uns a) ++ ([Int32.ofNat 0] ++ (wNm a ++ (wVal a 20 8 (vT a) ++ (wVal a 21 4 (vA a) ++ [Int32.ofNat 0])))))))) ++ [Int32.ofNat 0]) = wH a := by
        rw [← el, wE]
      rw [eH] at t4
      exact t4
    · rw [e3]
      refine wfr.tr ?_ wfr.tl
      rw [e2]
      refine wfr.tr ?_ wfr.tl
      refine wfr.tr ?_ wfr.fl
      rw [e1]
      exact wfr.tl
  have key2 : ∀ (k : am_H), ¬ a_n a = 0 → WX tt k cd bb wa wt a → wfr cd wt h k → WT cd wt k (32 + wO a) (apl (apl (fun _ => 0) 0 hd32) 32 (wP2 a)) → ∀ s, s = Int32.ofNat (if 32 + wO a ≤ 5000 then 32 + wO a else 5000) →
      am_K k (cd 20) = 9 ∧ ∃ q7, am_R k 8 3 (cd 20) = some q7 ∧ (am_K k q7 = 7 ∧ ∃ (Q9 : am_H → Prop) (X9 : String → am_H → Prop), am_Ct tt 68 [.ref q7, .int (Int32.ofNat 1)] k (am_pV Q9 X9) ∧ (∀ h8, Q9 h8 →
       (am_K h8 (cd 20) = 9 ∧
       (((am_I h8 8 5 (cd 20)) ≤ (Int32.ofNat 0) →
        am_Ev tt 86 132 [some (.ref (cd 20)), none, none, some (.int s)] [] h8 (am_pV (fun h' => WA tt h' cd bb wa wt a ∧ wfr cd wt h h' ∧ WT cd wt h' (wN a) (wTf a)) no_x)) ∧
       (¬ ((am_I h8 8 5 (cd 20)) ≤ (Int32.ofNat 0)) →
        (am_K h8 (cd 20) = 9 ∧ ∃ q38, am_R h8 8 3 (cd 20) = some q38 ∧
        (am_K h8 q38 = 7 ∧ ∃ (Q40 : am_H → Prop) (X40 : String → am_H → Prop), am_Ct tt 68 [.ref q38, .int (Int32.ofNat 4)] h8 (am_pV Q40 X40) ∧ (∀ h39, Q40 h39 →
         (am_K h39 (cd 20) = 9 ∧ ∃ (Q42 : am_H → Prop) (X42 : String → am_H → Prop), am_Ct tt 90 [.ref (cd 20)] h39 (am_pV Q42 X42) ∧ (∀ h41, Q42 h41 →
          (am_K h41 (cd 20) = 9 ∧ ∃ (Q44 : am_H → Prop) (X44 : String → am_H → Prop), am_Ct tt 91 [.ref (cd 20)] h41 (am_pV Q44 X44) ∧ (∀ h43, Q44 h43 →
           (am_K h43 (cd 20) = 9 ∧ ∃ (Q46 : am_H → Prop) (X46 : String → am_H → Prop), am_Ct tt 94 [.ref (cd 20)] h43 (am_pV Q46 X46) ∧ (∀ h45, Q46 h45 →
            (am_K h45 (cd 20) = 9 ∧ ∃ q47, am_R h45 8 3 (cd 20) = some q47 ∧
            (am_K h45 q47 = 7 ∧ ∃ (Q49 : am_H → Prop) (X49 : String → am_H → Prop), am_Ct tt 68 [.ref q47, .int (Int32.ofNat 0)] h45 (am_pV Q49 X49) ∧ (∀ h48, Q49 h48 →
             am_Ev tt 86 132 [some (.ref (cd 20)), none, none, some (.int s)] [] h48 (am_pV (fun h' => WA tt h' cd bb wa wt a ∧ wfr cd wt h h' ∧ WT cd wt h' (wN a) (wTf a)) no_x)) ∧ (∀ E79 h48, X49 E79 h48 → no_x E79 h48)))) ∧ (∀ E80 h45, X46 E80 h45 → no_x E80 h45))) ∧ (∀ E81 h43, X44 E81 h43 → no_x E81 h43))) ∧ (∀ E82 h41, X42 E82 h41 → no_x E82 h41))) ∧ (∀ E83 h39, X40 E83 h39 → no_x E83 h39))))))) ∧ (∀ E84 h8, X9 E84 h8 → no_x E84 h8)) := by
    intro k n0 y fk hk s es
    subst es
    refine y.b fun h1 e1 x1 => ?_
    have F1 := x1.1.f
    have t1 := hk.tl [Int32.ofNat 1]
    have e1 : h1 = tw cd wt k [Int32.ofNat 1] := e1
    rw [← e1] at t1
    have f1 : wfr cd wt h h1 := fk.tr (by rw [e1]; exact wfr.tl)
    refine ⟨F1.1, fun z => ?_, fun z => x1.b fun h2 e2 x2 => ⟨x2.1.f.1, _, _, ct_addPackedSizes x2 w, fun h3 e3 => ?_, fun _ _ z => z⟩⟩
    · rw [x1.2.2.1, qi_le (by omega) (by omega)] at z
      refine key3 h1 [Int32.ofNat 1] x1 f1 t1 ?_
      rw [wH, if_neg n0, if_neg (by omega), List.nil_append]
    · rw [x1.2.2.1, qi_le (by omega) (by omega)] at z
      have x3 : WX tt h3 cd bb wa wt a := by rw [e3]; exact x2.tl _
      refine ⟨x3.1.f.1, _, _, ct_addFolders x3 w, fun h4 e4 => ?_, fun _ _ z => z⟩
      have x4 : WX tt h4 cd bb wa wt a := by rw [e4]; exact x3.tl _
      refine ⟨x4.1.f.1, _, _, ct_addFiles x4 w, fun h5 e5 => ?_, fun _ _ z => z⟩
      have x5 : WX tt h5 cd bb wa wt a := by rw [e5]; exact x4.tl _
      refine x5.b fun h6 e6 x6 => ?_
      have eL : h6 = tw cd wt k ([Int32.ofNat 1] ++ wS a) := by
        rw [e6, e5, e4, e3, e2, e1]
        simp only [tw_a]
        congr 1
        rw [wS]
        simp only [List.append_assoc, List.cons_append, List.nil_append]
      have t6 := hk.tl ([Int32.ofNat 1] ++ wS a)
      rw [← eL] at t6
      refine key3 h6 ([Int32.ofNat 1] ++ wS a) x6 (fk.tr (by rw [eL]; exact wfr.tl)) t6 ?_
      rw [wH, if_neg n0, if_pos (by omega), List.append_assoc]
  -- the head
  have key1 : ∀ (d i : Nat) (k : am_H), d + i = 32 → WA tt k cd bb wa wt a → wfr cd wt h k → WT cd wt k i (apl (fun _ => 0) 0 ((R0 i).flatMap (fun i => [if i < 8 then sig.getD i 0 else Int32.ofNat 0]))) →
      am_Ev tt 86 19 [some (.ref (cd 20)), none, none, some (.int (Int32.ofNat i))] [] k (am_pV (fun h' => WA tt h' cd bb wa wt a ∧ wfr cd wt h h' ∧ WT cd wt h' (wN a) (wTf a)) no_x) := by
    intro d
    induction d with
    | zero =>
      intro i k e y fk hk
      have F := y.f
      have : i = 32 := by omega
      subst this
      have hk : WT cd wt k 32 (apl (fun _ => 0) 0 hd32) := hk
      refine vc_86_19 tt _ _ _ _ _ ⟨fun _ => ?_, fun z => absurd (show Int32.ofNat 32 ≤ Int32.ofNat 32 by decide) z⟩
      simp (disch := omega) only [F, qi_lt, qi_le, qi_eq, qi_nn, qi_in, qi_add, qi_l, ql_i, ql_lt, ql_le, ql_eq, ql_add, qc_lt, qc_eq, qc_ge, qc_gt, qc_le, true_and, and_true, and_self, true_or, or_true, false_or, or_false, false_and, and_false, not_true_eq_false, not_false_eq_true, Classical.not_not, true_implies, false_implies, implies_true, exists_eq_left, exists_eq_left', Option.some.injEq, reduceIte, Nat.reduceEqDiff, Nat.reduceLT, Nat.reduceLeDiff, Nat.reduceAdd, Nat.reduceSub, Nat.reduceMul, eq_self, ne_eq, and_imp, forall_const, reduceCtorEq, am_w, List.map_cons, List.map_nil, List.sum_cons, List.sum_nil, Value.category, Nat.zero_le, Nat.le_refl]
      refine ⟨fun z => ⟨_, _, ct_arrange y, fun h1 e1 => ?_, fun _ _ z => z⟩, fun z => ⟨_, _, ct_sealHead y.2.2.2.1 (n := 32) (y.tp hk) (by omega), fun h1 e1 => ?_, fun _ _ z => z⟩⟩
      · obtain ⟨x1, f1⟩ := e1
        have t1 : WT cd wt h1 32 (apl (fun _ => 0) 0 hd32) := hk.same (fun f => f1.2.2.2.2.2.2.2.2.2 _ _ _ (by omega)) (by rw [f1.2.2.2.2.2.1])
        refine ⟨x1.1.f.1, _, _, ct_addPackedBlocks x1 w t1 (by omega), fun h2 e2 => ?_, fun _ _ z => z⟩
        obtain ⟨x2, f2, t2⟩ := e2
        have F2 := x2.1.f
        refine ⟨F2.1, _, x2.1.2.2.2.2.2.1, F2.2.2.2.2.2.2.2.2.2.1, key2 h2 z x2 ((fk.tr f1.w).tr f2) t2 _ t2.1⟩
      · have t1 : WT cd wt h1 (wN a) (wTf a) := by
          rw [(w_0 z).2]
          refine ⟨by rw [e1]; exact hk.1, by rw [e1]; exact hk.2.1, fun _ j hj => ?_⟩
          have A0 := hk.2.2 (by omega)
          have B3 : ∀ i, i < 32 → am_A k (cd (c_tb (1 - wt))) i = wT3 a i := fun i hi => by rw [wT3_0 z i hi]; exact A0 i hi
          rw [e1, cA_A, ck_fr (f := am_A k (cd (c_tb (1 - wt)))) (g := wT3 a) (fun j h1 h2 => B3 j (by omega))]
          exact lay_fr (B3 j hj)
        exact ⟨by rw [e1]; exact y.ct _, fk.tr (by rw [e1]; exact wfr.ct), t1⟩
    | succ d ih =>
      intro i k e y fk hk
      have F := y.f
      obtain ⟨k1, k2, k3, k4, k5, k6⟩ := y.2.2.2.1
      obtain ⟨l, tp⟩ := y.2.2.2.2.2.2
      have nx : ∀ v k', v = (if i < 8 then sig.getD i 0 else Int32.ofNat 0) → k' = tp_b (cd (c_tp (1 - wt))) (cd (c_tb (1 - wt))) k v → am_Ev tt 86 19 [some (.ref (cd 20)), none, none, some (.int (Int32.ofNat (i + 1)))] [] k' (am_pV (fun h' => WA tt h' cd bb wa wt a ∧ wfr cd wt h h' ∧ WT cd wt h' (wN a) (wTf a)) no_x) := by
        intro v k' ev ek
        have ek : k' = tw cd wt k [v] := ek
        refine ih (i + 1) k' (by omega) (by rw [ek]; exact y.tl _) (fk.tr (by rw [ek]; exact wfr.tl)) ?_
        have := hk.tl [v]
        rw [← ek] at this
        have ll : ((R0 i).flatMap (fun i => [if i < 8 then sig.getD i 0 else Int32.ofNat 0])).length = i := by
          have : ∀ n, ((R0 n).flatMap (fun i => [if i < 8 then sig.getD i 0 else Int32.ofNat 0])).length = n := by
            intro n
            induction n with
            | zero => rfl
            | succ n ih => rw [fm_s, List.length_append, ih]; rfl
          exact this i
        rw [fm_s, ← apl_app, ll, Nat.zero_add, ← ev]
        exact this
      refine vc_86_19 tt _ _ _ _ _ ?_
      simp (disch := omega) only [F, k4, k5, am_hs, qi_lt, qi_le, qi_eq, qi_nn, qi_in, qi_add, qi_l, ql_i, ql_lt, ql_le, ql_eq, ql_add, qc_lt, qc_eq, qc_ge, qc_gt, qc_le, true_and, and_true, and_self, true_or, or_true, false_or, or_false, false_and, and_false, not_true_eq_false, not_false_eq_true, Classical.not_not, true_implies, false_implies, implies_true, exists_eq_left, exists_eq_left', Option.some.injEq, reduceIte, Nat.reduceEqDiff, Nat.reduceLT, Nat.reduceLeDiff, Nat.reduceAdd, Nat.reduceSub, Nat.reduceMul, eq_self, ne_eq, and_imp, forall_const, reduceCtorEq, am_w, List.map_cons, List.map_nil, List.sum_cons, List.sum_nil, Value.category, Nat.zero_le, Nat.le_refl]
      refine ⟨fun z => by omega, fun _ => ⟨fun z => ⟨_, _, ct_addByte tp, fun k' e' => nx _ k' (by rw [if_neg (by omega)]) e', fun _ _ z => z⟩, fun z => ⟨by omega, _, _, ct_addByte tp, fun k' e' => nx _ k' (by rw [if_pos (by omega)]; exact k6 i (by omega)) e', fun _ _ z => z⟩⟩⟩
  refine key1 32 0 h (by omega) x wfr.rf ?_
  rw [show (R0 0).flatMap (fun i => [if i < 8 then sig.getD i 0 else Int32.ofNat 0]) = [] from rfl, apl_nil]
  exact hT
end WJ
