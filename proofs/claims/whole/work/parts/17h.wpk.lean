/-! deps: 17g -/
/-! ===== the class's writer: the tape's bytes, packed blocks ===== -/
/-! 89 yX8_addPackedBlocks -/
theorem vc_89_0 (tt : Nat → Nat) (a0 : Nat) (h : am_H) (Q : am_H → Prop) (Qx : String → am_H → Prop) (q :
  am_Ev tt 89 2 [some (.ref a0), some (.int (Int32.ofNat 0)), none, none] [] h (am_pV Q Qx)) :
  am_Ev tt 89 0 [some (.ref a0), none, none, none] [] h (am_pV Q Qx) := am_vc 5 [(2, [true, true, false, false]), (18, [true, true, true, true])] q
theorem vc_89_2 (tt : Nat → Nat) (a0 : Nat) (a1 : Int32) (h : am_H) (Q : am_H → Prop) (Qx : String → am_H → Prop) (q :
  (((Int32.ofNat 6) ≤ a1 →
   Q h) ∧
  (¬ ((Int32.ofNat 6) ≤ a1) →
   (am_K h a0 = 9 ∧ ∃ q1, am_R h 8 3 a0 = some q1 ∧
   (am_K h q1 = 7 ∧
   am_Ev tt 89 18 [some (.ref a0), some (.int a1), some (.int (am_I h 6 1 q1)), some (.int (Int32.ofNat 0))] [] h (am_pV Q Qx)))))) :
  am_Ev tt 89 2 [some (.ref a0), some (.int a1), none, none] [] h (am_pV Q Qx) := am_vc 12 [(2, [true, true, false, false]), (18, [true, true, true, true])] q
theorem vc_89_18 (tt : Nat → Nat) (a0 : Nat) (a1 : Int32) (a2 : Int32) (a3 : Int32) (h : am_H) (Q : am_H → Prop) (Qx : String → am_H → Prop) (q :
  (am_K h a0 = 9 ∧
  (((am_I h 8 5 a0) ≤ a3 →
   (am_K h a0 = 9 ∧ ∃ q1, am_R h 8 2 a0 = some q1 ∧
   (am_K h q1 = 1 ∧ ∃ q2, am_R h 0 2 q1 = some q2 ∧
   ((am_K h q2 = 26 ∨ am_K h q2 = 27) ∧ vp_in a1 (am_N h q2) ∧ ∃ q3, am_C h q2 (a1).toNatClampNeg = some q3 ∧
   (am_K h a0 = 9 ∧ ∃ q4, am_R h 8 3 a0 = some q4 ∧
   (am_K h q4 = 7 ∧ ∃ q5, am_R h 6 0 q4 = some q5 ∧
   (am_K h a0 = 9 ∧ ∃ q6, am_R h 8 3 a0 = some q6 ∧
   (am_K h q6 = 7 ∧
   (am_K h q3 = 2 ∧ ∃ (Q8 : am_H → Prop) (X8 : String → am_H → Prop), am_Ct tt 14 [.ref q3, .ref q5, .int a2, .int (am_I h 6 1 q6)] h (am_pV Q8 X8) ∧ (∀ h7, Q8 h7 →
    am_Ev tt 89 2 [some (.ref a0), some (.int (a1 + (Int32.ofNat 1))), none, none] [] h7 (am_pV Q Qx)) ∧ (∀ E9 h7, X8 E9 h7 → Qx E9 h7)))))))))) ∧
  (¬ ((am_I h 8 5 a0) ≤ a3) →
   (am_K h a0 = 9 ∧ ∃ q10, am_R h 8 0 a0 = some q10 ∧
   ((am_K h q10 = 26 ∨ am_K h q10 = 27) ∧ vp_in a3 (am_N h q10) ∧ ∃ q11, am_C h q10 (a3).toNatClampNeg = some q11 ∧
   (am_K h q11 = 5 ∧
   ((¬ (am_I h 4 5 q11) = a1 →
    am_Ev tt 89 18 [some (.ref a0), some (.int a1), some (.int a2), some (.int (a3 + (Int32.ofNat 1)))] [] h (am_pV Q Qx)) ∧
   (¬ (¬ (am_I h 4 5 q11) = a1) →
    (am_K h a0 = 9 ∧ ∃ q12, am_R h 8 3 a0 = some q12 ∧
    (am_K h a0 = 9 ∧ ∃ q13, am_R h 8 0 a0 = some q13 ∧
    ((am_K h q13 = 26 ∨ am_K h q13 = 27) ∧ vp_in a3 (am_N h q13) ∧ ∃ q14, am_C h q13 (a3).toNatClampNeg = some q14 ∧
    (am_K h q14 = 5 ∧ ∃ q15, am_R h 4 2 q14 = some q15 ∧
    (am_K h a0 = 9 ∧ ∃ q16, am_R h 8 0 a0 = some q16 ∧
    ((am_K h q16 = 26 ∨ am_K h q16 = 27) ∧ vp_in a3 (am_N h q16) ∧ ∃ q17, am_C h q16 (a3).toNatClampNeg = some q17 ∧
    (am_K h q17 = 5 ∧
    (am_K h q12 = 7 ∧ ∃ (Q19 : am_H → Prop) (X19 : String → am_H → Prop), am_Ct tt 69 [.ref q12, .ref q15, .int (am_I h 4 3 q17)] h (am_pV Q19 X19) ∧ (∀ h18, Q19 h18 →
     am_Ev tt 89 18 [some (.ref a0), some (.int a1), some (.int a2), some (.int (a3 + (Int32.ofNat 1)))] [] h18 (am_pV Q Qx)) ∧ (∀ E20 h18, X19 E20 h18 → Qx E20 h18)))))))))))))))))) :
  am_Ev tt 89 18 [some (.ref a0), some (.int a1), some (.int a2), some (.int a3)] [] h (am_pV Q Qx) := am_vc 29 [(2, [true, true, false, false]), (18, [true, true, true, true])] q

theorem by8_8 {v : Int32} : by8 (by8 v) = by8 v := by unfold by8; rw [q8_8]
/-- bytes laid behind n others -/
def apl (T : Nat → Int32) (n : Nat) (l : List Int32) (j : Nat) : Int32 := if n ≤ j ∧ j < n + l.length then by8 (l.getD (j - n) 0) else T j
theorem apl_nil {T : Nat → Int32} {n : Nat} : apl T n [] = T := by
  funext j
  rw [apl, if_neg (by rw [List.length_nil]; omega)]
theorem apl_app {T : Nat → Int32} {n : Nat} {l r : List Int32} : apl (apl T n l) (n + l.length) r = apl T n (l ++ r) := by
  funext j
  unfold apl
  rw [List.length_append]
  by_cases c1 : n + l.length ≤ j ∧ j < n + l.length + r.length
  · rw [if_pos c1, if_pos (by omega), List.getD_eq_getElem?_getD, List.getD_eq_getElem?_getD, List.getElem?_append_right (by omega), show j - n - l.length = j - (n + l.length) by omega]
  · rw [if_neg c1]
    by_cases c2 : n ≤ j ∧ j < n + l.length
    · rw [if_pos c2, if_pos (by omega), List.getD_eq_getElem?_getD, List.getD_eq_getElem?_getD, List.getElem?_append_left (by omega)]
    · rw [if_neg c2, if_neg (by omega)]
theorem apl_lt {T : Nat → Int32} {n j : Nat} {l : List Int32} (h : j < n) : apl T n l j = T j := by rw [apl, if_neg (by omega)]
/-! cops -/
theorem cops_loc {ks ds ks' ds' : Nat → Int32} {n : Nat} : ∀ {m i : Nat} {u u' : Nat → Int32}, (∀ j, j < n → u j = u' j) → (∀ c, i ≤ c → c < i + m → ks c = ks' c ∧ ds c = ds' c) → ∀ j, j < n → cops ks ds n i m u j = cops ks' ds' n i m u' j
  | 0, i, u, u', e, _, j, hj => e j hj
  | m + 1, i, u, u', e, h, j, hj => by
    unfold cops
    obtain ⟨h1, h2⟩ := h i (Nat.le_refl _) (by omega)
    rw [h1, h2]
    exact cops_loc (fun j hj => cop_loc e j hj) (fun c h1 h2 => h c (by omega) (by omega)) j hj
theorem cop_8 {k : Int32} {d n : Nat} {g : Nat → Int32} (e : ∀ j, j < n → by8 (g j) = g j) : ∀ j, j < n → by8 (cop k d n g j) = cop k d n g j := by
  intro j hj
  have ct : ∀ w, by8 (ctn w n g j) = ctn w n g j := by
    intro w
    unfold ctn
    split
    · exact by8_8
    · exact e j hj
  unfold cop
  split
  · unfold cdd
    split
    · exact by8_8
    · exact e j hj
  · split
    · exact ct 2
    · split
      · exact ct 4
      · exact e j hj
theorem cops_8 {ks ds : Nat → Int32} {n : Nat} : ∀ {m i : Nat} {u : Nat → Int32}, (∀ j, j < n → by8 (u j) = u j) → ∀ j, j < n → by8 (cops ks ds n i m u j) = cops ks ds n i m u j
  | 0, i, u, e, j, hj => e j hj
  | m + 1, i, u, e, j, hj => by
    unfold cops
    exact cops_8 (fun j hj => cop_8 e j hj) j hj
/-- a block, packed -/
def pk2 (a : sA) (b : Nat) : List Int32 := (R0 (raw a b).length).map (cops (b_ck (a_B a b)) (b_cd (a_B a b)) (raw a b).length 0 (b_cn (a_B a b)) (fun j => by8 ((raw a b).getD j 0)))
def wP2 (a : sA) : List Int32 := (R0 6).flatMap (pk2 a)
theorem pk2_l {a : sA} {b : Nat} : (pk2 a b).length = (raw a b).length := by rw [pk2, List.length_map, R0_l]
theorem R0_g {n i : Nat} (h : i < n) : (R0 n)[i]? = some i := by
  unfold R0
  rw [List.getElem?_eq_getElem (by rw [List.length_range']; exact h), List.getElem_range', Nat.zero_add, Nat.one_mul]
theorem pk2_g {a : sA} {b i : Nat} (h : i < (raw a b).length) : (pk2 a b).getD i 0 = cops (b_ck (a_B a b)) (b_cd (a_B a b)) (raw a b).length 0 (b_cn (a_B a b)) (fun j => by8 ((raw a b).getD j 0)) i := by
  rw [pk2, List.getD_eq_getElem?_getD, List.getElem?_map, R0_g h]; rfl
theorem eb_l {e : sE} : (eb e).length = e_sz e := by rw [eb, List.length_map, List.length_range']
theorem raw_l {a : sA} {b : Nat} : ∀ {n : Nat}, ((oBn (a_E a) b n).flatMap (fun i => eb (a_E a i))).length = sbo (a_E a) b n
  | 0 => rfl
  | n + 1 => by
    rw [oBn_s, List.flatMap_append, List.length_append, raw_l, sbo]
    congr 1
    by_cases c : 0 < e_sz (a_E a n) ∧ e_hm (a_E a n) = b
    · rw [if_pos c, if_pos c.2, List.flatMap_cons, List.flatMap_nil, List.append_nil, eb_l]
    · rw [if_neg c]
      by_cases c2 : e_hm (a_E a n) = b
      · rw [if_pos c2, show e_sz (a_E a n) = 0 by omega]; rfl
      · rw [if_neg c2]; rfl
theorem raw_n {a : sA} {b : Nat} : (raw a b).length = sbo (a_E a) b (a_n a) := raw_l
theorem raw_K {a : sA} {b : Nat} (hb : b < 6) : (oK a).flatMap (fun i => if e_hm (a_E a i) = b then eb (a_E a i) else []) = raw a b := by
  have h1 : ∀ b', (oBn (a_E a) b' (a_n a)).flatMap (fun i => if e_hm (a_E a i) = b then eb (a_E a i) else []) = if b' = b then raw a b else [] := by
    intro b'
    by_cases c : b' = b
    · subst c
      rw [if_pos rfl, raw]
      have : ∀ l : List Nat, (∀ i ∈ l, e_hm (a_E a i) = b') → l.flatMap (fun i => if e_hm (a_E a i) = b' then eb (a_E a i) else []) = l.flatMap (fun i => eb (a_E a i)) := by
        intro l hl
        induction l with
        | nil => rfl
        | cons x l ih => rw [List.flatMap_cons, List.flatMap_cons, ih (fun i hi => hl i (List.mem_cons_of_mem _ hi)), if_pos (hl x List.mem_cons_self)]
      exact this _ (fun i hi => (oBn_m hi).2.2)
    · rw [if_neg c]
      have : ∀ l : List Nat, (∀ i ∈ l, e_hm (a_E a i) = b') → l.flatMap (fun i => if e_hm (a_E a i) = b then eb (a_E a i) else []) = [] := by
        intro l hl
        induction l with
        | nil => rfl
        | cons x l ih => rw [List.flatMap_cons, ih (fun i hi => hl i (List.mem_cons_of_mem _ hi)), if_neg (by rw [hl x List.mem_cons_self]; exact c)]; rfl
      exact this _ (fun i hi => (oBn_m hi).2.2)
  unfold oK
  rw [List.flatMap_assoc]
  have fl : ∀ g : Nat → List Int32, (R0 6).flatMap g = g 0 ++ (g 1 ++ (g 2 ++ (g 3 ++ (g 4 ++ (g 5 ++ []))))) := fun g => rfl
  rw [fl, h1, h1, h1, h1, h1, h1]
  have : b = 0 ∨ b = 1 ∨ b = 2 ∨ b = 3 ∨ b = 4 ∨ b = 5 := by omega
  rcases this with rfl | rfl | rfl | rfl | rfl | rfl <;> simp
section WI
variable {tt : Nat → Nat} {h h' k : am_H} {cd : Nat → Nat} {bb : Nat → Nat → Nat} {wa wt : Nat} {a : sA}
/-- the tape that is written: so many bytes, were there room -/
def WT (cd : Nat → Nat) (wt : Nat) (k : am_H) (n : Nat) (T : Nat → Int32) : Prop := am_I k 6 1 (cd (c_tp (1 - wt))) = Int32.ofNat (if n ≤ 5000 then n else 5000) ∧ am_I k 6 2 (cd (c_tp (1 - wt))) = (if n ≤ 5000 then Int32.ofNat 0 else Int32.ofNat 1) ∧ (n ≤ 5000 → ∀ j, j < n → am_A k (cd (c_tb (1 - wt))) j = T j)
theorem tp_l_o {t b : Nat} : ∀ {l : List Int32} {k : am_H} {n : Nat}, am_I k 6 1 t = Int32.ofNat n → n ≤ 5000 → (5000 < n + l.length ∨ am_I k 6 2 t = Int32.ofNat 1) → am_I (tp_l t b k l) 6 1 t = Int32.ofNat (if n + l.length ≤ 5000 then n + l.length else 5000) ∧ am_I (tp_l t b k l) 6 2 t = Int32.ofNat 1
  | [], k, n, e, hn, h => by
    rw [tp_l_nil]
    simp only [List.length_nil, Nat.add_zero] at h ⊢
    rw [if_pos hn]
    exact ⟨e, h.resolve_left (by omega)⟩
  | v :: l, k, n, e, hn, h => by
    rw [tp_l_cons]
    rw [List.length_cons] at h ⊢
    by_cases c : n < 5000
    · have e' : am_I (tp_b t b k v) 6 1 t = Int32.ofNat (n + 1) ∧ am_I (tp_b t b k v) 6 2 t = am_I k 6 2 t := by
        unfold tp_b
        rw [e]
        simp (disch := omega) only [qi_lt, qi_le, qi_eq, qi_nn, qi_in, qi_add, qi_l, ql_i, ql_lt, ql_le, ql_eq, ql_add, qc_lt, qc_eq, qc_ge, qc_gt, qc_le]
        rw [if_pos c]
        simp only [am_hs, true_and, and_true, and_self, true_or, or_true, false_or, or_false, false_and, and_false, not_true_eq_false, not_false_eq_true, Classical.not_not, true_implies, false_implies, implies_true, exists_eq_left, exists_eq_left', Option.some.injEq, reduceIte, Nat.reduceEqDiff, Nat.reduceLT, Nat.reduceLeDiff, Nat.reduceAdd, Nat.reduceSub, Nat.reduceMul, eq_self, ne_eq, and_imp, forall_const, reduceCtorEq, am_w, List.map_cons, List.map_nil, List.sum_cons, List.sum_nil, Value.category, Nat.zero_le, Nat.le_refl]
      have := tp_l_o (t := t) (b := b) (l := l) (k := tp_b t b k v) (n := n + 1) e'.1 (by omega) (h.imp (fun z => by omega) (fun z => e'.2.trans z))
      rw [show n + 1 + l.length = n + (l.length + 1) by omega] at this
      exact this
    · have e' : am_I (tp_b t b k v) 6 1 t = Int32.ofNat n ∧ am_I (tp_b t b k v) 6 2 t = Int32.ofNat 1 := by
        unfold tp_b
        rw [e]
        simp (disch := omega) only [qi_lt, qi_le, qi_eq, qi_nn, qi_in, qi_add, qi_l, ql_i, ql_lt, ql_le, ql_eq, ql_add, qc_lt, qc_eq, qc_ge, qc_gt, qc_le]
        rw [if_neg c]
        simp only [am_hs, true_and, and_true, and_self, true_or, or_true, false_or, or_false, false_and, and_false, not_true_eq_false, not_false_eq_true, Classical.not_not, true_implies, false_implies, implies_true, exists_eq_left, exists_eq_left', Option.some.injEq, reduceIte, Nat.reduceEqDiff, Nat.reduceLT, Nat.reduceLeDiff, Nat.reduceAdd, Nat.reduceSub, Nat.reduceMul, eq_self, ne_eq, and_imp, forall_const, reduceCtorEq, am_w, List.map_cons, List.map_nil, List.sum_cons, List.sum_nil, Value.category, Nat.zero_le, Nat.le_refl]
        exact e
      have := tp_l_o (t := t) (b := b) (l := l) (k := tp_b t b k v) (n := n) e'.1 hn (Or.inr e'.2)
      rw [show (if n + (l.length + 1) ≤ 5000 then n + (l.length + 1) else 5000) = (if n + l.length ≤ 5000 then n + l.length else 5000) by split <;> split <;> omega]
      exact this
theorem WT.tl {n : Nat} {T : Nat → Int32} (w : WT cd wt k n T) (l : List Int32) : WT cd wt (tw cd wt k l) (n + l.length) (apl T n l) := by
  obtain ⟨w1, w2, w3⟩ := w
  by_cases c : n + l.length ≤ 5000
  · have c1 : n ≤ 5000 := by omega
    rw [if_pos c1] at w1 w2
    obtain ⟨t1, t2, t3⟩ := tp_l_c (t := cd (c_tp (1 - wt))) (b := cd (c_tb (1 - wt))) w1 c
    refine ⟨by rw [if_pos c]; exact t2, by rw [if_pos c]; exact t3.trans w2, fun _ j hj => ?_⟩
    rw [t1 j]
    unfold apl
    split
    · rfl
    · exact w3 c1 j (by omega)
  · by_cases c1 : n ≤ 5000
    · rw [if_pos c1] at w1
      obtain ⟨t1, t2⟩ := tp_l_o (t := cd (c_tp (1 - wt))) (b := cd (c_tb (1 - wt))) w1 c1 (l := l) (Or.inl (by omega))
      exact ⟨t1, by rw [if_neg c]; exact t2, fun z => absurd z c⟩
    · rw [if_neg c1] at w1 w2
      obtain ⟨t1, t2⟩ := tp_l_o (t := cd (c_tp (1 - wt))) (b := cd (c_tb (1 - wt))) w1 (Nat.le_refl _) (l := l) (Or.inr w2)
      refine ⟨?_, by rw [if_neg c]; exact t2, fun z => absurd z c⟩
      rw [if_neg c, t1]
      congr 1
      split <;> omega
theorem WX.ct (x : WX tt h cd bb wa wt a) (f : Nat → Int32) : WX tt (am_cA h (cd (c_tb (1 - wt))) f) cd bb wa wt a := by
  obtain ⟨x1, x2, x3, x4, x5⟩ := x
  exact ⟨x1.same rfl rfl rfl rfl (fun x _ => rfl) (fun c f x hc => rfl) (fun y h1 h2 => by simp only [am_hs]; rw [if_neg h1]) x1.2.2.2.2.2.2, x2, x3, x4, x5⟩
/-- what the writer's steps leave as it is -/
def wfr (cd : Nat → Nat) (wt : Nat) (h h' : am_H) : Prop := am_K h' = am_K h ∧ am_N h' = am_N h ∧ am_R h' = am_R h ∧ am_J h' = am_J h ∧ am_B h' = am_B h ∧ am_U h' = am_U h ∧ am_V h' = am_V h ∧ (∀ x, x ≠ cd 21 → am_C h' x = am_C h x) ∧ (∀ c f x, ¬ (c = 6 ∧ x = cd (c_tp (1 - wt))) → ¬ (c = 8 ∧ x = cd 20) → am_I h' c f x = am_I h c f x) ∧ (∀ x, x ≠ cd (c_tb (1 - wt)) → x ≠ cd 22 → am_A h' x = am_A h x)
theorem wfr.rf : wfr cd wt h h := ⟨rfl, rfl, rfl, rfl, rfl, rfl, rfl, fun _ _ => rfl, fun _ _ _ _ _ => rfl, fun _ _ _ => rfl⟩
theorem wfr.tr {h'' : am_H} (p : wfr cd wt h h') (q : wfr cd wt h' h'') : wfr cd wt h h'' := by
  obtain ⟨p1, p2, p3, p4, p5, p6, p7, p8, p9, p10⟩ := p
  obtain ⟨q1, q2, q3, q4, q5, q6, q7, q8, q9, q10⟩ := q
  exact ⟨q1.trans p1, q2.trans p2, q3.trans p3, q4.trans p4, q5.trans p5, q6.trans p6, q7.trans p7, fun x z => (q8 x z).trans (p8 x z), fun c f x z z2 => (q9 c f x z z2).trans (p9 c f x z z2), fun x z z2 => (q10 x z z2).trans (p10 x z z2)⟩
theorem wfr.tl {l : List Int32} : wfr cd wt h (tw cd wt h l) := ⟨by simp only [tp_l_fr], by simp only [tp_l_fr], by simp only [tp_l_fr], by simp only [tp_l_fr], by simp only [tp_l_fr], by simp only [tp_l_fr], by simp only [tp_l_fr], fun x _ => by simp only [tp_l_fr], fun c f x z _ => tp_l_I z, fun x z _ => tp_l_A z⟩
theorem wfr.ct {f : Nat → Int32} : wfr cd wt h (am_cA h (cd (c_tb (1 - wt))) f) := ⟨rfl, rfl, rfl, rfl, rfl, rfl, rfl, fun _ _ => rfl, fun _ _ _ _ _ => rfl, fun x z _ => by simp only [am_hs]; rw [if_neg z]⟩
theorem wfr.fl {f : Nat → Int32} : wfr cd wt h (am_cA h (cd 22) f) := ⟨rfl, rfl, rfl, rfl, rfl, rfl, rfl, fun _ _ => rfl, fun _ _ _ _ _ => rfl, fun x _ z => by simp only [am_hs]; rw [if_neg z]⟩
theorem afr.w (q : afr cd h h') : wfr cd wt h h' := by
  obtain ⟨q1, q2, q3, q4, q5, q6, q7, q8, q9, q10⟩ := q
  exact ⟨q1, q2, q3, q4, q5, q7, q8, q9, fun c f x _ z => q10 c f x z, fun x _ _ => by rw [q6]⟩
theorem ct_addPackedBlocks (x : WX tt h cd bb wa wt a) (w : wok a) {n : Nat} {T : Nat → Int32} (hT : WT cd wt h n T) (hn : 1 ≤ n) : am_Ct tt 89 [.ref (cd 20)] h (am_pV (fun h' => WX tt h' cd bb wa wt a ∧ wfr cd wt h h' ∧ WT cd wt h' (n + (wP2 a).length) (apl T n (wP2 a))) no_x) := by
  have wf := x.1.2.2.1
  have n24 := wf.1
  have hK := oK_le wf
  -- a block
  have key2 : ∀ (b : Nat), b < 6 → ∀ (d i s : Nat) (U : Nat → Int32) (k : am_H) (Q : am_H → Prop), 1 ≤ s → d + i = (oK a).length → WX tt k cd bb wa wt a → wfr cd wt h k → WT cd wt k (s + ((R0 i).flatMap (fun i => (fun i => if e_hm (a_E a i) = b then eb (a_E a i) else []) (oo a i))).length) (apl U s ((R0 i).flatMap (fun i => (fun i => if e_hm (a_E a i) = b then eb (a_E a i) else []) (oo a i)))) →
      (∀ k', WX tt k' cd bb wa wt a → wfr cd wt h k' → WT cd wt k' (s + (pk2 a b).length) (apl U s (pk2 a b)) → am_Ev tt 89 2 [some (.ref (cd 20)), some (.int (Int32.ofNat (b + 1))), none, none] [] k' (am_pV Q no_x)) →
      am_Ev tt 89 18 [some (.ref (cd 20)), some (.int (Int32.ofNat b)), some (.int (Int32.ofNat (if s ≤ 5000 then s else 5000))), some (.int (Int32.ofNat i))] [] k (am_pV Q no_x) := by
    intro b hb d
    induction d with
    | zero =>
      intro i s U k Q hs e y fk hk hQ
      have F := y.1.f
      have y3 := y.2.2.1
      have : i = (oK a).length := by omega
      subst this
      rw [fm_K (g := fun i => if e_hm (a_E a i) = b then eb (a_E a i) else []), raw_K hb] at hk
      have g := y.1.bk hb
      obtain ⟨v1, c, v2, v3, v4, v5⟩ := y.1.2.1.2.2 b hb
      obtain ⟨lt_, tp⟩ := y.1.2.2.2.2.2.2
      have kB : am_K k (cd (c_tb (1 - wt))) = 23 := tp.1.2.2.1
      have kN : am_N k (cd (c_tb (1 - wt))) = 5000 := tp.1.2.2.2
      have rT : am_R k 6 0 (cd (c_tp (1 - wt))) = some (cd (c_tb (1 - wt))) := tp.1.2.1
      have hk1 := hk.1
      refine vc_89_18 tt _ _ _ _ _ _ _ ?_
      simp (disch := omega) only [F, y3, g, rT, hk1, hb, am_hs, qi_lt, qi_le, qi_eq, qi_nn, qi_in, qi_add, qi_l, ql_i, ql_lt, ql_le, ql_eq, ql_add, qc_lt, qc_eq, qc_ge, qc_gt, qc_le, true_and, and_true, and_self, true_or, or_true, false_or, or_false, false_and, and_false, not_true_eq_false, not_false_eq_true, Classical.not_not, true_implies, false_implies, implies_true, exists_eq_left, exists_eq_left', Option.some.injEq, reduceIte, Nat.reduceEqDiff, Nat.reduceLT, Nat.reduceLeDiff, Nat.reduceAdd, Nat.reduceSub, Nat.reduceMul, eq_self, ne_eq, and_imp, forall_const, reduceCtorEq, am_w, List.map_cons, List.map_nil, List.sum_cons, List.sum_nil, Value.category, Nat.zero_le, Nat.le_refl]
      have ep : (if s ≤ 5000 then s else 5000) + ((if s + (raw a b).length ≤ 5000 then s + (raw a b).length else 5000) - (if s ≤ 5000 then s else 5000)) = (if s + (raw a b).length ≤ 5000 then s + (raw a b).length else 5000) := by split <;> split <;> omega
      rw [← ep]
      refine ⟨_, _, ct_pack (p := if s ≤ 5000 then s else 5000) (n := c) ⟨g.1, g.2.1, g.2.2.1, g.2.2.2.1, g.2.2.2.2.1, g.2.2.2.2.2.1, g.2.2.2.2.2.2.1, v3, v2⟩ v4 kB (by rw [kN]; split <;> split <;> omega) (by omega) (by split <;> split <;> omega), fun k' e' => ?_, fun _ _ z => z⟩
      subst e'
      refine hQ _ (y.ct _) (fk.tr wfr.ct) ?_
      rw [pk2_l]
      refine ⟨hk.1, hk.2.1, fun hs5 j hj => ?_⟩
      have s5 : s ≤ 5000 := by omega
      have hA := hk.2.2 hs5
      simp only [am_hs, true_and, and_true, and_self, true_or, or_true, false_or, or_false, false_and, and_false, not_true_eq_false, not_false_eq_true, Classical.not_not, true_implies, false_implies, implies_true, exists_eq_left, exists_eq_left', Option.some.injEq, reduceIte, Nat.reduceEqDiff, Nat.reduceLT, Nat.reduceLeDiff, Nat.reduceAdd, Nat.reduceSub, Nat.reduceMul, eq_self, ne_eq, and_imp, forall_const, reduceCtorEq, am_w, List.map_cons, List.map_nil, List.sum_cons, List.sum_nil, Value.category, Nat.zero_le, Nat.le_refl]
      rw [if_pos s5, if_pos hs5, Nat.add_sub_cancel_left]
      unfold ov
      by_cases cj : s ≤ j ∧ j < s + (raw a b).length
      · rw [if_pos cj]
        have m0 : 0 < sbo (a_E a) b (a_n a) := by have := raw_n (a := a) (b := b); omega
        obtain ⟨ec, v6⟩ := v5 (wok_kn w m0)
        subst ec
        rw [apl, if_pos (by rw [pk2_l]; exact cj), pk2_g (by omega)]
        have l1 := cops_loc (ks := am_A k (cd (c_bi wa b))) (ds := am_A k (cd (c_bd wa b))) (ks' := b_ck (a_B a b)) (ds' := b_cd (a_B a b)) (n := (raw a b).length) (m := b_cn (a_B a b)) (i := 0) (u := sl (am_A k (cd (c_tb (1 - wt)))) s) (u' := fun j => by8 ((raw a b).getD j 0)) (fun i hi => by
          unfold sl
          rw [hA (s + i) (by omega), apl, if_pos (by omega), Nat.add_sub_cancel_left]) (fun c _ hc => v6 c (by omega)) (j - s) (by omega)
        rw [l1]
        exact (cops_8 (fun j hj => by8_8) _ (by omega)).symm
      · rw [if_neg cj, hA j hj, apl, if_neg cj, apl, if_neg (by rw [pk2_l]; exact cj)]
    | succ d ih =>
      intro i s U k Q hs e y fk hk hQ
      have F := y.1.f
      have y3 := y.2.2.1
      have g := y.en (j := i) (by omega)
      have gN := y.bN (j := i) (by omega)
      have v := y.ev (j := i) (by omega)
      have hlt := oo_lt wf (j := i) (by omega)
      have w1 := wf.2.1 _ hlt
      have v4 := v.2.2.2.1
      have v5 := v.2.2.2.2.1
      have w14 := w1.2.2.2
      have w13 := w1.2.2.1
      have i24 : i < 24 := by omega
      have hp := oo_K (a := a) (j := i) (by omega)
      have vb := v.2.2.2.2.2.2.2.2.2.2.2 ((w.1 _ hlt).2 hp)
      obtain ⟨lt_, tp⟩ := y.1.2.2.2.2.2.2
      have neb : bb wa (oo a i) ≠ cd (c_tb (1 - wt)) := y.1.1.2.2.1.2.2 _ _ _ y.1.1.1 (by omega) (cK_tb (by omega))
      refine vc_89_18 tt _ _ _ _ _ _ _ ?_
      simp (disch := omega) only [F, y3, g, v4, v5, i24, am_hs, qi_lt, qi_le, qi_eq, qi_nn, qi_in, qi_add, qi_l, ql_i, ql_lt, ql_le, ql_eq, ql_add, qc_lt, qc_eq, qc_ge, qc_gt, qc_le, true_and, and_true, and_self, true_or, or_true, false_or, or_false, false_and, and_false, not_true_eq_false, not_false_eq_true, Classical.not_not, true_implies, false_implies, implies_true, exists_eq_left, exists_eq_left', Option.some.injEq, reduceIte, Nat.reduceEqDiff, Nat.reduceLT, Nat.reduceLeDiff, Nat.reduceAdd, Nat.reduceSub, Nat.reduceMul, eq_self, ne_eq, and_imp, forall_const, reduceCtorEq, am_w, List.map_cons, List.map_nil, List.sum_cons, List.sum_nil, Value.category, Nat.zero_le, Nat.le_refl]
      refine ⟨fun z => by omega, fun _ => ⟨fun z => ih (i + 1) s U k Q hs (by omega) y fk ?_ hQ, fun z => ⟨_, _, ct_addBytes tp g.2.2.2.2.2.2 vb.1 (by omega) neb, fun k' e' => ?_, fun _ _ z => z⟩⟩⟩
      · simp only [fm_s, if_neg z, List.append_nil]
        exact hk
      · have el : (List.range' 0 (e_sz (a_E a (oo a i)))).map (am_A k (bb wa (oo a i))) = eb (a_E a (oo a i)) := by
          unfold eb
          apply List.map_congr_left
          intro j hj
          exact vb.2 j (by rw [List.mem_range'_1] at hj; omega)
        rw [el] at e'
        have e' : k' = tw cd wt k (eb (a_E a (oo a i))) := e'
        refine ih (i + 1) s U k' Q hs (by omega) (by rw [e']; exact y.tl _) (fk.tr (by rw [e']; exact wfr.tl)) ?_ hQ
        have := hk.tl (eb (a_E a (oo a i)))
        simp only [fm_s, if_pos z]
        rw [e', ← apl_app, List.length_append, ← Nat.add_assoc]
        exact this
  have key : ∀ (d b : Nat) (k : am_H), d + b = 6 → WX tt k cd bb wa wt a → wfr cd wt h k → WT cd wt k (n + ((R0 b).flatMap (pk2 a)).length) (apl T n ((R0 b).flatMap (pk2 a))) →
      am_Ev tt 89 2 [some (.ref (cd 20)), some (.int (Int32.ofNat b)), none, none] [] k (am_pV (fun h' => WX tt h' cd bb wa wt a ∧ wfr cd wt h h' ∧ WT cd wt h' (n + (wP2 a).length) (apl T n (wP2 a))) no_x) := by
    intro d
    induction d with
    | zero =>
      intro b k e y fk hk
      have : b = 6 := by omega
      subst this
      exact vc_89_2 tt _ _ _ _ _ ⟨fun _ => ⟨y, fk, hk⟩, fun z => absurd (show Int32.ofNat 6 ≤ Int32.ofNat 6 by decide) z⟩
    | succ d ih =>
      intro b k e y fk hk
      have F := y.1.f
      refine vc_89_2 tt _ _ _ _ _ ?_
      simp (disch := omega) only [F, qi_lt, qi_le, qi_eq, qi_nn, qi_in, qi_add, qi_l, ql_i, ql_lt, ql_le, ql_eq, ql_add, qc_lt, qc_eq, qc_ge, qc_gt, qc_le, true_and, and_true, and_self, true_or, or_true, false_or, or_false, false_and, and_false, not_true_eq_false, not_false_eq_true, Classical.not_not, true_implies, false_implies, implies_true, exists_eq_left, exists_eq_left', Option.some.injEq, reduceIte, Nat.reduceEqDiff, Nat.reduceLT, Nat.reduceLeDiff, Nat.reduceAdd, Nat.reduceSub, Nat.reduceMul, eq_self, ne_eq, and_imp, forall_const, reduceCtorEq, am_w, List.map_cons, List.map_nil, List.sum_cons, List.sum_nil, Value.category, Nat.zero_le, Nat.le_refl]
      refine ⟨fun z => by omega, fun _ => ?_⟩
      rw [hk.1]
      refine key2 b (by omega) (oK a).length 0 (n + ((R0 b).flatMap (pk2 a)).length) (apl T n ((R0 b).flatMap (pk2 a))) k _ (by omega) (by omega) y fk ?_ (fun k' y' f' hk' => ih (b + 1) k' (by omega) y' f' ?_)
      · rw [show ((R0 0).flatMap (fun i => (fun i => if e_hm (a_E a i) = b then eb (a_E a i) else []) (oo a i))) = [] from rfl, apl_nil]
        exact hk
      · rw [fm_s, List.length_append, ← Nat.add_assoc, ← apl_app]
        exact hk'
  refine vc_89_0 tt _ h _ _ (key 6 0 h (by omega) x wfr.rf ?_)
  rw [show (R0 0).flatMap (pk2 a) = [] from rfl, apl_nil]
  exact hT
end WI
