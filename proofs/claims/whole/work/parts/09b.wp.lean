/-! ===== conditions by computation: what a stretch of code owes, up to its cuts ===== -/
def am_pI (Qi : Int32 → am_H → Prop) (Qx : String → am_H → Prop) : am_P := fun r h => match r with
  | .inl (some (.int x)) => Qi x h
  | .inr E => Qx E h
  | _ => False
def am_pL (Ql : Int64 → am_H → Prop) (Qx : String → am_H → Prop) : am_P := fun r h => match r with
  | .inl (some (.long x)) => Ql x h
  | .inr E => Qx E h
  | _ => False
def am_pV (Qv : am_H → Prop) (Qx : String → am_H → Prop) : am_P := fun r h => match r with
  | .inl none => Qv h
  | .inr E => Qx E h
  | _ => False
def am_pR (Qr : Option Nat → am_H → Prop) (Qx : String → am_H → Prop) : am_P := fun r h => match r with
  | .inl (some (.ref q)) => Qr (some q) h
  | .inl (some .null) => Qr none h
  | .inr E => Qx E h
  | _ => False
/-- a method's contract: called with As at h -/
def am_Ct (tt : Nat → Nat) (a : Nat) (As : List Value) (h : am_H) (post : am_P) : Prop := am_Ev tt a 0 (am_en As (am_ml a)) [] h post
def am_rc (a : Nat) : Nat := match am_rt a with
  | none => 0
  | some .long => 2
  | some (.object _) => 3
  | _ => 1
/-- where a callee has thrown -/
def am_tx (X : am_X) (y pc : Nat) (al : List (Option Value)) (h : am_H) (post : am_P) (E : String) : Prop := match am_tb y with
  | [] => post (.inr E) h
  | _ :: _ => am_th X y pc al h post E
/-- a call that may throw -/
def am_gx (tt : Nat → Nat) (X : am_X) (y pc : Nat) (al : List (Option Value)) (rest : List Value) (h : am_H) (post : am_P) (a : Nat) (As : List Value) : Prop :=
  match decide (am_w rest ≤ 8) && (decide (am_rk a < am_rk y) && decide ((am_ea As).length ≤ am_ml a)) with
  | false => False
  | true => match am_rc a with
    | 0 => ∃ (Q : am_H → Prop) (Qx : String → am_H → Prop), am_Ct tt a As h (am_pV Q Qx) ∧ (∀ h', Q h' → X y (pc + 3) al rest h' post) ∧ (∀ E h', Qx E h' → am_tx X y pc al h' post E)
    | 1 => ∃ (Q : Int32 → am_H → Prop) (Qx : String → am_H → Prop), am_Ct tt a As h (am_pI Q Qx) ∧ (∀ x h', Q x h' → X y (pc + 3) al (.int x :: rest) h' post) ∧ (∀ E h', Qx E h' → am_tx X y pc al h' post E)
    | 2 => ∃ (Q : Int64 → am_H → Prop) (Qx : String → am_H → Prop), am_Ct tt a As h (am_pL Q Qx) ∧ (∀ x h', Q x h' → X y (pc + 3) al (.long x :: rest) h' post) ∧ (∀ E h', Qx E h' → am_tx X y pc al h' post E)
    | _ => ∃ (Q : Option Nat → am_H → Prop) (Qx : String → am_H → Prop), am_Ct tt a As h (am_pR Q Qx) ∧ ((∀ q h', Q (some q) h' → X y (pc + 3) al (.ref q :: rest) h' post) ∧ (∀ h', Q none h' → X y (pc + 3) al (.null :: rest) h' post)) ∧ (∀ E h', Qx E h' → am_tx X y pc al h' post E)
/-- a call that never throws -/
def am_gy (tt : Nat → Nat) (X : am_X) (y pc : Nat) (al : List (Option Value)) (rest : List Value) (h : am_H) (post : am_P) (a : Nat) (As : List Value) : Prop :=
  match decide (am_w rest ≤ 8) && (decide (am_rk a < am_rk y) && decide ((am_ea As).length ≤ am_ml a)) with
  | false => False
  | true => match am_rc a with
    | 0 => ∃ (Q : am_H → Prop), am_Ct tt a As h (am_pV Q (fun _ _ => False)) ∧ (∀ h', Q h' → X y (pc + 3) al rest h' post)
    | 1 => ∃ (Q : Int32 → am_H → Prop), am_Ct tt a As h (am_pI Q (fun _ _ => False)) ∧ (∀ x h', Q x h' → X y (pc + 3) al (.int x :: rest) h' post)
    | _ => False
/-- the ways of a switch -/
def am_sw (F : Nat → Prop) (pc : Nat) (x : Int32) : Int → List Int → Prop
  | _, [] => True
  | lo, o :: os => (x.toInt = lo → F ((pc : Int) + o).toNat) ∧ am_sw F pc x (lo + 1) os
theorem am_sw.at {F : Nat → Prop} {pc : Nat} {x : Int32} : ∀ (os : List Int) (lo : Int), am_sw F pc x lo os → ∀ (n : Nat) (o : Int), os[n]? = some o → x.toInt = lo + n → F ((pc : Int) + o).toNat
  | [], _, _, _, _, h, _ => by simp at h
  | o :: os, lo, q, 0, o', h, hx => by
    simp only [List.getElem?_cons_zero, Option.some.injEq] at h
    subst h
    exact q.1 (by simpa using hx)
  | o :: os, lo, q, n + 1, o', h, hx => by
    simp only [List.getElem?_cons_succ] at h
    exact am_sw.at os (lo + 1) q.2 n o' h (by omega)
def am_xm (tt : Nat → Nat) (X : am_X) (y pc : Nat) (al : List (Option Value)) (st : List Value) (h : am_H) (post : am_P) (i : Instr) (a b : Nat) : Prop :=
  match i, st with
  | .getfield _, .ref r :: st => am_K h r = a + 1 ∧ (match am_t a b with
    | 1 => X y (pc + 3) al (.long (am_J h a b r) :: st) h post
    | 2 => ∃ q, am_R h a b r = some q ∧ X y (pc + 3) al (.ref q :: st) h post
    | _ => X y (pc + 3) al (.int (am_I h a b r) :: st) h post)
  | .aaload, .int x :: .ref r :: st => (am_K h r = 26 ∨ am_K h r = 27) ∧ vp_in x (am_N h r) ∧ ∃ q, am_C h r x.toNatClampNeg = some q ∧ X y (pc + 1) al (.ref q :: st) h post
  | .invokevirtual _, st => match decide (am_np a < st.length), (st.drop (am_np a)).head? with
    | true, some (.ref r) => am_K h r = am_ow a + 1 ∧ am_gx tt X y pc al (st.drop (am_np a + 1)) h post a (.ref r :: (st.take (am_np a)).reverse)
    | _, _ => False
  | .invokespecial x, st => match b with
    | 4 => match st with
      | .ref r :: rest => am_w rest ≤ 8 ∧ X y (pc + 3) al rest h post
      | _ => False
    | 3 => match decide (am_np a < st.length), (st.drop (am_np a)).head? with
      | true, some (.ref r) => am_gy tt X y pc al (st.drop (am_np a + 1)) h post a (.ref r :: (st.take (am_np a)).reverse)
      | _, _ => False
    | 6 => match decide (am_np a < st.length), (st.drop (am_np a)).head? with
      | true, some (.ref r) => am_gy tt X y pc al (st.drop (am_np a + 1)) h post a (.ref r :: (st.take (am_np a)).reverse)
      | _, _ => False
    | _ => False
  | .tableswitch d lo hi offs, .int x :: st => match decide (0 ≤ (pc : Int) + d) && (decide (hi < lo + offs.toList.length) && offs.toList.all (fun o => decide (0 ≤ (pc : Int) + o))) with
    | true => (x.toInt < lo ∨ hi < x.toInt → X y ((pc : Int) + d).toNat al st h post) ∧ am_sw (fun t => X y t al st h post) pc x lo offs.toList
    | false => False
  | .bastore, .int v :: .int x :: .ref r :: st => vp_in x (am_N h r) ∧ ∃ w, ((am_K h r = 23 ∧ w = v.toInt8.toInt32) ∨ (am_K h r = 24 ∧ w = (v &&& 1))) ∧ X y (pc + 1) al st (am_sA h r x.toNatClampNeg w) post
  | .new _, st => match b with
    | 0 => am_U h + 1 ≤ am_LC ∧ am_V h + am_n a ≤ am_LS ∧ ∀ q, am_K h q = 0 → X y (pc + 3) al (.ref q :: st) (am_nO h q a) post
    | 1 => match decide (am_w st ≤ 8) && (am_tb y).isEmpty with
      | true => am_U h + 1 ≤ am_LC ∧ am_V h + 6 ≤ am_LS ∧ post (.inr (am_ex a)) (am_nX h)
      | false => False
    | _ => False
  | .invokestatic x, st => match b with
    | 7 => match st with
      | .int v :: .int u :: rest => am_w rest ≤ 8 ∧ X y (pc + 3) al (.int (if u < v then v else u) :: rest) h post
      | _ => False
    | 8 => match st with
      | .int v :: .int u :: rest => am_w rest ≤ 8 ∧ X y (pc + 3) al (.int (if v < u then v else u) :: rest) h post
      | _ => False
    | 9 => match st with
      | .int n :: .int dp :: .ref d :: .int sp :: .ref sr :: rest => am_w rest ≤ 8 ∧ am_K h sr = 23 ∧ am_K h d = 23 ∧ ¬ sp < 0 ∧ ¬ dp < 0 ∧ ¬ n < 0 ∧ sp.toNatClampNeg + n.toNatClampNeg ≤ am_N h sr ∧ dp.toNatClampNeg + n.toNatClampNeg ≤ am_N h d ∧
        (∀ j, j < n.toNatClampNeg → fits .byte (.int (am_A h sr (sp.toNatClampNeg + j))) = true) ∧ X y (pc + 3) al rest (am_cA h d (va_cpy (am_A h sr) (am_A h d) sp.toNatClampNeg dp.toNatClampNeg n.toNatClampNeg)) post
      | _ => False
    | 1 => match decide (am_np a ≤ st.length) with
      | true => am_gx tt X y pc al (st.drop (am_np a)) h post a (st.take (am_np a)).reverse
      | false => False
    | 11 => match decide (am_np a ≤ st.length) with
      | true => am_gx tt X y pc al (st.drop (am_np a)) h post a (st.take (am_np a)).reverse
      | false => False
    | 5 => match decide (am_np a ≤ st.length) with
      | true => am_gy tt X y pc al (st.drop (am_np a)) h post a (st.take (am_np a)).reverse
      | false => False
    | _ => am_im tt X y pc al st h post (.invokestatic x) a b
  | .ireturn, [.int x] => match a with
    | 1 => (x = 0 ∨ x = 1) ∧ post (.inl (some (.int x))) h
    | _ => post (.inl (some (.int x))) h
  | i, st => am_im tt X y pc al st h post i a b
def am_bx (X : am_X) (y pc : Nat) (al : List (Option Value)) (h : am_H) (post : am_P) (a : Nat) (i : Instr) (st : List Value) (q : Prop × List Value) : Prop := match i, st with
  | .goto _, _ => X y a al q.2 h post
  | .ifnull _, .ref _ :: _ => X y (pc + 3) al q.2 h post
  | .ifnonnull _, .ref _ :: _ => X y a al q.2 h post
  | .ifnull _, .null :: _ => X y a al q.2 h post
  | .ifnonnull _, .null :: _ => X y (pc + 3) al q.2 h post
  | _, _ => (q.1 → X y a al q.2 h post) ∧ (¬ q.1 → X y (pc + 3) al q.2 h post)
def am_xi (tt : Nat → Nat) (X : am_X) (y pc : Nat) (al : List (Option Value)) (st : List Value) (h : am_H) (post : am_P) (i : Instr) (n a b : Nat) : Prop :=
  match am_pu i st with
  | some st' => X y (pc + n) al st' h post
  | none => match am_lo i al st with
    | some q => X y (pc + n) q.1 q.2 h post
    | none => match am_br i st with
      | some q => am_bx X y pc al h post a i st q
      | none => am_xm tt X y pc al st h post i a b
def am_sq (tt : Nat → Nat) (X : am_X) (y pc : Nat) (al : List (Option Value)) (st : List Value) (h : am_H) (post : am_P) : Prop :=
  match am_row y pc with
  | none => False
  | some r => am_xi tt X y pc al st h post r.1 r.2.1 r.2.2.1 r.2.2.2
/-- some locals are forgotten -/
def am_mk : List Bool → List (Option Value) → List (Option Value)
  | true :: m, o :: al => o :: am_mk m al
  | false :: m, _ :: al => none :: am_mk m al
  | _, al => al
/-- conditions up to the cuts -/
def am_wp (tt : Nat → Nat) (cut : List (Nat × List Bool)) : Nat → am_X
  | 0 => am_Ev tt
  | k + 1 => fun y pc al st h post => match cut.lookup pc with
    | some m => am_Ev tt y pc (am_mk m al) st h post
    | none => am_sq tt (am_wp tt cut k) y pc al st h post
section AMX
variable {tt : Nat → Nat}
theorem am_tx_ev {X : am_X} (hm : ∀ y pc al st h post, X y pc al st h post → am_Ev tt y pc al st h post) {y pc : Nat} {al : List (Option Value)} {h : am_H} {post : am_P} {E : String} (q : am_tx X y pc al h post E) : am_th (am_Ev tt) y pc al h post E := by
  unfold am_tx at q
  split at q
  · rename_i ht
    unfold am_th
    rw [ht]
    exact q
  · exact am_th_mono hm q
theorem am_gx_ev {X : am_X} (hm : ∀ y pc al st h post, X y pc al st h post → am_Ev tt y pc al st h post) {y pc : Nat} {al : List (Option Value)} {rest As : List Value} {h : am_H} {a : Nat} {post : am_P} (q : am_gx tt X y pc al rest h post a As) : am_go (am_Ev tt) y pc al rest h post a As := by
  unfold am_gx at q
  split at q
  · exact absurd q id
  · rename_i hk
    simp only [Bool.and_eq_true, decide_eq_true_eq] at hk
    refine ⟨hk.1, hk.2.1, hk.2.2, ?_⟩
    split at q
    · obtain ⟨Q, Qx, q2, q3, q4⟩ := q
      refine ⟨am_pV Q Qx, q2, fun v h' z => ?_, fun E h' z => am_tx_ev hm (q4 E h' z)⟩
      cases v with
      | none => exact hm _ _ _ _ _ _ (q3 h' z)
      | some v => exact absurd z id
    · obtain ⟨Q, Qx, q2, q3, q4⟩ := q
      refine ⟨am_pI Q Qx, q2, fun v h' z => ?_, fun E h' z => am_tx_ev hm (q4 E h' z)⟩
      cases v with
      | none => exact absurd z id
      | some v =>
        cases v with
        | int x => exact hm _ _ _ _ _ _ (q3 x h' z)
        | _ => exact absurd z id
    · obtain ⟨Q, Qx, q2, q3, q4⟩ := q
      refine ⟨am_pL Q Qx, q2, fun v h' z => ?_, fun E h' z => am_tx_ev hm (q4 E h' z)⟩
      cases v with
      | none => exact absurd z id
      | some v =>
        cases v with
        | long x => exact hm _ _ _ _ _ _ (q3 x h' z)
        | _ => exact absurd z id
    · obtain ⟨Q, Qx, q2, q3, q4⟩ := q
      refine ⟨am_pR Q Qx, q2, fun v h' z => ?_, fun E h' z => am_tx_ev hm (q4 E h' z)⟩
      cases v with
      | none => exact absurd z id
      | some v =>
        cases v with
        | ref x => exact hm _ _ _ _ _ _ (q3.1 x h' z)
        | null => exact hm _ _ _ _ _ _ (q3.2 h' z)
        | _ => exact absurd z id
theorem am_gy_ev {X : am_X} (hm : ∀ y pc al st h post, X y pc al st h post → am_Ev tt y pc al st h post) {y pc : Nat} {al : List (Option Value)} {rest As : List Value} {h : am_H} {a : Nat} {post : am_P} (q : am_gy tt X y pc al rest h post a As) : am_gn (am_Ev tt) y pc al rest h post a As := by
  unfold am_gy at q
  split at q
  · exact absurd q id
  · rename_i hk
    simp only [Bool.and_eq_true, decide_eq_true_eq] at hk
    refine ⟨hk.1, hk.2.1, hk.2.2, ?_⟩
    split at q
    · obtain ⟨Q, q2, q3⟩ := q
      refine ⟨am_pV Q (fun _ _ => False), q2, fun v h' z => ?_, fun E h' z => z⟩
      cases v with
      | none => exact hm _ _ _ _ _ _ (q3 h' z)
      | some v => exact absurd z id
    · obtain ⟨Q, q2, q3⟩ := q
      refine ⟨am_pI Q (fun _ _ => False), q2, fun v h' z => ?_, fun E h' z => z⟩
      cases v with
      | none => exact absurd z id
      | some v =>
        cases v with
        | int x => exact hm _ _ _ _ _ _ (q3 x h' z)
        | _ => exact absurd z id
    · exact absurd q id
set_option maxHeartbeats 2000000 in
theorem am_xm_ev {X : am_X} (hm : ∀ y pc al st h post, X y pc al st h post → am_Ev tt y pc al st h post) {y pc : Nat} {al : List (Option Value)} {st : List Value} {h : am_H} {a b : Nat} {post : am_P} {i : Instr} (q : am_xm tt X y pc al st h post i a b) : am_im tt (am_Ev tt) y pc al st h post i a b := by
  unfold am_xm at q
  split at q
  · refine ⟨q.1, ?_⟩
    have q2 := q.2
    unfold am_fv
    split at q2
    · rename_i e; rw [e]; exact hm _ _ _ _ _ _ q2
    · rename_i e; rw [e]; obtain ⟨q, q3, q4⟩ := q2; show am_Ev tt y (pc + 3) al (va_rf _ :: _) h post; rw [q3]; exact hm _ _ _ _ _ _ q4
    · rename_i e1 e2
      split
      · rename_i e; exact absurd e e1
      · rename_i e; exact absurd e e2
      · exact hm _ _ _ _ _ _ q2
  · obtain ⟨q1, q2, q, q3, q4⟩ := q
    refine ⟨q1, q2, ?_⟩
    rw [q3]
    exact hm _ _ _ _ _ _ q4
  · split at q
    · rename_i r e1 e2
      exact ⟨of_decide_eq_true e1, r, e2, q.1, am_gx_ev hm q.2⟩
    · exact absurd q id
  · split at q
    · split at q
      · exact Or.inl ⟨rfl, _, _, rfl, q.1, hm _ _ _ _ _ _ q.2⟩
      · exact absurd q id
    · split at q
      · rename_i r e1 e2
        exact Or.inr ⟨Or.inl rfl, of_decide_eq_true e1, r, e2, am_gy_ev hm q⟩
      · exact absurd q id
    · split at q
      · rename_i r e1 e2
        exact Or.inr ⟨Or.inr rfl, of_decide_eq_true e1, r, e2, am_gy_ev hm q⟩
      · exact absurd q id
    · exact absurd q id
  · split at q
    · rename_i e1
      simp only [Bool.and_eq_true, decide_eq_true_eq, List.all_eq_true] at e1
      refine ⟨fun z => ⟨_, by omega, hm _ _ _ _ _ _ (q.1 z)⟩, fun z1 z2 => ?_⟩
      rename_i lo hi offs x st _
      have hl : (x.toInt - lo).toNat < offs.toList.length := by omega
      refine ⟨offs.toList[(x.toInt - lo).toNat], ((pc : Int) + offs.toList[(x.toInt - lo).toNat]).toNat, by rw [← Array.getElem?_toList]; exact List.getElem?_eq_getElem hl, ?_, ?_⟩
      · have := e1.2.2 _ (List.getElem_mem hl)
        omega
      · exact hm _ _ _ _ _ _ (am_sw.at _ _ q.2 _ _ (List.getElem?_eq_getElem hl) (by omega))
    · exact absurd q id
  · obtain ⟨q1, w, q2, q3⟩ := q
    refine ⟨q1, ?_⟩
    rcases q2 with ⟨q2, e⟩ | ⟨q2, e⟩
    · subst e; exact Or.inl ⟨q2, hm _ _ _ _ _ _ q3⟩
    · subst e; exact Or.inr ⟨q2, hm _ _ _ _ _ _ q3⟩
  · split at q
    · exact Or.inl ⟨rfl, q.1, q.2.1, fun a z => hm _ _ _ _ _ _ (q.2.2 a z)⟩
    · split at q
      · rename_i e1
        simp only [Bool.and_eq_true, decide_eq_true_eq, List.isEmpty_iff] at e1
        exact Or.inr ⟨rfl, q.1, q.2.1, e1.1, e1.2, q.2.2⟩
      · exact absurd q id
    · exact absurd q id
  · split at q
    · split at q
      · exact Or.inr (Or.inr (Or.inl ⟨rfl, _, _, _, rfl, q.1, hm _ _ _ _ _ _ q.2⟩))
      · exact absurd q id
    · split at q
      · exact Or.inr (Or.inr (Or.inr (Or.inl ⟨rfl, _, _, _, rfl, q.1, hm _ _ _ _ _ _ q.2⟩)))
      · exact absurd q id
    · split at q
      · obtain ⟨q3, q4, q5, q6, q7, q8, q9, q10, q11, q12⟩ := q
        exact Or.inr (Or.inr (Or.inr (Or.inr ⟨rfl, _, _, _, _, _, _, rfl, q3, q4, q5, q6, q7, q8, q9, q10, q11, hm _ _ _ _ _ _ q12⟩)))
      · exact absurd q id
    · split at q
      · rename_i e1
        exact Or.inl ⟨Or.inl rfl, of_decide_eq_true e1, am_gx_ev hm q⟩
      · exact absurd q id
    · split at q
      · rename_i e1
        exact Or.inl ⟨Or.inr rfl, of_decide_eq_true e1, am_gx_ev hm q⟩
      · exact absurd q id
    · split at q
      · rename_i e1
        exact Or.inr (Or.inl ⟨rfl, of_decide_eq_true e1, am_gy_ev hm q⟩)
      · exact absurd q id
    · exact am_im_mono tt hm q
  · split at q
    · exact ⟨fun _ => q.1, q.2⟩
    · rename_i e
      exact ⟨fun z => absurd z e, q⟩
  · exact am_im_mono tt hm q
theorem am_bx_ev {X : am_X} (hm : ∀ y pc al st h post, X y pc al st h post → am_Ev tt y pc al st h post) {y pc a : Nat} {al : List (Option Value)} {st : List Value} {h : am_H} {post : am_P} {i : Instr} {w : Prop × List Value} (hb : am_br i st = some w) (q : am_bx X y pc al h post a i st w) : (w.1 → am_Ev tt y a al w.2 h post) ∧ (¬ w.1 → am_Ev tt y (pc + 3) al w.2 h post) := by
  unfold am_bx at q
  split at q
  · simp only [am_br, Option.some.injEq] at hb
    subst hb
    exact ⟨fun _ => hm _ _ _ _ _ _ q, fun z => absurd trivial z⟩
  · simp only [am_br, Option.some.injEq] at hb
    subst hb
    exact ⟨fun z => absurd z id, fun _ => hm _ _ _ _ _ _ q⟩
  · simp only [am_br, Option.some.injEq] at hb
    subst hb
    exact ⟨fun _ => hm _ _ _ _ _ _ q, fun z => absurd trivial z⟩
  · simp only [am_br, Option.some.injEq] at hb
    subst hb
    exact ⟨fun _ => hm _ _ _ _ _ _ q, fun z => absurd trivial z⟩
  · simp only [am_br, Option.some.injEq] at hb
    subst hb
    exact ⟨fun z => absurd z id, fun _ => hm _ _ _ _ _ _ q⟩
  · exact ⟨fun z => hm _ _ _ _ _ _ (q.1 z), fun z => hm _ _ _ _ _ _ (q.2 z)⟩
theorem am_sq_ev {X : am_X} (hm : ∀ y pc al st h post, X y pc al st h post → am_Ev tt y pc al st h post) {y pc : Nat} {al : List (Option Value)} {st : List Value} {h : am_H} {post : am_P} (q : am_sq tt X y pc al st h post) : am_Ev tt y pc al st h post := by
  refine am_Ev.mk ?_
  unfold am_sq at q
  unfold am_st
  cases hr : am_row y pc with
  | none => rw [hr] at q; exact absurd q id
  | some r =>
    rw [hr] at q
    show am_in tt (am_Ev tt) y pc al st h post r.1 r.2.1 r.2.2.1 r.2.2.2
    have q : am_xi tt X y pc al st h post r.1 r.2.1 r.2.2.1 r.2.2.2 := q
    unfold am_xi at q
    unfold am_in
    cases hp : am_pu r.1 st with
    | some w => rw [hp] at q; exact hm _ _ _ _ _ _ q
    | none =>
      rw [hp] at q
      cases hl : am_lo r.1 al st with
      | some w => simp only [hl] at q; exact hm _ _ _ _ _ _ q
      | none =>
        cases hb : am_br r.1 st with
        | some w =>
          simp only [hl, hb] at q
          exact am_bx_ev hm hb q
        | none =>
          simp only [hl, hb] at q
          exact am_xm_ev hm q
theorem am_mk_le : ∀ (m : List Bool) (al : List (Option Value)), am_le (am_mk m al) al
  | [], al => am_le.rf al
  | true :: _, [] => am_le.rf []
  | false :: _, [] => am_le.rf []
  | true :: m, o :: al => ⟨by simp [am_mk, (am_mk_le m al).1], fun j v h => match j, h with
    | 0, h => h
    | j + 1, h => (am_mk_le m al).2 j v h⟩
  | false :: m, o :: al => ⟨by simp [am_mk, (am_mk_le m al).1], fun j v h => match j, h with
    | 0, h => by simp [am_mk] at h
    | j + 1, h => (am_mk_le m al).2 j v h⟩
theorem am_wp_ev (cut : List (Nat × List Bool)) : ∀ (k : Nat) (y pc : Nat) (al : List (Option Value)) (st : List Value) (h : am_H) (post : am_P), am_wp tt cut k y pc al st h post → am_Ev tt y pc al st h post
  | 0, _, _, _, _, _, _, q => q
  | k + 1, y, pc, al, st, h, post, q => by
    unfold am_wp at q
    split at q
    · exact q.weak (am_mk_le _ _)
    · exact am_sq_ev (am_wp_ev cut k) q
/-- a stretch of code from pc on, to the cuts -/
theorem am_vc (k : Nat) (cut : List (Nat × List Bool)) {y pc : Nat} {al : List (Option Value)} {st : List Value} {h : am_H} {post : am_P} (q : am_sq tt (am_wp tt cut k) y pc al st h post) : am_Ev tt y pc al st h post := am_sq_ev (am_wp_ev cut k) q
end AMX
