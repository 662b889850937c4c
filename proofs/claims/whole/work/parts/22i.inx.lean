/-! deps: 22h -/
/-! ===== the class is made ===== -/
section INX
variable {tt : Nat → Nat} {h h' k k' k2 : am_H} {c c' : Nat → Nat} {D : Nat → Prop} {x : Nat}
theorem NW.of (n : NW h k c D) (hx : am_K h x ≠ 0) (L : ∀ a, am_K k a ≠ 0 → a ≠ x → fr1 k k' a) : ∀ j, D j → fr1 k k' (c j) := fun j hj => L _ (n.2 j hj).2 (fun z => hx (by rw [← z]; exact (n.2 j hj).1))
def GT (w : Nat) (c : Nat → Nat) (k : am_H) : Prop := tp_s k (c (c_tp w)) (c (c_tb w)) ∧ am_I k 6 1 (c (c_tp w)) = Int32.ofNat 0
theorem GT.mv {w : Nat} (q : GT w c k) (e : ∀ j, j = c_tp w ∨ j = c_tb w → c' j = c j) (f : ∀ j, j = c_tp w ∨ j = c_tb w → fr1 k k' (c j)) : GT w c' k' := by
  obtain ⟨⟨r1, r2, r3, r4⟩, r5⟩ := q
  have e1 := e _ (Or.inl rfl)
  have e2 := e _ (Or.inr rfl)
  have f1 := f _ (Or.inl rfl)
  have f2 := f _ (Or.inr rfl)
  exact ⟨⟨by rw [e1, f1.1]; exact r1, by rw [e1, e2, f1.2.2.2.2.2.2.2]; exact r2, by rw [e2, f2.1]; exact r3, by rw [e2, f2.2.1]; exact r4⟩, by rw [e1, f1.2.2.2.2.2.1]; exact r5⟩
theorem cw_s.mv (q : cw_s k c) (e : ∀ j, 20 ≤ j ∧ j ≤ 22 → c' j = c j) (f : ∀ j, 20 ≤ j ∧ j ≤ 22 → fr1 k k' (c j)) : cw_s k' c' := by
  obtain ⟨r1, r2, r3, r4, r5, r6, r7⟩ := q
  have e0 := e 20 (by omega)
  have e1 := e 21 (by omega)
  have e2 := e 22 (by omega)
  have f0 := f 20 (by omega)
  have f1 := f 21 (by omega)
  have f2 := f 22 (by omega)
  exact ⟨by rw [e0, f0.1]; exact r1, by rw [e0, e1, f0.2.2.2.2.2.2.2]; exact r2, by rw [e1, f1.1]; exact r3, by rw [e1, f1.2.1]; exact r4, by rw [e0, e2, f0.2.2.2.2.2.2.2]; exact r5, by rw [e2, f2.1]; exact r6, by rw [e2, f2.2.1]; exact r7⟩
def DC (j : Nat) : Prop := DG j ∨ (500 ≤ j ∧ DG (j - 500)) ∨ (10 ≤ j ∧ j ≤ 13) ∨ (20 ≤ j ∧ j ≤ 22) ∨ DR j
/-- the class as it is made -/
def cQ (h : am_H) (x : Nat) (h' : am_H) : Prop := ∃ c, NW h h' c DC ∧ am_K h' x = 10 ∧ am_R h' 9 0 x = some (c 100) ∧ am_R h' 9 1 x = some (c 600) ∧ am_R h' 9 2 x = some (c 10) ∧ am_R h' 9 3 x = some (c 12) ∧ am_R h' 9 4 x = some (c 20) ∧ am_R h' 9 5 x = some (c 30) ∧ GA 0 c h' ∧ GA 1 c h' ∧ GT 0 c h' ∧ GT 1 c h' ∧ cw_s h' c ∧ GR c h' ∧ gs (fun a => a = x) h h' ∧ gK h h' ∧ am_U h' = am_U h + 211 ∧ am_V h' = am_V h + 11994
theorem ct_iX (hx : am_K h x = 10) (hU : am_U h + 211 ≤ am_LC) (hV : am_V h + 11994 ≤ am_LS) : am_Ct tt 103 [.ref x] h (am_pV (cQ h x) (fun _ _ => False)) := by
  have x0 : am_K h x ≠ 0 := by rw [hx]; decide
  refine vc_103_0 tt _ h _ _ ⟨by decide, vc_103_4 tt _ _ _ _ ⟨by omega, by omega, fun q1 hq1 => ?_⟩⟩
  -- the first archive
  have U1 : am_U (am_nO h q1 0) = am_U h + 1 := rfl
  have V1 : am_V (am_nO h q1 0) = am_V h + 3 := rfl
  have I1 : am_I (am_nO h q1 0) 0 1 q1 = Int32.ofNat 0 := if_pos rfl
  refine ⟨_, ct_iA (a0 := q1) up_eq I1 (by omega) (by omega), fun k2 w2 => ?_⟩
  obtain ⟨cA, eA, nA, gA, s2, g2, U2, V2⟩ := w2
  obtain ⟨c1, a1, b1, bb1, n1, t1, y1, kx1, R1, R1', L1, L1'⟩ := nb_step (x := x) (cx := 9) (f := 0) (j0 := 100) (c := fun _ => 0) (NW.no (h := h) (k := h)) gs.re gK.re x0 hq1 s2 g2 nA (fun z => z) (fun j z => ⟨fun w => w, z.2⟩)
  have q1x : q1 ≠ x := fun z => x0 (by rw [← z]; exact hq1)
  have fO : fr1 h (am_nO h q1 0) x := fr1.nO (fun z => q1x z.symm)
  have G1 : GA 0 c1 (am_sR k2 9 0 x (some q1)) := gA.mv (w := 0) (w' := 0) (fun j hj => by
    show c1 (j + 500 * 0) = cA (j + 500 * 0)
    rw [Nat.mul_zero, Nat.add_zero]
    by_cases c : j = 100
    · rw [c, b1, eA]
    · exact bb1 j ⟨hj, c⟩) (fun j hj => L1' _ (by
    rw [Nat.mul_zero, Nat.add_zero]
    by_cases c : j = 100
    · rw [c, eA]; exact q1x
    · intro z
      have := (nA.2 j ⟨hj, c⟩).1
      rw [z, fO.1] at this
      exact x0 this))
  have n1 : NW h (am_sR k2 9 0 x (some q1)) c1 (fun j => DG j) := n1.wk (fun j z => by
    by_cases c : j = 100
    · exact Or.inr (Or.inl c)
    · exact Or.inr (Or.inr ⟨z, c⟩))
  have R1 : am_R (am_sR k2 9 0 x (some q1)) 9 0 x = some (c1 100) := by rw [b1]; exact R1
  have K3 : am_K (am_sR k2 9 0 x (some q1)) x = 10 := by show am_K k2 x = 10; rw [kx1]; exact hx
  have U3 : am_U (am_sR k2 9 0 x (some q1)) = am_U h + 93 := by show am_U k2 = _; omega
  have V3 : am_V (am_sR k2 9 0 x (some q1)) = am_V h + 885 := by show am_V k2 = _; omega
  refine ⟨K3, ?_⟩
  generalize am_sR k2 9 0 x (some q1) = k3 at *
  clear L1' L1 kx1 s2 g2 U2 V2 I1 U1 V1 R1' gA nA eA fO a1 b1 bb1 hq1
  -- the second
  refine vc_103_15 tt _ _ _ _ ⟨by omega, by omega, fun q4 hq4 => ?_⟩
  have U4 : am_U (am_nO k3 q4 0) = am_U k3 + 1 := rfl
  have V4 : am_V (am_nO k3 q4 0) = am_V k3 + 3 := rfl
  have I4 : am_I (am_nO k3 q4 0) 0 1 q4 = Int32.ofNat 0 := if_pos rfl
  refine ⟨_, ct_iA (a0 := q4) up_eq I4 (by omega) (by omega), fun k5 w5 => ?_⟩
  obtain ⟨cB, eB, nB, gB, s5, g5, U5, V5⟩ := w5
  obtain ⟨c2, a2, b2, bb2, n2, t2, y2, kx2, R2, R2', L2, L2'⟩ := nb_step (x := x) (cx := 9) (f := 1) (j0 := 600) n1 t1 y1 x0 hq4 s5 g5 (nB.sh (o := 500)) (fun z => by unfold DG at z; omega) (fun j z => ⟨fun w => by have := z.2.1; unfold DG at w this; omega, fun w => z.2.2 (by omega)⟩)
  have q4x : q4 ≠ x := fun z => by rw [z, K3] at hq4; cases hq4
  have fO : fr1 k3 (am_nO k3 q4 0) x := fr1.nO (fun z => q4x z.symm)
  have G2 : GA 1 c2 (am_sR k5 9 1 x (some q4)) := gB.mv (w := 0) (w' := 1) (fun j hj => by
    show c2 (j + 500) = cB j
    by_cases c : j = 100
    · rw [c, b2, eB]
    · rw [bb2 (j + 500) ⟨by omega, by rw [Nat.add_sub_cancel]; exact ⟨hj, c⟩⟩, Nat.add_sub_cancel]) (fun j hj => L2' _ (by
    rw [Nat.mul_zero, Nat.add_zero]
    by_cases c : j = 100
    · rw [c, eB]; exact q4x
    · intro z
      have := (nB.2 j ⟨hj, c⟩).1
      rw [z, fO.1, K3] at this
      cases this))
  have o2 := n1.of x0 L2
  have G1 : GA 0 c2 (am_sR k5 9 1 x (some q4)) := G1.mv (w := 0) (w' := 0) (fun j hj => by
    rw [Nat.mul_zero, Nat.add_zero]
    exact a2 j (fun z => by have := z.2.1; unfold DG at hj this; omega) (by unfold DG at hj; omega)) (fun j hj => o2 _ (by rw [Nat.mul_zero, Nat.add_zero]; exact hj))
  have n2 : NW h (am_sR k5 9 1 x (some q4)) c2 (fun j => DG j ∨ (500 ≤ j ∧ DG (j - 500))) := n2.wk (fun j z => by
    rcases z with z | z
    · exact Or.inl z
    · by_cases c : j = 600
      · exact Or.inr (Or.inl c)
      · exact Or.inr (Or.inr ⟨z.1, z.2, by omega⟩))
  have R2 : am_R (am_sR k5 9 1 x (some q4)) 9 1 x = some (c2 600) := by rw [b2]; exact R2
  have R1 : am_R (am_sR k5 9 1 x (some q4)) 9 0 x = some (c2 100) := by rw [R2' 0 (by omega), a2 100 (fun z => by omega) (by omega)]; exact R1
  have K6 : am_K (am_sR k5 9 1 x (some q4)) x = 10 := by show am_K k5 x = 10; rw [kx2]; exact K3
  have U6 : am_U (am_sR k5 9 1 x (some q4)) = am_U h + 186 := by show am_U k5 = _; omega
  have V6 : am_V (am_sR k5 9 1 x (some q4)) = am_V h + 1770 := by show am_V k5 = _; omega
  refine ⟨K6, ?_⟩
  generalize am_sR k5 9 1 x (some q4) = k6 at *
  clear L2' L2 kx2 s5 g5 U5 V5 I4 U4 V4 R2' gB nB eB fO a2 b2 bb2 hq4 o2 n1 t1 y1 K3 U3 V3
  -- a tape
  refine vc_103_26 tt _ _ _ _ ⟨by omega, by omega, fun q7 hq7 => ?_⟩
  have U7 : am_U (am_nO k6 q7 6) = am_U k6 + 1 := rfl
  have V7 : am_V (am_nO k6 q7 6) = am_V k6 + 3 := rfl
  have I7 : am_I (am_nO k6 q7 6) 6 1 q7 = Int32.ofNat 0 := if_pos rfl
  refine ⟨_, ct_iT (e := q7) up_eq (by omega) (by omega), fun k8 w8 => ?_⟩
  obtain ⟨b7, hb7, tp7, i7, s8, g8, U8, V8⟩ := w8
  obtain ⟨c3, a3, b3, bb3, n3, t3, y3, kx3, R3, R3', L3, L3'⟩ := nb_step (x := x) (cx := 9) (f := 2) (j0 := 10) n2 t2 y2 x0 hq7 s8 g8 (NW.one (j0 := 11) hb7 (by rw [tp7.2.2.1]; decide)) (fun z => by unfold DG at z; omega) (fun j z => ⟨fun w => by unfold DG at w; omega, by omega⟩)
  have q7x : q7 ≠ x := fun z => by rw [z, K6] at hq7; cases hq7
  have b7x : b7 ≠ x := fun z => by rw [z, (fr1.nO (fun z => q7x z.symm) : fr1 k6 (am_nO k6 q7 6) x).1, K6] at hb7; cases hb7
  have G3 : GT 0 c3 (am_sR k8 9 2 x (some q7)) := by
    show tp_s _ (c3 10) (c3 11) ∧ am_I _ 6 1 (c3 10) = _
    rw [b3, bb3 11 rfl]
    have f1 := L3' q7 q7x
    have f2 := L3' b7 b7x
    exact ⟨⟨by rw [f1.1]; exact tp7.1, by rw [f1.2.2.2.2.2.2.2]; exact tp7.2.1, by rw [f2.1]; exact tp7.2.2.1, by rw [f2.2.1]; exact tp7.2.2.2⟩, by rw [f1.2.2.2.2.2.1, i7]; exact I7⟩
  have o3 := n2.of x0 L3
  have G1 : GA 0 c3 (am_sR k8 9 2 x (some q7)) := G1.mv (w := 0) (w' := 0) (fun j hj => by
    rw [Nat.mul_zero, Nat.add_zero]
    exact a3 j (by unfold DG at hj; omega) (by unfold DG at hj; omega)) (fun j hj => o3 _ (by rw [Nat.mul_zero, Nat.add_zero]; exact Or.inl hj))
  have G2 : GA 1 c3 (am_sR k8 9 2 x (some q7)) := G2.mv (w := 1) (w' := 1) (fun j hj => a3 _ (by unfold DG at hj; omega) (by unfold DG at hj; omega)) (fun j hj => o3 _ (Or.inr ⟨by omega, by rw [Nat.mul_one, Nat.add_sub_cancel]; exact hj⟩))
  have n3 : NW h (am_sR k8 9 2 x (some q7)) c3 (fun j => DG j ∨ (500 ≤ j ∧ DG (j - 500)) ∨ (10 ≤ j ∧ j ≤ 11)) := n3.wk (fun j z => by
    rcases z with z | z | z
    · exact Or.inl (Or.inl z)
    · exact Or.inl (Or.inr z)
    · rcases (show j = 10 ∨ j = 11 by omega) with z | z
      · exact Or.inr (Or.inl z)
      · exact Or.inr (Or.inr z))
  have R3 : am_R (am_sR k8 9 2 x (some q7)) 9 2 x = some (c3 10) := by rw [b3]; exact R3
  have R1 : am_R (am_sR k8 9 2 x (some q7)) 9 0 x = some (c3 100) := by rw [R3' 0 (by omega), a3 100 (by omega) (by omega)]; exact R1
  have R2 : am_R (am_sR k8 9 2 x (some q7)) 9 1 x = some (c3 600) := by rw [R3' 1 (by omega), a3 600 (by omega) (by omega)]; exact R2
  have K9 : am_K (am_sR k8 9 2 x (some q7)) x = 10 := by show am_K k8 x = 10; rw [kx3]; exact K6
  have U9 : am_U (am_sR k8 9 2 x (some q7)) = am_U h + 188 := by show am_U k8 = _; omega
  have V9 : am_V (am_sR k8 9 2 x (some q7)) = am_V h + 6773 := by show am_V k8 = _; omega
  refine ⟨K9, ?_⟩
  generalize am_sR k8 9 2 x (some q7) = k9 at *
  clear L3' L3 kx3 s8 g8 U8 V8 I7 U7 V7 R3' a3 b3 bb3 hq7 o3 n2 t2 y2 K6 U6 V6 tp7 i7 hb7
  -- another
  refine vc_103_37 tt _ _ _ _ ⟨by omega, by omega, fun q7 hq7 => ?_⟩
  have U7 : am_U (am_nO k9 q7 6) = am_U k9 + 1 := rfl
  have V7 : am_V (am_nO k9 q7 6) = am_V k9 + 3 := rfl
  have I7 : am_I (am_nO k9 q7 6) 6 1 q7 = Int32.ofNat 0 := if_pos rfl
  refine ⟨_, ct_iT (e := q7) up_eq (by omega) (by omega), fun k8 w8 => ?_⟩
  obtain ⟨b7, hb7, tp7, i7, s8, g8, U8, V8⟩ := w8
  obtain ⟨c4, a4, b4, bb4, n4, t4, y4, kx4, R4, R4', L4, L4'⟩ := nb_step (x := x) (cx := 9) (f := 3) (j0 := 12) n3 t3 y3 x0 hq7 s8 g8 (NW.one (j0 := 13) hb7 (by rw [tp7.2.2.1]; decide)) (fun z => by unfold DG at z; omega) (fun j z => ⟨fun w => by unfold DG at w; omega, by omega⟩)
  have q7x : q7 ≠ x := fun z => by rw [z, K9] at hq7; cases hq7
  have b7x : b7 ≠ x := fun z => by rw [z, (fr1.nO (fun z => q7x z.symm) : fr1 k9 (am_nO k9 q7 6) x).1, K9] at hb7; cases hb7
  have G4 : GT 1 c4 (am_sR k8 9 3 x (some q7)) := by
    show tp_s _ (c4 12) (c4 13) ∧ am_I _ 6 1 (c4 12) = _
    rw [b4, bb4 13 rfl]
    have f1 := L4' q7 q7x
    have f2 := L4' b7 b7x
    exact ⟨⟨by rw [f1.1]; exact tp7.1, by rw [f1.2.2.2.2.2.2.2]; exact tp7.2.1, by rw [f2.1]; exact tp7.2.2.1, by rw [f2.2.1]; exact tp7.2.2.2⟩, by rw [f1.2.2.2.2.2.1, i7]; exact I7⟩
  have o4 := n3.of x0 L4
  have G1 : GA 0 c4 (am_sR k8 9 3 x (some q7)) := G1.mv (w := 0) (w' := 0) (fun j hj => by
    rw [Nat.mul_zero, Nat.add_zero]
    exact a4 j (by unfold DG at hj; omega) (by unfold DG at hj; omega)) (fun j hj => o4 _ (by rw [Nat.mul_zero, Nat.add_zero]; exact Or.inl hj))
  have G2 : GA 1 c4 (am_sR k8 9 3 x (some q7)) := G2.mv (w := 1) (w' := 1) (fun j hj => a4 _ (by unfold DG at hj; omega) (by unfold DG at hj; omega)) (fun j hj => o4 _ (Or.inr (Or.inl ⟨by omega, by rw [Nat.mul_one, Nat.add_sub_cancel]; exact hj⟩)))
  have G3 : GT 0 c4 (am_sR k8 9 3 x (some q7)) := G3.mv (fun j hj => a4 _ (by unfold c_tp c_tb at hj; omega) (by unfold c_tp c_tb at hj; omega)) (fun j hj => o4 _ (Or.inr (Or.inr (by unfold c_tp c_tb at hj; omega))))
  have n4 : NW h (am_sR k8 9 3 x (some q7)) c4 (fun j => DG j ∨ (500 ≤ j ∧ DG (j - 500)) ∨ (10 ≤ j ∧ j ≤ 13)) := n4.wk (fun j z => by
    rcases z with z | z | z
    · exact Or.inl (Or.inl z)
    · exact Or.inl (Or.inr (Or.inl z))
    · rcases (show (10 ≤ j ∧ j ≤ 11) ∨ j = 12 ∨ j = 13 by omega) with z | z | z
      · exact Or.inl (Or.inr (Or.inr z))
      · exact Or.inr (Or.inl z)
      · exact Or.inr (Or.inr z))
  have R4 : am_R (am_sR k8 9 3 x (some q7)) 9 3 x = some (c4 12) := by rw [b4]; exact R4
  have R1 : am_R (am_sR k8 9 3 x (some q7)) 9 0 x = some (c4 100) := by rw [R4' 0 (by omega), a4 100 (by omega) (by omega)]; exact R1
  have R2 : am_R (am_sR k8 9 3 x (some q7)) 9 1 x = some (c4 600) := by rw [R4' 1 (by omega), a4 600 (by omega) (by omega)]; exact R2
  have R3 : am_R (am_sR k8 9 3 x (some q7)) 9 2 x = some (c4 10) := by rw [R4' 2 (by omega), a4 10 (by omega) (by omega)]; exact R3
  have K10 : am_K (am_sR k8 9 3 x (some q7)) x = 10 := by show am_K k8 x = 10; rw [kx4]; exact K9
  have U10 : am_U (am_sR k8 9 3 x (some q7)) = am_U h + 190 := by show am_U k8 = _; omega
  have V10 : am_V (am_sR k8 9 3 x (some q7)) = am_V h + 11776 := by show am_V k8 = _; omega
  refine ⟨K10, ?_⟩
  generalize am_sR k8 9 3 x (some q7) = k10 at *
  clear L4' L4 kx4 s8 g8 U8 V8 I7 U7 V7 R4' a4 b4 bb4 hq7 o4 n3 t3 y3 K9 U9 V9 tp7 i7 hb7
  -- the writer
  refine vc_103_48 tt _ _ _ _ ⟨by omega, by omega, fun q7 hq7 => ?_⟩
  have U7 : am_U (am_nO k10 q7 8) = am_U k10 + 1 := rfl
  have V7 : am_V (am_nO k10 q7 8) = am_V k10 + 7 := rfl
  refine ⟨_, ct_iW (e := q7) up_eq (by omega) (by omega), fun k8 w8 => ?_⟩
  obtain ⟨u, b, hu, hb, ub, W1, W2, W3, W4, W5, W6, s8, g8, U8, V8⟩ := w8
  obtain ⟨c5, a5, b5, bb5, n5, t5, y5, kx5, R5, R5', L5, L5'⟩ := nb_step (x := x) (cx := 9) (f := 4) (j0 := 20) n4 t4 y4 x0 hq7 s8 g8 (NW.two (j1 := 21) (j2 := 22) hu hb ub (by rw [W2]; decide) (by rw [W5]; decide) (by omega)) (fun z => by unfold DG at z; omega) (fun j z => ⟨fun w => by unfold DG at w; omega, by omega⟩)
  have q7x : q7 ≠ x := fun z => by rw [z, K10] at hq7; cases hq7
  have fO : fr1 k10 (am_nO k10 q7 8) x := fr1.nO (fun z => q7x z.symm)
  have ux : u ≠ x := fun z => by rw [z, fO.1, K10] at hu; cases hu
  have bx : b ≠ x := fun z => by rw [z, fO.1, K10] at hb; cases hb
  have e21 : c5 21 = u := by rw [bb5 21 (Or.inl rfl), if_pos rfl]
  have e22 : c5 22 = b := by rw [bb5 22 (Or.inr rfl), if_neg (by omega)]
  have G5 : cw_s (am_sR k8 9 4 x (some q7)) c5 := by
    unfold cw_s
    rw [b5, e21, e22]
    have f1 := L5' q7 q7x
    have f2 := L5' u ux
    have f3 := L5' b bx
    exact ⟨by rw [f1.1, g8 q7 (by rw [show am_K (am_nO k10 q7 8) q7 = 9 from up_eq]; decide)]; exact up_eq, by rw [f1.2.2.2.2.2.2.2]; exact W1, by rw [f2.1]; exact W2, by rw [f2.2.1]; exact W3, by rw [f1.2.2.2.2.2.2.2]; exact W4, by rw [f3.1]; exact W5, by rw [f3.2.1]; exact W6⟩
  have o5 := n4.of x0 L5
  have G1 : GA 0 c5 (am_sR k8 9 4 x (some q7)) := G1.mv (w := 0) (w' := 0) (fun j hj => by
    rw [Nat.mul_zero, Nat.add_zero]
    exact a5 j (by unfold DG at hj; omega) (by unfold DG at hj; omega)) (fun j hj => o5 _ (by rw [Nat.mul_zero, Nat.add_zero]; exact Or.inl hj))
  have G2 : GA 1 c5 (am_sR k8 9 4 x (some q7)) := G2.mv (w := 1) (w' := 1) (fun j hj => a5 _ (by unfold DG at hj; omega) (by unfold DG at hj; omega)) (fun j hj => o5 _ (Or.inr (Or.inl ⟨by omega, by rw [Nat.mul_one, Nat.add_sub_cancel]; exact hj⟩)))
  have G3 : GT 0 c5 (am_sR k8 9 4 x (some q7)) := G3.mv (fun j hj => a5 _ (by unfold c_tp c_tb at hj; omega) (by unfold c_tp c_tb at hj; omega)) (fun j hj => o5 _ (Or.inr (Or.inr (by unfold c_tp c_tb at hj; omega))))
  have G4 : GT 1 c5 (am_sR k8 9 4 x (some q7)) := G4.mv (fun j hj => a5 _ (by unfold c_tp c_tb at hj; omega) (by unfold c_tp c_tb at hj; omega)) (fun j hj => o5 _ (Or.inr (Or.inr (by unfold c_tp c_tb at hj; omega))))
  have n5 : NW h (am_sR k8 9 4 x (some q7)) c5 (fun j => DG j ∨ (500 ≤ j ∧ DG (j - 500)) ∨ (10 ≤ j ∧ j ≤ 13) ∨ (20 ≤ j ∧ j ≤ 22)) := n5.wk (fun j z => by
    rcases z with z | z | z | z
    · exact Or.inl (Or.inl z)
    · exact Or.inl (Or.inr (Or.inl z))
    · exact Or.inl (Or.inr (Or.inr z))
    · rcases (show j = 20 ∨ j = 21 ∨ j = 22 by omega) with z | z | z
      · exact Or.inr (Or.inl z)
      · exact Or.inr (Or.inr (Or.inl z))
      · exact Or.inr (Or.inr (Or.inr z)))
  have R5 : am_R (am_sR k8 9 4 x (some q7)) 9 4 x = some (c5 20) := by rw [b5]; exact R5
  have R1 : am_R (am_sR k8 9 4 x (some q7)) 9 0 x = some (c5 100) := by rw [R5' 0 (by omega), a5 100 (by omega) (by omega)]; exact R1
  have R2 : am_R (am_sR k8 9 4 x (some q7)) 9 1 x = some (c5 600) := by rw [R5' 1 (by omega), a5 600 (by omega) (by omega)]; exact R2
  have R3 : am_R (am_sR k8 9 4 x (some q7)) 9 2 x = some (c5 10) := by rw [R5' 2 (by omega), a5 10 (by omega) (by omega)]; exact R3
  have R4 : am_R (am_sR k8 9 4 x (some q7)) 9 3 x = some (c5 12) := by rw [R5' 3 (by omega), a5 12 (by omega) (by omega)]; exact R4
  have K11 : am_K (am_sR k8 9 4 x (some q7)) x = 10 := by show am_K k8 x = 10; rw [kx5]; exact K10
  have U11 : am_U (am_sR k8 9 4 x (some q7)) = am_U h + 193 := by show am_U k8 = _; omega
  have V11 : am_V (am_sR k8 9 4 x (some q7)) = am_V h + 11831 := by show am_V k8 = _; omega
  refine ⟨K11, ?_⟩
  generalize am_sR k8 9 4 x (some q7) = k11 at *
  clear L5' L5 kx5 s8 g8 U8 V8 U7 V7 R5' a5 b5 bb5 hq7 o5 n4 t4 y4 K10 U10 V10 e21 e22 W1 W2 W3 W4 W5 W6 hu hb fO
  -- the reader
  refine ev_iR K11 (by omega) (by omega) (fun kE cR nR gR sE gE UE VE => ?_)
  obtain ⟨c6, a6, b6, n6⟩ := n5.mrg y5 nR gE (fun j hj z => by unfold DR at z; unfold DG at hj; omega)
  have e30 : c6 30 = cR 30 := b6 30 (Or.inl ⟨by omega, by omega⟩)
  have KE : am_K kE x = 10 := by rw [gE x (by rw [K11]; decide)]; exact K11
  have fx : fr1 k11 kE x := sE x (by rw [K11]; decide) (fun z => z)
  have L6 : ∀ a, am_K k11 a ≠ 0 → a ≠ x → fr1 k11 (am_sR kE 9 5 x (some (cR 30))) a := fun a ha hax => (sE a ha (fun z => z)).tr (fr1.sR hax)
  have xk : ∀ j, DR j → cR j ≠ x := fun j hj z => by
    have := (nR.2 j hj).1
    rw [z, K11] at this
    cases this
  have G6 : GR c6 (am_sR kE 9 5 x (some (cR 30))) := gR.mv (fun j hj => b6 j hj) (fun j hj => fr1.sR (xk j hj))
  have nd : ∀ j, DG j ∨ (500 ≤ j ∧ DG (j - 500)) ∨ (10 ≤ j ∧ j ≤ 13) ∨ (20 ≤ j ∧ j ≤ 22) → c6 j = c5 j := fun j hj => a6 j (fun z => by unfold DR at z; unfold DG at hj; omega)
  have o6 := n5.of x0 L6
  have R6' : ∀ j, j ≠ 5 → am_R (am_sR kE 9 5 x (some (cR 30))) 9 j x = am_R k11 9 j x := fun j hj => by
    have : am_R (am_sR kE 9 5 x (some (cR 30))) 9 j x = am_R kE 9 j x := by simp only [am_hs, hj, true_and, and_true, and_self, true_or, or_true, false_or, or_false, false_and, and_false, not_true_eq_false, not_false_eq_true, Classical.not_not, true_implies, false_implies, implies_true, exists_eq_left, exists_eq_left', Option.some.injEq, reduceIte, Nat.reduceEqDiff, Nat.reduceLT, Nat.reduceLeDiff, Nat.reduceAdd, Nat.reduceSub, Nat.reduceMul, eq_self, ne_eq, and_imp, forall_const, reduceCtorEq, am_w, List.map_cons, List.map_nil, List.sum_cons, List.sum_nil, Value.category, Nat.zero_le, Nat.le_refl]
    rw [this, fx.2.2.2.2.2.2.2]
  have t6 : gs (fun a => a = x) h (am_sR kE 9 5 x (some (cR 30))) := fun a ha hax => (t5 a ha hax).tr (L6 a (by rw [y5 a ha]; exact ha) hax)
  have y6 : gK h (am_sR kE 9 5 x (some (cR 30))) := y5.tr gE
  refine ⟨c6, (n6.up (gK.re : gK kE (am_sR kE 9 5 x (some (cR 30))))).wk (fun j z => ?_), by show am_K kE x = 10; exact KE, ?_, ?_, ?_, ?_, ?_, by rw [e30]; simp only [am_hs, true_and, and_true, and_self, true_or, or_true, false_or, or_false, false_and, and_false, not_true_eq_false, not_false_eq_true, Classical.not_not, true_implies, false_implies, implies_true, exists_eq_left, exists_eq_left', Option.some.injEq, reduceIte, Nat.reduceEqDiff, Nat.reduceLT, Nat.reduceLeDiff, Nat.reduceAdd, Nat.reduceSub, Nat.reduceMul, eq_self, ne_eq, and_imp, forall_const, reduceCtorEq, am_w, List.map_cons, List.map_nil, List.sum_cons, List.sum_nil, Value.category, Nat.zero_le, Nat.le_refl], ?_, ?_, ?_, ?_, ?_, G6, t6, y6, by show am_U kE = _; omega, by show am_V kE = _; omega⟩
  · rcases z with z | z | z | z | z
    · exact Or.inl (Or.inl z)
    · exact Or.inl (Or.inr (Or.inl z))
    · exact Or.inl (Or.inr (Or.inr (Or.inl z)))
    · exact Or.inl (Or.inr (Or.inr (Or.inr z)))
    · exact Or.inr z
  · rw [R6' 0 (by omega), nd 100 (by unfold DG; omega)]; exact R1
  · rw [R6' 1 (by omega), nd 600 (by unfold DG; omega)]; exact R2
  · rw [R6' 2 (by omega), nd 10 (by omega)]; exact R3
  · rw [R6' 3 (by omega), nd 12 (by omega)]; exact R4
  · rw [R6' 4 (by omega), nd 20 (by omega)]; exact R5
  · exact G1.mv (w := 0) (w' := 0) (fun j hj => by rw [Nat.mul_zero, Nat.add_zero]; exact nd j (Or.inl hj)) (fun j hj => o6 _ (by rw [Nat.mul_zero, Nat.add_zero]; exact Or.inl hj))
  · exact G2.mv (w := 1) (w' := 1) (fun j hj => nd _ (Or.inr (Or.inl ⟨by omega, by rw [Nat.mul_one, Nat.add_sub_cancel]; exact hj⟩))) (fun j hj => o6 _ (Or.inr (Or.inl ⟨by omega, by rw [Nat.mul_one, Nat.add_sub_cancel]; exact hj⟩)))
  · exact G3.mv (fun j hj => nd _ (by unfold c_tp c_tb at hj; omega)) (fun j hj => o6 _ (by unfold c_tp c_tb at hj; omega))
  · exact G4.mv (fun j hj => nd _ (by unfold c_tp c_tb at hj; omega)) (fun j hj => o6 _ (by unfold c_tp c_tb at hj; omega))
  · exact G5.mv (fun j hj => nd _ (by omega)) (fun j hj => o6 _ (by omega))
end INX
