/-! deps: 20g -/
/-! ===== the reference reads: a folder's coders in their order ===== -/
/-! 188 yX10_lay -/
theorem vc_188_0 (tt : Nat → Nat) (a0 : Nat) (a1 : Int32) (a2 : Int32) (h : am_H) (Q : am_H → Prop) (Qx : String → am_H → Prop) (q :
  am_Ev tt 188 2 [some (.ref a0), some (.int a1), some (.int a2), some (.int (Int32.ofNat 0)), none] [] h (am_pV Q Qx)) :
  am_Ev tt 188 0 [some (.ref a0), some (.int a1), some (.int a2), none, none] [] h (am_pV Q Qx) := am_vc 5 [(2, [true, true, true, true, false]), (22, [true, true, true, true, false]), (53, [true, true, false, false, true]), (90, [true, true, false, false, true]), (112, [true, true, false, false, true]), (151, [true, true, false, false, true])] q
theorem vc_188_2 (tt : Nat → Nat) (a0 : Nat) (a1 : Int32) (a2 : Int32) (a3 : Int32) (h : am_H) (Q : am_H → Prop) (Qx : String → am_H → Prop) (q :
  (am_K h a0 = 11 ∧ ∃ q1, am_R h 10 58 a0 = some q1 ∧
  ((am_K h q1 = 21 ∨ am_K h q1 = 31) ∧ vp_in a3 (am_N h q1) ∧
  (((am_A h q1 (a3).toNatClampNeg) = (-1 : Int32) →
   am_Ev tt 188 22 [some (.ref a0), some (.int a1), some (.int a2), some (.int a3), none] [] h (am_pV Q Qx)) ∧
  (¬ ((am_A h q1 (a3).toNatClampNeg) = (-1 : Int32)) →
   (am_K h a0 = 11 ∧ ∃ q2, am_R h 10 58 a0 = some q2 ∧
   ((am_K h q2 = 21 ∨ am_K h q2 = 31) ∧ vp_in a3 (am_N h q2) ∧
   am_Ev tt 188 2 [some (.ref a0), some (.int a1), some (.int a2), some (.int (am_A h q2 (a3).toNatClampNeg)), none] [] h (am_pV Q Qx)))))))) :
  am_Ev tt 188 2 [some (.ref a0), some (.int a1), some (.int a2), some (.int a3), none] [] h (am_pV Q Qx) := am_vc 15 [(2, [true, true, true, true, false]), (22, [true, true, true, true, false]), (53, [true, true, false, false, true]), (90, [true, true, false, false, true]), (112, [true, true, false, false, true]), (151, [true, true, false, false, true])] q
theorem vc_188_22 (tt : Nat → Nat) (a0 : Nat) (a1 : Int32) (a2 : Int32) (a3 : Int32) (h : am_H) (Q : am_H → Prop) (Qx : String → am_H → Prop) (q :
  (am_K h a0 = 11 ∧ ∃ q1, am_R h 10 59 a0 = some q1 ∧
  (am_K h q1 = 21 ∧ vp_in a1 (am_N h q1) ∧
  (am_K h a0 = 11 ∧ ∃ q2, am_R h 10 33 a0 = some q2 ∧
  (am_K h q2 = 21 ∧ vp_in a1 (am_N h q2) ∧
  (am_K h a0 = 11 ∧ ∃ q3, am_R h 10 34 a0 = some q3 ∧
  (vp_in a1 (am_N h q3) ∧ ∃ w4, ((am_K h q3 = 23 ∧ w4 = ((Int32.ofNat 1)).toInt8.toInt32) ∨ (am_K h q3 = 24 ∧ w4 = ((Int32.ofNat 1) &&& 1))) ∧
  (am_K h a0 = 11 ∧ ∃ q5, am_R h 10 37 a0 = some q5 ∧
  (am_K h q5 = 21 ∧ vp_in a1 (am_N h q5) ∧
  am_Ev tt 188 53 [some (.ref a0), some (.int a1), none, none, some (.int a3)] [] (am_sA (am_sA (am_sA (am_sA h q1 (a1).toNatClampNeg a3) q2 (a1).toNatClampNeg a2) q3 (a1).toNatClampNeg w4) q5 (a1).toNatClampNeg (Int32.ofNat 0)) (am_pV Q Qx)))))))))) :
  am_Ev tt 188 22 [some (.ref a0), some (.int a1), some (.int a2), some (.int a3), none] [] h (am_pV Q Qx) := am_vc 25 [(2, [true, true, true, true, false]), (22, [true, true, true, true, false]), (53, [true, true, false, false, true]), (90, [true, true, false, false, true]), (112, [true, true, false, false, true]), (151, [true, true, false, false, true])] q
theorem vc_188_53 (tt : Nat → Nat) (a0 : Nat) (a1 : Int32) (a4 : Int32) (h : am_H) (Q : am_H → Prop) (Qx : String → am_H → Prop) (q :
  ((a4 = (-1 : Int32) →
   Q h) ∧
  (¬ (a4 = (-1 : Int32)) →
   (am_K h a0 = 11 ∧ ∃ q1, am_R h 10 34 a0 = some q1 ∧
   (am_K h a0 = 11 ∧ ∃ q2, am_R h 10 34 a0 = some q2 ∧
   ((am_K h q2 = 23 ∨ am_K h q2 = 24) ∧ vp_in a1 (am_N h q2) ∧
   (((am_A h q2 (a1).toNatClampNeg) = (Int32.ofNat 0) →
    (vp_in a1 (am_N h q1) ∧ ∃ w3, ((am_K h q1 = 23 ∧ w3 = ((Int32.ofNat 0)).toInt8.toInt32) ∨ (am_K h q1 = 24 ∧ w3 = ((Int32.ofNat 0) &&& 1))) ∧
    am_Ev tt 188 90 [some (.ref a0), some (.int a1), none, none, some (.int a4)] [] (am_sA h q1 (a1).toNatClampNeg w3) (am_pV Q Qx))) ∧
   (¬ ((am_A h q2 (a1).toNatClampNeg) = (Int32.ofNat 0)) →
    (am_K h a0 = 11 ∧ ∃ q4, am_R h 10 52 a0 = some q4 ∧
    ((am_K h q4 = 21 ∨ am_K h q4 = 31) ∧ vp_in a4 (am_N h q4) ∧
    (((am_A h q4 (a4).toNatClampNeg) = (-1 : Int32) →
     (vp_in a1 (am_N h q1) ∧ ∃ w5, ((am_K h q1 = 23 ∧ w5 = ((Int32.ofNat 0)).toInt8.toInt32) ∨ (am_K h q1 = 24 ∧ w5 = ((Int32.ofNat 0) &&& 1))) ∧
     am_Ev tt 188 90 [some (.ref a0), some (.int a1), none, none, some (.int a4)] [] (am_sA h q1 (a1).toNatClampNeg w5) (am_pV Q Qx))) ∧
    (¬ ((am_A h q4 (a4).toNatClampNeg) = (-1 : Int32)) →
     (vp_in a1 (am_N h q1) ∧ ∃ w6, ((am_K h q1 = 23 ∧ w6 = ((Int32.ofNat 1)).toInt8.toInt32) ∨ (am_K h q1 = 24 ∧ w6 = ((Int32.ofNat 1) &&& 1))) ∧
     am_Ev tt 188 90 [some (.ref a0), some (.int a1), none, none, some (.int a4)] [] (am_sA h q1 (a1).toNatClampNeg w6) (am_pV Q Qx)))))))))))))) :
  am_Ev tt 188 53 [some (.ref a0), some (.int a1), none, none, some (.int a4)] [] h (am_pV Q Qx) := am_vc 23 [(2, [true, true, true, true, false]), (22, [true, true, true, true, false]), (53, [true, true, false, false, true]), (90, [true, true, false, false, true]), (112, [true, true, false, false, true]), (151, [true, true, false, false, true])] q
theorem vc_188_90 (tt : Nat → Nat) (a0 : Nat) (a1 : Int32) (a4 : Int32) (h : am_H) (Q : am_H → Prop) (Qx : String → am_H → Prop) (q :
  (am_K h a0 = 11 ∧ ∃ q1, am_R h 10 35 a0 = some q1 ∧
  (am_K h a0 = 11 ∧ ∃ q2, am_R h 10 37 a0 = some q2 ∧
  ((am_K h q2 = 21 ∨ am_K h q2 = 31) ∧ vp_in a1 (am_N h q2) ∧
  (am_K h a0 = 11 ∧ ∃ q3, am_R h 10 52 a0 = some q3 ∧
  ((am_K h q3 = 21 ∨ am_K h q3 = 31) ∧ vp_in a4 (am_N h q3) ∧
  (am_K h q1 = 21 ∧ vp_in (((Int32.ofNat 3) * a1) + (am_A h q2 (a1).toNatClampNeg)) (am_N h q1) ∧
  am_Ev tt 188 112 [some (.ref a0), some (.int a1), none, none, some (.int a4)] [] (am_sA h q1 ((((Int32.ofNat 3) * a1) + (am_A h q2 (a1).toNatClampNeg))).toNatClampNeg (am_A h q3 (a4).toNatClampNeg)) (am_pV Q Qx)))))))) :
  am_Ev tt 188 90 [some (.ref a0), some (.int a1), none, none, some (.int a4)] [] h (am_pV Q Qx) := am_vc 18 [(2, [true, true, true, true, false]), (22, [true, true, true, true, false]), (53, [true, true, false, false, true]), (90, [true, true, false, false, true]), (112, [true, true, false, false, true]), (151, [true, true, false, false, true])] q
theorem vc_188_112 (tt : Nat → Nat) (a0 : Nat) (a1 : Int32) (a4 : Int32) (h : am_H) (Q : am_H → Prop) (Qx : String → am_H → Prop) (q :
  (am_K h a0 = 11 ∧ ∃ q1, am_R h 10 36 a0 = some q1 ∧
  (am_K h a0 = 11 ∧ ∃ q2, am_R h 10 37 a0 = some q2 ∧
  ((am_K h q2 = 21 ∨ am_K h q2 = 31) ∧ vp_in a1 (am_N h q2) ∧
  (am_K h a0 = 11 ∧ ∃ q3, am_R h 10 52 a0 = some q3 ∧
  ((am_K h q3 = 21 ∨ am_K h q3 = 31) ∧ vp_in a4 (am_N h q3) ∧
  ((¬ (am_A h q3 (a4).toNatClampNeg) = (Int32.ofNat 1) →
   (am_K h q1 = 21 ∧ vp_in (((Int32.ofNat 3) * a1) + (am_A h q2 (a1).toNatClampNeg)) (am_N h q1) ∧
   am_Ev tt 188 151 [some (.ref a0), some (.int a1), none, none, some (.int a4)] [] (am_sA h q1 ((((Int32.ofNat 3) * a1) + (am_A h q2 (a1).toNatClampNeg))).toNatClampNeg (Int32.ofNat 0)) (am_pV Q Qx))) ∧
  (¬ (¬ (am_A h q3 (a4).toNatClampNeg) = (Int32.ofNat 1)) →
   (am_K h a0 = 11 ∧ ∃ q4, am_R h 10 56 a0 = some q4 ∧
   ((am_K h q4 = 21 ∨ am_K h q4 = 31) ∧ vp_in a4 (am_N h q4) ∧
   (am_K h q1 = 21 ∧ vp_in (((Int32.ofNat 3) * a1) + (am_A h q2 (a1).toNatClampNeg)) (am_N h q1) ∧
   am_Ev tt 188 151 [some (.ref a0), some (.int a1), none, none, some (.int a4)] [] (am_sA h q1 ((((Int32.ofNat 3) * a1) + (am_A h q2 (a1).toNatClampNeg))).toNatClampNeg ((am_A h q4 (a4).toNatClampNeg) + (Int32.ofNat 1))) (am_pV Q Qx)))))))))))) :
  am_Ev tt 188 112 [some (.ref a0), some (.int a1), none, none, some (.int a4)] [] h (am_pV Q Qx) := am_vc 27 [(2, [true, true, true, true, false]), (22, [true, true, true, true, false]), (53, [true, true, false, false, true]), (90, [true, true, false, false, true]), (112, [true, true, false, false, true]), (151, [true, true, false, false, true])] q
theorem vc_188_151 (tt : Nat → Nat) (a0 : Nat) (a1 : Int32) (a4 : Int32) (h : am_H) (Q : am_H → Prop) (Qx : String → am_H → Prop) (q :
  (am_K h a0 = 11 ∧ ∃ q1, am_R h 10 37 a0 = some q1 ∧
  ((am_K h q1 = 21 ∨ am_K h q1 = 31) ∧ vp_in a1 (am_N h q1) ∧
  (am_K h q1 = 21 ∧ vp_in a1 (am_N h q1) ∧
  (am_K h a0 = 11 ∧ ∃ q2, am_R h 10 57 a0 = some q2 ∧
  ((am_K h q2 = 21 ∨ am_K h q2 = 31) ∧ vp_in a4 (am_N h q2) ∧
  am_Ev tt 188 53 [some (.ref a0), some (.int a1), none, none, some (.int (am_A (am_sA h q1 (a1).toNatClampNeg ((am_A h q1 (a1).toNatClampNeg) + (Int32.ofNat 1))) q2 (a4).toNatClampNeg))] [] (am_sA h q1 (a1).toNatClampNeg ((am_A h q1 (a1).toNatClampNeg) + (Int32.ofNat 1))) (am_pV Q Qx))))))) :
  am_Ev tt 188 151 [some (.ref a0), some (.int a1), none, none, some (.int a4)] [] h (am_pV Q Qx) := am_vc 17 [(2, [true, true, true, true, false]), (22, [true, true, true, true, false]), (53, [true, true, false, false, true]), (90, [true, true, false, false, true]), (112, [true, true, false, false, true]), (151, [true, true, false, false, true])] q

def gz (bs : List (Nat × Nat)) (nc : Nat) : Bool := (decide (gvL bs 0 = 3) && decide (omL bs nc = 0)) || ((decide (gvL bs 0 < 3) && (decide (gvL bs (gvL bs 0) = 3) && decide (omL bs nc = gvL bs 0))) || (decide (gvL bs 0 < 3) && (decide (gvL bs (gvL bs 0) < 3) && (decide (gvL bs (gvL bs (gvL bs 0)) = 3) && decide (omL bs nc = gvL bs (gvL bs 0))))))
def gzk (bs : List (Nat × Nat)) (nc : Nat) : Bool := gz bs nc && decide (chL bs (omL bs nc) nc = 3)
def c3k2 (t1 g1 t2 g2 : Nat) : Bool := lds [] g1 t1 || (!decide (tkL [(t1, g1)] t2 = 3) || (!decide (gvL [(t1, g1)] g2 = 3) || (lds [(t1, g1)] g2 t2 || gzk [(t1, g1), (t2, g2)] 3)))
theorem c3b : ((List.range 3).all fun t1 => (List.range 3).all fun g1 => (List.range 3).all fun t2 => (List.range 3).all fun g2 => c3k2 t1 g1 t2 g2) = true := by decide +kernel
theorem gz_3 (t1 : Nat) (h1 : t1 < 3) (g1 : Nat) (h2 : g1 < 3) (t2 : Nat) (h3 : t2 < 3) (g2 : Nat) (h4 : g2 < 3) (a1 : lds [] g1 t1 = false) (a2 : tkL [(t1, g1)] t2 = 3) (a3 : gvL [(t1, g1)] g2 = 3) (a4 : lds [(t1, g1)] g2 t2 = false) : gzk [(t1, g1), (t2, g2)] 3 = true := by
  have h := c3b
  rw [List.all_eq_true] at h
  have h := h t1 (List.mem_range.2 h1)
  rw [List.all_eq_true] at h
  have h := h g1 (List.mem_range.2 h2)
  rw [List.all_eq_true] at h
  have h := h t2 (List.mem_range.2 h3)
  rw [List.all_eq_true] at h
  have h := h g2 (List.mem_range.2 h4)
  rw [c3k2, a1, a2, a3, a4] at h
  simpa only [decide_true, Bool.not_true, Bool.false_or] using h
theorem gz_2 : ∀ t1, t1 < 2 → ∀ g1, g1 < 2 → lds [] g1 t1 = false → gzk [(t1, g1)] 2 = true := by decide
theorem gz_v {nc : Nat} (h1 : 1 ≤ nc) (h3 : nc ≤ 3) : ∀ {bs : List (Nat × Nat)}, vB nc bs → bs.length = nc - 1 → gzk bs nc = true
  | [], _, hl => by
    have : nc = 1 := by rw [List.length_nil] at hl; omega
    subst this
    decide
  | [(t, g)], h, hl => by
    have : nc = 2 := by simp at hl; omega
    subst this
    have h : okB 2 [] t g := h
    exact gz_2 t h.2.2.2.1 g h.2.2.2.2 h.2.2.1
  | [(t, g), (t', g')], h, hl => by
    have : nc = 3 := by simp at hl; omega
    subst this
    have h : okB 3 [] t g ∧ okB 3 [(t, g)] t' g' := h
    exact gz_3 t h.1.2.2.2.1 g h.1.2.2.2.2 t' h.2.2.2.2.1 g' h.2.2.2.2.2 h.1.2.2.1 h.2.1 h.2.2.1 h.2.2.2.1
  | _ :: _ :: _ :: _, h, _ => absurd h id
section MLY
variable {tt : Nat → Nat} {F : Fn} {n m : Nat} {ad : Nat → Nat} {h h' h'' k k' : am_H} {s : Ms} {X Y X' Y' : Nat → Prop}
theorem ad_ne (sm : md_s h m ad) : ∀ a b, ¬ a = b → (ad a = ad b) = False := fun a b hab => eq_false (fun z => hab (sm.2.2 _ _ z))
abbrev Xly (k : Nat) : Prop := k = 33 ∨ k = 34 ∨ k = 35 ∨ k = 36 ∨ k = 37 ∨ k = 59
abbrev Yz (_ : Nat) : Prop := False
/-- of other folders -/
def ly (f : Nat) (ad : Nat → Nat) (h k : am_H) : Prop := ∀ r j, ((r = 33 ∨ r = 34 ∨ r = 37 ∨ r = 59) ∧ ¬ j = f) ∨ ((r = 35 ∨ r = 36) ∧ ¬ (3 * f ≤ j ∧ j < 3 * f + 3)) → am_A k (ad r) j = am_A h (ad r) j
/-- a folder's rows -/
def FRo (ad : Nat → Nat) (f : Nat) (o : FO) (k : am_H) : Prop := am_A k (ad 33) f = Int32.ofNat o.1 ∧ am_A k (ad 34) f = b01 o.2.1 ∧ am_A k (ad 37) f = Int32.ofNat o.1 ∧ am_A k (ad 59) f = Int32.ofNat o.2.2.2.2 ∧ ∀ j, j < o.1 → am_A k (ad 35) (3 * f + j) = o.2.2.1 j ∧ am_A k (ad 36) (3 * f + j) = o.2.2.2.1 j
theorem ct_rlay (sm : md_s h m ad) {f nc : Nat} (hf : f < 6) (h1 : 1 ≤ nc) (h3 : nc ≤ 3) {bs : List (Nat × Nat)} {ks ds : Nat → Int32} (br : MBR ad h bs) (hv : vB nc bs) (hl : bs.length = nc - 1) (hk : ∀ c, c < nc → am_A h (ad 52) c = ks c ∧ (ks c = Int32.ofNat 1 → am_A h (ad 56) c + Int32.ofNat 1 = ds c)) : am_Ct tt 188 [.ref m, .int (Int32.ofNat f), .int (Int32.ofNat nc)] h (am_pV (fun k => mg m ad Xly Yz h k ∧ ly f ad h k ∧ FRo ad f (mkF nc ks ds bs) k) no_x) := by
  have hbs := vB_b h3 hv
  have gk := gz_v h1 h3 hv hl
  rw [gzk, Bool.and_eq_true, decide_eq_true_iff] at gk
  have chv := ch_v h1 h3 hv hl
  generalize eom : omL bs nc = om at *
  have om3 : om < 3 := by have := (chv 0 (by omega)).1; rw [chL] at this; omega
  have key : ∀ (d j : Nat) (k : am_H), d + j = nc → mg m ad Xly Yz h k → ly f ad h k → am_A k (ad 33) f = Int32.ofNat nc → am_A k (ad 59) f = Int32.ofNat om → am_A k (ad 34) f = b01 (decide (∀ i, i < j → ¬ ks (chL bs om i) = -1)) → am_A k (ad 37) f = Int32.ofNat j → (∀ i, i < j → am_A k (ad 35) (3 * f + i) = ks (chL bs om i) ∧ am_A k (ad 36) (3 * f + i) = if ks (chL bs om i) = Int32.ofNat 1 then ds (chL bs om i) else Int32.ofNat 0) →
      am_Ev tt 188 53 [some (.ref m), some (.int (Int32.ofNat f)), none, none, some (.int (tkv (chL bs om j)))] [] k (am_pV (fun k => mg m ad Xly Yz h k ∧ ly f ad h k ∧ FRo ad f (mkF nc ks ds bs) k) no_x) := by
    intro d
    induction d with
    | zero =>
      intro j k ej g lk e33 e59 e34 e37 e356
      have : j = nc := by omega
      subst this
      rw [gk.2, tkv, if_pos rfl]
      refine vc_188_53 tt _ _ _ _ _ _ ⟨fun _ => ?_, fun z => absurd rfl z⟩
      refine ⟨g, lk, ?_⟩
      unfold FRo mkF
      rw [eom]
      exact ⟨e33, e34, e37, e59, e356⟩
    | succ d ih =>
      intro j k ej g lk e33 e59 e34 e37 e356
      have sk := g.1.md sm
      have dj := ad_ne sk
      have kk := sk.1
      have cj := (chv j (by omega)).1
      generalize ec : chL bs om j = c at *
      have c3 : c < 3 := by omega
      rw [tkv, if_neg (by omega)]
      obtain ⟨a1, a2, a3⟩ := md_r sk (k := 34) (by decide) rfl (by decide)
      obtain ⟨b1, b2, b3⟩ := md_r sk (k := 35) (by decide) rfl (by decide)
      obtain ⟨c1, c2, c3'⟩ := md_r sk (k := 36) (by decide) rfl (by decide)
      obtain ⟨d1, d2, d3⟩ := md_r sk (k := 37) (by decide) rfl (by decide)
      obtain ⟨f1, f2, f3⟩ := md_r sk (k := 52) (by decide) rfl (by decide)
      obtain ⟨g1, g2, g3⟩ := md_r sk (k := 56) (by decide) rfl (by decide)
      obtain ⟨i1, i2, i3⟩ := md_r sk (k := 57) (by decide) rfl (by decide)
      have e52 : am_A k (ad 52) c = ks c := by rw [(g.2.1 52 (by omega)).1]; exact (hk c (by omega)).1
      have e56 : ks c = Int32.ofNat 1 → am_A k (ad 56) c + Int32.ofNat 1 = ds c := by rw [(g.2.1 56 (by omega)).1]; exact (hk c (by omega)).2
      have e57 : am_A k (ad 57) c = tkv (chL bs om (j + 1)) := by rw [(g.2.1 57 (by omega)).1, chL, ec]; exact br.1 c c3
      have i18 : 3 * f + j < 18 := by omega
      generalize eD : (if ks c = Int32.ofNat 1 then ds c else Int32.ofNat 0) = D
      have nx : ∀ v : Bool, v = decide (∀ i, i < j + 1 → ¬ ks (chL bs om i) = -1) → am_Ev tt 188 90 [some (.ref m), some (.int (Int32.ofNat f)), none, none, some (.int (Int32.ofNat c))] [] (am_sA k (ad 34) f (b01 v)) (am_pV (fun k => mg m ad Xly Yz h k ∧ ly f ad h k ∧ FRo ad f (mkF nc ks ds bs) k) no_x) := by
        intro v ev
        have s1 : mg m ad Xly Yz k (am_sA k (ad 34) f (b01 v)) := mg.sA sk (by omega)
        have s2 : mg m ad Xly Yz (am_sA k (ad 34) f (b01 v)) (am_sA (am_sA k (ad 34) f (b01 v)) (ad 35) (3 * f + j) (ks c)) := mg.sA (s1.1.md sk) (by omega)
        have s3 : mg m ad Xly Yz (am_sA (am_sA k (ad 34) f (b01 v)) (ad 35) (3 * f + j) (ks c)) (am_sA (am_sA (am_sA k (ad 34) f (b01 v)) (ad 35) (3 * f + j) (ks c)) (ad 36) (3 * f + j) D) := mg.sA (s2.1.md (s1.1.md sk)) (by omega)
        have s4 : mg m ad Xly Yz (am_sA (am_sA (am_sA k (ad 34) f (b01 v)) (ad 35) (3 * f + j) (ks c)) (ad 36) (3 * f + j) D) (am_sA (am_sA (am_sA (am_sA k (ad 34) f (b01 v)) (ad 35) (3 * f + j) (ks c)) (ad 36) (3 * f + j) D) (ad 37) f (Int32.ofNat (j + 1))) := mg.sA (s3.1.md (s2.1.md (s1.1.md sk))) (by omega)
        have l151 : am_Ev tt 188 151 [some (.ref m), some (.int (Int32.ofNat f)), none, none, some (.int (Int32.ofNat c))] [] (am_sA (am_sA (am_sA k (ad 34) f (b01 v)) (ad 35) (3 * f + j) (ks c)) (ad 36) (3 * f + j) D) (am_pV (fun k => mg m ad Xly Yz h k ∧ ly f ad h k ∧ FRo ad f (mkF nc ks ds bs) k) no_x) := by
          refine vc_188_151 tt _ _ _ _ _ _ ?_
          simp (disch := omega) only [kk, d1, d2, d3, i1, i2, i3, dj, e37, e57, c3, hf, am_hs, qi_lt, qi_le, qi_eq, qi_nn, qi_in, qi_add, qi_l, ql_i, ql_lt, ql_le, ql_eq, ql_add, qc_lt, qc_eq, qc_ge, qc_gt, qc_le, true_and, and_true, and_self, true_or, or_true, false_or, or_false, false_and, and_false, not_true_eq_false, not_false_eq_true, Classical.not_not, true_implies, false_implies, implies_true, exists_eq_left, exists_eq_left', Option.some.injEq, reduceIte, Nat.reduceEqDiff, Nat.reduceLT, Nat.reduceLeDiff, Nat.reduceAdd, Nat.reduceSub, Nat.reduceMul, eq_self, ne_eq, and_imp, forall_const, reduceCtorEq, am_w, List.map_cons, List.map_nil, List.sum_cons, List.sum_nil, Value.category, Nat.zero_le, Nat.le_refl]
          refine ih (j + 1) _ (by omega) (g.tr (s1.tr (s2.tr (s3.tr s4)))) ?_ ?_ ?_ ?_ ?_ ?_
          · intro r j' z
            have := lk r j' z
            rcases z with ⟨z1, z2⟩ | ⟨z1, z2⟩
            · have q35 : ¬ r = 35 := by omega
              have q36 : ¬ r = 36 := by omega
              simp (disch := omega) only [am_hs, dj, z2, q35, q36, true_and, and_true, and_self, true_or, or_true, false_or, or_false, false_and, and_false, not_true_eq_false, not_false_eq_true, Classical.not_not, true_implies, false_implies, implies_true, exists_eq_left, exists_eq_left', Option.some.injEq, reduceIte, Nat.reduceEqDiff, Nat.reduceLT, Nat.reduceLeDiff, Nat.reduceAdd, Nat.reduceSub, Nat.reduceMul, eq_self, ne_eq, and_imp, forall_const, reduceCtorEq, am_w, List.map_cons, List.map_nil, List.sum_cons, List.sum_nil, Value.category, Nat.zero_le, Nat.le_refl]
              exact this
            · have q34 : ¬ r = 34 := by omega
              have q37 : ¬ r = 37 := by omega
              have qj : ¬ j' = 3 * f + j := by omega
              simp (disch := omega) only [am_hs, dj, qj, q34, q37, true_and, and_true, and_self, true_or, or_true, false_or, or_false, false_and, and_false, not_true_eq_false, not_false_eq_true, Classical.not_not, true_implies, false_implies, implies_true, exists_eq_left, exists_eq_left', Option.some.injEq, reduceIte, Nat.reduceEqDiff, Nat.reduceLT, Nat.reduceLeDiff, Nat.reduceAdd, Nat.reduceSub, Nat.reduceMul, eq_self, ne_eq, and_imp, forall_const, reduceCtorEq, am_w, List.map_cons, List.map_nil, List.sum_cons, List.sum_nil, Value.category, Nat.zero_le, Nat.le_refl]
              exact this
          · simp (disch := omega) only [am_hs, dj, true_and, and_true, and_self, true_or, or_true, false_or, or_false, false_and, and_false, not_true_eq_false, not_false_eq_true, Classical.not_not, true_implies, false_implies, implies_true, exists_eq_left, exists_eq_left', Option.some.injEq, reduceIte, Nat.reduceEqDiff, Nat.reduceLT, Nat.reduceLeDiff, Nat.reduceAdd, Nat.reduceSub, Nat.reduceMul, eq_self, ne_eq, and_imp, forall_const, reduceCtorEq, am_w, List.map_cons, List.map_nil, List.sum_cons, List.sum_nil, Value.category, Nat.zero_le, Nat.le_refl]; exact e33
          · simp (disch := omega) only [am_hs, dj, true_and, and_true, and_self, true_or, or_true, false_or, or_false, false_and, and_false, not_true_eq_false, not_false_eq_true, Classical.not_not, true_implies, false_implies, implies_true, exists_eq_left, exists_eq_left', Option.some.injEq, reduceIte, Nat.reduceEqDiff, Nat.reduceLT, Nat.reduceLeDiff, Nat.reduceAdd, Nat.reduceSub, Nat.reduceMul, eq_self, ne_eq, and_imp, forall_const, reduceCtorEq, am_w, List.map_cons, List.map_nil, List.sum_cons, List.sum_nil, Value.category, Nat.zero_le, Nat.le_refl]; exact e59
          · simp (disch := omega) only [am_hs, dj, true_and, and_true, and_self, true_or, or_true, false_or, or_false, false_and, and_false, not_true_eq_false, not_false_eq_true, Classical.not_not, true_implies, false_implies, implies_true, exists_eq_left, exists_eq_left', Option.some.injEq, reduceIte, Nat.reduceEqDiff, Nat.reduceLT, Nat.reduceLeDiff, Nat.reduceAdd, Nat.reduceSub, Nat.reduceMul, eq_self, ne_eq, and_imp, forall_const, reduceCtorEq, am_w, List.map_cons, List.map_nil, List.sum_cons, List.sum_nil, Value.category, Nat.zero_le, Nat.le_refl]; rw [ev]
          · simp (disch := omega) only [am_hs, dj, true_and, and_true, and_self, true_or, or_true, false_or, or_false, false_and, and_false, not_true_eq_false, not_false_eq_true, Classical.not_not, true_implies, false_implies, implies_true, exists_eq_left, exists_eq_left', Option.some.injEq, reduceIte, Nat.reduceEqDiff, Nat.reduceLT, Nat.reduceLeDiff, Nat.reduceAdd, Nat.reduceSub, Nat.reduceMul, eq_self, ne_eq, and_imp, forall_const, reduceCtorEq, am_w, List.map_cons, List.map_nil, List.sum_cons, List.sum_nil, Value.category, Nat.zero_le, Nat.le_refl]
          · intro i hi
            by_cases ci : i = j
            · subst ci
              simp (disch := omega) only [am_hs, dj, ec, true_and, and_true, and_self, true_or, or_true, false_or, or_false, false_and, and_false, not_true_eq_false, not_false_eq_true, Classical.not_not, true_implies, false_implies, implies_true, exists_eq_left, exists_eq_left', Option.some.injEq, reduceIte, Nat.reduceEqDiff, Nat.reduceLT, Nat.reduceLeDiff, Nat.reduceAdd, Nat.reduceSub, Nat.reduceMul, eq_self, ne_eq, and_imp, forall_const, reduceCtorEq, am_w, List.map_cons, List.map_nil, List.sum_cons, List.sum_nil, Value.category, Nat.zero_le, Nat.le_refl]
              exact eD.symm
            · have q1 : ¬ 3 * f + i = 3 * f + j := by omega
              simp (disch := omega) only [am_hs, dj, q1, true_and, and_true, and_self, true_or, or_true, false_or, or_false, false_and, and_false, not_true_eq_false, not_false_eq_true, Classical.not_not, true_implies, false_implies, implies_true, exists_eq_left, exists_eq_left', Option.some.injEq, reduceIte, Nat.reduceEqDiff, Nat.reduceLT, Nat.reduceLeDiff, Nat.reduceAdd, Nat.reduceSub, Nat.reduceMul, eq_self, ne_eq, and_imp, forall_const, reduceCtorEq, am_w, List.map_cons, List.map_nil, List.sum_cons, List.sum_nil, Value.category, Nat.zero_le, Nat.le_refl]
              exact e356 i (by omega)
        refine vc_188_90 tt _ _ _ _ _ _ ?_
        simp (disch := omega) only [kk, b1, b2, b3, d1, d2, d3, f1, f2, f3, dj, e37, e52, c3, hf, i18, am_hs, qi_mul, qi_lt, qi_le, qi_eq, qi_nn, qi_in, qi_add, qi_l, ql_i, ql_lt, ql_le, ql_eq, ql_add, qc_lt, qc_eq, qc_ge, qc_gt, qc_le, true_and, and_true, and_self, true_or, or_true, false_or, or_false, false_and, and_false, not_true_eq_false, not_false_eq_true, Classical.not_not, true_implies, false_implies, implies_true, exists_eq_left, exists_eq_left', Option.some.injEq, reduceIte, Nat.reduceEqDiff, Nat.reduceLT, Nat.reduceLeDiff, Nat.reduceAdd, Nat.reduceSub, Nat.reduceMul, eq_self, ne_eq, and_imp, forall_const, reduceCtorEq, am_w, List.map_cons, List.map_nil, List.sum_cons, List.sum_nil, Value.category, Nat.zero_le, Nat.le_refl]
        refine vc_188_112 tt _ _ _ _ _ _ ?_
        simp (disch := omega) only [kk, c1, c2, c3', d1, d2, d3, f1, f2, f3, g1, g2, g3, dj, e37, e52, c3, hf, i18, am_hs, qi_mul, qi_lt, qi_le, qi_eq, qi_nn, qi_in, qi_add, qi_l, ql_i, ql_lt, ql_le, ql_eq, ql_add, qc_lt, qc_eq, qc_ge, qc_gt, qc_le, true_and, and_true, and_self, true_or, or_true, false_or, or_false, false_and, and_false, not_true_eq_false, not_false_eq_true, Classical.not_not, true_implies, false_implies, implies_true, exists_eq_left, exists_eq_left', Option.some.injEq, reduceIte, Nat.reduceEqDiff, Nat.reduceLT, Nat.reduceLeDiff, Nat.reduceAdd, Nat.reduceSub, Nat.reduceMul, eq_self, ne_eq, and_imp, forall_const, reduceCtorEq, am_w, List.map_cons, List.map_nil, List.sum_cons, List.sum_nil, Value.category, Nat.zero_le, Nat.le_refl]
        refine ⟨fun z => ?_, fun z => ?_⟩
        · rw [show Int32.ofNat 0 = D from by rw [← eD, if_neg z]]
          exact l151
        · rw [show am_A k (ad 56) c + Int32.ofNat 1 = D from by rw [← eD, if_pos z]; exact e56 z]
          exact l151
      have al : (∀ i, i < j + 1 → ¬ ks (chL bs om i) = -1) ↔ (∀ i, i < j → ¬ ks (chL bs om i) = -1) ∧ ¬ ks c = -1 := by
        refine ⟨fun z => ⟨fun i hi => z i (by omega), by rw [← ec]; exact z j (by omega)⟩, fun z i hi => ?_⟩
        by_cases ci : i = j
        · rw [ci, ec]; exact z.2
        · exact z.1 i (by omega)
      have nm : ¬ Int32.ofNat c = -1 := by rw [qi_m1 (by omega)]; exact id
      refine vc_188_53 tt _ _ _ _ _ _ ?_
      simp (disch := omega) only [kk, a1, a2, a3, f1, f2, f3, e34, e52, c3, hf, nm, z_1, o_1, qi_lt, qi_le, qi_eq, qi_nn, qi_in, qi_add, qi_l, ql_i, ql_lt, ql_le, ql_eq, ql_add, qc_lt, qc_eq, qc_ge, qc_gt, qc_le, true_and, and_true, and_self, true_or, or_true, false_or, or_false, false_and, and_false, not_true_eq_false, not_false_eq_true, Classical.not_not, true_implies, false_implies, implies_true, exists_eq_left, exists_eq_left', Option.some.injEq, reduceIte, Nat.reduceEqDiff, Nat.reduceLT, Nat.reduceLeDiff, Nat.reduceAdd, Nat.reduceSub, Nat.reduceMul, eq_self, ne_eq, and_imp, forall_const, reduceCtorEq, am_w, List.map_cons, List.map_nil, List.sum_cons, List.sum_nil, Value.category, Nat.zero_le, Nat.le_refl]
      refine ⟨fun z => ?_, fun z => ⟨fun z2 => ?_, fun z2 => ?_⟩⟩
      · refine nx false ?_
        symm
        apply decide_eq_false
        intro w
        rw [al] at w
        rw [decide_eq_true w.1] at z
        exact absurd z (by decide)
      · refine nx false ?_
        symm
        apply decide_eq_false
        intro w
        rw [al] at w
        exact w.2 z2
      · refine nx true ?_
        symm
        apply decide_eq_true
        rw [al]
        refine ⟨?_, z2⟩
        by_cases w : ∀ i, i < j → ¬ ks (chL bs om i) = -1
        · exact w
        · rw [decide_eq_false w] at z
          exact absurd rfl z
  have k1 := sm.1
  have dj := ad_ne sm
  obtain ⟨a1, a2, a3⟩ := md_r sm (k := 58) (by decide) rfl (by decide)
  obtain ⟨b1, b2, b3⟩ := md_r sm (k := 59) (by decide) rfl (by decide)
  obtain ⟨c1, c2, c3⟩ := md_r sm (k := 33) (by decide) rfl (by decide)
  obtain ⟨d1, d2, d3⟩ := md_r sm (k := 34) (by decide) rfl (by decide)
  obtain ⟨f1, f2, f3⟩ := md_r sm (k := 37) (by decide) rfl (by decide)
  have l22 : am_Ev tt 188 22 [some (.ref m), some (.int (Int32.ofNat f)), some (.int (Int32.ofNat nc)), some (.int (Int32.ofNat om)), none] [] h (am_pV (fun k => mg m ad Xly Yz h k ∧ ly f ad h k ∧ FRo ad f (mkF nc ks ds bs) k) no_x) := by
    refine vc_188_22 tt _ _ _ _ _ _ _ ?_
    simp (disch := omega) only [k1, b1, b2, b3, c1, c2, c3, d1, d2, d3, f1, f2, f3, hf, o_1, am_hs, qi_lt, qi_le, qi_eq, qi_nn, qi_in, qi_add, qi_l, ql_i, ql_lt, ql_le, ql_eq, ql_add, qc_lt, qc_eq, qc_ge, qc_gt, qc_le, true_and, and_true, and_self, true_or, or_true, false_or, or_false, false_and, and_false, not_true_eq_false, not_false_eq_true, Classical.not_not, true_implies, false_implies, implies_true, exists_eq_left, exists_eq_left', Option.some.injEq, reduceIte, Nat.reduceEqDiff, Nat.reduceLT, Nat.reduceLeDiff, Nat.reduceAdd, Nat.reduceSub, Nat.reduceMul, eq_self, ne_eq, and_imp, forall_const, reduceCtorEq, am_w, List.map_cons, List.map_nil, List.sum_cons, List.sum_nil, Value.category, Nat.zero_le, Nat.le_refl]
    have s1 : mg m ad Xly Yz h (am_sA h (ad 59) f (Int32.ofNat om)) := mg.sA sm (by omega)
    have s2 : mg m ad Xly Yz (am_sA h (ad 59) f (Int32.ofNat om)) (am_sA (am_sA h (ad 59) f (Int32.ofNat om)) (ad 33) f (Int32.ofNat nc)) := mg.sA (s1.1.md sm) (by omega)
    have s3 : mg m ad Xly Yz (am_sA (am_sA h (ad 59) f (Int32.ofNat om)) (ad 33) f (Int32.ofNat nc)) (am_sA (am_sA (am_sA h (ad 59) f (Int32.ofNat om)) (ad 33) f (Int32.ofNat nc)) (ad 34) f (Int32.ofNat 1)) := mg.sA (s2.1.md (s1.1.md sm)) (by omega)
    have s4 : mg m ad Xly Yz (am_sA (am_sA (am_sA h (ad 59) f (Int32.ofNat om)) (ad 33) f (Int32.ofNat nc)) (ad 34) f (Int32.ofNat 1)) (am_sA (am_sA (am_sA (am_sA h (ad 59) f (Int32.ofNat om)) (ad 33) f (Int32.ofNat nc)) (ad 34) f (Int32.ofNat 1)) (ad 37) f (Int32.ofNat 0)) := mg.sA (s3.1.md (s2.1.md (s1.1.md sm))) (by omega)
    have := key nc 0 _ (by omega) (s1.tr (s2.tr (s3.tr s4))) (by
      intro r j z
      rcases z with ⟨z1, z2⟩ | ⟨z1, z2⟩
      · simp (disch := omega) only [am_hs, z2, true_and, and_true, and_self, true_or, or_true, false_or, or_false, false_and, and_false, not_true_eq_false, not_false_eq_true, Classical.not_not, true_implies, false_implies, implies_true, exists_eq_left, exists_eq_left', Option.some.injEq, reduceIte, Nat.reduceEqDiff, Nat.reduceLT, Nat.reduceLeDiff, Nat.reduceAdd, Nat.reduceSub, Nat.reduceMul, eq_self, ne_eq, and_imp, forall_const, reduceCtorEq, am_w, List.map_cons, List.map_nil, List.sum_cons, List.sum_nil, Value.category, Nat.zero_le, Nat.le_refl]
      · have q33 : ¬ r = 33 := by omega
        have q34 : ¬ r = 34 := by omega
        have q37 : ¬ r = 37 := by omega
        have q59 : ¬ r = 59 := by omega
        simp (disch := omega) only [am_hs, dj, q33, q34, q37, q59, true_and, and_true, and_self, true_or, or_true, false_or, or_false, false_and, and_false, not_true_eq_false, not_false_eq_true, Classical.not_not, true_implies, false_implies, implies_true, exists_eq_left, exists_eq_left', Option.some.injEq, reduceIte, Nat.reduceEqDiff, Nat.reduceLT, Nat.reduceLeDiff, Nat.reduceAdd, Nat.reduceSub, Nat.reduceMul, eq_self, ne_eq, and_imp, forall_const, reduceCtorEq, am_w, List.map_cons, List.map_nil, List.sum_cons, List.sum_nil, Value.category, Nat.zero_le, Nat.le_refl]) (by simp (disch := omega) only [am_hs, dj, true_and, and_true, and_self, true_or, or_true, false_or, or_false, false_and, and_false, not_true_eq_false, not_false_eq_true, Classical.not_not, true_implies, false_implies, implies_true, exists_eq_left, exists_eq_left', Option.some.injEq, reduceIte, Nat.reduceEqDiff, Nat.reduceLT, Nat.reduceLeDiff, Nat.reduceAdd, Nat.reduceSub, Nat.reduceMul, eq_self, ne_eq, and_imp, forall_const, reduceCtorEq, am_w, List.map_cons, List.map_nil, List.sum_cons, List.sum_nil, Value.category, Nat.zero_le, Nat.le_refl]) (by simp (disch := omega) only [am_hs, dj, true_and, and_true, and_self, true_or, or_true, false_or, or_false, false_and, and_false, not_true_eq_false, not_false_eq_true, Classical.not_not, true_implies, false_implies, implies_true, exists_eq_left, exists_eq_left', Option.some.injEq, reduceIte, Nat.reduceEqDiff, Nat.reduceLT, Nat.reduceLeDiff, Nat.reduceAdd, Nat.reduceSub, Nat.reduceMul, eq_self, ne_eq, and_imp, forall_const, reduceCtorEq, am_w, List.map_cons, List.map_nil, List.sum_cons, List.sum_nil, Value.category, Nat.zero_le, Nat.le_refl]) (by
      simp (disch := omega) only [am_hs, dj, true_and, and_true, and_self, true_or, or_true, false_or, or_false, false_and, and_false, not_true_eq_false, not_false_eq_true, Classical.not_not, true_implies, false_implies, implies_true, exists_eq_left, exists_eq_left', Option.some.injEq, reduceIte, Nat.reduceEqDiff, Nat.reduceLT, Nat.reduceLeDiff, Nat.reduceAdd, Nat.reduceSub, Nat.reduceMul, eq_self, ne_eq, and_imp, forall_const, reduceCtorEq, am_w, List.map_cons, List.map_nil, List.sum_cons, List.sum_nil, Value.category, Nat.zero_le, Nat.le_refl]
      rw [decide_eq_true (fun i hi => absurd hi (by omega))]; rfl) (by simp (disch := omega) only [am_hs, dj, true_and, and_true, and_self, true_or, or_true, false_or, or_false, false_and, and_false, not_true_eq_false, not_false_eq_true, Classical.not_not, true_implies, false_implies, implies_true, exists_eq_left, exists_eq_left', Option.some.injEq, reduceIte, Nat.reduceEqDiff, Nat.reduceLT, Nat.reduceLeDiff, Nat.reduceAdd, Nat.reduceSub, Nat.reduceMul, eq_self, ne_eq, and_imp, forall_const, reduceCtorEq, am_w, List.map_cons, List.map_nil, List.sum_cons, List.sum_nil, Value.category, Nat.zero_le, Nat.le_refl]) (fun i hi => absurd hi (by omega))
    rw [chL, show tkv om = Int32.ofNat om from by rw [tkv, if_neg (by omega)]] at this
    exact this
  have l2e : ∀ c, c < 3 → gvL bs c = 3 → om = c → am_Ev tt 188 2 [some (.ref m), some (.int (Int32.ofNat f)), some (.int (Int32.ofNat nc)), some (.int (Int32.ofNat c)), none] [] h (am_pV (fun k => mg m ad Xly Yz h k ∧ ly f ad h k ∧ FRo ad f (mkF nc ks ds bs) k) no_x) := by
    intro c hc e eo
    subst eo
    have ev := br.2 om hc
    rw [e, tkv, if_pos rfl] at ev
    refine vc_188_2 tt _ _ _ _ _ _ _ ?_
    simp (disch := omega) only [k1, a1, a2, a3, hc, ev, qi_lt, qi_le, qi_eq, qi_nn, qi_in, qi_add, qi_l, ql_i, ql_lt, ql_le, ql_eq, ql_add, qc_lt, qc_eq, qc_ge, qc_gt, qc_le, true_and, and_true, and_self, true_or, or_true, false_or, or_false, false_and, and_false, not_true_eq_false, not_false_eq_true, Classical.not_not, true_implies, false_implies, implies_true, exists_eq_left, exists_eq_left', Option.some.injEq, reduceIte, Nat.reduceEqDiff, Nat.reduceLT, Nat.reduceLeDiff, Nat.reduceAdd, Nat.reduceSub, Nat.reduceMul, eq_self, ne_eq, and_imp, forall_const, reduceCtorEq, am_w, List.map_cons, List.map_nil, List.sum_cons, List.sum_nil, Value.category, Nat.zero_le, Nat.le_refl]
    exact l22
  have l2s : ∀ c, c < 3 → gvL bs c < 3 → am_Ev tt 188 2 [some (.ref m), some (.int (Int32.ofNat f)), some (.int (Int32.ofNat nc)), some (.int (Int32.ofNat (gvL bs c))), none] [] h (am_pV (fun k => mg m ad Xly Yz h k ∧ ly f ad h k ∧ FRo ad f (mkF nc ks ds bs) k) no_x) → am_Ev tt 188 2 [some (.ref m), some (.int (Int32.ofNat f)), some (.int (Int32.ofNat nc)), some (.int (Int32.ofNat c)), none] [] h (am_pV (fun k => mg m ad Xly Yz h k ∧ ly f ad h k ∧ FRo ad f (mkF nc ks ds bs) k) no_x) := by
    intro c hc e nx
    have ev := br.2 c hc
    rw [tkv, if_neg (by omega)] at ev
    have nm : ¬ Int32.ofNat (gvL bs c) = -1 := by rw [qi_m1 (by omega)]; exact id
    refine vc_188_2 tt _ _ _ _ _ _ _ ?_
    simp (disch := omega) only [k1, a1, a2, a3, hc, ev, nm, qi_lt, qi_le, qi_eq, qi_nn, qi_in, qi_add, qi_l, ql_i, ql_lt, ql_le, ql_eq, ql_add, qc_lt, qc_eq, qc_ge, qc_gt, qc_le, true_and, and_true, and_self, true_or, or_true, false_or, or_false, false_and, and_false, not_true_eq_false, not_false_eq_true, Classical.not_not, true_implies, false_implies, implies_true, exists_eq_left, exists_eq_left', Option.some.injEq, reduceIte, Nat.reduceEqDiff, Nat.reduceLT, Nat.reduceLeDiff, Nat.reduceAdd, Nat.reduceSub, Nat.reduceMul, eq_self, ne_eq, and_imp, forall_const, reduceCtorEq, am_w, List.map_cons, List.map_nil, List.sum_cons, List.sum_nil, Value.category, Nat.zero_le, Nat.le_refl]
    exact nx
  have g := gk.1
  rw [gz, eom] at g
  simp only [Bool.or_eq_true, Bool.and_eq_true, decide_eq_true_iff] at g
  refine vc_188_0 tt _ _ _ h _ _ ?_
  rcases g with ⟨g1, g2⟩ | ⟨g1, g2, g3⟩ | ⟨g1, g2, g3, g4⟩
  · exact l2e 0 (by omega) g1 g2
  · exact l2s 0 (by omega) g1 (l2e _ g1 g2 g3)
  · exact l2s 0 (by omega) g1 (l2s _ g1 g2 (l2e _ g2 g3 g4))
end MLY
