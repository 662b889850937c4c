/-! deps: 21a -/
/-! ===== the reference reads ===== -/
/-! 200 yX10_read -/
theorem vc_200_0 (tt : Nat → Nat) (a0 : Nat) (h : am_H) (Q : Int32 → am_H → Prop) (Qx : String → am_H → Prop) (q :
  (am_K h a0 = 11 ∧
  (am_K h a0 = 11 ∧
  (am_K h a0 = 11 ∧
  (am_K h a0 = 11 ∧
  (am_K h a0 = 11 ∧
  (am_K h a0 = 11 ∧ ∃ (Q2 : am_H → Prop) (X2 : String → am_H → Prop), am_Ct tt 199 [.ref a0] (am_sI (am_sI (am_sI (am_sI (am_sI h 10 0 a0 (Int32.ofNat 0)) 10 20 a0 (Int32.ofNat 0)) 10 41 a0 (Int32.ofNat 0)) 10 29 a0 (Int32.ofNat 0)) 10 30 a0 (Int32.ofNat 0)) (am_pV Q2 X2) ∧ (∀ h1, Q2 h1 →
   am_Ev tt 200 29 [some (.ref a0), none] [] h1 (am_pI Q Qx)) ∧ (∀ E3 h1, X2 E3 h1 → Qx E3 h1)))))))) :
  am_Ev tt 200 0 [some (.ref a0), none] [] h (am_pI Q Qx) := am_vc 20 [(29, [true, false]), (77, [true, false]), (114, [true, false])] q
theorem vc_200_29 (tt : Nat → Nat) (a0 : Nat) (h : am_H) (Q : Int32 → am_H → Prop) (Qx : String → am_H → Prop) (q :
  (am_K h a0 = 11 ∧ ∃ (Q2 : Int32 → am_H → Prop) (X2 : String → am_H → Prop), am_Ct tt 176 [.ref a0] h (am_pI Q2 X2) ∧ (∀ x3 h1, Q2 x3 h1 →
   ((x3 = (Int32.ofNat 0) →
    am_Ev tt 200 114 [some (.ref a0), none] [] h1 (am_pI Q Qx)) ∧
   (¬ (x3 = (Int32.ofNat 0)) →
    (am_K h1 a0 = 11 ∧
    (((am_I h1 10 19 a0) ≤ (Int32.ofNat 32) →
     am_Ev tt 200 114 [some (.ref a0), none] [] h1 (am_pI Q Qx)) ∧
    (¬ ((am_I h1 10 19 a0) ≤ (Int32.ofNat 32)) →
     (am_K h1 a0 = 11 ∧ ∃ (Q5 : Int64 → am_H → Prop) (X5 : String → am_H → Prop), am_Ct tt 153 [.ref a0, .int (Int32.ofNat 12), .int (Int32.ofNat 8)] h1 (am_pL Q5 X5) ∧ (∀ x6 h4, Q5 x6 h4 →
      (am_K h4 a0 = 11 ∧
      (am_K h4 a0 = 11 ∧ ∃ (Q8 : am_H → Prop) (X8 : String → am_H → Prop), am_Ct tt 180 [.ref a0, .int (Int32.ofNat 1)] (am_sI h4 10 27 a0 ((Int32.ofNat 32) + (x6).toInt32)) (am_pV Q8 X8) ∧ (∀ h7, Q8 h7 →
       (((x6).toInt32 ≤ (Int32.ofNat 0) →
        am_Ev tt 200 77 [some (.ref a0), none] [] h7 (am_pI Q Qx)) ∧
       (¬ ((x6).toInt32 ≤ (Int32.ofNat 0)) →
        (am_K h7 a0 = 11 ∧ ∃ (Q10 : am_H → Prop) (X10 : String → am_H → Prop), am_Ct tt 189 [.ref a0, .int (x6).toInt32] h7 (am_pV Q10 X10) ∧ (∀ h9, Q10 h9 →
         am_Ev tt 200 77 [some (.ref a0), none] [] h9 (am_pI Q Qx)) ∧ (∀ E11 h9, X10 E11 h9 → Qx E11 h9))))) ∧ (∀ E12 h7, X8 E12 h7 → Qx E12 h7)))) ∧ (∀ E13 h4, X5 E13 h4 → Qx E13 h4)))))))) ∧ (∀ E14 h1, X2 E14 h1 → Qx E14 h1))) :
  am_Ev tt 200 29 [some (.ref a0), none] [] h (am_pI Q Qx) := am_vc 29 [(29, [true, false]), (77, [true, false]), (114, [true, false])] q
theorem vc_200_77 (tt : Nat → Nat) (a0 : Nat) (h : am_H) (Q : Int32 → am_H → Prop) (Qx : String → am_H → Prop) (q :
  (am_K h a0 = 11 ∧ ∃ (Q2 : am_H → Prop) (X2 : String → am_H → Prop), am_Ct tt 198 [.ref a0] h (am_pV Q2 X2) ∧ (∀ h1, Q2 h1 →
   (am_K h1 a0 = 11 ∧ ∃ (Q4 : am_H → Prop) (X4 : String → am_H → Prop), am_Ct tt 180 [.ref a0, .int (Int32.ofNat 0)] h1 (am_pV Q4 X4) ∧ (∀ h3, Q4 h3 →
    (am_K h3 a0 = 11 ∧ ∃ (Q6 : Int32 → am_H → Prop) (X6 : String → am_H → Prop), am_Ct tt 176 [.ref a0] h3 (am_pI Q6 X6) ∧ (∀ x7 h5, Q6 x7 h5 →
     ((x7 = (Int32.ofNat 0) →
      am_Ev tt 200 114 [some (.ref a0), none] [] h5 (am_pI Q Qx)) ∧
     (¬ (x7 = (Int32.ofNat 0)) →
      (am_K h5 a0 = 11 ∧
      (am_K h5 a0 = 11 ∧
      (((am_I h5 10 19 a0) ≤ (am_I h5 10 27 a0) →
       am_Ev tt 200 114 [some (.ref a0), none] [] h5 (am_pI Q Qx)) ∧
      (¬ ((am_I h5 10 19 a0) ≤ (am_I h5 10 27 a0)) →
       (am_K h5 a0 = 11 ∧
       (am_K h5 a0 = 11 ∧ ∃ (Q9 : am_H → Prop) (X9 : String → am_H → Prop), am_Ct tt 177 [.ref a0, .int (Int32.ofNat 6), .int (am_I h5 10 27 a0)] h5 (am_pV Q9 X9) ∧ (∀ h8, Q9 h8 →
        am_Ev tt 200 114 [some (.ref a0), none] [] h8 (am_pI Q Qx)) ∧ (∀ E10 h8, X9 E10 h8 → Qx E10 h8)))))))))) ∧ (∀ E11 h5, X6 E11 h5 → Qx E11 h5))) ∧ (∀ E12 h3, X4 E12 h3 → Qx E12 h3))) ∧ (∀ E13 h1, X2 E13 h1 → Qx E13 h1))) :
  am_Ev tt 200 77 [some (.ref a0), none] [] h (am_pI Q Qx) := am_vc 21 [(29, [true, false]), (77, [true, false]), (114, [true, false])] q
theorem vc_200_114 (tt : Nat → Nat) (a0 : Nat) (h : am_H) (Q : Int32 → am_H → Prop) (Qx : String → am_H → Prop) (q :
  (am_K h a0 = 11 ∧ ∃ (Q2 : Int32 → am_H → Prop) (X2 : String → am_H → Prop), am_Ct tt 176 [.ref a0] h (am_pI Q2 X2) ∧ (∀ x3 h1, Q2 x3 h1 →
   ((¬ x3 = (Int32.ofNat 0) →
    (am_K h1 a0 = 11 ∧ ∃ (Q5 : am_H → Prop) (X5 : String → am_H → Prop), am_Ct tt 202 [.ref a0] h1 (am_pV Q5 X5) ∧ (∀ h4, Q5 h4 →
     (am_K h4 a0 = 11 ∧
     Q (am_I h4 10 1 a0) h4)) ∧ (∀ E6 h4, X5 E6 h4 → Qx E6 h4))) ∧
   (¬ (¬ x3 = (Int32.ofNat 0)) →
    (am_K h1 a0 = 11 ∧
    Q ((-10 : Int32) - (am_I h1 10 28 a0)) h1)))) ∧ (∀ E7 h1, X2 E7 h1 → Qx E7 h1))) :
  am_Ev tt 200 114 [some (.ref a0), none] [] h (am_pI Q Qx) := am_vc 10 [(29, [true, false]), (77, [true, false]), (114, [true, false])] q

def kR1 (F : Fn) (n : Nat) (st : ST) (p : Nat) : Except pe RD := bd (pER F n st.2.2.2.1.1 p) fun x p => bd (tX F n p 0) fun _ p => if p < n then .error (6, p) else .ok (st, x)
theorem pBY_k {F : Fn} {n off : Nat} : pBY F n off = bd (tX F n (32 + off) 1) fun _ p => bd (if 0 < off then pST F n off p else .ok (ST0, p)) fun st p => kR1 F n st p := by
  simp only [pBY, kR1, pER, bd_as, bd_o]
section MRE
variable {tt : Nat → Nat} {P : Nat → Prop} {F : Fn} {n m : Nat} {ad : Nat → Nat} {h h' h'' k k' : am_H} {S : sS} {s : Ms} {X Y X' Y' : Nat → Prop} {o : Option pe} {r : Except pe RD}
abbrev Xrd (l : Nat) : Prop := l = 26 ∨ (31 ≤ l ∧ l ≤ 60)
abbrev Yrd (f : Nat) : Prop := f = 0 ∨ f = 20 ∨ (27 ≤ f ∧ f ≤ 30) ∨ f = 41 ∨ f = 51 ∨ f = 61 ∨ f = 62
theorem MY.H (y : MY F n h m ad s) : HY F n h m ad (match s with | .ok _ => none | .error e => some e) := by
  obtain ⟨y1, y2, y3, y4, y5, y6⟩ := y
  cases s with
  | ok p => exact ⟨y1, y2, y3, y4, fun _ => y5.1, fun e z => by cases z⟩
  | error e => exact ⟨y1, y2, y3, y4, (fun z => by cases z), fun e' z => by cases z; exact y5⟩
theorem HY.M (y : HY F n h m ad none) {p : Nat} (h27 : am_I h 10 27 m = Int32.ofNat p) (hp : p ≤ n) : MY F n h m ad (.ok p) := by
  obtain ⟨y1, y2, y3, y4, y5, y6⟩ := y
  exact ⟨y1, y2, y3, y4, ⟨y5 rfl, h27⟩, fun q z => by cases z; exact hp⟩
theorem HY.on (y : HY F n h m ad o) (q : mg m ad X Y h h') (h18 : ¬ X 18) (h19 : ¬ Y 19) (h20 : ¬ Y 20) (h28 : ¬ Y 28) : HY F n h' m ad o := by
  obtain ⟨y1, y2, y3, y4, y5, y6⟩ := y
  exact ⟨q.1.md y1, by rw [(q.2.2 19 h19).1]; exact y2, y3, fun j hj => by rw [(q.2.1 18 h18).1]; exact y4 j hj, fun z => by rw [(q.2.2 20 h20).1]; exact y5 z, fun e z => by rw [(q.2.2 20 h20).1, (q.2.2 28 h28).1]; exact y6 e z⟩
/-- what is answered -/
def rdO (S : sS) (r : Except pe RD) : Int32 × sS := match r with
  | .error (f, pl) => ((-10 : Int32) - Int32.ofNat pl, (S.1, S.2.1, S.2.2.1, Int32.ofNat f))
  | .ok r => (Int32.ofNat r.2.1.1, (rdA S.2.2.1 r, S.2.1, S.2.2.1, Int32.ofNat 0))
def rdQ (P : Nat → Prop) (h : am_H) (m : Nat) (ad : Nat → Nat) (S : sS) (r : Except pe RD) (v : Int32) (k : am_H) : Prop := v = (rdO S r).1 ∧ okM P h m ad (rdO S r).2 k
theorem rd_114 (q : RM P h m ad S) (wf : wfS S) (y : HY S.2.2.1 S.2.1 k m ad o) (g : mg m ad Xrd Yrd h k) (hr : match o with | some e => r = .error e | none => ∃ rd, r = .ok rd ∧ RV S.2.1 rd ∧ RW S.2.2.1 rd ∧ stR m ad rd.1 k ∧ enR S.2.2.1 m ad rd.2 k) : am_Ev tt 200 114 [some (.ref m), none] [] k (am_pI (rdQ P h m ad S r) no_x) := by
  have kk := y.1.1
  refine vc_200_114 tt _ _ _ _ ⟨kk, _, _, ct_hfine y, fun z k1 e1 => ?_, fun _ _ z => z.elim⟩
  obtain ⟨rfl, rfl⟩ := e1
  cases o with
  | some e =>
    have hr : r = .error e := hr
    obtain ⟨f, pl⟩ := e
    obtain ⟨_, _, e20, e28⟩ := y.2.2.2.2.2 _ rfl
    refine ⟨fun z => absurd rfl z, fun _ => ⟨kk, ?_⟩⟩
    rw [e28, hr]
    refine ⟨rfl, RM.mk' (S' := (S.1, S.2.1, S.2.2.1, Int32.ofNat f)) q g.1 (by rw [(g.2.2 1 (by omega)).1]; exact q.2.1) (fun i hi => ?_) (fun b hb => ?_) y.2.1 y.2.2.2.1 e20⟩
    · obtain ⟨w1, w2, w3, w4⟩ := wf.1.2.1 i hi
      exact (q.2.2.1 i hi).same w2 w3 (fun t ht => by rw [(g.2.1 _ (by omega)).1]) (by rw [(g.2.1 _ (by omega)).2]) (fun j hj => by rw [(g.2.1 _ (by omega)).1]) (fun j hj => by rw [(g.2.1 _ (by omega)).1])
    · exact (q.2.2.2.1 b hb).same (wf.1.2.2.1 b hb).1 (by rw [(g.2.1 _ (by omega)).1]) (by rw [(g.2.1 _ (by omega)).1]) (fun j hj => by rw [(g.2.1 _ (by omega)).1]) (fun j hj => by rw [(g.2.1 _ (by omega)).1])
  | none =>
    obtain ⟨rd, er, rv, rw', hst, hen⟩ := hr
    refine ⟨fun _ => ⟨kk, _, _, ct_rstand y.1 rv rw' y.2.2.1 wf.2.2 y.2.2.2.1 hst hen, fun k2 w2 => ?_, fun _ _ z => z.elim⟩, fun z => absurd (show ¬ b01 true = Int32.ofNat 0 by decide) z⟩
    obtain ⟨g2, e1, hb, hE⟩ := w2
    refine ⟨(g2.1.md y.1).1, ?_⟩
    rw [er, e1]
    refine ⟨rfl, RM.mk' (S' := (rdA S.2.2.1 rd, S.2.1, S.2.2.1, Int32.ofNat 0)) q (g.1.tr g2.1) e1 hE hb ?_ (fun j hj => ?_) ?_⟩
    · rw [(g2.2.2 19 (by omega)).1]; exact y.2.1
    · rw [(g2.2.1 18 (by omega)).1]; exact y.2.2.2.1 j hj
    · rw [(g2.2.2 20 (by omega)).1]; exact y.2.2.2.2.1 rfl
theorem rd_77 (q : RM P h m ad S) (wf : wfS S) {st0 : ST} (y : MY S.2.2.1 S.2.1 k m ad s) (g : mg m ad Xrd Yrd h k) (hr : r = bs s (kR1 S.2.2.1 S.2.1 st0)) (hv : isOk s = true → stR m ad st0 k ∧ st0.2.2.2.1.1 ≤ 24) (hw : ∀ rd, r = .ok rd → RV S.2.1 rd ∧ RW S.2.2.1 rd) : am_Ev tt 200 77 [some (.ref m), none] [] k (am_pI (rdQ P h m ad S r) no_x) := by
  unfold kR1 at hr
  rw [bs_n ((0, fun _ => false, fun _ => false, fun _ => false), (fun _ => 0, fun _ => 0), fun _ => none, fun _ => none), bs_n ()] at hr
  refine vc_200_77 tt _ _ _ _ ⟨y.1.1, _, _, ct_rentryRows y (files := st0.2.2.2.1.1) (fun z => ⟨(hv z).2, (hv z).1.2.2.2.1⟩) rfl, fun k1 w1 => ⟨w1.1.1.1, _, _, ct_mneed w1.1 rfl, fun k2 w2 => ⟨w2.1.1.1, _, _, ct_mfine w2.1, fun z k3 e3 => ?_, fun _ _ z => z.elim⟩, fun _ _ z => z.elim⟩, fun _ _ z => z.elim⟩
  obtain ⟨rfl, rfl⟩ := e3
  obtain ⟨y1, g1, v1⟩ := w1
  obtain ⟨y2, g2⟩ := w2
  have g12 : mg m ad Xen Yen k k3 := g1.tr (g2.mo (fun _ z => z.elim) (fun _ z => by omega))
  have gg : mg m ad Xrd Yrd h k3 := g.tr (g12.mo (fun _ z => by omega) (fun _ z => by omega))
  have hv2 : ∀ p, st (bs (st (bs s (pER S.2.2.1 S.2.1 st0.2.2.2.1.1))) fun p => tX S.2.2.1 S.2.1 p 0) = .ok p → stR m ad st0 k3 ∧ enR S.2.2.1 m ad (vl (bs s (pER S.2.2.1 S.2.1 st0.2.2.2.1.1)) ((0, fun _ => false, fun _ => false, fun _ => false), (fun _ => 0, fun _ => 0), fun _ => none, fun _ => none)) k3 := by
    intro p z
    have o1 := ok_b (s := st (bs s (pER S.2.2.1 S.2.1 st0.2.2.2.1.1))) (a := fun p => tX S.2.2.1 S.2.1 p 0) (by rw [z]; rfl)
    obtain ⟨p', e⟩ := ok_v ((0, fun _ => false, fun _ => false, fun _ => false), (fun _ => 0, fun _ => 0), fun _ => none, fun _ => none) o1
    exact ⟨((hv (ok_b o1)).1.mo g12 (fun r _ _ => by omega) (by omega) (by omega)), (v1 _ p' e).mo g2 (fun _ _ _ z => z) (by omega)⟩
  generalize st (bs (st (bs s (pER S.2.2.1 S.2.1 st0.2.2.2.1.1))) fun p => tX S.2.2.1 S.2.1 p 0) = s2 at *
  generalize vl (bs s (pER S.2.2.1 S.2.1 st0.2.2.2.1.1)) ((0, fun _ => false, fun _ => false, fun _ => false), (fun _ => 0, fun _ => 0), fun _ => none, fun _ => none) = x at *
  cases s2 with
  | error e =>
    refine ⟨fun _ => rd_114 q wf y2.H gg hr, fun z => absurd rfl z⟩
  | ok p =>
    have hr : r = if p < S.2.1 then .error (6, p) else .ok (st0, x) := hr
    obtain ⟨hs, hx⟩ := hv2 p rfl
    have kk := y2.1.1
    have e27 := y2.2.2.2.2.1.2
    have e19 := y2.2.1
    have n5 := y2.2.2.1
    have pn := y2.2.2.2.2.2 p rfl
    refine ⟨fun z => absurd z (show ¬ Int32.ofNat 1 = Int32.ofNat 0 by decide), fun _ => ⟨kk, kk, ?_⟩⟩
    rw [e27, e19, qi_le (by omega) (by omega)]
    refine ⟨fun c => ?_, fun c => ⟨kk, kk, _, _, ct_mfails y2 (f := 6) (pl := p) (by omega) (by omega), fun k4 w4 => ?_, fun _ _ z => z.elim⟩⟩
    · rw [if_neg (by omega)] at hr
      obtain ⟨rv, rw'⟩ := hw _ hr
      exact rd_114 (o := none) q wf y2.H gg ⟨_, hr, rv, rw', hs, hx⟩
    · rw [if_pos (by omega)] at hr
      exact rd_114 (o := some (6, p)) q wf w4.1.H (gg.tr (w4.2.mo (fun _ z => z.elim) (fun _ z => by omega))) hr
theorem pHD_t {F : Fn} {n : Nat} (h5 : n ≤ 5000) {u : Unit} (h : pHD F n = .ok u) : ∃ of sz, lt F 12 8 = Int64.ofNat of ∧ lt F 20 8 = Int64.ofNat sz ∧ 32 + of + sz = n ∧ (sz = 0 → of = 0) := by
  unfold pHD at h
  split at h
  · cases h
  · split at h
    · cases h
    · split at h
      · cases h
      · split at h
        · cases h
        · next c =>
          obtain ⟨of, sz, eo, ez, ln⟩ := told_o (toldB_t.1 (by cases z : toldB F n with
            | true => rfl
            | false => exact absurd z c)) h5
          refine ⟨of, sz, eo, ez, ln, fun z0 => ?_⟩
          split at h
          · cases h
          · next c2 =>
            have e0 : lt F 20 8 = Int64.ofNat 0 := by rw [ez, z0]
            have : lt F 12 8 = Int64.ofNat 0 := Classical.not_not.1 (fun w => c2 ⟨e0, Or.inl w⟩)
            rw [eo, ql_eq (by omega) (by omega)] at this
            exact this
theorem ct_mread (q : RM P h m ad S) (wf : wfS S) : am_Ct tt 200 [.ref m] h (am_pI (fun r h' => r = (f_read S).1 ∧ okM P h m ad (f_read S).2 h') no_x) := by
  have kk := q.1.1
  have n5 := wf.2.1
  have fe : f_read S = rdO S (pRD S.2.2.1 S.2.1) := by
    unfold f_read rdO
    cases pRD S.2.2.1 S.2.1 with
    | error e => rfl
    | ok r => rfl
  rw [fe]
  have hw : ∀ rd, pRD S.2.2.1 S.2.1 = .ok rd → RV S.2.1 rd ∧ RW S.2.2.1 rd := fun rd z => ⟨pRD_v n5 z, pRD_w z⟩
  have ef : pRD S.2.2.1 S.2.1 = match pHD S.2.2.1 S.2.1 with | .error e => .error e | .ok _ => if lt S.2.2.1 20 8 = Int64.ofNat 0 then .ok RD0 else pBY S.2.2.1 S.2.1 (lt S.2.2.1 12 8).toNatClampNeg := rfl
  generalize er : pRD S.2.2.1 S.2.1 = r at *
  show am_Ct tt 200 [.ref m] h (am_pI (rdQ P h m ad S r) no_x)
  have g0 : mg m ad Xrd Yrd h (am_sI (am_sI (am_sI (am_sI (am_sI h 10 0 m (Int32.ofNat 0)) 10 20 m (Int32.ofNat 0)) 10 41 m (Int32.ofNat 0)) 10 29 m (Int32.ofNat 0)) 10 30 m (Int32.ofNat 0)) := (mg.sI (by omega)).tr ((mg.sI (by omega)).tr ((mg.sI (by omega)).tr ((mg.sI (by omega)).tr (mg.sI (by omega)))))
  have e20 : am_I (am_sI (am_sI (am_sI (am_sI (am_sI h 10 0 m (Int32.ofNat 0)) 10 20 m (Int32.ofNat 0)) 10 41 m (Int32.ofNat 0)) 10 29 m (Int32.ofNat 0)) 10 30 m (Int32.ofNat 0)) 10 20 m = Int32.ofNat 0 := by simp only [am_hs, true_and, and_true, and_self, true_or, or_true, false_or, or_false, false_and, and_false, not_true_eq_false, not_false_eq_true, Classical.not_not, true_implies, false_implies, implies_true, exists_eq_left, exists_eq_left', Option.some.injEq, reduceIte, Nat.reduceEqDiff, Nat.reduceLT, Nat.reduceLeDiff, Nat.reduceAdd, Nat.reduceSub, Nat.reduceMul, eq_self, ne_eq, and_imp, forall_const, reduceCtorEq, am_w, List.map_cons, List.map_nil, List.sum_cons, List.sum_nil, Value.category, Nat.zero_le, Nat.le_refl]
  have e41 : am_I (am_sI (am_sI (am_sI (am_sI (am_sI h 10 0 m (Int32.ofNat 0)) 10 20 m (Int32.ofNat 0)) 10 41 m (Int32.ofNat 0)) 10 29 m (Int32.ofNat 0)) 10 30 m (Int32.ofNat 0)) 10 41 m = Int32.ofNat 0 := by simp only [am_hs, true_and, and_true, and_self, true_or, or_true, false_or, or_false, false_and, and_false, not_true_eq_false, not_false_eq_true, Classical.not_not, true_implies, false_implies, implies_true, exists_eq_left, exists_eq_left', Option.some.injEq, reduceIte, Nat.reduceEqDiff, Nat.reduceLT, Nat.reduceLeDiff, Nat.reduceAdd, Nat.reduceSub, Nat.reduceMul, eq_self, ne_eq, and_imp, forall_const, reduceCtorEq, am_w, List.map_cons, List.map_nil, List.sum_cons, List.sum_nil, Value.category, Nat.zero_le, Nat.le_refl]
  have e29 : am_I (am_sI (am_sI (am_sI (am_sI (am_sI h 10 0 m (Int32.ofNat 0)) 10 20 m (Int32.ofNat 0)) 10 41 m (Int32.ofNat 0)) 10 29 m (Int32.ofNat 0)) 10 30 m (Int32.ofNat 0)) 10 29 m = Int32.ofNat 0 := by simp only [am_hs, true_and, and_true, and_self, true_or, or_true, false_or, or_false, false_and, and_false, not_true_eq_false, not_false_eq_true, Classical.not_not, true_implies, false_implies, implies_true, exists_eq_left, exists_eq_left', Option.some.injEq, reduceIte, Nat.reduceEqDiff, Nat.reduceLT, Nat.reduceLeDiff, Nat.reduceAdd, Nat.reduceSub, Nat.reduceMul, eq_self, ne_eq, and_imp, forall_const, reduceCtorEq, am_w, List.map_cons, List.map_nil, List.sum_cons, List.sum_nil, Value.category, Nat.zero_le, Nat.le_refl]
  have e30 : am_I (am_sI (am_sI (am_sI (am_sI (am_sI h 10 0 m (Int32.ofNat 0)) 10 20 m (Int32.ofNat 0)) 10 41 m (Int32.ofNat 0)) 10 29 m (Int32.ofNat 0)) 10 30 m (Int32.ofNat 0)) 10 30 m = Int32.ofNat 0 := by simp only [am_hs, true_and, and_true, and_self, true_or, or_true, false_or, or_false, false_and, and_false, not_true_eq_false, not_false_eq_true, Classical.not_not, true_implies, false_implies, implies_true, exists_eq_left, exists_eq_left', Option.some.injEq, reduceIte, Nat.reduceEqDiff, Nat.reduceLT, Nat.reduceLeDiff, Nat.reduceAdd, Nat.reduceSub, Nat.reduceMul, eq_self, ne_eq, and_imp, forall_const, reduceCtorEq, am_w, List.map_cons, List.map_nil, List.sum_cons, List.sum_nil, Value.category, Nat.zero_le, Nat.le_refl]
  refine vc_200_0 tt _ h _ _ ⟨kk, kk, kk, kk, kk, kk, ?_⟩
  generalize am_sI (am_sI (am_sI (am_sI (am_sI h 10 0 m (Int32.ofNat 0)) 10 20 m (Int32.ofNat 0)) 10 41 m (Int32.ofNat 0)) 10 29 m (Int32.ofNat 0)) 10 30 m (Int32.ofNat 0) = k0 at *
  have y0 : HY S.2.2.1 S.2.1 k0 m ad none := ⟨g0.1.md q.1, by rw [(g0.2.2 19 (by omega)).1]; exact q.2.2.2.2.1, n5, fun j hj => by rw [(g0.2.1 18 (by omega)).1]; exact q.2.2.2.2.2.1 j hj, fun _ => e20, fun e z => by cases z⟩
  refine ⟨_, _, ct_rhead y0 rfl, fun k1 w1 => ?_, fun _ _ z => z.elim⟩
  obtain ⟨y1, g1⟩ := w1
  have gg1 : mg m ad Xrd Yrd h k1 := g0.tr (g1.mo (fun _ z => z.elim) (fun _ z => by omega))
  have kk1 := y1.1.1
  refine vc_200_29 tt _ _ _ _ ⟨kk1, _, _, ct_hfine y1, fun z k2 e2 => ?_, fun _ _ z => z.elim⟩
  obtain ⟨rfl, rfl⟩ := e2
  cases eh : pHD S.2.2.1 S.2.1 with
  | error e =>
    rw [eh] at y1 ef
    exact ⟨fun _ => rd_114 (o := some e) q wf y1 gg1 ef, fun z => absurd rfl z⟩
  | ok u =>
    obtain ⟨of, sz, eo, ez, en, ez0⟩ := pHD_t n5 eh
    rw [eh] at y1 ef
    have y1 : HY S.2.2.1 S.2.1 k2 m ad none := y1
    have e19 := y1.2.1
    have hA := y1.2.2.2.1
    have ef : r = if lt S.2.2.1 20 8 = Int64.ofNat 0 then .ok RD0 else pBY S.2.2.1 S.2.1 (lt S.2.2.1 12 8).toNatClampNeg := ef
    have e29' : am_I k2 10 29 m = Int32.ofNat 0 := by rw [(g1.2.2 29 (by omega)).1]; exact e29
    have e30' : am_I k2 10 30 m = Int32.ofNat 0 := by rw [(g1.2.2 30 (by omega)).1]; exact e30
    have e41' : am_I k2 10 41 m = Int32.ofNat 0 := by rw [(g1.2.2 41 (by omega)).1]; exact e41
    have c1 : (Int64.ofNat of).toNatClampNeg = of := Int64.toNatClampNeg_ofNat_of_lt (by omega)
    have st0 : ∀ k, am_I k 10 29 m = Int32.ofNat 0 → am_I k 10 30 m = Int32.ofNat 0 → stR m ad ST0 k := fun k a b => ⟨b, fun f hf => absurd hf (Nat.not_lt_zero f), fun f hf => absurd hf (Nat.not_lt_zero f), a, fun f hf => absurd hf (Nat.not_lt_zero f), fun f hf => absurd hf (Nat.not_lt_zero f)⟩
    rw [ez, eo, c1] at ef
    refine ⟨fun z => absurd z (show ¬ Int32.ofNat 1 = Int32.ofNat 0 by decide), fun _ => ⟨kk1, ?_⟩⟩
    rw [e19, qi_le (by omega) (by omega)]
    refine ⟨fun c => ?_, fun c => ?_⟩
    · have z0 : sz = 0 := by omega
      rw [z0, if_pos rfl] at ef
      obtain ⟨rv, rw'⟩ := hw _ ef
      exact rd_114 (o := none) q wf y1 gg1 ⟨_, ef, rv, rw', st0 _ e29' e30', e41', fun j hj => absurd hj (Nat.not_lt_zero j), fun j hj => absurd hj (Nat.not_lt_zero j), fun j hj => absurd hj (Nat.not_lt_zero j), fun j hj => absurd hj (Nat.not_lt_zero j), fun j hj => absurd hj (Nat.not_lt_zero j), fun j hj => absurd hj (Nat.not_lt_zero j)⟩
    · have z0 : ¬ sz = 0 := by
        intro z
        have := ez0 z
        omega
      rw [if_neg (by rw [ql_eq (by omega) (by omega)]; exact z0), pBY_k] at ef
      refine ⟨kk1, _, _, ct_little y1.1 (p := 12) (n := 8) (by omega) (by omega), fun x k3 e3 => ?_, fun _ _ z => z.elim⟩
      obtain ⟨rfl, rfl⟩ := e3
      rw [lt_fr (f := am_A k3 (ad 18)) (g := S.2.2.1) (fun j h1 h2 => hA j (by omega)), eo, ql_i, qi_add]
      have s1 : mg m ad Xn (fun f => f = 27) k3 (am_sI k3 10 27 m (Int32.ofNat (32 + of))) := mg.sI rfl
      have y2 : MY S.2.2.1 S.2.1 (am_sI k3 10 27 m (Int32.ofNat (32 + of))) m ad (.ok (32 + of)) := (y1.on s1 (fun z => z) (by omega) (by omega) (by omega)).M (by simp only [am_hs, true_and, and_true, and_self, true_or, or_true, false_or, or_false, false_and, and_false, not_true_eq_false, not_false_eq_true, Classical.not_not, true_implies, false_implies, implies_true, exists_eq_left, exists_eq_left', Option.some.injEq, reduceIte, Nat.reduceEqDiff, Nat.reduceLT, Nat.reduceLeDiff, Nat.reduceAdd, Nat.reduceSub, Nat.reduceMul, eq_self, ne_eq, and_imp, forall_const, reduceCtorEq, am_w, List.map_cons, List.map_nil, List.sum_cons, List.sum_nil, Value.category, Nat.zero_le, Nat.le_refl]) (by omega)
      refine ⟨kk1, kk1, _, _, ct_mneed y2 rfl, fun k4 w4 => ?_, fun _ _ z => z.elim⟩
      obtain ⟨y4, g4⟩ := w4
      have g14 : mg m ad Xrd Yrd h k4 := gg1.tr ((s1.mo (fun _ z => z.elim) (fun _ z => by omega)).tr (g4.mo (fun _ z => z.elim) (fun _ z => by omega)))
      have e294 : am_I k4 10 29 m = Int32.ofNat 0 := by rw [(g4.2.2 29 (by omega)).1, (s1.2.2 29 (by omega)).1]; exact e29'
      have e304 : am_I k4 10 30 m = Int32.ofNat 0 := by rw [(g4.2.2 30 (by omega)).1, (s1.2.2 30 (by omega)).1]; exact e30'
      have ef : r = bs (.ok (32 + of)) (fun p => bd (tX S.2.2.1 S.2.1 p 1) fun _ p => bd (if 0 < of then pST S.2.2.1 S.2.1 of p else .ok (ST0, p)) fun st p => kR1 S.2.2.1 S.2.1 st p) := ef
      rw [bs_n ()] at ef
      generalize st (bs (Except.ok (32 + of) : Ms) fun p => tX S.2.2.1 S.2.1 p 1) = s4 at *
      rw [qi_le (by omega) (by omega)]
      refine ⟨fun c0 => ?_, fun c0 => ?_⟩
      · have ef : r = bs s4 (kR1 S.2.2.1 S.2.1 ST0) := by
          rw [ef]
          congr 1
          funext p
          rw [if_neg (by omega)]
          rfl
        exact rd_77 q wf y4 g14 ef (fun _ => ⟨st0 _ e294 e304, by decide⟩) hw
      · have ef : r = bs s4 (fun p => bd (pST S.2.2.1 S.2.1 of p) fun st p => kR1 S.2.2.1 S.2.1 st p) := by
          rw [ef]
          congr 1
          funext p
          rw [if_pos (by omega)]
        rw [bs_n ST0] at ef
        refine ⟨y4.1.1, _, _, ct_rstreams y4 (off := of) (by omega) rfl, fun k5 w5 => ?_, fun _ _ z => z.elim⟩
        obtain ⟨y5, g5, v5⟩ := w5
        refine rd_77 q wf y5 (g14.tr (g5.mo (fun _ z => by omega) (fun _ z => by omega))) ef (fun z => ?_) hw
        obtain ⟨p, e⟩ := ok_v ST0 z
        refine ⟨v5 _ p e, ?_⟩
        cases s4 with
        | error e' => cases e
        | ok p4 =>
          have e : pST S.2.2.1 S.2.1 of p4 = .ok (vl (bs (Except.ok p4 : Ms) (pST S.2.2.1 S.2.1 of)) ST0, p) := e
          generalize vl (bs (Except.ok p4 : Ms) (pST S.2.2.1 S.2.1 of)) ST0 = v at *
          unfold pST at e
          obtain ⟨_, _, _, e⟩ := bd_inv e
          obtain ⟨bp, _, f1, e⟩ := bd_inv e
          obtain ⟨fg, _, f2, e⟩ := bd_inv e
          obtain ⟨xc, _, f3, e⟩ := bd_inv e
          obtain ⟨_, _, _, e⟩ := bd_inv e
          cases e
          obtain ⟨h1, h2, h3, h4⟩ := pPS_v f1
          obtain ⟨j1, j2⟩ := pFS_v h3 f2
          exact (pFI_v h2 (fun b hb => ⟨(j2 b hb).1, (j2 b hb).2.1⟩) f3).2.1
end MRE
