/-! deps: 19k -/
/-! ===== what is read is valid ===== -/
theorem a255 (x : Int32) : ∃ m, m < 256 ∧ x &&& Int32.ofNat 255 = Int32.ofNat m := by
  refine ⟨(x.toBitVec &&& 255#32).toNat, ?_, ?_⟩
  · have h1 : (x.toBitVec &&& 255#32).toNat ≤ 255 := by
      rw [BitVec.toNat_and]
      exact Nat.and_le_right
    omega
  · apply Int32.toBitVec_inj.1
    rw [Int32.toBitVec_and]
    show x.toBitVec &&& 255#32 = BitVec.ofNat 32 (x.toBitVec &&& 255#32).toNat
    rw [BitVec.ofNat_toNat, BitVec.setWidth_eq]
theorem bd_inv {α β : Type} {r : Except pe (α × Nat)} {k : α → Nat → Except pe β} {v : β} (h : bd r k = .ok v) : ∃ a p, r = .ok (a, p) ∧ k a p = .ok v := by
  cases r with
  | error e => cases h
  | ok a => exact ⟨a.1, a.2, rfl, h⟩
theorem lPS_v {F : Fn} {n off : Nat} : ∀ (d i p s : Nat) (pk : Nat → Nat) {pk' : Nat → Nat} {p' : Nat}, lPS F n off d i p s pk = .ok (pk', p') → (∀ j, j < i → 1 ≤ pk j ∧ pk j ≤ 2400) → (d = 0 → s = off) → s = sm pk i 0 → (∀ j, j < i + d → 1 ≤ pk' j ∧ pk' j ≤ 2400) ∧ sm pk' (i + d) 0 = off
  | 0, i, p, s, pk, pk', p', h, h1, h2, h3 => by
    rw [lPS] at h
    cases h
    exact ⟨h1, by rw [Nat.add_zero, ← h3]; exact h2 rfl⟩
  | d + 1, i, p, s, pk, pk', p', h, h1, h2, h3 => by
    rw [lPS] at h
    obtain ⟨v, q, e1, e2⟩ := bd_inv h
    obtain ⟨w, rfl, w1, w2, w3⟩ := tN_n (by omega) (by omega) e1
    rw [w3] at e2
    split at e2
    · cases e2
    · next c =>
      have := lPS_v d (i + 1) q (s + w) (va_up pk i w) e2 (fun j hj => ?_) (fun hd => ?_) ?_
      · rw [show i + (d + 1) = i + 1 + d by omega]; exact this
      · unfold va_up
        by_cases cj : j = i
        · rw [if_pos cj]; omega
        · rw [if_neg cj]; exact h1 j (by omega)
      · exact Classical.not_not.1 (fun z => c ⟨hd, z⟩)
      · rw [sm_s, sm_c (g := pk) i 0 (fun j _ h2 => by rw [va_up, if_neg (by omega)]), ← h3, va_up, if_pos (by omega)]
theorem pPS_v {F : Fn} {n off p : Nat} {B : Nat} {pk : Nat → Nat} {p' : Nat} (h : pPS F n off p = .ok ((B, pk), p')) : 1 ≤ B ∧ B ≤ 6 ∧ (∀ b, b < B → 1 ≤ pk b ∧ pk b ≤ 2400) ∧ sm pk B 0 = off := by
  unfold pPS at h
  obtain ⟨_, _, _, h⟩ := bd_inv h
  obtain ⟨_, _, _, h⟩ := bd_inv h
  obtain ⟨v, q, e1, h⟩ := bd_inv h
  obtain ⟨w, rfl, w1, w2, w3⟩ := tN_n (by omega) (by omega) e1
  rw [w3] at h
  obtain ⟨_, _, _, h⟩ := bd_inv h
  obtain ⟨pk2, q2, e2, h⟩ := bd_inv h
  obtain ⟨_, _, _, h⟩ := bd_inv h
  cases h
  have := lPS_v _ 0 _ 0 _ e2 (fun j hj => absurd hj (Nat.not_lt_zero j)) (fun z => by omega) rfl
  rw [Nat.zero_add] at this
  exact ⟨w1, w2, this.1, this.2⟩
/-- a coder's kind and distance -/
def KD (k d : Int32) : Prop := k = -1 ∨ k = Int32.ofNat 0 ∨ k = Int32.ofNat 2 ∨ k = Int32.ofNat 3 ∨ (k = Int32.ofNat 1 ∧ ∃ m, d = Int32.ofNat m ∧ 1 ≤ m ∧ m ≤ 256)
theorem kdF_v {ib : Nat} {id : Int32} {pr : Nat} : kdF ib id pr = -1 ∨ kdF ib id pr = Int32.ofNat 0 ∨ kdF ib id pr = Int32.ofNat 2 ∨ kdF ib id pr = Int32.ofNat 3 ∨ (kdF ib id pr = Int32.ofNat 1 ∧ pr = 1) := by
  unfold kdF
  split
  · next c => exact Or.inr (Or.inr (Or.inr (Or.inr ⟨rfl, c.2.2⟩)))
  · split
    · exact Or.inl rfl
    · split
      · exact Or.inr (Or.inl rfl)
      · split
        · exact Or.inr (Or.inr (Or.inl rfl))
        · split
          · exact Or.inr (Or.inr (Or.inr (Or.inl rfl)))
          · exact Or.inl rfl
theorem pCo_v {F : Fn} {n p : Nat} {kd : Int32 × Int32} {p' : Nat} (h : pCo F n p = .ok (kd, p')) : KD kd.1 kd.2 := by
  unfold pCo at h
  obtain ⟨v, q, e1, h⟩ := bd_inv h
  split at h
  · cases h
  · obtain ⟨_, q2, e2, h⟩ := bd_inv h
    split at h
    · cases h
      rcases kdF_v (ib := (v &&& (-33 : Int32)).toNatClampNeg) (id := idn F q (v &&& (-33 : Int32)).toNatClampNeg) (pr := 0) with z | z | z | z | z
      · exact Or.inl z
      · exact Or.inr (Or.inl z)
      · exact Or.inr (Or.inr (Or.inl z))
      · exact Or.inr (Or.inr (Or.inr (Or.inl z)))
      · exact absurd z.2 (by omega)
    · obtain ⟨k, q3, e3, h⟩ := bd_inv h
      obtain ⟨_, q4, e4, h⟩ := bd_inv h
      cases h
      obtain ⟨m, hm, em⟩ := a255 (F (p' - 1))
      have ed : (F (p' - 1) &&& Int32.ofNat 255) + Int32.ofNat 1 = Int32.ofNat (m + 1) := by rw [em, qi_add]
      rcases kdF_v (ib := (v &&& (-33 : Int32)).toNatClampNeg) (id := idn F q (v &&& (-33 : Int32)).toNatClampNeg) (pr := k.toNatClampNeg) with z | z | z | z | z
      · exact Or.inl z
      · exact Or.inr (Or.inl z)
      · exact Or.inr (Or.inr (Or.inl z))
      · exact Or.inr (Or.inr (Or.inr (Or.inl z)))
      · exact Or.inr (Or.inr (Or.inr (Or.inr ⟨z.1, m + 1, ed, by omega, by omega⟩)))
theorem lCo_v {F : Fn} {n : Nat} : ∀ (d i p : Nat) (ks ds : Nat → Int32) {kd : (Nat → Int32) × (Nat → Int32)} {p' : Nat}, lCo F n d i p ks ds = .ok (kd, p') → (∀ j, j < i → KD (ks j) (ds j)) → ∀ j, j < i + d → KD (kd.1 j) (kd.2 j)
  | 0, i, p, ks, ds, kd, p', h, h1 => by
    rw [lCo] at h
    cases h
    exact h1
  | d + 1, i, p, ks, ds, kd, p', h, h1 => by
    rw [lCo] at h
    obtain ⟨v, q, e1, e2⟩ := bd_inv h
    have := lCo_v d (i + 1) q _ _ e2 (fun j hj => by
      unfold va_up
      by_cases c : j = i
      · rw [if_pos c, if_pos c]; exact pCo_v e1
      · rw [if_neg c, if_neg c]; exact h1 j (by omega))
    rw [show i + (d + 1) = i + 1 + d by omega]
    exact this
theorem lBo_v {F : Fn} {n nc : Nat} (h3 : nc ≤ 3) (h1 : 1 ≤ nc) : ∀ (d p : Nat) (bs : List (Nat × Nat)) {bs' : List (Nat × Nat)} {p' : Nat}, lBo F n nc d p bs = .ok (bs', p') → vB nc bs → bs.length + d = nc - 1 → vB nc bs' ∧ bs'.length = nc - 1
  | 0, p, bs, bs', p', h, hv, hl => by
    rw [lBo] at h
    cases h
    exact ⟨hv, hl⟩
  | d + 1, p, bs, bs', p', h, hv, hl => by
    rw [lBo] at h
    obtain ⟨t, q, e1, h⟩ := bd_inv h
    obtain ⟨g, q2, e2, h⟩ := bd_inv h
    obtain ⟨t', rfl, w1, w2, w3⟩ := tN_n (by omega) (by omega) e1
    obtain ⟨g', rfl, x1, x2, x3⟩ := tN_n (by omega) (by omega) e2
    rw [w3, x3] at h
    split at h
    · cases h
    · next c =>
      have c1 : tkL bs t' = 3 := Classical.not_not.1 (fun z => c (Or.inl z))
      have c2 : gvL bs g' = 3 := Classical.not_not.1 (fun z => c (Or.inr (Or.inl z)))
      have c3 : lds bs g' t' = false := by
        cases e : lds bs g' t' with
        | false => rfl
        | true => exact absurd (Or.inr (Or.inr e)) c
      exact lBo_v h3 h1 d q2 _ h (vB_s hv (by omega) ⟨c1, c2, c3, by omega, by omega⟩) (by rw [List.length_append]; show bs.length + 1 + d = _; omega)
/-- a folder is valid -/
def fW (o : FO) : Prop := fV o ∧ (∀ c, c < o.1 → KD (o.2.2.1 c) (o.2.2.2.1 c) ∧ (¬ o.2.2.1 c = Int32.ofNat 1 → o.2.2.2.1 c = Int32.ofNat 0)) ∧ (o.2.1 = true → ∀ c, c < o.1 → ¬ o.2.2.1 c = -1)
theorem pFo_v {F : Fn} {n p : Nat} {o : FO} {p' : Nat} (h : pFo F n p = .ok (o, p')) : fW o := by
  unfold pFo at h
  obtain ⟨v, q, e1, h⟩ := bd_inv h
  obtain ⟨nc, rfl, w1, w2, w3⟩ := tN_n (by omega) (by omega) e1
  rw [w3] at h
  obtain ⟨kd, q2, e2, h⟩ := bd_inv h
  obtain ⟨bs, q3, e3, h⟩ := bd_inv h
  cases h
  have hb := lBo_v w2 w1 _ _ _ e3 trivial (by show 0 + (nc - 1) = _; omega)
  have hk := lCo_v nc 0 _ _ _ e2 (fun j hj => absurd hj (Nat.not_lt_zero j))
  rw [Nat.zero_add] at hk
  have hc := ch_v w1 w2 hb.1 hb.2
  refine ⟨⟨w1, w2, (hc 0 (by omega)).1⟩, fun c hc2 => ?_, fun hkn c hc2 => ?_⟩
  · have hc3 : c < nc := hc2
    show KD (kd.1 (chL bs (omL bs nc) c)) (if kd.1 (chL bs (omL bs nc) c) = Int32.ofNat 1 then kd.2 (chL bs (omL bs nc) c) else Int32.ofNat 0) ∧ (¬ kd.1 (chL bs (omL bs nc) c) = Int32.ofNat 1 → (if kd.1 (chL bs (omL bs nc) c) = Int32.ofNat 1 then kd.2 (chL bs (omL bs nc) c) else Int32.ofNat 0) = Int32.ofNat 0)
    have := hk _ (hc c hc3).1
    by_cases c1 : kd.1 (chL bs (omL bs nc) c) = Int32.ofNat 1
    · rw [if_pos c1]; exact ⟨this, fun z => absurd c1 z⟩
    · rw [if_neg c1]
      refine ⟨?_, fun _ => rfl⟩
      rcases this with z | z | z | z | z
      · exact Or.inl z
      · exact Or.inr (Or.inl z)
      · exact Or.inr (Or.inr (Or.inl z))
      · exact Or.inr (Or.inr (Or.inr (Or.inl z)))
      · exact absurd z.1 c1
  · exact of_decide_eq_true hkn c hc2
theorem lFo_v {F : Fn} {n : Nat} : ∀ (d i p : Nat) (fo : Nat → FO) {fo' : Nat → FO} {p' : Nat}, lFo F n d i p fo = .ok (fo', p') → (∀ j, j < i → fW (fo j)) → ∀ j, j < i + d → fW (fo' j)
  | 0, i, p, fo, fo', p', h, h1 => by
    rw [lFo] at h
    cases h
    exact h1
  | d + 1, i, p, fo, fo', p', h, h1 => by
    rw [lFo] at h
    obtain ⟨v, q, e1, e2⟩ := bd_inv h
    have := lFo_v d (i + 1) q _ e2 (fun j hj => by
      unfold va_up
      by_cases c : j = i
      · rw [if_pos c]; exact pFo_v e1
      · rw [if_neg c]; exact h1 j (by omega))
    rw [show i + (d + 1) = i + 1 + d by omega]
    exact this
theorem lG1_v {F : Fn} {n lo hi om : Nat} (hl : lo ≤ 5000) (hh : hi ≤ 5000) : ∀ (d c p g : Nat) {g' p' : Nat}, lG1 F n lo hi om d c p g = .ok (g', p') → (om < c → lo ≤ g ∧ g ≤ hi) → om < c + d → lo ≤ g' ∧ g' ≤ hi
  | 0, c, p, g, g', p', h, h1, h2 => by
    rw [lG1] at h
    cases h
    exact h1 (by omega)
  | d + 1, c, p, g, g', p', h, h1, h2 => by
    rw [lG1] at h
    obtain ⟨v, q, e1, e2⟩ := bd_inv h
    obtain ⟨w, rfl, w1, w2, w3⟩ := tN_n (by omega) (by omega) e1
    rw [w3] at e2
    refine lG1_v hl hh d (c + 1) q _ e2 (fun z => ?_) (by omega)
    by_cases c1 : c = om
    · rw [if_pos c1]; exact ⟨w1, w2⟩
    · rw [if_neg c1]; exact h1 (by omega)
theorem lGi_v {F : Fn} {n : Nat} {pk : Nat → Nat} {fo : Nat → FO} {B : Nat} (hp : ∀ b, b < B → 1 ≤ pk b ∧ pk b ≤ 2400) (hf : ∀ b, b < B → fV (fo b)) : ∀ (d b p : Nat) (g : Nat → Nat) {g' : Nat → Nat} {p' : Nat}, lGi F n pk fo d b p g = .ok (g', p') → b + d = B → (∀ j, j < b → 1 ≤ g j ∧ g j ≤ 2400 ∧ ((fo j).2.1 = true → g j = pk j)) → ∀ j, j < B → 1 ≤ g' j ∧ g' j ≤ 2400 ∧ ((fo j).2.1 = true → g' j = pk j)
  | 0, b, p, g, g', p', h, hb, h1 => by
    rw [lGi] at h
    cases h
    have : b = B := hb
    rw [← this]
    exact h1
  | d + 1, b, p, g, g', p', h, hb, h1 => by
    rw [lGi] at h
    obtain ⟨v, q, e1, e2⟩ := bd_inv h
    have pb := hp b (by omega)
    have fb := hf b (by omega)
    have lv := lG1_v (by split <;> omega) (by split <;> omega) _ 0 _ 0 e1 (fun z => absurd z (Nat.not_lt_zero _)) (by rw [Nat.zero_add]; exact fb.2.2)
    refine lGi_v hp hf d (b + 1) q _ e2 (by omega) (fun j hj => ?_)
    unfold va_up
    by_cases c : j = b
    · rw [if_pos c, c]
      by_cases kn : (fo b).2.1 = true
      · rw [if_pos kn, if_pos kn] at lv
        exact ⟨by omega, by omega, fun _ => by omega⟩
      · rw [if_neg kn, if_neg kn] at lv
        exact ⟨by omega, by omega, fun z => absurd z kn⟩
    · rw [if_neg c]; exact h1 j (by omega)
theorem pFS_v {F : Fn} {n B : Nat} {pk : Nat → Nat} {p : Nat} {fo : Nat → FO} {g : Nat → Nat} {p' : Nat} (hp : ∀ b, b < B → 1 ≤ pk b ∧ pk b ≤ 2400) (h : pFS F n B pk p = .ok ((fo, g), p')) : (∀ b, b < B → fW (fo b)) ∧ ∀ b, b < B → 1 ≤ g b ∧ g b ≤ 2400 ∧ ((fo b).2.1 = true → g b = pk b) := by
  unfold pFS at h
  obtain ⟨_, _, _, h⟩ := bd_inv h
  obtain ⟨_, _, _, h⟩ := bd_inv h
  obtain ⟨_, _, _, h⟩ := bd_inv h
  obtain ⟨_, _, _, h⟩ := bd_inv h
  obtain ⟨fo2, q1, e1, h⟩ := bd_inv h
  obtain ⟨_, _, _, h⟩ := bd_inv h
  obtain ⟨g2, q2, e2, h⟩ := bd_inv h
  obtain ⟨_, _, _, h⟩ := bd_inv h
  cases h
  have f1 := lFo_v B 0 _ _ e1 (fun j hj => absurd hj (Nat.not_lt_zero j))
  rw [Nat.zero_add] at f1
  exact ⟨f1, lGi_v hp (fun b hb => (f1 b hb).1) B 0 _ _ e2 (by omega) (fun j hj => absurd hj (Nat.not_lt_zero j))⟩
/-! files -/
theorem bef_c {hm hm' sz sz' : Nat → Nat} {b : Nat} : ∀ (n : Nat), (∀ f, f < n → hm f = hm' f ∧ sz f = sz' f) → bef hm sz b n = bef hm' sz' b n
  | 0, _ => rfl
  | n + 1, h => by
    rw [bef, bef, bef_c n (fun f hf => h f (by omega)), (h n (by omega)).1, (h n (by omega)).2]
theorem bef_ad {x : FI} {b z b' : Nat} : bef (adF x b z).2.1 (adF x b z).2.2 b' (adF x b z).1 = bef x.2.1 x.2.2 b' x.1 + (if b = b' then z else 0) := by
  show bef (va_up x.2.1 x.1 b) (va_up x.2.2 x.1 z) b' (x.1 + 1) = _
  rw [bef, bef_c (hm' := x.2.1) (sz' := x.2.2) x.1 (fun f hf => ⟨by rw [va_up, if_neg (by omega)], by rw [va_up, if_neg (by omega)]⟩), va_up, if_pos rfl, va_up, if_pos rfl]
/-- files are valid so far: homes, sizes -/
def xV (B : Nat) (x : FI) : Prop := ∀ f, f < x.1 → x.2.1 f < B ∧ 1 ≤ x.2.2 f ∧ x.2.2 f ≤ 2400
theorem xV_ad {B : Nat} {x : FI} {b z : Nat} (h : xV B x) (hb : b < B) (h1 : 1 ≤ z) (h2 : z ≤ 2400) : xV B (adF x b z) := by
  intro f hf
  show va_up x.2.1 x.1 b f < B ∧ 1 ≤ va_up x.2.2 x.1 z f ∧ va_up x.2.2 x.1 z f ≤ 2400
  have hf : f < x.1 + 1 := hf
  unfold va_up
  by_cases c : f = x.1
  · rw [if_pos c, if_pos c]; exact ⟨hb, h1, h2⟩
  · rw [if_neg c, if_neg c]; exact h f (by omega)
theorem lFi_v {F : Fn} {n b B : Nat} (hb : b < B) : ∀ (d p left : Nat) (x : FI) {x' : FI} {p' : Nat}, lFi F n b d p left x = .ok (x', p') → xV B x → 1 ≤ left → left ≤ 2400 → d ≤ 24 → xV B x' ∧ x'.1 = x.1 + d + 1 ∧ ∀ b', bef x'.2.1 x'.2.2 b' x'.1 = bef x.2.1 x.2.2 b' x.1 + (if b = b' then left else 0)
  | 0, p, left, x, x', p', h, hx, h1, h2, h3 => by
    rw [lFi] at h
    cases h
    exact ⟨xV_ad hx hb h1 h2, rfl, fun b' => bef_ad⟩
  | d + 1, p, left, x, x', p', h, hx, h1, h2, h3 => by
    rw [lFi] at h
    obtain ⟨v, q, e1, e2⟩ := bd_inv h
    obtain ⟨w, rfl, w1, w2, w3⟩ := tN_d (by omega) (by omega) e1
    rw [w3] at e2
    obtain ⟨r1, r2, r3⟩ := lFi_v hb d q (left - w) _ e2 (xV_ad hx hb w1 (by omega)) (by omega) (by omega) (by omega)
    refine ⟨r1, by rw [r2]; show x.1 + 1 + d + 1 = _; omega, fun b' => ?_⟩
    rw [r3, bef_ad]
    split <;> omega
theorem lFs_v {F : Fn} {n B : Nat} {g fc : Nat → Nat} (hg : ∀ b, b < B → 1 ≤ g b ∧ g b ≤ 2400) (hf : ∀ b, b < B → 1 ≤ fc b ∧ fc b ≤ 24) : ∀ (d b p : Nat) (x : FI) {x' : FI} {p' : Nat}, lFs F n g fc d b p x = .ok (x', p') → b + d = B → xV B x → xV B x' ∧ x'.1 = x.1 + sm fc d b ∧ (∀ b', bef x'.2.1 x'.2.2 b' x'.1 = bef x.2.1 x.2.2 b' x.1 + (if b ≤ b' ∧ b' < B then g b' else 0))
  | 0, b, p, x, x', p', h, hb, hx => by
    rw [lFs] at h
    cases h
    exact ⟨hx, rfl, fun b' => by rw [if_neg (by omega)]; rfl⟩
  | d + 1, b, p, x, x', p', h, hb, hx => by
    rw [lFs] at h
    obtain ⟨x2, q, e1, e2⟩ := bd_inv h
    have g1 := hg b (by omega)
    have f1 := hf b (by omega)
    obtain ⟨r1, r2, r3⟩ := lFi_v (B := B) (by omega) _ _ _ _ e1 hx g1.1 g1.2 (by omega)
    obtain ⟨s1, s2, s3⟩ := lFs_v hg hf d (b + 1) q x2 e2 (by omega) r1
    refine ⟨s1, by rw [s2, r2, sm]; omega, fun b' => ?_⟩
    rw [s3, r3]
    by_cases c : b = b'
    · subst c
      rw [if_pos rfl, if_neg (by omega), if_pos ⟨Nat.le_refl _, by omega⟩]; omega
    · rw [if_neg c]
      by_cases c2 : b + 1 ≤ b' ∧ b' < B
      · rw [if_pos c2, if_pos (by omega)]; omega
      · rw [if_neg c2, if_neg (by omega)]
theorem lFc_v {F : Fn} {n : Nat} : ∀ (d b p s : Nat) (fc : Nat → Nat) {sf : Nat × (Nat → Nat)} {p' : Nat}, lFc F n d b p s fc = .ok (sf, p') → (∀ j, j < b → 1 ≤ fc j ∧ fc j ≤ 24) → s = sm fc b 0 → s ≤ 24 → (∀ j, j < b + d → 1 ≤ sf.2 j ∧ sf.2 j ≤ 24) ∧ sf.1 = sm sf.2 (b + d) 0 ∧ sf.1 ≤ 24
  | 0, b, p, s, fc, sf, p', h, h1, h2, h3 => by
    rw [lFc] at h
    cases h
    exact ⟨h1, h2, h3⟩
  | d + 1, b, p, s, fc, sf, p', h, h1, h2, h3 => by
    rw [lFc] at h
    obtain ⟨v, q, e1, e2⟩ := bd_inv h
    obtain ⟨w, rfl, w1, w2, w3⟩ := tN_n (by omega) (by omega) e1
    rw [w3] at e2
    have := lFc_v d (b + 1) q (s + w) _ e2 (fun j hj => by
      unfold va_up
      by_cases c : j = b
      · rw [if_pos c]; omega
      · rw [if_neg c]; exact h1 j (by omega)) (by rw [sm_s, sm_c (g := fc) b 0 (fun j _ h2 => by rw [va_up, if_neg (by omega)]), ← h2, va_up, if_pos (by omega)]) (by omega)
    rw [show b + (d + 1) = b + 1 + d by omega]
    exact this
theorem pFI_v {F : Fn} {n B : Nat} {g : Nat → Nat} {p : Nat} {x : FI} {c : Nat → Int64} {p' : Nat} (hB : B ≤ 6) (hg : ∀ b, b < B → 1 ≤ g b ∧ g b ≤ 2400) (h : pFI F n B g p = .ok ((x, c), p')) : xV B x ∧ x.1 ≤ 24 ∧ ∀ b, b < B → bef x.2.1 x.2.2 b x.1 = g b := by
  unfold pFI at h
  obtain ⟨_, _, _, h⟩ := bd_inv h
  obtain ⟨t, _, _, h⟩ := bd_inv h
  obtain ⟨x2, q2, e2, h⟩ := bd_inv h
  obtain ⟨_, _, _, h⟩ := bd_inv h
  obtain ⟨_, _, _, h⟩ := bd_inv h
  obtain ⟨_, _, _, h⟩ := bd_inv h
  obtain ⟨_, _, _, h⟩ := bd_inv h
  cases h
  have fin : ∀ (fc : Nat → Nat) (q : Nat), (∀ b, b < B → 1 ≤ fc b ∧ fc b ≤ 24) → sm fc B 0 ≤ 24 → lFs F n g fc B 0 q FI0 = .ok (x, q2) → xV B x ∧ x.1 ≤ 24 ∧ ∀ b, b < B → bef x.2.1 x.2.2 b x.1 = g b := by
    intro fc q hf hs e
    obtain ⟨r1, r2, r3⟩ := lFs_v hg hf B 0 q FI0 e (by omega) (fun f hf => absurd hf (Nat.not_lt_zero f))
    refine ⟨r1, ?_, fun b hb => ?_⟩
    · rw [r2]; show 0 + _ ≤ 24; omega
    · rw [r3, if_pos ⟨Nat.zero_le _, hb⟩]
      show 0 + g b = g b
      omega
  split at e2
  · obtain ⟨sf, q3, e3, e2⟩ := bd_inv e2
    split at e2
    · cases e2
    · obtain ⟨_, q4, _, e2⟩ := bd_inv e2
      have := lFc_v B 0 _ 0 _ e3 (fun j hj => absurd hj (Nat.not_lt_zero j)) rfl (by omega)
      rw [Nat.zero_add] at this
      exact fin _ _ this.1 (by omega) e2
  · have lf := sm_le (f := fun _ => 1) 1 B 0 (fun j _ _ => Nat.le_refl 1)
    exact fin _ _ (fun b hb => ⟨Nat.le_refl 1, by omega⟩) (by omega) e2
