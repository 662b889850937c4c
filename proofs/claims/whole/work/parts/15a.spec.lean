/-! deps: 14c -/
/-! ===== what the calls answer and do ===== -/
/-- all that the calls show: archive, length of the tape, its bytes, fault -/
abbrev sS : Type := sA × Nat × (Nat → Int32) × Int32
def s_a (s : sS) : sA := s.1
def s_n (s : sS) : Nat := s.2.1
def s_T (s : sS) : Nat → Int32 := s.2.2.1
def s_f (s : sS) : Int32 := s.2.2.2
def ixo (n : Nat) (x : Int32) : Option Nat := if ¬ x < Int32.ofNat 0 ∧ x.toNatClampNeg < n then some x.toNatClampNeg else none
def put_E (s : sS) (i : Nat) (e : sE) : sS := ((a_n s.1, va_up (a_E s.1) i e, a_B s.1), s.2)
def put_B (s : sS) (i : Nat) (b : sB) : sS := ((a_n s.1, a_E s.1, va_up (a_B s.1) i b), s.2)
def put_T (s : sS) (n : Nat) (T : Nat → Int32) : sS := (s.1, n, T, s.2.2.2)
def lostB (s : sS) (i : Nat) : Bool := decide (0 < e_sz (a_E s.1 i)) && !a_kn s.1 i
def frE (k : Nat) : sE := (k, 0, fun _ => 0, 0, fun _ => 0, 0, false, none, none, false)
def f_entry (s : sS) (x : Int32) : Int32 × sS :=
  if x = Int32.ofNat 0 ∨ x = Int32.ofNat 1 then (if a_n s.1 < 24 then (Int32.ofNat (a_n s.1), ((a_n s.1 + 1, va_up (a_E s.1) (a_n s.1) (frE x.toNatClampNeg), a_B s.1), s.2)) else (-4, s)) else (-2, s)
def e_setN (e : sE) (c : Int32) : sE := (e_kd e, e_un e + 1, va_up (e_nm e) (e_un e) c, e_sz e, e_by e, e_hm e, e_an e, e_tm e, e_av e, e_wr e)
def f_name (s : sS) (x c : Int32) : Int32 × sS := match ixo (a_n s.1) x with
  | none => (-2, s)
  | some i => if c = Int32.ofNat 0 then (-2, s) else if e_un (a_E s.1 i) < 20 then (Int32.ofNat (e_un (a_E s.1 i) + 1), put_E s i (e_setN (a_E s.1 i) c)) else (-4, s)
def e_setB (e : sE) (w : Int64) (n : Nat) : sE := (e_kd e, e_un e, e_nm e, e_sz e + n, apw (e_by e) (e_sz e) w n, e_hm e, e_an e, e_tm e, e_av e, e_wr e)
def f_put (s : sS) (x : Int32) (w : Int64) (n : Int32) : Int32 × sS := match ixo (a_n s.1) x with
  | none => (-2, s)
  | some i => if ¬ e_kd (a_E s.1 i) = 0 ∨ n < Int32.ofNat 1 ∨ Int32.ofNat 8 < n then (-2, s) else if a_kn s.1 i = false ∨ e_an (a_E s.1 i) = true then (-3, s)
    else if 120 < e_sz (a_E s.1 i) + n.toNatClampNeg then (-4, s) else (Int32.ofNat (e_sz (a_E s.1 i) + n.toNatClampNeg), put_E s i (e_setB (a_E s.1 i) w n.toNatClampNeg))
def e_setH (e : sE) (b : Nat) : sE := (e_kd e, e_un e, e_nm e, e_sz e, e_by e, b, e_an e, e_tm e, e_av e, e_wr e)
def f_block (s : sS) (x y : Int32) : Int32 × sS := match ixo (a_n s.1) x, ixo 6 y with
  | some i, some b => if ¬ e_kd (a_E s.1 i) = 0 then (-2, s) else if a_kn s.1 i = false ∨ b_kn (a_B s.1 b) = false then (-3, s) else (Int32.ofNat (e_hm (a_E s.1 i)), put_E s i (e_setH (a_E s.1 i) b))
  | _, _ => (-2, s)
def f_coder (s : sS) (x k d : Int32) : Int32 × sS := match ixo 6 x with
  | none => (-2, s)
  | some b => if k < Int32.ofNat 0 ∨ Int32.ofNat 3 < k ∨ (k = Int32.ofNat 1 ∧ (d < Int32.ofNat 1 ∨ Int32.ofNat 256 < d)) then (-2, s) else if b_kn (a_B s.1 b) = false then (-3, s)
    else if b_cn (a_B s.1 b) < 3 then (Int32.ofNat (b_cn (a_B s.1 b) + 1), put_B s b (true, b_cn (a_B s.1 b) + 1, va_up (b_ck (a_B s.1 b)) (b_cn (a_B s.1 b)) k, va_up (b_cd (a_B s.1 b)) (b_cn (a_B s.1 b)) (if k = Int32.ofNat 1 then d else Int32.ofNat 0))) else (-4, s)
def e_setA (e : sE) (b : Bool) : sE := (e_kd e, e_un e, e_nm e, e_sz e, e_by e, e_hm e, b, e_tm e, e_av e, e_wr e)
def e_setT (e : sE) (t : Option Int64) : sE := (e_kd e, e_un e, e_nm e, e_sz e, e_by e, e_hm e, e_an e, t, e_av e, e_wr e)
def e_setV (e : sE) (t : Option Int32) : sE := (e_kd e, e_un e, e_nm e, e_sz e, e_by e, e_hm e, e_an e, e_tm e, t, e_wr e)
def f_set (s : sS) (x y : Int32) (v : Int64) : Int32 × sS := match ixo (a_n s.1) x, ixo 5 y with
  | some i, some 0 => if v = Int64.ofNat 0 then (Int32.ofNat 1, put_E s i (e_setA (a_E s.1 i) false)) else if v = Int64.ofNat 1 then (if 0 < e_sz (a_E s.1 i) then (-3, s) else (Int32.ofNat 1, put_E s i (e_setA (a_E s.1 i) true))) else (-2, s)
  | some i, some 1 => (Int32.ofNat 1, put_E s i (e_setT (a_E s.1 i) (some v)))
  | some i, some 2 => (Int32.ofNat 1, put_E s i (e_setT (a_E s.1 i) none))
  | some i, some 3 => (Int32.ofNat 1, put_E s i (e_setV (a_E s.1 i) (some v.toInt32)))
  | some i, some _ => (Int32.ofNat 1, put_E s i (e_setV (a_E s.1 i) none))
  | _, _ => (-2, s)
def f_of (s : sS) (x y : Int32) : Int32 := match ixo (a_n s.1) x, ixo 9 y with
  | some i, some 0 => Int32.ofNat (e_kd (a_E s.1 i))
  | some i, some 1 => Int32.ofNat (e_sz (a_E s.1 i))
  | some i, some 2 => Int32.ofNat (e_hm (a_E s.1 i))
  | some i, some 3 => Int32.ofNat (e_un (a_E s.1 i))
  | some i, some 4 => b01 (e_an (a_E s.1 i))
  | some i, some 5 => b01 (e_tm (a_E s.1 i)).isSome
  | some i, some 6 => b01 (e_av (a_E s.1 i)).isSome
  | some i, some 7 => b01 (e_wr (a_E s.1 i))
  | some i, some _ => b01 (lostB s i)
  | _, _ => -2
def f_number (s : sS) (x y : Int32) : Int64 := match ixo (a_n s.1) x, ixo 3 y with
  | some i, some 0 => (e_tm (a_E s.1 i)).getD (Int64.ofNat 0)
  | some i, some 1 => ((e_av (a_E s.1 i)).getD (Int32.ofNat 0)).toInt64
  | some i, some _ => if lostB s i = true then Int64.ofNat 0 else (ck (e_by (a_E s.1 i)) 0 (e_sz (a_E s.1 i))).toInt64 &&& Int64.ofNat 4294967295
  | _, _ => Int64.ofNat 0
def f_at (s : sS) (x y z : Int32) : Int32 := match ixo (a_n s.1) x, ixo 2 y with
  | some i, some 0 => (match ixo (e_un (a_E s.1 i)) z with
    | none => -1
    | some j => e_nm (a_E s.1 i) j)
  | some i, some _ => if lostB s i = true then -1 else (match ixo (e_sz (a_E s.1 i)) z with
    | none => -1
    | some j => e_by (a_E s.1 i) j &&& Int32.ofNat 255)
  | _, _ => -2
def f_coderAt (s : sS) (x z : Int32) : Int32 := match ixo 6 x with
  | none => -2
  | some b => if b_kn (a_B s.1 b) = false then -3 else if z = -1 then Int32.ofNat (b_cn (a_B s.1 b)) else match ixo (b_cn (a_B s.1 b)) z with
    | none => -1
    | some j => b_ck (a_B s.1 b) j + Int32.ofNat 4 * b_cd (a_B s.1 b) j
def inT (s : sS) (i : Int64) : Bool := decide (¬ i < Int64.ofNat 0 ∧ i < Int64.ofNat s.2.1)
def f_type (s : sS) (w : Int64) (n : Int32) : Int32 × sS :=
  if n < Int32.ofNat 0 ∨ Int32.ofNat 8 < n then (-2, s) else if n = Int32.ofNat 0 then (Int32.ofNat 0, put_T s 0 s.2.2.1) else if 5000 < s.2.1 + n.toNatClampNeg then (-4, s) else (Int32.ofNat (s.2.1 + n.toNatClampNeg), put_T s (s.2.1 + n.toNatClampNeg) (apw s.2.2.1 s.2.1 w n.toNatClampNeg))
def f_cut (s : sS) (n : Int32) : Int32 × sS := match ixo (s.2.1 + 1) n with
  | none => (-2, s)
  | some k => (Int32.ofNat k, put_T s k s.2.2.1)
def toldB (f : Nat → Int32) (n : Nat) : Bool := decide (¬ lt f 12 8 < Int64.ofNat 0 ∧ lt f 12 8 ≤ Int64.ofNat n ∧ ¬ lt f 20 8 < Int64.ofNat 0 ∧ lt f 20 8 ≤ Int64.ofNat n ∧ Int64.ofNat 32 + lt f 12 8 + lt f 20 8 = Int64.ofNat n)
theorem toldB_t {f : Nat → Int32} {n : Nat} : toldB f n = true ↔ told f n := by unfold toldB told; simp
def slo (f : Nat → Int32) (n : Nat) : Nat → Int32 := lay f 28 (ck f (32 + (lt f 12 8).toNatClampNeg) (n - (32 + (lt f 12 8).toNatClampNeg))).toInt64 4
def slh (f : Nat → Int32) : Nat → Int32 := lay f 8 (ck f 12 20).toInt64 4
def f_seal (s : sS) (x : Int32) : Int32 × sS :=
  if x = Int32.ofNat 0 then (if s.2.1 < 32 then (-3, s) else (Int32.ofNat 1, put_T s s.2.1 (slh s.2.2.1))) else if x = Int32.ofNat 1 then (if s.2.1 < 32 ∨ toldB s.2.2.1 s.2.1 = false then (-3, s) else (Int32.ofNat 1, put_T s s.2.1 (slh (slo s.2.2.1 s.2.1)))) else (-2, s)
def f_count (s : sS) (x : Int32) : Int32 := if x = Int32.ofNat 0 then Int32.ofNat (a_n s.1) else if x = Int32.ofNat 1 then Int32.ofNat s.2.1 else -2
def emA (a : sA) : sA := (0, a_E a, fun _ => (true, 0, fun _ => 0, fun _ => 0))
def f_clear (s : sS) : Int32 × sS := (Int32.ofNat (a_n s.1), (emA s.1, s.2))
/-! the bounds of an index -/
theorem ixo_n {n i : Nat} (h : i < n) (hn : n ≤ 2147483648) : ixo n (Int32.ofNat i) = some i := by
  unfold ixo
  rw [qi_nn (by omega)]
  rw [if_pos]
  simp (disch := omega) only [qi_lt]
  omega
theorem ixo_o {n i : Nat} {x : Int32} (h : ixo n x = some i) : i < n ∧ x = Int32.ofNat i := by
  unfold ixo at h
  split at h
  · next c =>
    obtain ⟨k, hk, rfl⟩ := qi_ge0 x c.1
    cases h
    rw [qi_nn hk] at c ⊢
    exact ⟨c.2, rfl⟩
  · cases h
theorem ixo_no {n : Nat} {x : Int32} (hn : n ≤ 2147483648) (h : ∀ i, i < n → ¬ x = Int32.ofNat i) : ixo n x = none := by
  cases e : ixo n x with
  | none => rfl
  | some i => exact absurd (ixo_o e).2 (h i (ixo_o e).1)
theorem ixo_neg {n : Nat} {x : Int32} (h : x < Int32.ofNat 0) : ixo n x = none := by
  unfold ixo
  rw [if_neg (fun c => c.1 h)]
theorem ixo_ge {n : Nat} {i : Nat} (hi : i < 2147483648) (h : n ≤ i) : ixo n (Int32.ofNat i) = none := by
  unfold ixo
  rw [qi_nn hi, if_neg (fun c => by omega)]
