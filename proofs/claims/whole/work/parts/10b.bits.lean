/-! deps: 10a -/
/-! ===== bytes of longs, bits ===== -/
/-- the byte k of a long, as a row of bytes holds it -/
def lb (v : Int64) (k : Nat) : Int32 := (Int8.ofBitVec (v.toBitVec.extractLsb' (8 * k) 8)).toInt32
theorem q8_8 (v : Int32) : v.toInt8.toInt32.toInt8 = v.toInt8 := by simp
theorem lb_8 (v : Int64) (k : Nat) : (lb v k).toInt8 = Int8.ofBitVec (v.toBitVec.extractLsb' (8 * k) 8) := Int8.toInt8_toInt32 _
theorem lb_88 (v : Int64) (k : Nat) : (lb v k).toInt8.toInt32 = lb v k := by rw [lb_8]; rfl
theorem sh_u8 : ∀ k, k < 8 → ((Int64.ofNat (8 * k)).toUInt64 &&& Int64.toUInt64 63) = UInt64.ofNat (8 * k) := by decide
theorem sh_s8 : ∀ k, k < 8 → ((Int64.ofNat (8 * k)) &&& 63) = Int64.ofNat (8 * k) := by decide
theorem sh_u7 : ∀ k, k < 9 → ((Int64.ofNat (7 * k)).toUInt64 &&& Int64.toUInt64 63) = UInt64.ofNat (7 * k) := by decide
theorem lb_u {v : Int64} {k : Nat} (hk : k < 8) : (v.toUInt64 >>> ((Int64.ofNat (8 * k)).toUInt64 &&& Int64.toUInt64 63)).toInt64.toInt32.toInt8 = (lb v k).toInt8 := by
  rw [sh_u8 k hk, lb_8]
  apply Int8.toBitVec_inj.1
  ext i hi
  simp [UInt64.toBitVec_shiftRight, BitVec.getElem_signExtend, Nat.mod_eq_of_lt (by omega : 8 * k < 64)]
  omega
theorem lb_s {v : Int64} {k : Nat} (hk : k < 8) : (v >>> ((Int64.ofNat (8 * k)) &&& 63)).toInt32.toInt8 = (lb v k).toInt8 := by
  rw [sh_s8 k hk, lb_8]
  apply Int8.toBitVec_inj.1
  have e2 : ((Int64.ofNat (8 * k)).toBitVec.smod 64).toNat = 8 * k := by
    have : ∀ k, k < 8 → ((Int64.ofNat (8 * k)).toBitVec.smod 64).toNat = 8 * k := by decide
    exact this k hk
  have e3 : (v >>> Int64.ofNat (8 * k)).toBitVec = v.toBitVec.sshiftRight (8 * k) := by
    rw [Int64.toBitVec_shiftRight, BitVec.sshiftRight_eq', e2]
  ext i hi
  simp only [Int64.toBitVec_toInt32, Int32.toBitVec_toInt8, e3, BitVec.getElem_signExtend, BitVec.getLsbD_signExtend, Int8.toBitVec_ofBitVec, BitVec.getElem_extractLsb']
  rw [dif_pos (show i < 32 by omega), dif_pos (show i < 64 by omega), BitVec.getElem_sshiftRight, dif_pos (show 8 * k + i < 64 by omega)]
  exact (BitVec.getLsbD_eq_getElem _).symm
/-- a long out of bytes, the lowest first -/
def lt (f : Nat → Int32) (p : Nat) : Nat → Int64
  | 0 => Int64.ofNat 0
  | n + 1 => lt f p n ||| (((f (p + n)).toInt64 &&& Int64.ofNat 255) <<< Int64.ofNat (8 * n))
/-- THE CHECK, one bit -/
def ck1 (c : Int32) : Int32 := if c &&& Int32.ofNat 1 = Int32.ofNat 1 then (c.toUInt32 >>> ((Int32.ofNat 1).toUInt32 &&& Int32.toUInt32 31)).toInt32 ^^^ Int32.ofNat 3988292384 else (c.toUInt32 >>> ((Int32.ofNat 1).toUInt32 &&& Int32.toUInt32 31)).toInt32
def ck8 (c : Int32) : Int32 := ck1 (ck1 (ck1 (ck1 (ck1 (ck1 (ck1 (ck1 c)))))))
/-- THE CHECK of n bytes from p on -/
def ckr (f : Nat → Int32) : Nat → Nat → Int32 → Int32
  | _, 0, c => c
  | p, n + 1, c => ckr f (p + 1) n (ck8 (c ^^^ (f p &&& Int32.ofNat 255)))
def ck (f : Nat → Int32) (p n : Nat) : Int32 := ckr f p n (-1) ^^^ (-1)
/-- four bits at once, by the class's table -/
def ckt : List Int32 := [0x00000000, 0x1DB71064, 0x3B6E20C8, 0x26D930AC, 0x76DC4190, 0x6B6B51F4, 0x4DB26158, 0x5005713C,
        0xEDB88320, 0xF00F9344, 0xD6D6A3E8, 0xCB61B38C, 0x9B64C2B0, 0x86D3D2D4, 0xA00AE278, 0xBDBDF21C]
def ck4 (c : Int32) : Int32 := (c.toUInt32 >>> ((Int32.ofNat 4).toUInt32 &&& Int32.toUInt32 31)).toInt32 ^^^ ckt.getD (c &&& Int32.ofNat 15).toNatClampNeg 0
/-! on bits -/
def bk1 (c : BitVec 32) : BitVec 32 := (c >>> 1) ^^^ (if c[0] then 3988292384#32 else 0#32)
theorem bk1_x (a b : BitVec 32) : bk1 (a ^^^ b) = bk1 a ^^^ bk1 b := by
  unfold bk1
  rw [BitVec.ushiftRight_xor_distrib, BitVec.getElem_xor]
  apply BitVec.eq_of_getElem_eq
  intro i hi
  cases a[0] <;> cases b[0] <;> simp only [Bool.xor_false, Bool.xor_true, Bool.not_false, Bool.not_true, Bool.false_eq_true, reduceIte, BitVec.getElem_xor] <;> cases (a >>> 1)[i] <;> cases (b >>> 1)[i] <;> simp <;> cases (3988292384#32)[i] <;> rfl
theorem bk1_h (a : BitVec 32) (h : a[0] = false) : bk1 a = a >>> 1 := by simp [bk1, h]
theorem ck1_b (c : Int32) : (ck1 c).toBitVec = bk1 c.toBitVec := by
  have e : (c &&& Int32.ofNat 1 = Int32.ofNat 1) ↔ c.toBitVec[0] = true := by
    rw [← Int32.toBitVec_inj]
    constructor
    · intro h
      have := congrArg (fun b : BitVec 32 => b[0]) h
      simpa using this
    · intro h
      apply BitVec.eq_of_getElem_eq
      intro i hi
      have e1 : (Int32.ofNat 1).toBitVec = 1#32 := rfl
      rw [Int32.toBitVec_and, e1, BitVec.getElem_and, BitVec.getElem_one]
      by_cases hz : i = 0
      · subst hz; simp [h]
      · simp [hz]
  have s : ((c.toUInt32 >>> ((Int32.ofNat 1).toUInt32 &&& Int32.toUInt32 31)).toInt32).toBitVec = c.toBitVec >>> 1 := rfl
  unfold ck1 bk1
  by_cases h : c &&& Int32.ofNat 1 = Int32.ofNat 1
  · rw [if_pos h, if_pos (e.1 h), Int32.toBitVec_xor, s]; rfl
  · rw [if_neg h, if_neg (fun z => h (e.2 z)), s]; simp
theorem bk4_h (a : BitVec 32) (h0 : a[0] = false) (h1 : a[1] = false) (h2 : a[2] = false) (h3 : a[3] = false) : bk1 (bk1 (bk1 (bk1 a))) = a >>> 4 := by
  have e1 : bk1 a = a >>> 1 := bk1_h a h0
  have e2 : bk1 (a >>> 1) = a >>> 2 := (bk1_h (a >>> 1) (by simp [h1])).trans (BitVec.shiftRight_add a 1 1).symm
  have e3 : bk1 (a >>> 2) = a >>> 3 := (bk1_h (a >>> 2) (by simp [h2])).trans (BitVec.shiftRight_add a 2 1).symm
  have e4 : bk1 (a >>> 3) = a >>> 4 := (bk1_h (a >>> 3) (by simp [h3])).trans (BitVec.shiftRight_add a 3 1).symm
  rw [e1, e2, e3, e4]
theorem bk_m1 : ∀ i : Fin 32, (4294967280#32).getLsbD i.val = !(15#32).getLsbD i.val := by decide
theorem bk_m2 : ∀ i : Fin 28, (4294967280#32).getLsbD (4 + i.val) = true := by decide
theorem bk4_l : ∀ b : Fin 16, bk1 (bk1 (bk1 (bk1 (BitVec.ofNat 32 b.val)))) = (ckt.getD b.val 0).toBitVec := by decide
theorem bk4 (c : BitVec 32) : bk1 (bk1 (bk1 (bk1 c))) = (c >>> 4) ^^^ (ckt.getD (c.toNat % 16) 0).toBitVec := by
  have e : c = (c &&& 4294967280#32) ^^^ (c &&& 15#32) := by
    apply BitVec.eq_of_getLsbD_eq
    intro i hi
    have h := bk_m1 ⟨i, hi⟩
    simp only [] at h
    rw [BitVec.getLsbD_xor, BitVec.getLsbD_and, BitVec.getLsbD_and, h]
    cases c.getLsbD i <;> cases (15#32).getLsbD i <;> rfl
  have l : c &&& 15#32 = BitVec.ofNat 32 (c.toNat % 16) := by
    apply BitVec.eq_of_toNat_eq
    have : c.toNat &&& 15 = c.toNat % 16 := Nat.and_two_pow_sub_one_eq_mod c.toNat 4
    simp [this]
    omega
  have hl := bk4_l ⟨c.toNat % 16, Nat.mod_lt _ (by decide)⟩
  simp only [] at hl
  have hh := bk4_h (c &&& 4294967280#32) (by simp) (by simp) (by simp) (by simp)
  have s4 : (c &&& 4294967280#32) >>> 4 = c >>> 4 := by
    apply BitVec.eq_of_getLsbD_eq
    intro i hi
    rw [BitVec.getLsbD_ushiftRight, BitVec.getLsbD_ushiftRight, BitVec.getLsbD_and]
    by_cases h : i < 28
    · have h := bk_m2 ⟨i, h⟩
      simp only [] at h
      rw [h, Bool.and_true]
    · rw [BitVec.getLsbD_of_ge c (4 + i) (by omega), Bool.false_and]
  conv => lhs; rw [e]
  rw [bk1_x, bk1_x, bk1_x, bk1_x, hh, s4, l, hl]
theorem ck4_ok (c : Int32) : ck4 c = ck1 (ck1 (ck1 (ck1 c))) := by
  apply Int32.toBitVec_inj.1
  rw [ck1_b, ck1_b, ck1_b, ck1_b, bk4]
  unfold ck4
  rw [Int32.toBitVec_xor]
  have e : (c &&& Int32.ofNat 15).toNatClampNeg = c.toBitVec.toNat % 16 := by
    have : (c &&& Int32.ofNat 15).toBitVec.toNat = c.toBitVec.toNat % 16 := by
      have h : c.toBitVec.toNat &&& 15 = c.toBitVec.toNat % 16 := Nat.and_two_pow_sub_one_eq_mod c.toBitVec.toNat 4
      rw [Int32.toBitVec_and, BitVec.toNat_and]
      exact h
    rw [← this, Int32.toNatClampNeg, Int32.toInt, BitVec.toInt_eq_toNat_of_lt (by omega)]
    rfl
  rw [e]
  rfl
theorem ck44 (c : Int32) : ck4 (ck4 c) = ck8 c := by rw [ck4_ok, ck4_ok]; rfl
theorem ck4_ix (c : Int32) : ∃ k, k < 16 ∧ c &&& Int32.ofNat 15 = Int32.ofNat k := ⟨c.toBitVec.toNat % 16, Nat.mod_lt _ (by decide), by
  apply Int32.toBitVec_inj.1
  apply BitVec.eq_of_toNat_eq
  have h : c.toBitVec.toNat &&& 15 = c.toBitVec.toNat % 16 := Nat.and_two_pow_sub_one_eq_mod c.toBitVec.toNat 4
  rw [Int32.toBitVec_and, BitVec.toNat_and]
  refine h.trans ?_
  simp
  omega⟩
