/-! ===== the small machine, its pure part: what an instruction does to stack and locals, and that the machine does so ===== -/
def am_pu : Instr → List Value → Option (List Value)
  | .iconst n, st => some (.int (Int32.ofInt n) :: st)
  | .bipush n, st => some (.int (Int8.ofInt n).toInt32 :: st)
  | .sipush n, st => some (.int (Int16.ofInt n).toInt32 :: st)
  | .lconst n, st => some (.long (Int64.ofNat (n : Nat)) :: st)
  | .aconst_null, st => some (.null :: st)
  | .iadd, .int y :: .int x :: st => some (.int (x + y) :: st)
  | .isub, .int y :: .int x :: st => some (.int (x - y) :: st)
  | .imul, .int y :: .int x :: st => some (.int (x * y) :: st)
  | .iand, .int y :: .int x :: st => some (.int (x &&& y) :: st)
  | .ior, .int y :: .int x :: st => some (.int (x ||| y) :: st)
  | .ixor, .int y :: .int x :: st => some (.int (x ^^^ y) :: st)
  | .ishl, .int y :: .int x :: st => some (.int (x <<< (y &&& 31)) :: st)
  | .ishr, .int y :: .int x :: st => some (.int (x >>> (y &&& 31)) :: st)
  | .iushr, .int y :: .int x :: st => some (.int (x.toUInt32 >>> (y.toUInt32 &&& Int32.toUInt32 31)).toInt32 :: st)
  | .ladd, .long y :: .long x :: st => some (.long (x + y) :: st)
  | .lsub, .long y :: .long x :: st => some (.long (x - y) :: st)
  | .land, .long y :: .long x :: st => some (.long (x &&& y) :: st)
  | .lor, .long y :: .long x :: st => some (.long (x ||| y) :: st)
  | .lshl, .int y :: .long x :: st => some (.long (x <<< (y.toInt64 &&& 63)) :: st)
  | .lshr, .int y :: .long x :: st => some (.long (x >>> (y.toInt64 &&& 63)) :: st)
  | .lushr, .int y :: .long x :: st => some (.long (x.toUInt64 >>> (y.toInt64.toUInt64 &&& Int64.toUInt64 63)).toInt64 :: st)
  | .i2l, .int x :: st => some (.long x.toInt64 :: st)
  | .l2i, .long x :: st => some (.int x.toInt32 :: st)
  | .i2b, .int x :: st => some (.int x.toInt8.toInt32 :: st)
  | .i2c, .int x :: st => some (.int (x.toUInt32 % 65536).toInt32 :: st)
  | .lcmp, .long y :: .long x :: st => some (.int (lg_cmp x y) :: st)
  | .dup, .int x :: st => some (.int x :: .int x :: st)
  | .dup, .ref x :: st => some (.ref x :: .ref x :: st)
  | .dup2, .int x :: .ref y :: st => some (.int x :: .ref y :: .int x :: .ref y :: st)
  | .pop, .int _ :: st => some st
  | .pop, .ref _ :: st => some st
  | .pop2, .long _ :: st => some st
  | _, _ => none
def am_pl : Instr → Nat
  | .bipush _ => 2
  | .sipush _ => 3
  | _ => 1
section AMP
variable {p : Program} {l : Launch} {e : Env} {R : Room} {s : State} {m : MethodId} {args : Array Value} {below : List Frame} {meth : Method} {c : Code} {H : Heap} {locs : List Loc} {cells slots : Nat} {Q : State → Prop}
variable {cc : ByteArray} {pc : Nat} {ls : Array Slot} {st st' : List Value}
set_option maxHeartbeats 2000000 in
theorem am_pu_ok (hx : p.tables.exec = Jvm.exec) (hb : c.code = cc) {i : Instr} {n : Nat} (hd : decode cc pc = .ok (i, n)) (hn : am_pl i = n) (h : am_pu i st = some st')
    (k : W p l e R s m args below meth c H locs cells slots Q (F0 m (pc + n) ls st')) : W p l e R s m args below meth c H locs cells slots Q (F0 m pc ls st) := by
  subst hn
  unfold am_pu at h
  split at h <;> first | (cases h; done) | (simp only [Option.some.injEq] at h; subst h)
  · exact lv_iconst hx hb hd rfl k
  · exact lv_bipush hx hb hd rfl k
  · exact lv_sipush hx hb hd rfl k
  · exact lv_lconst hx hb hd rfl k
  · exact lv_null hx hb hd k
  · exact lv_iadd hx hb hd k
  · exact lv_isub hx hb hd k
  · exact lv_imul hx hb hd k
  · exact lv_iand hx hb hd k
  · exact lv_ior hx hb hd k
  · exact lv_ixor hx hb hd k
  · exact lv_ishl hx hb hd k
  · exact lv_ishr hx hb hd k
  · exact lv_iushr hx hb hd rfl k
  · exact lv_ladd hx hb hd k
  · exact lv_lsub hx hb hd k
  · exact lv_land hx hb hd k
  · exact lv_lor hx hb hd k
  · exact lv_lshl hx hb hd rfl k
  · exact lv_lshr hx hb hd rfl k
  · exact lv_lushr hx hb hd rfl k
  · exact lv_i2l hx hb hd rfl k
  · exact lv_l2i hx hb hd rfl k
  · exact lv_i2b hx hb hd rfl k
  · exact lv_i2c hx hb hd rfl k
  · exact W.lcmp hx hb hd k
  · exact lv_dup hx hb hd rfl k
  · exact lv_dup hx hb hd rfl k
  · exact lv_dup2_11 hx hb hd rfl rfl k
  · exact lv_pop hx hb hd rfl k
  · exact lv_pop hx hb hd rfl k
  · exact lv_pop2_2 hx hb hd rfl k
end AMP
/-! branches -/
def am_br : Instr → List Value → Option (Prop × List Value)
  | .ifCond .eq _, .int x :: st => some (x = 0, st)
  | .ifCond .ne _, .int x :: st => some (¬ x = 0, st)
  | .ifCond .lt _, .int x :: st => some (x < 0, st)
  | .ifCond .ge _, .int x :: st => some (0 ≤ x, st)
  | .ifCond .gt _, .int x :: st => some (0 < x, st)
  | .ifCond .le _, .int x :: st => some (x ≤ 0, st)
  | .if_icmp .eq _, .int y :: .int x :: st => some (x = y, st)
  | .if_icmp .ne _, .int y :: .int x :: st => some (¬ x = y, st)
  | .if_icmp .lt _, .int y :: .int x :: st => some (x < y, st)
  | .if_icmp .ge _, .int y :: .int x :: st => some (y ≤ x, st)
  | .if_icmp .gt _, .int y :: .int x :: st => some (y < x, st)
  | .if_icmp .le _, .int y :: .int x :: st => some (x ≤ y, st)
  | .ifnull _, .ref _ :: st => some (False, st)
  | .ifnull _, .null :: st => some (True, st)
  | .ifnonnull _, .ref _ :: st => some (True, st)
  | .ifnonnull _, .null :: st => some (False, st)
  | .goto _, st => some (True, st)
  | _, _ => none
def am_off : Instr → Int
  | .ifCond _ o => o
  | .if_icmp _ o => o
  | .ifnull o => o
  | .ifnonnull o => o
  | .goto o => o
  | _ => 0
section AMB
variable {p : Program} {l : Launch} {e : Env} {R : Room} {s : State} {m : MethodId} {args : Array Value} {below : List Frame} {meth : Method} {c : Code} {H : Heap} {locs : List Loc} {cells slots : Nat} {Q : State → Prop}
variable {cc : ByteArray} {pc : Nat} {ls : Array Slot} {st st' : List Value}
set_option maxHeartbeats 2000000 in
theorem am_br_ok (hx : p.tables.exec = Jvm.exec) (hb : c.code = cc) {i : Instr} {n tg : Nat} (hd : decode cc pc = .ok (i, n)) (hn : n = 3) (ht : (pc : Int) + am_off i = (tg : Int)) {b : Prop} (h : am_br i st = some (b, st'))
    (kt : b → W p l e R s m args below meth c H locs cells slots Q (F0 m tg ls st')) (kf : ¬ b → W p l e R s m args below meth c H locs cells slots Q (F0 m (pc + 3) ls st')) : W p l e R s m args below meth c H locs cells slots Q (F0 m pc ls st) := by
  subst hn
  unfold am_br at h
  split at h <;> first | (cases h; done) | (simp only [Option.some.injEq, Prod.mk.injEq] at h; obtain ⟨h1, h2⟩ := h; subst h1; subst h2)
  · exact lv_if_eq hx hb hd ht kt kf
  · exact lv_if_ne hx hb hd ht kt (fun q => kf (fun z => z q))
  · exact lv_if_lt hx hb hd ht kt kf
  · exact lv_if_ge hx hb hd ht kt kf
  · exact lv_if_gt hx hb hd ht kt kf
  · exact lv_if_le hx hb hd ht kt kf
  · exact lv_icmp_eq hx hb hd ht kt kf
  · exact lv_icmp_ne hx hb hd ht kt (fun q => kf (fun z => z q))
  · exact lv_icmp_lt hx hb hd ht kt kf
  · exact lv_icmp_ge hx hb hd ht kt kf
  · exact lv_icmp_gt hx hb hd ht kt kf
  · exact lv_icmp_le hx hb hd ht kt kf
  · exact lv_ifnull hx hb hd (kf (fun z => z))
  · exact lv_ifnullN hx hb hd ht (kt trivial)
  · exact lv_ifnonnull hx hb hd ht (kt trivial)
  · exact lv_ifnonnullN hx hb hd (kf (fun z => z))
  · exact lv_goto hx hb hd ht (kt trivial)
end AMB
/-! locals: a list, a place a slot; a long has none behind it -/
def am_kl (al : List (Option Value)) (i : Nat) : List (Option Value) := match i with
  | 0 => al
  | j + 1 => match al[j]? with
    | some (some (.long _)) => al.set j none
    | some (some (.double _)) => al.set j none
    | _ => al
def am_s1 (al : List (Option Value)) (i : Nat) (v : Value) : List (Option Value) := (am_kl al i).set i (some v)
def am_s2 (al : List (Option Value)) (i : Nat) (v : Value) : List (Option Value) := ((am_kl al i).set i (some v)).set (i + 1) none
def am_lv (ls : Array Slot) (nL : Nat) (al : List (Option Value)) : Prop := ls.size = nL ∧ lv_wf ls ∧ al.length = nL ∧ ∀ (i : Nat) (v : Value), al[i]? = some (some v) → ls[i]? = some (.val v)
def am_al : Nat → List (Option Value) → List (Nat × Value)
  | _, [] => []
  | k, some v :: r => (k, v) :: am_al (k + 1) r
  | k, none :: r => am_al (k + 1) r
theorem am_al_mem : ∀ (al : List (Option Value)) (k i : Nat) (v : Value), (i, v) ∈ am_al k al ↔ k ≤ i ∧ al[i - k]? = some (some v)
  | [], k, i, v => by simp [am_al]
  | none :: r, k, i, v => by
    rw [am_al, am_al_mem r (k + 1) i v]
    by_cases h : k = i
    · subst h
      simp; omega
    · by_cases h2 : k ≤ i
      · have e : i - k = (i - (k + 1)) + 1 := by omega
        rw [e, List.getElem?_cons_succ]
        constructor
        · intro q; exact ⟨h2, q.2⟩
        · intro q; exact ⟨by omega, q.2⟩
      · constructor
        · intro q; omega
        · intro q; omega
  | some w :: r, k, i, v => by
    rw [am_al, List.mem_cons, am_al_mem r (k + 1) i v]
    by_cases h : k = i
    · subst h
      simp only [Nat.sub_self, List.getElem?_cons_zero, Option.some.injEq, Prod.mk.injEq, true_and, Nat.le_refl]
      constructor
      · rintro (q | ⟨q, -⟩)
        · exact q.symm
        · omega
      · intro q; exact Or.inl q.symm
    · by_cases h2 : k ≤ i
      · have e : i - k = (i - (k + 1)) + 1 := by omega
        rw [e, List.getElem?_cons_succ]
        constructor
        · rintro (q | q)
          · exact absurd (Prod.mk.inj q).1.symm h
          · exact ⟨h2, q.2⟩
        · intro q; exact Or.inr ⟨by omega, q.2⟩
      · constructor
        · rintro (q | q)
          · exact absurd (Prod.mk.inj q).1.symm h
          · omega
        · intro q; omega
theorem am_lv.has {ls : Array Slot} {nL : Nat} {al : List (Option Value)} (h : am_lv ls nL al) : lv_has ls nL (am_al 0 al) := by
  refine ⟨h.1, h.2.1, fun q hq => ?_⟩
  obtain ⟨i, v⟩ := q
  exact h.2.2.2 i v ((am_al_mem al 0 i v).mp hq).2
theorem am_kl_len (al : List (Option Value)) (i : Nat) : (am_kl al i).length = al.length := by
  unfold am_kl
  split
  · rfl
  · split <;> simp
theorem am_kl_get {al : List (Option Value)} {i j : Nat} {v : Value} (h : (am_kl al i)[j]? = some (some v)) : al[j]? = some (some v) ∧ ¬ (j + 1 = i ∧ v.category = 2) := by
  unfold am_kl at h
  split at h
  · exact ⟨h, fun q => by omega⟩
  · rename_i k
    have key : ∀ w : Value, al[k]? = some (some w) → ¬ w.category = 2 → al[j]? = some (some v) → al[j]? = some (some v) ∧ ¬ (j + 1 = k + 1 ∧ v.category = 2) := by
      intro w hw hc hj
      refine ⟨hj, fun q => ?_⟩
      have : j = k := by omega
      subst this
      rw [hw] at hj
      simp only [Option.some.injEq] at hj
      subst hj
      exact hc q.2
    split at h
    · rename_i w hw
      by_cases hj : j = k
      · subst hj
        rw [List.getElem?_set_self' ] at h
        simp [hw] at h
      · rw [List.getElem?_set_ne (Ne.symm hj)] at h
        exact ⟨h, fun q => by omega⟩
    · rename_i w hw
      by_cases hj : j = k
      · subst hj
        rw [List.getElem?_set_self' ] at h
        simp [hw] at h
      · rw [List.getElem?_set_ne (Ne.symm hj)] at h
        exact ⟨h, fun q => by omega⟩
    · rename_i n1 n2
      by_cases hj : j = k
      · subst hj
        cases v with
        | long x => exact absurd h (n1 x)
        | double x => exact absurd h (n2 x)
        | _ => exact ⟨h, fun q => by simp [Value.category] at q⟩
      · exact ⟨h, fun q => by omega⟩
theorem am_lv.s1 {ls : Array Slot} {nL : Nat} {al : List (Option Value)} {i : Nat} {v : Value} {lv' : List (Nat × Value)} (h : am_lv ls nL al) {ls' : Array Slot} (h' : lv_has ls' nL ((i, v) :: (am_al 0 al).filter (fun q => !(q.1 == i) && !(q.1 + 1 == i && q.2.category == 2)))) : am_lv ls' nL (am_s1 al i v) := by
  refine ⟨h'.1, h'.2.1, by simp [am_s1, am_kl_len, h.2.2.1], fun j w hj => ?_⟩
  unfold am_s1 at hj
  by_cases hji : j = i
  · subst hji
    rw [List.getElem?_set_self'] at hj
    cases hq : (am_kl al j)[j]? with
    | none => rw [hq] at hj; simp at hj
    | some z =>
      rw [hq] at hj
      simp at hj
      subst hj
      exact h'.2.2 (j, v) List.mem_cons_self
  · rw [List.getElem?_set_ne (Ne.symm hji)] at hj
    obtain ⟨a, b⟩ := am_kl_get hj
    refine h'.2.2 (j, w) (List.mem_cons_of_mem _ (List.mem_filter.mpr ⟨(am_al_mem al 0 j w).mpr ⟨Nat.zero_le _, a⟩, ?_⟩))
    simp only [Bool.and_eq_true, Bool.not_eq_true', beq_eq_false_iff_ne, ne_eq, Bool.and_eq_false_imp, beq_iff_eq]
    exact ⟨hji, fun q => fun z => b ⟨q, z⟩⟩
theorem am_lv.s2 {ls : Array Slot} {nL : Nat} {al : List (Option Value)} {i : Nat} {v : Value} (h : am_lv ls nL al) {ls' : Array Slot} (h' : lv_has ls' nL ((i, v) :: (am_al 0 al).filter (fun q => !(q.1 == i) && (!(q.1 == i + 1) && !(q.1 + 1 == i && q.2.category == 2))))) : am_lv ls' nL (am_s2 al i v) := by
  refine ⟨h'.1, h'.2.1, by simp [am_s2, am_kl_len, h.2.2.1], fun j w hj => ?_⟩
  unfold am_s2 at hj
  by_cases hj1 : j = i + 1
  · subst hj1
    rw [List.getElem?_set_self'] at hj
    cases hq : ((am_kl al i).set i (some v))[i + 1]? with
    | none => rw [hq] at hj; simp at hj
    | some z => rw [hq] at hj; simp at hj
  · rw [List.getElem?_set_ne (Ne.symm hj1)] at hj
    by_cases hji : j = i
    · subst hji
      rw [List.getElem?_set_self'] at hj
      cases hq : (am_kl al j)[j]? with
      | none => rw [hq] at hj; simp at hj
      | some z =>
        rw [hq] at hj
        simp at hj
        subst hj
        exact h'.2.2 (j, v) List.mem_cons_self
    · rw [List.getElem?_set_ne (Ne.symm hji)] at hj
      obtain ⟨a, b⟩ := am_kl_get hj
      refine h'.2.2 (j, w) (List.mem_cons_of_mem _ (List.mem_filter.mpr ⟨(am_al_mem al 0 j w).mpr ⟨Nat.zero_le _, a⟩, ?_⟩))
      simp only [Bool.and_eq_true, Bool.not_eq_true', beq_eq_false_iff_ne, ne_eq, Bool.and_eq_false_imp, beq_iff_eq]
      exact ⟨hji, hj1, fun q => fun z => b ⟨q, z⟩⟩
/-- loads, stores, iinc -/
def am_lo : Instr → List (Option Value) → List Value → Option (List (Option Value) × List Value)
  | .iload i, al, st => match al[i]? with
    | some (some (.int x)) => some (al, .int x :: st)
    | _ => none
  | .iload_n i, al, st => match al[(i : Nat)]? with
    | some (some (.int x)) => some (al, .int x :: st)
    | _ => none
  | .lload i, al, st => match al[i]? with
    | some (some (.long x)) => some (al, .long x :: st)
    | _ => none
  | .lload_n i, al, st => match al[(i : Nat)]? with
    | some (some (.long x)) => some (al, .long x :: st)
    | _ => none
  | .aload i, al, st => match al[i]? with
    | some (some (.ref x)) => some (al, .ref x :: st)
    | some (some .null) => some (al, .null :: st)
    | _ => none
  | .aload_n i, al, st => match al[(i : Nat)]? with
    | some (some (.ref x)) => some (al, .ref x :: st)
    | some (some .null) => some (al, .null :: st)
    | _ => none
  | .istore i, al, .int x :: st => if i < al.length then some (am_s1 al i (.int x), st) else none
  | .istore_n i, al, .int x :: st => if (i : Nat) < al.length then some (am_s1 al i (.int x), st) else none
  | .lstore i, al, .long x :: st => if i + 1 < al.length then some (am_s2 al i (.long x), st) else none
  | .lstore_n i, al, .long x :: st => if (i : Nat) + 1 < al.length then some (am_s2 al i (.long x), st) else none
  | .astore i, al, .ref x :: st => if i < al.length then some (am_s1 al i (.ref x), st) else none
  | .astore_n i, al, .ref x :: st => if (i : Nat) < al.length then some (am_s1 al i (.ref x), st) else none
  | .astore i, al, .null :: st => if i < al.length then some (am_s1 al i .null, st) else none
  | .astore_n i, al, .null :: st => if (i : Nat) < al.length then some (am_s1 al i .null, st) else none
  | .iinc i n, al, st => match al[i]? with
    | some (some (.int x)) => some (am_s1 al i (.int (x + Int32.ofInt n)), st)
    | _ => none
  | _, _, _ => none
def am_ll : Instr → Nat
  | .iload _ => 2
  | .lload _ => 2
  | .aload _ => 2
  | .istore _ => 2
  | .lstore _ => 2
  | .astore _ => 2
  | .iinc _ _ => 3
  | _ => 1
section AML
variable {p : Program} {l : Launch} {e : Env} {R : Room} {s : State} {m : MethodId} {args : Array Value} {below : List Frame} {meth : Method} {c : Code} {H : Heap} {locs : List Loc} {cells slots : Nat} {Q : State → Prop}
variable {cc : ByteArray} {pc nL : Nat} {ls : Array Slot} {st st' : List Value} {al al' : List (Option Value)}
set_option maxHeartbeats 4000000 in
theorem am_lo_ok (hx : p.tables.exec = Jvm.exec) (hb : c.code = cc) {i : Instr} {n : Nat} (hd : decode cc pc = .ok (i, n)) (hn : am_ll i = n) (hl : am_lv ls nL al) (h : am_lo i al st = some (al', st'))
    (k : ∀ ls' : Array Slot, am_lv ls' nL al' → W p l e R s m args below meth c H locs cells slots Q (F0 m (pc + n) ls' st')) : W p l e R s m args below meth c H locs cells slots Q (F0 m pc ls st) := by
  subst hn
  unfold am_lo at h
  split at h
  · split at h <;> first | (cases h; done) | (simp only [Option.some.injEq, Prod.mk.injEq] at h; obtain ⟨h1, h2⟩ := h; subst h1; subst h2)
    rename_i q; exact lv_iload hx hb hd (hl.2.2.2 _ _ q) (k ls hl)
  · split at h <;> first | (cases h; done) | (simp only [Option.some.injEq, Prod.mk.injEq] at h; obtain ⟨h1, h2⟩ := h; subst h1; subst h2)
    rename_i q; exact lv_iload_n hx hb hd rfl (hl.2.2.2 _ _ q) (k ls hl)
  · split at h <;> first | (cases h; done) | (simp only [Option.some.injEq, Prod.mk.injEq] at h; obtain ⟨h1, h2⟩ := h; subst h1; subst h2)
    rename_i q; exact lv_lload hx hb hd (hl.2.2.2 _ _ q) (k ls hl)
  · split at h <;> first | (cases h; done) | (simp only [Option.some.injEq, Prod.mk.injEq] at h; obtain ⟨h1, h2⟩ := h; subst h1; subst h2)
    rename_i q; exact lv_lload_n hx hb hd rfl (hl.2.2.2 _ _ q) (k ls hl)
  · split at h <;> first | (cases h; done) | (simp only [Option.some.injEq, Prod.mk.injEq] at h; obtain ⟨h1, h2⟩ := h; subst h1; subst h2)
    · rename_i q; exact lv_aload hx hb hd (hl.2.2.2 _ _ q) (k ls hl)
    · rename_i q; exact lv_aloadN hx hb hd (hl.2.2.2 _ _ q) (k ls hl)
  · split at h <;> first | (cases h; done) | (simp only [Option.some.injEq, Prod.mk.injEq] at h; obtain ⟨h1, h2⟩ := h; subst h1; subst h2)
    · rename_i q; exact lv_aload_n hx hb hd rfl (hl.2.2.2 _ _ q) (k ls hl)
    · rename_i q; exact lv_aload_nN hx hb hd rfl (hl.2.2.2 _ _ q) (k ls hl)
  · split at h <;> first | (cases h; done) | (simp only [Option.some.injEq, Prod.mk.injEq] at h; obtain ⟨h1, h2⟩ := h; subst h1; subst h2)
    rename_i q; exact lv_istore hx hb hd hl.has (by rw [← hl.2.2.1]; exact q) rfl (fun ls' h' => k ls' (hl.s1 (lv' := []) h'))
  · split at h <;> first | (cases h; done) | (simp only [Option.some.injEq, Prod.mk.injEq] at h; obtain ⟨h1, h2⟩ := h; subst h1; subst h2)
    rename_i q; exact lv_istore_n hx hb hd rfl hl.has (by rw [← hl.2.2.1]; exact q) rfl (fun ls' h' => k ls' (hl.s1 (lv' := []) h'))
  · split at h <;> first | (cases h; done) | (simp only [Option.some.injEq, Prod.mk.injEq] at h; obtain ⟨h1, h2⟩ := h; subst h1; subst h2)
    rename_i q; exact lv_lstore hx hb hd hl.has (by rw [← hl.2.2.1]; exact q) rfl (fun ls' h' => k ls' (hl.s2 h'))
  · split at h <;> first | (cases h; done) | (simp only [Option.some.injEq, Prod.mk.injEq] at h; obtain ⟨h1, h2⟩ := h; subst h1; subst h2)
    rename_i q; exact lv_lstore_n hx hb hd rfl hl.has (by rw [← hl.2.2.1]; exact q) rfl (fun ls' h' => k ls' (hl.s2 h'))
  · split at h <;> first | (cases h; done) | (simp only [Option.some.injEq, Prod.mk.injEq] at h; obtain ⟨h1, h2⟩ := h; subst h1; subst h2)
    rename_i q; exact lv_astore hx hb hd hl.has (by rw [← hl.2.2.1]; exact q) rfl (fun ls' h' => k ls' (hl.s1 (lv' := []) h'))
  · split at h <;> first | (cases h; done) | (simp only [Option.some.injEq, Prod.mk.injEq] at h; obtain ⟨h1, h2⟩ := h; subst h1; subst h2)
    rename_i q; exact lv_astore_n hx hb hd rfl hl.has (by rw [← hl.2.2.1]; exact q) rfl (fun ls' h' => k ls' (hl.s1 (lv' := []) h'))
  · split at h <;> first | (cases h; done) | (simp only [Option.some.injEq, Prod.mk.injEq] at h; obtain ⟨h1, h2⟩ := h; subst h1; subst h2)
    rename_i q; exact lv_astoreN hx hb hd hl.has (by rw [← hl.2.2.1]; exact q) rfl (fun ls' h' => k ls' (hl.s1 (lv' := []) h'))
  · split at h <;> first | (cases h; done) | (simp only [Option.some.injEq, Prod.mk.injEq] at h; obtain ⟨h1, h2⟩ := h; subst h1; subst h2)
    rename_i q; exact lv_astore_nN hx hb hd rfl hl.has (by rw [← hl.2.2.1]; exact q) rfl (fun ls' h' => k ls' (hl.s1 (lv' := []) h'))
  · split at h <;> first | (cases h; done) | (simp only [Option.some.injEq, Prod.mk.injEq] at h; obtain ⟨h1, h2⟩ := h; subst h1; subst h2)
    rename_i q
    obtain ⟨k0, hk0⟩ := List.getElem?_of_mem ((am_al_mem al 0 _ _).mpr ⟨Nat.zero_le _, q⟩)
    exact lv_iinc hx hb hd hl.has hk0 rfl (by rw [← hl.2.2.1]; exact (List.getElem?_eq_some_iff.mp q).1) rfl (fun ls' h' => k ls' (hl.s1 (lv' := []) h'))
  · cases h
end AML
/-- the locals with which a method begins -/
def am_ea : List Value → List (Option Value)
  | [] => []
  | .long x :: r => some (.long x) :: none :: am_ea r
  | .double x :: r => some (.double x) :: none :: am_ea r
  | v :: r => some v :: am_ea r
def am_en (vs : List Value) (n : Nat) : List (Option Value) := am_ea vs ++ List.replicate (n - (am_ea vs).length) none
