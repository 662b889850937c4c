/-- the classes whose objects the heap holds -/
abbrev am_cl : List vw_C := [(RX0, TX0, 3), (RX1, TX1, 4), (RX2, TX2, 5), (RX3, TX3, 2), (RX4, TX4, 13), (RX5, TX5, 15), (RX6, TX6, 3), (RX7, TX7, 3), (RX8, TX8, 7), (RX9, TX9, 6), (RX10, TX10, 63)]
/-- kinds of their fields: 0 int, 1 long, 2 a reference, 3 boolean -/
def am_tt : List (List Nat) := [[2, 0, 2], [2, 2, 0, 3], [2, 0, 0, 0, 0], [2, 2], [2, 0, 2, 0, 0, 0, 3, 3, 1, 3, 0, 0, 3], [2, 0, 2, 2, 2, 2, 2, 0, 2, 2, 2, 2, 2, 2, 2], [2, 0, 3], [2, 2, 2], [2, 2, 2, 2, 0, 0, 0], [2, 2, 2, 2, 2, 2], [0, 0, 2, 2, 2, 2, 2, 2, 2, 2, 2, 2, 2, 2, 2, 2, 2, 2, 2, 0, 0, 2, 2, 2, 0, 2, 2, 0, 0, 0, 0, 2, 2, 2, 2, 2, 2, 2, 2, 2, 2, 0, 2, 2, 2, 2, 2, 2, 2, 2, 2, 0, 2, 2, 2, 2, 2, 2, 2, 2, 2, 0, 1]]
def am_t (ci k : Nat) : Nat := (am_tt.getD ci []).getD k 0
def am_n (ci : Nat) : Nat := (am_tt.getD ci []).length
/-- the heap as the proofs see it: kinds (0: nothing; class + 1; 21 int[], 22 long[], 23 byte[], 24 boolean[], 25 char[], 26 Entry[], 27 Block[]; 31 an int[] that nobody writes), fields of ints, longs, references by class, field, address; lengths; contents of ints, longs, references -/
abbrev am_H : Type := (Nat → Nat) × (Nat → Nat → Nat → Int32) × (Nat → Nat → Nat → Int64) × (Nat → Nat → Nat → Option Nat) × (Nat → Nat) × (Nat → Nat → Int32) × (Nat → Nat → Int64) × (Nat → Nat → Option Nat) × Nat × Nat
def am_K (h : am_H) : Nat → Nat := h.1
def am_I (h : am_H) : Nat → Nat → Nat → Int32 := h.2.1
def am_J (h : am_H) : Nat → Nat → Nat → Int64 := h.2.2.1
def am_R (h : am_H) : Nat → Nat → Nat → Option Nat := h.2.2.2.1
def am_N (h : am_H) : Nat → Nat := h.2.2.2.2.1
def am_A (h : am_H) : Nat → Nat → Int32 := h.2.2.2.2.2.1
def am_B (h : am_H) : Nat → Nat → Int64 := h.2.2.2.2.2.2.1
def am_C (h : am_H) : Nat → Nat → Option Nat := h.2.2.2.2.2.2.2.1
/-- cells and slots that were made -/
def am_U (h : am_H) : Nat := h.2.2.2.2.2.2.2.2.1
def am_V (h : am_H) : Nat := h.2.2.2.2.2.2.2.2.2
abbrev am_LC : Nat := 603072
abbrev am_LS : Nat := 7190634
def am_u3 {α : Type} (f : Nat → Nat → Nat → α) (ci k a : Nat) (v : α) : Nat → Nat → Nat → α := fun c j b => if c = ci ∧ j = k ∧ b = a then v else f c j b
def am_u2 {α : Type} (f : Nat → Nat → α) (a i : Nat) (v : α) : Nat → Nat → α := fun b j => if b = a ∧ j = i then v else f b j
def am_sI (h : am_H) (ci k a : Nat) (v : Int32) : am_H := (am_K h, am_u3 (am_I h) ci k a v, am_J h, am_R h, am_N h, am_A h, am_B h, am_C h, am_U h, am_V h)
def am_sJ (h : am_H) (ci k a : Nat) (v : Int64) : am_H := (am_K h, am_I h, am_u3 (am_J h) ci k a v, am_R h, am_N h, am_A h, am_B h, am_C h, am_U h, am_V h)
def am_sR (h : am_H) (ci k a : Nat) (v : Option Nat) : am_H := (am_K h, am_I h, am_J h, am_u3 (am_R h) ci k a v, am_N h, am_A h, am_B h, am_C h, am_U h, am_V h)
def am_sA (h : am_H) (a i : Nat) (v : Int32) : am_H := (am_K h, am_I h, am_J h, am_R h, am_N h, am_u2 (am_A h) a i v, am_B h, am_C h, am_U h, am_V h)
def am_sB (h : am_H) (a i : Nat) (v : Int64) : am_H := (am_K h, am_I h, am_J h, am_R h, am_N h, am_A h, am_u2 (am_B h) a i v, am_C h, am_U h, am_V h)
def am_sC (h : am_H) (a i : Nat) (v : Option Nat) : am_H := (am_K h, am_I h, am_J h, am_R h, am_N h, am_A h, am_B h, am_u2 (am_C h) a i v, am_U h, am_V h)
/-- a row of ints as a whole -/
def am_cA (h : am_H) (a : Nat) (f : Nat → Int32) : am_H := (am_K h, am_I h, am_J h, am_R h, am_N h, va_up (am_A h) a f, am_B h, am_C h, am_U h, am_V h)
/-- a new object, a new array at q -/
def am_nO (h : am_H) (q ci : Nat) : am_H := (va_up (am_K h) q (ci + 1), (fun c j b => if b = q then 0 else am_I h c j b), (fun c j b => if b = q then 0 else am_J h c j b), (fun c j b => if b = q then none else am_R h c j b), am_N h, am_A h, am_B h, am_C h, am_U h + 1, am_V h + (am_tt.getD ci []).length)
def am_nA (h : am_H) (q k n : Nat) : am_H := (va_up (am_K h) q k, am_I h, am_J h, am_R h, va_up (am_N h) q n, va_up (am_A h) q (fun _ => 0), va_up (am_B h) q (fun _ => 0), va_up (am_C h) q (fun _ => none), am_U h + 1, am_V h + n)
/-- an exception, that is caught and forgotten -/
def am_nX (h : am_H) : am_H := (am_K h, am_I h, am_J h, am_R h, am_N h, am_A h, am_B h, am_C h, am_U h + 1, am_V h + 6)
/-- what a field holds -/
def am_fv (h : am_H) (ci k a : Nat) : Value := match am_t ci k with
  | 1 => .long (am_J h ci k a)
  | 2 => va_rf (am_R h ci k a)
  | _ => .int (am_I h ci k a)
def am_fs (h : am_H) (ci a : Nat) : List Value := (List.range (am_n ci)).map (fun k => am_fv h ci k a)
def am_ce (g : Nat → ClassId) (h : am_H) (a : Nat) : va_E :=
  if am_K h a < 20 then .inr (am_K h a - 1, am_fs h (am_K h a - 1) a)
  else if am_K h a = 22 then .inl (g 22, am_N h a, .inr (.inl (am_B h a)))
  else if am_K h a = 26 ∨ am_K h a = 27 then .inl (g (am_K h a), am_N h a, .inr (.inr (.inr (.inr (am_C h a)))))
  else .inl (g (am_K h a), am_N h a, .inl (am_A h a))
/-! the methods: name, code, locals, answer, class, parameters, rank, table of handlers (from, to, handler, entry, class) -/
abbrev am_MI : Type := MethodName × ByteArray × Nat × Option FieldType × Nat × Nat × Nat × List (Nat × Nat × Nat × Nat × String)
def am_ms0 : List am_MI := [(yX0_init, cX0_init, 2, none, 0, 0, 1, []),
  (yX0_empty, cX0_empty, 2, none, 0, 0, 1, []),
  (yX0_addEntry, cX0_addEntry, 2, none, 0, 1, 1, []),
  (yX0_find, cX0_find, 2, (some (.object "SevenForms$Entry")), 0, 1, 0, []),
  (yX0_findBlock, cX0_findBlock, 2, (some (.object "SevenForms$Block")), 0, 1, 0, []),
  (yX0_isKnown, cX0_isKnown, 2, (some .boolean), 0, 1, 0, []),
  (yX0_isLost, cX0_isLost, 2, (some .boolean), 0, 1, 1, []),
  (yX0_isReady, cX0_isReady, 2, (some .boolean), 0, 0, 2, []),
  (yX0_bytesOf, cX0_bytesOf, 4, (some .int), 0, 1, 0, []),
  (yX0_filesOf, cX0_filesOf, 4, (some .int), 0, 1, 0, []),
  (yX0_hasOverfullBlock, cX0_hasOverfullBlock, 2, (some .boolean), 0, 0, 1, []),
  (yX1_init, cX1_init, 1, none, 1, 0, 0, []),
  (yX1_begin, cX1_begin, 1, none, 1, 0, 0, []),
  (yX1_addCoder, cX1_addCoder, 3, none, 1, 2, 0, []),
  (yX1_pack, cX1_pack, 5, none, 1, 3, 1, []),
  (yX1_unpack, cX1_unpack, 5, none, 1, 3, 1, []),
  (yX1_groupOf, cX1_groupOf, 1, (some .int), 1, 1, 0, []),
  (yX1_packDelta, cX1_packDelta, 5, none, 1, 4, 0, []),
  (yX1_unpackDelta, cX1_unpackDelta, 5, none, 1, 4, 0, []),
  (yX1_turnGroups, cX1_turnGroups, 8, none, 1, 4, 0, []),
  (yX2_init, cX2_init, 1, none, 2, 0, 0, []),
  (yX2_begin, cX2_begin, 2, none, 2, 1, 0, []),
  (yX2_fail, cX2_fail, 3, none, 2, 2, 0, []),
  (yX2_failAtLast, cX2_failAtLast, 1, none, 2, 0, 1, []),
  (yX2_needHead, cX2_needHead, 1, none, 2, 0, 1, []),
  (yX2_needEnd, cX2_needEnd, 1, none, 2, 0, 1, []),
  (yX2_takeByte, cX2_takeByte, 2, (some .int), 2, 0, 0, []),
  (yX2_expect, cX2_expect, 2, none, 2, 1, 2, []),
  (yX2_takeLittle, cX2_takeLittle, 5, (some .long), 2, 1, 1, []),
  (yX2_takeNumber, cX2_takeNumber, 10, (some .long), 2, 2, 2, [])]
def am_ms1 : List am_MI := [(yX2_takeBits, cX2_takeBits, 8, (some .int), 2, 2, 1, []),
  (yX3_init, cX3_init, 2, none, 3, 1, 0, []),
  (yX3_takeEntries, cX3_takeEntries, 6, none, 3, 2, 4, []),
  (yX3_takeEmptyRow, cX3_takeEmptyRow, 4, none, 3, 2, 3, []),
  (yX3_layOut, cX3_layOut, 7, none, 3, 3, 2, []),
  (yX3_takeFlags, cX3_takeFlags, 3, none, 3, 1, 3, []),
  (yX3_markEmpties, cX3_markEmpties, 6, none, 3, 2, 0, []),
  (yX3_takeNames, cX3_takeNames, 7, none, 3, 1, 3, []),
  (yX3_takeName, cX3_takeName, 6, none, 3, 1, 2, []),
  (yX3_takeTimesAndAttributes, cX3_takeTimesAndAttributes, 3, none, 3, 1, 4, []),
  (yX3_takeValues, cX3_takeValues, 12, none, 3, 3, 3, []),
  (yX3_takeWhichHave, cX3_takeWhichHave, 6, none, 3, 2, 2, []),
  (yX4_init, cX4_init, 1, none, 4, 0, 0, []),
  (yX4_begin, cX4_begin, 2, none, 4, 1, 0, []),
  (yX4_addUnit, cX4_addUnit, 2, none, 4, 1, 0, []),
  (yX4_giveTime, cX4_giveTime, 3, none, 4, 1, 0, []),
  (yX4_giveAttributes, cX4_giveAttributes, 2, none, 4, 1, 0, []),
  (yX4_addBytes, cX4_addBytes, 5, none, 4, 2, 1, []),
  (yX4_takeBytes, cX4_takeBytes, 4, none, 4, 2, 1, []),
  (yX4_makeRoom, cX4_makeRoom, 4, none, 4, 1, 0, []),
  (yX5_init, cX5_init, 2, none, 5, 1, 0, []),
  (yX5_begin, cX5_begin, 1, none, 5, 0, 0, []),
  (yX5_takePackedSizes, cX5_takePackedSizes, 7, none, 5, 1, 3, []),
  (yX5_takeFolders, cX5_takeFolders, 5, none, 5, 1, 4, []),
  (yX5_keepFolder, cX5_keepFolder, 6, none, 5, 3, 1, []),
  (yX5_takeCoder, cX5_takeCoder, 8, none, 5, 1, 3, []),
  (yX5_kindOf, cX5_kindOf, 3, (some .int), 5, 3, 0, []),
  (yX5_takeBonds, cX5_takeBonds, 6, none, 5, 1, 3, []),
  (yX5_leadsTo, cX5_leadsTo, 5, (some .boolean), 5, 2, 0, []),
  (yX5_findOutermost, cX5_findOutermost, 3, (some .int), 5, 1, 0, [])]
def am_ms2 : List am_MI := [(yX5_takeGivenSizes, cX5_takeGivenSizes, 7, none, 5, 2, 3, []),
  (yX5_takeFiles, cX5_takeFiles, 3, none, 5, 0, 4, []),
  (yX5_takeFileCounts, cX5_takeFileCounts, 4, none, 5, 0, 3, []),
  (yX5_takeFileSizes, cX5_takeFileSizes, 5, none, 5, 0, 3, []),
  (yX5_addFile, cX5_addFile, 3, none, 5, 2, 0, []),
  (yX6_init, cX6_init, 1, none, 6, 0, 0, []),
  (yX6_empty, cX6_empty, 1, none, 6, 0, 0, []),
  (yX6_holds, cX6_holds, 3, (some .boolean), 6, 1, 0, []),
  (yX6_addByte, cX6_addByte, 2, none, 6, 1, 0, []),
  (yX6_addBytes, cX6_addBytes, 4, none, 6, 2, 1, []),
  (yX6_addLittle, cX6_addLittle, 5, none, 6, 2, 1, []),
  (yX6_addNumber, cX6_addNumber, 6, none, 6, 1, 1, []),
  (yX6_addBits, cX6_addBits, 7, none, 6, 2, 1, []),
  (yX6_setLittle, cX6_setLittle, 6, none, 6, 3, 1, []),
  (yX6_littleAt, cX6_littleAt, 6, (some .long), 6, 2, 1, []),
  (yX6_hasToldLength, cX6_hasToldLength, 5, (some .boolean), 6, 0, 2, []),
  (yX6_headCheck, cX6_headCheck, 1, (some .int), 6, 0, 1, []),
  (yX6_headerCheck, cX6_headerCheck, 1, (some .int), 6, 0, 2, []),
  (yX6_sealHead, cX6_sealHead, 1, none, 6, 0, 2, []),
  (yX6_sealHeader, cX6_sealHeader, 1, none, 6, 0, 3, []),
  (yX7_init, cX7_init, 4, none, 7, 3, 0, []),
  (yX7_takeTape, cX7_takeTape, 5, none, 7, 2, 5, []),
  (yX7_takeHead, cX7_takeHead, 3, none, 7, 1, 3, []),
  (yX7_unpackBlocks, cX7_unpackBlocks, 7, none, 7, 3, 3, []),
  (yX7_handOut, cX7_handOut, 7, none, 7, 3, 2, []),
  (yX8_init, cX8_init, 1, none, 8, 0, 0, []),
  (yX8_build, cX8_build, 4, none, 8, 2, 5, []),
  (yX8_arrange, cX8_arrange, 5, none, 8, 0, 1, []),
  (yX8_append, cX8_append, 2, none, 8, 1, 0, []),
  (yX8_addPackedBlocks, cX8_addPackedBlocks, 4, none, 8, 0, 2, [])]
def am_ms3 : List am_MI := [(yX8_addPackedSizes, cX8_addPackedSizes, 3, none, 8, 0, 2, []),
  (yX8_addFolders, cX8_addFolders, 5, none, 8, 0, 4, []),
  (yX8_addFolder, cX8_addFolder, 4, none, 8, 1, 3, []),
  (yX8_addCoderForm, cX8_addCoderForm, 4, none, 8, 2, 2, []),
  (yX8_addFiles, cX8_addFiles, 2, none, 8, 0, 3, []),
  (yX8_addFileCounts, cX8_addFileCounts, 3, none, 8, 0, 2, []),
  (yX8_addFileSizes, cX8_addFileSizes, 2, none, 8, 0, 2, []),
  (yX8_addEntries, cX8_addEntries, 2, none, 8, 0, 4, []),
  (yX8_addEmptyRows, cX8_addEmptyRows, 3, none, 8, 0, 3, []),
  (yX8_addRow, cX8_addRow, 3, none, 8, 2, 2, []),
  (yX8_countFlags, cX8_countFlags, 4, (some .int), 8, 1, 0, []),
  (yX8_addNames, cX8_addNames, 4, none, 8, 0, 2, []),
  (yX8_addValues, cX8_addValues, 6, none, 8, 2, 2, []),
  (yX9_init, cX9_init, 2, none, 9, 0, 2, []),
  (yX9_entry, cX9_entry, 2, (some .int), 9, 1, 2, []),
  (yX9_name, cX9_name, 4, (some .int), 9, 2, 1, []),
  (yX9_put, cX9_put, 6, (some .int), 9, 3, 2, []),
  (yX9_block, cX9_block, 5, (some .int), 9, 2, 1, []),
  (yX9_coder, cX9_coder, 5, (some .int), 9, 3, 1, []),
  (yX9_set, cX9_set, 6, (some .int), 9, 3, 1, []),
  (yX9_setAnti, cX9_setAnti, 3, (some .int), 9, 2, 0, []),
  (yX9_write, cX9_write, 2, (some .int), 9, 0, 6, []),
  (yX9_read, cX9_read, 2, (some .int), 9, 0, 6, [(0, 15, 18, 152, "java/lang/IllegalStateException")]),
  (yX9_fault, cX9_fault, 1, (some .int), 9, 0, 0, []),
  (yX9_of, cX9_of, 4, (some .int), 9, 2, 2, []),
  (yX9_oneIf, cX9_oneIf, 1, (some .int), 9, 1, 0, []),
  (yX9_number, cX9_number, 4, (some .long), 9, 2, 2, []),
  (yX9_at, cX9_at, 5, (some .int), 9, 3, 2, []),
  (yX9_coderAt, cX9_coderAt, 4, (some .int), 9, 2, 1, []),
  (yX9_peek, cX9_peek, 3, (some .int), 9, 1, 1, [])]
def am_ms4 : List am_MI := [(yX9_poke, cX9_poke, 5, (some .int), 9, 2, 1, []),
  (yX9_type, cX9_type, 5, (some .int), 9, 2, 1, []),
  (yX9_cut, cX9_cut, 2, (some .int), 9, 1, 0, []),
  (yX9_seal, cX9_seal, 2, (some .int), 9, 1, 4, []),
  (yX9_count, cX9_count, 2, (some .int), 9, 1, 0, []),
  (yX9_clear, cX9_clear, 2, (some .int), 9, 0, 2, []),
  (yX9_checkOf, cX9_checkOf, 5, (some .int), 9, 3, 0, []),
  (yX9_bytesForBits, cX9_bytesForBits, 1, (some .int), 9, 1, 0, []),
  (yX10_init, cX10_init, 1, none, 10, 0, 0, []),
  (yX10_thrown, cX10_thrown, 1, (some .int), 10, 0, 0, []),
  (yX10_in, cX10_in, 6, (some .boolean), 10, 3, 0, []),
  (yX10_check, cX10_check, 7, (some .int), 10, 3, 0, []),
  (yX10_turn, cX10_turn, 5, none, 10, 2, 0, []),
  (yX10_code, cX10_code, 6, none, 10, 4, 1, []),
  (yX10_isEntry, cX10_isEntry, 2, (some .boolean), 10, 1, 1, []),
  (yX10_entry, cX10_entry, 2, (some .int), 10, 1, 1, []),
  (yX10_fresh, cX10_fresh, 3, none, 10, 2, 0, []),
  (yX10_name, cX10_name, 3, (some .int), 10, 2, 2, []),
  (yX10_put, cX10_put, 6, (some .int), 10, 3, 2, []),
  (yX10_block, cX10_block, 4, (some .int), 10, 2, 2, []),
  (yX10_coder, cX10_coder, 4, (some .int), 10, 3, 1, []),
  (yX10_set, cX10_set, 5, (some .int), 10, 3, 2, []),
  (yX10_of, cX10_of, 3, (some .int), 10, 2, 2, []),
  (yX10_isLost, cX10_isLost, 2, (some .boolean), 10, 1, 0, []),
  (yX10_number, cX10_number, 3, (some .long), 10, 2, 2, []),
  (yX10_at, cX10_at, 4, (some .int), 10, 3, 2, []),
  (yX10_coderAt, cX10_coderAt, 3, (some .int), 10, 2, 1, []),
  (yX10_clear, cX10_clear, 3, (some .int), 10, 0, 0, []),
  (yX10_isByte, cX10_isByte, 3, (some .boolean), 10, 1, 1, []),
  (yX10_peek, cX10_peek, 3, (some .int), 10, 1, 2, [])]
def am_ms5 : List am_MI := [(yX10_poke, cX10_poke, 5, (some .int), 10, 2, 2, []),
  (yX10_type, cX10_type, 5, (some .int), 10, 2, 1, []),
  (yX10_cut, cX10_cut, 2, (some .int), 10, 1, 1, []),
  (yX10_little, cX10_little, 6, (some .long), 10, 2, 0, []),
  (yX10_putLittle, cX10_putLittle, 6, none, 10, 3, 0, []),
  (yX10_isMeasured, cX10_isMeasured, 5, (some .boolean), 10, 0, 1, []),
  (yX10_seal, cX10_seal, 3, (some .int), 10, 1, 2, []),
  (yX10_count, cX10_count, 2, (some .int), 10, 1, 0, []),
  (yX10_fault, cX10_fault, 1, (some .int), 10, 0, 0, []),
  (yX10_put_, cX10_put_, 2, none, 10, 1, 0, []),
  (yX10_putNumber, cX10_putNumber, 6, none, 10, 1, 1, []),
  (yX10_putLong, cX10_putLong, 5, none, 10, 2, 1, []),
  (yX10_putBits, cX10_putBits, 5, none, 10, 1, 1, []),
  (yX10_bitsSet, cX10_bitsSet, 4, (some .int), 10, 1, 0, []),
  (yX10_filesOf, cX10_filesOf, 4, (some .int), 10, 1, 0, []),
  (yX10_bytesOf, cX10_bytesOf, 4, (some .int), 10, 1, 0, []),
  (yX10_sort, cX10_sort, 4, none, 10, 0, 0, []),
  (yX10_putBlock, cX10_putBlock, 5, none, 10, 1, 2, []),
  (yX10_putCoder, cX10_putCoder, 3, none, 10, 2, 1, []),
  (yX10_putFolder, cX10_putFolder, 4, none, 10, 1, 2, []),
  (yX10_putStreams, cX10_putStreams, 5, none, 10, 1, 3, []),
  (yX10_putMarks, cX10_putMarks, 5, none, 10, 1, 2, []),
  (yX10_putRow, cX10_putRow, 3, none, 10, 2, 2, []),
  (yX10_putEntries, cX10_putEntries, 6, none, 10, 1, 3, []),
  (yX10_write, cX10_write, 5, (some .int), 10, 0, 4, []),
  (yX10_sign, cX10_sign, 1, (some .int), 10, 1, 0, []),
  (yX10_isFine, cX10_isFine, 1, (some .boolean), 10, 0, 0, []),
  (yX10_fails, cX10_fails, 3, none, 10, 2, 0, []),
  (yX10_next, cX10_next, 1, (some .int), 10, 0, 1, []),
  (yX10_take, cX10_take, 2, (some .int), 10, 0, 2, [])]
def am_ms6 : List am_MI := [(yX10_need, cX10_need, 3, none, 10, 1, 2, []),
  (yX10_number_, cX10_number_, 6, (some .long), 10, 0, 3, []),
  (yX10_numberIn, cX10_numberIn, 7, (some .int), 10, 2, 4, []),
  (yX10_takeLittle, cX10_takeLittle, 6, (some .long), 10, 1, 3, []),
  (yX10_row, cX10_row, 7, none, 10, 1, 3, []),
  (yX10_folder, cX10_folder, 8, none, 10, 1, 6, []),
  (yX10_idOf, cX10_idOf, 4, (some .int), 10, 1, 0, []),
  (yX10_bond, cX10_bond, 7, none, 10, 1, 5, []),
  (yX10_lay, cX10_lay, 5, none, 10, 2, 0, []),
  (yX10_streams, cX10_streams, 8, none, 10, 1, 7, []),
  (yX10_parts, cX10_parts, 8, none, 10, 0, 5, []),
  (yX10_begins, cX10_begins, 1, none, 10, 0, 4, []),
  (yX10_isLong, cX10_isLong, 3, none, 10, 1, 1, []),
  (yX10_marks, cX10_marks, 4, (some .boolean), 10, 2, 5, []),
  (yX10_empties, cX10_empties, 2, none, 10, 0, 5, []),
  (yX10_spread, cX10_spread, 4, none, 10, 1, 0, []),
  (yX10_naming, cX10_naming, 5, none, 10, 0, 5, []),
  (yX10_valued, cX10_valued, 6, none, 10, 1, 5, []),
  (yX10_entryRows, cX10_entryRows, 3, none, 10, 0, 6, []),
  (yX10_head, cX10_head, 2, none, 10, 0, 2, []),
  (yX10_read, cX10_read, 2, (some .int), 10, 0, 8, []),
  (yX10_unpack, cX10_unpack, 4, none, 10, 2, 2, []),
  (yX10_stand, cX10_stand, 9, none, 10, 0, 3, []),
  (yL_peek, cL_peek, 5, (some .int), 11, 3, 2, [(0, 9, 12, 13, "java/lang/ArrayIndexOutOfBoundsException")]),
  (yL_poke, cL_poke, 6, (some .int), 11, 4, 2, [(0, 11, 14, 13, "java/lang/ArrayIndexOutOfBoundsException"), (0, 11, 18, 19, "java/lang/IllegalArgumentException")]),
  (yL_law, cL_law, 7, (some .boolean), 11, 1, 9, [])]
def am_ms : List am_MI := am_ms0 ++ (am_ms1 ++ (am_ms2 ++ (am_ms3 ++ (am_ms4 ++ (am_ms5 ++ (am_ms6))))))
def am_rs0 : List (List am_Row) := [am_r0, am_r1, am_r2, am_r3, am_r4, am_r5, am_r6, am_r7, am_r8, am_r9, am_r10, am_r11, am_r12, am_r13, am_r14, am_r15, am_r16, am_r17, am_r18, am_r19, am_r20, am_r21, am_r22, am_r23, am_r24, am_r25, am_r26, am_r27, am_r28, am_r29]
def am_rs1 : List (List am_Row) := [am_r30, am_r31, am_r32, am_r33, am_r34, am_r35, am_r36, am_r37, am_r38, am_r39, am_r40, am_r41, am_r42, am_r43, am_r44, am_r45, am_r46, am_r47, am_r48, am_r49, am_r50, am_r51, am_r52, am_r53, am_r54, am_r55, am_r56, am_r57, am_r58, am_r59]
def am_rs2 : List (List am_Row) := [am_r60, am_r61, am_r62, am_r63, am_r64, am_r65, am_r66, am_r67, am_r68, am_r69, am_r70, am_r71, am_r72, am_r73, am_r74, am_r75, am_r76, am_r77, am_r78, am_r79, am_r80, am_r81, am_r82, am_r83, am_r84, am_r85, am_r86, am_r87, am_r88, am_r89]
def am_rs3 : List (List am_Row) := [am_r90, am_r91, am_r92, am_r93, am_r94, am_r95, am_r96, am_r97, am_r98, am_r99, am_r100, am_r101, am_r102, am_r103, am_r104, am_r105, am_r106, am_r107, am_r108, am_r109, am_r110, am_r111, am_r112, am_r113, am_r114, am_r115, am_r116, am_r117, am_r118, am_r119]
def am_rs4 : List (List am_Row) := [am_r120, am_r121, am_r122, am_r123, am_r124, am_r125, am_r126, am_r127, am_r128, am_r129, am_r130, am_r131, am_r132, am_r133, am_r134, am_r135, am_r136, am_r137, am_r138, am_r139, am_r140, am_r141, am_r142, am_r143, am_r144, am_r145, am_r146, am_r147, am_r148, am_r149]
def am_rs5 : List (List am_Row) := [am_r150, am_r151, am_r152, am_r153, am_r154, am_r155, am_r156, am_r157, am_r158, am_r159, am_r160, am_r161, am_r162, am_r163, am_r164, am_r165, am_r166, am_r167, am_r168, am_r169, am_r170, am_r171, am_r172, am_r173, am_r174, am_r175, am_r176, am_r177, am_r178, am_r179]
def am_rs6 : List (List am_Row) := [am_r180, am_r181, am_r182, am_r183, am_r184, am_r185, am_r186, am_r187, am_r188, am_r189, am_r190, am_r191, am_r192, am_r193, am_r194, am_r195, am_r196, am_r197, am_r198, am_r199, am_r200, am_r201, am_r202, am_r203, am_r204, am_r205]
def am_rs : List (List am_Row) := am_rs0 ++ (am_rs1 ++ (am_rs2 ++ (am_rs3 ++ (am_rs4 ++ (am_rs5 ++ (am_rs6))))))
def am_mi (y : Nat) : am_MI := am_ms.getD y (⟨"", "", ""⟩, ⟨#[]⟩, 0, none, 0, 0, 0, [])
def am_ym (y : Nat) : MethodName := (am_mi y).1
def am_bc (y : Nat) : ByteArray := (am_mi y).2.1
def am_ml (y : Nat) : Nat := (am_mi y).2.2.1
def am_rt (y : Nat) : Option FieldType := (am_mi y).2.2.2.1
def am_ow (y : Nat) : Nat := (am_mi y).2.2.2.2.1
def am_np (y : Nat) : Nat := (am_mi y).2.2.2.2.2.1
def am_rk (y : Nat) : Nat := (am_mi y).2.2.2.2.2.2.1
def am_tb (y : Nat) : List (Nat × Nat × Nat × Nat × String) := (am_mi y).2.2.2.2.2.2.2
def am_row (y pc : Nat) : Option (Instr × Nat × Nat × Nat) := (am_rs.getD y []).lookup pc
def am_ex (e : Nat) : String := match e with
  | 0 => "java/lang/IllegalStateException"
  | 1 => "java/lang/ArrayIndexOutOfBoundsException"
  | _ => "java/lang/IllegalArgumentException"
abbrev am_P : Type := (Option Value ⊕ String) → am_H → Prop
abbrev am_X : Type := Nat → Nat → List (Option Value) → List Value → am_H → am_P → Prop
def am_w (st : List Value) : Nat := (st.map fun v => v.category).sum
/-- behind a throw of class E at pc: a handler here, or the caller's -/
def am_th (X : am_X) (y pc : Nat) (al : List (Option Value)) (h : am_H) (post : am_P) (E : String) : Prop :=
  match (am_tb y).filter (fun q => decide (q.1 ≤ pc ∧ pc < q.2.1)) with
  | [] => post (.inr E) h
  | q :: qs => match (q :: qs).find? (fun q => decide (q.2.2.2.2 = E)) with
    | none => False
    | some q => match am_row y q.2.2.1 with
      | some (.astore i, n, _, _) => i < al.length ∧ X y (q.2.2.1 + n) ((am_kl al i).set i none) [] h post
      | some (.astore_n i, n, _, _) => (i : Nat) < al.length ∧ X y (q.2.2.1 + n) ((am_kl al i).set i none) [] h post
      | _ => False
/-- a call of the method a with these arguments, rest on the stack -/
def am_go (X : am_X) (y pc : Nat) (al : List (Option Value)) (rest : List Value) (h : am_H) (post : am_P) (a : Nat) (As : List Value) : Prop :=
  am_w rest ≤ 8 ∧ am_rk a < am_rk y ∧ (am_ea As).length ≤ am_ml a ∧ ∃ (Q : am_P), X a 0 (am_en As (am_ml a)) [] h Q ∧
    (∀ v h', Q (.inl v) h' → X y (pc + 3) al (v.toList ++ rest) h' post) ∧ (∀ E h', Q (.inr E) h' → am_th X y pc al h' post E)
/-- a call that never throws -/
def am_gn (X : am_X) (y pc : Nat) (al : List (Option Value)) (rest : List Value) (h : am_H) (post : am_P) (a : Nat) (As : List Value) : Prop :=
  am_w rest ≤ 8 ∧ am_rk a < am_rk y ∧ (am_ea As).length ≤ am_ml a ∧ ∃ (Q : am_P), X a 0 (am_en As (am_ml a)) [] h Q ∧
    (∀ v h', Q (.inl v) h' → X y (pc + 3) al (v.toList ++ rest) h' post) ∧ (∀ E h', ¬ Q (.inr E) h')
/-- putfield -/
def am_pf (X : am_H → Prop) (h : am_H) (ci k r : Nat) (v : Value) : Prop := match am_t ci k, v with
  | 0, .int x => X (am_sI h ci k r x)
  | 3, .int x => (x = 0 ∨ x = 1) ∧ X (am_sI h ci k r x)
  | 1, .long x => X (am_sJ h ci k r x)
  | 2, .ref q => X (am_sR h ci k r (some q))
  | 2, .null => X (am_sR h ci k r none)
  | _, _ => False
def am_im (tt : Nat → Nat) (X : am_X) (y pc : Nat) (al : List (Option Value)) (st : List Value) (h : am_H) (post : am_P) (i : Instr) (a b : Nat) : Prop :=
  match i, st with
  | .ldc _, st => b = 0 ∧ X y (pc + 2) al (.int (Int32.ofNat a) :: st) h post
  | .ldc2_w _, st => X y (pc + 3) al (.long (Int64.ofNat a) :: st) h post
  | .idiv, .int v :: .int u :: st => ¬ v = 0 ∧ X y (pc + 1) al (.int (u / v) :: st) h post
  | .irem, .int v :: .int u :: st => ¬ v = 0 ∧ X y (pc + 1) al (.int (u - u / v * v) :: st) h post
  | .tableswitch d lo hi offs, .int x :: st => (x.toInt < lo ∨ hi < x.toInt → ∃ t : Nat, (pc : Int) + d = (t : Int) ∧ X y t al st h post) ∧ (¬ x.toInt < lo → ¬ hi < x.toInt → ∃ (off : Int) (t : Nat), offs[(x.toInt - lo).toNat]? = some off ∧ (pc : Int) + off = (t : Int) ∧ X y t al st h post)
  | .getfield _, .ref r :: st => am_K h r = a + 1 ∧ X y (pc + 3) al (am_fv h a b r :: st) h post
  | .putfield _, v :: .ref r :: st => am_K h r = a + 1 ∧ am_pf (fun h' => X y (pc + 3) al st h' post) h a b r v
  | .getstatic _, st => X y (pc + 3) al (.ref (tt a) :: st) h post
  | .iaload, .int x :: .ref r :: st => (am_K h r = 21 ∨ am_K h r = 31) ∧ vp_in x (am_N h r) ∧ X y (pc + 1) al (.int (am_A h r x.toNatClampNeg) :: st) h post
  | .baload, .int x :: .ref r :: st => (am_K h r = 23 ∨ am_K h r = 24) ∧ vp_in x (am_N h r) ∧ X y (pc + 1) al (.int (am_A h r x.toNatClampNeg) :: st) h post
  | .caload, .int x :: .ref r :: st => am_K h r = 25 ∧ vp_in x (am_N h r) ∧ X y (pc + 1) al (.int (am_A h r x.toNatClampNeg) :: st) h post
  | .laload, .int x :: .ref r :: st => am_K h r = 22 ∧ vp_in x (am_N h r) ∧ X y (pc + 1) al (.long (am_B h r x.toNatClampNeg) :: st) h post
  | .aaload, .int x :: .ref r :: st => (am_K h r = 26 ∨ am_K h r = 27) ∧ vp_in x (am_N h r) ∧ X y (pc + 1) al (va_rf (am_C h r x.toNatClampNeg) :: st) h post
  | .iastore, .int v :: .int x :: .ref r :: st => am_K h r = 21 ∧ vp_in x (am_N h r) ∧ X y (pc + 1) al st (am_sA h r x.toNatClampNeg v) post
  | .bastore, .int v :: .int x :: .ref r :: st => vp_in x (am_N h r) ∧ ((am_K h r = 23 ∧ X y (pc + 1) al st (am_sA h r x.toNatClampNeg v.toInt8.toInt32) post) ∨ (am_K h r = 24 ∧ X y (pc + 1) al st (am_sA h r x.toNatClampNeg (v &&& 1)) post))
  | .castore, .int v :: .int x :: .ref r :: st => am_K h r = 25 ∧ vp_in x (am_N h r) ∧ X y (pc + 1) al st (am_sA h r x.toNatClampNeg v.toUInt32.toUInt16.toUInt32.toInt32) post
  | .lastore, .long v :: .int x :: .ref r :: st => am_K h r = 22 ∧ vp_in x (am_N h r) ∧ X y (pc + 1) al st (am_sB h r x.toNatClampNeg v) post
  | .aastore, .ref q :: .int x :: .ref r :: st => ((am_K h r = 26 ∧ am_K h q = 5) ∨ (am_K h r = 27 ∧ am_K h q = 2)) ∧ vp_in x (am_N h r) ∧ X y (pc + 1) al st (am_sC h r x.toNatClampNeg (some q)) post
  | .arraylength, .ref r :: st => (20 < am_K h r ∧ (am_K h r ≤ 27 ∨ am_K h r = 31)) ∧ X y (pc + 1) al (.int (Int32.ofNat (am_N h r)) :: st) h post
  | .newarray _, .int z :: st => ¬ z < 0 ∧ z.toNatClampNeg ≤ 60000 ∧ am_U h + 1 ≤ am_LC ∧ am_V h + z.toNatClampNeg ≤ am_LS ∧ ∀ q, am_K h q = 0 → X y (pc + 2) al (.ref q :: st) (am_nA h q a z.toNatClampNeg) post
  | .anewarray _, .int z :: st => ¬ z < 0 ∧ z.toNatClampNeg ≤ 60000 ∧ am_U h + 1 ≤ am_LC ∧ am_V h + z.toNatClampNeg ≤ am_LS ∧ ∀ q, am_K h q = 0 → X y (pc + 3) al (.ref q :: st) (am_nA h q a z.toNatClampNeg) post
  | .new _, st => (b = 0 ∧ am_U h + 1 ≤ am_LC ∧ am_V h + am_n a ≤ am_LS ∧ ∀ q, am_K h q = 0 → X y (pc + 3) al (.ref q :: st) (am_nO h q a) post) ∨ (b = 1 ∧ am_U h + 1 ≤ am_LC ∧ am_V h + 6 ≤ am_LS ∧ am_w st ≤ 8 ∧ am_tb y = [] ∧ post (.inr (am_ex a)) (am_nX h))
  | .invokevirtual _, st => am_np a < st.length ∧ ∃ r, (st.drop (am_np a)).head? = some (.ref r) ∧ am_K h r = am_ow a + 1 ∧ am_go X y pc al (st.drop (am_np a + 1)) h post a (.ref r :: (st.take (am_np a)).reverse)
  | .invokespecial _, st => (b = 4 ∧ ∃ r rest, st = .ref r :: rest ∧ am_w rest ≤ 8 ∧ X y (pc + 3) al rest h post) ∨ ((b = 3 ∨ b = 6) ∧ am_np a < st.length ∧ ∃ r, (st.drop (am_np a)).head? = some (.ref r) ∧ am_gn X y pc al (st.drop (am_np a + 1)) h post a (.ref r :: (st.take (am_np a)).reverse))
  | .invokestatic _, st => ((b = 1 ∨ b = 11) ∧ am_np a ≤ st.length ∧ am_go X y pc al (st.drop (am_np a)) h post a (st.take (am_np a)).reverse) ∨
      (b = 5 ∧ am_np a ≤ st.length ∧ am_gn X y pc al (st.drop (am_np a)) h post a (st.take (am_np a)).reverse) ∨
      (b = 7 ∧ ∃ u v rest, st = .int v :: .int u :: rest ∧ am_w rest ≤ 8 ∧ X y (pc + 3) al (.int (if u < v then v else u) :: rest) h post) ∨
      (b = 8 ∧ ∃ u v rest, st = .int v :: .int u :: rest ∧ am_w rest ≤ 8 ∧ X y (pc + 3) al (.int (if v < u then v else u) :: rest) h post) ∨
      (b = 9 ∧ ∃ n dp d sp sr rest, st = .int n :: .int dp :: .ref d :: .int sp :: .ref sr :: rest ∧ am_w rest ≤ 8 ∧ am_K h sr = 23 ∧ am_K h d = 23 ∧ ¬ sp < 0 ∧ ¬ dp < 0 ∧ ¬ n < 0 ∧ sp.toNatClampNeg + n.toNatClampNeg ≤ am_N h sr ∧ dp.toNatClampNeg + n.toNatClampNeg ≤ am_N h d ∧
        (∀ j, j < n.toNatClampNeg → fits .byte (.int (am_A h sr (sp.toNatClampNeg + j))) = true) ∧ X y (pc + 3) al rest (am_cA h d (va_cpy (am_A h sr) (am_A h d) sp.toNatClampNeg dp.toNatClampNeg n.toNatClampNeg)) post)
  | .ireturn, [.int x] => (a = 1 → x = 0 ∨ x = 1) ∧ post (.inl (some (.int x))) h
  | .lreturn, [.long x] => post (.inl (some (.long x))) h
  | .areturn, [.ref q] => post (.inl (some (.ref q))) h
  | .areturn, [.null] => post (.inl (some .null)) h
  | .return_, [] => post (.inl none) h
  | _, _ => False
def am_in (tt : Nat → Nat) (X : am_X) (y pc : Nat) (al : List (Option Value)) (st : List Value) (h : am_H) (post : am_P) (i : Instr) (n a b : Nat) : Prop :=
  match am_pu i st with
  | some st' => X y (pc + n) al st' h post
  | none => match am_lo i al st with
    | some q => X y (pc + n) q.1 q.2 h post
    | none => match am_br i st with
      | some q => (q.1 → X y a al q.2 h post) ∧ (¬ q.1 → X y (pc + 3) al q.2 h post)
      | none => am_im tt X y pc al st h post i a b
def am_st (tt : Nat → Nat) (X : am_X) (y pc : Nat) (al : List (Option Value)) (st : List Value) (h : am_H) (post : am_P) : Prop :=
  match am_row y pc with
  | none => False
  | some r => am_in tt X y pc al st h post r.1 r.2.1 r.2.2.1 r.2.2.2
/-- THE SMALL MACHINE: from here it comes to an end with post -/
def am_Ev (tt : Nat → Nat) (y pc : Nat) (al : List (Option Value)) (st : List Value) (h : am_H) (post : am_P) : Prop :=
  ∀ X : am_X, (∀ y pc al st h post, am_st tt X y pc al st h post → X y pc al st h post) → X y pc al st h post
section AMM
variable {X X' : am_X}
theorem am_th_mono (hm : ∀ y pc al st h post, X y pc al st h post → X' y pc al st h post) {y pc : Nat} {al : List (Option Value)} {h : am_H}  {post : am_P} {E : String} (q : am_th X y pc al h post E) : am_th X' y pc al h post E := by
  unfold am_th at q ⊢
  split at q
  · exact q
  · split at q
    · exact q
    · split at q
      · exact ⟨q.1, hm _ _ _ _ _ _ q.2⟩
      · exact ⟨q.1, hm _ _ _ _ _ _ q.2⟩
      · exact q
theorem am_go_mono (hm : ∀ y pc al st h post, X y pc al st h post → X' y pc al st h post) {y pc : Nat} {al : List (Option Value)} {rest As : List Value} {h : am_H} {a : Nat} {post : am_P} (q : am_go X y pc al rest h post a As) : am_go X' y pc al rest h post a As := by
  obtain ⟨q1, q2, q0, Q, q5, q6, q7⟩ := q
  exact ⟨q1, q2, q0, Q, hm _ _ _ _ _ _ q5, fun v h' z => hm _ _ _ _ _ _ (q6 v h' z), fun E h' z => am_th_mono hm (q7 E h' z)⟩
theorem am_gn_mono (hm : ∀ y pc al st h post, X y pc al st h post → X' y pc al st h post) {y pc : Nat} {al : List (Option Value)} {rest As : List Value} {h : am_H} {a : Nat} {post : am_P} (q : am_gn X y pc al rest h post a As) : am_gn X' y pc al rest h post a As := by
  obtain ⟨q1, q2, q0, Q, q5, q6, q7⟩ := q
  exact ⟨q1, q2, q0, Q, hm _ _ _ _ _ _ q5, fun v h' z => hm _ _ _ _ _ _ (q6 v h' z), q7⟩
theorem am_pf_mono {X X' : am_H → Prop} (hm : ∀ h, X h → X' h) {h : am_H} {ci k r : Nat} {v : Value} (q : am_pf X h ci k r v) : am_pf X' h ci k r v := by
  unfold am_pf at q ⊢
  split at q
  · exact hm _ q
  · exact ⟨q.1, hm _ q.2⟩
  · exact hm _ q
  · exact hm _ q
  · exact hm _ q
  · exact q
set_option maxHeartbeats 4000000 in
theorem am_im_mono (tt : Nat → Nat) (hm : ∀ y pc al st h post, X y pc al st h post → X' y pc al st h post) {y pc : Nat} {al : List (Option Value)} {st : List Value} {h : am_H} {a b : Nat} {post : am_P} {i : Instr} (q : am_im tt X y pc al st h post i a b) : am_im tt X' y pc al st h post i a b := by
  unfold am_im at q ⊢
  split at q
  · exact ⟨q.1, hm _ _ _ _ _ _ q.2⟩
  · exact hm _ _ _ _ _ _ q
  · exact ⟨q.1, hm _ _ _ _ _ _ q.2⟩
  · exact ⟨q.1, hm _ _ _ _ _ _ q.2⟩
  · refine ⟨fun z => ?_, fun z1 z2 => ?_⟩
    · obtain ⟨t, t1, t2⟩ := q.1 z
      exact ⟨t, t1, hm _ _ _ _ _ _ t2⟩
    · obtain ⟨o, t, t0, t1, t2⟩ := q.2 z1 z2
      exact ⟨o, t, t0, t1, hm _ _ _ _ _ _ t2⟩
  · exact ⟨q.1, hm _ _ _ _ _ _ q.2⟩
  · exact ⟨q.1, am_pf_mono (fun h' z => hm _ _ _ _ _ _ z) q.2⟩
  · exact hm _ _ _ _ _ _ q
  · exact ⟨q.1, q.2.1, hm _ _ _ _ _ _ q.2.2⟩
  · exact ⟨q.1, q.2.1, hm _ _ _ _ _ _ q.2.2⟩
  · exact ⟨q.1, q.2.1, hm _ _ _ _ _ _ q.2.2⟩
  · exact ⟨q.1, q.2.1, hm _ _ _ _ _ _ q.2.2⟩
  · exact ⟨q.1, q.2.1, hm _ _ _ _ _ _ q.2.2⟩
  · exact ⟨q.1, q.2.1, hm _ _ _ _ _ _ q.2.2⟩
  · exact ⟨q.1, q.2.imp (fun z => ⟨z.1, hm _ _ _ _ _ _ z.2⟩) (fun z => ⟨z.1, hm _ _ _ _ _ _ z.2⟩)⟩
  · exact ⟨q.1, q.2.1, hm _ _ _ _ _ _ q.2.2⟩
  · exact ⟨q.1, q.2.1, hm _ _ _ _ _ _ q.2.2⟩
  · exact ⟨q.1, q.2.1, hm _ _ _ _ _ _ q.2.2⟩
  · exact ⟨q.1, hm _ _ _ _ _ _ q.2⟩
  · exact ⟨q.1, q.2.1, q.2.2.1, q.2.2.2.1, fun a z => hm _ _ _ _ _ _ (q.2.2.2.2 a z)⟩
  · exact ⟨q.1, q.2.1, q.2.2.1, q.2.2.2.1, fun a z => hm _ _ _ _ _ _ (q.2.2.2.2 a z)⟩
  · exact q.imp (fun q => ⟨q.1, q.2.1, q.2.2.1, fun a z => hm _ _ _ _ _ _ (q.2.2.2 a z)⟩) (fun z => z)
  · obtain ⟨q1, r, q2, q3, q4⟩ := q
    exact ⟨q1, r, q2, q3, am_go_mono hm q4⟩
  · refine q.imp (fun q => ?_) (fun q => ?_)
    · obtain ⟨q1, r, rest, q2, q3, q4⟩ := q
      exact ⟨q1, r, rest, q2, q3, hm _ _ _ _ _ _ q4⟩
    · obtain ⟨q1, q2, r, q3, q4⟩ := q
      exact ⟨q1, q2, r, q3, am_gn_mono hm q4⟩
  · refine q.imp (fun q => ⟨q.1, q.2.1, am_go_mono hm q.2.2⟩) (fun q => q.imp (fun q => ⟨q.1, q.2.1, am_gn_mono hm q.2.2⟩) (fun q => q.imp (fun q => ?_) (fun q => q.imp (fun q => ?_) (fun q => ?_))))
    · obtain ⟨q1, u, v, rest, q2, q3, q4⟩ := q
      exact ⟨q1, u, v, rest, q2, q3, hm _ _ _ _ _ _ q4⟩
    · obtain ⟨q1, u, v, rest, q2, q3, q4⟩ := q
      exact ⟨q1, u, v, rest, q2, q3, hm _ _ _ _ _ _ q4⟩
    · obtain ⟨q1, n, dp, d, sp, sr, rest, q2, q3, q4, q5, q6, q7, q8, q9, q10, q11, q12⟩ := q
      exact ⟨q1, n, dp, d, sp, sr, rest, q2, q3, q4, q5, q6, q7, q8, q9, q10, q11, hm _ _ _ _ _ _ q12⟩
  · exact q
  · exact q
  · exact q
  · exact q
  · exact q
  · exact q
theorem am_st_mono (tt : Nat → Nat) (hm : ∀ y pc al st h post, X y pc al st h post → X' y pc al st h post) {y pc : Nat} {al : List (Option Value)} {st : List Value} {h : am_H}  {post : am_P} (q : am_st tt X y pc al st h post) : am_st tt X' y pc al st h post := by
  unfold am_st at q ⊢
  split at q
  · exact q
  · unfold am_in at q ⊢
    split at q
    · exact hm _ _ _ _ _ _ q
    · split at q
      · exact hm _ _ _ _ _ _ q
      · split at q
        · exact ⟨fun z => hm _ _ _ _ _ _ (q.1 z), fun z => hm _ _ _ _ _ _ (q.2 z)⟩
        · exact am_im_mono tt hm q
theorem am_Ev.mk {tt : Nat → Nat} {y pc : Nat} {al : List (Option Value)} {st : List Value} {h : am_H}  {post : am_P} (q : am_st tt (am_Ev tt) y pc al st h post) : am_Ev tt y pc al st h post :=
  fun X hX => hX _ _ _ _ _ _ (am_st_mono tt (fun _ _ _ _ _ _ z => z X hX) q)
end AMM
