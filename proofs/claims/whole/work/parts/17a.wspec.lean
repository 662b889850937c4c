/-! deps: 16g -/
/-! ===== what is written, as rows of bytes ===== -/
def R0 (n : Nat) : List Nat := List.range' 0 n
theorem R0_s {n : Nat} : R0 (n + 1) = R0 n ++ [n] := by
  unfold R0
  rw [List.range'_1_concat, Nat.zero_add]
/-- FILES with BYTES of a block, those without BYTES, in the order of their numbers -/
def oBn (E : Nat → sE) (b n : Nat) : List Nat := (R0 n).filter (fun i => decide (0 < e_sz (E i) ∧ e_hm (E i) = b))
def oZn (E : Nat → sE) (n : Nat) : List Nat := (R0 n).filter (fun i => decide (e_sz (E i) = 0))
def oK (a : sA) : List Nat := (R0 6).flatMap (fun b => oBn (a_E a) b (a_n a))
def oA (a : sA) : List Nat := oK a ++ oZn (a_E a) (a_n a)
theorem oBn_s {E : Nat → sE} {b n : Nat} : oBn E b (n + 1) = oBn E b n ++ (if 0 < e_sz (E n) ∧ e_hm (E n) = b then [n] else []) := by
  unfold oBn
  rw [R0_s, List.filter_append]
  congr 1
  by_cases c : 0 < e_sz (E n) ∧ e_hm (E n) = b
  · rw [if_pos c, List.filter_cons, decide_eq_true c]; rfl
  · rw [if_neg c, List.filter_cons, decide_eq_false c]; rfl
theorem oZn_s {E : Nat → sE} {n : Nat} : oZn E (n + 1) = oZn E n ++ (if e_sz (E n) = 0 then [n] else []) := by
  unfold oZn
  rw [R0_s, List.filter_append]
  congr 1
  by_cases c : e_sz (E n) = 0
  · rw [if_pos c, List.filter_cons, decide_eq_true c]; rfl
  · rw [if_neg c, List.filter_cons, decide_eq_false c]; rfl
theorem oBn_m {E : Nat → sE} {b n i : Nat} : i ∈ oBn E b n → i < n ∧ 0 < e_sz (E i) ∧ e_hm (E i) = b := by
  intro h
  unfold oBn R0 at h
  rw [List.mem_filter, List.mem_range'_1, decide_eq_true_iff] at h
  omega
theorem oZn_m {E : Nat → sE} {n i : Nat} : i ∈ oZn E n → i < n ∧ e_sz (E i) = 0 := by
  intro h
  unfold oZn R0 at h
  rw [List.mem_filter, List.mem_range'_1, decide_eq_true_iff] at h
  omega
theorem oBn_l {E : Nat → sE} {b : Nat} : ∀ {n : Nat}, (oBn E b n).length = sfo E b n
  | 0 => rfl
  | n + 1 => by
    rw [oBn_s, List.length_append, oBn_l, sfo]
    congr 1
    by_cases c : 0 < e_sz (E n) ∧ e_hm (E n) = b
    · rw [if_pos c]; first | rw [if_pos c]; rfl | rw [if_pos ⟨c.2, c.1⟩]; rfl
    · rw [if_neg c]; first | rw [if_neg c]; rfl | rw [if_neg (fun z => c ⟨z.2, z.1⟩)]; rfl
def su (f : Nat → Nat) (l : List Nat) : Nat := (l.map f).sum
theorem su_a {f : Nat → Nat} {l r : List Nat} : su f (l ++ r) = su f l + su f r := by unfold su; rw [List.map_append, List.sum_append]
/-- what is summed over all, in whatever order -/
theorem su_o {f : Nat → Nat} {E : Nat → sE} {n : Nat} : ∀ {k : Nat}, k ≤ n → (∀ i, i < k → e_hm (E i) < 6) → su f ((R0 6).flatMap (fun b => oBn E b k) ++ oZn E k) = su f (R0 k)
  | 0, _, _ => rfl
  | k + 1, hk, hh => by
    have ih := su_o (f := f) (E := E) (n := n) (k := k) (by omega) (fun i hi => hh i (by omega))
    have h6 := hh k (by omega)
    have fl : ∀ g : Nat → List Nat, (R0 6).flatMap g = g 0 ++ (g 1 ++ (g 2 ++ (g 3 ++ (g 4 ++ (g 5 ++ []))))) := fun g => rfl
    rw [fl] at ih ⊢
    simp only [su_a, oBn_s, oZn_s, R0_s] at ih ⊢
    have e1 : su f [k] = f k := by unfold su; simp
    have e0 : su f [] = 0 := rfl
    have i6 : ∀ b, su f (if 0 < e_sz (E k) ∧ e_hm (E k) = b then [k] else []) = if 0 < e_sz (E k) ∧ e_hm (E k) = b then f k else 0 := fun b => by split <;> assumption
    have iz : su f (if e_sz (E k) = 0 then [k] else []) = if e_sz (E k) = 0 then f k else 0 := by split <;> assumption
    simp only [i6, iz, e1, e0] at ih ⊢
    by_cases z : e_sz (E k) = 0
    · rw [if_pos z]
      simp only [z, Nat.lt_irrefl, false_and, reduceIte]
      omega
    · rw [if_neg z]
      have z' : 0 < e_sz (E k) := by omega
      simp only [z', true_and]
      have : e_hm (E k) = 0 ∨ e_hm (E k) = 1 ∨ e_hm (E k) = 2 ∨ e_hm (E k) = 3 ∨ e_hm (E k) = 4 ∨ e_hm (E k) = 5 := by omega
      rcases this with e | e | e | e | e | e <;> simp only [e, reduceIte, Nat.reduceEqDiff] <;> omega
theorem su_1 {l : List Nat} : su (fun _ => 1) l = l.length := by
  unfold su
  induction l with
  | nil => rfl
  | cons x l ih => simp only [List.map_cons, List.sum_cons, List.length_cons, ih]; omega
theorem R0_l {n : Nat} : (R0 n).length = n := by unfold R0; rw [List.length_range']
theorem oA_n {a : sA} (w : wfA a) : (oA a).length = a_n a := by
  have := su_o (f := fun _ => 1) (E := a_E a) (n := a_n a) (k := a_n a) (Nat.le_refl _) (fun i hi => (w.2.1 i hi).2.2.2)
  rw [su_1, su_1, R0_l] at this
  exact this
theorem oA_m {a : sA} {i : Nat} (h : i ∈ oA a) : i < a_n a := by
  unfold oA oK at h
  rw [List.mem_append, List.mem_flatMap] at h
  rcases h with ⟨b, _, h⟩ | h
  · exact (oBn_m h).1
  · exact (oZn_m h).1
theorem oK_m {a : sA} {i : Nat} (h : i ∈ oK a) : i < a_n a ∧ 0 < e_sz (a_E a i) := by
  unfold oK at h
  rw [List.mem_flatMap] at h
  obtain ⟨b, _, h⟩ := h
  exact ⟨(oBn_m h).1, (oBn_m h).2.1⟩
/-- the place j of the order -/
def oo (a : sA) (j : Nat) : Nat := (oA a).getD j 0
theorem oo_lt {a : sA} (w : wfA a) {j : Nat} (h : j < a_n a) : oo a j < a_n a := by
  have h' : j < (oA a).length := by rw [oA_n w]; exact h
  unfold oo
  rw [List.getD_eq_getElem?_getD, List.getElem?_eq_getElem h', Option.getD_some]
  exact oA_m (List.getElem_mem h')
theorem oK_le {a : sA} (w : wfA a) : (oK a).length ≤ a_n a := by
  have := oA_n w
  unfold oA at this
  rw [List.length_append] at this
  omega
theorem oo_K {a : sA} {j : Nat} (h : j < (oK a).length) : 0 < e_sz (a_E a (oo a j)) := by
  unfold oo oA
  rw [List.getD_eq_getElem?_getD, List.getElem?_append_left h, List.getElem?_eq_getElem h, Option.getD_some]
  exact (oK_m (List.getElem_mem h)).2
theorem oo_Z {a : sA} (w : wfA a) {j : Nat} (h : (oK a).length ≤ j) (h2 : j < a_n a) : e_sz (a_E a (oo a j)) = 0 := by
  have h' : j - (oK a).length < (oZn (a_E a) (a_n a)).length := by
    have := oA_n w
    unfold oA at this
    rw [List.length_append] at this
    omega
  unfold oo oA
  rw [List.getD_eq_getElem?_getD, List.getElem?_append_right h, List.getElem?_eq_getElem h', Option.getD_some]
  exact (oZn_m (List.getElem_mem h')).2
theorem fm_i {α : Type} {l r : List Nat} {g : Nat → List α} : (R0 l.length).flatMap (fun i => g ((l ++ r).getD i 0)) = l.flatMap g := by
  have e : (R0 l.length).map (fun i => (l ++ r).getD i 0) = l := by
    unfold R0
    apply List.ext_getElem
    · rw [List.length_map, List.length_range']
    · intro i h1 h2
      have h3 : i < l.length := h2
      rw [List.getElem_map, List.getElem_range', Nat.zero_add, Nat.one_mul, List.getD_eq_getElem?_getD, List.getElem?_append_left h3, List.getElem?_eq_getElem h3, Option.getD_some]
  rw [← List.flatMap_map (f := fun i => (l ++ r).getD i 0) (g := g), e]
theorem fm_K {α : Type} {a : sA} {g : Nat → List α} : (R0 (oK a).length).flatMap (fun i => g (oo a i)) = (oK a).flatMap g := fm_i
theorem fm_A {α : Type} {a : sA} (w : wfA a) {g : Nat → List α} : (R0 (a_n a)).flatMap (fun i => g (oo a i)) = (oA a).flatMap g := by
  have := fm_i (l := oA a) (r := []) (g := g)
  rw [List.append_nil, oA_n w] at this
  exact this
/-- how many blocks are written -/
def kb (a : sA) : Nat := ((R0 6).map (fun b => if 0 < sfo (a_E a) b (a_n a) then 1 else 0)).sum
/-! the rows of bytes -/
def LB (m : Nat) (v : Int64) : List Int32 := (List.range' 0 m).map (lb v)
def eb (e : sE) : List Int32 := (List.range' 0 (e_sz e)).map (e_by e)
def raw (a : sA) (b : Nat) : List Int32 := (oBn (a_E a) b (a_n a)).flatMap (fun i => eb (a_E a i))
def pk (a : sA) (b : Nat) : List Int32 := (List.range' 0 (raw a b).length).map (cops (b_ck (a_B a b)) (b_cd (a_B a b)) (raw a b).length 0 (b_cn (a_B a b)) (fun j => (raw a b).getD j 0))
def cform (k d : Int32) : List Int32 := if k = Int32.ofNat 1 then [Int32.ofNat 33, Int32.ofNat 3, Int32.ofNat 1, d - Int32.ofNat 1] else if k = Int32.ofNat 0 then [Int32.ofNat 1, Int32.ofNat 0] else [Int32.ofNat 3, Int32.ofNat 2, Int32.ofNat 3, if k = Int32.ofNat 2 then Int32.ofNat 2 else Int32.ofNat 4]
def cno (v : sB) : Nat := if b_cn v = 0 then 1 else b_cn v
def fold (v : sB) : List Int32 := nb (cno v) ++ (R0 (cno v)).flatMap (fun c => if c < b_cn v then cform (b_ck v c) (b_cd v c) else cform (Int32.ofNat 0) (Int32.ofNat 0)) ++ (R0 (cno v - 1)).flatMap (fun c => nb c ++ nb (c + 1))
def wSz (a : sA) : List Int32 := (R0 6).flatMap (fun b => if 0 < sbo (a_E a) b (a_n a) then nb (sbo (a_E a) b (a_n a)) else [])
def wFo (a : sA) : List Int32 := (R0 6).flatMap (fun b => if 0 < sbo (a_E a) b (a_n a) then fold (a_B a b) else [])
def wGi (a : sA) : List Int32 := (R0 6).flatMap (fun b => if 0 < sbo (a_E a) b (a_n a) then (R0 (cno (a_B a b))).flatMap (fun _ => nb (sbo (a_E a) b (a_n a))) else [])
def wFc (a : sA) : List Int32 := (R0 6).flatMap (fun b => if 0 < sfo (a_E a) b (a_n a) then nb (sfo (a_E a) b (a_n a)) else [])
def wFs (a : sA) : List Int32 := (R0 ((oK a).length - 1)).flatMap (fun i => if e_hm (a_E a (oo a i)) = e_hm (a_E a (oo a (i + 1))) then nb (e_sz (a_E a (oo a i))) else [])
def wCk (a : sA) : List Int32 := (oK a).flatMap (fun i => LB 4 (ck (e_by (a_E a i)) 0 (e_sz (a_E a i))).toInt64)
def wS (a : sA) : List Int32 := [Int32.ofNat 4, Int32.ofNat 6] ++ (nb 0 ++ (nb (kb a) ++ ([Int32.ofNat 9] ++ (wSz a ++ ([Int32.ofNat 0, Int32.ofNat 7, Int32.ofNat 11] ++ (nb (kb a) ++ ([Int32.ofNat 0] ++ (wFo a ++ ([Int32.ofNat 12] ++ (wGi a ++ ([Int32.ofNat 0, Int32.ofNat 8] ++ ((if kb a < (oK a).length then [Int32.ofNat 13] ++ (wFc a ++ ([Int32.ofNat 9] ++ wFs a)) else []) ++ ([Int32.ofNat 10, Int32.ofNat 1] ++ (wCk a ++ [Int32.ofNat 0, Int32.ofNat 0]))))))))))))))
def bgb (n : Nat) (g : Nat → Bool) (j : Nat) : Bool := decide (j < n ∧ g j = true)
def wRow (t n : Nat) (g : Nat → Bool) : List Int32 := [Int32.ofNat t] ++ (nb ((n + 7) / 8) ++ bbl (bgb n g) n)
def wNm (a : sA) : List Int32 := (oA a).flatMap (fun i => (R0 (e_un (a_E a i))).flatMap (fun k => LB 2 (e_nm (a_E a i) k).toInt64) ++ LB 2 (Int64.ofNat 0))
def wVal (a : sA) (t m : Nat) (v : Nat → Option Int64) : List Int32 := if cn (fun j => (v j).isSome) (a_n a) = 0 then [] else
  [Int32.ofNat t] ++ (nb (2 + (if cn (fun j => (v j).isSome) (a_n a) = a_n a then 0 else (a_n a + 7) / 8) + m * cn (fun j => (v j).isSome) (a_n a)) ++ ([if cn (fun j => (v j).isSome) (a_n a) = a_n a then Int32.ofNat 1 else Int32.ofNat 0] ++ ((if cn (fun j => (v j).isSome) (a_n a) < a_n a then bbl (bgb (a_n a) (fun j => (v j).isSome)) (a_n a) else []) ++ ([Int32.ofNat 0] ++ (R0 (a_n a)).flatMap (fun j => match v j with
    | none => []
    | some x => LB m x)))))
def vT (a : sA) (j : Nat) : Option Int64 := e_tm (a_E a (oo a j))
def vA (a : sA) (j : Nat) : Option Int64 := (e_av (a_E a (oo a j))).map Int32.toInt64
def wEm (a : sA) : List Int32 := if (oK a).length < a_n a then wRow 14 (a_n a) (fun j => decide ((oK a).length ≤ j)) ++ ((if 0 < cn (fun j => decide (e_kd (a_E a (oo a ((oK a).length + j))) = 0)) (a_n a - (oK a).length) then wRow 15 (a_n a - (oK a).length) (fun j => decide (e_kd (a_E a (oo a ((oK a).length + j))) = 0)) else []) ++ (if 0 < cn (fun j => e_an (a_E a (oo a ((oK a).length + j)))) (a_n a - (oK a).length) then wRow 16 (a_n a - (oK a).length) (fun j => e_an (a_E a (oo a ((oK a).length + j)))) else [])) else []
def uns (a : sA) : Nat := su (fun i => e_un (a_E a i) + 1) (R0 (a_n a))
def wE (a : sA) : List Int32 := [Int32.ofNat 5] ++ (nb (a_n a) ++ (wEm a ++ ([Int32.ofNat 17] ++ (nb (1 + 2 * uns a) ++ ([Int32.ofNat 0] ++ (wNm a ++ (wVal a 20 8 (vT a) ++ (wVal a 21 4 (vA a) ++ [Int32.ofNat 0]))))))))
def wP (a : sA) : List Int32 := (R0 6).flatMap (pk a)
def wH (a : sA) : List Int32 := if a_n a = 0 then [] else [Int32.ofNat 1] ++ ((if 0 < (oK a).length then wS a else []) ++ (wE a ++ [Int32.ofNat 0]))
