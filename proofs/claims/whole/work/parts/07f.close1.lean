/-! ===== the small machine is sound: instruction by instruction ===== -/
theorem am_dc : ∀ y : Nat, y < 206 → am_dec (am_bc y) (am_rs.getD y []) = true
  | 0, _ => am_d0
  | 1, _ => am_d1
  | 2, _ => am_d2
  | 3, _ => am_d3
  | 4, _ => am_d4
  | 5, _ => am_d5
  | 6, _ => am_d6
  | 7, _ => am_d7
  | 8, _ => am_d8
  | 9, _ => am_d9
  | 10, _ => am_d10
  | 11, _ => am_d11
  | 12, _ => am_d12
  | 13, _ => am_d13
  | 14, _ => am_d14
  | 15, _ => am_d15
  | 16, _ => am_d16
  | 17, _ => am_d17
  | 18, _ => am_d18
  | 19, _ => am_d19
  | 20, _ => am_d20
  | 21, _ => am_d21
  | 22, _ => am_d22
  | 23, _ => am_d23
  | 24, _ => am_d24
  | 25, _ => am_d25
  | 26, _ => am_d26
  | 27, _ => am_d27
  | 28, _ => am_d28
  | 29, _ => am_d29
  | 30, _ => am_d30
  | 31, _ => am_d31
  | 32, _ => am_d32
  | 33, _ => am_d33
  | 34, _ => am_d34
  | 35, _ => am_d35
  | 36, _ => am_d36
  | 37, _ => am_d37
  | 38, _ => am_d38
  | 39, _ => am_d39
  | 40, _ => am_d40
  | 41, _ => am_d41
  | 42, _ => am_d42
  | 43, _ => am_d43
  | 44, _ => am_d44
  | 45, _ => am_d45
  | 46, _ => am_d46
  | 47, _ => am_d47
  | 48, _ => am_d48
  | 49, _ => am_d49
  | 50, _ => am_d50
  | 51, _ => am_d51
  | 52, _ => am_d52
  | 53, _ => am_d53
  | 54, _ => am_d54
  | 55, _ => am_d55
  | 56, _ => am_d56
  | 57, _ => am_d57
  | 58, _ => am_d58
  | 59, _ => am_d59
  | 60, _ => am_d60
  | 61, _ => am_d61
  | 62, _ => am_d62
  | 63, _ => am_d63
  | 64, _ => am_d64
  | 65, _ => am_d65
  | 66, _ => am_d66
  | 67, _ => am_d67
  | 68, _ => am_d68
  | 69, _ => am_d69
  | 70, _ => am_d70
  | 71, _ => am_d71
  | 72, _ => am_d72
  | 73, _ => am_d73
  | 74, _ => am_d74
  | 75, _ => am_d75
  | 76, _ => am_d76
  | 77, _ => am_d77
  | 78, _ => am_d78
  | 79, _ => am_d79
  | 80, _ => am_d80
  | 81, _ => am_d81
  | 82, _ => am_d82
  | 83, _ => am_d83
  | 84, _ => am_d84
  | 85, _ => am_d85
  | 86, _ => am_d86
  | 87, _ => am_d87
  | 88, _ => am_d88
  | 89, _ => am_d89
  | 90, _ => am_d90
  | 91, _ => am_d91
  | 92, _ => am_d92
  | 93, _ => am_d93
  | 94, _ => am_d94
  | 95, _ => am_d95
  | 96, _ => am_d96
  | 97, _ => am_d97
  | 98, _ => am_d98
  | 99, _ => am_d99
  | 100, _ => am_d100
  | 101, _ => am_d101
  | 102, _ => am_d102
  | 103, _ => am_d103
  | 104, _ => am_d104
  | 105, _ => am_d105
  | 106, _ => am_d106
  | 107, _ => am_d107
  | 108, _ => am_d108
  | 109, _ => am_d109
  | 110, _ => am_d110
  | 111, _ => am_d111
  | 112, _ => am_d112
  | 113, _ => am_d113
  | 114, _ => am_d114
  | 115, _ => am_d115
  | 116, _ => am_d116
  | 117, _ => am_d117
  | 118, _ => am_d118
  | 119, _ => am_d119
  | 120, _ => am_d120
  | 121, _ => am_d121
  | 122, _ => am_d122
  | 123, _ => am_d123
  | 124, _ => am_d124
  | 125, _ => am_d125
  | 126, _ => am_d126
  | 127, _ => am_d127
  | 128, _ => am_d128
  | 129, _ => am_d129
  | 130, _ => am_d130
  | 131, _ => am_d131
  | 132, _ => am_d132
  | 133, _ => am_d133
  | 134, _ => am_d134
  | 135, _ => am_d135
  | 136, _ => am_d136
  | 137, _ => am_d137
  | 138, _ => am_d138
  | 139, _ => am_d139
  | 140, _ => am_d140
  | 141, _ => am_d141
  | 142, _ => am_d142
  | 143, _ => am_d143
  | 144, _ => am_d144
  | 145, _ => am_d145
  | 146, _ => am_d146
  | 147, _ => am_d147
  | 148, _ => am_d148
  | 149, _ => am_d149
  | 150, _ => am_d150
  | 151, _ => am_d151
  | 152, _ => am_d152
  | 153, _ => am_d153
  | 154, _ => am_d154
  | 155, _ => am_d155
  | 156, _ => am_d156
  | 157, _ => am_d157
  | 158, _ => am_d158
  | 159, _ => am_d159
  | 160, _ => am_d160
  | 161, _ => am_d161
  | 162, _ => am_d162
  | 163, _ => am_d163
  | 164, _ => am_d164
  | 165, _ => am_d165
  | 166, _ => am_d166
  | 167, _ => am_d167
  | 168, _ => am_d168
  | 169, _ => am_d169
  | 170, _ => am_d170
  | 171, _ => am_d171
  | 172, _ => am_d172
  | 173, _ => am_d173
  | 174, _ => am_d174
  | 175, _ => am_d175
  | 176, _ => am_d176
  | 177, _ => am_d177
  | 178, _ => am_d178
  | 179, _ => am_d179
  | 180, _ => am_d180
  | 181, _ => am_d181
  | 182, _ => am_d182
  | 183, _ => am_d183
  | 184, _ => am_d184
  | 185, _ => am_d185
  | 186, _ => am_d186
  | 187, _ => am_d187
  | 188, _ => am_d188
  | 189, _ => am_d189
  | 190, _ => am_d190
  | 191, _ => am_d191
  | 192, _ => am_d192
  | 193, _ => am_d193
  | 194, _ => am_d194
  | 195, _ => am_d195
  | 196, _ => am_d196
  | 197, _ => am_d197
  | 198, _ => am_d198
  | 199, _ => am_d199
  | 200, _ => am_d200
  | 201, _ => am_d201
  | 202, _ => am_d202
  | 203, _ => am_d203
  | 204, _ => am_d204
  | 205, _ => am_d205
  | n + 206, h => absurd h (by omega)
theorem am_okall (y : Nat) (h : y < 206) : (am_rs.getD y []).all (am_okr y) = true := by
  rcases (show y < 26 ∨ (26 ≤ y ∧ y < 52) ∨ (52 ≤ y ∧ y < 78) ∨ (78 ≤ y ∧ y < 104) ∨ (104 ≤ y ∧ y < 130) ∨ (130 ≤ y ∧ y < 156) ∨ (156 ≤ y ∧ y < 182) ∨ (182 ≤ y ∧ y < 206) by omega) with q | q | q | q | q | q | q | q
  · exact am_ok_0 y q (Nat.zero_le _)
  · exact am_ok_1 y q.2 q.1
  · exact am_ok_2 y q.2 q.1
  · exact am_ok_3 y q.2 q.1
  · exact am_ok_4 y q.2 q.1
  · exact am_ok_5 y q.2 q.1
  · exact am_ok_6 y q.2 q.1
  · exact am_ok_7 y q.2 q.1
theorem am_look {β : Type} : ∀ (L : List (Nat × β)) (k : Nat) (b : β), L.lookup k = some b → (k, b) ∈ L
  | [], k, b, h => by simp at h
  | (j, c) :: r, k, b, h => by
    rw [List.lookup_cons] at h
    by_cases e : k = j
    · subst e
      simp at h
      subst h
      exact List.mem_cons_self
    · have : (k == j) = false := by simp [e]
      rw [this] at h
      exact List.mem_cons_of_mem _ (am_look r k b h)
theorem am_rowd {y pc : Nat} {r : Instr × Nat × Nat × Nat} (hy : y < 206) (h : am_row y pc = some r) : decode (am_bc y) pc = .ok (r.1, r.2.1) := by
  have h1 := List.all_eq_true.mp (am_dc y hy) (pc, r) (am_look _ _ _ h)
  simpa using h1
theorem am_rowo {y pc : Nat} {r : Instr × Nat × Nat × Nat} (hy : y < 206) (h : am_row y pc = some r) : am_okr y (pc, r) = true := List.all_eq_true.mp (am_okall y hy) (pc, r) (am_look _ _ _ h)
theorem am_pu_len {i : Instr} {st st' : List Value} {y pc n a b : Nat} (h : am_pu i st = some st') (hok : am_okr y (pc, i, n, a, b) = true) : am_pl i = n := by
  unfold am_pu at h
  split at h <;> first | (cases h; done) | (have q : (n == am_ln _) = true := hok; rw [beq_iff_eq] at q; exact q.symm)
theorem am_lo_len {i : Instr} {al : List (Option Value)} {st : List Value} {q : List (Option Value) × List Value} {y pc n a b : Nat} (h : am_lo i al st = some q) (hok : am_okr y (pc, i, n, a, b) = true) : am_ll i = n := by
  unfold am_lo at h
  split at h <;> first | (cases h; done) | (have q : (n == am_ln _) = true := hok; rw [beq_iff_eq] at q; exact q.symm)
theorem am_br_len {i : Instr} {st : List Value} {q : Prop × List Value} {y pc n a b : Nat} (h : am_br i st = some q) (hok : am_okr y (pc, i, n, a, b) = true) : n = 3 ∧ (pc : Int) + am_off i = (a : Int) := by
  unfold am_br at h
  split at h <;> first | (cases h; done) | (have q : (n == 3 && decide ((pc : Int) + _ = (a : Int))) = true := hok; rw [Bool.and_eq_true, beq_iff_eq, decide_eq_true_eq] at q; exact q)
theorem am_fl_of {o x a b : Nat} (h : am_fl.any (fun q => q.1 == o && q.2.1 == x && q.2.2.1 == a && q.2.2.2.1 == b) = true) : Cond.fieldLink (am_cn o) x (am_F a b).1 (am_F a b).2.1 (am_F a b).2.2.1 ∈ am_wG := by
  simp only [List.any_eq_true, Bool.and_eq_true, beq_iff_eq] at h
  obtain ⟨q, h1, ⟨⟨rfl, rfl⟩, rfl⟩, rfl⟩ := h
  exact am_at_in (List.all_eq_true.mp am_fl_ok q h1)
theorem am_fl_lt : am_fl.all (fun q => decide (q.2.2.1 < 11 ∧ q.2.2.2.1 < am_n q.2.2.1)) = true := by decide +kernel
theorem am_fl_n {o x a b : Nat} (h : am_fl.any (fun q => q.1 == o && q.2.1 == x && q.2.2.1 == a && q.2.2.2.1 == b) = true) : a < 11 ∧ b < am_n a := by
  simp only [List.any_eq_true, Bool.and_eq_true, beq_iff_eq] at h
  obtain ⟨q, h1, ⟨⟨-, -⟩, rfl⟩, rfl⟩ := h
  have := List.all_eq_true.mp am_fl_lt q h1
  simpa using this
theorem am_cm_of {o x a : Nat} (h : am_cm.any (fun q => q.1 == o && q.2.1 == x && q.2.2.1 == a) = true) : Cond.methodLink (am_cn o) x (am_ym a) ∈ am_wG := by
  simp only [List.any_eq_true, Bool.and_eq_true, beq_iff_eq] at h
  obtain ⟨q, h1, ⟨rfl, rfl⟩, rfl⟩ := h
  exact am_at_in (List.all_eq_true.mp am_cm_ok q h1)
theorem am_kl_of {o x a : Nat} (h : am_kl_.any (fun q => q.1 == o && q.2.1 == x && q.2.2.1 == a) = true) : Cond.classLink (am_cn o) x (am_cn a) ∈ am_wG := by
  simp only [List.any_eq_true, Bool.and_eq_true, beq_iff_eq] at h
  obtain ⟨q, h1, ⟨rfl, rfl⟩, rfl⟩ := h
  exact am_at_in (List.all_eq_true.mp am_kl__ok q h1)
section AMI
variable {l : Launch} {D : va_G} {g : Nat → ClassId} {B0 : Nat} {tt sa : Nat → Nat} {y pc : Nat} {al : List (Option Value)} {st : List Value} {h : am_H} {post : am_P} {n a b x : Nat}
theorem am_c_get {r : Nat} (hr : am_row y pc = some (.getfield x, n, a, b)) (q : am_K h r = a + 1 ∧ am_So l D g B0 tt sa y (pc + 3) al (am_fv h a b r :: st) h post) : am_So l D g B0 tt sa y pc al (.ref r :: st) h post := by
  intro p e R s m args below meth c H locs cells slots ls hC hE hl hW hR hS hc hs
  obtain ⟨hx, hb, hml, hrt, hlk, hown, hnm, hts, htab, hfr, hlo, htr, hy⟩ := id hC
  have hd := am_rowd hy hr
  have hok : (n == 3 && am_fl.any (fun q => q.1 == am_ow y && q.2.1 == x && q.2.2.1 == a && q.2.2.2.1 == b)) = true := am_rowo hy hr
  rw [Bool.and_eq_true, beq_iff_eq] at hok
  obtain ⟨rfl, hok⟩ := hok
  exact am_get hx hb hts hown hE.1 hW (am_fl_of hok) (am_fl_n hok).1 (am_fl_n hok).2 q.1 hd (q.2 p e R s m args below meth c H locs cells slots ls hC hE hl hW hR hS hc hs)
theorem am_ty_of {ci k : Nat} (hc : ci < 11) (hk : k < am_n ci) : (am_t ci k = 0 → am_ty ci k = .int) ∧ (am_t ci k = 3 → am_ty ci k = .boolean) ∧ (am_t ci k = 1 → am_ty ci k = .long) ∧ (am_t ci k = 2 → (∃ C, am_ty ci k = .object C) ∨ ∃ t, am_ty ci k = .array t) := by
  have h := (am_ck_ty hc k hk).2.1
  cases hq : am_ty ci k <;> rw [hq] at h <;> simp [am_tyk] at h <;> rw [← h] <;> simp
theorem am_c_put {r : Nat} {v : Value} (hr : am_row y pc = some (.putfield x, n, a, b)) (q : am_K h r = a + 1 ∧ am_pf (fun h' => am_So l D g B0 tt sa y (pc + 3) al st h' post) h a b r v) : am_So l D g B0 tt sa y pc al (v :: .ref r :: st) h post := by
  intro p e R s m args below meth c H locs cells slots ls hC hE hl hW hR hS hc hs
  obtain ⟨hx, hb, hml, hrt, hlk, hown, hnm, hts, htab, hfr, hlo, htr, hy⟩ := id hC
  have hd := am_rowd hy hr
  have hok : (n == 3 && am_fl.any (fun q => q.1 == am_ow y && q.2.1 == x && q.2.2.1 == a && q.2.2.2.1 == b) && (!(am_F a b).2.2.2 || (am_ow y == a && decide ((am_ym y).name = "<init>")))) = true := am_rowo hy hr
  simp only [Bool.and_eq_true, beq_iff_eq, Bool.or_eq_true, Bool.not_eq_true', decide_eq_true_eq] at hok
  obtain ⟨⟨rfl, hok⟩, hfin⟩ := hok
  obtain ⟨hr1, q⟩ := q
  have hci := (am_fl_n hok).1
  have hk := (am_fl_n hok).2
  have hfin' : (am_F a b).2.2.2 = false ∨ (meth.name = "<init>" ∧ am_cn a = am_cn (am_ow y)) := by
    rcases hfin with f | ⟨f1, f2⟩
    · exact Or.inl f
    · exact Or.inr ⟨hnm.trans f2, by rw [f1]⟩
  obtain ⟨t0, t3, t1, t2⟩ := am_ty_of hci hk
  unfold am_pf at q
  split at q
  · rename_i ht
    refine am_put (h' := am_sI h a b r _) hx hb hts hown hE.1 hW hS (am_fl_of hok) hci hk hr1 (by rw [t0 ht]; rfl) (by rw [t0 ht]; rfl) hfin' (am_ce_sI hr1 hci hk (Or.inl ht)) rfl hd fun H1 locs1 w1 s1 => ?_
    exact q p e R s m args below meth c H1 locs1 cells slots ls hC hE hl w1 (am_Ro_sub hR fun z hz => ⟨hz, rfl, rfl⟩) s1 hc hs
  · rename_i ht
    refine am_put (h' := am_sI h a b r _) hx hb hts hown hE.1 hW hS (am_fl_of hok) hci hk hr1 (by rw [t3 ht]; rcases q.1 with rfl | rfl <;> rfl) (by rw [t3 ht]; rcases q.1 with rfl | rfl <;> rfl) hfin' (am_ce_sI hr1 hci hk (Or.inr ht)) rfl hd fun H1 locs1 w1 s1 => ?_
    exact q.2 p e R s m args below meth c H1 locs1 cells slots ls hC hE hl w1 (am_Ro_sub hR fun z hz => ⟨hz, rfl, rfl⟩) s1 hc hs
  · rename_i ht
    refine am_put (h' := am_sJ h a b r _) hx hb hts hown hE.1 hW hS (am_fl_of hok) hci hk hr1 (by rw [t1 ht]; rfl) (by rw [t1 ht]; rfl) hfin' (am_ce_sJ hr1 hci hk ht) rfl hd fun H1 locs1 w1 s1 => ?_
    exact q p e R s m args below meth c H1 locs1 cells slots ls hC hE hl w1 (am_Ro_sub hR fun z hz => ⟨hz, rfl, rfl⟩) s1 hc hs
  · rename_i q9 ht
    refine am_put (h' := am_sR h a b r (some q9)) hx hb hts hown hE.1 hW hS (am_fl_of hok) hci hk hr1 (by rcases t2 ht with ⟨C, z⟩ | ⟨t, z⟩ <;> rw [z] <;> rfl) (by rcases t2 ht with ⟨C, z⟩ | ⟨t, z⟩ <;> rw [z] <;> rfl) hfin' (am_ce_sR (x := some q9) hr1 hci hk ht) rfl hd fun H1 locs1 w1 s1 => ?_
    exact q p e R s m args below meth c H1 locs1 cells slots ls hC hE hl w1 (am_Ro_sub hR fun z hz => ⟨hz, rfl, rfl⟩) s1 hc hs
  · rename_i ht
    refine am_put (h' := am_sR h a b r none) hx hb hts hown hE.1 hW hS (am_fl_of hok) hci hk hr1 (by rcases t2 ht with ⟨C, z⟩ | ⟨t, z⟩ <;> rw [z] <;> rfl) (by rcases t2 ht with ⟨C, z⟩ | ⟨t, z⟩ <;> rw [z] <;> rfl) hfin' (am_ce_sR (x := none) hr1 hci hk ht) rfl hd fun H1 locs1 w1 s1 => ?_
    exact q p e R s m args below meth c H1 locs1 cells slots ls hC hE hl w1 (am_Ro_sub hR fun z hz => ⟨hz, rfl, rfl⟩) s1 hc hs
  · exact absurd q id
end AMI
