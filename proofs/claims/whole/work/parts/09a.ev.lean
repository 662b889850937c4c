/-! ===== the small machine: more locals, more room, a weaker end ===== -/
def am_le (al al' : List (Option Value)) : Prop := al.length = al'.length ∧ ∀ (j : Nat) (v : Value), al[j]? = some (some v) → al'[j]? = some (some v)
theorem am_le.rf (al : List (Option Value)) : am_le al al := ⟨rfl, fun _ _ h => h⟩
theorem am_kl_cat {al : List (Option Value)} {i j : Nat} {v : Value} (h : al[j]? = some (some v)) (hn : ¬ (j + 1 = i ∧ v.category = 2)) : (am_kl al i)[j]? = some (some v) := by
  unfold am_kl
  split
  · exact h
  · rename_i k
    split
    · rename_i w hw
      by_cases e : j = k
      · subst e
        rw [hw] at h
        cases h
        exact absurd ⟨rfl, rfl⟩ hn
      · rw [List.getElem?_set_ne (Ne.symm e)]
        exact h
    · rename_i w hw
      by_cases e : j = k
      · subst e
        rw [hw] at h
        cases h
        exact absurd ⟨rfl, rfl⟩ hn
      · rw [List.getElem?_set_ne (Ne.symm e)]
        exact h
    · exact h
theorem am_le.kl {al al' : List (Option Value)} (h : am_le al al') (i : Nat) : am_le (am_kl al i) (am_kl al' i) :=
  ⟨by rw [am_kl_len, am_kl_len, h.1], fun j v hj => am_kl_cat (h.2 j v (am_kl_get hj).1) (am_kl_get hj).2⟩
theorem am_le.set {al al' : List (Option Value)} (h : am_le al al') (i : Nat) (o : Option Value) : am_le (al.set i o) (al'.set i o) := by
  refine ⟨by simp [h.1], fun j v hj => ?_⟩
  by_cases e : j = i
  · subst e
    by_cases hl : j < al.length
    · rw [List.getElem?_set_self hl] at hj
      rw [List.getElem?_set_self (by rw [← h.1]; exact hl)]
      exact hj
    · rw [List.getElem?_eq_none (by simp; omega)] at hj
      cases hj
  · rw [List.getElem?_set_ne (Ne.symm e)] at hj ⊢
    exact h.2 j v hj
theorem am_lo_le {i : Instr} {al al' : List (Option Value)} {st : List Value} {q : List (Option Value) × List Value} (h : am_le al al') (hq : am_lo i al st = some q) : ∃ q', am_lo i al' st = some q' ∧ q'.2 = q.2 ∧ am_le q.1 q'.1 := by
  obtain ⟨q1, q2⟩ := q
  unfold am_lo at hq
  split at hq
  · split at hq <;> first | (cases hq; done) | (rename_i x z; simp only [Option.some.injEq, Prod.mk.injEq] at hq; obtain ⟨rfl, rfl⟩ := hq; exact ⟨(al', .int x :: _), by simp [am_lo, h.2 _ _ z], rfl, h⟩)
  · split at hq <;> first | (cases hq; done) | (rename_i x z; simp only [Option.some.injEq, Prod.mk.injEq] at hq; obtain ⟨rfl, rfl⟩ := hq; exact ⟨(al', .int x :: _), by simp [am_lo, h.2 _ _ z], rfl, h⟩)
  · split at hq <;> first | (cases hq; done) | (rename_i x z; simp only [Option.some.injEq, Prod.mk.injEq] at hq; obtain ⟨rfl, rfl⟩ := hq; exact ⟨(al', .long x :: _), by simp [am_lo, h.2 _ _ z], rfl, h⟩)
  · split at hq <;> first | (cases hq; done) | (rename_i x z; simp only [Option.some.injEq, Prod.mk.injEq] at hq; obtain ⟨rfl, rfl⟩ := hq; exact ⟨(al', .long x :: _), by simp [am_lo, h.2 _ _ z], rfl, h⟩)
  · split at hq
    · rename_i x z; simp only [Option.some.injEq, Prod.mk.injEq] at hq; obtain ⟨rfl, rfl⟩ := hq; exact ⟨(al', .ref x :: _), by simp [am_lo, h.2 _ _ z], rfl, h⟩
    · rename_i z; simp only [Option.some.injEq, Prod.mk.injEq] at hq; obtain ⟨rfl, rfl⟩ := hq; exact ⟨(al', .null :: _), by simp [am_lo, h.2 _ _ z], rfl, h⟩
    · cases hq
  · split at hq
    · rename_i x z; simp only [Option.some.injEq, Prod.mk.injEq] at hq; obtain ⟨rfl, rfl⟩ := hq; exact ⟨(al', .ref x :: _), by simp [am_lo, h.2 _ _ z], rfl, h⟩
    · rename_i z; simp only [Option.some.injEq, Prod.mk.injEq] at hq; obtain ⟨rfl, rfl⟩ := hq; exact ⟨(al', .null :: _), by simp [am_lo, h.2 _ _ z], rfl, h⟩
    · cases hq
  · split at hq <;> first | (cases hq; done) | (rename_i z; simp only [Option.some.injEq, Prod.mk.injEq] at hq; obtain ⟨rfl, rfl⟩ := hq; exact ⟨(am_s1 al' _ _, _), by simp [am_lo, ← h.1, z], rfl, ((h.kl _).set _ _)⟩)
  · split at hq <;> first | (cases hq; done) | (rename_i z; simp only [Option.some.injEq, Prod.mk.injEq] at hq; obtain ⟨rfl, rfl⟩ := hq; exact ⟨(am_s1 al' _ _, _), by simp [am_lo, ← h.1, z], rfl, ((h.kl _).set _ _)⟩)
  · split at hq <;> first | (cases hq; done) | (rename_i z; simp only [Option.some.injEq, Prod.mk.injEq] at hq; obtain ⟨rfl, rfl⟩ := hq; exact ⟨(am_s2 al' _ _, _), by simp [am_lo, ← h.1, z], rfl, (((h.kl _).set _ _).set _ _)⟩)
  · split at hq <;> first | (cases hq; done) | (rename_i z; simp only [Option.some.injEq, Prod.mk.injEq] at hq; obtain ⟨rfl, rfl⟩ := hq; exact ⟨(am_s2 al' _ _, _), by simp [am_lo, ← h.1, z], rfl, (((h.kl _).set _ _).set _ _)⟩)
  · split at hq <;> first | (cases hq; done) | (rename_i z; simp only [Option.some.injEq, Prod.mk.injEq] at hq; obtain ⟨rfl, rfl⟩ := hq; exact ⟨(am_s1 al' _ _, _), by simp [am_lo, ← h.1, z], rfl, ((h.kl _).set _ _)⟩)
  · split at hq <;> first | (cases hq; done) | (rename_i z; simp only [Option.some.injEq, Prod.mk.injEq] at hq; obtain ⟨rfl, rfl⟩ := hq; exact ⟨(am_s1 al' _ _, _), by simp [am_lo, ← h.1, z], rfl, ((h.kl _).set _ _)⟩)
  · split at hq <;> first | (cases hq; done) | (rename_i z; simp only [Option.some.injEq, Prod.mk.injEq] at hq; obtain ⟨rfl, rfl⟩ := hq; exact ⟨(am_s1 al' _ _, _), by simp [am_lo, ← h.1, z], rfl, ((h.kl _).set _ _)⟩)
  · split at hq <;> first | (cases hq; done) | (rename_i z; simp only [Option.some.injEq, Prod.mk.injEq] at hq; obtain ⟨rfl, rfl⟩ := hq; exact ⟨(am_s1 al' _ _, _), by simp [am_lo, ← h.1, z], rfl, ((h.kl _).set _ _)⟩)
  · split at hq <;> first | (cases hq; done) | (rename_i x z; simp only [Option.some.injEq, Prod.mk.injEq] at hq; obtain ⟨rfl, rfl⟩ := hq; exact ⟨(am_s1 al' _ _, _), by simp [am_lo, h.2 _ _ z], rfl, (h.kl _).set _ _⟩)
  · cases hq
section AMW
variable {tt : Nat → Nat}
/-- all that an end, locals and room may gain -/
def am_Im (tt : Nat → Nat) : am_X := fun y pc al st h post => ∀ (al' : List (Option Value)) (post' : am_P), am_le al al' → (∀ r k, post r k → post' r k) → am_Ev tt y pc al' st h post'
theorem am_Im.ev {y pc : Nat} {al : List (Option Value)} {st : List Value} {h : am_H} {post : am_P} (q : am_Im tt y pc al st h post) : am_Ev tt y pc al st h post := q al post (am_le.rf al) (fun _ _ z => z)
theorem am_Im_th {y pc : Nat} {al al' : List (Option Value)} {h : am_H} {post post' : am_P} {E : String} (hl : am_le al al') (hp : ∀ r k, post r k → post' r k) (q : am_th (am_Im tt) y pc al h post E) : am_th (am_Ev tt) y pc al' h post' E := by
  unfold am_th at q ⊢
  split at q
  · exact hp _ _ q
  · split at q
    · exact q
    · split at q
      · exact ⟨by rw [← hl.1]; exact q.1, q.2 _ _ ((hl.kl _).set _ _) hp⟩
      · exact ⟨by rw [← hl.1]; exact q.1, q.2 _ _ ((hl.kl _).set _ _) hp⟩
      · exact q
theorem am_Im_go {y pc : Nat} {al al' : List (Option Value)} {rest As : List Value} {h : am_H} {a : Nat} {post post' : am_P} (hl : am_le al al') (hp : ∀ r k, post r k → post' r k) (q : am_go (am_Im tt) y pc al rest h post a As) : am_go (am_Ev tt) y pc al' rest h post' a As := by
  obtain ⟨q1, q2, q0, Q, q5, q6, q7⟩ := q
  exact ⟨q1, q2, q0, Q, q5.ev, fun v h' z => q6 v h' z _ _ hl hp, fun E h' z => am_Im_th hl hp (q7 E h' z)⟩
theorem am_Im_gn {y pc : Nat} {al al' : List (Option Value)} {rest As : List Value} {h : am_H} {a : Nat} {post post' : am_P} (hl : am_le al al') (hp : ∀ r k, post r k → post' r k) (q : am_gn (am_Im tt) y pc al rest h post a As) : am_gn (am_Ev tt) y pc al' rest h post' a As := by
  obtain ⟨q1, q2, q0, Q, q5, q6, q7⟩ := q
  exact ⟨q1, q2, q0, Q, q5.ev, fun v h' z => q6 v h' z _ _ hl hp, q7⟩
set_option maxHeartbeats 4000000 in
theorem am_Im_im {y pc : Nat} {al al' : List (Option Value)} {st : List Value} {h : am_H} {a b : Nat} {post post' : am_P} {i : Instr} (hl : am_le al al') (hp : ∀ r k, post r k → post' r k) (q : am_im tt (am_Im tt) y pc al st h post i a b) : am_im tt (am_Ev tt) y pc al' st h post' i a b := by
  have go : ∀ {pc : Nat} {st : List Value} {h : am_H}, am_Im tt y pc al st h post → am_Ev tt y pc al' st h post' := fun z => z _ _ hl hp
  unfold am_im at q ⊢
  split at q
  · exact ⟨q.1, go q.2⟩
  · exact go q
  · exact ⟨q.1, go q.2⟩
  · exact ⟨q.1, go q.2⟩
  · refine ⟨fun z => ?_, fun z1 z2 => ?_⟩
    · obtain ⟨t, t1, t2⟩ := q.1 z
      exact ⟨t, t1, go t2⟩
    · obtain ⟨o, t, t0, t1, t2⟩ := q.2 z1 z2
      exact ⟨o, t, t0, t1, go t2⟩
  · exact ⟨q.1, go q.2⟩
  · exact ⟨q.1, am_pf_mono (fun h' z => go z) q.2⟩
  · exact go q
  · exact ⟨q.1, q.2.1, go q.2.2⟩
  · exact ⟨q.1, q.2.1, go q.2.2⟩
  · exact ⟨q.1, q.2.1, go q.2.2⟩
  · exact ⟨q.1, q.2.1, go q.2.2⟩
  · exact ⟨q.1, q.2.1, go q.2.2⟩
  · exact ⟨q.1, q.2.1, go q.2.2⟩
  · exact ⟨q.1, q.2.imp (fun z => ⟨z.1, go z.2⟩) (fun z => ⟨z.1, go z.2⟩)⟩
  · exact ⟨q.1, q.2.1, go q.2.2⟩
  · exact ⟨q.1, q.2.1, go q.2.2⟩
  · exact ⟨q.1, q.2.1, go q.2.2⟩
  · exact ⟨q.1, go q.2⟩
  · exact ⟨q.1, q.2.1, q.2.2.1, q.2.2.2.1, fun a z => q.2.2.2.2 a z _ _ hl hp⟩
  · exact ⟨q.1, q.2.1, q.2.2.1, q.2.2.2.1, fun a z => q.2.2.2.2 a z _ _ hl hp⟩
  · exact q.imp (fun q => ⟨q.1, q.2.1, q.2.2.1, fun a z => q.2.2.2 a z _ _ hl hp⟩) (fun z => ⟨z.1, z.2.1, z.2.2.1, z.2.2.2.1, z.2.2.2.2.1, hp _ _ z.2.2.2.2.2⟩)
  · obtain ⟨q1, r, q2, q3, q4⟩ := q
    exact ⟨q1, r, q2, q3, am_Im_go hl hp q4⟩
  · refine q.imp (fun q => ?_) (fun q => ?_)
    · obtain ⟨q1, r, rest, q2, q3, q4⟩ := q
      exact ⟨q1, r, rest, q2, q3, go q4⟩
    · obtain ⟨q1, q2, r, q3, q4⟩ := q
      exact ⟨q1, q2, r, q3, am_Im_gn hl hp q4⟩
  · refine q.imp (fun q => ⟨q.1, q.2.1, am_Im_go hl hp q.2.2⟩) (fun q => q.imp (fun q => ⟨q.1, q.2.1, am_Im_gn hl hp q.2.2⟩) (fun q => q.imp (fun q => ?_) (fun q => q.imp (fun q => ?_) (fun q => ?_))))
    · obtain ⟨q1, u, v, rest, q2, q3, q4⟩ := q
      exact ⟨q1, u, v, rest, q2, q3, go q4⟩
    · obtain ⟨q1, u, v, rest, q2, q3, q4⟩ := q
      exact ⟨q1, u, v, rest, q2, q3, go q4⟩
    · obtain ⟨q1, n, dp, d, sp, sr, rest, q2, q3, q4, q5, q6, q7, q8, q9, q10, q11, q12⟩ := q
      exact ⟨q1, n, dp, d, sp, sr, rest, q2, q3, q4, q5, q6, q7, q8, q9, q10, q11, go q12⟩
  · exact ⟨q.1, hp _ _ q.2⟩
  · exact hp _ _ q
  · exact hp _ _ q
  · exact hp _ _ q
  · exact hp _ _ q
  · exact q
theorem am_lo_no {X : am_X} {i : Instr} {al al' : List (Option Value)} {st : List Value} {w : List (Option Value) × List Value} {y pc : Nat} {h : am_H} {a b : Nat} {post : am_P} (hw : am_lo i al' st = some w) : am_br i st = none ∧ ¬ am_im tt X y pc al st h post i a b := by
  unfold am_lo at hw
  split at hw <;> first | (cases hw; done) | exact ⟨rfl, fun z => z⟩
theorem am_Ev.im {y pc : Nat} {al : List (Option Value)} {st : List Value} {h : am_H} {post : am_P} (q : am_Ev tt y pc al st h post) : am_Im tt y pc al st h post := by
  refine q (am_Im tt) ?_
  intro y pc al st h post q al' post' hl hp
  refine am_Ev.mk ?_
  unfold am_st at q ⊢
  split at q
  · exact q
  · unfold am_in at q ⊢
    split at q
    · exact q _ _ hl hp
    · split at q
      · rename_i w hw
        obtain ⟨w', hw', e1, e2⟩ := am_lo_le hl hw
        rw [hw']
        show am_Ev _ _ _ w'.1 w'.2 _ _
        rw [e1]
        exact q _ _ e2 hp
      · split at q
        · rename_i w hw
          cases hn : am_lo _ al' st with
          | some v => rw [(am_lo_no (tt := tt) (X := am_Ev tt) (al := al) (y := 0) (pc := 0) (h := h) (a := 0) (b := 0) (post := post) hn).1] at hw; cases hw
          | none =>
            exact ⟨fun z => q.1 z _ _ hl hp, fun z => q.2 z _ _ hl hp⟩
        · rename_i hw
          cases hn : am_lo _ al' st with
          | some v => exact absurd q (am_lo_no hn).2
          | none =>
            exact am_Im_im hl hp q
theorem am_Ev.weak {y pc : Nat} {al al' : List (Option Value)} {st : List Value} {h : am_H} {post : am_P} (q : am_Ev tt y pc al st h post) (hl : am_le al al') : am_Ev tt y pc al' st h post := q.im _ _ hl (fun _ _ z => z)
theorem am_Ev.post {y pc : Nat} {al : List (Option Value)} {st : List Value} {h : am_H} {post post' : am_P} (q : am_Ev tt y pc al st h post) (hp : ∀ r k, post r k → post' r k) : am_Ev tt y pc al st h post' := q.im _ _ (am_le.rf _) hp
end AMW
