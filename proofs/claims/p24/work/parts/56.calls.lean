/-! L1's soundness: arguments off the stack, catching. (Written by wip/p2/mk11.py.) -/
theorem cz_argl_ok (E : cz_E) : ∀ (as : List cz_V) (j : Nat), lv_args j (as.map (cz_v E)) = cz_lc E (cz_argl j as)
  | [], j => rfl
  | v :: r, j => by
    obtain a | a | a := v
    · show (j, cz_v E (.inl a)) :: lv_args (j + 1) (r.map (cz_v E)) = (j, cz_v E (.inl a)) :: cz_lc E (cz_argl (j + 1) r)
      rw [← cz_argl_ok E r]
    · show (j, cz_v E (.inr (.inl a))) :: lv_args (j + 2) (r.map (cz_v E)) = (j, cz_v E (.inr (.inl a))) :: cz_lc E (cz_argl (j + 2) r)
      rw [← cz_argl_ok E r]
    · cases a with
      | none =>
        show (j, cz_v E (.inr (.inr none))) :: lv_args (j + 1) (r.map (cz_v E)) = (j, cz_v E (.inr (.inr none))) :: cz_lc E (cz_argl (j + 1) r)
        rw [← cz_argl_ok E r]
      | some q =>
        show (j, cz_v E (.inr (.inr (some q)))) :: lv_args (j + 1) (r.map (cz_v E)) = (j, cz_v E (.inr (.inr (some q)))) :: cz_lc E (cz_argl (j + 1) r)
        rw [← cz_argl_ok E r]
theorem cz_sl_len (E : cz_E) (as : List cz_V) : (lg_sl (as.map (cz_v E))).length = cz_cat2 as := by
  induction as with
  | nil => rfl
  | cons v r ih =>
    have h2 : cz_cat2 (v :: r) = (bif cz_lg v then 2 else 1) + cz_cat2 r := by
      unfold cz_cat2
      rw [List.map_cons, List.sum_cons]
      obtain a | a | a := v <;> rfl
    have h1 := cz_cat E v
    rw [h2, ← ih]
    show (lg_sl (cz_v E v :: r.map (cz_v E))).length = _
    unfold lg_sl
    rw [List.flatMap_cons, List.length_append]
    cases hv : cz_lg v with
    | true => rw [hv] at h1; simp only [beq_iff_eq] at h1; rw [if_pos h1]; rfl
    | false => rw [cz_cat1 hv]; rfl
theorem cz_take_ok : ∀ {n : Nat} {st : List cz_V} {w : List cz_V × List cz_V}, cz_take n st = some w → st = w.1 ++ w.2 ∧ w.1.length = n
  | 0, st, w, h => by cases h; exact ⟨rfl, rfl⟩
  | n + 1, [], w, h => by cases h
  | n + 1, v :: r, w, h => by
    have h' : (match cz_take n r with
      | some q => some (v :: q.1, q.2)
      | none => none) = some w := h
    split at h'
    · rename_i q hq
      cases h'
      obtain ⟨h1, h2⟩ := cz_take_ok hq
      exact ⟨by rw [h1]; rfl, by show q.1.length + 1 = n + 1; rw [h2]⟩
    · cases h'
