/-! Soundness, part 6: the run is the machine's. -/
theorem px_alln_ok {α : Type} {f : α → Option (List px_F)} : ∀ {l : List α} {R : List px_F}, px_alln f l = some R → ∀ q ∈ l, ∃ R' : List px_F, f q = some R' ∧ ∀ z ∈ R', z ∈ R
  | [], R, h, q, hq => absurd hq List.not_mem_nil
  | [x], R, h, q, hq => by
    have h : f x = some R := h
    rw [List.mem_singleton.mp hq]
    exact ⟨R, h, fun _ hz => hz⟩
  | x :: y :: r, R, h, q, hq => by
    have h' : (match f x with
      | some a => (match px_alln f (y :: r) with
        | some b => some (a ++ b)
        | none => none)
      | none => none) = some R := h
    split at h'
    · rename_i a ha
      split at h'
      · rename_i b hb
        cases h'
        rcases List.mem_cons.mp hq with rfl | hq
        · exact ⟨a, ha, fun z hz => List.mem_append_left _ hz⟩
        · obtain ⟨R', h1, h2⟩ := px_alln_ok hb q hq
          exact ⟨R', h1, fun z hz => List.mem_append_right _ (h2 z hz)⟩
      · cases h'
    · cases h'
theorem px_argl_ok (E : px_E) : ∀ (as : List px_V) (j : Nat), lv_args j (as.map (px_v E)) = px_lc E (px_argl j as)
  | [], j => rfl
  | v :: r, j => by
    have h1 := px_cat E v
    show (j, px_v E v) :: lv_args (if (px_v E v).category = 2 then j + 2 else j + 1) (r.map (px_v E)) = (j, px_v E v) :: px_lc E (px_argl (j + (bif px_lg v then 2 else 1)) r)
    rw [← px_argl_ok E r]
    congr 2
    cases hv : px_lg v with
    | true => rw [hv] at h1; simp only [beq_iff_eq] at h1; rw [if_pos h1]; rfl
    | false => rw [px_cat1 hv]; rfl
theorem px_sl_len (E : px_E) (as : List px_V) : (lg_sl (as.map (px_v E))).length = px_cat2 as := by
  induction as with
  | nil => rfl
  | cons v r ih =>
    have h1 := px_cat E v
    show (lg_sl (px_v E v :: r.map (px_v E))).length = (bif px_lg v then 2 else 1) + px_cat2 r
    rw [← ih]
    unfold lg_sl
    rw [List.flatMap_cons, List.length_append]
    cases hv : px_lg v with
    | true => rw [hv] at h1; simp only [beq_iff_eq] at h1; rw [if_pos h1]; rfl
    | false => rw [px_cat1 hv]; rfl
theorem px_take_ok : ∀ {n : Nat} {st : List px_V} {w : List px_V × List px_V}, px_take n st = some w → st = w.1 ++ w.2 ∧ w.1.length = n
  | 0, st, w, h => by cases h; exact ⟨rfl, rfl⟩
  | n + 1, [], w, h => by cases h
  | n + 1, v :: r, w, h => by
    have h' : (match px_take n r with
      | some q => some (v :: q.1, q.2)
      | none => none) = some w := h
    split at h'
    · rename_i q hq
      cases h'
      obtain ⟨h1, h2⟩ := px_take_ok hq
      exact ⟨by rw [h1]; rfl, by show q.1.length + 1 = n + 1; rw [h2]⟩
    · cases h'
