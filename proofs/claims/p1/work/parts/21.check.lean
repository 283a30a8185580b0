/-! The program's data are what the Statement says: tests that a program decides, and what they give. -/
noncomputable def px_w (n : Nat) (w : Cond) : Bool := decide (px_nth lw_tbl n = some w) && px_kw w
theorem px_w_ok {n : Nat} {w : Cond} (h : px_w n w = true) : px_in w := by
  simp only [px_w, Bool.and_eq_true, decide_eq_true_eq, px_nth_eq] at h
  exact ⟨List.mem_of_getElem? h.1, h.2⟩
noncomputable def px_ps (ps : List Nat) (k : Nat) : Nat := (px_nth ps k).getD 0
/-- a class: its fields' places, the places of 'instantiable' and 'initialized' -/
noncomputable def px_chkC (ci : Nat) (C : String) (T : u_T) (N : Nat) (ps : List Nat) (a b : Nat) : Bool :=
  (List.range N).all (fun k => px_w (px_ps ps k) (u_lay C T k)) && px_w a (.instantiable C N) && px_w b (.initialized C) &&
  (List.range N).all (fun k => (List.range N).all (fun j => decide (k = j) || decide ((T k).2.1 ≠ (T j).2.1))) && (List.range N).all (fun k => decide ((T k).1 = C)) &&
  (match px_tl[ci]? with
    | some ks => decide (ks.length = N) && (List.range N).all (fun k => match parseFieldDescriptor (T k).2.2.1 with
      | some ty => decide (ks[k]? = some (px_tcode ty)) && decide (px_tcode ty < 4)
      | none => false)
    | none => false)
theorem px_all_range {N : Nat} {f : Nat → Bool} (h : (List.range N).all f = true) : ∀ k, k < N → f k = true := fun k hk => List.all_eq_true.mp h k (List.mem_range.mpr hk)
theorem px_chkC_ok {ci : Nat} {C : String} {T : u_T} {N : Nat} {ps : List Nat} {a b : Nat} (h : px_chkC ci C T N ps a b = true) : px_okC ci C T N := by
  simp only [px_chkC, Bool.and_eq_true] at h
  obtain ⟨⟨⟨⟨⟨h1, h2⟩, h3⟩, h4⟩, h5⟩, h6⟩ := h
  refine ⟨fun w hw => ?_, px_w_ok h2, px_w_ok h3, fun x hx y hy hne => ?_, fun k hk => of_decide_eq_true (px_all_range h5 k hk), ?_⟩
  · obtain ⟨k, hk, rfl⟩ := List.mem_map.mp hw
    exact px_w_ok (px_all_range h1 k (List.mem_range.mp hk))
  · have h7 := px_all_range (px_all_range h4 x hx) y hy
    simp only [Bool.or_eq_true, decide_eq_true_eq] at h7
    rcases h7 with h7 | h7
    · exact absurd h7 hne
    · exact h7
  · split at h6
    · rename_i ks hks
      simp only [Bool.and_eq_true, decide_eq_true_eq] at h6
      refine ⟨ks, hks, h6.1, fun k hk => ?_⟩
      have h8 := px_all_range h6.2 k hk
      split at h8
      · rename_i ty hty
        simp only [Bool.and_eq_true, decide_eq_true_eq] at h8
        exact ⟨ty, hty, h8.1, h8.2⟩
      · cases h8
    · cases h6
/-- a method that may be called: the places of its code and of its class's 'initialized' -/
noncomputable def px_chkY (M : px_M) (a b : Nat) : Bool :=
  (match M.2.1.2.2.2 with
    | [] => px_w a (.code M.1 M.2.1.1 M.2.1.2.1 M.2.1.2.2.1)
    | hs => px_w a (.codeWith M.1 M.2.1.1 M.2.1.2.1 M.2.1.2.2.1 hs)) && px_w b (.initialized M.1.cls) && plainFor M.1 && decide (M.1.cls ≠ "java/lang/invoke/MethodHandle") && decide (M.1.cls ≠ "java/lang/invoke/VarHandle")
theorem px_chkY_ok {M : px_M} {a b : Nat} (h : px_chkY M a b = true) : px_okY M := by
  simp only [px_chkY, Bool.and_eq_true, decide_eq_true_eq] at h
  obtain ⟨⟨⟨⟨h1, h2⟩, h3⟩, h4⟩, h5⟩ := h
  refine ⟨?_, px_w_ok h2, h3, h4, h5⟩
  split at h1
  · rename_i h0
    exact Or.inl ⟨h0, px_w_ok h1⟩
  · exact Or.inr (px_w_ok h1)
def px_allY : Prop := ∀ (y : Nat) (M : px_M), y ≠ 0 → px_ms[y]? = some M → px_okY M
noncomputable def px_chkN (M : px_M) (n : Nat) : Bool := decide ((parseMethodDescriptor M.1.desc).map (fun s => s.parameters.length) = some n)
theorem px_chkN_ok {M : px_M} {n : Nat} (h : px_chkN M n = true) : px_okN M n := by
  simp only [px_chkN, decide_eq_true_eq] at h
  exact h
noncomputable def px_chkL (M : px_M) (x : Nat) (q : Nat × Nat × Nat × Nat) (ps : List Nat) : Bool := match q.1 with
  | 0 => (match px_cl[q.2.1]? with
    | some (C, T, N) => Nat.blt q.2.2.1 N && px_w (px_ps ps 0) (.fieldLink M.1.cls x C (T q.2.2.1).2.1 (T q.2.2.1).2.2.1) && (!(Nat.beq q.2.2.2 1) || !(T q.2.2.1).2.2.2 || (decide (M.1.name = "<init>") && decide (C = M.1.cls)))
    | none => false)
  | 1 => (match px_cl[q.2.1]? with
    | some (C, T, N) => Nat.blt q.2.2.1 N && (px_w (px_ps ps 0) (.fieldLinkNest M.1.cls x C (T q.2.2.1).2.1 (T q.2.2.1).2.2.1 "TextAtlas") || px_w (px_ps ps 0) (.fieldLinkNest M.1.cls x C (T q.2.2.1).2.1 (T q.2.2.1).2.2.1 "TextAtlasModel")) && (!(Nat.beq q.2.2.2 1) || !(T q.2.2.1).2.2.2)
    | none => false)
  | 2 => (match px_ms[q.2.1]? with
    | some M' => !(Nat.beq q.2.1 0) && px_chkN M' q.2.2.1 && px_w (px_ps ps 0) (.methodLink M.1.cls x M'.1) && px_w (px_ps ps 1) (.static M'.1)
    | none => false)
  | 3 => (match px_ms[q.2.1]? with
    | some M' => (match px_cl[q.2.2.2]? with
      | some (C, _, _) => !(Nat.beq q.2.1 0) && px_chkN M' q.2.2.1 && decide (C = M'.1.cls) && px_w (px_ps ps 0) (.methodLink M.1.cls x M'.1) && px_w (px_ps ps 1) (.instanceMethod M'.1) && px_w (px_ps ps 2) (.selects M'.1.cls M'.1 M'.1)
      | none => false)
    | none => false)
  | 4 => (match px_ms[q.2.1]? with
    | some M' => !(Nat.beq q.2.1 0) && px_chkN M' q.2.2.1 && decide (M'.1.name = "<init>") && decide (M'.2.1.2.2.1 = none) && M'.2.1.2.2.2.isEmpty && px_w (px_ps ps 0) (.methodLink M.1.cls x M'.1) && px_w (px_ps ps 1) (.instanceMethod M'.1) && px_w (px_ps ps 2) (.code M'.1 M'.2.1.1 M'.2.1.2.1 none)
    | none => false)
  | 5 => (match px_ms[q.2.1]? with
    | some M' => !(Nat.beq q.2.1 0) && px_chkN M' q.2.2.1 && decide (M'.1.name = "<init>") && decide (M'.2.1.2.2.1 = none) && M'.2.1.2.2.2.isEmpty && (px_w (px_ps ps 0) (.methodLinkNest M.1.cls x M'.1 "TextAtlas") || px_w (px_ps ps 0) (.methodLinkNest M.1.cls x M'.1 "TextAtlasModel")) && px_w (px_ps ps 1) (.instanceMethod M'.1) && px_w (px_ps ps 2) (.code M'.1 M'.2.1.1 M'.2.1.2.1 none)
    | none => false)
  | 6 => px_w (px_ps ps 0) (.methodLink M.1.cls x Lib.objectInit) && px_w (px_ps ps 1) (.instanceMethod Lib.objectInit) && px_w (px_ps ps 2) (.code Lib.objectInit ⟨#[0xb1]⟩ 1 none)
  | 7 => (match px_ex[q.2.1]? with
    | some n => px_w (px_ps ps 0) (.methodLink M.1.cls x ⟨n, "<init>", "()V"⟩)
    | none => false)
  | 8 => (match px_cl[q.2.1]? with
    | some (C, _, _) => px_w (px_ps ps 0) (.classLink M.1.cls x C)
    | none => false)
  | 9 => (match px_ex[q.2.1]? with
    | some n => !(Nat.beq x 0) && px_w (px_ps ps 0) (.classLink M.1.cls x n)
    | none => false)
  | 10 => (match px_ty[q.2.1]? with
    | some (.object C) => Nat.ble 65536 x && px_w (px_ps ps 0) (.classLink M.1.cls (x - 65536) C) && px_w (px_ps ps 1) (.arrayOver (.object C))
    | _ => false)
  | 11 => px_w (px_ps ps 0) (.constant M.1.cls x (Int32.ofInt (q.2.1 : Nat)))
  | 12 => (match px_str[q.2.1 - 1]? with
    | some (o, y, _) => Nat.ble 1 q.2.1 && Nat.blt q.2.1 64 && decide (o = M.1.cls) && decide (y = x)
    | none => false)
  | 13 => px_w (px_ps ps 0) (.methodLink M.1.cls x arraycopyName) && px_w (px_ps ps 1) (.native arraycopyName) && px_w (px_ps ps 2) (.static arraycopyName) && px_w (px_ps ps 3) (.initialized "java/lang/System")
  | 14 => Nat.beq q.2.1 10 && px_w (px_ps ps 0) (.classLink M.1.cls x "[[I")
  | _ => false
theorem px_chkL_ok (hY : px_allY) {M : px_M} {x : Nat} {q : Nat × Nat × Nat × Nat} {ps : List Nat} (h : px_chkL M x q ps = true) : px_okL M x q := by
  obtain ⟨tag, a, b, c⟩ := q
  unfold px_chkL at h
  split at h
  · rename_i ht
    cases ht
    split at h
    · rename_i C T N hc
      simp only [Bool.and_eq_true, Nat.blt_eq, Bool.or_eq_true, Bool.not_eq_true', decide_eq_true_eq] at h
      refine ⟨C, T, N, hc, h.1.1, px_w_ok h.1.2, fun h1 h2 => ?_⟩
      rcases h.2 with (h3 | h3) | h3
      · have h1 : c = 1 := h1
        rw [h1] at h3; cases h3
      · have h2 : (T b).2.2.2 = true := h2
        rw [h2] at h3; cases h3
      · exact h3
    · cases h
  · rename_i ht
    cases ht
    split at h
    · rename_i C T N hc
      simp only [Bool.and_eq_true, Nat.blt_eq, Bool.or_eq_true, Bool.not_eq_true'] at h
      have h9 : (c = 1 → (T b).2.2.2 = false) := fun h1 => by
        rcases h.2 with h3 | h3
        · rw [h1] at h3; cases h3
        · exact h3
      rcases h.1.2 with h2 | h2
      · exact ⟨C, T, N, _, hc, h.1.1, px_w_ok h2, h9⟩
      · exact ⟨C, T, N, _, hc, h.1.1, px_w_ok h2, h9⟩
    · cases h
  · rename_i ht
    cases ht
    split at h
    · rename_i M' hm
      simp only [Bool.and_eq_true, Bool.not_eq_true'] at h
      exact ⟨M', hm, hY a M' (fun w => by have := h.1.1.1; rw [w] at this; cases this) hm, px_chkN_ok h.1.1.2, px_w_ok h.1.2, px_w_ok h.2⟩
    · cases h
  · rename_i ht
    cases ht
    split at h
    · rename_i M' hm
      split at h
      · rename_i C T N hc
        simp only [Bool.and_eq_true, Bool.not_eq_true', decide_eq_true_eq] at h
        obtain ⟨⟨⟨⟨⟨h1, h2⟩, h3⟩, h4⟩, h5⟩, h6⟩ := h
        subst h3
        exact ⟨M', T, N, hm, hY a M' (fun w => by rw [w] at h1; cases h1) hm, px_chkN_ok h2, hc, px_w_ok h4, px_w_ok h5, px_w_ok h6⟩
      · cases h
    · cases h
  · rename_i ht
    cases ht
    split at h
    · rename_i M' hm
      simp only [Bool.and_eq_true, Bool.not_eq_true', decide_eq_true_eq] at h
      obtain ⟨⟨⟨⟨⟨⟨⟨h1, h2⟩, h3⟩, h4⟩, h5⟩, h6⟩, h7⟩, h8⟩ := h
      exact ⟨M', hm, hY a M' (fun w => by rw [w] at h1; cases h1) hm, px_chkN_ok h2, h3, h4, List.isEmpty_iff.mp h5, px_w_ok h8, px_w_ok h6, px_w_ok h7⟩
    · cases h
  · rename_i ht
    cases ht
    split at h
    · rename_i M' hm
      simp only [Bool.and_eq_true, Bool.not_eq_true', decide_eq_true_eq, Bool.or_eq_true] at h
      obtain ⟨⟨⟨⟨⟨⟨⟨h1, h2⟩, h3⟩, h4⟩, h5⟩, h6⟩, h7⟩, h8⟩ := h
      rcases h6 with h6 | h6
      · exact ⟨M', _, hm, hY a M' (fun w => by rw [w] at h1; cases h1) hm, px_chkN_ok h2, h3, h4, List.isEmpty_iff.mp h5, px_w_ok h8, px_w_ok h6, px_w_ok h7⟩
      · exact ⟨M', _, hm, hY a M' (fun w => by rw [w] at h1; cases h1) hm, px_chkN_ok h2, h3, h4, List.isEmpty_iff.mp h5, px_w_ok h8, px_w_ok h6, px_w_ok h7⟩
    · cases h
  · rename_i ht
    cases ht
    simp only [Bool.and_eq_true] at h
    exact ⟨px_w_ok h.1.1, px_w_ok h.1.2, px_w_ok h.2⟩
  · rename_i ht
    cases ht
    split at h
    · rename_i n hn
      exact ⟨n, hn, px_w_ok h⟩
    · cases h
  · rename_i ht
    cases ht
    split at h
    · rename_i C T N hc
      exact ⟨C, T, N, hc, px_w_ok h⟩
    · cases h
  · rename_i ht
    cases ht
    split at h
    · rename_i n hn
      simp only [Bool.and_eq_true, Bool.not_eq_true'] at h
      exact ⟨(fun w => by have := h.1; rw [w] at this; cases this), n, hn, px_w_ok h.2⟩
    · cases h
  · rename_i ht
    cases ht
    split at h
    · rename_i C hc
      simp only [Bool.and_eq_true, Nat.ble_eq] at h
      exact ⟨h.1.1, C, hc, px_w_ok h.1.2, px_w_ok h.2⟩
    · cases h
  · rename_i ht
    cases ht
    exact px_w_ok h
  · rename_i ht
    cases ht
    split at h
    · rename_i o y t hs
      simp only [Bool.and_eq_true, Nat.ble_eq, Nat.blt_eq, decide_eq_true_eq] at h
      obtain ⟨⟨⟨h1, h2⟩, h3⟩, h4⟩ := h
      subst h3 h4
      exact ⟨h1, h2, t, hs⟩
    · cases h
  · rename_i ht
    cases ht
    simp only [Bool.and_eq_true] at h
    exact ⟨px_w_ok h.1.1.1, px_w_ok h.1.1.2, px_w_ok h.1.2, px_w_ok h.2⟩
  · rename_i ht
    cases ht
    simp only [Bool.and_eq_true] at h
    exact ⟨Nat.eq_of_beq_eq_true h.1, px_w_ok h.2⟩
  · cases h
noncomputable def px_chkD (M : px_M) : Bool := M.2.2.1.all (fun row => row.all (fun e => decide (decode M.2.1.1 e.1 = .ok e.2)))
noncomputable def px_chkR (b : ByteArray) (row : List (Nat × Instr × Nat)) : Bool := row.all (fun e => decide (decode b e.1 = .ok e.2))
theorem px_chkD_of {M : px_M} (h : ∀ row ∈ M.2.2.1, px_chkR M.2.1.1 row = true) : px_chkD M = true := List.all_eq_true.mpr h
noncomputable def px_chkK (M : px_M) (pss : List (List Nat)) : Bool := decide (M.2.2.2.length = pss.length) && (M.2.2.2.zip pss).all (fun q => px_chkL M q.1.1 q.1.2 q.2)
theorem px_cf_mem {pc : Nat} {q : Instr × Nat} : ∀ {l : List (Nat × Instr × Nat)}, px_cf pc l = some q → (pc, q) ∈ l
  | [], h => by cases h
  | x :: r, h => by
    have h' : (bif Nat.beq x.1 pc then some x.2 else px_cf pc r) = some q := h
    cases hq : Nat.beq x.1 pc with
    | true =>
      rw [hq] at h'
      have h1 : x.2 = q := Option.some.inj h'
      have h2 := Nat.eq_of_beq_eq_true hq
      rw [← h1, ← h2]
      exact List.mem_cons_self
    | false =>
      rw [hq] at h'
      exact List.mem_cons_of_mem _ (px_cf_mem h')
theorem px_lf_mem {x : Nat} {q : Nat × Nat × Nat × Nat} : ∀ {l : List (Nat × Nat × Nat × Nat × Nat)}, px_lf x l = some q → (x, q) ∈ l
  | [], h => by cases h
  | y :: r, h => by
    have h' : (bif Nat.beq y.1 x then some y.2 else px_lf x r) = some q := h
    cases hq : Nat.beq y.1 x with
    | true =>
      rw [hq] at h'
      have h1 : y.2 = q := Option.some.inj h'
      have h2 := Nat.eq_of_beq_eq_true hq
      rw [← h1, ← h2]
      exact List.mem_cons_self
    | false =>
      rw [hq] at h'
      exact List.mem_cons_of_mem _ (px_lf_mem h')
theorem px_chkM_ok (hY : px_allY) {M : px_M} {pss : List (List Nat)} (h1 : px_chkD M = true) (h2 : px_chkK M pss = true) : px_okM M := by
  refine ⟨fun pc q hq => ?_, fun x q hq => ?_⟩
  · unfold px_code at hq
    split at hq
    · rename_i row hrow
      rw [px_nth_eq] at hrow
      have h3 := List.all_eq_true.mp h1 row (List.mem_of_getElem? hrow)
      exact of_decide_eq_true (List.all_eq_true.mp h3 (pc, q) (px_cf_mem hq))
    · cases hq
  · have hm : (x, q) ∈ M.2.2.2 := px_lf_mem hq
    simp only [px_chkK, Bool.and_eq_true, decide_eq_true_eq] at h2
    obtain ⟨i, hi⟩ := List.getElem?_of_mem hm
    have hlt : i < pss.length := by rw [← h2.1]; exact (List.getElem?_eq_some_iff.mp hi).1
    have h3 : ((x, q), pss[i]) ∈ M.2.2.2.zip pss := by
      refine List.mem_of_getElem? (i := i) ?_
      rw [List.getElem?_zip_eq_some]
      exact ⟨hi, List.getElem?_eq_getElem hlt⟩
    exact px_chkL_ok hY (List.all_eq_true.mp h2.2 _ h3)
