/-! The program's data are what the Statement says: tests that a program decides, and what they give. -/
/-- the tables, piece by piece -/
noncomputable def cz_ch (k : Nat) : List Cond := match k with
  | 0 => k2_sels lw_privs
  | 1 => tables_1_1
  | 2 => tables_1_2
  | 3 => tables_1_3
  | 4 => tables_1_4
  | 5 => tables_1_5
  | 6 => tables_1_6
  | 7 => tables_1_7
  | 8 => tables_1_8
  | 9 => tables_1_9
  | _ => tables_1_10
theorem cz_ch_ok {k : Nat} {w : Cond} (h : w ∈ cz_ch k) : w ∈ lw_tbl := by
  have e : lw_tbl = k2_sels lw_privs ++ (tables_1_1 ++ (tables_1_2 ++ (tables_1_3 ++ (tables_1_4 ++ (tables_1_5 ++ (tables_1_6 ++ (tables_1_7 ++ (tables_1_8 ++ (tables_1_9 ++ tables_1_10))))))))) := rfl
  rw [e]
  simp only [List.mem_append]
  unfold cz_ch at h
  split at h
  · exact Or.inl h
  · exact Or.inr (Or.inl h)
  · exact Or.inr (Or.inr (Or.inl h))
  · exact Or.inr (Or.inr (Or.inr (Or.inl h)))
  · exact Or.inr (Or.inr (Or.inr (Or.inr (Or.inl h))))
  · exact Or.inr (Or.inr (Or.inr (Or.inr (Or.inr (Or.inl h)))))
  · exact Or.inr (Or.inr (Or.inr (Or.inr (Or.inr (Or.inr (Or.inl h))))))
  · exact Or.inr (Or.inr (Or.inr (Or.inr (Or.inr (Or.inr (Or.inr (Or.inl h)))))))
  · exact Or.inr (Or.inr (Or.inr (Or.inr (Or.inr (Or.inr (Or.inr (Or.inr (Or.inl h))))))))
  · exact Or.inr (Or.inr (Or.inr (Or.inr (Or.inr (Or.inr (Or.inr (Or.inr (Or.inr (Or.inl h)))))))))
  · exact Or.inr (Or.inr (Or.inr (Or.inr (Or.inr (Or.inr (Or.inr (Or.inr (Or.inr (Or.inr h)))))))))
noncomputable def cz_w (n : Nat) (w : Cond) : Bool := decide (dz_nth (cz_ch (Nat.div n 1000)) (Nat.mod n 1000) = some w) && px_kw w
theorem cz_w_ok {n : Nat} {w : Cond} (h : cz_w n w = true) : px_in w := by
  simp only [cz_w, Bool.and_eq_true, decide_eq_true_eq] at h
  exact ⟨cz_ch_ok (dz_nth_mem h.1), h.2⟩
noncomputable def cz_ps (ps : List Nat) (k : Nat) : Nat := (dz_nth ps k).getD 0
/-- a class: its fields' places, the places of 'instantiable' and 'initialized' -/
noncomputable def cz_chkC (ci : Nat) (C : String) (T : u_T) (N : Nat) (ps : List Nat) (a b : Nat) : Bool :=
  (List.range N).all (fun k => cz_w (cz_ps ps k) (u_lay C T k)) && cz_w a (.instantiable C N) && cz_w b (.initialized C) &&
  (List.range N).all (fun k => (List.range N).all (fun j => decide (k = j) || decide ((T k).2.1 ≠ (T j).2.1))) &&
  (match cz_tl[ci]? with
    | some ks => decide (ks.length = N) && (List.range N).all (fun k => match parseFieldDescriptor (T k).2.2.1 with
      | some ty => decide (ks[k]? = some (cz_tcode ty)) && decide (cz_tcode ty < 5)
      | none => false)
    | none => false)
theorem cz_all_range {N : Nat} {f : Nat → Bool} (h : (List.range N).all f = true) : ∀ k, k < N → f k = true := fun k hk => List.all_eq_true.mp h k (List.mem_range.mpr hk)
theorem cz_chkC_ok {ci : Nat} {C : String} {T : u_T} {N : Nat} {ps : List Nat} {a b : Nat} (h : cz_chkC ci C T N ps a b = true) : cz_okC ci C T N := by
  simp only [cz_chkC, Bool.and_eq_true] at h
  obtain ⟨⟨⟨⟨h1, h2⟩, h3⟩, h4⟩, h6⟩ := h
  refine ⟨fun w hw => ?_, cz_w_ok h2, cz_w_ok h3, fun x hx y hy hne => ?_, trivial, ?_⟩
  · obtain ⟨k, hk, rfl⟩ := List.mem_map.mp hw
    exact cz_w_ok (cz_all_range h1 k (List.mem_range.mp hk))
  · have h7 := cz_all_range (cz_all_range h4 x hx) y hy
    simp only [Bool.or_eq_true, decide_eq_true_eq] at h7
    rcases h7 with h7 | h7
    · exact absurd h7 hne
    · exact h7
  · split at h6
    · rename_i ks hks
      simp only [Bool.and_eq_true, decide_eq_true_eq] at h6
      refine ⟨ks, hks, h6.1, fun k hk => ?_⟩
      have h8 := cz_all_range h6.2 k hk
      split at h8
      · rename_i ty hty
        simp only [Bool.and_eq_true, decide_eq_true_eq] at h8
        exact ⟨ty, hty, h8.1, h8.2⟩
      · cases h8
    · cases h6
/-- a method that may be called: the places of its code and of its class's 'initialized' -/
noncomputable def cz_chkY (M : cz_M) (a b : Nat) : Bool :=
  (match M.2.1.2.2.2 with
    | [] => cz_w a (.code M.1 M.2.1.1 M.2.1.2.1 M.2.1.2.2.1)
    | hs => cz_w a (.codeWith M.1 M.2.1.1 M.2.1.2.1 M.2.1.2.2.1 hs)) && cz_w b (.initialized M.1.cls) && plainFor M.1 && decide (M.1.cls ≠ "java/lang/invoke/MethodHandle") && decide (M.1.cls ≠ "java/lang/invoke/VarHandle")
theorem cz_chkY_ok {M : cz_M} {a b : Nat} (h : cz_chkY M a b = true) : cz_okY M := by
  simp only [cz_chkY, Bool.and_eq_true, decide_eq_true_eq] at h
  obtain ⟨⟨⟨⟨h1, h2⟩, h3⟩, h4⟩, h5⟩ := h
  refine ⟨?_, cz_w_ok h2, h3, h4, h5⟩
  split at h1
  · rename_i h0
    exact Or.inl ⟨h0, cz_w_ok h1⟩
  · exact Or.inr (cz_w_ok h1)
noncomputable def cz_chkZ (M : cz_M) (b : Nat) : Bool := cz_w b (.initialized M.1.cls) && plainFor M.1 && decide (M.1.cls ≠ "java/lang/invoke/MethodHandle") && decide (M.1.cls ≠ "java/lang/invoke/VarHandle")
theorem cz_okY_of {M : cz_M} {k i b : Nat} (h1 : dz_nth (cz_ch k) i = some (.code M.1 M.2.1.1 M.2.1.2.1 M.2.1.2.2.1)) (h0 : M.2.1.2.2.2 = []) (hb : cz_chkZ M b = true) : cz_okY M := by
  simp only [cz_chkZ, Bool.and_eq_true, decide_eq_true_eq] at hb
  exact ⟨Or.inl ⟨h0, cz_ch_ok (dz_nth_mem h1), rfl⟩, cz_w_ok hb.1.1.1, hb.1.1.2, hb.1.2, hb.2⟩
theorem cz_okY_oh {M : cz_M} {k i b : Nat} (h1 : dz_nth (cz_ch k) i = some (.codeWith M.1 M.2.1.1 M.2.1.2.1 M.2.1.2.2.1 M.2.1.2.2.2)) (hb : cz_chkZ M b = true) : cz_okY M := by
  simp only [cz_chkZ, Bool.and_eq_true, decide_eq_true_eq] at hb
  exact ⟨Or.inr ⟨cz_ch_ok (dz_nth_mem h1), rfl⟩, cz_w_ok hb.1.1.1, hb.1.1.2, hb.1.2, hb.2⟩
def cz_okC2 (M : cz_M) : Prop := M.2.1.2.2.2 = [] → px_in (.code M.1 M.2.1.1 M.2.1.2.1 M.2.1.2.2.1)
def cz_okY2 (M : cz_M) : Prop := cz_okY M ∧ cz_okC2 M
theorem cz_okY2_of {M : cz_M} {k i b : Nat} (h1 : dz_nth (cz_ch k) i = some (.code M.1 M.2.1.1 M.2.1.2.1 M.2.1.2.2.1)) (h0 : M.2.1.2.2.2 = []) (hb : cz_chkZ M b = true) : cz_okY2 M := ⟨cz_okY_of h1 h0 hb, fun _ => ⟨cz_ch_ok (dz_nth_mem h1), rfl⟩⟩
theorem cz_okY2_oh {M : cz_M} {k i b : Nat} (h1 : dz_nth (cz_ch k) i = some (.codeWith M.1 M.2.1.1 M.2.1.2.1 M.2.1.2.2.1 M.2.1.2.2.2)) (hn : M.2.1.2.2.2.isEmpty = false) (hb : cz_chkZ M b = true) : cz_okY2 M := ⟨cz_okY_oh h1 hb, fun h => by rw [h] at hn; cases hn⟩
def cz_allC2 : Prop := ∀ (y : Nat) (M : cz_M), y ≠ 0 → cz_ms[y]? = some M → cz_okC2 M
def cz_allY : Prop := ∀ (y : Nat) (M : cz_M), y ≠ 0 → cz_ms[y]? = some M → cz_okY M
noncomputable def cz_chkN (M : cz_M) (n : Nat) : Bool := decide ((parseMethodDescriptor M.1.desc).map (fun s => s.parameters.length) = some n)
theorem cz_chkN_ok {M : cz_M} {n : Nat} (h : cz_chkN M n = true) : cz_okN M n := by
  simp only [cz_chkN, decide_eq_true_eq] at h
  exact h
/-- AbstractStringBuilder.length, as a name -/
def cz_asl : cz_M := (⟨"java/lang/AbstractStringBuilder", "length", "()I"⟩, (prog_17_method_6_code, 1, some .int, []), [], [])
noncomputable def cz_chkL (M : cz_M) (x : Nat) (q : Nat × Nat × Nat × Nat) (ps : List Nat) : Bool := match q.1 with
  | 0 => (match cz_cl[q.2.1]? with
    | some (_, T, N) => Nat.blt q.2.2.1 N && cz_w (cz_ps ps 0) (.fieldLink M.1.cls x (T q.2.2.1).1 (T q.2.2.1).2.1 (T q.2.2.1).2.2.1) && (!(Nat.beq q.2.2.2 1) || !(T q.2.2.1).2.2.2 || (decide (M.1.name = "<init>") && decide ((T q.2.2.1).1 = M.1.cls)))
    | none => false)
  | 1 => (match cz_cl[q.2.1]? with
    | some (_, T, N) => Nat.blt q.2.2.1 N && (cz_w (cz_ps ps 0) (.fieldLinkNest M.1.cls x (T q.2.2.1).1 (T q.2.2.1).2.1 (T q.2.2.1).2.2.1 "TextAtlas") || cz_w (cz_ps ps 0) (.fieldLinkNest M.1.cls x (T q.2.2.1).1 (T q.2.2.1).2.1 (T q.2.2.1).2.2.1 "TextAtlasModel")) && (!(Nat.beq q.2.2.2 1) || !(T q.2.2.1).2.2.2)
    | none => false)
  | 2 => (match cz_ms[q.2.1]? with
    | some M' => !(Nat.beq q.2.1 0) && cz_chkN M' q.2.2.1 && (cz_w (cz_ps ps 0) (.methodLink M.1.cls x M'.1) || (cz_w (cz_ps ps 0) (.methodLinkNest M.1.cls x M'.1 "TextAtlas") || cz_w (cz_ps ps 0) (.methodLinkNest M.1.cls x M'.1 "TextAtlasModel"))) && cz_w (cz_ps ps 1) (.static M'.1)
    | none => false)
  | 3 => (match cz_ms[q.2.1]? with
    | some M' => (match cz_cl[q.2.2.2]? with
      | some (C, _, _) => !(Nat.beq q.2.1 0) && cz_chkN M' q.2.2.1 && cz_w (cz_ps ps 2) (.instanceMethod M'.1) && (match cz_ps ps 0 with
        | 0 => cz_w (cz_ps ps 1) (.methodLink M.1.cls x M'.1) && cz_w (cz_ps ps 3) (.selects C M'.1 M'.1)
        | 1 => cz_chkN cz_asl q.2.2.1 && cz_w (cz_ps ps 1) (.methodLink M.1.cls x cz_asl.1) && cz_w (cz_ps ps 3) (.instanceMethod cz_asl.1) && cz_w (cz_ps ps 4) (.sameMethod cz_asl.1.cls cz_asl.1.cls cz_asl.1.name cz_asl.1.desc) && cz_w (cz_ps ps 5) (.selects C cz_asl.1 M'.1)
        | _ => cz_w (cz_ps ps 1) (.methodLink M.1.cls x M'.1) && cz_w (cz_ps ps 3) (.privateMethod M'.1) && cz_w (cz_ps ps 4) (.sameMethod M'.1.cls M'.1.cls M'.1.name M'.1.desc))
      | none => false)
    | none => false)
  | 4 => (match cz_ms[q.2.1]? with
    | some M' => !(Nat.beq q.2.1 0) && cz_chkN M' q.2.2.1 && decide (M'.1.name = "<init>") && decide (M'.2.1.2.2.1 = none) && M'.2.1.2.2.2.isEmpty && cz_w (cz_ps ps 0) (.methodLink M.1.cls x M'.1) && cz_w (cz_ps ps 1) (.instanceMethod M'.1)
    | none => false)
  | 5 => (match cz_ms[q.2.1]? with
    | some M' => !(Nat.beq q.2.1 0) && cz_chkN M' q.2.2.1 && decide (M'.1.name = "<init>") && decide (M'.2.1.2.2.1 = none) && M'.2.1.2.2.2.isEmpty && (cz_w (cz_ps ps 0) (.methodLinkNest M.1.cls x M'.1 "TextAtlas") || cz_w (cz_ps ps 0) (.methodLinkNest M.1.cls x M'.1 "TextAtlasModel")) && cz_w (cz_ps ps 1) (.instanceMethod M'.1)
    | none => false)
  | 6 => cz_w (cz_ps ps 0) (.methodLink M.1.cls x Lib.objectInit) && cz_w (cz_ps ps 1) (.instanceMethod Lib.objectInit) && cz_w (cz_ps ps 2) (.code Lib.objectInit ⟨#[0xb1]⟩ 1 none)
  | 7 => (match cz_ex[q.2.1]? with
    | some n => cz_w (cz_ps ps 0) (.methodLink M.1.cls x ⟨n, "<init>", "()V"⟩)
    | none => false)
  | 8 => (match cz_cl[q.2.1]? with
    | some (C, _, _) => cz_w (cz_ps ps 0) (.classLink M.1.cls x C)
    | none => false)
  | 9 => (match cz_ex[q.2.1]? with
    | some n => !(Nat.beq x 0) && cz_w (cz_ps ps 0) (.classLink M.1.cls x n)
    | none => false)
  | 10 => (match cz_ty[q.2.1]? with
    | some (.object C) => Nat.ble 65536 x && cz_w (cz_ps ps 0) (.classLink M.1.cls (x - 65536) C) && cz_w (cz_ps ps 1) (.arrayOver (.object C))
    | _ => false)
  | 11 => cz_w (cz_ps ps 0) (.constant M.1.cls x (Int32.ofInt ((q.2.1 : Int) - (q.2.2.1 : Int))))
  | 12 => (match cz_str[q.2.1 - 1]? with
    | some (o, y, _) => Nat.ble 1 q.2.1 && Nat.blt q.2.1 64 && decide (o = M.1.cls) && decide (y = x)
    | none => false)
  | 13 => cz_w (cz_ps ps 0) (.methodLink M.1.cls x arraycopyName) && cz_w (cz_ps ps 1) (.native arraycopyName) && cz_w (cz_ps ps 2) (.static arraycopyName) && cz_w (cz_ps ps 3) (.initialized "java/lang/System")
  | 14 => Nat.beq q.2.1 10 && cz_w (cz_ps ps 0) (.classLink M.1.cls x "[[I")
  | 15 => cz_w (cz_ps ps 0) (.constantLong M.1.cls x (Int64.ofInt ((q.2.1 : Int) - (q.2.2.1 : Int))))
  | 16 => Nat.beq q.2.1 1 && cz_w (cz_ps ps 0) (.fieldLink M.1.cls x "java/lang/String" "COMPACT_STRINGS" "Z")
  | 17 => cz_w (cz_ps ps 0) (.classLink M.1.cls x "[B")
  | 18 => cz_w (cz_ps ps 0) (.methodLink M.1.cls x cz_i1.1)
  | 19 => cz_w (cz_ps ps 0) (.methodLink M.1.cls x ⟨"[B", "clone", "()Ljava/lang/Object;"⟩) && cz_w (cz_ps ps 1) (.sameMethod "[B" "java/lang/Object" "clone" "()Ljava/lang/Object;") && cz_w (cz_ps ps 2) (.native ⟨"java/lang/Object", "clone", "()Ljava/lang/Object;"⟩) && cz_w (cz_ps ps 3) (.instanceMethod ⟨"java/lang/Object", "clone", "()Ljava/lang/Object;"⟩) && cz_w (cz_ps ps 4) (.selects "[B" ⟨"[B", "clone", "()Ljava/lang/Object;"⟩ ⟨"java/lang/Object", "clone", "()Ljava/lang/Object;"⟩) && cz_w (cz_ps ps 5) (.castable "[B" "java/lang/Cloneable")
  | 20 => (match cz_ms[q.2.1]? with
    | some M' => (match cz_cl[q.2.2.2]? with
      | some (_, _, _) => !(Nat.beq q.2.1 0) && cz_chkN M' q.2.2.1 && decide (M'.1.name ≠ "<init>") && cz_w (cz_ps ps 0) (.methodLink M.1.cls x M'.1) && cz_w (cz_ps ps 1) (.instanceMethod M'.1) && cz_w (cz_ps ps 2) (.sameMethod M'.1.cls M'.1.cls M'.1.name M'.1.desc) && cz_w (cz_ps ps 3) (.superclass M.1.cls M'.1.cls)
      | none => false)
    | none => false)
  | _ => false
theorem cz_chkL_ok (hY : cz_allY) (hC : cz_allC2) (hS : cz_okY cz_asl) (hI : cz_okI0) {M : cz_M} {x : Nat} {q : Nat × Nat × Nat × Nat} {ps : List Nat} (h : cz_chkL M x q ps = true) : cz_okL M x q := by
  obtain ⟨tag, a, b, c⟩ := q
  unfold cz_chkL at h
  split at h
  · rename_i ht
    cases ht
    split at h
    · rename_i C T N hc
      simp only [Bool.and_eq_true, Nat.blt_eq, Bool.or_eq_true, Bool.not_eq_true', decide_eq_true_eq] at h
      refine ⟨C, T, N, hc, h.1.1, cz_w_ok h.1.2, fun h1 h2 => ?_⟩
      rcases h.2 with (h3 | h3) | h3
      · have h1 : c = 1 := h1
        rw [h1] at h3; cases h3
      · have h2 : (T b).2.2.2 = true := h2
        rw [h2] at h3; cases h3
      · exact h3
    · cases h
  · rename_i ht
    cases ht
    split at h
    · rename_i C T N hc
      simp only [Bool.and_eq_true, Nat.blt_eq, Bool.or_eq_true, Bool.not_eq_true'] at h
      have h9 : (c = 1 → (T b).2.2.2 = false) := fun h1 => by
        rcases h.2 with h3 | h3
        · rw [h1] at h3; cases h3
        · exact h3
      rcases h.1.2 with h2 | h2
      · exact ⟨C, T, N, _, hc, h.1.1, cz_w_ok h2, h9⟩
      · exact ⟨C, T, N, _, hc, h.1.1, cz_w_ok h2, h9⟩
    · cases h
  · rename_i ht
    cases ht
    split at h
    · rename_i M' hm
      simp only [Bool.and_eq_true, Bool.not_eq_true', Bool.or_eq_true] at h
      refine ⟨M', hm, hY a M' (fun w => by have := h.1.1.1; rw [w] at this; cases this) hm, cz_chkN_ok h.1.1.2, ?_, cz_w_ok h.2⟩
      rcases h.1.2 with h1 | h1 | h1
      · exact Or.inl (cz_w_ok h1)
      · exact Or.inr ⟨_, cz_w_ok h1⟩
      · exact Or.inr ⟨_, cz_w_ok h1⟩
    · cases h
  · rename_i ht
    cases ht
    split at h
    · rename_i M' hm
      split at h
      · rename_i C T N hc
        simp only [Bool.and_eq_true, Bool.not_eq_true'] at h
        obtain ⟨⟨⟨h1, h2⟩, h3⟩, h4⟩ := h
        refine ⟨M', C, T, N, hm, hY a M' (fun w => by rw [w] at h1; cases h1) hm, cz_chkN_ok h2, hc, cz_w_ok h3, ?_⟩
        split at h4
        · simp only [Bool.and_eq_true] at h4
          exact Or.inl ⟨cz_w_ok h4.1, cz_w_ok h4.2⟩
        · simp only [Bool.and_eq_true] at h4
          obtain ⟨⟨⟨⟨k1, k2⟩, k3⟩, k4⟩, k5⟩ := h4
          exact Or.inr (Or.inr ⟨cz_asl, hS, cz_chkN_ok k1, cz_w_ok k2, cz_w_ok k3, cz_w_ok k4, cz_w_ok k5⟩)
        · simp only [Bool.and_eq_true] at h4
          exact Or.inr (Or.inl ⟨cz_w_ok h4.1.1, cz_w_ok h4.1.2, cz_w_ok h4.2⟩)
      · cases h
    · cases h
  · rename_i ht
    cases ht
    split at h
    · rename_i M' hm
      simp only [Bool.and_eq_true, Bool.not_eq_true', decide_eq_true_eq] at h
      obtain ⟨⟨⟨⟨⟨⟨h1, h2⟩, h3⟩, h4⟩, h5⟩, h6⟩, h7⟩ := h
      have h8 : px_in (.code M'.1 M'.2.1.1 M'.2.1.2.1 none) := by
        have c8 := hC a M' (fun w => by rw [w] at h1; cases h1) hm (List.isEmpty_iff.mp h5)
        rw [h4] at c8; exact c8
      exact ⟨M', hm, hY a M' (fun w => by rw [w] at h1; cases h1) hm, cz_chkN_ok h2, h3, h4, List.isEmpty_iff.mp h5, h8, cz_w_ok h6, cz_w_ok h7⟩
    · cases h
  · rename_i ht
    cases ht
    split at h
    · rename_i M' hm
      simp only [Bool.and_eq_true, Bool.not_eq_true', decide_eq_true_eq, Bool.or_eq_true] at h
      obtain ⟨⟨⟨⟨⟨⟨h1, h2⟩, h3⟩, h4⟩, h5⟩, h6⟩, h7⟩ := h
      have h8 : px_in (.code M'.1 M'.2.1.1 M'.2.1.2.1 none) := by
        have c8 := hC a M' (fun w => by rw [w] at h1; cases h1) hm (List.isEmpty_iff.mp h5)
        rw [h4] at c8; exact c8
      rcases h6 with h6 | h6
      · exact ⟨M', _, hm, hY a M' (fun w => by rw [w] at h1; cases h1) hm, cz_chkN_ok h2, h3, h4, List.isEmpty_iff.mp h5, h8, cz_w_ok h6, cz_w_ok h7⟩
      · exact ⟨M', _, hm, hY a M' (fun w => by rw [w] at h1; cases h1) hm, cz_chkN_ok h2, h3, h4, List.isEmpty_iff.mp h5, h8, cz_w_ok h6, cz_w_ok h7⟩
    · cases h
  · rename_i ht
    cases ht
    simp only [Bool.and_eq_true] at h
    exact ⟨cz_w_ok h.1.1, cz_w_ok h.1.2, cz_w_ok h.2⟩
  · rename_i ht
    cases ht
    split at h
    · rename_i n hn
      exact ⟨n, hn, cz_w_ok h⟩
    · cases h
  · rename_i ht
    cases ht
    split at h
    · rename_i C T N hc
      exact ⟨C, T, N, hc, cz_w_ok h⟩
    · cases h
  · rename_i ht
    cases ht
    split at h
    · rename_i n hn
      simp only [Bool.and_eq_true, Bool.not_eq_true'] at h
      exact ⟨(fun w => by have := h.1; rw [w] at this; cases this), n, hn, cz_w_ok h.2⟩
    · cases h
  · rename_i ht
    cases ht
    split at h
    · rename_i C hc
      simp only [Bool.and_eq_true, Nat.ble_eq] at h
      exact ⟨h.1.1, C, hc, cz_w_ok h.1.2, cz_w_ok h.2⟩
    · cases h
  · rename_i ht
    cases ht
    exact cz_w_ok h
  · rename_i ht
    cases ht
    split at h
    · rename_i o y t hs
      simp only [Bool.and_eq_true, Nat.ble_eq, Nat.blt_eq, decide_eq_true_eq] at h
      obtain ⟨⟨⟨h1, h2⟩, h3⟩, h4⟩ := h
      subst h3 h4
      exact ⟨h1, h2, t, hs⟩
    · cases h
  · rename_i ht
    cases ht
    simp only [Bool.and_eq_true] at h
    exact ⟨cz_w_ok h.1.1.1, cz_w_ok h.1.1.2, cz_w_ok h.1.2, cz_w_ok h.2⟩
  · rename_i ht
    cases ht
    simp only [Bool.and_eq_true] at h
    exact ⟨Nat.eq_of_beq_eq_true h.1, cz_w_ok h.2⟩
  · rename_i ht
    cases ht
    exact cz_w_ok h
  · rename_i ht
    cases ht
    simp only [Bool.and_eq_true] at h
    exact ⟨Nat.eq_of_beq_eq_true h.1, cz_w_ok h.2⟩
  · rename_i ht
    cases ht
    exact cz_w_ok h
  · rename_i ht
    cases ht
    exact ⟨cz_w_ok h, hI⟩
  · rename_i ht
    cases ht
    simp only [Bool.and_eq_true] at h
    obtain ⟨⟨⟨⟨⟨h1, h2⟩, h3⟩, h4⟩, h5⟩, h6⟩ := h
    exact ⟨cz_w_ok h1, cz_w_ok h2, cz_w_ok h3, cz_w_ok h4, cz_w_ok h5, cz_w_ok h6⟩
  · rename_i ht
    cases ht
    split at h
    · rename_i M' hm
      split at h
      · rename_i C T N hc
        simp only [Bool.and_eq_true, Bool.not_eq_true', decide_eq_true_eq] at h
        obtain ⟨⟨⟨⟨⟨⟨h1, h2⟩, h3⟩, h4⟩, h5⟩, h6⟩, h7⟩ := h
        exact ⟨M', C, T, N, hm, hY a M' (fun w => by rw [w] at h1; cases h1) hm, cz_chkN_ok h2, hc, h3, cz_w_ok h4, cz_w_ok h5, cz_w_ok h6, cz_w_ok h7⟩
      · cases h
    · cases h
  · cases h
noncomputable def cz_chkD (M : cz_M) : Bool := M.2.2.1.all (fun row => row.all (fun e => decide (decode M.2.1.1 e.1 = .ok e.2)))
noncomputable def cz_chkR (b : ByteArray) (row : List (Nat × Instr × Nat)) : Bool := row.all (fun e => decide (decode b e.1 = .ok e.2))
/-! decode, told by the bytes alone. (Written by wip/p2/py/gen27.py.) -/
def bt8 (b : ByteArray) (p : Nat) : Option Nat := (b.data.toList[p]?).map UInt8.toNat
theorem dr_bind {α β : Type} (r : Decoder α) (f : α → Decoder β) (b : ByteArray) (p : Nat) : Reader.runAt (r >>= f) b p = (match Reader.runAt r b p with
  | .ok q => Reader.runAt (f q.1) b q.2
  | .error e => .error e) := by
  have e : Reader.runAt (r >>= f) b p = Except.bind (Reader.runAt r b p) (fun v => Reader.runAt (f v.1) b v.2) := rfl
  rw [e]
  cases Reader.runAt r b p <;> rfl
theorem dr_map {α β : Type} (f : α → β) (r : Decoder α) (b : ByteArray) (p : Nat) : Reader.runAt (f <$> r) b p = (match Reader.runAt r b p with
  | .ok q => .ok (f q.1, q.2)
  | .error e => .error e) := by
  have e : Reader.runAt (f <$> r) b p = Except.bind (Reader.runAt r b p) (fun v => .ok (f v.1, v.2)) := rfl
  rw [e]
  cases Reader.runAt r b p <;> rfl
theorem dr_u1 {b : ByteArray} {p v : Nat} (h : bt8 b p = some v) : Reader.runAt (Reader.u1 : Decoder Nat) b p = .ok (v, p + 1) := by
  obtain ⟨w, h1, h2⟩ := Option.map_eq_some_iff.mp h
  obtain ⟨hp, hv⟩ := List.getElem?_eq_some_iff.mp h1
  have hs : p < b.size := hp
  have e : Reader.runAt (Reader.u1 : Decoder Nat) b p = (if h : p < b.size then (do set (p + 1); pure (b[p]'h).toNat : Decoder Nat) else throw (HasTruncated.truncated p)) b p := rfl
  rw [e, dif_pos hs]
  show Except.ok ((b[p]'hs).toNat, p + 1) = _
  rw [← h2, ← hv]
  rfl
theorem dr_u2 {b : ByteArray} {p v w : Nat} (h1 : bt8 b p = some v) (h2 : bt8 b (p + 1) = some w) : Reader.runAt (Reader.u2 : Decoder Nat) b p = .ok (v * 256 + w, p + 2) := by
  unfold Reader.u2
  rw [dr_bind, dr_u1 h1]
  show Reader.runAt (Reader.u1 >>= fun lo => pure (v * 256 + lo) : Decoder Nat) b (p + 1) = _
  rw [dr_bind, dr_u1 h2]
  rfl
theorem dr_s1 {b : ByteArray} {p v : Nat} (h : bt8 b p = some v) : Reader.runAt (Reader.s1 : Decoder Int) b p = .ok (Reader.signed 8 v, p + 1) := by
  unfold Reader.s1
  rw [dr_map, dr_u1 h]
theorem dr_s2 {b : ByteArray} {p v w : Nat} (h1 : bt8 b p = some v) (h2 : bt8 b (p + 1) = some w) : Reader.runAt (Reader.s2 : Decoder Int) b p = .ok (Reader.signed 16 (v * 256 + w), p + 2) := by
  unfold Reader.s2
  rw [dr_map, dr_u2 h1 h2]
theorem dr_dec {F : Nat → Decoder Instr} {b : ByteArray} {p k : Nat} (hF : Decoder.instr p = (Reader.u1 >>= F : Decoder Instr)) (h : bt8 b p = some k) : decode b p = (match Reader.runAt (F k) b (p + 1) with
  | .ok q => .ok (q.1, q.2 - p)
  | .error e => .error e) := by
  have e : decode b p = Except.bind (Reader.runAt (Decoder.instr p) b p) (fun v => .ok (v.1, v.2 - p)) := rfl
  rw [e, hF, dr_bind, dr_u1 h]
  show Except.bind (Reader.runAt (F k) b (p + 1)) _ = _
  cases Reader.runAt (F k) b (p + 1) <;> rfl
theorem dr_1 (p : Nat) : p + 1 - p = 1 := by omega
theorem dr_2 (p : Nat) : p + 1 + 1 - p = 2 := by omega
theorem dr_3 (p : Nat) : p + 1 + 2 - p = 3 := by omega
def S0 (q : Nat × Instr) : Prop := ∀ (b : ByteArray) (p : Nat), bt8 b p = some q.1 → decode b p = .ok (q.2, 1)
def S1 (q : Nat × (Nat → Instr)) : Prop := ∀ (b : ByteArray) (p v : Nat), bt8 b p = some q.1 → bt8 b (p + 1) = some v → decode b p = .ok (q.2 v, 2)
def SN (q : (Nat × Nat) × Instr) : Prop := ∀ (b : ByteArray) (p : Nat), bt8 b p = some q.1.1 → bt8 b (p + 1) = some q.1.2 → decode b p = .ok (q.2, 2)
def S2 (q : Nat × (Nat → Instr)) : Prop := ∀ (b : ByteArray) (p v w : Nat), bt8 b p = some q.1 → bt8 b (p + 1) = some v → bt8 b (p + 2) = some w → decode b p = .ok (q.2 (v * 256 + w), 3)
theorem op_42 : S0 (42, .aload_n 0) := fun b p h => (dr_dec rfl h).trans (show Except.ok ((.aload_n 0 : Instr), p + 1 - p) = _ by rw [dr_1])
theorem op_43 : S0 (43, .aload_n 1) := fun b p h => (dr_dec rfl h).trans (show Except.ok ((.aload_n 1 : Instr), p + 1 - p) = _ by rw [dr_1])
theorem op_44 : S0 (44, .aload_n 2) := fun b p h => (dr_dec rfl h).trans (show Except.ok ((.aload_n 2 : Instr), p + 1 - p) = _ by rw [dr_1])
theorem op_45 : S0 (45, .aload_n 3) := fun b p h => (dr_dec rfl h).trans (show Except.ok ((.aload_n 3 : Instr), p + 1 - p) = _ by rw [dr_1])
theorem op_3 : S0 (3, .iconst 0) := fun b p h => (dr_dec rfl h).trans (show Except.ok ((.iconst 0 : Instr), p + 1 - p) = _ by rw [dr_1])
theorem op_4 : S0 (4, .iconst 1) := fun b p h => (dr_dec rfl h).trans (show Except.ok ((.iconst 1 : Instr), p + 1 - p) = _ by rw [dr_1])
theorem op_5 : S0 (5, .iconst 2) := fun b p h => (dr_dec rfl h).trans (show Except.ok ((.iconst 2 : Instr), p + 1 - p) = _ by rw [dr_1])
theorem op_27 : S0 (27, .iload_n 1) := fun b p h => (dr_dec rfl h).trans (show Except.ok ((.iload_n 1 : Instr), p + 1 - p) = _ by rw [dr_1])
theorem op_28 : S0 (28, .iload_n 2) := fun b p h => (dr_dec rfl h).trans (show Except.ok ((.iload_n 2 : Instr), p + 1 - p) = _ by rw [dr_1])
theorem op_29 : S0 (29, .iload_n 3) := fun b p h => (dr_dec rfl h).trans (show Except.ok ((.iload_n 3 : Instr), p + 1 - p) = _ by rw [dr_1])
theorem op_26 : S0 (26, .iload_n 0) := fun b p h => (dr_dec rfl h).trans (show Except.ok ((.iload_n 0 : Instr), p + 1 - p) = _ by rw [dr_1])
theorem op_172 : S0 (172, .ireturn) := fun b p h => (dr_dec rfl h).trans (show Except.ok ((.ireturn : Instr), p + 1 - p) = _ by rw [dr_1])
theorem op_46 : S0 (46, .iaload) := fun b p h => (dr_dec rfl h).trans (show Except.ok ((.iaload : Instr), p + 1 - p) = _ by rw [dr_1])
theorem op_96 : S0 (96, .iadd) := fun b p h => (dr_dec rfl h).trans (show Except.ok ((.iadd : Instr), p + 1 - p) = _ by rw [dr_1])
theorem op_2 : S0 (2, .iconst (-1)) := fun b p h => (dr_dec rfl h).trans (show Except.ok ((.iconst (-1) : Instr), p + 1 - p) = _ by rw [dr_1])
theorem op_6 : S0 (6, .iconst 3) := fun b p h => (dr_dec rfl h).trans (show Except.ok ((.iconst 3 : Instr), p + 1 - p) = _ by rw [dr_1])
theorem op_7 : S0 (7, .iconst 4) := fun b p h => (dr_dec rfl h).trans (show Except.ok ((.iconst 4 : Instr), p + 1 - p) = _ by rw [dr_1])
theorem op_8 : S0 (8, .iconst 5) := fun b p h => (dr_dec rfl h).trans (show Except.ok ((.iconst 5 : Instr), p + 1 - p) = _ by rw [dr_1])
theorem op_59 : S0 (59, .istore_n 0) := fun b p h => (dr_dec rfl h).trans (show Except.ok ((.istore_n 0 : Instr), p + 1 - p) = _ by rw [dr_1])
theorem op_60 : S0 (60, .istore_n 1) := fun b p h => (dr_dec rfl h).trans (show Except.ok ((.istore_n 1 : Instr), p + 1 - p) = _ by rw [dr_1])
theorem op_61 : S0 (61, .istore_n 2) := fun b p h => (dr_dec rfl h).trans (show Except.ok ((.istore_n 2 : Instr), p + 1 - p) = _ by rw [dr_1])
theorem op_62 : S0 (62, .istore_n 3) := fun b p h => (dr_dec rfl h).trans (show Except.ok ((.istore_n 3 : Instr), p + 1 - p) = _ by rw [dr_1])
theorem op_89 : S0 (89, .dup) := fun b p h => (dr_dec rfl h).trans (show Except.ok ((.dup : Instr), p + 1 - p) = _ by rw [dr_1])
theorem op_100 : S0 (100, .isub) := fun b p h => (dr_dec rfl h).trans (show Except.ok ((.isub : Instr), p + 1 - p) = _ by rw [dr_1])
theorem op_50 : S0 (50, .aaload) := fun b p h => (dr_dec rfl h).trans (show Except.ok ((.aaload : Instr), p + 1 - p) = _ by rw [dr_1])
theorem op_177 : S0 (177, .return_) := fun b p h => (dr_dec rfl h).trans (show Except.ok ((.return_ : Instr), p + 1 - p) = _ by rw [dr_1])
theorem op_79 : S0 (79, .iastore) := fun b p h => (dr_dec rfl h).trans (show Except.ok ((.iastore : Instr), p + 1 - p) = _ by rw [dr_1])
theorem op_51 : S0 (51, .baload) := fun b p h => (dr_dec rfl h).trans (show Except.ok ((.baload : Instr), p + 1 - p) = _ by rw [dr_1])
theorem op_83 : S0 (83, .aastore) := fun b p h => (dr_dec rfl h).trans (show Except.ok ((.aastore : Instr), p + 1 - p) = _ by rw [dr_1])
theorem op_75 : S0 (75, .astore_n 0) := fun b p h => (dr_dec rfl h).trans (show Except.ok ((.astore_n 0 : Instr), p + 1 - p) = _ by rw [dr_1])
theorem op_76 : S0 (76, .astore_n 1) := fun b p h => (dr_dec rfl h).trans (show Except.ok ((.astore_n 1 : Instr), p + 1 - p) = _ by rw [dr_1])
theorem op_77 : S0 (77, .astore_n 2) := fun b p h => (dr_dec rfl h).trans (show Except.ok ((.astore_n 2 : Instr), p + 1 - p) = _ by rw [dr_1])
theorem op_78 : S0 (78, .astore_n 3) := fun b p h => (dr_dec rfl h).trans (show Except.ok ((.astore_n 3 : Instr), p + 1 - p) = _ by rw [dr_1])
theorem op_104 : S0 (104, .imul) := fun b p h => (dr_dec rfl h).trans (show Except.ok ((.imul : Instr), p + 1 - p) = _ by rw [dr_1])
theorem op_190 : S0 (190, .arraylength) := fun b p h => (dr_dec rfl h).trans (show Except.ok ((.arraylength : Instr), p + 1 - p) = _ by rw [dr_1])
theorem op_133 : S0 (133, .i2l) := fun b p h => (dr_dec rfl h).trans (show Except.ok ((.i2l : Instr), p + 1 - p) = _ by rw [dr_1])
theorem op_176 : S0 (176, .areturn) := fun b p h => (dr_dec rfl h).trans (show Except.ok ((.areturn : Instr), p + 1 - p) = _ by rw [dr_1])
theorem op_80 : S0 (80, .lastore) := fun b p h => (dr_dec rfl h).trans (show Except.ok ((.lastore : Instr), p + 1 - p) = _ by rw [dr_1])
theorem op_126 : S0 (126, .iand) := fun b p h => (dr_dec rfl h).trans (show Except.ok ((.iand : Instr), p + 1 - p) = _ by rw [dr_1])
theorem op_30 : S0 (30, .lload_n 0) := fun b p h => (dr_dec rfl h).trans (show Except.ok ((.lload_n 0 : Instr), p + 1 - p) = _ by rw [dr_1])
theorem op_31 : S0 (31, .lload_n 1) := fun b p h => (dr_dec rfl h).trans (show Except.ok ((.lload_n 1 : Instr), p + 1 - p) = _ by rw [dr_1])
theorem op_32 : S0 (32, .lload_n 2) := fun b p h => (dr_dec rfl h).trans (show Except.ok ((.lload_n 2 : Instr), p + 1 - p) = _ by rw [dr_1])
theorem op_33 : S0 (33, .lload_n 3) := fun b p h => (dr_dec rfl h).trans (show Except.ok ((.lload_n 3 : Instr), p + 1 - p) = _ by rw [dr_1])
theorem op_9 : S0 (9, .lconst 0) := fun b p h => (dr_dec rfl h).trans (show Except.ok ((.lconst 0 : Instr), p + 1 - p) = _ by rw [dr_1])
theorem op_10 : S0 (10, .lconst 1) := fun b p h => (dr_dec rfl h).trans (show Except.ok ((.lconst 1 : Instr), p + 1 - p) = _ by rw [dr_1])
theorem op_148 : S0 (148, .lcmp) := fun b p h => (dr_dec rfl h).trans (show Except.ok ((.lcmp : Instr), p + 1 - p) = _ by rw [dr_1])
theorem op_84 : S0 (84, .bastore) := fun b p h => (dr_dec rfl h).trans (show Except.ok ((.bastore : Instr), p + 1 - p) = _ by rw [dr_1])
theorem op_1 : S0 (1, .aconst_null) := fun b p h => (dr_dec rfl h).trans (show Except.ok ((.aconst_null : Instr), p + 1 - p) = _ by rw [dr_1])
theorem op_191 : S0 (191, .athrow) := fun b p h => (dr_dec rfl h).trans (show Except.ok ((.athrow : Instr), p + 1 - p) = _ by rw [dr_1])
theorem op_47 : S0 (47, .laload) := fun b p h => (dr_dec rfl h).trans (show Except.ok ((.laload : Instr), p + 1 - p) = _ by rw [dr_1])
theorem op_112 : S0 (112, .irem) := fun b p h => (dr_dec rfl h).trans (show Except.ok ((.irem : Instr), p + 1 - p) = _ by rw [dr_1])
theorem op_122 : S0 (122, .ishr) := fun b p h => (dr_dec rfl h).trans (show Except.ok ((.ishr : Instr), p + 1 - p) = _ by rw [dr_1])
theorem op_173 : S0 (173, .lreturn) := fun b p h => (dr_dec rfl h).trans (show Except.ok ((.lreturn : Instr), p + 1 - p) = _ by rw [dr_1])
theorem op_129 : S0 (129, .lor) := fun b p h => (dr_dec rfl h).trans (show Except.ok ((.lor : Instr), p + 1 - p) = _ by rw [dr_1])
theorem op_128 : S0 (128, .ior) := fun b p h => (dr_dec rfl h).trans (show Except.ok ((.ior : Instr), p + 1 - p) = _ by rw [dr_1])
theorem op_145 : S0 (145, .i2b) := fun b p h => (dr_dec rfl h).trans (show Except.ok ((.i2b : Instr), p + 1 - p) = _ by rw [dr_1])
theorem op_63 : S0 (63, .lstore_n 0) := fun b p h => (dr_dec rfl h).trans (show Except.ok ((.lstore_n 0 : Instr), p + 1 - p) = _ by rw [dr_1])
theorem op_64 : S0 (64, .lstore_n 1) := fun b p h => (dr_dec rfl h).trans (show Except.ok ((.lstore_n 1 : Instr), p + 1 - p) = _ by rw [dr_1])
theorem op_65 : S0 (65, .lstore_n 2) := fun b p h => (dr_dec rfl h).trans (show Except.ok ((.lstore_n 2 : Instr), p + 1 - p) = _ by rw [dr_1])
theorem op_66 : S0 (66, .lstore_n 3) := fun b p h => (dr_dec rfl h).trans (show Except.ok ((.lstore_n 3 : Instr), p + 1 - p) = _ by rw [dr_1])
theorem op_120 : S0 (120, .ishl) := fun b p h => (dr_dec rfl h).trans (show Except.ok ((.ishl : Instr), p + 1 - p) = _ by rw [dr_1])
theorem op_87 : S0 (87, .pop) := fun b p h => (dr_dec rfl h).trans (show Except.ok ((.pop : Instr), p + 1 - p) = _ by rw [dr_1])
theorem op_121 : S0 (121, .lshl) := fun b p h => (dr_dec rfl h).trans (show Except.ok ((.lshl : Instr), p + 1 - p) = _ by rw [dr_1])
theorem op_108 : S0 (108, .idiv) := fun b p h => (dr_dec rfl h).trans (show Except.ok ((.idiv : Instr), p + 1 - p) = _ by rw [dr_1])
theorem op_92 : S0 (92, .dup2) := fun b p h => (dr_dec rfl h).trans (show Except.ok ((.dup2 : Instr), p + 1 - p) = _ by rw [dr_1])
theorem op_125 : S0 (125, .lushr) := fun b p h => (dr_dec rfl h).trans (show Except.ok ((.lushr : Instr), p + 1 - p) = _ by rw [dr_1])
theorem op_127 : S0 (127, .land) := fun b p h => (dr_dec rfl h).trans (show Except.ok ((.land : Instr), p + 1 - p) = _ by rw [dr_1])
theorem op_124 : S0 (124, .iushr) := fun b p h => (dr_dec rfl h).trans (show Except.ok ((.iushr : Instr), p + 1 - p) = _ by rw [dr_1])
theorem op_136 : S0 (136, .l2i) := fun b p h => (dr_dec rfl h).trans (show Except.ok ((.l2i : Instr), p + 1 - p) = _ by rw [dr_1])
theorem op_146 : S0 (146, .i2c) := fun b p h => (dr_dec rfl h).trans (show Except.ok ((.i2c : Instr), p + 1 - p) = _ by rw [dr_1])
theorem op_90 : S0 (90, .dup_x1) := fun b p h => (dr_dec rfl h).trans (show Except.ok ((.dup_x1 : Instr), p + 1 - p) = _ by rw [dr_1])
theorem op_105 : S0 (105, .lmul) := fun b p h => (dr_dec rfl h).trans (show Except.ok ((.lmul : Instr), p + 1 - p) = _ by rw [dr_1])
theorem op_97 : S0 (97, .ladd) := fun b p h => (dr_dec rfl h).trans (show Except.ok ((.ladd : Instr), p + 1 - p) = _ by rw [dr_1])
theorem op_21 : S1 (21, fun v => .iload v) := fun b p v h h1 => (dr_dec rfl h).trans (by
  show (match Reader.runAt ((Reader.u1 >>= fun x => pure (.iload x)) : Decoder Instr) b (p + 1) with | .ok q => Except.ok (q.1, q.2 - p) | .error e => .error e) = _
  rw [dr_bind, dr_u1 h1]
  show Except.ok ((.iload v : Instr), p + 1 + 1 - p) = _
  rw [dr_2])
theorem op_54 : S1 (54, fun v => .istore v) := fun b p v h h1 => (dr_dec rfl h).trans (by
  show (match Reader.runAt ((Reader.u1 >>= fun x => pure (.istore x)) : Decoder Instr) b (p + 1) with | .ok q => Except.ok (q.1, q.2 - p) | .error e => .error e) = _
  rw [dr_bind, dr_u1 h1]
  show Except.ok ((.istore v : Instr), p + 1 + 1 - p) = _
  rw [dr_2])
theorem op_16 : S1 (16, fun v => .bipush (Reader.signed 8 v)) := fun b p v h h1 => (dr_dec rfl h).trans (by
  show (match Reader.runAt ((Reader.s1 >>= fun x => pure (.bipush x)) : Decoder Instr) b (p + 1) with | .ok q => Except.ok (q.1, q.2 - p) | .error e => .error e) = _
  rw [dr_bind, dr_s1 h1]
  show Except.ok ((.bipush (Reader.signed 8 v) : Instr), p + 1 + 1 - p) = _
  rw [dr_2])
theorem op_25 : S1 (25, fun v => .aload v) := fun b p v h h1 => (dr_dec rfl h).trans (by
  show (match Reader.runAt ((Reader.u1 >>= fun x => pure (.aload x)) : Decoder Instr) b (p + 1) with | .ok q => Except.ok (q.1, q.2 - p) | .error e => .error e) = _
  rw [dr_bind, dr_u1 h1]
  show Except.ok ((.aload v : Instr), p + 1 + 1 - p) = _
  rw [dr_2])
theorem op_18 : S1 (18, fun v => .ldc v) := fun b p v h h1 => (dr_dec rfl h).trans (by
  show (match Reader.runAt ((Reader.u1 >>= fun x => pure (.ldc x)) : Decoder Instr) b (p + 1) with | .ok q => Except.ok (q.1, q.2 - p) | .error e => .error e) = _
  rw [dr_bind, dr_u1 h1]
  show Except.ok ((.ldc v : Instr), p + 1 + 1 - p) = _
  rw [dr_2])
theorem op_58 : S1 (58, fun v => .astore v) := fun b p v h h1 => (dr_dec rfl h).trans (by
  show (match Reader.runAt ((Reader.u1 >>= fun x => pure (.astore x)) : Decoder Instr) b (p + 1) with | .ok q => Except.ok (q.1, q.2 - p) | .error e => .error e) = _
  rw [dr_bind, dr_u1 h1]
  show Except.ok ((.astore v : Instr), p + 1 + 1 - p) = _
  rw [dr_2])
theorem op_22 : S1 (22, fun v => .lload v) := fun b p v h h1 => (dr_dec rfl h).trans (by
  show (match Reader.runAt ((Reader.u1 >>= fun x => pure (.lload x)) : Decoder Instr) b (p + 1) with | .ok q => Except.ok (q.1, q.2 - p) | .error e => .error e) = _
  rw [dr_bind, dr_u1 h1]
  show Except.ok ((.lload v : Instr), p + 1 + 1 - p) = _
  rw [dr_2])
theorem op_55 : S1 (55, fun v => .lstore v) := fun b p v h h1 => (dr_dec rfl h).trans (by
  show (match Reader.runAt ((Reader.u1 >>= fun x => pure (.lstore x)) : Decoder Instr) b (p + 1) with | .ok q => Except.ok (q.1, q.2 - p) | .error e => .error e) = _
  rw [dr_bind, dr_u1 h1]
  show Except.ok ((.lstore v : Instr), p + 1 + 1 - p) = _
  rw [dr_2])
theorem op_188_10 : SN ((188, 10), .newarray .int) := fun b p h h1 => (dr_dec rfl h).trans (by
  show (match Reader.runAt (Decoder.newarray p) b (p + 1) with | .ok q => Except.ok (q.1, q.2 - p) | .error e => .error e) = _
  unfold Decoder.newarray
  rw [dr_bind, dr_u1 h1]
  show Except.ok ((.newarray .int : Instr), p + 1 + 1 - p) = _
  rw [dr_2])
theorem op_188_8 : SN ((188, 8), .newarray .byte) := fun b p h h1 => (dr_dec rfl h).trans (by
  show (match Reader.runAt (Decoder.newarray p) b (p + 1) with | .ok q => Except.ok (q.1, q.2 - p) | .error e => .error e) = _
  unfold Decoder.newarray
  rw [dr_bind, dr_u1 h1]
  show Except.ok ((.newarray .byte : Instr), p + 1 + 1 - p) = _
  rw [dr_2])
theorem op_188_11 : SN ((188, 11), .newarray .long) := fun b p h h1 => (dr_dec rfl h).trans (by
  show (match Reader.runAt (Decoder.newarray p) b (p + 1) with | .ok q => Except.ok (q.1, q.2 - p) | .error e => .error e) = _
  unfold Decoder.newarray
  rw [dr_bind, dr_u1 h1]
  show Except.ok ((.newarray .long : Instr), p + 1 + 1 - p) = _
  rw [dr_2])
theorem op_188_4 : SN ((188, 4), .newarray .boolean) := fun b p h h1 => (dr_dec rfl h).trans (by
  show (match Reader.runAt (Decoder.newarray p) b (p + 1) with | .ok q => Except.ok (q.1, q.2 - p) | .error e => .error e) = _
  unfold Decoder.newarray
  rw [dr_bind, dr_u1 h1]
  show Except.ok ((.newarray .boolean : Instr), p + 1 + 1 - p) = _
  rw [dr_2])
theorem op_180 : S2 (180, fun v => .getfield v) := fun b p v w h h1 h2 => (dr_dec rfl h).trans (by
  show (match Reader.runAt ((Reader.u2 >>= fun x => pure (.getfield x)) : Decoder Instr) b (p + 1) with | .ok q => Except.ok (q.1, q.2 - p) | .error e => .error e) = _
  rw [dr_bind, dr_u2 h1 h2]
  show Except.ok ((.getfield (v * 256 + w) : Instr), p + 1 + 2 - p) = _
  rw [dr_3])
theorem op_182 : S2 (182, fun v => .invokevirtual v) := fun b p v w h h1 h2 => (dr_dec rfl h).trans (by
  show (match Reader.runAt ((Reader.u2 >>= fun x => pure (.invokevirtual x)) : Decoder Instr) b (p + 1) with | .ok q => Except.ok (q.1, q.2 - p) | .error e => .error e) = _
  rw [dr_bind, dr_u2 h1 h2]
  show Except.ok ((.invokevirtual (v * 256 + w) : Instr), p + 1 + 2 - p) = _
  rw [dr_3])
theorem op_167 : S2 (167, fun v => .goto (Reader.signed 16 v)) := fun b p v w h h1 h2 => (dr_dec rfl h).trans (by
  show (match Reader.runAt ((Reader.s2 >>= fun x => pure (.goto x)) : Decoder Instr) b (p + 1) with | .ok q => Except.ok (q.1, q.2 - p) | .error e => .error e) = _
  rw [dr_bind, dr_s2 h1 h2]
  show Except.ok ((.goto (Reader.signed 16 (v * 256 + w)) : Instr), p + 1 + 2 - p) = _
  rw [dr_3])
theorem op_181 : S2 (181, fun v => .putfield v) := fun b p v w h h1 h2 => (dr_dec rfl h).trans (by
  show (match Reader.runAt ((Reader.u2 >>= fun x => pure (.putfield x)) : Decoder Instr) b (p + 1) with | .ok q => Except.ok (q.1, q.2 - p) | .error e => .error e) = _
  rw [dr_bind, dr_u2 h1 h2]
  show Except.ok ((.putfield (v * 256 + w) : Instr), p + 1 + 2 - p) = _
  rw [dr_3])
theorem op_184 : S2 (184, fun v => .invokestatic v) := fun b p v w h h1 h2 => (dr_dec rfl h).trans (by
  show (match Reader.runAt ((Reader.u2 >>= fun x => pure (.invokestatic x)) : Decoder Instr) b (p + 1) with | .ok q => Except.ok (q.1, q.2 - p) | .error e => .error e) = _
  rw [dr_bind, dr_u2 h1 h2]
  show Except.ok ((.invokestatic (v * 256 + w) : Instr), p + 1 + 2 - p) = _
  rw [dr_3])
theorem op_17 : S2 (17, fun v => .sipush (Reader.signed 16 v)) := fun b p v w h h1 h2 => (dr_dec rfl h).trans (by
  show (match Reader.runAt ((Reader.s2 >>= fun x => pure (.sipush x)) : Decoder Instr) b (p + 1) with | .ok q => Except.ok (q.1, q.2 - p) | .error e => .error e) = _
  rw [dr_bind, dr_s2 h1 h2]
  show Except.ok ((.sipush (Reader.signed 16 (v * 256 + w)) : Instr), p + 1 + 2 - p) = _
  rw [dr_3])
theorem op_183 : S2 (183, fun v => .invokespecial v) := fun b p v w h h1 h2 => (dr_dec rfl h).trans (by
  show (match Reader.runAt ((Reader.u2 >>= fun x => pure (.invokespecial x)) : Decoder Instr) b (p + 1) with | .ok q => Except.ok (q.1, q.2 - p) | .error e => .error e) = _
  rw [dr_bind, dr_u2 h1 h2]
  show Except.ok ((.invokespecial (v * 256 + w) : Instr), p + 1 + 2 - p) = _
  rw [dr_3])
theorem op_187 : S2 (187, fun v => .new v) := fun b p v w h h1 h2 => (dr_dec rfl h).trans (by
  show (match Reader.runAt ((Reader.u2 >>= fun x => pure (.new x)) : Decoder Instr) b (p + 1) with | .ok q => Except.ok (q.1, q.2 - p) | .error e => .error e) = _
  rw [dr_bind, dr_u2 h1 h2]
  show Except.ok ((.new (v * 256 + w) : Instr), p + 1 + 2 - p) = _
  rw [dr_3])
theorem op_198 : S2 (198, fun v => .ifnull (Reader.signed 16 v)) := fun b p v w h h1 h2 => (dr_dec rfl h).trans (by
  show (match Reader.runAt ((Reader.s2 >>= fun x => pure (.ifnull x)) : Decoder Instr) b (p + 1) with | .ok q => Except.ok (q.1, q.2 - p) | .error e => .error e) = _
  rw [dr_bind, dr_s2 h1 h2]
  show Except.ok ((.ifnull (Reader.signed 16 (v * 256 + w)) : Instr), p + 1 + 2 - p) = _
  rw [dr_3])
theorem op_19 : S2 (19, fun v => .ldc_w v) := fun b p v w h h1 h2 => (dr_dec rfl h).trans (by
  show (match Reader.runAt ((Reader.u2 >>= fun x => pure (.ldc_w x)) : Decoder Instr) b (p + 1) with | .ok q => Except.ok (q.1, q.2 - p) | .error e => .error e) = _
  rw [dr_bind, dr_u2 h1 h2]
  show Except.ok ((.ldc_w (v * 256 + w) : Instr), p + 1 + 2 - p) = _
  rw [dr_3])
theorem op_199 : S2 (199, fun v => .ifnonnull (Reader.signed 16 v)) := fun b p v w h h1 h2 => (dr_dec rfl h).trans (by
  show (match Reader.runAt ((Reader.s2 >>= fun x => pure (.ifnonnull x)) : Decoder Instr) b (p + 1) with | .ok q => Except.ok (q.1, q.2 - p) | .error e => .error e) = _
  rw [dr_bind, dr_s2 h1 h2]
  show Except.ok ((.ifnonnull (Reader.signed 16 (v * 256 + w)) : Instr), p + 1 + 2 - p) = _
  rw [dr_3])
theorem op_189 : S2 (189, fun v => .anewarray v) := fun b p v w h h1 h2 => (dr_dec rfl h).trans (by
  show (match Reader.runAt ((Reader.u2 >>= fun x => pure (.anewarray x)) : Decoder Instr) b (p + 1) with | .ok q => Except.ok (q.1, q.2 - p) | .error e => .error e) = _
  rw [dr_bind, dr_u2 h1 h2]
  show Except.ok ((.anewarray (v * 256 + w) : Instr), p + 1 + 2 - p) = _
  rw [dr_3])
theorem op_20 : S2 (20, fun v => .ldc2_w v) := fun b p v w h h1 h2 => (dr_dec rfl h).trans (by
  show (match Reader.runAt ((Reader.u2 >>= fun x => pure (.ldc2_w x)) : Decoder Instr) b (p + 1) with | .ok q => Except.ok (q.1, q.2 - p) | .error e => .error e) = _
  rw [dr_bind, dr_u2 h1 h2]
  show Except.ok ((.ldc2_w (v * 256 + w) : Instr), p + 1 + 2 - p) = _
  rw [dr_3])
theorem op_178 : S2 (178, fun v => .getstatic v) := fun b p v w h h1 h2 => (dr_dec rfl h).trans (by
  show (match Reader.runAt ((Reader.u2 >>= fun x => pure (.getstatic x)) : Decoder Instr) b (p + 1) with | .ok q => Except.ok (q.1, q.2 - p) | .error e => .error e) = _
  rw [dr_bind, dr_u2 h1 h2]
  show Except.ok ((.getstatic (v * 256 + w) : Instr), p + 1 + 2 - p) = _
  rw [dr_3])
theorem op_192 : S2 (192, fun v => .checkcast v) := fun b p v w h h1 h2 => (dr_dec rfl h).trans (by
  show (match Reader.runAt ((Reader.u2 >>= fun x => pure (.checkcast x)) : Decoder Instr) b (p + 1) with | .ok q => Except.ok (q.1, q.2 - p) | .error e => .error e) = _
  rw [dr_bind, dr_u2 h1 h2]
  show Except.ok ((.checkcast (v * 256 + w) : Instr), p + 1 + 2 - p) = _
  rw [dr_3])
theorem op_165 : S2 (165, fun v => .if_acmp .eq (Reader.signed 16 v)) := fun b p v w h h1 h2 => (dr_dec rfl h).trans (by
  show (match Reader.runAt ((Reader.s2 >>= fun x => pure (.if_acmp .eq x)) : Decoder Instr) b (p + 1) with | .ok q => Except.ok (q.1, q.2 - p) | .error e => .error e) = _
  rw [dr_bind, dr_s2 h1 h2]
  show Except.ok ((.if_acmp .eq (Reader.signed 16 (v * 256 + w)) : Instr), p + 1 + 2 - p) = _
  rw [dr_3])
theorem op_166 : S2 (166, fun v => .if_acmp .ne (Reader.signed 16 v)) := fun b p v w h h1 h2 => (dr_dec rfl h).trans (by
  show (match Reader.runAt ((Reader.s2 >>= fun x => pure (.if_acmp .ne x)) : Decoder Instr) b (p + 1) with | .ok q => Except.ok (q.1, q.2 - p) | .error e => .error e) = _
  rw [dr_bind, dr_s2 h1 h2]
  show Except.ok ((.if_acmp .ne (Reader.signed 16 (v * 256 + w)) : Instr), p + 1 + 2 - p) = _
  rw [dr_3])
theorem op_153 : S2 (153, fun v => .ifCond .eq (Reader.signed 16 v)) := fun b p v w h h1 h2 => (dr_dec rfl h).trans (by
  show (match Reader.runAt ((Reader.s2 >>= fun x => pure (.ifCond .eq x)) : Decoder Instr) b (p + 1) with | .ok q => Except.ok (q.1, q.2 - p) | .error e => .error e) = _
  rw [dr_bind, dr_s2 h1 h2]
  show Except.ok ((.ifCond .eq (Reader.signed 16 (v * 256 + w)) : Instr), p + 1 + 2 - p) = _
  rw [dr_3])
theorem op_159 : S2 (159, fun v => .if_icmp .eq (Reader.signed 16 v)) := fun b p v w h h1 h2 => (dr_dec rfl h).trans (by
  show (match Reader.runAt ((Reader.s2 >>= fun x => pure (.if_icmp .eq x)) : Decoder Instr) b (p + 1) with | .ok q => Except.ok (q.1, q.2 - p) | .error e => .error e) = _
  rw [dr_bind, dr_s2 h1 h2]
  show Except.ok ((.if_icmp .eq (Reader.signed 16 (v * 256 + w)) : Instr), p + 1 + 2 - p) = _
  rw [dr_3])
theorem op_154 : S2 (154, fun v => .ifCond .ne (Reader.signed 16 v)) := fun b p v w h h1 h2 => (dr_dec rfl h).trans (by
  show (match Reader.runAt ((Reader.s2 >>= fun x => pure (.ifCond .ne x)) : Decoder Instr) b (p + 1) with | .ok q => Except.ok (q.1, q.2 - p) | .error e => .error e) = _
  rw [dr_bind, dr_s2 h1 h2]
  show Except.ok ((.ifCond .ne (Reader.signed 16 (v * 256 + w)) : Instr), p + 1 + 2 - p) = _
  rw [dr_3])
theorem op_160 : S2 (160, fun v => .if_icmp .ne (Reader.signed 16 v)) := fun b p v w h h1 h2 => (dr_dec rfl h).trans (by
  show (match Reader.runAt ((Reader.s2 >>= fun x => pure (.if_icmp .ne x)) : Decoder Instr) b (p + 1) with | .ok q => Except.ok (q.1, q.2 - p) | .error e => .error e) = _
  rw [dr_bind, dr_s2 h1 h2]
  show Except.ok ((.if_icmp .ne (Reader.signed 16 (v * 256 + w)) : Instr), p + 1 + 2 - p) = _
  rw [dr_3])
theorem op_155 : S2 (155, fun v => .ifCond .lt (Reader.signed 16 v)) := fun b p v w h h1 h2 => (dr_dec rfl h).trans (by
  show (match Reader.runAt ((Reader.s2 >>= fun x => pure (.ifCond .lt x)) : Decoder Instr) b (p + 1) with | .ok q => Except.ok (q.1, q.2 - p) | .error e => .error e) = _
  rw [dr_bind, dr_s2 h1 h2]
  show Except.ok ((.ifCond .lt (Reader.signed 16 (v * 256 + w)) : Instr), p + 1 + 2 - p) = _
  rw [dr_3])
theorem op_161 : S2 (161, fun v => .if_icmp .lt (Reader.signed 16 v)) := fun b p v w h h1 h2 => (dr_dec rfl h).trans (by
  show (match Reader.runAt ((Reader.s2 >>= fun x => pure (.if_icmp .lt x)) : Decoder Instr) b (p + 1) with | .ok q => Except.ok (q.1, q.2 - p) | .error e => .error e) = _
  rw [dr_bind, dr_s2 h1 h2]
  show Except.ok ((.if_icmp .lt (Reader.signed 16 (v * 256 + w)) : Instr), p + 1 + 2 - p) = _
  rw [dr_3])
theorem op_156 : S2 (156, fun v => .ifCond .ge (Reader.signed 16 v)) := fun b p v w h h1 h2 => (dr_dec rfl h).trans (by
  show (match Reader.runAt ((Reader.s2 >>= fun x => pure (.ifCond .ge x)) : Decoder Instr) b (p + 1) with | .ok q => Except.ok (q.1, q.2 - p) | .error e => .error e) = _
  rw [dr_bind, dr_s2 h1 h2]
  show Except.ok ((.ifCond .ge (Reader.signed 16 (v * 256 + w)) : Instr), p + 1 + 2 - p) = _
  rw [dr_3])
theorem op_162 : S2 (162, fun v => .if_icmp .ge (Reader.signed 16 v)) := fun b p v w h h1 h2 => (dr_dec rfl h).trans (by
  show (match Reader.runAt ((Reader.s2 >>= fun x => pure (.if_icmp .ge x)) : Decoder Instr) b (p + 1) with | .ok q => Except.ok (q.1, q.2 - p) | .error e => .error e) = _
  rw [dr_bind, dr_s2 h1 h2]
  show Except.ok ((.if_icmp .ge (Reader.signed 16 (v * 256 + w)) : Instr), p + 1 + 2 - p) = _
  rw [dr_3])
theorem op_157 : S2 (157, fun v => .ifCond .gt (Reader.signed 16 v)) := fun b p v w h h1 h2 => (dr_dec rfl h).trans (by
  show (match Reader.runAt ((Reader.s2 >>= fun x => pure (.ifCond .gt x)) : Decoder Instr) b (p + 1) with | .ok q => Except.ok (q.1, q.2 - p) | .error e => .error e) = _
  rw [dr_bind, dr_s2 h1 h2]
  show Except.ok ((.ifCond .gt (Reader.signed 16 (v * 256 + w)) : Instr), p + 1 + 2 - p) = _
  rw [dr_3])
theorem op_163 : S2 (163, fun v => .if_icmp .gt (Reader.signed 16 v)) := fun b p v w h h1 h2 => (dr_dec rfl h).trans (by
  show (match Reader.runAt ((Reader.s2 >>= fun x => pure (.if_icmp .gt x)) : Decoder Instr) b (p + 1) with | .ok q => Except.ok (q.1, q.2 - p) | .error e => .error e) = _
  rw [dr_bind, dr_s2 h1 h2]
  show Except.ok ((.if_icmp .gt (Reader.signed 16 (v * 256 + w)) : Instr), p + 1 + 2 - p) = _
  rw [dr_3])
theorem op_158 : S2 (158, fun v => .ifCond .le (Reader.signed 16 v)) := fun b p v w h h1 h2 => (dr_dec rfl h).trans (by
  show (match Reader.runAt ((Reader.s2 >>= fun x => pure (.ifCond .le x)) : Decoder Instr) b (p + 1) with | .ok q => Except.ok (q.1, q.2 - p) | .error e => .error e) = _
  rw [dr_bind, dr_s2 h1 h2]
  show Except.ok ((.ifCond .le (Reader.signed 16 (v * 256 + w)) : Instr), p + 1 + 2 - p) = _
  rw [dr_3])
theorem op_164 : S2 (164, fun v => .if_icmp .le (Reader.signed 16 v)) := fun b p v w h h1 h2 => (dr_dec rfl h).trans (by
  show (match Reader.runAt ((Reader.s2 >>= fun x => pure (.if_icmp .le x)) : Decoder Instr) b (p + 1) with | .ok q => Except.ok (q.1, q.2 - p) | .error e => .error e) = _
  rw [dr_bind, dr_s2 h1 h2]
  show Except.ok ((.if_icmp .le (Reader.signed 16 (v * 256 + w)) : Instr), p + 1 + 2 - p) = _
  rw [dr_3])
theorem op_132 (b : ByteArray) (p v w : Nat) (h : bt8 b p = some 132) (h1 : bt8 b (p + 1) = some v) (h2 : bt8 b (p + 2) = some w) : decode b p = .ok (.iinc v (Reader.signed 8 w), 3) := (dr_dec rfl h).trans (by
  show (match Reader.runAt ((Reader.u1 >>= fun x => Reader.s1 >>= fun y => pure (.iinc x y)) : Decoder Instr) b (p + 1) with | .ok q => Except.ok (q.1, q.2 - p) | .error e => .error e) = _
  rw [dr_bind, dr_u1 h1]
  show (match Reader.runAt ((Reader.s1 >>= fun y => pure (.iinc v y)) : Decoder Instr) b (p + 2) with | .ok q => Except.ok (q.1, q.2 - p) | .error e => .error e) = _
  rw [dr_bind, dr_s1 h2]
  show Except.ok ((.iinc v (Reader.signed 8 w) : Instr), p + 1 + 2 - p) = _
  rw [dr_3])
def t0 : List {q : Nat × Instr // S0 q} := [⟨(42, .aload_n 0), op_42⟩, ⟨(43, .aload_n 1), op_43⟩, ⟨(44, .aload_n 2), op_44⟩, ⟨(45, .aload_n 3), op_45⟩, ⟨(3, .iconst 0), op_3⟩, ⟨(4, .iconst 1), op_4⟩, ⟨(5, .iconst 2), op_5⟩, ⟨(27, .iload_n 1), op_27⟩, ⟨(28, .iload_n 2), op_28⟩, ⟨(29, .iload_n 3), op_29⟩, ⟨(26, .iload_n 0), op_26⟩, ⟨(172, .ireturn), op_172⟩, ⟨(46, .iaload), op_46⟩, ⟨(96, .iadd), op_96⟩, ⟨(2, .iconst (-1)), op_2⟩, ⟨(6, .iconst 3), op_6⟩, ⟨(7, .iconst 4), op_7⟩, ⟨(8, .iconst 5), op_8⟩, ⟨(59, .istore_n 0), op_59⟩, ⟨(60, .istore_n 1), op_60⟩, ⟨(61, .istore_n 2), op_61⟩, ⟨(62, .istore_n 3), op_62⟩, ⟨(89, .dup), op_89⟩, ⟨(100, .isub), op_100⟩, ⟨(50, .aaload), op_50⟩, ⟨(177, .return_), op_177⟩, ⟨(79, .iastore), op_79⟩, ⟨(51, .baload), op_51⟩, ⟨(83, .aastore), op_83⟩, ⟨(75, .astore_n 0), op_75⟩, ⟨(76, .astore_n 1), op_76⟩, ⟨(77, .astore_n 2), op_77⟩, ⟨(78, .astore_n 3), op_78⟩, ⟨(104, .imul), op_104⟩, ⟨(190, .arraylength), op_190⟩, ⟨(133, .i2l), op_133⟩, ⟨(176, .areturn), op_176⟩, ⟨(80, .lastore), op_80⟩, ⟨(126, .iand), op_126⟩, ⟨(30, .lload_n 0), op_30⟩, ⟨(31, .lload_n 1), op_31⟩, ⟨(32, .lload_n 2), op_32⟩, ⟨(33, .lload_n 3), op_33⟩, ⟨(9, .lconst 0), op_9⟩, ⟨(10, .lconst 1), op_10⟩, ⟨(148, .lcmp), op_148⟩, ⟨(84, .bastore), op_84⟩, ⟨(1, .aconst_null), op_1⟩, ⟨(191, .athrow), op_191⟩, ⟨(47, .laload), op_47⟩, ⟨(112, .irem), op_112⟩, ⟨(122, .ishr), op_122⟩, ⟨(173, .lreturn), op_173⟩, ⟨(129, .lor), op_129⟩, ⟨(128, .ior), op_128⟩, ⟨(145, .i2b), op_145⟩, ⟨(63, .lstore_n 0), op_63⟩, ⟨(64, .lstore_n 1), op_64⟩, ⟨(65, .lstore_n 2), op_65⟩, ⟨(66, .lstore_n 3), op_66⟩, ⟨(120, .ishl), op_120⟩, ⟨(87, .pop), op_87⟩, ⟨(121, .lshl), op_121⟩, ⟨(108, .idiv), op_108⟩, ⟨(92, .dup2), op_92⟩, ⟨(125, .lushr), op_125⟩, ⟨(127, .land), op_127⟩, ⟨(124, .iushr), op_124⟩, ⟨(136, .l2i), op_136⟩, ⟨(146, .i2c), op_146⟩, ⟨(90, .dup_x1), op_90⟩, ⟨(105, .lmul), op_105⟩, ⟨(97, .ladd), op_97⟩]
def t1 : List {q : Nat × (Nat → Instr) // S1 q} := [⟨(21, fun v => .iload v), op_21⟩, ⟨(54, fun v => .istore v), op_54⟩, ⟨(16, fun v => .bipush (Reader.signed 8 v)), op_16⟩, ⟨(25, fun v => .aload v), op_25⟩, ⟨(18, fun v => .ldc v), op_18⟩, ⟨(58, fun v => .astore v), op_58⟩, ⟨(22, fun v => .lload v), op_22⟩, ⟨(55, fun v => .lstore v), op_55⟩]
def tn : List {q : (Nat × Nat) × Instr // SN q} := [⟨((188, 10), .newarray .int), op_188_10⟩, ⟨((188, 8), .newarray .byte), op_188_8⟩, ⟨((188, 11), .newarray .long), op_188_11⟩, ⟨((188, 4), .newarray .boolean), op_188_4⟩]
def t2 : List {q : Nat × (Nat → Instr) // S2 q} := [⟨(180, fun v => .getfield v), op_180⟩, ⟨(182, fun v => .invokevirtual v), op_182⟩, ⟨(167, fun v => .goto (Reader.signed 16 v)), op_167⟩, ⟨(181, fun v => .putfield v), op_181⟩, ⟨(184, fun v => .invokestatic v), op_184⟩, ⟨(17, fun v => .sipush (Reader.signed 16 v)), op_17⟩, ⟨(183, fun v => .invokespecial v), op_183⟩, ⟨(187, fun v => .new v), op_187⟩, ⟨(198, fun v => .ifnull (Reader.signed 16 v)), op_198⟩, ⟨(19, fun v => .ldc_w v), op_19⟩, ⟨(199, fun v => .ifnonnull (Reader.signed 16 v)), op_199⟩, ⟨(189, fun v => .anewarray v), op_189⟩, ⟨(20, fun v => .ldc2_w v), op_20⟩, ⟨(178, fun v => .getstatic v), op_178⟩, ⟨(192, fun v => .checkcast v), op_192⟩, ⟨(165, fun v => .if_acmp .eq (Reader.signed 16 v)), op_165⟩, ⟨(166, fun v => .if_acmp .ne (Reader.signed 16 v)), op_166⟩, ⟨(153, fun v => .ifCond .eq (Reader.signed 16 v)), op_153⟩, ⟨(159, fun v => .if_icmp .eq (Reader.signed 16 v)), op_159⟩, ⟨(154, fun v => .ifCond .ne (Reader.signed 16 v)), op_154⟩, ⟨(160, fun v => .if_icmp .ne (Reader.signed 16 v)), op_160⟩, ⟨(155, fun v => .ifCond .lt (Reader.signed 16 v)), op_155⟩, ⟨(161, fun v => .if_icmp .lt (Reader.signed 16 v)), op_161⟩, ⟨(156, fun v => .ifCond .ge (Reader.signed 16 v)), op_156⟩, ⟨(162, fun v => .if_icmp .ge (Reader.signed 16 v)), op_162⟩, ⟨(157, fun v => .ifCond .gt (Reader.signed 16 v)), op_157⟩, ⟨(163, fun v => .if_icmp .gt (Reader.signed 16 v)), op_163⟩, ⟨(158, fun v => .ifCond .le (Reader.signed 16 v)), op_158⟩, ⟨(164, fun v => .if_icmp .le (Reader.signed 16 v)), op_164⟩]
/-- one instruction, at the head of what is left of the bytes -/
noncomputable def cek (b : ByteArray) (p : Nat) (l : List UInt8) (e : Instr × Nat) : Bool := (match l with
  | a :: r => (Nat.beq e.2 1 && t0.any (fun q => Nat.beq q.1.1 a.toNat && decide (q.1.2 = e.1))) || (match r with
    | v :: r2 => (Nat.beq e.2 2 && (t1.any (fun q => Nat.beq q.1.1 a.toNat && decide (q.1.2 v.toNat = e.1)) || tn.any (fun q => Nat.beq q.1.1.1 a.toNat && (Nat.beq q.1.1.2 v.toNat && decide (q.1.2 = e.1))))) || (match r2 with
      | w :: _ => Nat.beq e.2 3 && (t2.any (fun q => Nat.beq q.1.1 a.toNat && decide (q.1.2 (v.toNat * 256 + w.toNat) = e.1)) || (Nat.beq a.toNat 132 && decide (.iinc v.toNat (Reader.signed 8 w.toNat) = e.1)))
      | [] => false)
    | [] => false)
  | [] => false) || decide (decode b p = .ok e)
theorem cek_ok {b : ByteArray} {p : Nat} {l : List UInt8} {e : Instr × Nat} (hl : ∀ i v, l[i]? = some v → b.data.toList[p + i]? = some v) (h : cek b p l e = true) : decode b p = .ok e := by
  have hb : ∀ i v, l[i]? = some v → bt8 b (p + i) = some v.toNat := fun i v hv => by unfold bt8; rw [hl i v hv]; rfl
  unfold cek at h
  rcases Bool.or_eq_true_iff.mp h with h | h
  · obtain ⟨i9, n9⟩ := e
    cases l with
    | nil => cases h
    | cons a r =>
      have ba := hb 0 a rfl
      rcases Bool.or_eq_true_iff.mp h with h | h
      · obtain ⟨h1, h2⟩ := Bool.and_eq_true_iff.mp h
        obtain ⟨q, -, h3⟩ := List.any_eq_true.mp h2
        obtain ⟨h4, h5⟩ := Bool.and_eq_true_iff.mp h3
        have := q.2 b p (by rw [Nat.eq_of_beq_eq_true h4]; exact ba)
        rw [this, of_decide_eq_true h5, show n9 = 1 from Nat.eq_of_beq_eq_true h1]
      · cases r with
        | nil => cases h
        | cons v r2 =>
          have bv := hb 1 v rfl
          rcases Bool.or_eq_true_iff.mp h with h | h
          · obtain ⟨h1, h2⟩ := Bool.and_eq_true_iff.mp h
            rcases Bool.or_eq_true_iff.mp h2 with h2 | h2
            · obtain ⟨q, -, h3⟩ := List.any_eq_true.mp h2
              obtain ⟨h4, h5⟩ := Bool.and_eq_true_iff.mp h3
              have := q.2 b p v.toNat (by rw [Nat.eq_of_beq_eq_true h4]; exact ba) bv
              rw [this, of_decide_eq_true h5, show n9 = 2 from Nat.eq_of_beq_eq_true h1]
            · obtain ⟨q, -, h3⟩ := List.any_eq_true.mp h2
              obtain ⟨h4, h5⟩ := Bool.and_eq_true_iff.mp h3
              obtain ⟨h6, h7⟩ := Bool.and_eq_true_iff.mp h5
              have := q.2 b p (by rw [Nat.eq_of_beq_eq_true h4]; exact ba) (by rw [Nat.eq_of_beq_eq_true h6]; exact bv)
              rw [this, of_decide_eq_true h7, show n9 = 2 from Nat.eq_of_beq_eq_true h1]
          · cases r2 with
            | nil => cases h
            | cons w r3 =>
              have bw := hb 2 w rfl
              obtain ⟨h1, h2⟩ := Bool.and_eq_true_iff.mp h
              rcases Bool.or_eq_true_iff.mp h2 with h2 | h2
              · obtain ⟨q, -, h3⟩ := List.any_eq_true.mp h2
                obtain ⟨h4, h5⟩ := Bool.and_eq_true_iff.mp h3
                have := q.2 b p v.toNat w.toNat (by rw [Nat.eq_of_beq_eq_true h4]; exact ba) bv bw
                rw [this, of_decide_eq_true h5, show n9 = 3 from Nat.eq_of_beq_eq_true h1]
              · obtain ⟨h4, h5⟩ := Bool.and_eq_true_iff.mp h2
                have := op_132 b p v.toNat w.toNat (by rw [← Nat.eq_of_beq_eq_true h4]; exact ba) bv bw
                rw [this, of_decide_eq_true h5, show n9 = 3 from Nat.eq_of_beq_eq_true h1]
  · exact of_decide_eq_true h
noncomputable def rwk (b : ByteArray) : List UInt8 → Nat → List (Nat × Instr × Nat) → Bool
  | _, _, [] => true
  | l, p, e :: es => Nat.beq e.1 p && (cek b p l e.2 && rwk b (l.drop e.2.2) (p + e.2.2) es)
theorem rwk_ok {b : ByteArray} : ∀ (es : List (Nat × Instr × Nat)) (l : List UInt8) (p : Nat), (∀ i v, l[i]? = some v → b.data.toList[p + i]? = some v) → rwk b l p es = true → ∀ e ∈ es, decode b e.1 = .ok e.2
  | [], _, _, _, _, _, he => by cases he
  | e :: es, l, p, hl, h, x, hx => by
    obtain ⟨h1, h2⟩ := Bool.and_eq_true_iff.mp (show (Nat.beq e.1 p && (cek b p l e.2 && rwk b (l.drop e.2.2) (p + e.2.2) es)) = true from h)
    obtain ⟨h3, h4⟩ := Bool.and_eq_true_iff.mp h2
    rcases List.mem_cons.mp hx with w | w
    · subst w; rw [Nat.eq_of_beq_eq_true h1]; exact cek_ok hl h3
    · refine rwk_ok es (l.drop e.2.2) (p + e.2.2) (fun i v hv => ?_) h4 x w
      rw [List.getElem?_drop] at hv
      rw [Nat.add_assoc]; exact hl _ _ hv
theorem rws_ok {b : ByteArray} {row : List (Nat × Instr × Nat)} {p : Nat} (h : rwk b (b.data.toList.drop p) p row = true) : cz_chkR b row = true :=
  List.all_eq_true.mpr (fun e he => decide_eq_true (rwk_ok row _ p (fun i v hv => by rw [List.getElem?_drop] at hv; exact hv) h e he))
theorem cz_chkD_of {M : cz_M} (h : ∀ row ∈ M.2.2.1, cz_chkR M.2.1.1 row = true) : cz_chkD M = true := List.all_eq_true.mpr h
noncomputable def cz_chkK (M : cz_M) (pss : List (List Nat)) : Bool := decide (M.2.2.2.length = pss.length) && (M.2.2.2.zip pss).all (fun q => cz_chkL M q.1.1 q.1.2 q.2)
theorem cz_chkM_ok (hY : cz_allY) (hC : cz_allC2) (hS : cz_okY cz_asl) (hI : cz_okI0) {M : cz_M} {pss : List (List Nat)} (h1 : cz_chkD M = true) (h2 : cz_chkK M pss = true) : cz_okM M := by
  refine ⟨fun pc q hq => ?_, fun x q hq => ?_⟩
  · unfold cz_code at hq
    split at hq
    · rename_i row hrow
      have h3 := List.all_eq_true.mp h1 row (List.mem_of_getElem? hrow)
      obtain ⟨z, z1, z2⟩ := Option.map_eq_some_iff.mp hq
      have z3 := List.mem_of_find?_eq_some z1
      have z4 := List.find?_some z1
      have z5 := Nat.eq_of_beq_eq_true z4
      rw [← z2, ← z5]
      exact of_decide_eq_true (List.all_eq_true.mp h3 z z3)
    · cases hq
  · unfold cz_lk at hq
    obtain ⟨z, z1, z2⟩ := Option.map_eq_some_iff.mp hq
    have z3 := List.mem_of_find?_eq_some z1
    have z4 := List.find?_some z1
    have z5 := Nat.eq_of_beq_eq_true z4
    have hm : (x, q) ∈ M.2.2.2 := by rw [← z2, ← z5]; exact z3
    simp only [cz_chkK, Bool.and_eq_true, decide_eq_true_eq] at h2
    obtain ⟨i, hi⟩ := List.getElem?_of_mem hm
    have hlt : i < pss.length := by rw [← h2.1]; exact (List.getElem?_eq_some_iff.mp hi).1
    have h3 : ((x, q), pss[i]) ∈ M.2.2.2.zip pss := by
      refine List.mem_of_getElem? (i := i) ?_
      rw [List.getElem?_zip_eq_some]
      exact ⟨hi, List.getElem?_eq_getElem hlt⟩
    exact cz_chkL_ok hY hC hS hI (List.all_eq_true.mp h2.2 _ h3)

set_option maxRecDepth 100000 in
theorem cz_asl_ok : cz_okY cz_asl := cz_chkY_ok (a := 9008) (b := 1027) (by decide +kernel)
set_option maxRecDepth 100000 in
theorem cz_okI0_ok : cz_okI0 := ⟨cz_chkY_ok (a := 4058) (b := 1020) (by decide +kernel), cz_w_ok (n := 4057) (by decide +kernel), cz_w_ok (n := 4059) (by decide +kernel), cz_chkY_ok (a := 4063) (b := 1022) (by decide +kernel), cz_w_ok (n := 4061) (by decide +kernel), cz_w_ok (n := 4062) (by decide +kernel)⟩
set_option maxRecDepth 100000 in
theorem vC_0 : cz_okC 0 "TextAtlas" cT_0 16 := cz_chkC_ok (ps := [2192, 2194, 2196, 2198, 2200, 2202, 2204, 2206, 2208, 2210, 2212, 2214, 2216, 2218, 2220, 2222]) (a := 1036) (b := 1001) (by decide +kernel)
set_option maxRecDepth 100000 in
theorem vC_1 : cz_okC 1 "TextAtlas$Text" cT_1 2 := cz_chkC_ok (ps := [1063, 1065]) (a := 1046) (b := 1002) (by decide +kernel)
set_option maxRecDepth 100000 in
theorem vC_2 : cz_okC 2 "TextAtlas$Data" cT_2 8 := cz_chkC_ok (ps := [1215, 1217, 1219, 1221, 1223, 1225, 1227, 1229]) (a := 1071) (b := 1003) (by decide +kernel)
set_option maxRecDepth 100000 in
theorem vC_3 : cz_okC 3 "TextAtlas$Fact" cT_3 13 := cz_chkC_ok (ps := [1115, 1117, 1119, 1121, 1123, 1125, 1127, 1129, 1131, 1133, 1135, 1137, 1139]) (a := 1081) (b := 1004) (by decide +kernel)
set_option maxRecDepth 100000 in
theorem vC_4 : cz_okC 4 "TextAtlas$Span" cT_4 9 := cz_chkC_ok (ps := [1176, 1178, 1180, 1182, 1184, 1186, 1188, 1190, 1192]) (a := 1143) (b := 1005) (by decide +kernel)
set_option maxRecDepth 100000 in
theorem vC_5 : cz_okC 5 "TextAtlas$Reader" cT_5 6 := cz_chkC_ok (ps := [2004, 2006, 2008, 2010, 2012, 2014]) (a := 1233) (b := 1006) (by decide +kernel)
set_option maxRecDepth 100000 in
theorem vC_6 : cz_okC 6 "TextAtlas$Decompositions" cT_6 9 := cz_chkC_ok (ps := [2035, 2037, 2039, 2041, 2043, 2045, 2047, 2049, 2051]) (a := 2018) (b := 1007) (by decide +kernel)
set_option maxRecDepth 100000 in
theorem vC_7 : cz_okC 7 "TextAtlas$Forms" cT_7 5 := cz_chkC_ok (ps := [2065, 2067, 2069, 2071, 2073]) (a := 2055) (b := 1008) (by decide +kernel)
set_option maxRecDepth 100000 in
theorem vC_8 : cz_okC 8 "TextAtlas$Breaks" cT_8 7 := cz_chkC_ok (ps := [2089, 2091, 2093, 2095, 2097, 2099, 2101]) (a := 2077) (b := 1009) (by decide +kernel)
set_option maxRecDepth 100000 in
theorem vC_9 : cz_okC 9 "TextAtlas$Casing" cT_9 10 := cz_chkC_ok (ps := [2121, 2123, 2125, 2127, 2129, 2131, 2133, 2135, 2137, 2139]) (a := 2106) (b := 1010) (by decide +kernel)
set_option maxRecDepth 100000 in
theorem vC_10 : cz_okC 10 "TextAtlas$Collation" cT_10 8 := cz_chkC_ok (ps := [2159, 2161, 2163, 2165, 2167, 2169, 2171, 2173]) (a := 2143) (b := 1011) (by decide +kernel)
set_option maxRecDepth 100000 in
theorem vC_11 : cz_okC 11 "TextAtlasModel" cT_11 42 := cz_chkC_ok (ps := [7150, 7152, 7154, 7156, 7158, 7160, 7162, 7164, 7166, 7168, 7170, 7172, 7174, 7176, 7178, 7180, 7182, 7184, 7186, 7188, 7190, 7192, 7194, 7196, 7198, 7200, 7202, 7204, 7206, 7208, 7210, 7212, 7214, 7216, 7218, 7220, 7222, 7224, 7226, 7228, 7230, 7232]) (a := 7054) (b := 1012) (by decide +kernel)
set_option maxRecDepth 100000 in
theorem vC_12 : cz_okC 12 "TextAtlasModel$Line" cT_12 13 := cz_chkC_ok (ps := [8031, 8033, 8035, 8037, 8039, 8041, 8043, 8045, 8047, 8049, 8051, 8053, 8055]) (a := 8008) (b := 1026) (by decide +kernel)
set_option maxRecDepth 100000 in
theorem vC_13 : cz_okC 13 "TextAtlas$Special" cT_13 5 := cz_chkC_ok (ps := [4011, 4013, 4015, 4017, 4019]) (a := 3236) (b := 1019) (by decide +kernel)
set_option maxRecDepth 100000 in
theorem vC_14 : cz_okC 14 "TextAtlas$Entry" cT_14 2 := cz_chkC_ok (ps := [4155, 4157]) (a := 4145) (b := 1024) (by decide +kernel)
set_option maxRecDepth 100000 in
theorem vC_15 : cz_okC 15 "java/lang/String" cT_15 4 := cz_chkC_ok (ps := [9112, 9114, 9116, 9118]) (a := 8228) (b := 1020) (by decide +kernel)
set_option maxRecDepth 100000 in
theorem vC_16 : cz_okC 16 "java/lang/StringBuilder" cT_16 4 := cz_chkC_ok (ps := [8145, 8147, 8149, 8151]) (a := 8125) (b := 1028) (by decide +kernel)
theorem cz_allC_ok : cz_allC := by
  intro ci C T N h
  have hlt : ci < 17 := (List.getElem?_eq_some_iff.mp h).1
  have hs : ci = 0 ∨ ci = 1 ∨ ci = 2 ∨ ci = 3 ∨ ci = 4 ∨ ci = 5 ∨ ci = 6 ∨ ci = 7 ∨ ci = 8 ∨ ci = 9 ∨ ci = 10 ∨ ci = 11 ∨ ci = 12 ∨ ci = 13 ∨ ci = 14 ∨ ci = 15 ∨ ci = 16 := by omega
  rcases hs with rfl | rfl | rfl | rfl | rfl | rfl | rfl | rfl | rfl | rfl | rfl | rfl | rfl | rfl | rfl | rfl | rfl
  · cases h; exact vC_0
  · cases h; exact vC_1
  · cases h; exact vC_2
  · cases h; exact vC_3
  · cases h; exact vC_4
  · cases h; exact vC_5
  · cases h; exact vC_6
  · cases h; exact vC_7
  · cases h; exact vC_8
  · cases h; exact vC_9
  · cases h; exact vC_10
  · cases h; exact vC_11
  · cases h; exact vC_12
  · cases h; exact vC_13
  · cases h; exact vC_14
  · cases h; exact vC_15
  · cases h; exact vC_16
set_option maxRecDepth 100000 in
theorem vY_1 : cz_okY2 cm_1 := cz_okY2_of (k := 1) (i := 39) (b := 1001) (by with_unfolding_all exact rfl) rfl (by decide +kernel)
set_option maxRecDepth 100000 in
theorem vY_2 : cz_okY2 cm_2 := cz_okY2_of (k := 7) (i := 14) (b := 1001) (by with_unfolding_all exact rfl) rfl (by decide +kernel)
set_option maxRecDepth 100000 in
theorem vY_3 : cz_okY2 cm_3 := cz_okY2_of (k := 5) (i := 88) (b := 1001) (by with_unfolding_all exact rfl) rfl (by decide +kernel)
set_option maxRecDepth 100000 in
theorem vY_4 : cz_okY2 cm_4 := cz_okY2_of (k := 7) (i := 31) (b := 1001) (by with_unfolding_all exact rfl) rfl (by decide +kernel)
set_option maxRecDepth 100000 in
theorem vY_5 : cz_okY2 cm_5 := cz_okY2_of (k := 5) (i := 223) (b := 1001) (by with_unfolding_all exact rfl) rfl (by decide +kernel)
set_option maxRecDepth 100000 in
theorem vY_6 : cz_okY2 cm_6 := cz_okY2_of (k := 6) (i := 235) (b := 1001) (by with_unfolding_all exact rfl) rfl (by decide +kernel)
set_option maxRecDepth 100000 in
theorem vY_7 : cz_okY2 cm_7 := cz_okY2_of (k := 7) (i := 52) (b := 1001) (by with_unfolding_all exact rfl) rfl (by decide +kernel)
set_option maxRecDepth 100000 in
theorem vY_8 : cz_okY2 cm_8 := cz_okY2_of (k := 5) (i := 64) (b := 1001) (by with_unfolding_all exact rfl) rfl (by decide +kernel)
set_option maxRecDepth 100000 in
theorem vY_9 : cz_okY2 cm_9 := cz_okY2_of (k := 6) (i := 127) (b := 1001) (by with_unfolding_all exact rfl) rfl (by decide +kernel)
set_option maxRecDepth 100000 in
theorem vY_10 : cz_okY2 cm_10 := cz_okY2_of (k := 3) (i := 78) (b := 1001) (by with_unfolding_all exact rfl) rfl (by decide +kernel)
set_option maxRecDepth 100000 in
theorem vY_11 : cz_okY2 cm_11 := cz_okY2_of (k := 3) (i := 0) (b := 1001) (by with_unfolding_all exact rfl) rfl (by decide +kernel)
set_option maxRecDepth 100000 in
theorem vY_12 : cz_okY2 cm_12 := cz_okY2_of (k := 3) (i := 70) (b := 1001) (by with_unfolding_all exact rfl) rfl (by decide +kernel)
set_option maxRecDepth 100000 in
theorem vY_13 : cz_okY2 cm_13 := cz_okY2_of (k := 6) (i := 120) (b := 1001) (by with_unfolding_all exact rfl) rfl (by decide +kernel)
set_option maxRecDepth 100000 in
theorem vY_14 : cz_okY2 cm_14 := cz_okY2_of (k := 7) (i := 34) (b := 1001) (by with_unfolding_all exact rfl) rfl (by decide +kernel)
set_option maxRecDepth 100000 in
theorem vY_15 : cz_okY2 cm_15 := cz_okY2_of (k := 5) (i := 201) (b := 1001) (by with_unfolding_all exact rfl) rfl (by decide +kernel)
set_option maxRecDepth 100000 in
theorem vY_16 : cz_okY2 cm_16 := cz_okY2_of (k := 5) (i := 68) (b := 1001) (by with_unfolding_all exact rfl) rfl (by decide +kernel)
set_option maxRecDepth 100000 in
theorem vY_17 : cz_okY2 cm_17 := cz_okY2_of (k := 5) (i := 212) (b := 1001) (by with_unfolding_all exact rfl) rfl (by decide +kernel)
set_option maxRecDepth 100000 in
theorem vY_18 : cz_okY2 cm_18 := cz_okY2_of (k := 5) (i := 194) (b := 1001) (by with_unfolding_all exact rfl) rfl (by decide +kernel)
set_option maxRecDepth 100000 in
theorem vY_19 : cz_okY2 cm_19 := cz_okY2_of (k := 6) (i := 156) (b := 1001) (by with_unfolding_all exact rfl) rfl (by decide +kernel)
set_option maxRecDepth 100000 in
theorem vY_20 : cz_okY2 cm_20 := cz_okY2_of (k := 6) (i := 212) (b := 1001) (by with_unfolding_all exact rfl) rfl (by decide +kernel)
set_option maxRecDepth 100000 in
theorem vY_21 : cz_okY2 cm_21 := cz_okY2_of (k := 3) (i := 105) (b := 1001) (by with_unfolding_all exact rfl) rfl (by decide +kernel)
set_option maxRecDepth 100000 in
theorem vY_22 : cz_okY2 cm_22 := cz_okY2_of (k := 6) (i := 116) (b := 1001) (by with_unfolding_all exact rfl) rfl (by decide +kernel)
set_option maxRecDepth 100000 in
theorem vY_23 : cz_okY2 cm_23 := cz_okY2_of (k := 6) (i := 140) (b := 1001) (by with_unfolding_all exact rfl) rfl (by decide +kernel)
set_option maxRecDepth 100000 in
theorem vY_24 : cz_okY2 cm_24 := cz_okY2_of (k := 5) (i := 126) (b := 1001) (by with_unfolding_all exact rfl) rfl (by decide +kernel)
set_option maxRecDepth 100000 in
theorem vY_25 : cz_okY2 cm_25 := cz_okY2_of (k := 5) (i := 98) (b := 1001) (by with_unfolding_all exact rfl) rfl (by decide +kernel)
set_option maxRecDepth 100000 in
theorem vY_26 : cz_okY2 cm_26 := cz_okY2_of (k := 4) (i := 166) (b := 1001) (by with_unfolding_all exact rfl) rfl (by decide +kernel)
set_option maxRecDepth 100000 in
theorem vY_27 : cz_okY2 cm_27 := cz_okY2_of (k := 5) (i := 112) (b := 1001) (by with_unfolding_all exact rfl) rfl (by decide +kernel)
set_option maxRecDepth 100000 in
theorem vY_28 : cz_okY2 cm_28 := cz_okY2_of (k := 5) (i := 60) (b := 1001) (by with_unfolding_all exact rfl) rfl (by decide +kernel)
set_option maxRecDepth 100000 in
theorem vY_29 : cz_okY2 cm_29 := cz_okY2_of (k := 5) (i := 77) (b := 1001) (by with_unfolding_all exact rfl) rfl (by decide +kernel)
set_option maxRecDepth 100000 in
theorem vY_30 : cz_okY2 cm_30 := cz_okY2_of (k := 3) (i := 109) (b := 1001) (by with_unfolding_all exact rfl) rfl (by decide +kernel)
set_option maxRecDepth 100000 in
theorem vY_31 : cz_okY2 cm_31 := cz_okY2_of (k := 6) (i := 131) (b := 1001) (by with_unfolding_all exact rfl) rfl (by decide +kernel)
set_option maxRecDepth 100000 in
theorem vY_32 : cz_okY2 cm_32 := cz_okY2_of (k := 3) (i := 81) (b := 1001) (by with_unfolding_all exact rfl) rfl (by decide +kernel)
set_option maxRecDepth 100000 in
theorem vY_33 : cz_okY2 cm_33 := cz_okY2_of (k := 5) (i := 91) (b := 1001) (by with_unfolding_all exact rfl) rfl (by decide +kernel)
set_option maxRecDepth 100000 in
theorem vY_34 : cz_okY2 cm_34 := cz_okY2_of (k := 5) (i := 130) (b := 1001) (by with_unfolding_all exact rfl) rfl (by decide +kernel)
set_option maxRecDepth 100000 in
theorem vY_35 : cz_okY2 cm_35 := cz_okY2_of (k := 5) (i := 56) (b := 1001) (by with_unfolding_all exact rfl) rfl (by decide +kernel)
set_option maxRecDepth 100000 in
theorem vY_36 : cz_okY2 cm_36 := cz_okY2_of (k := 2) (i := 228) (b := 1001) (by with_unfolding_all exact rfl) rfl (by decide +kernel)
set_option maxRecDepth 100000 in
theorem vY_37 : cz_okY2 cm_37 := cz_okY2_of (k := 4) (i := 189) (b := 1001) (by with_unfolding_all exact rfl) rfl (by decide +kernel)
set_option maxRecDepth 100000 in
theorem vY_38 : cz_okY2 cm_38 := cz_okY2_of (k := 5) (i := 119) (b := 1001) (by with_unfolding_all exact rfl) rfl (by decide +kernel)
set_option maxRecDepth 100000 in
theorem vY_39 : cz_okY2 cm_39 := cz_okY2_of (k := 5) (i := 53) (b := 1001) (by with_unfolding_all exact rfl) rfl (by decide +kernel)
set_option maxRecDepth 100000 in
theorem vY_40 : cz_okY2 cm_40 := cz_okY2_of (k := 5) (i := 73) (b := 1001) (by with_unfolding_all exact rfl) rfl (by decide +kernel)
set_option maxRecDepth 100000 in
theorem vY_41 : cz_okY2 cm_41 := cz_okY2_of (k := 7) (i := 45) (b := 1001) (by with_unfolding_all exact rfl) rfl (by decide +kernel)
set_option maxRecDepth 100000 in
theorem vY_42 : cz_okY2 cm_42 := cz_okY2_of (k := 7) (i := 38) (b := 1001) (by with_unfolding_all exact rfl) rfl (by decide +kernel)
set_option maxRecDepth 100000 in
theorem vY_43 : cz_okY2 cm_43 := cz_okY2_of (k := 2) (i := 80) (b := 1009) (by with_unfolding_all exact rfl) rfl (by decide +kernel)
set_option maxRecDepth 100000 in
theorem vY_44 : cz_okY2 cm_44 := cz_okY2_of (k := 6) (i := 149) (b := 1009) (by with_unfolding_all exact rfl) rfl (by decide +kernel)
set_option maxRecDepth 100000 in
theorem vY_45 : cz_okY2 cm_45 := cz_okY2_of (k := 6) (i := 40) (b := 1009) (by with_unfolding_all exact rfl) rfl (by decide +kernel)
set_option maxRecDepth 100000 in
theorem vY_46 : cz_okY2 cm_46 := cz_okY2_of (k := 6) (i := 13) (b := 1009) (by with_unfolding_all exact rfl) rfl (by decide +kernel)
set_option maxRecDepth 100000 in
theorem vY_47 : cz_okY2 cm_47 := cz_okY2_of (k := 6) (i := 27) (b := 1009) (by with_unfolding_all exact rfl) rfl (by decide +kernel)
set_option maxRecDepth 100000 in
theorem vY_48 : cz_okY2 cm_48 := cz_okY2_of (k := 6) (i := 54) (b := 1009) (by with_unfolding_all exact rfl) rfl (by decide +kernel)
set_option maxRecDepth 100000 in
theorem vY_49 : cz_okY2 cm_49 := cz_okY2_of (k := 6) (i := 51) (b := 1009) (by with_unfolding_all exact rfl) rfl (by decide +kernel)
set_option maxRecDepth 100000 in
theorem vY_50 : cz_okY2 cm_50 := cz_okY2_of (k := 6) (i := 16) (b := 1009) (by with_unfolding_all exact rfl) rfl (by decide +kernel)
set_option maxRecDepth 100000 in
theorem vY_51 : cz_okY2 cm_51 := cz_okY2_of (k := 6) (i := 57) (b := 1009) (by with_unfolding_all exact rfl) rfl (by decide +kernel)
set_option maxRecDepth 100000 in
theorem vY_52 : cz_okY2 cm_52 := cz_okY2_of (k := 6) (i := 34) (b := 1009) (by with_unfolding_all exact rfl) rfl (by decide +kernel)
set_option maxRecDepth 100000 in
theorem vY_53 : cz_okY2 cm_53 := cz_okY2_of (k := 6) (i := 37) (b := 1009) (by with_unfolding_all exact rfl) rfl (by decide +kernel)
set_option maxRecDepth 100000 in
theorem vY_54 : cz_okY2 cm_54 := cz_okY2_of (k := 6) (i := 19) (b := 1009) (by with_unfolding_all exact rfl) rfl (by decide +kernel)
set_option maxRecDepth 100000 in
theorem vY_55 : cz_okY2 cm_55 := cz_okY2_of (k := 6) (i := 61) (b := 1009) (by with_unfolding_all exact rfl) rfl (by decide +kernel)
set_option maxRecDepth 100000 in
theorem vY_56 : cz_okY2 cm_56 := cz_okY2_of (k := 6) (i := 43) (b := 1009) (by with_unfolding_all exact rfl) rfl (by decide +kernel)
set_option maxRecDepth 100000 in
theorem vY_57 : cz_okY2 cm_57 := cz_okY2_of (k := 6) (i := 31) (b := 1009) (by with_unfolding_all exact rfl) rfl (by decide +kernel)
set_option maxRecDepth 100000 in
theorem vY_58 : cz_okY2 cm_58 := cz_okY2_of (k := 6) (i := 144) (b := 1009) (by with_unfolding_all exact rfl) rfl (by decide +kernel)
set_option maxRecDepth 100000 in
theorem vY_59 : cz_okY2 cm_59 := cz_okY2_of (k := 6) (i := 7) (b := 1009) (by with_unfolding_all exact rfl) rfl (by decide +kernel)
set_option maxRecDepth 100000 in
theorem vY_60 : cz_okY2 cm_60 := cz_okY2_of (k := 6) (i := 47) (b := 1009) (by with_unfolding_all exact rfl) rfl (by decide +kernel)
set_option maxRecDepth 100000 in
theorem vY_61 : cz_okY2 cm_61 := cz_okY2_of (k := 2) (i := 109) (b := 1010) (by with_unfolding_all exact rfl) rfl (by decide +kernel)
set_option maxRecDepth 100000 in
theorem vY_62 : cz_okY2 cm_62 := cz_okY2_of (k := 6) (i := 97) (b := 1010) (by with_unfolding_all exact rfl) rfl (by decide +kernel)
set_option maxRecDepth 100000 in
theorem vY_63 : cz_okY2 cm_63 := cz_okY2_of (k := 6) (i := 77) (b := 1010) (by with_unfolding_all exact rfl) rfl (by decide +kernel)
set_option maxRecDepth 100000 in
theorem vY_64 : cz_okY2 cm_64 := cz_okY2_of (k := 6) (i := 65) (b := 1010) (by with_unfolding_all exact rfl) rfl (by decide +kernel)
set_option maxRecDepth 100000 in
theorem vY_65 : cz_okY2 cm_65 := cz_okY2_of (k := 6) (i := 105) (b := 1010) (by with_unfolding_all exact rfl) rfl (by decide +kernel)
set_option maxRecDepth 100000 in
theorem vY_66 : cz_okY2 cm_66 := cz_okY2_of (k := 6) (i := 85) (b := 1010) (by with_unfolding_all exact rfl) rfl (by decide +kernel)
set_option maxRecDepth 100000 in
theorem vY_67 : cz_okY2 cm_67 := cz_okY2_of (k := 6) (i := 89) (b := 1010) (by with_unfolding_all exact rfl) rfl (by decide +kernel)
set_option maxRecDepth 100000 in
theorem vY_68 : cz_okY2 cm_68 := cz_okY2_of (k := 5) (i := 237) (b := 1010) (by with_unfolding_all exact rfl) rfl (by decide +kernel)
set_option maxRecDepth 100000 in
theorem vY_69 : cz_okY2 cm_69 := cz_okY2_of (k := 6) (i := 101) (b := 1010) (by with_unfolding_all exact rfl) rfl (by decide +kernel)
set_option maxRecDepth 100000 in
theorem vY_70 : cz_okY2 cm_70 := cz_okY2_of (k := 5) (i := 227) (b := 1010) (by with_unfolding_all exact rfl) rfl (by decide +kernel)
set_option maxRecDepth 100000 in
theorem vY_71 : cz_okY2 cm_71 := cz_okY2_of (k := 5) (i := 231) (b := 1010) (by with_unfolding_all exact rfl) rfl (by decide +kernel)
set_option maxRecDepth 100000 in
theorem vY_72 : cz_okY2 cm_72 := cz_okY2_of (k := 6) (i := 81) (b := 1010) (by with_unfolding_all exact rfl) rfl (by decide +kernel)
set_option maxRecDepth 100000 in
theorem vY_73 : cz_okY2 cm_73 := cz_okY2_of (k := 6) (i := 1) (b := 1010) (by with_unfolding_all exact rfl) rfl (by decide +kernel)
set_option maxRecDepth 100000 in
theorem vY_74 : cz_okY2 cm_74 := cz_okY2_of (k := 6) (i := 109) (b := 1010) (by with_unfolding_all exact rfl) rfl (by decide +kernel)
set_option maxRecDepth 100000 in
theorem vY_75 : cz_okY2 cm_75 := cz_okY2_of (k := 6) (i := 93) (b := 1010) (by with_unfolding_all exact rfl) rfl (by decide +kernel)
set_option maxRecDepth 100000 in
theorem vY_76 : cz_okY2 cm_76 := cz_okY2_of (k := 6) (i := 69) (b := 1010) (by with_unfolding_all exact rfl) rfl (by decide +kernel)
set_option maxRecDepth 100000 in
theorem vY_77 : cz_okY2 cm_77 := cz_okY2_of (k := 6) (i := 23) (b := 1010) (by with_unfolding_all exact rfl) rfl (by decide +kernel)
set_option maxRecDepth 100000 in
theorem vY_78 : cz_okY2 cm_78 := cz_okY2_of (k := 2) (i := 146) (b := 1011) (by with_unfolding_all exact rfl) rfl (by decide +kernel)
set_option maxRecDepth 100000 in
theorem vY_79 : cz_okY2 cm_79 := cz_okY2_of (k := 6) (i := 160) (b := 1011) (by with_unfolding_all exact rfl) rfl (by decide +kernel)
set_option maxRecDepth 100000 in
theorem vY_80 : cz_okY2 cm_80 := cz_okY2_of (k := 6) (i := 209) (b := 1011) (by with_unfolding_all exact rfl) rfl (by decide +kernel)
set_option maxRecDepth 100000 in
theorem vY_81 : cz_okY2 cm_81 := cz_okY2_of (k := 6) (i := 217) (b := 1011) (by with_unfolding_all exact rfl) rfl (by decide +kernel)
set_option maxRecDepth 100000 in
theorem vY_82 : cz_okY2 cm_82 := cz_okY2_of (k := 7) (i := 3) (b := 1011) (by with_unfolding_all exact rfl) rfl (by decide +kernel)
set_option maxRecDepth 100000 in
theorem vY_83 : cz_okY2 cm_83 := cz_okY2_of (k := 6) (i := 204) (b := 1011) (by with_unfolding_all exact rfl) rfl (by decide +kernel)
set_option maxRecDepth 100000 in
theorem vY_84 : cz_okY2 cm_84 := cz_okY2_of (k := 6) (i := 170) (b := 1011) (by with_unfolding_all exact rfl) rfl (by decide +kernel)
set_option maxRecDepth 100000 in
theorem vY_85 : cz_okY2 cm_85 := cz_okY2_of (k := 6) (i := 239) (b := 1011) (by with_unfolding_all exact rfl) rfl (by decide +kernel)
set_option maxRecDepth 100000 in
theorem vY_86 : cz_okY2 cm_86 := cz_okY2_of (k := 6) (i := 189) (b := 1011) (by with_unfolding_all exact rfl) rfl (by decide +kernel)
set_option maxRecDepth 100000 in
theorem vY_87 : cz_okY2 cm_87 := cz_okY2_of (k := 6) (i := 179) (b := 1011) (by with_unfolding_all exact rfl) rfl (by decide +kernel)
set_option maxRecDepth 100000 in
theorem vY_88 : cz_okY2 cm_88 := cz_okY2_of (k := 6) (i := 193) (b := 1011) (by with_unfolding_all exact rfl) rfl (by decide +kernel)
set_option maxRecDepth 100000 in
theorem vY_89 : cz_okY2 cm_89 := cz_okY2_of (k := 7) (i := 7) (b := 1011) (by with_unfolding_all exact rfl) rfl (by decide +kernel)
set_option maxRecDepth 100000 in
theorem vY_90 : cz_okY2 cm_90 := cz_okY2_of (k := 6) (i := 166) (b := 1011) (by with_unfolding_all exact rfl) rfl (by decide +kernel)
set_option maxRecDepth 100000 in
theorem vY_91 : cz_okY2 cm_91 := cz_okY2_of (k := 6) (i := 221) (b := 1011) (by with_unfolding_all exact rfl) rfl (by decide +kernel)
set_option maxRecDepth 100000 in
theorem vY_92 : cz_okY2 cm_92 := cz_okY2_of (k := 6) (i := 225) (b := 1011) (by with_unfolding_all exact rfl) rfl (by decide +kernel)
set_option maxRecDepth 100000 in
theorem vY_93 : cz_okY2 cm_93 := cz_okY2_of (k := 6) (i := 228) (b := 1011) (by with_unfolding_all exact rfl) rfl (by decide +kernel)
set_option maxRecDepth 100000 in
theorem vY_94 : cz_okY2 cm_94 := cz_okY2_of (k := 1) (i := 74) (b := 1003) (by with_unfolding_all exact rfl) rfl (by decide +kernel)
set_option maxRecDepth 100000 in
theorem vY_95 : cz_okY2 cm_95 := cz_okY2_of (k := 5) (i := 20) (b := 1003) (by with_unfolding_all exact rfl) rfl (by decide +kernel)
set_option maxRecDepth 100000 in
theorem vY_96 : cz_okY2 cm_96 := cz_okY2_of (k := 2) (i := 232) (b := 1003) (by with_unfolding_all exact rfl) rfl (by decide +kernel)
set_option maxRecDepth 100000 in
theorem vY_97 : cz_okY2 cm_97 := cz_okY2_of (k := 3) (i := 221) (b := 1003) (by with_unfolding_all exact rfl) rfl (by decide +kernel)
set_option maxRecDepth 100000 in
theorem vY_98 : cz_okY2 cm_98 := cz_okY2_of (k := 6) (i := 175) (b := 1003) (by with_unfolding_all exact rfl) rfl (by decide +kernel)
set_option maxRecDepth 100000 in
theorem vY_99 : cz_okY2 cm_99 := cz_okY2_of (k := 6) (i := 200) (b := 1003) (by with_unfolding_all exact rfl) rfl (by decide +kernel)
set_option maxRecDepth 100000 in
theorem vY_100 : cz_okY2 cm_100 := cz_okY2_of (k := 4) (i := 94) (b := 1003) (by with_unfolding_all exact rfl) rfl (by decide +kernel)
set_option maxRecDepth 100000 in
theorem vY_101 : cz_okY2 cm_101 := cz_okY2_of (k := 4) (i := 143) (b := 1003) (by with_unfolding_all exact rfl) rfl (by decide +kernel)
set_option maxRecDepth 100000 in
theorem vY_102 : cz_okY2 cm_102 := cz_okY2_of (k := 3) (i := 226) (b := 1003) (by with_unfolding_all exact rfl) rfl (by decide +kernel)
set_option maxRecDepth 100000 in
theorem vY_103 : cz_okY2 cm_103 := cz_okY2_of (k := 4) (i := 237) (b := 1003) (by with_unfolding_all exact rfl) rfl (by decide +kernel)
set_option maxRecDepth 100000 in
theorem vY_104 : cz_okY2 cm_104 := cz_okY2_of (k := 4) (i := 163) (b := 1003) (by with_unfolding_all exact rfl) rfl (by decide +kernel)
set_option maxRecDepth 100000 in
theorem vY_105 : cz_okY2 cm_105 := cz_okY2_of (k := 3) (i := 217) (b := 1003) (by with_unfolding_all exact rfl) rfl (by decide +kernel)
set_option maxRecDepth 100000 in
theorem vY_106 : cz_okY2 cm_106 := cz_okY2_of (k := 4) (i := 102) (b := 1003) (by with_unfolding_all exact rfl) rfl (by decide +kernel)
set_option maxRecDepth 100000 in
theorem vY_107 : cz_okY2 cm_107 := cz_okY2_of (k := 4) (i := 119) (b := 1003) (by with_unfolding_all exact rfl) rfl (by decide +kernel)
set_option maxRecDepth 100000 in
theorem vY_108 : cz_okY2 cm_108 := cz_okY2_of (k := 4) (i := 90) (b := 1003) (by with_unfolding_all exact rfl) rfl (by decide +kernel)
set_option maxRecDepth 100000 in
theorem vY_109 : cz_okY2 cm_109 := cz_okY2_of (k := 2) (i := 21) (b := 1007) (by with_unfolding_all exact rfl) rfl (by decide +kernel)
set_option maxRecDepth 100000 in
theorem vY_110 : cz_okY2 cm_110 := cz_okY2_of (k := 5) (i := 142) (b := 1007) (by with_unfolding_all exact rfl) rfl (by decide +kernel)
set_option maxRecDepth 100000 in
theorem vY_111 : cz_okY2 cm_111 := cz_okY2_of (k := 5) (i := 145) (b := 1007) (by with_unfolding_all exact rfl) rfl (by decide +kernel)
set_option maxRecDepth 100000 in
theorem vY_112 : cz_okY2 cm_112 := cz_okY2_of (k := 4) (i := 197) (b := 1007) (by with_unfolding_all exact rfl) rfl (by decide +kernel)
set_option maxRecDepth 100000 in
theorem vY_113 : cz_okY2 cm_113 := cz_okY2_of (k := 4) (i := 215) (b := 1007) (by with_unfolding_all exact rfl) rfl (by decide +kernel)
set_option maxRecDepth 100000 in
theorem vY_114 : cz_okY2 cm_114 := cz_okY2_of (k := 5) (i := 179) (b := 1007) (by with_unfolding_all exact rfl) rfl (by decide +kernel)
set_option maxRecDepth 100000 in
theorem vY_115 : cz_okY2 cm_115 := cz_okY2_of (k := 5) (i := 1) (b := 1007) (by with_unfolding_all exact rfl) rfl (by decide +kernel)
set_option maxRecDepth 100000 in
theorem vY_116 : cz_okY2 cm_116 := cz_okY2_of (k := 4) (i := 210) (b := 1007) (by with_unfolding_all exact rfl) rfl (by decide +kernel)
set_option maxRecDepth 100000 in
theorem vY_117 : cz_okY2 cm_117 := cz_okY2_of (k := 4) (i := 206) (b := 1007) (by with_unfolding_all exact rfl) rfl (by decide +kernel)
set_option maxRecDepth 100000 in
theorem vY_118 : cz_okY2 cm_118 := cz_okY2_of (k := 7) (i := 19) (b := 1007) (by with_unfolding_all exact rfl) rfl (by decide +kernel)
set_option maxRecDepth 100000 in
theorem vY_119 : cz_okY2 cm_119 := cz_okY2_of (k := 5) (i := 5) (b := 1007) (by with_unfolding_all exact rfl) rfl (by decide +kernel)
set_option maxRecDepth 100000 in
theorem vY_120 : cz_okY2 cm_120 := cz_okY2_of (k := 5) (i := 16) (b := 1007) (by with_unfolding_all exact rfl) rfl (by decide +kernel)
set_option maxRecDepth 100000 in
theorem vY_121 : cz_okY2 cm_121 := cz_okY2_of (k := 5) (i := 24) (b := 1007) (by with_unfolding_all exact rfl) rfl (by decide +kernel)
set_option maxRecDepth 100000 in
theorem vY_122 : cz_okY2 cm_122 := cz_okY2_of (k := 5) (i := 9) (b := 1007) (by with_unfolding_all exact rfl) rfl (by decide +kernel)
set_option maxRecDepth 100000 in
theorem vY_123 : cz_okY2 cm_123 := cz_okY2_of (k := 4) (i := 200) (b := 1007) (by with_unfolding_all exact rfl) rfl (by decide +kernel)
set_option maxRecDepth 100000 in
theorem vY_124 : cz_okY2 cm_124 := cz_okY2_of (k := 5) (i := 27) (b := 1007) (by with_unfolding_all exact rfl) rfl (by decide +kernel)
set_option maxRecDepth 100000 in
theorem vY_125 : cz_okY2 cm_125 := cz_okY2_of (k := 7) (i := 23) (b := 1007) (by with_unfolding_all exact rfl) rfl (by decide +kernel)
set_option maxRecDepth 100000 in
theorem vY_126 : cz_okY2 cm_126 := cz_okY2_of (k := 4) (i := 219) (b := 1007) (by with_unfolding_all exact rfl) rfl (by decide +kernel)
set_option maxRecDepth 100000 in
theorem vY_127 : cz_okY2 cm_127 := cz_okY2_of (k := 4) (i := 233) (b := 1007) (by with_unfolding_all exact rfl) rfl (by decide +kernel)
set_option maxRecDepth 100000 in
theorem vY_128 : cz_okY2 cm_128 := cz_okY2_of (k := 4) (i := 223) (b := 1007) (by with_unfolding_all exact rfl) rfl (by decide +kernel)
set_option maxRecDepth 100000 in
theorem vY_129 : cz_okY2 cm_129 := cz_okY2_of (k := 4) (i := 193) (b := 1007) (by with_unfolding_all exact rfl) rfl (by decide +kernel)
set_option maxRecDepth 100000 in
theorem vY_130 : cz_okY2 cm_130 := cz_okY2_of (k := 4) (i := 226) (b := 1007) (by with_unfolding_all exact rfl) rfl (by decide +kernel)
set_option maxRecDepth 100000 in
theorem vY_131 : cz_okY2 cm_131 := cz_okY2_of (k := 5) (i := 31) (b := 1007) (by with_unfolding_all exact rfl) rfl (by decide +kernel)
set_option maxRecDepth 100000 in
theorem vY_132 : cz_okY2 cm_132 := cz_okY2_of (k := 4) (i := 229) (b := 1007) (by with_unfolding_all exact rfl) rfl (by decide +kernel)
set_option maxRecDepth 100000 in
theorem vY_133 : cz_okY2 cm_133 := cz_okY2_of (k := 4) (i := 148) (b := 1024) (by with_unfolding_all exact rfl) rfl (by decide +kernel)
set_option maxRecDepth 100000 in
theorem vY_134 : cz_okY2 cm_134 := cz_okY2_of (k := 1) (i := 84) (b := 1004) (by with_unfolding_all exact rfl) rfl (by decide +kernel)
set_option maxRecDepth 100000 in
theorem vY_135 : cz_okY2 cm_135 := cz_okY2_of (k := 2) (i := 58) (b := 1008) (by with_unfolding_all exact rfl) rfl (by decide +kernel)
set_option maxRecDepth 100000 in
theorem vY_136 : cz_okY2 cm_136 := cz_okY2_of (k := 5) (i := 175) (b := 1008) (by with_unfolding_all exact rfl) rfl (by decide +kernel)
set_option maxRecDepth 100000 in
theorem vY_137 : cz_okY2 cm_137 := cz_okY2_of (k := 5) (i := 134) (b := 1008) (by with_unfolding_all exact rfl) rfl (by decide +kernel)
set_option maxRecDepth 100000 in
theorem vY_138 : cz_okY2 cm_138 := cz_okY2_of (k := 5) (i := 216) (b := 1008) (by with_unfolding_all exact rfl) rfl (by decide +kernel)
set_option maxRecDepth 100000 in
theorem vY_139 : cz_okY2 cm_139 := cz_okY2_of (k := 5) (i := 138) (b := 1008) (by with_unfolding_all exact rfl) rfl (by decide +kernel)
set_option maxRecDepth 100000 in
theorem vY_140 : cz_okY2 cm_140 := cz_okY2_of (k := 5) (i := 154) (b := 1008) (by with_unfolding_all exact rfl) rfl (by decide +kernel)
set_option maxRecDepth 100000 in
theorem vY_141 : cz_okY2 cm_141 := cz_okY2_of (k := 5) (i := 187) (b := 1008) (by with_unfolding_all exact rfl) rfl (by decide +kernel)
set_option maxRecDepth 100000 in
theorem vY_142 : cz_okY2 cm_142 := cz_okY2_of (k := 5) (i := 183) (b := 1008) (by with_unfolding_all exact rfl) rfl (by decide +kernel)
set_option maxRecDepth 100000 in
theorem vY_143 : cz_okY2 cm_143 := cz_okY2_of (k := 5) (i := 170) (b := 1008) (by with_unfolding_all exact rfl) rfl (by decide +kernel)
set_option maxRecDepth 100000 in
theorem vY_144 : cz_okY2 cm_144 := cz_okY2_of (k := 5) (i := 159) (b := 1008) (by with_unfolding_all exact rfl) rfl (by decide +kernel)
set_option maxRecDepth 100000 in
theorem vY_145 : cz_okY2 cm_145 := cz_okY2_of (k := 5) (i := 163) (b := 1008) (by with_unfolding_all exact rfl) rfl (by decide +kernel)
set_option maxRecDepth 100000 in
theorem vY_146 : cz_okY2 cm_146 := cz_okY2_of (k := 1) (i := 236) (b := 1006) (by with_unfolding_all exact rfl) rfl (by decide +kernel)
set_option maxRecDepth 100000 in
theorem vY_147 : cz_okY2 cm_147 := cz_okY2_of (k := 3) (i := 143) (b := 1006) (by with_unfolding_all exact rfl) rfl (by decide +kernel)
set_option maxRecDepth 100000 in
theorem vY_148 : cz_okY2 cm_148 := cz_okY2_of (k := 4) (i := 135) (b := 1006) (by with_unfolding_all exact rfl) rfl (by decide +kernel)
set_option maxRecDepth 100000 in
theorem vY_149 : cz_okY2 cm_149 := cz_okY2_of (k := 3) (i := 205) (b := 1006) (by with_unfolding_all exact rfl) rfl (by decide +kernel)
set_option maxRecDepth 100000 in
theorem vY_150 : cz_okY2 cm_150 := cz_okY2_of (k := 3) (i := 131) (b := 1006) (by with_unfolding_all exact rfl) rfl (by decide +kernel)
set_option maxRecDepth 100000 in
theorem vY_151 : cz_okY2 cm_151 := cz_okY2_of (k := 3) (i := 155) (b := 1006) (by with_unfolding_all exact rfl) rfl (by decide +kernel)
set_option maxRecDepth 100000 in
theorem vY_152 : cz_okY2 cm_152 := cz_okY2_of (k := 3) (i := 213) (b := 1006) (by with_unfolding_all exact rfl) rfl (by decide +kernel)
set_option maxRecDepth 100000 in
theorem vY_153 : cz_okY2 cm_153 := cz_okY2_of (k := 3) (i := 190) (b := 1006) (by with_unfolding_all exact rfl) rfl (by decide +kernel)
set_option maxRecDepth 100000 in
theorem vY_154 : cz_okY2 cm_154 := cz_okY2_of (k := 3) (i := 197) (b := 1006) (by with_unfolding_all exact rfl) rfl (by decide +kernel)
set_option maxRecDepth 100000 in
theorem vY_155 : cz_okY2 cm_155 := cz_okY2_of (k := 3) (i := 139) (b := 1006) (by with_unfolding_all exact rfl) rfl (by decide +kernel)
set_option maxRecDepth 100000 in
theorem vY_156 : cz_okY2 cm_156 := cz_okY2_of (k := 4) (i := 34) (b := 1006) (by with_unfolding_all exact rfl) rfl (by decide +kernel)
set_option maxRecDepth 100000 in
theorem vY_157 : cz_okY2 cm_157 := cz_okY2_of (k := 3) (i := 178) (b := 1006) (by with_unfolding_all exact rfl) rfl (by decide +kernel)
set_option maxRecDepth 100000 in
theorem vY_158 : cz_okY2 cm_158 := cz_okY2_of (k := 3) (i := 182) (b := 1006) (by with_unfolding_all exact rfl) rfl (by decide +kernel)
set_option maxRecDepth 100000 in
theorem vY_159 : cz_okY2 cm_159 := cz_okY2_of (k := 3) (i := 169) (b := 1006) (by with_unfolding_all exact rfl) rfl (by decide +kernel)
set_option maxRecDepth 100000 in
theorem vY_160 : cz_okY2 cm_160 := cz_okY2_of (k := 3) (i := 165) (b := 1006) (by with_unfolding_all exact rfl) rfl (by decide +kernel)
set_option maxRecDepth 100000 in
theorem vY_161 : cz_okY2 cm_161 := cz_okY2_of (k := 4) (i := 29) (b := 1006) (by with_unfolding_all exact rfl) rfl (by decide +kernel)
set_option maxRecDepth 100000 in
theorem vY_162 : cz_okY2 cm_162 := cz_okY2_of (k := 3) (i := 186) (b := 1006) (by with_unfolding_all exact rfl) rfl (by decide +kernel)
set_option maxRecDepth 100000 in
theorem vY_163 : cz_okY2 cm_163 := cz_okY2_of (k := 4) (i := 139) (b := 1006) (by with_unfolding_all exact rfl) rfl (by decide +kernel)
set_option maxRecDepth 100000 in
theorem vY_164 : cz_okY2 cm_164 := cz_okY2_of (k := 4) (i := 131) (b := 1006) (by with_unfolding_all exact rfl) rfl (by decide +kernel)
set_option maxRecDepth 100000 in
theorem vY_165 : cz_okY2 cm_165 := cz_okY2_of (k := 3) (i := 173) (b := 1006) (by with_unfolding_all exact rfl) rfl (by decide +kernel)
set_option maxRecDepth 100000 in
theorem vY_166 : cz_okY2 cm_166 := cz_okY2_of (k := 3) (i := 201) (b := 1006) (by with_unfolding_all exact rfl) rfl (by decide +kernel)
set_option maxRecDepth 100000 in
theorem vY_167 : cz_okY2 cm_167 := cz_okY2_of (k := 4) (i := 25) (b := 1006) (by with_unfolding_all exact rfl) rfl (by decide +kernel)
set_option maxRecDepth 100000 in
theorem vY_168 : cz_okY2 cm_168 := cz_okY2_of (k := 4) (i := 86) (b := 1006) (by with_unfolding_all exact rfl) rfl (by decide +kernel)
set_option maxRecDepth 100000 in
theorem vY_169 : cz_okY2 cm_169 := cz_okY2_of (k := 3) (i := 151) (b := 1006) (by with_unfolding_all exact rfl) rfl (by decide +kernel)
set_option maxRecDepth 100000 in
theorem vY_170 : cz_okY2 cm_170 := cz_okY2_of (k := 3) (i := 194) (b := 1006) (by with_unfolding_all exact rfl) rfl (by decide +kernel)
set_option maxRecDepth 100000 in
theorem vY_171 : cz_okY2 cm_171 := cz_okY2_of (k := 3) (i := 209) (b := 1006) (by with_unfolding_all exact rfl) rfl (by decide +kernel)
set_option maxRecDepth 100000 in
theorem vY_172 : cz_okY2 cm_172 := cz_okY2_of (k := 3) (i := 135) (b := 1006) (by with_unfolding_all exact rfl) rfl (by decide +kernel)
set_option maxRecDepth 100000 in
theorem vY_173 : cz_okY2 cm_173 := cz_okY2_of (k := 4) (i := 112) (b := 1006) (by with_unfolding_all exact rfl) rfl (by decide +kernel)
set_option maxRecDepth 100000 in
theorem vY_174 : cz_okY2 cm_174 := cz_okY2_of (k := 3) (i := 128) (b := 1006) (by with_unfolding_all exact rfl) rfl (by decide +kernel)
set_option maxRecDepth 100000 in
theorem vY_175 : cz_okY2 cm_175 := cz_okY2_of (k := 4) (i := 127) (b := 1006) (by with_unfolding_all exact rfl) rfl (by decide +kernel)
set_option maxRecDepth 100000 in
theorem vY_176 : cz_okY2 cm_176 := cz_okY2_of (k := 3) (i := 159) (b := 1006) (by with_unfolding_all exact rfl) rfl (by decide +kernel)
set_option maxRecDepth 100000 in
theorem vY_177 : cz_okY2 cm_177 := cz_okY2_of (k := 4) (i := 98) (b := 1006) (by with_unfolding_all exact rfl) rfl (by decide +kernel)
set_option maxRecDepth 100000 in
theorem vY_178 : cz_okY2 cm_178 := cz_okY2_of (k := 4) (i := 106) (b := 1006) (by with_unfolding_all exact rfl) rfl (by decide +kernel)
set_option maxRecDepth 100000 in
theorem vY_179 : cz_okY2 cm_179 := cz_okY2_of (k := 3) (i := 234) (b := 1006) (by with_unfolding_all exact rfl) rfl (by decide +kernel)
set_option maxRecDepth 100000 in
theorem vY_180 : cz_okY2 cm_180 := cz_okY2_of (k := 3) (i := 147) (b := 1006) (by with_unfolding_all exact rfl) rfl (by decide +kernel)
set_option maxRecDepth 100000 in
theorem vY_181 : cz_okY2 cm_181 := cz_okY2_of (k := 1) (i := 146) (b := 1005) (by with_unfolding_all exact rfl) rfl (by decide +kernel)
set_option maxRecDepth 100000 in
theorem vY_182 : cz_okY2 cm_182 := cz_okY2_of (k := 1) (i := 198) (b := 1005) (by with_unfolding_all exact rfl) rfl (by decide +kernel)
set_option maxRecDepth 100000 in
theorem vY_183 : cz_okY2 cm_183 := cz_okY2_of (k := 3) (i := 230) (b := 1005) (by with_unfolding_all exact rfl) rfl (by decide +kernel)
set_option maxRecDepth 100000 in
theorem vY_184 : cz_okY2 cm_184 := cz_okY2_of (k := 5) (i := 13) (b := 1005) (by with_unfolding_all exact rfl) rfl (by decide +kernel)
set_option maxRecDepth 100000 in
theorem vY_185 : cz_okY2 cm_185 := cz_okY2_of (k := 4) (i := 123) (b := 1005) (by with_unfolding_all exact rfl) rfl (by decide +kernel)
set_option maxRecDepth 100000 in
theorem vY_186 : cz_okY2 cm_186 := cz_okY2_of (k := 3) (i := 239) (b := 1019) (by with_unfolding_all exact rfl) rfl (by decide +kernel)
set_option maxRecDepth 100000 in
theorem vY_187 : cz_okY2 cm_187 := cz_okY2_of (k := 6) (i := 73) (b := 1019) (by with_unfolding_all exact rfl) rfl (by decide +kernel)
set_option maxRecDepth 100000 in
theorem vY_188 : cz_okY2 cm_188 := cz_okY2_of (k := 1) (i := 49) (b := 1002) (by with_unfolding_all exact rfl) rfl (by decide +kernel)
set_option maxRecDepth 100000 in
theorem vY_189 : cz_okY2 cm_189 := cz_okY2_of (k := 5) (i := 81) (b := 1002) (by with_unfolding_all exact rfl) rfl (by decide +kernel)
set_option maxRecDepth 100000 in
theorem vY_190 : cz_okY2 cm_190 := cz_okY2_of (k := 5) (i := 150) (b := 1002) (by with_unfolding_all exact rfl) rfl (by decide +kernel)
set_option maxRecDepth 100000 in
theorem vY_191 : cz_okY2 cm_191 := cz_okY2_of (k := 5) (i := 205) (b := 1002) (by with_unfolding_all exact rfl) rfl (by decide +kernel)
set_option maxRecDepth 100000 in
theorem vY_192 : cz_okY2 cm_192 := cz_okY2_of (k := 5) (i := 102) (b := 1002) (by with_unfolding_all exact rfl) rfl (by decide +kernel)
set_option maxRecDepth 100000 in
theorem vY_193 : cz_okY2 cm_193 := cz_okY2_oh (k := 7) (i := 10) (b := 1000) (by with_unfolding_all exact rfl) rfl (by decide +kernel)
set_option maxRecDepth 100000 in
theorem vY_194 : cz_okY2 cm_194 := cz_okY2_oh (k := 5) (i := 84) (b := 1000) (by with_unfolding_all exact rfl) rfl (by decide +kernel)
set_option maxRecDepth 100000 in
theorem vY_195 : cz_okY2 cm_195 := cz_okY2_oh (k := 7) (i := 27) (b := 1000) (by with_unfolding_all exact rfl) rfl (by decide +kernel)
set_option maxRecDepth 100000 in
theorem vY_196 : cz_okY2 cm_196 := cz_okY2_oh (k := 5) (i := 219) (b := 1000) (by with_unfolding_all exact rfl) rfl (by decide +kernel)
set_option maxRecDepth 100000 in
theorem vY_197 : cz_okY2 cm_197 := cz_okY2_oh (k := 6) (i := 231) (b := 1000) (by with_unfolding_all exact rfl) rfl (by decide +kernel)
set_option maxRecDepth 100000 in
theorem vY_198 : cz_okY2 cm_198 := cz_okY2_oh (k := 7) (i := 48) (b := 1000) (by with_unfolding_all exact rfl) rfl (by decide +kernel)
set_option maxRecDepth 100000 in
theorem vY_199 : cz_okY2 cm_199 := cz_okY2_oh (k := 6) (i := 123) (b := 1000) (by with_unfolding_all exact rfl) rfl (by decide +kernel)
set_option maxRecDepth 100000 in
theorem vY_200 : cz_okY2 cm_200 := cz_okY2_oh (k := 3) (i := 73) (b := 1000) (by with_unfolding_all exact rfl) rfl (by decide +kernel)
set_option maxRecDepth 100000 in
theorem vY_201 : cz_okY2 cm_201 := cz_okY2_oh (k := 2) (i := 235) (b := 1000) (by with_unfolding_all exact rfl) rfl (by decide +kernel)
set_option maxRecDepth 100000 in
theorem vY_202 : cz_okY2 cm_202 := cz_okY2_oh (k := 5) (i := 197) (b := 1000) (by with_unfolding_all exact rfl) rfl (by decide +kernel)
set_option maxRecDepth 100000 in
theorem vY_203 : cz_okY2 cm_203 := cz_okY2_oh (k := 5) (i := 208) (b := 1000) (by with_unfolding_all exact rfl) rfl (by decide +kernel)
set_option maxRecDepth 100000 in
theorem vY_204 : cz_okY2 cm_204 := cz_okY2_oh (k := 6) (i := 152) (b := 1000) (by with_unfolding_all exact rfl) rfl (by decide +kernel)
set_option maxRecDepth 100000 in
theorem vY_205 : cz_okY2 cm_205 := cz_okY2_oh (k := 3) (i := 99) (b := 1000) (by with_unfolding_all exact rfl) rfl (by decide +kernel)
set_option maxRecDepth 100000 in
theorem vY_206 : cz_okY2 cm_206 := cz_okY2_oh (k := 6) (i := 112) (b := 1000) (by with_unfolding_all exact rfl) rfl (by decide +kernel)
set_option maxRecDepth 100000 in
theorem vY_207 : cz_okY2 cm_207 := cz_okY2_oh (k := 6) (i := 136) (b := 1000) (by with_unfolding_all exact rfl) rfl (by decide +kernel)
set_option maxRecDepth 100000 in
theorem vY_208 : cz_okY2 cm_208 := cz_okY2_oh (k := 5) (i := 122) (b := 1000) (by with_unfolding_all exact rfl) rfl (by decide +kernel)
set_option maxRecDepth 100000 in
theorem vY_209 : cz_okY2 cm_209 := cz_okY2_oh (k := 5) (i := 94) (b := 1000) (by with_unfolding_all exact rfl) rfl (by decide +kernel)
set_option maxRecDepth 100000 in
theorem vY_210 : cz_okY2 cm_210 := cz_okY2_oh (k := 5) (i := 108) (b := 1000) (by with_unfolding_all exact rfl) rfl (by decide +kernel)
set_option maxRecDepth 100000 in
theorem vY_211 : cz_okY2 cm_211 := cz_okY2_oh (k := 4) (i := 184) (b := 1000) (by with_unfolding_all exact rfl) rfl (by decide +kernel)
set_option maxRecDepth 100000 in
theorem vY_212 : cz_okY2 cm_212 := cz_okY2_oh (k := 5) (i := 115) (b := 1000) (by with_unfolding_all exact rfl) rfl (by decide +kernel)
set_option maxRecDepth 100000 in
theorem vY_213 : cz_okY2 cm_213 := cz_okY2_oh (k := 5) (i := 49) (b := 1000) (by with_unfolding_all exact rfl) rfl (by decide +kernel)
set_option maxRecDepth 100000 in
theorem vY_214 : cz_okY2 cm_214 := cz_okY2_oh (k := 7) (i := 41) (b := 1000) (by with_unfolding_all exact rfl) rfl (by decide +kernel)
set_option maxRecDepth 100000 in
theorem vY_215 : cz_okY2 cm_215 := cz_okY2_of (k := 7) (i := 57) (b := 1012) (by with_unfolding_all exact rfl) rfl (by decide +kernel)
set_option maxRecDepth 100000 in
theorem vY_216 : cz_okY2 cm_216 := cz_okY2_of (k := 10) (i := 191) (b := 1012) (by with_unfolding_all exact rfl) rfl (by decide +kernel)
set_option maxRecDepth 100000 in
theorem vY_217 : cz_okY2 cm_217 := cz_okY2_of (k := 10) (i := 175) (b := 1012) (by with_unfolding_all exact rfl) rfl (by decide +kernel)
set_option maxRecDepth 100000 in
theorem vY_218 : cz_okY2 cm_218 := cz_okY2_of (k := 10) (i := 52) (b := 1012) (by with_unfolding_all exact rfl) rfl (by decide +kernel)
set_option maxRecDepth 100000 in
theorem vY_219 : cz_okY2 cm_219 := cz_okY2_of (k := 9) (i := 124) (b := 1012) (by with_unfolding_all exact rfl) rfl (by decide +kernel)
set_option maxRecDepth 100000 in
theorem vY_220 : cz_okY2 cm_220 := cz_okY2_of (k := 10) (i := 40) (b := 1012) (by with_unfolding_all exact rfl) rfl (by decide +kernel)
set_option maxRecDepth 100000 in
theorem vY_221 : cz_okY2 cm_221 := cz_okY2_of (k := 9) (i := 139) (b := 1012) (by with_unfolding_all exact rfl) rfl (by decide +kernel)
set_option maxRecDepth 100000 in
theorem vY_222 : cz_okY2 cm_222 := cz_okY2_of (k := 10) (i := 80) (b := 1012) (by with_unfolding_all exact rfl) rfl (by decide +kernel)
set_option maxRecDepth 100000 in
theorem vY_223 : cz_okY2 cm_223 := cz_okY2_of (k := 8) (i := 70) (b := 1012) (by with_unfolding_all exact rfl) rfl (by decide +kernel)
set_option maxRecDepth 100000 in
theorem vY_224 : cz_okY2 cm_224 := cz_okY2_of (k := 8) (i := 103) (b := 1012) (by with_unfolding_all exact rfl) rfl (by decide +kernel)
set_option maxRecDepth 100000 in
theorem vY_225 : cz_okY2 cm_225 := cz_okY2_of (k := 10) (i := 32) (b := 1012) (by with_unfolding_all exact rfl) rfl (by decide +kernel)
set_option maxRecDepth 100000 in
theorem vY_226 : cz_okY2 cm_226 := cz_okY2_of (k := 10) (i := 199) (b := 1012) (by with_unfolding_all exact rfl) rfl (by decide +kernel)
set_option maxRecDepth 100000 in
theorem vY_227 : cz_okY2 cm_227 := cz_okY2_of (k := 8) (i := 65) (b := 1012) (by with_unfolding_all exact rfl) rfl (by decide +kernel)
set_option maxRecDepth 100000 in
theorem vY_228 : cz_okY2 cm_228 := cz_okY2_of (k := 10) (i := 72) (b := 1012) (by with_unfolding_all exact rfl) rfl (by decide +kernel)
set_option maxRecDepth 100000 in
theorem vY_229 : cz_okY2 cm_229 := cz_okY2_of (k := 8) (i := 119) (b := 1012) (by with_unfolding_all exact rfl) rfl (by decide +kernel)
set_option maxRecDepth 100000 in
theorem vY_230 : cz_okY2 cm_230 := cz_okY2_of (k := 10) (i := 64) (b := 1012) (by with_unfolding_all exact rfl) rfl (by decide +kernel)
set_option maxRecDepth 100000 in
theorem vY_231 : cz_okY2 cm_231 := cz_okY2_of (k := 10) (i := 76) (b := 1012) (by with_unfolding_all exact rfl) rfl (by decide +kernel)
set_option maxRecDepth 100000 in
theorem vY_232 : cz_okY2 cm_232 := cz_okY2_oh (k := 10) (i := 8) (b := 1012) (by with_unfolding_all exact rfl) rfl (by decide +kernel)
set_option maxRecDepth 100000 in
theorem vY_233 : cz_okY2 cm_233 := cz_okY2_of (k := 10) (i := 20) (b := 1012) (by with_unfolding_all exact rfl) rfl (by decide +kernel)
set_option maxRecDepth 100000 in
theorem vY_234 : cz_okY2 cm_234 := cz_okY2_of (k := 8) (i := 86) (b := 1012) (by with_unfolding_all exact rfl) rfl (by decide +kernel)
set_option maxRecDepth 100000 in
theorem vY_235 : cz_okY2 cm_235 := cz_okY2_of (k := 8) (i := 82) (b := 1012) (by with_unfolding_all exact rfl) rfl (by decide +kernel)
set_option maxRecDepth 100000 in
theorem vY_236 : cz_okY2 cm_236 := cz_okY2_of (k := 9) (i := 144) (b := 1012) (by with_unfolding_all exact rfl) rfl (by decide +kernel)
set_option maxRecDepth 100000 in
theorem vY_237 : cz_okY2 cm_237 := cz_okY2_of (k := 9) (i := 156) (b := 1012) (by with_unfolding_all exact rfl) rfl (by decide +kernel)
set_option maxRecDepth 100000 in
theorem vY_238 : cz_okY2 cm_238 := cz_okY2_oh (k := 10) (i := 153) (b := 1012) (by with_unfolding_all exact rfl) rfl (by decide +kernel)
set_option maxRecDepth 100000 in
theorem vY_239 : cz_okY2 cm_239 := cz_okY2_of (k := 9) (i := 232) (b := 1012) (by with_unfolding_all exact rfl) rfl (by decide +kernel)
set_option maxRecDepth 100000 in
theorem vY_240 : cz_okY2 cm_240 := cz_okY2_of (k := 9) (i := 202) (b := 1012) (by with_unfolding_all exact rfl) rfl (by decide +kernel)
set_option maxRecDepth 100000 in
theorem vY_241 : cz_okY2 cm_241 := cz_okY2_of (k := 10) (i := 208) (b := 1012) (by with_unfolding_all exact rfl) rfl (by decide +kernel)
set_option maxRecDepth 100000 in
theorem vY_242 : cz_okY2 cm_242 := cz_okY2_of (k := 10) (i := 44) (b := 1012) (by with_unfolding_all exact rfl) rfl (by decide +kernel)
set_option maxRecDepth 100000 in
theorem vY_243 : cz_okY2 cm_243 := cz_okY2_of (k := 10) (i := 143) (b := 1012) (by with_unfolding_all exact rfl) rfl (by decide +kernel)
set_option maxRecDepth 100000 in
theorem vY_244 : cz_okY2 cm_244 := cz_okY2_of (k := 10) (i := 108) (b := 1012) (by with_unfolding_all exact rfl) rfl (by decide +kernel)
set_option maxRecDepth 100000 in
theorem vY_245 : cz_okY2 cm_245 := cz_okY2_of (k := 10) (i := 16) (b := 1012) (by with_unfolding_all exact rfl) rfl (by decide +kernel)
set_option maxRecDepth 100000 in
theorem vY_246 : cz_okY2 cm_246 := cz_okY2_of (k := 10) (i := 139) (b := 1012) (by with_unfolding_all exact rfl) rfl (by decide +kernel)
set_option maxRecDepth 100000 in
theorem vY_247 : cz_okY2 cm_247 := cz_okY2_of (k := 10) (i := 124) (b := 1012) (by with_unfolding_all exact rfl) rfl (by decide +kernel)
set_option maxRecDepth 100000 in
theorem vY_248 : cz_okY2 cm_248 := cz_okY2_of (k := 8) (i := 99) (b := 1012) (by with_unfolding_all exact rfl) rfl (by decide +kernel)
set_option maxRecDepth 100000 in
theorem vY_249 : cz_okY2 cm_249 := cz_okY2_of (k := 10) (i := 161) (b := 1012) (by with_unfolding_all exact rfl) rfl (by decide +kernel)
set_option maxRecDepth 100000 in
theorem vY_250 : cz_okY2 cm_250 := cz_okY2_of (k := 9) (i := 170) (b := 1012) (by with_unfolding_all exact rfl) rfl (by decide +kernel)
set_option maxRecDepth 100000 in
theorem vY_251 : cz_okY2 cm_251 := cz_okY2_of (k := 9) (i := 186) (b := 1012) (by with_unfolding_all exact rfl) rfl (by decide +kernel)
set_option maxRecDepth 100000 in
theorem vY_252 : cz_okY2 cm_252 := cz_okY2_of (k := 8) (i := 7) (b := 1012) (by with_unfolding_all exact rfl) rfl (by decide +kernel)
set_option maxRecDepth 100000 in
theorem vY_253 : cz_okY2 cm_253 := cz_okY2_of (k := 10) (i := 157) (b := 1012) (by with_unfolding_all exact rfl) rfl (by decide +kernel)
set_option maxRecDepth 100000 in
theorem vY_254 : cz_okY2 cm_254 := cz_okY2_of (k := 8) (i := 78) (b := 1012) (by with_unfolding_all exact rfl) rfl (by decide +kernel)
set_option maxRecDepth 100000 in
theorem vY_255 : cz_okY2 cm_255 := cz_okY2_of (k := 8) (i := 61) (b := 1012) (by with_unfolding_all exact rfl) rfl (by decide +kernel)
set_option maxRecDepth 100000 in
theorem vY_256 : cz_okY2 cm_256 := cz_okY2_of (k := 10) (i := 84) (b := 1012) (by with_unfolding_all exact rfl) rfl (by decide +kernel)
set_option maxRecDepth 100000 in
theorem vY_257 : cz_okY2 cm_257 := cz_okY2_of (k := 10) (i := 104) (b := 1012) (by with_unfolding_all exact rfl) rfl (by decide +kernel)
set_option maxRecDepth 100000 in
theorem vY_258 : cz_okY2 cm_258 := cz_okY2_of (k := 10) (i := 88) (b := 1012) (by with_unfolding_all exact rfl) rfl (by decide +kernel)
set_option maxRecDepth 100000 in
theorem vY_259 : cz_okY2 cm_259 := cz_okY2_of (k := 9) (i := 130) (b := 1012) (by with_unfolding_all exact rfl) rfl (by decide +kernel)
set_option maxRecDepth 100000 in
theorem vY_260 : cz_okY2 cm_260 := cz_okY2_of (k := 10) (i := 169) (b := 1012) (by with_unfolding_all exact rfl) rfl (by decide +kernel)
set_option maxRecDepth 100000 in
theorem vY_261 : cz_okY2 cm_261 := cz_okY2_of (k := 9) (i := 178) (b := 1012) (by with_unfolding_all exact rfl) rfl (by decide +kernel)
set_option maxRecDepth 100000 in
theorem vY_262 : cz_okY2 cm_262 := cz_okY2_of (k := 9) (i := 164) (b := 1012) (by with_unfolding_all exact rfl) rfl (by decide +kernel)
set_option maxRecDepth 100000 in
theorem vY_263 : cz_okY2 cm_263 := cz_okY2_of (k := 9) (i := 198) (b := 1012) (by with_unfolding_all exact rfl) rfl (by decide +kernel)
set_option maxRecDepth 100000 in
theorem vY_264 : cz_okY2 cm_264 := cz_okY2_of (k := 9) (i := 190) (b := 1012) (by with_unfolding_all exact rfl) rfl (by decide +kernel)
set_option maxRecDepth 100000 in
theorem vY_265 : cz_okY2 cm_265 := cz_okY2_of (k := 8) (i := 90) (b := 1012) (by with_unfolding_all exact rfl) rfl (by decide +kernel)
set_option maxRecDepth 100000 in
theorem vY_266 : cz_okY2 cm_266 := cz_okY2_of (k := 10) (i := 68) (b := 1012) (by with_unfolding_all exact rfl) rfl (by decide +kernel)
set_option maxRecDepth 100000 in
theorem vY_267 : cz_okY2 cm_267 := cz_okY2_of (k := 10) (i := 132) (b := 1012) (by with_unfolding_all exact rfl) rfl (by decide +kernel)
set_option maxRecDepth 100000 in
theorem vY_268 : cz_okY2 cm_268 := cz_okY2_oh (k := 10) (i := 0) (b := 1012) (by with_unfolding_all exact rfl) rfl (by decide +kernel)
set_option maxRecDepth 100000 in
theorem vY_269 : cz_okY2 cm_269 := cz_okY2_oh (k := 10) (i := 4) (b := 1012) (by with_unfolding_all exact rfl) rfl (by decide +kernel)
set_option maxRecDepth 100000 in
theorem vY_270 : cz_okY2 cm_270 := cz_okY2_of (k := 8) (i := 111) (b := 1012) (by with_unfolding_all exact rfl) rfl (by decide +kernel)
set_option maxRecDepth 100000 in
theorem vY_271 : cz_okY2 cm_271 := cz_okY2_of (k := 10) (i := 100) (b := 1012) (by with_unfolding_all exact rfl) rfl (by decide +kernel)
set_option maxRecDepth 100000 in
theorem vY_272 : cz_okY2 cm_272 := cz_okY2_oh (k := 10) (i := 116) (b := 1012) (by with_unfolding_all exact rfl) rfl (by decide +kernel)
set_option maxRecDepth 100000 in
theorem vY_273 : cz_okY2 cm_273 := cz_okY2_of (k := 10) (i := 120) (b := 1012) (by with_unfolding_all exact rfl) rfl (by decide +kernel)
set_option maxRecDepth 100000 in
theorem vY_274 : cz_okY2 cm_274 := cz_okY2_of (k := 10) (i := 24) (b := 1012) (by with_unfolding_all exact rfl) rfl (by decide +kernel)
set_option maxRecDepth 100000 in
theorem vY_275 : cz_okY2 cm_275 := cz_okY2_of (k := 10) (i := 56) (b := 1012) (by with_unfolding_all exact rfl) rfl (by decide +kernel)
set_option maxRecDepth 100000 in
theorem vY_276 : cz_okY2 cm_276 := cz_okY2_oh (k := 8) (i := 2) (b := 1012) (by with_unfolding_all exact rfl) rfl (by decide +kernel)
set_option maxRecDepth 100000 in
theorem vY_277 : cz_okY2 cm_277 := cz_okY2_of (k := 10) (i := 128) (b := 1012) (by with_unfolding_all exact rfl) rfl (by decide +kernel)
set_option maxRecDepth 100000 in
theorem vY_278 : cz_okY2 cm_278 := cz_okY2_of (k := 9) (i := 223) (b := 1012) (by with_unfolding_all exact rfl) rfl (by decide +kernel)
set_option maxRecDepth 100000 in
theorem vY_279 : cz_okY2 cm_279 := cz_okY2_oh (k := 10) (i := 92) (b := 1012) (by with_unfolding_all exact rfl) rfl (by decide +kernel)
set_option maxRecDepth 100000 in
theorem vY_280 : cz_okY2 cm_280 := cz_okY2_of (k := 10) (i := 96) (b := 1012) (by with_unfolding_all exact rfl) rfl (by decide +kernel)
set_option maxRecDepth 100000 in
theorem vY_281 : cz_okY2 cm_281 := cz_okY2_of (k := 10) (i := 112) (b := 1012) (by with_unfolding_all exact rfl) rfl (by decide +kernel)
set_option maxRecDepth 100000 in
theorem vY_282 : cz_okY2 cm_282 := cz_okY2_oh (k := 9) (i := 210) (b := 1012) (by with_unfolding_all exact rfl) rfl (by decide +kernel)
set_option maxRecDepth 100000 in
theorem vY_283 : cz_okY2 cm_283 := cz_okY2_of (k := 9) (i := 219) (b := 1012) (by with_unfolding_all exact rfl) rfl (by decide +kernel)
set_option maxRecDepth 100000 in
theorem vY_284 : cz_okY2 cm_284 := cz_okY2_of (k := 8) (i := 115) (b := 1012) (by with_unfolding_all exact rfl) rfl (by decide +kernel)
set_option maxRecDepth 100000 in
theorem vY_285 : cz_okY2 cm_285 := cz_okY2_of (k := 9) (i := 228) (b := 1012) (by with_unfolding_all exact rfl) rfl (by decide +kernel)
set_option maxRecDepth 100000 in
theorem vY_286 : cz_okY2 cm_286 := cz_okY2_of (k := 9) (i := 215) (b := 1012) (by with_unfolding_all exact rfl) rfl (by decide +kernel)
set_option maxRecDepth 100000 in
theorem vY_287 : cz_okY2 cm_287 := cz_okY2_of (k := 10) (i := 179) (b := 1012) (by with_unfolding_all exact rfl) rfl (by decide +kernel)
set_option maxRecDepth 100000 in
theorem vY_288 : cz_okY2 cm_288 := cz_okY2_of (k := 10) (i := 36) (b := 1012) (by with_unfolding_all exact rfl) rfl (by decide +kernel)
set_option maxRecDepth 100000 in
theorem vY_289 : cz_okY2 cm_289 := cz_okY2_of (k := 8) (i := 94) (b := 1012) (by with_unfolding_all exact rfl) rfl (by decide +kernel)
set_option maxRecDepth 100000 in
theorem vY_290 : cz_okY2 cm_290 := cz_okY2_of (k := 10) (i := 183) (b := 1012) (by with_unfolding_all exact rfl) rfl (by decide +kernel)
set_option maxRecDepth 100000 in
theorem vY_291 : cz_okY2 cm_291 := cz_okY2_of (k := 8) (i := 74) (b := 1012) (by with_unfolding_all exact rfl) rfl (by decide +kernel)
set_option maxRecDepth 100000 in
theorem vY_292 : cz_okY2 cm_292 := cz_okY2_of (k := 9) (i := 134) (b := 1012) (by with_unfolding_all exact rfl) rfl (by decide +kernel)
set_option maxRecDepth 100000 in
theorem vY_293 : cz_okY2 cm_293 := cz_okY2_of (k := 9) (i := 182) (b := 1012) (by with_unfolding_all exact rfl) rfl (by decide +kernel)
set_option maxRecDepth 100000 in
theorem vY_294 : cz_okY2 cm_294 := cz_okY2_of (k := 10) (i := 60) (b := 1012) (by with_unfolding_all exact rfl) rfl (by decide +kernel)
set_option maxRecDepth 100000 in
theorem vY_295 : cz_okY2 cm_295 := cz_okY2_of (k := 9) (i := 194) (b := 1012) (by with_unfolding_all exact rfl) rfl (by decide +kernel)
set_option maxRecDepth 100000 in
theorem vY_296 : cz_okY2 cm_296 := cz_okY2_of (k := 9) (i := 206) (b := 1012) (by with_unfolding_all exact rfl) rfl (by decide +kernel)
set_option maxRecDepth 100000 in
theorem vY_297 : cz_okY2 cm_297 := cz_okY2_of (k := 8) (i := 107) (b := 1012) (by with_unfolding_all exact rfl) rfl (by decide +kernel)
set_option maxRecDepth 100000 in
theorem vY_298 : cz_okY2 cm_298 := cz_okY2_of (k := 9) (i := 148) (b := 1012) (by with_unfolding_all exact rfl) rfl (by decide +kernel)
set_option maxRecDepth 100000 in
theorem vY_299 : cz_okY2 cm_299 := cz_okY2_of (k := 10) (i := 195) (b := 1012) (by with_unfolding_all exact rfl) rfl (by decide +kernel)
set_option maxRecDepth 100000 in
theorem vY_300 : cz_okY2 cm_300 := cz_okY2_of (k := 10) (i := 187) (b := 1012) (by with_unfolding_all exact rfl) rfl (by decide +kernel)
set_option maxRecDepth 100000 in
theorem vY_301 : cz_okY2 cm_301 := cz_okY2_of (k := 9) (i := 152) (b := 1012) (by with_unfolding_all exact rfl) rfl (by decide +kernel)
set_option maxRecDepth 100000 in
theorem vY_302 : cz_okY2 cm_302 := cz_okY2_of (k := 9) (i := 236) (b := 1012) (by with_unfolding_all exact rfl) rfl (by decide +kernel)
set_option maxRecDepth 100000 in
theorem vY_303 : cz_okY2 cm_303 := cz_okY2_of (k := 10) (i := 165) (b := 1012) (by with_unfolding_all exact rfl) rfl (by decide +kernel)
set_option maxRecDepth 100000 in
theorem vY_304 : cz_okY2 cm_304 := cz_okY2_of (k := 7) (i := 238) (b := 1012) (by with_unfolding_all exact rfl) rfl (by decide +kernel)
set_option maxRecDepth 100000 in
theorem vY_305 : cz_okY2 cm_305 := cz_okY2_of (k := 10) (i := 12) (b := 1012) (by with_unfolding_all exact rfl) rfl (by decide +kernel)
set_option maxRecDepth 100000 in
theorem vY_306 : cz_okY2 cm_306 := cz_okY2_of (k := 9) (i := 160) (b := 1012) (by with_unfolding_all exact rfl) rfl (by decide +kernel)
set_option maxRecDepth 100000 in
theorem vY_307 : cz_okY2 cm_307 := cz_okY2_of (k := 10) (i := 149) (b := 1012) (by with_unfolding_all exact rfl) rfl (by decide +kernel)
set_option maxRecDepth 100000 in
theorem vY_308 : cz_okY2 cm_308 := cz_okY2_of (k := 9) (i := 174) (b := 1012) (by with_unfolding_all exact rfl) rfl (by decide +kernel)
set_option maxRecDepth 100000 in
theorem vY_309 : cz_okY2 cm_309 := cz_okY2_of (k := 8) (i := 123) (b := 1012) (by with_unfolding_all exact rfl) rfl (by decide +kernel)
set_option maxRecDepth 100000 in
theorem vY_310 : cz_okY2 cm_310 := cz_okY2_of (k := 10) (i := 203) (b := 1012) (by with_unfolding_all exact rfl) rfl (by decide +kernel)
set_option maxRecDepth 100000 in
theorem vY_311 : cz_okY2 cm_311 := cz_okY2_of (k := 10) (i := 28) (b := 1012) (by with_unfolding_all exact rfl) rfl (by decide +kernel)
set_option maxRecDepth 100000 in
theorem vY_312 : cz_okY2 cm_312 := cz_okY2_of (k := 10) (i := 48) (b := 1012) (by with_unfolding_all exact rfl) rfl (by decide +kernel)
set_option maxRecDepth 100000 in
theorem vY_313 : cz_okY2 cm_313 := cz_okY2_of (k := 8) (i := 11) (b := 1026) (by with_unfolding_all exact rfl) rfl (by decide +kernel)
set_option maxRecDepth 100000 in
theorem vY_314 : cz_okY2 cm_314 := cz_okY2_of (k := 8) (i := 131) (b := 1027) (by with_unfolding_all exact rfl) rfl (by decide +kernel)
set_option maxRecDepth 100000 in
theorem vY_315 : cz_okY2 cm_315 := cz_okY2_of (k := 8) (i := 160) (b := 1027) (by with_unfolding_all exact rfl) rfl (by decide +kernel)
set_option maxRecDepth 100000 in
theorem vY_316 : cz_okY2 cm_316 := cz_okY2_of (k := 8) (i := 164) (b := 1027) (by with_unfolding_all exact rfl) rfl (by decide +kernel)
set_option maxRecDepth 100000 in
theorem vY_317 : cz_okY2 cm_317 := cz_okY2_of (k := 9) (i := 0) (b := 1027) (by with_unfolding_all exact rfl) rfl (by decide +kernel)
set_option maxRecDepth 100000 in
theorem vY_318 : cz_okY2 cm_318 := cz_okY2_of (k := 8) (i := 194) (b := 1027) (by with_unfolding_all exact rfl) rfl (by decide +kernel)
set_option maxRecDepth 100000 in
theorem vY_319 : cz_okY2 cm_319 := cz_okY2_of (k := 9) (i := 8) (b := 1027) (by with_unfolding_all exact rfl) rfl (by decide +kernel)
set_option maxRecDepth 100000 in
theorem vY_320 : cz_okY2 cm_320 := cz_okY2_of (k := 8) (i := 168) (b := 1027) (by with_unfolding_all exact rfl) rfl (by decide +kernel)
set_option maxRecDepth 100000 in
theorem vY_321 : cz_okY2 cm_321 := cz_okY2_of (k := 5) (i := 190) (b := 1030) (by with_unfolding_all exact rfl) rfl (by decide +kernel)
set_option maxRecDepth 100000 in
theorem vY_322 : cz_okY2 cm_322 := cz_okY2_of (k := 5) (i := 166) (b := 1030) (by with_unfolding_all exact rfl) rfl (by decide +kernel)
set_option maxRecDepth 100000 in
theorem vY_323 : cz_okY2 cm_323 := cz_okY2_of (k := 8) (i := 234) (b := 1020) (by with_unfolding_all exact rfl) rfl (by decide +kernel)
set_option maxRecDepth 100000 in
theorem vY_324 : cz_okY2 cm_324 := cz_okY2_of (k := 8) (i := 231) (b := 1020) (by with_unfolding_all exact rfl) rfl (by decide +kernel)
set_option maxRecDepth 100000 in
theorem vY_325 : cz_okY2 cm_325 := cz_okY2_of (k := 4) (i := 48) (b := 1020) (by with_unfolding_all exact rfl) rfl (by decide +kernel)
set_option maxRecDepth 100000 in
theorem vY_326 : cz_okY2 cm_326 := cz_okY2_of (k := 4) (i := 42) (b := 1020) (by with_unfolding_all exact rfl) rfl (by decide +kernel)
set_option maxRecDepth 100000 in
theorem vY_327 : cz_okY2 cm_327 := cz_okY2_of (k := 4) (i := 52) (b := 1020) (by with_unfolding_all exact rfl) rfl (by decide +kernel)
set_option maxRecDepth 100000 in
theorem vY_328 : cz_okY2 cm_328 := cz_okY2_of (k := 4) (i := 38) (b := 1020) (by with_unfolding_all exact rfl) rfl (by decide +kernel)
set_option maxRecDepth 100000 in
theorem vY_329 : cz_okY2 cm_329 := cz_okY2_of (k := 8) (i := 128) (b := 1028) (by with_unfolding_all exact rfl) rfl (by decide +kernel)
set_option maxRecDepth 100000 in
theorem vY_330 : cz_okY2 cm_330 := cz_okY2_of (k := 8) (i := 157) (b := 1028) (by with_unfolding_all exact rfl) rfl (by decide +kernel)
set_option maxRecDepth 100000 in
theorem vY_331 : cz_okY2 cm_331 := cz_okY2_of (k := 9) (i := 6) (b := 1028) (by with_unfolding_all exact rfl) rfl (by decide +kernel)
set_option maxRecDepth 100000 in
theorem vY_332 : cz_okY2 cm_332 := cz_okY2_of (k := 8) (i := 226) (b := 1028) (by with_unfolding_all exact rfl) rfl (by decide +kernel)
set_option maxRecDepth 100000 in
theorem vY_333 : cz_okY2 cm_333 := cz_okY2_of (k := 8) (i := 197) (b := 1021) (by with_unfolding_all exact rfl) rfl (by decide +kernel)
set_option maxRecDepth 100000 in
theorem vY_334 : cz_okY2 cm_334 := cz_okY2_of (k := 4) (i := 55) (b := 1021) (by with_unfolding_all exact rfl) rfl (by decide +kernel)
set_option maxRecDepth 100000 in
theorem vY_335 : cz_okY2 cm_335 := cz_okY2_of (k := 9) (i := 18) (b := 1031) (by with_unfolding_all exact rfl) rfl (by decide +kernel)
set_option maxRecDepth 100000 in
theorem vY_336 : cz_okY2 cm_336 := cz_okY2_of (k := 8) (i := 180) (b := 1031) (by with_unfolding_all exact rfl) rfl (by decide +kernel)
set_option maxRecDepth 100000 in
theorem vY_337 : cz_okY2 cm_337 := cz_okY2_of (k := 9) (i := 12) (b := 1031) (by with_unfolding_all exact rfl) rfl (by decide +kernel)
set_option maxRecDepth 100000 in
theorem vY_338 : cz_okY2 cm_338 := cz_okY2_of (k := 9) (i := 15) (b := 1031) (by with_unfolding_all exact rfl) rfl (by decide +kernel)
set_option maxRecDepth 100000 in
theorem vY_339 : cz_okY2 cm_339 := cz_okY2_of (k := 8) (i := 171) (b := 1029) (by with_unfolding_all exact rfl) rfl (by decide +kernel)
set_option maxRecDepth 100000 in
theorem cz_ms_1 : ∀ (k : Nat) (M : cz_M), (cz_ms.drop 1)[k]? = some M → cz_okY2 M := by
  intro k M h
  have hm : M ∈ cz_ms.drop 1 := List.mem_of_getElem? h
  have hall : ∀ M ∈ cz_ms.drop 1, cz_okY2 M := by
    show ∀ M ∈ [cm_1, cm_2, cm_3, cm_4, cm_5, cm_6, cm_7, cm_8, cm_9, cm_10, cm_11, cm_12, cm_13, cm_14, cm_15, cm_16, cm_17, cm_18, cm_19, cm_20, cm_21, cm_22, cm_23, cm_24, cm_25, cm_26, cm_27, cm_28, cm_29, cm_30, cm_31, cm_32, cm_33, cm_34, cm_35, cm_36, cm_37, cm_38, cm_39, cm_40, cm_41, cm_42, cm_43, cm_44, cm_45, cm_46, cm_47, cm_48, cm_49, cm_50, cm_51, cm_52, cm_53, cm_54, cm_55, cm_56, cm_57, cm_58, cm_59, cm_60, cm_61, cm_62, cm_63, cm_64, cm_65, cm_66, cm_67, cm_68, cm_69, cm_70, cm_71, cm_72, cm_73, cm_74, cm_75, cm_76, cm_77, cm_78, cm_79, cm_80, cm_81, cm_82, cm_83, cm_84, cm_85, cm_86, cm_87, cm_88, cm_89, cm_90, cm_91, cm_92, cm_93, cm_94, cm_95, cm_96, cm_97, cm_98, cm_99, cm_100, cm_101, cm_102, cm_103, cm_104, cm_105, cm_106, cm_107, cm_108, cm_109, cm_110, cm_111, cm_112, cm_113, cm_114, cm_115, cm_116, cm_117, cm_118, cm_119, cm_120, cm_121, cm_122, cm_123, cm_124, cm_125, cm_126, cm_127, cm_128, cm_129, cm_130, cm_131, cm_132, cm_133, cm_134, cm_135, cm_136, cm_137, cm_138, cm_139, cm_140, cm_141, cm_142, cm_143, cm_144, cm_145, cm_146, cm_147, cm_148, cm_149, cm_150, cm_151, cm_152, cm_153, cm_154, cm_155, cm_156, cm_157, cm_158, cm_159, cm_160, cm_161, cm_162, cm_163, cm_164, cm_165, cm_166, cm_167, cm_168, cm_169, cm_170, cm_171, cm_172, cm_173, cm_174, cm_175, cm_176, cm_177, cm_178, cm_179, cm_180, cm_181, cm_182, cm_183, cm_184, cm_185, cm_186, cm_187, cm_188, cm_189, cm_190, cm_191, cm_192, cm_193, cm_194, cm_195, cm_196, cm_197, cm_198, cm_199, cm_200, cm_201, cm_202, cm_203, cm_204, cm_205, cm_206, cm_207, cm_208, cm_209, cm_210, cm_211, cm_212, cm_213, cm_214, cm_215, cm_216, cm_217, cm_218, cm_219, cm_220, cm_221, cm_222, cm_223, cm_224, cm_225, cm_226, cm_227, cm_228, cm_229, cm_230, cm_231, cm_232, cm_233, cm_234, cm_235, cm_236, cm_237, cm_238, cm_239, cm_240, cm_241, cm_242, cm_243, cm_244, cm_245, cm_246, cm_247, cm_248, cm_249, cm_250, cm_251, cm_252, cm_253, cm_254, cm_255, cm_256, cm_257, cm_258, cm_259, cm_260, cm_261, cm_262, cm_263, cm_264, cm_265, cm_266, cm_267, cm_268, cm_269, cm_270, cm_271, cm_272, cm_273, cm_274, cm_275, cm_276, cm_277, cm_278, cm_279, cm_280, cm_281, cm_282, cm_283, cm_284, cm_285, cm_286, cm_287, cm_288, cm_289, cm_290, cm_291, cm_292, cm_293, cm_294, cm_295, cm_296, cm_297, cm_298, cm_299, cm_300, cm_301, cm_302, cm_303, cm_304, cm_305, cm_306, cm_307, cm_308, cm_309, cm_310, cm_311, cm_312, cm_313, cm_314, cm_315, cm_316, cm_317, cm_318, cm_319, cm_320, cm_321, cm_322, cm_323, cm_324, cm_325, cm_326, cm_327, cm_328, cm_329, cm_330, cm_331, cm_332, cm_333, cm_334, cm_335, cm_336, cm_337, cm_338, cm_339], cz_okY2 M
    exact List.forall_mem_cons.mpr ⟨vY_1, List.forall_mem_cons.mpr ⟨vY_2, List.forall_mem_cons.mpr ⟨vY_3, List.forall_mem_cons.mpr ⟨vY_4, List.forall_mem_cons.mpr ⟨vY_5, List.forall_mem_cons.mpr ⟨vY_6, List.forall_mem_cons.mpr ⟨vY_7, List.forall_mem_cons.mpr ⟨vY_8, List.forall_mem_cons.mpr ⟨vY_9, List.forall_mem_cons.mpr ⟨vY_10, List.forall_mem_cons.mpr ⟨vY_11, List.forall_mem_cons.mpr ⟨vY_12, List.forall_mem_cons.mpr ⟨vY_13, List.forall_mem_cons.mpr ⟨vY_14, List.forall_mem_cons.mpr ⟨vY_15, List.forall_mem_cons.mpr ⟨vY_16, List.forall_mem_cons.mpr ⟨vY_17, List.forall_mem_cons.mpr ⟨vY_18, List.forall_mem_cons.mpr ⟨vY_19, List.forall_mem_cons.mpr ⟨vY_20, List.forall_mem_cons.mpr ⟨vY_21, List.forall_mem_cons.mpr ⟨vY_22, List.forall_mem_cons.mpr ⟨vY_23, List.forall_mem_cons.mpr ⟨vY_24, List.forall_mem_cons.mpr ⟨vY_25, List.forall_mem_cons.mpr ⟨vY_26, List.forall_mem_cons.mpr ⟨vY_27, List.forall_mem_cons.mpr ⟨vY_28, List.forall_mem_cons.mpr ⟨vY_29, List.forall_mem_cons.mpr ⟨vY_30, List.forall_mem_cons.mpr ⟨vY_31, List.forall_mem_cons.mpr ⟨vY_32, List.forall_mem_cons.mpr ⟨vY_33, List.forall_mem_cons.mpr ⟨vY_34, List.forall_mem_cons.mpr ⟨vY_35, List.forall_mem_cons.mpr ⟨vY_36, List.forall_mem_cons.mpr ⟨vY_37, List.forall_mem_cons.mpr ⟨vY_38, List.forall_mem_cons.mpr ⟨vY_39, List.forall_mem_cons.mpr ⟨vY_40, List.forall_mem_cons.mpr ⟨vY_41, List.forall_mem_cons.mpr ⟨vY_42, List.forall_mem_cons.mpr ⟨vY_43, List.forall_mem_cons.mpr ⟨vY_44, List.forall_mem_cons.mpr ⟨vY_45, List.forall_mem_cons.mpr ⟨vY_46, List.forall_mem_cons.mpr ⟨vY_47, List.forall_mem_cons.mpr ⟨vY_48, List.forall_mem_cons.mpr ⟨vY_49, List.forall_mem_cons.mpr ⟨vY_50, List.forall_mem_cons.mpr ⟨vY_51, List.forall_mem_cons.mpr ⟨vY_52, List.forall_mem_cons.mpr ⟨vY_53, List.forall_mem_cons.mpr ⟨vY_54, List.forall_mem_cons.mpr ⟨vY_55, List.forall_mem_cons.mpr ⟨vY_56, List.forall_mem_cons.mpr ⟨vY_57, List.forall_mem_cons.mpr ⟨vY_58, List.forall_mem_cons.mpr ⟨vY_59, List.forall_mem_cons.mpr ⟨vY_60, List.forall_mem_cons.mpr ⟨vY_61, List.forall_mem_cons.mpr ⟨vY_62, List.forall_mem_cons.mpr ⟨vY_63, List.forall_mem_cons.mpr ⟨vY_64, List.forall_mem_cons.mpr ⟨vY_65, List.forall_mem_cons.mpr ⟨vY_66, List.forall_mem_cons.mpr ⟨vY_67, List.forall_mem_cons.mpr ⟨vY_68, List.forall_mem_cons.mpr ⟨vY_69, List.forall_mem_cons.mpr ⟨vY_70, List.forall_mem_cons.mpr ⟨vY_71, List.forall_mem_cons.mpr ⟨vY_72, List.forall_mem_cons.mpr ⟨vY_73, List.forall_mem_cons.mpr ⟨vY_74, List.forall_mem_cons.mpr ⟨vY_75, List.forall_mem_cons.mpr ⟨vY_76, List.forall_mem_cons.mpr ⟨vY_77, List.forall_mem_cons.mpr ⟨vY_78, List.forall_mem_cons.mpr ⟨vY_79, List.forall_mem_cons.mpr ⟨vY_80, List.forall_mem_cons.mpr ⟨vY_81, List.forall_mem_cons.mpr ⟨vY_82, List.forall_mem_cons.mpr ⟨vY_83, List.forall_mem_cons.mpr ⟨vY_84, List.forall_mem_cons.mpr ⟨vY_85, List.forall_mem_cons.mpr ⟨vY_86, List.forall_mem_cons.mpr ⟨vY_87, List.forall_mem_cons.mpr ⟨vY_88, List.forall_mem_cons.mpr ⟨vY_89, List.forall_mem_cons.mpr ⟨vY_90, List.forall_mem_cons.mpr ⟨vY_91, List.forall_mem_cons.mpr ⟨vY_92, List.forall_mem_cons.mpr ⟨vY_93, List.forall_mem_cons.mpr ⟨vY_94, List.forall_mem_cons.mpr ⟨vY_95, List.forall_mem_cons.mpr ⟨vY_96, List.forall_mem_cons.mpr ⟨vY_97, List.forall_mem_cons.mpr ⟨vY_98, List.forall_mem_cons.mpr ⟨vY_99, List.forall_mem_cons.mpr ⟨vY_100, List.forall_mem_cons.mpr ⟨vY_101, List.forall_mem_cons.mpr ⟨vY_102, List.forall_mem_cons.mpr ⟨vY_103, List.forall_mem_cons.mpr ⟨vY_104, List.forall_mem_cons.mpr ⟨vY_105, List.forall_mem_cons.mpr ⟨vY_106, List.forall_mem_cons.mpr ⟨vY_107, List.forall_mem_cons.mpr ⟨vY_108, List.forall_mem_cons.mpr ⟨vY_109, List.forall_mem_cons.mpr ⟨vY_110, List.forall_mem_cons.mpr ⟨vY_111, List.forall_mem_cons.mpr ⟨vY_112, List.forall_mem_cons.mpr ⟨vY_113, List.forall_mem_cons.mpr ⟨vY_114, List.forall_mem_cons.mpr ⟨vY_115, List.forall_mem_cons.mpr ⟨vY_116, List.forall_mem_cons.mpr ⟨vY_117, List.forall_mem_cons.mpr ⟨vY_118, List.forall_mem_cons.mpr ⟨vY_119, List.forall_mem_cons.mpr ⟨vY_120, List.forall_mem_cons.mpr ⟨vY_121, List.forall_mem_cons.mpr ⟨vY_122, List.forall_mem_cons.mpr ⟨vY_123, List.forall_mem_cons.mpr ⟨vY_124, List.forall_mem_cons.mpr ⟨vY_125, List.forall_mem_cons.mpr ⟨vY_126, List.forall_mem_cons.mpr ⟨vY_127, List.forall_mem_cons.mpr ⟨vY_128, List.forall_mem_cons.mpr ⟨vY_129, List.forall_mem_cons.mpr ⟨vY_130, List.forall_mem_cons.mpr ⟨vY_131, List.forall_mem_cons.mpr ⟨vY_132, List.forall_mem_cons.mpr ⟨vY_133, List.forall_mem_cons.mpr ⟨vY_134, List.forall_mem_cons.mpr ⟨vY_135, List.forall_mem_cons.mpr ⟨vY_136, List.forall_mem_cons.mpr ⟨vY_137, List.forall_mem_cons.mpr ⟨vY_138, List.forall_mem_cons.mpr ⟨vY_139, List.forall_mem_cons.mpr ⟨vY_140, List.forall_mem_cons.mpr ⟨vY_141, List.forall_mem_cons.mpr ⟨vY_142, List.forall_mem_cons.mpr ⟨vY_143, List.forall_mem_cons.mpr ⟨vY_144, List.forall_mem_cons.mpr ⟨vY_145, List.forall_mem_cons.mpr ⟨vY_146, List.forall_mem_cons.mpr ⟨vY_147, List.forall_mem_cons.mpr ⟨vY_148, List.forall_mem_cons.mpr ⟨vY_149, List.forall_mem_cons.mpr ⟨vY_150, List.forall_mem_cons.mpr ⟨vY_151, List.forall_mem_cons.mpr ⟨vY_152, List.forall_mem_cons.mpr ⟨vY_153, List.forall_mem_cons.mpr ⟨vY_154, List.forall_mem_cons.mpr ⟨vY_155, List.forall_mem_cons.mpr ⟨vY_156, List.forall_mem_cons.mpr ⟨vY_157, List.forall_mem_cons.mpr ⟨vY_158, List.forall_mem_cons.mpr ⟨vY_159, List.forall_mem_cons.mpr ⟨vY_160, List.forall_mem_cons.mpr ⟨vY_161, List.forall_mem_cons.mpr ⟨vY_162, List.forall_mem_cons.mpr ⟨vY_163, List.forall_mem_cons.mpr ⟨vY_164, List.forall_mem_cons.mpr ⟨vY_165, List.forall_mem_cons.mpr ⟨vY_166, List.forall_mem_cons.mpr ⟨vY_167, List.forall_mem_cons.mpr ⟨vY_168, List.forall_mem_cons.mpr ⟨vY_169, List.forall_mem_cons.mpr ⟨vY_170, List.forall_mem_cons.mpr ⟨vY_171, List.forall_mem_cons.mpr ⟨vY_172, List.forall_mem_cons.mpr ⟨vY_173, List.forall_mem_cons.mpr ⟨vY_174, List.forall_mem_cons.mpr ⟨vY_175, List.forall_mem_cons.mpr ⟨vY_176, List.forall_mem_cons.mpr ⟨vY_177, List.forall_mem_cons.mpr ⟨vY_178, List.forall_mem_cons.mpr ⟨vY_179, List.forall_mem_cons.mpr ⟨vY_180, List.forall_mem_cons.mpr ⟨vY_181, List.forall_mem_cons.mpr ⟨vY_182, List.forall_mem_cons.mpr ⟨vY_183, List.forall_mem_cons.mpr ⟨vY_184, List.forall_mem_cons.mpr ⟨vY_185, List.forall_mem_cons.mpr ⟨vY_186, List.forall_mem_cons.mpr ⟨vY_187, List.forall_mem_cons.mpr ⟨vY_188, List.forall_mem_cons.mpr ⟨vY_189, List.forall_mem_cons.mpr ⟨vY_190, List.forall_mem_cons.mpr ⟨vY_191, List.forall_mem_cons.mpr ⟨vY_192, List.forall_mem_cons.mpr ⟨vY_193, List.forall_mem_cons.mpr ⟨vY_194, List.forall_mem_cons.mpr ⟨vY_195, List.forall_mem_cons.mpr ⟨vY_196, List.forall_mem_cons.mpr ⟨vY_197, List.forall_mem_cons.mpr ⟨vY_198, List.forall_mem_cons.mpr ⟨vY_199, List.forall_mem_cons.mpr ⟨vY_200, List.forall_mem_cons.mpr ⟨vY_201, List.forall_mem_cons.mpr ⟨vY_202, List.forall_mem_cons.mpr ⟨vY_203, List.forall_mem_cons.mpr ⟨vY_204, List.forall_mem_cons.mpr ⟨vY_205, List.forall_mem_cons.mpr ⟨vY_206, List.forall_mem_cons.mpr ⟨vY_207, List.forall_mem_cons.mpr ⟨vY_208, List.forall_mem_cons.mpr ⟨vY_209, List.forall_mem_cons.mpr ⟨vY_210, List.forall_mem_cons.mpr ⟨vY_211, List.forall_mem_cons.mpr ⟨vY_212, List.forall_mem_cons.mpr ⟨vY_213, List.forall_mem_cons.mpr ⟨vY_214, List.forall_mem_cons.mpr ⟨vY_215, List.forall_mem_cons.mpr ⟨vY_216, List.forall_mem_cons.mpr ⟨vY_217, List.forall_mem_cons.mpr ⟨vY_218, List.forall_mem_cons.mpr ⟨vY_219, List.forall_mem_cons.mpr ⟨vY_220, List.forall_mem_cons.mpr ⟨vY_221, List.forall_mem_cons.mpr ⟨vY_222, List.forall_mem_cons.mpr ⟨vY_223, List.forall_mem_cons.mpr ⟨vY_224, List.forall_mem_cons.mpr ⟨vY_225, List.forall_mem_cons.mpr ⟨vY_226, List.forall_mem_cons.mpr ⟨vY_227, List.forall_mem_cons.mpr ⟨vY_228, List.forall_mem_cons.mpr ⟨vY_229, List.forall_mem_cons.mpr ⟨vY_230, List.forall_mem_cons.mpr ⟨vY_231, List.forall_mem_cons.mpr ⟨vY_232, List.forall_mem_cons.mpr ⟨vY_233, List.forall_mem_cons.mpr ⟨vY_234, List.forall_mem_cons.mpr ⟨vY_235, List.forall_mem_cons.mpr ⟨vY_236, List.forall_mem_cons.mpr ⟨vY_237, List.forall_mem_cons.mpr ⟨vY_238, List.forall_mem_cons.mpr ⟨vY_239, List.forall_mem_cons.mpr ⟨vY_240, List.forall_mem_cons.mpr ⟨vY_241, List.forall_mem_cons.mpr ⟨vY_242, List.forall_mem_cons.mpr ⟨vY_243, List.forall_mem_cons.mpr ⟨vY_244, List.forall_mem_cons.mpr ⟨vY_245, List.forall_mem_cons.mpr ⟨vY_246, List.forall_mem_cons.mpr ⟨vY_247, List.forall_mem_cons.mpr ⟨vY_248, List.forall_mem_cons.mpr ⟨vY_249, List.forall_mem_cons.mpr ⟨vY_250, List.forall_mem_cons.mpr ⟨vY_251, List.forall_mem_cons.mpr ⟨vY_252, List.forall_mem_cons.mpr ⟨vY_253, List.forall_mem_cons.mpr ⟨vY_254, List.forall_mem_cons.mpr ⟨vY_255, List.forall_mem_cons.mpr ⟨vY_256, List.forall_mem_cons.mpr ⟨vY_257, List.forall_mem_cons.mpr ⟨vY_258, List.forall_mem_cons.mpr ⟨vY_259, List.forall_mem_cons.mpr ⟨vY_260, List.forall_mem_cons.mpr ⟨vY_261, List.forall_mem_cons.mpr ⟨vY_262, List.forall_mem_cons.mpr ⟨vY_263, List.forall_mem_cons.mpr ⟨vY_264, List.forall_mem_cons.mpr ⟨vY_265, List.forall_mem_cons.mpr ⟨vY_266, List.forall_mem_cons.mpr ⟨vY_267, List.forall_mem_cons.mpr ⟨vY_268, List.forall_mem_cons.mpr ⟨vY_269, List.forall_mem_cons.mpr ⟨vY_270, List.forall_mem_cons.mpr ⟨vY_271, List.forall_mem_cons.mpr ⟨vY_272, List.forall_mem_cons.mpr ⟨vY_273, List.forall_mem_cons.mpr ⟨vY_274, List.forall_mem_cons.mpr ⟨vY_275, List.forall_mem_cons.mpr ⟨vY_276, List.forall_mem_cons.mpr ⟨vY_277, List.forall_mem_cons.mpr ⟨vY_278, List.forall_mem_cons.mpr ⟨vY_279, List.forall_mem_cons.mpr ⟨vY_280, List.forall_mem_cons.mpr ⟨vY_281, List.forall_mem_cons.mpr ⟨vY_282, List.forall_mem_cons.mpr ⟨vY_283, List.forall_mem_cons.mpr ⟨vY_284, List.forall_mem_cons.mpr ⟨vY_285, List.forall_mem_cons.mpr ⟨vY_286, List.forall_mem_cons.mpr ⟨vY_287, List.forall_mem_cons.mpr ⟨vY_288, List.forall_mem_cons.mpr ⟨vY_289, List.forall_mem_cons.mpr ⟨vY_290, List.forall_mem_cons.mpr ⟨vY_291, List.forall_mem_cons.mpr ⟨vY_292, List.forall_mem_cons.mpr ⟨vY_293, List.forall_mem_cons.mpr ⟨vY_294, List.forall_mem_cons.mpr ⟨vY_295, List.forall_mem_cons.mpr ⟨vY_296, List.forall_mem_cons.mpr ⟨vY_297, List.forall_mem_cons.mpr ⟨vY_298, List.forall_mem_cons.mpr ⟨vY_299, List.forall_mem_cons.mpr ⟨vY_300, List.forall_mem_cons.mpr ⟨vY_301, List.forall_mem_cons.mpr ⟨vY_302, List.forall_mem_cons.mpr ⟨vY_303, List.forall_mem_cons.mpr ⟨vY_304, List.forall_mem_cons.mpr ⟨vY_305, List.forall_mem_cons.mpr ⟨vY_306, List.forall_mem_cons.mpr ⟨vY_307, List.forall_mem_cons.mpr ⟨vY_308, List.forall_mem_cons.mpr ⟨vY_309, List.forall_mem_cons.mpr ⟨vY_310, List.forall_mem_cons.mpr ⟨vY_311, List.forall_mem_cons.mpr ⟨vY_312, List.forall_mem_cons.mpr ⟨vY_313, List.forall_mem_cons.mpr ⟨vY_314, List.forall_mem_cons.mpr ⟨vY_315, List.forall_mem_cons.mpr ⟨vY_316, List.forall_mem_cons.mpr ⟨vY_317, List.forall_mem_cons.mpr ⟨vY_318, List.forall_mem_cons.mpr ⟨vY_319, List.forall_mem_cons.mpr ⟨vY_320, List.forall_mem_cons.mpr ⟨vY_321, List.forall_mem_cons.mpr ⟨vY_322, List.forall_mem_cons.mpr ⟨vY_323, List.forall_mem_cons.mpr ⟨vY_324, List.forall_mem_cons.mpr ⟨vY_325, List.forall_mem_cons.mpr ⟨vY_326, List.forall_mem_cons.mpr ⟨vY_327, List.forall_mem_cons.mpr ⟨vY_328, List.forall_mem_cons.mpr ⟨vY_329, List.forall_mem_cons.mpr ⟨vY_330, List.forall_mem_cons.mpr ⟨vY_331, List.forall_mem_cons.mpr ⟨vY_332, List.forall_mem_cons.mpr ⟨vY_333, List.forall_mem_cons.mpr ⟨vY_334, List.forall_mem_cons.mpr ⟨vY_335, List.forall_mem_cons.mpr ⟨vY_336, List.forall_mem_cons.mpr ⟨vY_337, List.forall_mem_cons.mpr ⟨vY_338, List.forall_mem_cons.mpr ⟨vY_339, fun _ w => (by cases w)⟩⟩⟩⟩⟩⟩⟩⟩⟩⟩⟩⟩⟩⟩⟩⟩⟩⟩⟩⟩⟩⟩⟩⟩⟩⟩⟩⟩⟩⟩⟩⟩⟩⟩⟩⟩⟩⟩⟩⟩⟩⟩⟩⟩⟩⟩⟩⟩⟩⟩⟩⟩⟩⟩⟩⟩⟩⟩⟩⟩⟩⟩⟩⟩⟩⟩⟩⟩⟩⟩⟩⟩⟩⟩⟩⟩⟩⟩⟩⟩⟩⟩⟩⟩⟩⟩⟩⟩⟩⟩⟩⟩⟩⟩⟩⟩⟩⟩⟩⟩⟩⟩⟩⟩⟩⟩⟩⟩⟩⟩⟩⟩⟩⟩⟩⟩⟩⟩⟩⟩⟩⟩⟩⟩⟩⟩⟩⟩⟩⟩⟩⟩⟩⟩⟩⟩⟩⟩⟩⟩⟩⟩⟩⟩⟩⟩⟩⟩⟩⟩⟩⟩⟩⟩⟩⟩⟩⟩⟩⟩⟩⟩⟩⟩⟩⟩⟩⟩⟩⟩⟩⟩⟩⟩⟩⟩⟩⟩⟩⟩⟩⟩⟩⟩⟩⟩⟩⟩⟩⟩⟩⟩⟩⟩⟩⟩⟩⟩⟩⟩⟩⟩⟩⟩⟩⟩⟩⟩⟩⟩⟩⟩⟩⟩⟩⟩⟩⟩⟩⟩⟩⟩⟩⟩⟩⟩⟩⟩⟩⟩⟩⟩⟩⟩⟩⟩⟩⟩⟩⟩⟩⟩⟩⟩⟩⟩⟩⟩⟩⟩⟩⟩⟩⟩⟩⟩⟩⟩⟩⟩⟩⟩⟩⟩⟩⟩⟩⟩⟩⟩⟩⟩⟩⟩⟩⟩⟩⟩⟩⟩⟩⟩⟩⟩⟩⟩⟩⟩⟩⟩⟩⟩⟩⟩⟩⟩⟩⟩⟩⟩⟩⟩⟩⟩⟩⟩⟩⟩⟩⟩⟩⟩⟩⟩⟩⟩⟩⟩⟩⟩⟩⟩⟩⟩⟩⟩⟩⟩⟩⟩⟩⟩⟩⟩⟩⟩⟩⟩⟩
  exact hall M hm
theorem cz_allY_ok : cz_allY := by
  intro y M h0 h
  obtain ⟨k, rfl⟩ : ∃ k, y = k + 1 := ⟨y - 1, by omega⟩
  exact (cz_ms_1 k M (by rw [List.getElem?_drop, Nat.add_comm]; exact h)).1
theorem cz_allC2_ok : cz_allC2 := by
  intro y M h0 h
  obtain ⟨k, rfl⟩ : ∃ k, y = k + 1 := ⟨y - 1, by omega⟩
  exact (cz_ms_1 k M (by rw [List.getElem?_drop, Nat.add_comm]; exact h)).2
/-! Written by wip/p2/py/gen22.py. -/
set_option maxRecDepth 100000 in
theorem vR_0_0 : cz_chkR code cr_0_0 = true := rws_ok (p := 0) (by decide +kernel)
set_option maxRecDepth 100000 in
theorem vR_0_1 : cz_chkR code cr_0_1 = true := rws_ok (p := 16) (by decide +kernel)
set_option maxRecDepth 100000 in
theorem vR_0_2 : cz_chkR code cr_0_2 = true := rws_ok (p := 33) (by decide +kernel)
set_option maxRecDepth 100000 in
theorem vR_0_9 : cz_chkR code cr_0_9 = true := rws_ok (p := 148) (by decide +kernel)
set_option maxRecDepth 100000 in
theorem vR_0_10 : cz_chkR code cr_0_10 = true := rws_ok (p := 160) (by decide +kernel)
set_option maxRecDepth 100000 in
theorem vR_0_11 : cz_chkR code cr_0_11 = true := rws_ok (p := 176) (by decide +kernel)
set_option maxRecDepth 100000 in
theorem vR_0_12 : cz_chkR code cr_0_12 = true := rws_ok (p := 192) (by decide +kernel)
set_option maxRecDepth 100000 in
theorem vR_0_13 : cz_chkR code cr_0_13 = true := rws_ok (p := 208) (by decide +kernel)
set_option maxRecDepth 100000 in
theorem vR_0_14 : cz_chkR code cr_0_14 = true := rws_ok (p := 224) (by decide +kernel)
set_option maxRecDepth 100000 in
theorem vR_0_15 : cz_chkR code cr_0_15 = true := rws_ok (p := 241) (by decide +kernel)
set_option maxRecDepth 100000 in
theorem vR_0_16 : cz_chkR code cr_0_16 = true := rws_ok (p := 256) (by decide +kernel)
set_option maxRecDepth 100000 in
theorem vR_0_17 : cz_chkR code cr_0_17 = true := rws_ok (p := 272) (by decide +kernel)
set_option maxRecDepth 100000 in
theorem vR_0_18 : cz_chkR code cr_0_18 = true := rws_ok (p := 288) (by decide +kernel)
set_option maxRecDepth 100000 in
theorem vR_0_19 : cz_chkR code cr_0_19 = true := rws_ok (p := 305) (by decide +kernel)
set_option maxRecDepth 100000 in
theorem vR_0_20 : cz_chkR code cr_0_20 = true := rws_ok (p := 320) (by decide +kernel)
set_option maxRecDepth 100000 in
theorem vR_0_21 : cz_chkR code cr_0_21 = true := rws_ok (p := 337) (by decide +kernel)
set_option maxRecDepth 100000 in
theorem vR_0_22 : cz_chkR code cr_0_22 = true := rws_ok (p := 354) (by decide +kernel)
set_option maxRecDepth 100000 in
theorem vR_0_23 : cz_chkR code cr_0_23 = true := rws_ok (p := 368) (by decide +kernel)
set_option maxRecDepth 100000 in
theorem vR_0_24 : cz_chkR code cr_0_24 = true := rws_ok (p := 384) (by decide +kernel)
set_option maxRecDepth 100000 in
theorem vR_0_25 : cz_chkR code cr_0_25 = true := rws_ok (p := 400) (by decide +kernel)
set_option maxRecDepth 100000 in
theorem vR_0_26 : cz_chkR code cr_0_26 = true := rws_ok (p := 416) (by decide +kernel)
set_option maxRecDepth 100000 in
theorem vR_0_27 : cz_chkR code cr_0_27 = true := rws_ok (p := 432) (by decide +kernel)
set_option maxRecDepth 100000 in
theorem vR_0_28 : cz_chkR code cr_0_28 = true := rws_ok (p := 448) (by decide +kernel)
set_option maxRecDepth 100000 in
theorem vR_0_29 : cz_chkR code cr_0_29 = true := rws_ok (p := 464) (by decide +kernel)
set_option maxRecDepth 100000 in
theorem vR_0_30 : cz_chkR code cr_0_30 = true := rws_ok (p := 481) (by decide +kernel)
set_option maxRecDepth 100000 in
theorem vR_0_31 : cz_chkR code cr_0_31 = true := rws_ok (p := 496) (by decide +kernel)
set_option maxRecDepth 100000 in
theorem vR_0_32 : cz_chkR code cr_0_32 = true := rws_ok (p := 513) (by decide +kernel)
set_option maxRecDepth 100000 in
theorem vR_0_33 : cz_chkR code cr_0_33 = true := rws_ok (p := 528) (by decide +kernel)
set_option maxRecDepth 100000 in
theorem vR_0_34 : cz_chkR code cr_0_34 = true := rws_ok (p := 544) (by decide +kernel)
set_option maxRecDepth 100000 in
theorem vR_0_35 : cz_chkR code cr_0_35 = true := rws_ok (p := 561) (by decide +kernel)
set_option maxRecDepth 100000 in
theorem vR_0_36 : cz_chkR code cr_0_36 = true := rws_ok (p := 578) (by decide +kernel)
set_option maxRecDepth 100000 in
theorem vR_0_37 : cz_chkR code cr_0_37 = true := rws_ok (p := 592) (by decide +kernel)
set_option maxRecDepth 100000 in
theorem vR_0_38 : cz_chkR code cr_0_38 = true := rws_ok (p := 608) (by decide +kernel)
set_option maxRecDepth 100000 in
theorem vR_0_39 : cz_chkR code cr_0_39 = true := rws_ok (p := 624) (by decide +kernel)
set_option maxRecDepth 100000 in
theorem vR_0_40 : cz_chkR code cr_0_40 = true := rws_ok (p := 640) (by decide +kernel)
set_option maxRecDepth 100000 in
theorem vR_0_41 : cz_chkR code cr_0_41 = true := rws_ok (p := 656) (by decide +kernel)
set_option maxRecDepth 100000 in
theorem vR_0_42 : cz_chkR code cr_0_42 = true := rws_ok (p := 672) (by decide +kernel)
set_option maxRecDepth 100000 in
theorem vR_0_43 : cz_chkR code cr_0_43 = true := rws_ok (p := 688) (by decide +kernel)
set_option maxRecDepth 100000 in
theorem vR_0_44 : cz_chkR code cr_0_44 = true := rws_ok (p := 704) (by decide +kernel)
set_option maxRecDepth 100000 in
theorem vR_0_45 : cz_chkR code cr_0_45 = true := rws_ok (p := 720) (by decide +kernel)
set_option maxRecDepth 100000 in
theorem vR_0_46 : cz_chkR code cr_0_46 = true := rws_ok (p := 736) (by decide +kernel)
set_option maxRecDepth 100000 in
theorem vR_0_47 : cz_chkR code cr_0_47 = true := rws_ok (p := 752) (by decide +kernel)
set_option maxRecDepth 100000 in
theorem vR_0_48 : cz_chkR code cr_0_48 = true := rws_ok (p := 768) (by decide +kernel)
set_option maxRecDepth 100000 in
theorem vR_0_49 : cz_chkR code cr_0_49 = true := rws_ok (p := 785) (by decide +kernel)
set_option maxRecDepth 100000 in
theorem vR_0_50 : cz_chkR code cr_0_50 = true := rws_ok (p := 800) (by decide +kernel)
set_option maxRecDepth 100000 in
theorem vR_0_51 : cz_chkR code cr_0_51 = true := rws_ok (p := 816) (by decide +kernel)
set_option maxRecDepth 100000 in
theorem vR_0_52 : cz_chkR code cr_0_52 = true := rws_ok (p := 833) (by decide +kernel)
set_option maxRecDepth 100000 in
theorem vR_0_53 : cz_chkR code cr_0_53 = true := rws_ok (p := 849) (by decide +kernel)
set_option maxRecDepth 100000 in
theorem vR_0_54 : cz_chkR code cr_0_54 = true := rws_ok (p := 865) (by decide +kernel)
set_option maxRecDepth 100000 in
theorem vR_0_55 : cz_chkR code cr_0_55 = true := rws_ok (p := 880) (by decide +kernel)
set_option maxRecDepth 100000 in
theorem vR_0_56 : cz_chkR code cr_0_56 = true := rws_ok (p := 896) (by decide +kernel)
set_option maxRecDepth 100000 in
theorem vR_0_57 : cz_chkR code cr_0_57 = true := rws_ok (p := 913) (by decide +kernel)
set_option maxRecDepth 100000 in
theorem vR_0_58 : cz_chkR code cr_0_58 = true := rws_ok (p := 929) (by decide +kernel)
set_option maxRecDepth 100000 in
theorem vR_0_59 : cz_chkR code cr_0_59 = true := rws_ok (p := 944) (by decide +kernel)
set_option maxRecDepth 100000 in
theorem vR_0_60 : cz_chkR code cr_0_60 = true := rws_ok (p := 960) (by decide +kernel)
set_option maxRecDepth 100000 in
theorem vR_0_61 : cz_chkR code cr_0_61 = true := rws_ok (p := 976) (by decide +kernel)
set_option maxRecDepth 100000 in
theorem vR_0_62 : cz_chkR code cr_0_62 = true := rws_ok (p := 992) (by decide +kernel)
set_option maxRecDepth 100000 in
theorem vR_0_63 : cz_chkR code cr_0_63 = true := rws_ok (p := 1009) (by decide +kernel)
set_option maxRecDepth 100000 in
theorem vR_0_64 : cz_chkR code cr_0_64 = true := rws_ok (p := 1024) (by decide +kernel)
set_option maxRecDepth 100000 in
theorem vR_0_65 : cz_chkR code cr_0_65 = true := rws_ok (p := 1040) (by decide +kernel)
set_option maxRecDepth 100000 in
theorem vR_0_66 : cz_chkR code cr_0_66 = true := rws_ok (p := 1056) (by decide +kernel)
set_option maxRecDepth 100000 in
theorem vR_0_67 : cz_chkR code cr_0_67 = true := rws_ok (p := 1072) (by decide +kernel)
set_option maxRecDepth 100000 in
theorem vR_0_68 : cz_chkR code cr_0_68 = true := rws_ok (p := 1088) (by decide +kernel)
set_option maxRecDepth 100000 in
theorem vR_0_69 : cz_chkR code cr_0_69 = true := rws_ok (p := 1105) (by decide +kernel)
set_option maxRecDepth 100000 in
theorem vR_0_70 : cz_chkR code cr_0_70 = true := rws_ok (p := 1120) (by decide +kernel)
set_option maxRecDepth 100000 in
theorem vR_0_71 : cz_chkR code cr_0_71 = true := rws_ok (p := 1136) (by decide +kernel)
set_option maxRecDepth 100000 in
theorem vR_0_72 : cz_chkR code cr_0_72 = true := rws_ok (p := 1152) (by decide +kernel)
set_option maxRecDepth 100000 in
theorem vR_0_73 : cz_chkR code cr_0_73 = true := rws_ok (p := 1168) (by decide +kernel)
set_option maxRecDepth 100000 in
theorem vR_0_74 : cz_chkR code cr_0_74 = true := rws_ok (p := 1185) (by decide +kernel)
set_option maxRecDepth 100000 in
theorem vR_0_75 : cz_chkR code cr_0_75 = true := rws_ok (p := 1200) (by decide +kernel)
set_option maxRecDepth 100000 in
theorem vR_0_76 : cz_chkR code cr_0_76 = true := rws_ok (p := 1216) (by decide +kernel)
theorem vD_0 : cz_chkD cm_0 = true := cz_chkD_of (show ∀ row ∈ [cr_0_0, cr_0_1, cr_0_2, [], [], [], [], [], [], cr_0_9, cr_0_10, cr_0_11, cr_0_12, cr_0_13, cr_0_14, cr_0_15, cr_0_16, cr_0_17, cr_0_18, cr_0_19, cr_0_20, cr_0_21, cr_0_22, cr_0_23, cr_0_24, cr_0_25, cr_0_26, cr_0_27, cr_0_28, cr_0_29, cr_0_30, cr_0_31, cr_0_32, cr_0_33, cr_0_34, cr_0_35, cr_0_36, cr_0_37, cr_0_38, cr_0_39, cr_0_40, cr_0_41, cr_0_42, cr_0_43, cr_0_44, cr_0_45, cr_0_46, cr_0_47, cr_0_48, cr_0_49, cr_0_50, cr_0_51, cr_0_52, cr_0_53, cr_0_54, cr_0_55, cr_0_56, cr_0_57, cr_0_58, cr_0_59, cr_0_60, cr_0_61, cr_0_62, cr_0_63, cr_0_64, cr_0_65, cr_0_66, cr_0_67, cr_0_68, cr_0_69, cr_0_70, cr_0_71, cr_0_72, cr_0_73, cr_0_74, cr_0_75, cr_0_76], cz_chkR code row = true from List.forall_mem_cons.mpr ⟨vR_0_0, List.forall_mem_cons.mpr ⟨vR_0_1, List.forall_mem_cons.mpr ⟨vR_0_2, List.forall_mem_cons.mpr ⟨rfl, List.forall_mem_cons.mpr ⟨rfl, List.forall_mem_cons.mpr ⟨rfl, List.forall_mem_cons.mpr ⟨rfl, List.forall_mem_cons.mpr ⟨rfl, List.forall_mem_cons.mpr ⟨rfl, List.forall_mem_cons.mpr ⟨vR_0_9, List.forall_mem_cons.mpr ⟨vR_0_10, List.forall_mem_cons.mpr ⟨vR_0_11, List.forall_mem_cons.mpr ⟨vR_0_12, List.forall_mem_cons.mpr ⟨vR_0_13, List.forall_mem_cons.mpr ⟨vR_0_14, List.forall_mem_cons.mpr ⟨vR_0_15, List.forall_mem_cons.mpr ⟨vR_0_16, List.forall_mem_cons.mpr ⟨vR_0_17, List.forall_mem_cons.mpr ⟨vR_0_18, List.forall_mem_cons.mpr ⟨vR_0_19, List.forall_mem_cons.mpr ⟨vR_0_20, List.forall_mem_cons.mpr ⟨vR_0_21, List.forall_mem_cons.mpr ⟨vR_0_22, List.forall_mem_cons.mpr ⟨vR_0_23, List.forall_mem_cons.mpr ⟨vR_0_24, List.forall_mem_cons.mpr ⟨vR_0_25, List.forall_mem_cons.mpr ⟨vR_0_26, List.forall_mem_cons.mpr ⟨vR_0_27, List.forall_mem_cons.mpr ⟨vR_0_28, List.forall_mem_cons.mpr ⟨vR_0_29, List.forall_mem_cons.mpr ⟨vR_0_30, List.forall_mem_cons.mpr ⟨vR_0_31, List.forall_mem_cons.mpr ⟨vR_0_32, List.forall_mem_cons.mpr ⟨vR_0_33, List.forall_mem_cons.mpr ⟨vR_0_34, List.forall_mem_cons.mpr ⟨vR_0_35, List.forall_mem_cons.mpr ⟨vR_0_36, List.forall_mem_cons.mpr ⟨vR_0_37, List.forall_mem_cons.mpr ⟨vR_0_38, List.forall_mem_cons.mpr ⟨vR_0_39, List.forall_mem_cons.mpr ⟨vR_0_40, List.forall_mem_cons.mpr ⟨vR_0_41, List.forall_mem_cons.mpr ⟨vR_0_42, List.forall_mem_cons.mpr ⟨vR_0_43, List.forall_mem_cons.mpr ⟨vR_0_44, List.forall_mem_cons.mpr ⟨vR_0_45, List.forall_mem_cons.mpr ⟨vR_0_46, List.forall_mem_cons.mpr ⟨vR_0_47, List.forall_mem_cons.mpr ⟨vR_0_48, List.forall_mem_cons.mpr ⟨vR_0_49, List.forall_mem_cons.mpr ⟨vR_0_50, List.forall_mem_cons.mpr ⟨vR_0_51, List.forall_mem_cons.mpr ⟨vR_0_52, List.forall_mem_cons.mpr ⟨vR_0_53, List.forall_mem_cons.mpr ⟨vR_0_54, List.forall_mem_cons.mpr ⟨vR_0_55, List.forall_mem_cons.mpr ⟨vR_0_56, List.forall_mem_cons.mpr ⟨vR_0_57, List.forall_mem_cons.mpr ⟨vR_0_58, List.forall_mem_cons.mpr ⟨vR_0_59, List.forall_mem_cons.mpr ⟨vR_0_60, List.forall_mem_cons.mpr ⟨vR_0_61, List.forall_mem_cons.mpr ⟨vR_0_62, List.forall_mem_cons.mpr ⟨vR_0_63, List.forall_mem_cons.mpr ⟨vR_0_64, List.forall_mem_cons.mpr ⟨vR_0_65, List.forall_mem_cons.mpr ⟨vR_0_66, List.forall_mem_cons.mpr ⟨vR_0_67, List.forall_mem_cons.mpr ⟨vR_0_68, List.forall_mem_cons.mpr ⟨vR_0_69, List.forall_mem_cons.mpr ⟨vR_0_70, List.forall_mem_cons.mpr ⟨vR_0_71, List.forall_mem_cons.mpr ⟨vR_0_72, List.forall_mem_cons.mpr ⟨vR_0_73, List.forall_mem_cons.mpr ⟨vR_0_74, List.forall_mem_cons.mpr ⟨vR_0_75, List.forall_mem_cons.mpr ⟨vR_0_76, fun _ w => (by cases w)⟩⟩⟩⟩⟩⟩⟩⟩⟩⟩⟩⟩⟩⟩⟩⟩⟩⟩⟩⟩⟩⟩⟩⟩⟩⟩⟩⟩⟩⟩⟩⟩⟩⟩⟩⟩⟩⟩⟩⟩⟩⟩⟩⟩⟩⟩⟩⟩⟩⟩⟩⟩⟩⟩⟩⟩⟩⟩⟩⟩⟩⟩⟩⟩⟩⟩⟩⟩⟩⟩⟩⟩⟩⟩⟩⟩⟩)
set_option maxRecDepth 100000 in
theorem vK_0 : cz_chkK cm_0 [[1035], [1037, 1038, 1039], [7053], [7055, 7056, 7057], [2233, 2234], [0, 10154, 10155, 10156], [3071, 3072], [0, 10158, 10159, 10160], [3097, 3098], [0, 7239, 8000, 8001], [4182, 4183], [0, 9145, 9146, 9147], [0, 2225, 2226, 2227], [0, 9203, 9204, 9205], [5047, 5048], [0, 10162, 10163, 10164], [5082, 5083], [0, 10172, 10173, 10174], [5092, 5093], [0, 10176, 10177, 10178], [5106, 5107], [0, 10180, 10181, 10182], [5113, 5114], [0, 10184, 10185, 10186], [5120, 5121], [0, 9207, 9208, 9209], [5195, 5196], [0, 9237, 9238, 9239], [5206, 5207], [0, 10001, 10002, 10003], [5217, 5218], [0, 10005, 10006, 10007], [6110, 6111], [0, 10089, 10090, 10091], [6121, 6122], [0, 10105, 10106, 10107], [6134, 6135], [0, 10109, 10110, 10111], [6150, 6151], [0, 10113, 10114, 10115], [6229, 6230], [0, 10150, 10151, 10152], [7008, 7009], [0, 10188, 10189, 10190], [7025, 7026], [0, 10196, 10197, 10198], [0, 7235, 7236, 7237], [7039, 7040], [0, 10200, 10201, 10202], [7046, 7047], [0, 10205, 10206, 10207]] = true := by decide +kernel
theorem vO_0 : cz_okM cm_0 := cz_chkM_ok cz_allY_ok cz_allC2_ok cz_asl_ok cz_okI0_ok vD_0 vK_0
/-! Written by wip/p2/py/gen22.py. -/
set_option maxRecDepth 100000 in
theorem vR_1_0 : cz_chkR prog_1_method_1_code cr_1_0 = true := rws_ok (p := 0) (by decide +kernel)
set_option maxRecDepth 100000 in
theorem vR_1_1 : cz_chkR prog_1_method_1_code cr_1_1 = true := rws_ok (p := 16) (by decide +kernel)
set_option maxRecDepth 100000 in
theorem vR_1_2 : cz_chkR prog_1_method_1_code cr_1_2 = true := rws_ok (p := 34) (by decide +kernel)
set_option maxRecDepth 100000 in
theorem vR_1_3 : cz_chkR prog_1_method_1_code cr_1_3 = true := rws_ok (p := 49) (by decide +kernel)
set_option maxRecDepth 100000 in
theorem vR_1_4 : cz_chkR prog_1_method_1_code cr_1_4 = true := rws_ok (p := 64) (by decide +kernel)
set_option maxRecDepth 100000 in
theorem vR_1_5 : cz_chkR prog_1_method_1_code cr_1_5 = true := rws_ok (p := 80) (by decide +kernel)
set_option maxRecDepth 100000 in
theorem vR_1_6 : cz_chkR prog_1_method_1_code cr_1_6 = true := rws_ok (p := 97) (by decide +kernel)
set_option maxRecDepth 100000 in
theorem vR_1_7 : cz_chkR prog_1_method_1_code cr_1_7 = true := rws_ok (p := 112) (by decide +kernel)
set_option maxRecDepth 100000 in
theorem vR_1_8 : cz_chkR prog_1_method_1_code cr_1_8 = true := rws_ok (p := 128) (by decide +kernel)
set_option maxRecDepth 100000 in
theorem vR_1_9 : cz_chkR prog_1_method_1_code cr_1_9 = true := rws_ok (p := 146) (by decide +kernel)
set_option maxRecDepth 100000 in
theorem vR_1_10 : cz_chkR prog_1_method_1_code cr_1_10 = true := rws_ok (p := 161) (by decide +kernel)
set_option maxRecDepth 100000 in
theorem vR_1_11 : cz_chkR prog_1_method_1_code cr_1_11 = true := rws_ok (p := 177) (by decide +kernel)
set_option maxRecDepth 100000 in
theorem vR_1_12 : cz_chkR prog_1_method_1_code cr_1_12 = true := rws_ok (p := 193) (by decide +kernel)
set_option maxRecDepth 100000 in
theorem vR_1_13 : cz_chkR prog_1_method_1_code cr_1_13 = true := rws_ok (p := 208) (by decide +kernel)
set_option maxRecDepth 100000 in
theorem vR_1_14 : cz_chkR prog_1_method_1_code cr_1_14 = true := rws_ok (p := 226) (by decide +kernel)
theorem vD_1 : cz_chkD cm_1 = true := cz_chkD_of (show ∀ row ∈ [cr_1_0, cr_1_1, cr_1_2, cr_1_3, cr_1_4, cr_1_5, cr_1_6, cr_1_7, cr_1_8, cr_1_9, cr_1_10, cr_1_11, cr_1_12, cr_1_13, cr_1_14], cz_chkR prog_1_method_1_code row = true from List.forall_mem_cons.mpr ⟨vR_1_0, List.forall_mem_cons.mpr ⟨vR_1_1, List.forall_mem_cons.mpr ⟨vR_1_2, List.forall_mem_cons.mpr ⟨vR_1_3, List.forall_mem_cons.mpr ⟨vR_1_4, List.forall_mem_cons.mpr ⟨vR_1_5, List.forall_mem_cons.mpr ⟨vR_1_6, List.forall_mem_cons.mpr ⟨vR_1_7, List.forall_mem_cons.mpr ⟨vR_1_8, List.forall_mem_cons.mpr ⟨vR_1_9, List.forall_mem_cons.mpr ⟨vR_1_10, List.forall_mem_cons.mpr ⟨vR_1_11, List.forall_mem_cons.mpr ⟨vR_1_12, List.forall_mem_cons.mpr ⟨vR_1_13, List.forall_mem_cons.mpr ⟨vR_1_14, fun _ w => (by cases w)⟩⟩⟩⟩⟩⟩⟩⟩⟩⟩⟩⟩⟩⟩⟩)
set_option maxRecDepth 100000 in
theorem vK_1 : cz_chkK cm_1 [[1040, 1041, 1042], [2176], [1043], [2178], [1044], [2180], [1047, 1048, 1049], [2181], [2182], [2183], [1070], [1072, 1073, 1074], [2184], [1232], [1234, 1235, 1236], [2185], [2017], [2019, 2020, 2021], [2186], [2054], [2056, 2057, 2058], [2187], [2076], [2078, 2079, 2080], [2188], [2105], [2107, 2108, 2109], [2189], [2142], [2144, 2145, 2146], [2190], [2191], [1044, 1045]] = true := by decide +kernel
theorem vO_1 : cz_okM cm_1 := cz_chkM_ok cz_allY_ok cz_allC2_ok cz_asl_ok cz_okI0_ok vD_1 vK_1
set_option maxRecDepth 100000 in
theorem vR_2_0 : cz_chkR prog_1_method_21_code cr_2_0 = true := rws_ok (p := 0) (by decide +kernel)
set_option maxRecDepth 100000 in
theorem vR_2_1 : cz_chkR prog_1_method_21_code cr_2_1 = true := rws_ok (p := 18) (by decide +kernel)
set_option maxRecDepth 100000 in
theorem vR_2_4 : cz_chkR prog_1_method_21_code cr_2_4 = true := rws_ok (p := 72) (by decide +kernel)
set_option maxRecDepth 100000 in
theorem vR_2_5 : cz_chkR prog_1_method_21_code cr_2_5 = true := rws_ok (p := 80) (by decide +kernel)
set_option maxRecDepth 100000 in
theorem vR_2_6 : cz_chkR prog_1_method_21_code cr_2_6 = true := rws_ok (p := 97) (by decide +kernel)
set_option maxRecDepth 100000 in
theorem vR_2_7 : cz_chkR prog_1_method_21_code cr_2_7 = true := rws_ok (p := 112) (by decide +kernel)
set_option maxRecDepth 100000 in
theorem vR_2_8 : cz_chkR prog_1_method_21_code cr_2_8 = true := rws_ok (p := 128) (by decide +kernel)
theorem vD_2 : cz_chkD cm_2 = true := cz_chkD_of (show ∀ row ∈ [cr_2_0, cr_2_1, [], [], cr_2_4, cr_2_5, cr_2_6, cr_2_7, cr_2_8], cz_chkR prog_1_method_21_code row = true from List.forall_mem_cons.mpr ⟨vR_2_0, List.forall_mem_cons.mpr ⟨vR_2_1, List.forall_mem_cons.mpr ⟨rfl, List.forall_mem_cons.mpr ⟨rfl, List.forall_mem_cons.mpr ⟨vR_2_4, List.forall_mem_cons.mpr ⟨vR_2_5, List.forall_mem_cons.mpr ⟨vR_2_6, List.forall_mem_cons.mpr ⟨vR_2_7, List.forall_mem_cons.mpr ⟨vR_2_8, fun _ w => (by cases w)⟩⟩⟩⟩⟩⟩⟩⟩⟩)
set_option maxRecDepth 100000 in
theorem vK_2 : cz_chkK cm_2 [[2184], [2186], [3079, 3080], [5065], [0, 5127, 5129, 50], [0, 7015, 4235, 4236], [1154], [1091], [1096], [1160], [1163], [0, 7016, 7017, 7018], [1157], [0, 7020, 7021, 7022]] = true := by decide +kernel
theorem vO_2 : cz_okM cm_2 := cz_chkM_ok cz_allY_ok cz_allC2_ok cz_asl_ok cz_okI0_ok vD_2 vK_2
set_option maxRecDepth 100000 in
theorem vR_3_0 : cz_chkR prog_1_method_8_code cr_3_0 = true := rws_ok (p := 0) (by decide +kernel)
set_option maxRecDepth 100000 in
theorem vR_3_1 : cz_chkR prog_1_method_8_code cr_3_1 = true := rws_ok (p := 16) (by decide +kernel)
set_option maxRecDepth 100000 in
theorem vR_3_2 : cz_chkR prog_1_method_8_code cr_3_2 = true := rws_ok (p := 33) (by decide +kernel)
theorem vD_3 : cz_chkD cm_3 = true := cz_chkD_of (show ∀ row ∈ [cr_3_0, cr_3_1, cr_3_2], cz_chkR prog_1_method_8_code row = true from List.forall_mem_cons.mpr ⟨vR_3_0, List.forall_mem_cons.mpr ⟨vR_3_1, List.forall_mem_cons.mpr ⟨vR_3_2, fun _ w => (by cases w)⟩⟩⟩)
set_option maxRecDepth 100000 in
theorem vK_3 : cz_chkK cm_3 [[2180], [3079, 3080], [1062], [5054, 5055], [5065], [0, 5078, 5079, 5080], [5089, 5090]] = true := by decide +kernel
theorem vO_3 : cz_okM cm_3 := cz_chkM_ok cz_allY_ok cz_allC2_ok cz_asl_ok cz_okI0_ok vD_3 vK_3
set_option maxRecDepth 100000 in
theorem vR_4_0 : cz_chkR prog_1_method_22_code cr_4_0 = true := rws_ok (p := 0) (by decide +kernel)
set_option maxRecDepth 100000 in
theorem vR_4_1 : cz_chkR prog_1_method_22_code cr_4_1 = true := rws_ok (p := 18) (by decide +kernel)
set_option maxRecDepth 100000 in
theorem vR_4_2 : cz_chkR prog_1_method_22_code cr_4_2 = true := rws_ok (p := 32) (by decide +kernel)
set_option maxRecDepth 100000 in
theorem vR_4_3 : cz_chkR prog_1_method_22_code cr_4_3 = true := rws_ok (p := 48) (by decide +kernel)
theorem vD_4 : cz_chkD cm_4 = true := cz_chkD_of (show ∀ row ∈ [cr_4_0, cr_4_1, cr_4_2, cr_4_3], cz_chkR prog_1_method_22_code row = true from List.forall_mem_cons.mpr ⟨vR_4_0, List.forall_mem_cons.mpr ⟨vR_4_1, List.forall_mem_cons.mpr ⟨vR_4_2, List.forall_mem_cons.mpr ⟨vR_4_3, fun _ w => (by cases w)⟩⟩⟩⟩)
set_option maxRecDepth 100000 in
theorem vK_4 : cz_chkK cm_4 [[2180], [4167], [4176], [1062], [5054, 5055], [1056], [2179], [7032, 7033], [0, 7035, 7037, 90]] = true := by decide +kernel
theorem vO_4 : cz_okM cm_4 := cz_chkM_ok cz_allY_ok cz_allC2_ok cz_asl_ok cz_okI0_ok vD_4 vK_4
set_option maxRecDepth 100000 in
theorem vR_5_0 : cz_chkR prog_1_method_15_code cr_5_0 = true := rws_ok (p := 0) (by decide +kernel)
set_option maxRecDepth 100000 in
theorem vR_5_1 : cz_chkR prog_1_method_15_code cr_5_1 = true := rws_ok (p := 16) (by decide +kernel)
set_option maxRecDepth 100000 in
theorem vR_5_2 : cz_chkR prog_1_method_15_code cr_5_2 = true := rws_ok (p := 34) (by decide +kernel)
set_option maxRecDepth 100000 in
theorem vR_5_3 : cz_chkR prog_1_method_15_code cr_5_3 = true := rws_ok (p := 49) (by decide +kernel)
set_option maxRecDepth 100000 in
theorem vR_5_4 : cz_chkR prog_1_method_15_code cr_5_4 = true := rws_ok (p := 66) (by decide +kernel)
set_option maxRecDepth 100000 in
theorem vR_5_5 : cz_chkR prog_1_method_15_code cr_5_5 = true := rws_ok (p := 80) (by decide +kernel)
theorem vD_5 : cz_chkD cm_5 = true := cz_chkD_of (show ∀ row ∈ [cr_5_0, cr_5_1, cr_5_2, cr_5_3, cr_5_4, cr_5_5], cz_chkR prog_1_method_15_code row = true from List.forall_mem_cons.mpr ⟨vR_5_0, List.forall_mem_cons.mpr ⟨vR_5_1, List.forall_mem_cons.mpr ⟨vR_5_2, List.forall_mem_cons.mpr ⟨vR_5_3, List.forall_mem_cons.mpr ⟨vR_5_4, List.forall_mem_cons.mpr ⟨vR_5_5, fun _ w => (by cases w)⟩⟩⟩⟩⟩⟩)
set_option maxRecDepth 100000 in
theorem vK_5 : cz_chkK cm_5 [[2180], [2181], [2189], [3079, 3080], [5054, 5055], [5089, 5090], [0, 5127, 5129, 50], [0, 5191, 5193, 59], [0, 5224, 5225, 5226], [0, 5234, 5235, 5236]] = true := by decide +kernel
theorem vO_5 : cz_okM cm_5 := cz_chkM_ok cz_allY_ok cz_allC2_ok cz_asl_ok cz_okI0_ok vD_5 vK_5
set_option maxRecDepth 100000 in
theorem vR_6_0 : cz_chkR prog_1_method_20_code cr_6_0 = true := rws_ok (p := 0) (by decide +kernel)
set_option maxRecDepth 100000 in
theorem vR_6_1 : cz_chkR prog_1_method_20_code cr_6_1 = true := rws_ok (p := 18) (by decide +kernel)
set_option maxRecDepth 100000 in
theorem vR_6_2 : cz_chkR prog_1_method_20_code cr_6_2 = true := rws_ok (p := 33) (by decide +kernel)
set_option maxRecDepth 100000 in
theorem vR_6_3 : cz_chkR prog_1_method_20_code cr_6_3 = true := rws_ok (p := 48) (by decide +kernel)
set_option maxRecDepth 100000 in
theorem vR_6_4 : cz_chkR prog_1_method_20_code cr_6_4 = true := rws_ok (p := 65) (by decide +kernel)
theorem vD_6 : cz_chkD cm_6 = true := cz_chkD_of (show ∀ row ∈ [cr_6_0, cr_6_1, cr_6_2, cr_6_3, cr_6_4], cz_chkR prog_1_method_20_code row = true from List.forall_mem_cons.mpr ⟨vR_6_0, List.forall_mem_cons.mpr ⟨vR_6_1, List.forall_mem_cons.mpr ⟨vR_6_2, List.forall_mem_cons.mpr ⟨vR_6_3, List.forall_mem_cons.mpr ⟨vR_6_4, fun _ w => (by cases w)⟩⟩⟩⟩⟩)
set_option maxRecDepth 100000 in
theorem vK_6 : cz_chkK cm_6 [[2180], [2190], [2191], [3079, 3080], [5054, 5055], [5089, 5090], [0, 5127, 5129, 50], [0, 6157, 6158, 6159], [6210, 6211], [0, 6236, 6237, 6238]] = true := by decide +kernel
theorem vO_6 : cz_okM cm_6 := cz_chkM_ok cz_allY_ok cz_allC2_ok cz_asl_ok cz_okI0_ok vD_6 vK_6
set_option maxRecDepth 100000 in
theorem vR_7_0 : cz_chkR prog_1_method_24_code cr_7_0 = true := rws_ok (p := 0) (by decide +kernel)
set_option maxRecDepth 100000 in
theorem vR_7_2 : cz_chkR prog_1_method_24_code cr_7_2 = true := rws_ok (p := 32) (by decide +kernel)
set_option maxRecDepth 100000 in
theorem vR_7_3 : cz_chkR prog_1_method_24_code cr_7_3 = true := rws_ok (p := 49) (by decide +kernel)
set_option maxRecDepth 100000 in
theorem vR_7_4 : cz_chkR prog_1_method_24_code cr_7_4 = true := rws_ok (p := 64) (by decide +kernel)
theorem vD_7 : cz_chkD cm_7 = true := cz_chkD_of (show ∀ row ∈ [cr_7_0, [], cr_7_2, cr_7_3, cr_7_4], cz_chkR prog_1_method_24_code row = true from List.forall_mem_cons.mpr ⟨vR_7_0, List.forall_mem_cons.mpr ⟨rfl, List.forall_mem_cons.mpr ⟨vR_7_2, List.forall_mem_cons.mpr ⟨vR_7_3, List.forall_mem_cons.mpr ⟨vR_7_4, fun _ w => (by cases w)⟩⟩⟩⟩⟩)
set_option maxRecDepth 100000 in
theorem vK_7 : cz_chkK cm_7 [[2184], [2177], [3079, 3080], [1213], [2179], [1211]] = true := by decide +kernel
theorem vO_7 : cz_okM cm_7 := cz_chkM_ok cz_allY_ok cz_allC2_ok cz_asl_ok cz_okI0_ok vD_7 vK_7
set_option maxRecDepth 100000 in
theorem vR_8_0 : cz_chkR prog_1_method_37_code cr_8_0 = true := rws_ok (p := 0) (by decide +kernel)
set_option maxRecDepth 100000 in
theorem vR_8_1 : cz_chkR prog_1_method_37_code cr_8_1 = true := rws_ok (p := 18) (by decide +kernel)
set_option maxRecDepth 100000 in
theorem vR_8_2 : cz_chkR prog_1_method_37_code cr_8_2 = true := rws_ok (p := 32) (by decide +kernel)
set_option maxRecDepth 100000 in
theorem vR_8_3 : cz_chkR prog_1_method_37_code cr_8_3 = true := rws_ok (p := 49) (by decide +kernel)
set_option maxRecDepth 100000 in
theorem vR_8_4 : cz_chkR prog_1_method_37_code cr_8_4 = true := rws_ok (p := 64) (by decide +kernel)
set_option maxRecDepth 100000 in
theorem vR_8_5 : cz_chkR prog_1_method_37_code cr_8_5 = true := rws_ok (p := 80) (by decide +kernel)
set_option maxRecDepth 100000 in
theorem vR_8_6 : cz_chkR prog_1_method_37_code cr_8_6 = true := rws_ok (p := 96) (by decide +kernel)
set_option maxRecDepth 100000 in
theorem vR_8_7 : cz_chkR prog_1_method_37_code cr_8_7 = true := rws_ok (p := 112) (by decide +kernel)
set_option maxRecDepth 100000 in
theorem vR_8_8 : cz_chkR prog_1_method_37_code cr_8_8 = true := rws_ok (p := 128) (by decide +kernel)
set_option maxRecDepth 100000 in
theorem vR_8_9 : cz_chkR prog_1_method_37_code cr_8_9 = true := rws_ok (p := 144) (by decide +kernel)
set_option maxRecDepth 100000 in
theorem vR_8_10 : cz_chkR prog_1_method_37_code cr_8_10 = true := rws_ok (p := 162) (by decide +kernel)
set_option maxRecDepth 100000 in
theorem vR_8_11 : cz_chkR prog_1_method_37_code cr_8_11 = true := rws_ok (p := 178) (by decide +kernel)
set_option maxRecDepth 100000 in
theorem vR_8_12 : cz_chkR prog_1_method_37_code cr_8_12 = true := rws_ok (p := 192) (by decide +kernel)
theorem vD_8 : cz_chkD cm_8 = true := cz_chkD_of (show ∀ row ∈ [cr_8_0, cr_8_1, cr_8_2, cr_8_3, cr_8_4, cr_8_5, cr_8_6, cr_8_7, cr_8_8, cr_8_9, cr_8_10, cr_8_11, cr_8_12], cz_chkR prog_1_method_37_code row = true from List.forall_mem_cons.mpr ⟨vR_8_0, List.forall_mem_cons.mpr ⟨vR_8_1, List.forall_mem_cons.mpr ⟨vR_8_2, List.forall_mem_cons.mpr ⟨vR_8_3, List.forall_mem_cons.mpr ⟨vR_8_4, List.forall_mem_cons.mpr ⟨vR_8_5, List.forall_mem_cons.mpr ⟨vR_8_6, List.forall_mem_cons.mpr ⟨vR_8_7, List.forall_mem_cons.mpr ⟨vR_8_8, List.forall_mem_cons.mpr ⟨vR_8_9, List.forall_mem_cons.mpr ⟨vR_8_10, List.forall_mem_cons.mpr ⟨vR_8_11, List.forall_mem_cons.mpr ⟨vR_8_12, fun _ w => (by cases w)⟩⟩⟩⟩⟩⟩⟩⟩⟩⟩⟩⟩⟩)
set_option maxRecDepth 100000 in
theorem vK_8 : cz_chkK cm_8 [[2176], [5065], [5071, 5072], [5066, 5067]] = true := by decide +kernel
theorem vO_8 : cz_okM cm_8 := cz_chkM_ok cz_allY_ok cz_allC2_ok cz_asl_ok cz_okI0_ok vD_8 vK_8
set_option maxRecDepth 100000 in
theorem vR_9_0 : cz_chkR prog_1_method_17_code cr_9_0 = true := rws_ok (p := 0) (by decide +kernel)
set_option maxRecDepth 100000 in
theorem vR_9_1 : cz_chkR prog_1_method_17_code cr_9_1 = true := rws_ok (p := 16) (by decide +kernel)
set_option maxRecDepth 100000 in
theorem vR_9_2 : cz_chkR prog_1_method_17_code cr_9_2 = true := rws_ok (p := 33) (by decide +kernel)
theorem vD_9 : cz_chkD cm_9 = true := cz_chkD_of (show ∀ row ∈ [cr_9_0, cr_9_1, cr_9_2], cz_chkR prog_1_method_17_code row = true from List.forall_mem_cons.mpr ⟨vR_9_0, List.forall_mem_cons.mpr ⟨vR_9_1, List.forall_mem_cons.mpr ⟨vR_9_2, fun _ w => (by cases w)⟩⟩⟩)
set_option maxRecDepth 100000 in
theorem vK_9 : cz_chkK cm_9 [[2180], [2188], [0, 5127, 5129, 50], [0, 6128, 6130, 79], [0, 6132, 6005, 6006], [0, 6133, 6025, 6026]] = true := by decide +kernel
theorem vO_9 : cz_okM cm_9 := cz_chkM_ok cz_allY_ok cz_allC2_ok cz_asl_ok cz_okI0_ok vD_9 vK_9
set_option maxRecDepth 100000 in
theorem vR_10_0 : cz_chkR prog_1_method_3_code cr_10_0 = true := rws_ok (p := 0) (by decide +kernel)
theorem vD_10 : cz_chkD cm_10 = true := cz_chkD_of (show ∀ row ∈ [cr_10_0], cz_chkR prog_1_method_3_code row = true from List.forall_mem_cons.mpr ⟨vR_10_0, fun _ w => (by cases w)⟩)
set_option maxRecDepth 100000 in
theorem vK_10 : cz_chkK cm_10 [[2177], [3079, 3080]] = true := by decide +kernel
theorem vO_10 : cz_okM cm_10 := cz_chkM_ok cz_allY_ok cz_allC2_ok cz_asl_ok cz_okI0_ok vD_10 vK_10
set_option maxRecDepth 100000 in
theorem vR_11_0 : cz_chkR prog_1_method_2_code cr_11_0 = true := rws_ok (p := 0) (by decide +kernel)
set_option maxRecDepth 100000 in
theorem vR_11_1 : cz_chkR prog_1_method_2_code cr_11_1 = true := rws_ok (p := 16) (by decide +kernel)
set_option maxRecDepth 100000 in
theorem vR_11_2 : cz_chkR prog_1_method_2_code cr_11_2 = true := rws_ok (p := 32) (by decide +kernel)
set_option maxRecDepth 100000 in
theorem vR_11_3 : cz_chkR prog_1_method_2_code cr_11_3 = true := rws_ok (p := 48) (by decide +kernel)
theorem vD_11 : cz_chkD cm_11 = true := cz_chkD_of (show ∀ row ∈ [cr_11_0, cr_11_1, cr_11_2, cr_11_3], cz_chkR prog_1_method_2_code row = true from List.forall_mem_cons.mpr ⟨vR_11_0, List.forall_mem_cons.mpr ⟨vR_11_1, List.forall_mem_cons.mpr ⟨vR_11_2, List.forall_mem_cons.mpr ⟨vR_11_3, fun _ w => (by cases w)⟩⟩⟩⟩)
set_option maxRecDepth 100000 in
theorem vK_11 : cz_chkK cm_11 [[2177], [3001], [3044], [0, 3067, 3069, 1]] = true := by decide +kernel
theorem vO_11 : cz_okM cm_11 := cz_chkM_ok cz_allY_ok cz_allC2_ok cz_asl_ok cz_okI0_ok vD_11 vK_11
set_option maxRecDepth 100000 in
theorem vR_12_0 : cz_chkR prog_1_method_31_code cr_12_0 = true := rws_ok (p := 0) (by decide +kernel)
set_option maxRecDepth 100000 in
theorem vR_12_1 : cz_chkR prog_1_method_31_code cr_12_1 = true := rws_ok (p := 16) (by decide +kernel)
set_option maxRecDepth 100000 in
theorem vR_12_2 : cz_chkR prog_1_method_31_code cr_12_2 = true := rws_ok (p := 33) (by decide +kernel)
theorem vD_12 : cz_chkD cm_12 = true := cz_chkD_of (show ∀ row ∈ [cr_12_0, cr_12_1, cr_12_2], cz_chkR prog_1_method_31_code row = true from List.forall_mem_cons.mpr ⟨vR_12_0, List.forall_mem_cons.mpr ⟨vR_12_1, List.forall_mem_cons.mpr ⟨vR_12_2, fun _ w => (by cases w)⟩⟩⟩)
set_option maxRecDepth 100000 in
theorem vK_12 : cz_chkK cm_12 [[2176], [2177]] = true := by decide +kernel
theorem vO_12 : cz_okM cm_12 := cz_chkM_ok cz_allY_ok cz_allC2_ok cz_asl_ok cz_okI0_ok vD_12 vK_12
set_option maxRecDepth 100000 in
theorem vR_13_0 : cz_chkR prog_1_method_33_code cr_13_0 = true := rws_ok (p := 0) (by decide +kernel)
set_option maxRecDepth 100000 in
theorem vR_13_1 : cz_chkR prog_1_method_33_code cr_13_1 = true := rws_ok (p := 16) (by decide +kernel)
set_option maxRecDepth 100000 in
theorem vR_13_2 : cz_chkR prog_1_method_33_code cr_13_2 = true := rws_ok (p := 32) (by decide +kernel)
set_option maxRecDepth 100000 in
theorem vR_13_3 : cz_chkR prog_1_method_33_code cr_13_3 = true := rws_ok (p := 48) (by decide +kernel)
set_option maxRecDepth 100000 in
theorem vR_13_4 : cz_chkR prog_1_method_33_code cr_13_4 = true := rws_ok (p := 66) (by decide +kernel)
set_option maxRecDepth 100000 in
theorem vR_13_5 : cz_chkR prog_1_method_33_code cr_13_5 = true := rws_ok (p := 80) (by decide +kernel)
set_option maxRecDepth 100000 in
theorem vR_13_6 : cz_chkR prog_1_method_33_code cr_13_6 = true := rws_ok (p := 96) (by decide +kernel)
theorem vD_13 : cz_chkD cm_13 = true := cz_chkD_of (show ∀ row ∈ [cr_13_0, cr_13_1, cr_13_2, cr_13_3, cr_13_4, cr_13_5, cr_13_6], cz_chkR prog_1_method_33_code row = true from List.forall_mem_cons.mpr ⟨vR_13_0, List.forall_mem_cons.mpr ⟨vR_13_1, List.forall_mem_cons.mpr ⟨vR_13_2, List.forall_mem_cons.mpr ⟨vR_13_3, List.forall_mem_cons.mpr ⟨vR_13_4, List.forall_mem_cons.mpr ⟨vR_13_5, List.forall_mem_cons.mpr ⟨vR_13_6, fun _ w => (by cases w)⟩⟩⟩⟩⟩⟩⟩)
set_option maxRecDepth 100000 in
theorem vK_13 : cz_chkK cm_13 [[2182], [2187], [2189], [0, 5131, 5132, 5133], [0, 5224, 5225, 5226]] = true := by decide +kernel
theorem vO_13 : cz_okM cm_13 := cz_chkM_ok cz_allY_ok cz_allC2_ok cz_asl_ok cz_okI0_ok vD_13 vK_13
set_option maxRecDepth 100000 in
theorem vR_14_0 : cz_chkR prog_1_method_40_code cr_14_0 = true := rws_ok (p := 0) (by decide +kernel)
set_option maxRecDepth 100000 in
theorem vR_14_1 : cz_chkR prog_1_method_40_code cr_14_1 = true := rws_ok (p := 16) (by decide +kernel)
theorem vD_14 : cz_chkD cm_14 = true := cz_chkD_of (show ∀ row ∈ [cr_14_0, cr_14_1], cz_chkR prog_1_method_40_code row = true from List.forall_mem_cons.mpr ⟨vR_14_0, List.forall_mem_cons.mpr ⟨vR_14_1, fun _ w => (by cases w)⟩⟩)
set_option maxRecDepth 100000 in
theorem vK_14 : cz_chkK cm_14 [[1062], [1056], [5066, 5067]] = true := by decide +kernel
theorem vO_14 : cz_okM cm_14 := cz_chkM_ok cz_allY_ok cz_allC2_ok cz_asl_ok cz_okI0_ok vD_14 vK_14
set_option maxRecDepth 100000 in
theorem vR_15_0 : cz_chkR prog_1_method_13_code cr_15_0 = true := rws_ok (p := 0) (by decide +kernel)
set_option maxRecDepth 100000 in
theorem vR_15_1 : cz_chkR prog_1_method_13_code cr_15_1 = true := rws_ok (p := 18) (by decide +kernel)
set_option maxRecDepth 100000 in
theorem vR_15_2 : cz_chkR prog_1_method_13_code cr_15_2 = true := rws_ok (p := 32) (by decide +kernel)
set_option maxRecDepth 100000 in
theorem vR_15_3 : cz_chkR prog_1_method_13_code cr_15_3 = true := rws_ok (p := 48) (by decide +kernel)
theorem vD_15 : cz_chkD cm_15 = true := cz_chkD_of (show ∀ row ∈ [cr_15_0, cr_15_1, cr_15_2, cr_15_3], cz_chkR prog_1_method_13_code row = true from List.forall_mem_cons.mpr ⟨vR_15_0, List.forall_mem_cons.mpr ⟨vR_15_1, List.forall_mem_cons.mpr ⟨vR_15_2, List.forall_mem_cons.mpr ⟨vR_15_3, fun _ w => (by cases w)⟩⟩⟩⟩)
set_option maxRecDepth 100000 in
theorem vK_15 : cz_chkK cm_15 [[2180], [2181], [2187], [3079, 3080], [5054, 5055], [0, 5127, 5129, 50], [0, 5131, 5132, 5133], [0, 5202, 5203, 5204]] = true := by decide +kernel
theorem vO_15 : cz_okM cm_15 := cz_chkM_ok cz_allY_ok cz_allC2_ok cz_asl_ok cz_okI0_ok vD_15 vK_15
set_option maxRecDepth 100000 in
theorem vR_16_0 : cz_chkR prog_1_method_39_code cr_16_0 = true := rws_ok (p := 0) (by decide +kernel)
set_option maxRecDepth 100000 in
theorem vR_16_1 : cz_chkR prog_1_method_39_code cr_16_1 = true := rws_ok (p := 18) (by decide +kernel)
theorem vD_16 : cz_chkD cm_16 = true := cz_chkD_of (show ∀ row ∈ [cr_16_0, cr_16_1], cz_chkR prog_1_method_39_code row = true from List.forall_mem_cons.mpr ⟨vR_16_0, List.forall_mem_cons.mpr ⟨vR_16_1, fun _ w => (by cases w)⟩⟩)
set_option maxRecDepth 100000 in
theorem vK_16 : cz_chkK cm_16 [[5069], [5070]] = true := by decide +kernel
theorem vO_16 : cz_okM cm_16 := cz_chkM_ok cz_allY_ok cz_allC2_ok cz_asl_ok cz_okI0_ok vD_16 vK_16
set_option maxRecDepth 100000 in
theorem vR_17_0 : cz_chkR prog_1_method_14_code cr_17_0 = true := rws_ok (p := 0) (by decide +kernel)
set_option maxRecDepth 100000 in
theorem vR_17_1 : cz_chkR prog_1_method_14_code cr_17_1 = true := rws_ok (p := 16) (by decide +kernel)
set_option maxRecDepth 100000 in
theorem vR_17_2 : cz_chkR prog_1_method_14_code cr_17_2 = true := rws_ok (p := 32) (by decide +kernel)
set_option maxRecDepth 100000 in
theorem vR_17_3 : cz_chkR prog_1_method_14_code cr_17_3 = true := rws_ok (p := 48) (by decide +kernel)
theorem vD_17 : cz_chkD cm_17 = true := cz_chkD_of (show ∀ row ∈ [cr_17_0, cr_17_1, cr_17_2, cr_17_3], cz_chkR prog_1_method_14_code row = true from List.forall_mem_cons.mpr ⟨vR_17_0, List.forall_mem_cons.mpr ⟨vR_17_1, List.forall_mem_cons.mpr ⟨vR_17_2, List.forall_mem_cons.mpr ⟨vR_17_3, fun _ w => (by cases w)⟩⟩⟩⟩)
set_option maxRecDepth 100000 in
theorem vK_17 : cz_chkK cm_17 [[2180], [2181], [2187], [3079, 3080], [5054, 5055], [5089, 5090], [0, 5127, 5129, 50], [0, 5191, 5193, 59], [0, 5213, 5214, 5215]] = true := by decide +kernel
theorem vO_17 : cz_okM cm_17 := cz_chkM_ok cz_allY_ok cz_allC2_ok cz_asl_ok cz_okI0_ok vD_17 vK_17
set_option maxRecDepth 100000 in
theorem vR_18_0 : cz_chkR prog_1_method_32_code cr_18_0 = true := rws_ok (p := 0) (by decide +kernel)
set_option maxRecDepth 100000 in
theorem vR_18_1 : cz_chkR prog_1_method_32_code cr_18_1 = true := rws_ok (p := 18) (by decide +kernel)
theorem vD_18 : cz_chkD cm_18 = true := cz_chkD_of (show ∀ row ∈ [cr_18_0, cr_18_1], cz_chkR prog_1_method_32_code row = true from List.forall_mem_cons.mpr ⟨vR_18_0, List.forall_mem_cons.mpr ⟨vR_18_1, fun _ w => (by cases w)⟩⟩)
set_option maxRecDepth 100000 in
theorem vK_18 : cz_chkK cm_18 [[2180], [2181], [1062], [0, 5099, 5100, 5101]] = true := by decide +kernel
theorem vO_18 : cz_okM cm_18 := cz_chkM_ok cz_allY_ok cz_allC2_ok cz_asl_ok cz_okI0_ok vD_18 vK_18
set_option maxRecDepth 100000 in
theorem vR_19_0 : cz_chkR prog_1_method_19_code cr_19_0 = true := rws_ok (p := 0) (by decide +kernel)
set_option maxRecDepth 100000 in
theorem vR_19_1 : cz_chkR prog_1_method_19_code cr_19_1 = true := rws_ok (p := 18) (by decide +kernel)
set_option maxRecDepth 100000 in
theorem vR_19_2 : cz_chkR prog_1_method_19_code cr_19_2 = true := rws_ok (p := 32) (by decide +kernel)
set_option maxRecDepth 100000 in
theorem vR_19_3 : cz_chkR prog_1_method_19_code cr_19_3 = true := rws_ok (p := 49) (by decide +kernel)
set_option maxRecDepth 100000 in
theorem vR_19_4 : cz_chkR prog_1_method_19_code cr_19_4 = true := rws_ok (p := 64) (by decide +kernel)
set_option maxRecDepth 100000 in
theorem vR_19_5 : cz_chkR prog_1_method_19_code cr_19_5 = true := rws_ok (p := 80) (by decide +kernel)
theorem vD_19 : cz_chkD cm_19 = true := cz_chkD_of (show ∀ row ∈ [cr_19_0, cr_19_1, cr_19_2, cr_19_3, cr_19_4, cr_19_5], cz_chkR prog_1_method_19_code row = true from List.forall_mem_cons.mpr ⟨vR_19_0, List.forall_mem_cons.mpr ⟨vR_19_1, List.forall_mem_cons.mpr ⟨vR_19_2, List.forall_mem_cons.mpr ⟨vR_19_3, List.forall_mem_cons.mpr ⟨vR_19_4, List.forall_mem_cons.mpr ⟨vR_19_5, fun _ w => (by cases w)⟩⟩⟩⟩⟩⟩)
set_option maxRecDepth 100000 in
theorem vK_19 : cz_chkK cm_19 [[1043], [2178], [2180], [2190], [3079, 3080], [5054, 5055], [5089, 5090], [0, 5127, 5129, 50], [0, 6157, 6158, 6159], [6210, 6211], [0, 6214, 6215, 6216], [0, 6222, 6223, 6224], [2179]] = true := by decide +kernel
theorem vO_19 : cz_okM cm_19 := cz_chkM_ok cz_allY_ok cz_allC2_ok cz_asl_ok cz_okI0_ok vD_19 vK_19
set_option maxRecDepth 100000 in
theorem vR_20_0 : cz_chkR prog_1_method_34_code cr_20_0 = true := rws_ok (p := 0) (by decide +kernel)
theorem vD_20 : cz_chkD cm_20 = true := cz_chkD_of (show ∀ row ∈ [cr_20_0], cz_chkR prog_1_method_34_code row = true from List.forall_mem_cons.mpr ⟨vR_20_0, fun _ w => (by cases w)⟩)
set_option maxRecDepth 100000 in
theorem vK_20 : cz_chkK cm_20 [[6213, 5165]] = true := by decide +kernel
theorem vO_20 : cz_okM cm_20 := cz_chkM_ok cz_allY_ok cz_allC2_ok cz_asl_ok cz_okI0_ok vD_20 vK_20
set_option maxRecDepth 100000 in
theorem vR_21_0 : cz_chkR prog_1_method_4_code cr_21_0 = true := rws_ok (p := 0) (by decide +kernel)
set_option maxRecDepth 100000 in
theorem vR_21_1 : cz_chkR prog_1_method_4_code cr_21_1 = true := rws_ok (p := 16) (by decide +kernel)
set_option maxRecDepth 100000 in
theorem vR_21_2 : cz_chkR prog_1_method_4_code cr_21_2 = true := rws_ok (p := 32) (by decide +kernel)
theorem vD_21 : cz_chkD cm_21 = true := cz_chkD_of (show ∀ row ∈ [cr_21_0, cr_21_1, cr_21_2], cz_chkR prog_1_method_4_code row = true from List.forall_mem_cons.mpr ⟨vR_21_0, List.forall_mem_cons.mpr ⟨vR_21_1, List.forall_mem_cons.mpr ⟨vR_21_2, fun _ w => (by cases w)⟩⟩⟩)
set_option maxRecDepth 100000 in
theorem vK_21 : cz_chkK cm_21 [[2185], [2177], [3079, 3080], [0, 3106, 3108, 2], [0, 3125, 3126, 3127], [4167], [4176]] = true := by decide +kernel
theorem vO_21 : cz_okM cm_21 := cz_chkM_ok cz_allY_ok cz_allC2_ok cz_asl_ok cz_okI0_ok vD_21 vK_21
set_option maxRecDepth 100000 in
theorem vR_22_0 : cz_chkR prog_1_method_16_code cr_22_0 = true := rws_ok (p := 0) (by decide +kernel)
set_option maxRecDepth 100000 in
theorem vR_22_1 : cz_chkR prog_1_method_16_code cr_22_1 = true := rws_ok (p := 18) (by decide +kernel)
set_option maxRecDepth 100000 in
theorem vR_22_2 : cz_chkR prog_1_method_16_code cr_22_2 = true := rws_ok (p := 33) (by decide +kernel)
set_option maxRecDepth 100000 in
theorem vR_22_3 : cz_chkR prog_1_method_16_code cr_22_3 = true := rws_ok (p := 48) (by decide +kernel)
set_option maxRecDepth 100000 in
theorem vR_22_4 : cz_chkR prog_1_method_16_code cr_22_4 = true := rws_ok (p := 65) (by decide +kernel)
theorem vD_22 : cz_chkD cm_22 = true := cz_chkD_of (show ∀ row ∈ [cr_22_0, cr_22_1, cr_22_2, cr_22_3, cr_22_4], cz_chkR prog_1_method_16_code row = true from List.forall_mem_cons.mpr ⟨vR_22_0, List.forall_mem_cons.mpr ⟨vR_22_1, List.forall_mem_cons.mpr ⟨vR_22_2, List.forall_mem_cons.mpr ⟨vR_22_3, List.forall_mem_cons.mpr ⟨vR_22_4, fun _ w => (by cases w)⟩⟩⟩⟩⟩)
set_option maxRecDepth 100000 in
theorem vK_22 : cz_chkK cm_22 [[2180], [2181], [2183], [3079, 3080], [5054, 5055], [5089, 5090], [0, 5127, 5129, 50], [0, 5202, 5203, 5204], [0, 6117, 6119, 78]] = true := by decide +kernel
theorem vO_22 : cz_okM cm_22 := cz_chkM_ok cz_allY_ok cz_allC2_ok cz_asl_ok cz_okI0_ok vD_22 vK_22
set_option maxRecDepth 100000 in
theorem vR_23_0 : cz_chkR prog_1_method_18_code cr_23_0 = true := rws_ok (p := 0) (by decide +kernel)
set_option maxRecDepth 100000 in
theorem vR_23_1 : cz_chkR prog_1_method_18_code cr_23_1 = true := rws_ok (p := 16) (by decide +kernel)
set_option maxRecDepth 100000 in
theorem vR_23_2 : cz_chkR prog_1_method_18_code cr_23_2 = true := rws_ok (p := 34) (by decide +kernel)
set_option maxRecDepth 100000 in
theorem vR_23_3 : cz_chkR prog_1_method_18_code cr_23_3 = true := rws_ok (p := 49) (by decide +kernel)
theorem vD_23 : cz_chkD cm_23 = true := cz_chkD_of (show ∀ row ∈ [cr_23_0, cr_23_1, cr_23_2, cr_23_3], cz_chkR prog_1_method_18_code row = true from List.forall_mem_cons.mpr ⟨vR_23_0, List.forall_mem_cons.mpr ⟨vR_23_1, List.forall_mem_cons.mpr ⟨vR_23_2, List.forall_mem_cons.mpr ⟨vR_23_3, fun _ w => (by cases w)⟩⟩⟩⟩)
set_option maxRecDepth 100000 in
theorem vK_23 : cz_chkK cm_23 [[2180], [2188], [0, 5127, 5129, 50], [0, 6128, 6130, 79], [0, 6132, 6005, 6006], [0, 6141, 6142, 6143], [0, 6146, 6147, 6148]] = true := by decide +kernel
theorem vO_23 : cz_okM cm_23 := cz_chkM_ok cz_allY_ok cz_allC2_ok cz_asl_ok cz_okI0_ok vD_23 vK_23
set_option maxRecDepth 100000 in
theorem vR_24_0 : cz_chkR prog_1_method_12_code cr_24_0 = true := rws_ok (p := 0) (by decide +kernel)
set_option maxRecDepth 100000 in
theorem vR_24_1 : cz_chkR prog_1_method_12_code cr_24_1 = true := rws_ok (p := 18) (by decide +kernel)
set_option maxRecDepth 100000 in
theorem vR_24_2 : cz_chkR prog_1_method_12_code cr_24_2 = true := rws_ok (p := 32) (by decide +kernel)
theorem vD_24 : cz_chkD cm_24 = true := cz_chkD_of (show ∀ row ∈ [cr_24_0, cr_24_1, cr_24_2], cz_chkR prog_1_method_12_code row = true from List.forall_mem_cons.mpr ⟨vR_24_0, List.forall_mem_cons.mpr ⟨vR_24_1, List.forall_mem_cons.mpr ⟨vR_24_2, fun _ w => (by cases w)⟩⟩⟩)
set_option maxRecDepth 100000 in
theorem vK_24 : cz_chkK cm_24 [[2180], [2181], [2187], [3079, 3080], [5054, 5055], [5089, 5090], [0, 5127, 5129, 50], [0, 5131, 5132, 5133], [0, 5191, 5193, 59]] = true := by decide +kernel
theorem vO_24 : cz_okM cm_24 := cz_chkM_ok cz_allY_ok cz_allC2_ok cz_asl_ok cz_okI0_ok vD_24 vK_24
set_option maxRecDepth 100000 in
theorem vR_25_0 : cz_chkR prog_1_method_9_code cr_25_0 = true := rws_ok (p := 0) (by decide +kernel)
set_option maxRecDepth 100000 in
theorem vR_25_1 : cz_chkR prog_1_method_9_code cr_25_1 = true := rws_ok (p := 16) (by decide +kernel)
set_option maxRecDepth 100000 in
theorem vR_25_2 : cz_chkR prog_1_method_9_code cr_25_2 = true := rws_ok (p := 34) (by decide +kernel)
set_option maxRecDepth 100000 in
theorem vR_25_3 : cz_chkR prog_1_method_9_code cr_25_3 = true := rws_ok (p := 48) (by decide +kernel)
theorem vD_25 : cz_chkD cm_25 = true := cz_chkD_of (show ∀ row ∈ [cr_25_0, cr_25_1, cr_25_2, cr_25_3], cz_chkR prog_1_method_9_code row = true from List.forall_mem_cons.mpr ⟨vR_25_0, List.forall_mem_cons.mpr ⟨vR_25_1, List.forall_mem_cons.mpr ⟨vR_25_2, List.forall_mem_cons.mpr ⟨vR_25_3, fun _ w => (by cases w)⟩⟩⟩⟩)
set_option maxRecDepth 100000 in
theorem vK_25 : cz_chkK cm_25 [[2180], [3079, 3080], [1062], [5054, 5055], [0, 5099, 5100, 5101]] = true := by decide +kernel
theorem vO_25 : cz_okM cm_25 := cz_chkM_ok cz_allY_ok cz_allC2_ok cz_asl_ok cz_okI0_ok vD_25 vK_25
set_option maxRecDepth 100000 in
theorem vR_26_0 : cz_chkR prog_1_method_42_code cr_26_0 = true := rws_ok (p := 0) (by decide +kernel)
set_option maxRecDepth 100000 in
theorem vR_26_1 : cz_chkR prog_1_method_42_code cr_26_1 = true := rws_ok (p := 17) (by decide +kernel)
set_option maxRecDepth 100000 in
theorem vR_26_2 : cz_chkR prog_1_method_42_code cr_26_2 = true := rws_ok (p := 33) (by decide +kernel)
set_option maxRecDepth 100000 in
theorem vR_26_3 : cz_chkR prog_1_method_42_code cr_26_3 = true := rws_ok (p := 49) (by decide +kernel)
theorem vD_26 : cz_chkD cm_26 = true := cz_chkD_of (show ∀ row ∈ [cr_26_0, cr_26_1, cr_26_2, cr_26_3], cz_chkR prog_1_method_42_code row = true from List.forall_mem_cons.mpr ⟨vR_26_0, List.forall_mem_cons.mpr ⟨vR_26_1, List.forall_mem_cons.mpr ⟨vR_26_2, List.forall_mem_cons.mpr ⟨vR_26_3, fun _ w => (by cases w)⟩⟩⟩⟩)
set_option maxRecDepth 100000 in
theorem vK_26 : cz_chkK cm_26 [] = true := by decide +kernel
theorem vO_26 : cz_okM cm_26 := cz_chkM_ok cz_allY_ok cz_allC2_ok cz_asl_ok cz_okI0_ok vD_26 vK_26
set_option maxRecDepth 100000 in
theorem vR_27_0 : cz_chkR prog_1_method_10_code cr_27_0 = true := rws_ok (p := 0) (by decide +kernel)
set_option maxRecDepth 100000 in
theorem vR_27_1 : cz_chkR prog_1_method_10_code cr_27_1 = true := rws_ok (p := 18) (by decide +kernel)
set_option maxRecDepth 100000 in
theorem vR_27_2 : cz_chkR prog_1_method_10_code cr_27_2 = true := rws_ok (p := 33) (by decide +kernel)
theorem vD_27 : cz_chkD cm_27 = true := cz_chkD_of (show ∀ row ∈ [cr_27_0, cr_27_1, cr_27_2], cz_chkR prog_1_method_10_code row = true from List.forall_mem_cons.mpr ⟨vR_27_0, List.forall_mem_cons.mpr ⟨vR_27_1, List.forall_mem_cons.mpr ⟨vR_27_2, fun _ w => (by cases w)⟩⟩⟩)
set_option maxRecDepth 100000 in
theorem vK_27 : cz_chkK cm_27 [[2180], [1062], [5054, 5055], [5089, 5090], [1056]] = true := by decide +kernel
theorem vO_27 : cz_okM cm_27 := cz_chkM_ok cz_allY_ok cz_allC2_ok cz_asl_ok cz_okI0_ok vD_27 vK_27
set_option maxRecDepth 100000 in
theorem vR_28_0 : cz_chkR prog_1_method_35_code cr_28_0 = true := rws_ok (p := 0) (by decide +kernel)
set_option maxRecDepth 100000 in
theorem vR_28_1 : cz_chkR prog_1_method_35_code cr_28_1 = true := rws_ok (p := 16) (by decide +kernel)
set_option maxRecDepth 100000 in
theorem vR_28_2 : cz_chkR prog_1_method_35_code cr_28_2 = true := rws_ok (p := 32) (by decide +kernel)
theorem vD_28 : cz_chkD cm_28 = true := cz_chkD_of (show ∀ row ∈ [cr_28_0, cr_28_1, cr_28_2], cz_chkR prog_1_method_35_code row = true from List.forall_mem_cons.mpr ⟨vR_28_0, List.forall_mem_cons.mpr ⟨vR_28_1, List.forall_mem_cons.mpr ⟨vR_28_2, fun _ w => (by cases w)⟩⟩⟩)
set_option maxRecDepth 100000 in
theorem vK_28 : cz_chkK cm_28 [[0, 5061, 5063, 48], [5071, 5072]] = true := by decide +kernel
theorem vO_28 : cz_okM cm_28 := cz_chkM_ok cz_allY_ok cz_allC2_ok cz_asl_ok cz_okI0_ok vD_28 vK_28
set_option maxRecDepth 100000 in
theorem vR_29_0 : cz_chkR prog_1_method_36_code cr_29_0 = true := rws_ok (p := 0) (by decide +kernel)
set_option maxRecDepth 100000 in
theorem vR_29_1 : cz_chkR prog_1_method_36_code cr_29_1 = true := rws_ok (p := 17) (by decide +kernel)
set_option maxRecDepth 100000 in
theorem vR_29_2 : cz_chkR prog_1_method_36_code cr_29_2 = true := rws_ok (p := 32) (by decide +kernel)
set_option maxRecDepth 100000 in
theorem vR_29_3 : cz_chkR prog_1_method_36_code cr_29_3 = true := rws_ok (p := 49) (by decide +kernel)
theorem vD_29 : cz_chkD cm_29 = true := cz_chkD_of (show ∀ row ∈ [cr_29_0, cr_29_1, cr_29_2, cr_29_3], cz_chkR prog_1_method_36_code row = true from List.forall_mem_cons.mpr ⟨vR_29_0, List.forall_mem_cons.mpr ⟨vR_29_1, List.forall_mem_cons.mpr ⟨vR_29_2, List.forall_mem_cons.mpr ⟨vR_29_3, fun _ w => (by cases w)⟩⟩⟩⟩)
set_option maxRecDepth 100000 in
theorem vK_29 : cz_chkK cm_29 [[1062], [0, 5078, 5079, 5080], [0, 5061, 5063, 48], [5071, 5072]] = true := by decide +kernel
theorem vO_29 : cz_okM cm_29 := cz_chkM_ok cz_allY_ok cz_allC2_ok cz_asl_ok cz_okI0_ok vD_29 vK_29
set_option maxRecDepth 100000 in
theorem vR_30_0 : cz_chkR prog_1_method_29_code cr_30_0 = true := rws_ok (p := 0) (by decide +kernel)
set_option maxRecDepth 100000 in
theorem vR_30_1 : cz_chkR prog_1_method_29_code cr_30_1 = true := rws_ok (p := 17) (by decide +kernel)
theorem vD_30 : cz_chkD cm_30 = true := cz_chkD_of (show ∀ row ∈ [cr_30_0, cr_30_1], cz_chkR prog_1_method_29_code row = true from List.forall_mem_cons.mpr ⟨vR_30_0, List.forall_mem_cons.mpr ⟨vR_30_1, fun _ w => (by cases w)⟩⟩)
set_option maxRecDepth 100000 in
theorem vK_30 : cz_chkK cm_30 [[2184], [1213], [3110], [3119]] = true := by decide +kernel
theorem vO_30 : cz_okM cm_30 := cz_chkM_ok cz_allY_ok cz_allC2_ok cz_asl_ok cz_okI0_ok vD_30 vK_30
set_option maxRecDepth 100000 in
theorem vR_31_0 : cz_chkR prog_1_method_27_code cr_31_0 = true := rws_ok (p := 0) (by decide +kernel)
set_option maxRecDepth 100000 in
theorem vR_31_1 : cz_chkR prog_1_method_27_code cr_31_1 = true := rws_ok (p := 16) (by decide +kernel)
theorem vD_31 : cz_chkD cm_31 = true := cz_chkD_of (show ∀ row ∈ [cr_31_0, cr_31_1], cz_chkR prog_1_method_27_code row = true from List.forall_mem_cons.mpr ⟨vR_31_0, List.forall_mem_cons.mpr ⟨vR_31_1, fun _ w => (by cases w)⟩⟩)
set_option maxRecDepth 100000 in
theorem vK_31 : cz_chkK cm_31 [[2180], [3079, 3080], [1062], [5054, 5055]] = true := by decide +kernel
theorem vO_31 : cz_okM cm_31 := cz_chkM_ok cz_allY_ok cz_allC2_ok cz_asl_ok cz_okI0_ok vD_31 vK_31
set_option maxRecDepth 100000 in
theorem vR_32_0 : cz_chkR prog_1_method_25_code cr_32_0 = true := rws_ok (p := 0) (by decide +kernel)
set_option maxRecDepth 100000 in
theorem vR_32_1 : cz_chkR prog_1_method_25_code cr_32_1 = true := rws_ok (p := 17) (by decide +kernel)
theorem vD_32 : cz_chkD cm_32 = true := cz_chkD_of (show ∀ row ∈ [cr_32_0, cr_32_1], cz_chkR prog_1_method_25_code row = true from List.forall_mem_cons.mpr ⟨vR_32_0, List.forall_mem_cons.mpr ⟨vR_32_1, fun _ w => (by cases w)⟩⟩)
set_option maxRecDepth 100000 in
theorem vK_32 : cz_chkK cm_32 [[3082], [3091]] = true := by decide +kernel
theorem vO_32 : cz_okM cm_32 := cz_chkM_ok cz_allY_ok cz_allC2_ok cz_asl_ok cz_okI0_ok vD_32 vK_32
set_option maxRecDepth 100000 in
theorem vR_33_0 : cz_chkR prog_1_method_30_code cr_33_0 = true := rws_ok (p := 0) (by decide +kernel)
theorem vD_33 : cz_chkD cm_33 = true := cz_chkD_of (show ∀ row ∈ [cr_33_0], cz_chkR prog_1_method_30_code row = true from List.forall_mem_cons.mpr ⟨vR_33_0, fun _ w => (by cases w)⟩)
set_option maxRecDepth 100000 in
theorem vK_33 : cz_chkK cm_33 [[3001], [3044]] = true := by decide +kernel
theorem vO_33 : cz_okM cm_33 := cz_chkM_ok cz_allY_ok cz_allC2_ok cz_asl_ok cz_okI0_ok vD_33 vK_33
set_option maxRecDepth 100000 in
theorem vR_34_0 : cz_chkR prog_1_method_28_code cr_34_0 = true := rws_ok (p := 0) (by decide +kernel)
set_option maxRecDepth 100000 in
theorem vR_34_1 : cz_chkR prog_1_method_28_code cr_34_1 = true := rws_ok (p := 17) (by decide +kernel)
theorem vD_34 : cz_chkD cm_34 = true := cz_chkD_of (show ∀ row ∈ [cr_34_0, cr_34_1], cz_chkR prog_1_method_28_code row = true from List.forall_mem_cons.mpr ⟨vR_34_0, List.forall_mem_cons.mpr ⟨vR_34_1, fun _ w => (by cases w)⟩⟩)
set_option maxRecDepth 100000 in
theorem vK_34 : cz_chkK cm_34 [[2184], [1213], [3110], [3119]] = true := by decide +kernel
theorem vO_34 : cz_okM cm_34 := cz_chkM_ok cz_allY_ok cz_allC2_ok cz_asl_ok cz_okI0_ok vD_34 vK_34
set_option maxRecDepth 100000 in
theorem vR_35_0 : cz_chkR prog_1_method_26_code cr_35_0 = true := rws_ok (p := 0) (by decide +kernel)
theorem vD_35 : cz_chkD cm_35 = true := cz_chkD_of (show ∀ row ∈ [cr_35_0], cz_chkR prog_1_method_26_code row = true from List.forall_mem_cons.mpr ⟨vR_35_0, fun _ w => (by cases w)⟩)
set_option maxRecDepth 100000 in
theorem vK_35 : cz_chkK cm_35 [[3079, 3080]] = true := by decide +kernel
theorem vO_35 : cz_okM cm_35 := cz_chkM_ok cz_allY_ok cz_allC2_ok cz_asl_ok cz_okI0_ok vD_35 vK_35
set_option maxRecDepth 100000 in
theorem vR_36_0 : cz_chkR prog_1_method_6_code cr_36_0 = true := rws_ok (p := 0) (by decide +kernel)
set_option maxRecDepth 100000 in
theorem vR_36_1 : cz_chkR prog_1_method_6_code cr_36_1 = true := rws_ok (p := 16) (by decide +kernel)
set_option maxRecDepth 100000 in
theorem vR_36_2 : cz_chkR prog_1_method_6_code cr_36_2 = true := rws_ok (p := 32) (by decide +kernel)
set_option maxRecDepth 100000 in
theorem vR_36_3 : cz_chkR prog_1_method_6_code cr_36_3 = true := rws_ok (p := 48) (by decide +kernel)
theorem vD_36 : cz_chkD cm_36 = true := cz_chkD_of (show ∀ row ∈ [cr_36_0, cr_36_1, cr_36_2, cr_36_3], cz_chkR prog_1_method_6_code row = true from List.forall_mem_cons.mpr ⟨vR_36_0, List.forall_mem_cons.mpr ⟨vR_36_1, List.forall_mem_cons.mpr ⟨vR_36_2, List.forall_mem_cons.mpr ⟨vR_36_3, fun _ w => (by cases w)⟩⟩⟩⟩)
set_option maxRecDepth 100000 in
theorem vK_36 : cz_chkK cm_36 [[2180], [2184], [1213], [0, 2229, 2230, 2231], [1062]] = true := by decide +kernel
theorem vO_36 : cz_okM cm_36 := cz_chkM_ok cz_allY_ok cz_allC2_ok cz_asl_ok cz_okI0_ok vD_36 vK_36
set_option maxRecDepth 100000 in
theorem vR_37_0 : cz_chkR prog_1_method_5_code cr_37_0 = true := rws_ok (p := 0) (by decide +kernel)
set_option maxRecDepth 100000 in
theorem vR_37_1 : cz_chkR prog_1_method_5_code cr_37_1 = true := rws_ok (p := 17) (by decide +kernel)
set_option maxRecDepth 100000 in
theorem vR_37_2 : cz_chkR prog_1_method_5_code cr_37_2 = true := rws_ok (p := 34) (by decide +kernel)
theorem vD_37 : cz_chkD cm_37 = true := cz_chkD_of (show ∀ row ∈ [cr_37_0, cr_37_1, cr_37_2], cz_chkR prog_1_method_5_code row = true from List.forall_mem_cons.mpr ⟨vR_37_0, List.forall_mem_cons.mpr ⟨vR_37_1, List.forall_mem_cons.mpr ⟨vR_37_2, fun _ w => (by cases w)⟩⟩⟩)
set_option maxRecDepth 100000 in
theorem vK_37 : cz_chkK cm_37 [[2184], [2186], [0, 3106, 3108, 2], [0, 4190, 4191, 4192], [5032], [5041], [1213], [2034]] = true := by decide +kernel
theorem vO_37 : cz_okM cm_37 := cz_chkM_ok cz_allY_ok cz_allC2_ok cz_asl_ok cz_okI0_ok vD_37 vK_37
set_option maxRecDepth 100000 in
theorem vR_38_0 : cz_chkR prog_1_method_11_code cr_38_0 = true := rws_ok (p := 0) (by decide +kernel)
theorem vD_38 : cz_chkD cm_38 = true := cz_chkD_of (show ∀ row ∈ [cr_38_0], cz_chkR prog_1_method_11_code row = true from List.forall_mem_cons.mpr ⟨vR_38_0, fun _ w => (by cases w)⟩)
set_option maxRecDepth 100000 in
theorem vK_38 : cz_chkK cm_38 [[2180], [1062], [5054, 5055]] = true := by decide +kernel
theorem vO_38 : cz_okM cm_38 := cz_chkM_ok cz_allY_ok cz_allC2_ok cz_asl_ok cz_okI0_ok vD_38 vK_38
set_option maxRecDepth 100000 in
theorem vR_39_0 : cz_chkR prog_1_method_7_code cr_39_0 = true := rws_ok (p := 0) (by decide +kernel)
set_option maxRecDepth 100000 in
theorem vR_39_1 : cz_chkR prog_1_method_7_code cr_39_1 = true := rws_ok (p := 16) (by decide +kernel)
set_option maxRecDepth 100000 in
theorem vR_39_2 : cz_chkR prog_1_method_7_code cr_39_2 = true := rws_ok (p := 32) (by decide +kernel)
set_option maxRecDepth 100000 in
theorem vR_39_3 : cz_chkR prog_1_method_7_code cr_39_3 = true := rws_ok (p := 48) (by decide +kernel)
theorem vD_39 : cz_chkD cm_39 = true := cz_chkD_of (show ∀ row ∈ [cr_39_0, cr_39_1, cr_39_2, cr_39_3], cz_chkR prog_1_method_7_code row = true from List.forall_mem_cons.mpr ⟨vR_39_0, List.forall_mem_cons.mpr ⟨vR_39_1, List.forall_mem_cons.mpr ⟨vR_39_2, List.forall_mem_cons.mpr ⟨vR_39_3, fun _ w => (by cases w)⟩⟩⟩⟩)
set_option maxRecDepth 100000 in
theorem vK_39 : cz_chkK cm_39 [[2180], [2177], [3001], [3044], [4167], [4176], [5054, 5055], [0, 5057, 5059, 47], [0, 5074, 5076, 49]] = true := by decide +kernel
theorem vO_39 : cz_okM cm_39 := cz_chkM_ok cz_allY_ok cz_allC2_ok cz_asl_ok cz_okI0_ok vD_39 vK_39
set_option maxRecDepth 100000 in
theorem vR_40_0 : cz_chkR prog_1_method_38_code cr_40_0 = true := rws_ok (p := 0) (by decide +kernel)
set_option maxRecDepth 100000 in
theorem vR_40_1 : cz_chkR prog_1_method_38_code cr_40_1 = true := rws_ok (p := 16) (by decide +kernel)
theorem vD_40 : cz_chkD cm_40 = true := cz_chkD_of (show ∀ row ∈ [cr_40_0, cr_40_1], cz_chkR prog_1_method_38_code row = true from List.forall_mem_cons.mpr ⟨vR_40_0, List.forall_mem_cons.mpr ⟨vR_40_1, fun _ w => (by cases w)⟩⟩)
set_option maxRecDepth 100000 in
theorem vK_40 : cz_chkK cm_40 [[1043]] = true := by decide +kernel
theorem vO_40 : cz_okM cm_40 := cz_chkM_ok cz_allY_ok cz_allC2_ok cz_asl_ok cz_okI0_ok vD_40 vK_40
set_option maxRecDepth 100000 in
theorem vR_41_0 : cz_chkR prog_1_method_23_code cr_41_0 = true := rws_ok (p := 0) (by decide +kernel)
set_option maxRecDepth 100000 in
theorem vR_41_1 : cz_chkR prog_1_method_23_code cr_41_1 = true := rws_ok (p := 16) (by decide +kernel)
set_option maxRecDepth 100000 in
theorem vR_41_2 : cz_chkR prog_1_method_23_code cr_41_2 = true := rws_ok (p := 32) (by decide +kernel)
set_option maxRecDepth 100000 in
theorem vR_41_3 : cz_chkR prog_1_method_23_code cr_41_3 = true := rws_ok (p := 48) (by decide +kernel)
set_option maxRecDepth 100000 in
theorem vR_41_4 : cz_chkR prog_1_method_23_code cr_41_4 = true := rws_ok (p := 65) (by decide +kernel)
theorem vD_41 : cz_chkD cm_41 = true := cz_chkD_of (show ∀ row ∈ [cr_41_0, cr_41_1, cr_41_2, cr_41_3, cr_41_4], cz_chkR prog_1_method_23_code row = true from List.forall_mem_cons.mpr ⟨vR_41_0, List.forall_mem_cons.mpr ⟨vR_41_1, List.forall_mem_cons.mpr ⟨vR_41_2, List.forall_mem_cons.mpr ⟨vR_41_3, List.forall_mem_cons.mpr ⟨vR_41_4, fun _ w => (by cases w)⟩⟩⟩⟩⟩)
set_option maxRecDepth 100000 in
theorem vK_41 : cz_chkK cm_41 [[2178], [5089, 5090], [2179]] = true := by decide +kernel
theorem vO_41 : cz_okM cm_41 := cz_chkM_ok cz_allY_ok cz_allC2_ok cz_asl_ok cz_okI0_ok vD_41 vK_41
set_option maxRecDepth 100000 in
theorem vR_42_0 : cz_chkR prog_1_method_41_code cr_42_0 = true := rws_ok (p := 0) (by decide +kernel)
set_option maxRecDepth 100000 in
theorem vR_42_1 : cz_chkR prog_1_method_41_code cr_42_1 = true := rws_ok (p := 17) (by decide +kernel)
set_option maxRecDepth 100000 in
theorem vR_42_2 : cz_chkR prog_1_method_41_code cr_42_2 = true := rws_ok (p := 33) (by decide +kernel)
set_option maxRecDepth 100000 in
theorem vR_42_3 : cz_chkR prog_1_method_41_code cr_42_3 = true := rws_ok (p := 48) (by decide +kernel)
set_option maxRecDepth 100000 in
theorem vR_42_4 : cz_chkR prog_1_method_41_code cr_42_4 = true := rws_ok (p := 65) (by decide +kernel)
set_option maxRecDepth 100000 in
theorem vR_42_5 : cz_chkR prog_1_method_41_code cr_42_5 = true := rws_ok (p := 80) (by decide +kernel)
set_option maxRecDepth 100000 in
theorem vR_42_6 : cz_chkR prog_1_method_41_code cr_42_6 = true := rws_ok (p := 97) (by decide +kernel)
theorem vD_42 : cz_chkD cm_42 = true := cz_chkD_of (show ∀ row ∈ [cr_42_0, cr_42_1, cr_42_2, cr_42_3, cr_42_4, cr_42_5, cr_42_6], cz_chkR prog_1_method_41_code row = true from List.forall_mem_cons.mpr ⟨vR_42_0, List.forall_mem_cons.mpr ⟨vR_42_1, List.forall_mem_cons.mpr ⟨vR_42_2, List.forall_mem_cons.mpr ⟨vR_42_3, List.forall_mem_cons.mpr ⟨vR_42_4, List.forall_mem_cons.mpr ⟨vR_42_5, List.forall_mem_cons.mpr ⟨vR_42_6, fun _ w => (by cases w)⟩⟩⟩⟩⟩⟩⟩)
set_option maxRecDepth 100000 in
theorem vK_42 : cz_chkK cm_42 [[2178], [2179], [5071, 5072]] = true := by decide +kernel
theorem vO_42 : cz_okM cm_42 := cz_chkM_ok cz_allY_ok cz_allC2_ok cz_asl_ok cz_okI0_ok vD_42 vK_42
set_option maxRecDepth 100000 in
theorem vR_43_0 : cz_chkR prog_2_method_1_code cr_43_0 = true := rws_ok (p := 0) (by decide +kernel)
set_option maxRecDepth 100000 in
theorem vR_43_1 : cz_chkR prog_2_method_1_code cr_43_1 = true := rws_ok (p := 17) (by decide +kernel)
set_option maxRecDepth 100000 in
theorem vR_43_2 : cz_chkR prog_2_method_1_code cr_43_2 = true := rws_ok (p := 32) (by decide +kernel)
theorem vD_43 : cz_chkD cm_43 = true := cz_chkD_of (show ∀ row ∈ [cr_43_0, cr_43_1, cr_43_2], cz_chkR prog_2_method_1_code row = true from List.forall_mem_cons.mpr ⟨vR_43_0, List.forall_mem_cons.mpr ⟨vR_43_1, List.forall_mem_cons.mpr ⟨vR_43_2, fun _ w => (by cases w)⟩⟩⟩)
set_option maxRecDepth 100000 in
theorem vK_43 : cz_chkK cm_43 [[2081, 1041, 1042], [2083], [2084], [2085], [2086], [2082]] = true := by decide +kernel
theorem vO_43 : cz_okM cm_43 := cz_chkM_ok cz_allY_ok cz_allC2_ok cz_asl_ok cz_okI0_ok vD_43 vK_43
set_option maxRecDepth 100000 in
theorem vR_44_0 : cz_chkR prog_2_method_5_code cr_44_0 = true := rws_ok (p := 0) (by decide +kernel)
set_option maxRecDepth 100000 in
theorem vR_44_1 : cz_chkR prog_2_method_5_code cr_44_1 = true := rws_ok (p := 17) (by decide +kernel)
theorem vD_44 : cz_chkD cm_44 = true := cz_chkD_of (show ∀ row ∈ [cr_44_0, cr_44_1], cz_chkR prog_2_method_5_code row = true from List.forall_mem_cons.mpr ⟨vR_44_0, List.forall_mem_cons.mpr ⟨vR_44_1, fun _ w => (by cases w)⟩⟩)
set_option maxRecDepth 100000 in
theorem vK_44 : cz_chkK cm_44 [[2087], [0, 6145, 6025, 6026]] = true := by decide +kernel
theorem vO_44 : cz_okM cm_44 := cz_chkM_ok cz_allY_ok cz_allC2_ok cz_asl_ok cz_okI0_ok vD_44 vK_44
set_option maxRecDepth 100000 in
theorem vR_45_0 : cz_chkR prog_2_method_18_code cr_45_0 = true := rws_ok (p := 0) (by decide +kernel)
set_option maxRecDepth 100000 in
theorem vR_45_1 : cz_chkR prog_2_method_18_code cr_45_1 = true := rws_ok (p := 17) (by decide +kernel)
set_option maxRecDepth 100000 in
theorem vR_45_2 : cz_chkR prog_2_method_18_code cr_45_2 = true := rws_ok (p := 32) (by decide +kernel)
set_option maxRecDepth 100000 in
theorem vR_45_3 : cz_chkR prog_2_method_18_code cr_45_3 = true := rws_ok (p := 48) (by decide +kernel)
set_option maxRecDepth 100000 in
theorem vR_45_4 : cz_chkR prog_2_method_18_code cr_45_4 = true := rws_ok (p := 64) (by decide +kernel)
theorem vD_45 : cz_chkD cm_45 = true := cz_chkD_of (show ∀ row ∈ [cr_45_0, cr_45_1, cr_45_2, cr_45_3, cr_45_4], cz_chkR prog_2_method_18_code row = true from List.forall_mem_cons.mpr ⟨vR_45_0, List.forall_mem_cons.mpr ⟨vR_45_1, List.forall_mem_cons.mpr ⟨vR_45_2, List.forall_mem_cons.mpr ⟨vR_45_3, List.forall_mem_cons.mpr ⟨vR_45_4, fun _ w => (by cases w)⟩⟩⟩⟩⟩)
set_option maxRecDepth 100000 in
theorem vK_45 : cz_chkK cm_45 [[6035, 6036], [6041, 6042]] = true := by decide +kernel
theorem vO_45 : cz_okM cm_45 := cz_chkM_ok cz_allY_ok cz_allC2_ok cz_asl_ok cz_okI0_ok vD_45 vK_45
set_option maxRecDepth 100000 in
theorem vR_46_0 : cz_chkR prog_2_method_3_code cr_46_0 = true := rws_ok (p := 0) (by decide +kernel)
set_option maxRecDepth 100000 in
theorem vR_46_1 : cz_chkR prog_2_method_3_code cr_46_1 = true := rws_ok (p := 16) (by decide +kernel)
set_option maxRecDepth 100000 in
theorem vR_46_2 : cz_chkR prog_2_method_3_code cr_46_2 = true := rws_ok (p := 34) (by decide +kernel)
theorem vD_46 : cz_chkD cm_46 = true := cz_chkD_of (show ∀ row ∈ [cr_46_0, cr_46_1, cr_46_2], cz_chkR prog_2_method_3_code row = true from List.forall_mem_cons.mpr ⟨vR_46_0, List.forall_mem_cons.mpr ⟨vR_46_1, List.forall_mem_cons.mpr ⟨vR_46_2, fun _ w => (by cases w)⟩⟩⟩)
set_option maxRecDepth 100000 in
theorem vK_46 : cz_chkK cm_46 [[2083], [2088], [6014, 6015], [6017, 6018]] = true := by decide +kernel
theorem vO_46 : cz_okM cm_46 := cz_chkM_ok cz_allY_ok cz_allC2_ok cz_asl_ok cz_okI0_ok vD_46 vK_46
set_option maxRecDepth 100000 in
theorem vR_47_0 : cz_chkR prog_2_method_4_code cr_47_0 = true := rws_ok (p := 0) (by decide +kernel)
set_option maxRecDepth 100000 in
theorem vR_47_1 : cz_chkR prog_2_method_4_code cr_47_1 = true := rws_ok (p := 18) (by decide +kernel)
set_option maxRecDepth 100000 in
theorem vR_47_2 : cz_chkR prog_2_method_4_code cr_47_2 = true := rws_ok (p := 32) (by decide +kernel)
theorem vD_47 : cz_chkD cm_47 = true := cz_chkD_of (show ∀ row ∈ [cr_47_0, cr_47_1, cr_47_2], cz_chkR prog_2_method_4_code row = true from List.forall_mem_cons.mpr ⟨vR_47_0, List.forall_mem_cons.mpr ⟨vR_47_1, List.forall_mem_cons.mpr ⟨vR_47_2, fun _ w => (by cases w)⟩⟩⟩)
set_option maxRecDepth 100000 in
theorem vK_47 : cz_chkK cm_47 [[2087], [2088], [0, 6028, 6030, 63], [0, 6048, 6050, 65]] = true := by decide +kernel
theorem vO_47 : cz_okM cm_47 := cz_chkM_ok cz_allY_ok cz_allC2_ok cz_asl_ok cz_okI0_ok vD_47 vK_47
set_option maxRecDepth 100000 in
theorem vR_48_0 : cz_chkR prog_2_method_8_code cr_48_0 = true := rws_ok (p := 0) (by decide +kernel)
set_option maxRecDepth 100000 in
theorem vR_48_1 : cz_chkR prog_2_method_8_code cr_48_1 = true := rws_ok (p := 16) (by decide +kernel)
theorem vD_48 : cz_chkD cm_48 = true := cz_chkD_of (show ∀ row ∈ [cr_48_0, cr_48_1], cz_chkR prog_2_method_8_code row = true from List.forall_mem_cons.mpr ⟨vR_48_0, List.forall_mem_cons.mpr ⟨vR_48_1, fun _ w => (by cases w)⟩⟩)
set_option maxRecDepth 100000 in
theorem vK_48 : cz_chkK cm_48 [] = true := by decide +kernel
theorem vO_48 : cz_okM cm_48 := cz_chkM_ok cz_allY_ok cz_allC2_ok cz_asl_ok cz_okI0_ok vD_48 vK_48
set_option maxRecDepth 100000 in
theorem vR_49_0 : cz_chkR prog_2_method_7_code cr_49_0 = true := rws_ok (p := 0) (by decide +kernel)
set_option maxRecDepth 100000 in
theorem vR_49_1 : cz_chkR prog_2_method_7_code cr_49_1 = true := rws_ok (p := 16) (by decide +kernel)
set_option maxRecDepth 100000 in
theorem vR_49_2 : cz_chkR prog_2_method_7_code cr_49_2 = true := rws_ok (p := 32) (by decide +kernel)
set_option maxRecDepth 100000 in
theorem vR_49_3 : cz_chkR prog_2_method_7_code cr_49_3 = true := rws_ok (p := 49) (by decide +kernel)
set_option maxRecDepth 100000 in
theorem vR_49_4 : cz_chkR prog_2_method_7_code cr_49_4 = true := rws_ok (p := 65) (by decide +kernel)
set_option maxRecDepth 100000 in
theorem vR_49_5 : cz_chkR prog_2_method_7_code cr_49_5 = true := rws_ok (p := 81) (by decide +kernel)
set_option maxRecDepth 100000 in
theorem vR_49_6 : cz_chkR prog_2_method_7_code cr_49_6 = true := rws_ok (p := 97) (by decide +kernel)
set_option maxRecDepth 100000 in
theorem vR_49_7 : cz_chkR prog_2_method_7_code cr_49_7 = true := rws_ok (p := 112) (by decide +kernel)
theorem vD_49 : cz_chkD cm_49 = true := cz_chkD_of (show ∀ row ∈ [cr_49_0, cr_49_1, cr_49_2, cr_49_3, cr_49_4, cr_49_5, cr_49_6, cr_49_7], cz_chkR prog_2_method_7_code row = true from List.forall_mem_cons.mpr ⟨vR_49_0, List.forall_mem_cons.mpr ⟨vR_49_1, List.forall_mem_cons.mpr ⟨vR_49_2, List.forall_mem_cons.mpr ⟨vR_49_3, List.forall_mem_cons.mpr ⟨vR_49_4, List.forall_mem_cons.mpr ⟨vR_49_5, List.forall_mem_cons.mpr ⟨vR_49_6, List.forall_mem_cons.mpr ⟨vR_49_7, fun _ w => (by cases w)⟩⟩⟩⟩⟩⟩⟩⟩)
set_option maxRecDepth 100000 in
theorem vK_49 : cz_chkK cm_49 [[2083], [2084], [2086], [6052, 6053], [6055, 6056], [0, 6058, 6060, 66]] = true := by decide +kernel
theorem vO_49 : cz_okM cm_49 := cz_chkM_ok cz_allY_ok cz_allC2_ok cz_asl_ok cz_okI0_ok vD_49 vK_49
set_option maxRecDepth 100000 in
theorem vR_50_0 : cz_chkR prog_2_method_13_code cr_50_0 = true := rws_ok (p := 0) (by decide +kernel)
set_option maxRecDepth 100000 in
theorem vR_50_1 : cz_chkR prog_2_method_13_code cr_50_1 = true := rws_ok (p := 16) (by decide +kernel)
theorem vD_50 : cz_chkD cm_50 = true := cz_chkD_of (show ∀ row ∈ [cr_50_0, cr_50_1], cz_chkR prog_2_method_13_code row = true from List.forall_mem_cons.mpr ⟨vR_50_0, List.forall_mem_cons.mpr ⟨vR_50_1, fun _ w => (by cases w)⟩⟩)
set_option maxRecDepth 100000 in
theorem vK_50 : cz_chkK cm_50 [] = true := by decide +kernel
theorem vO_50 : cz_okM cm_50 := cz_chkM_ok cz_allY_ok cz_allC2_ok cz_asl_ok cz_okI0_ok vD_50 vK_50
set_option maxRecDepth 100000 in
theorem vR_51_0 : cz_chkR prog_2_method_9_code cr_51_0 = true := rws_ok (p := 0) (by decide +kernel)
set_option maxRecDepth 100000 in
theorem vR_51_2 : cz_chkR prog_2_method_9_code cr_51_2 = true := rws_ok (p := 36) (by decide +kernel)
set_option maxRecDepth 100000 in
theorem vR_51_3 : cz_chkR prog_2_method_9_code cr_51_3 = true := rws_ok (p := 48) (by decide +kernel)
set_option maxRecDepth 100000 in
theorem vR_51_4 : cz_chkR prog_2_method_9_code cr_51_4 = true := rws_ok (p := 64) (by decide +kernel)
set_option maxRecDepth 100000 in
theorem vR_51_5 : cz_chkR prog_2_method_9_code cr_51_5 = true := rws_ok (p := 82) (by decide +kernel)
set_option maxRecDepth 100000 in
theorem vR_51_6 : cz_chkR prog_2_method_9_code cr_51_6 = true := rws_ok (p := 96) (by decide +kernel)
theorem vD_51 : cz_chkD cm_51 = true := cz_chkD_of (show ∀ row ∈ [cr_51_0, [], cr_51_2, cr_51_3, cr_51_4, cr_51_5, cr_51_6], cz_chkR prog_2_method_9_code row = true from List.forall_mem_cons.mpr ⟨vR_51_0, List.forall_mem_cons.mpr ⟨rfl, List.forall_mem_cons.mpr ⟨vR_51_2, List.forall_mem_cons.mpr ⟨vR_51_3, List.forall_mem_cons.mpr ⟨vR_51_4, List.forall_mem_cons.mpr ⟨vR_51_5, List.forall_mem_cons.mpr ⟨vR_51_6, fun _ w => (by cases w)⟩⟩⟩⟩⟩⟩⟩)
set_option maxRecDepth 100000 in
theorem vK_51 : cz_chkK cm_51 [] = true := by decide +kernel
theorem vO_51 : cz_okM cm_51 := cz_chkM_ok cz_allY_ok cz_allC2_ok cz_asl_ok cz_okI0_ok vD_51 vK_51
set_option maxRecDepth 100000 in
theorem vR_52_0 : cz_chkR prog_2_method_17_code cr_52_0 = true := rws_ok (p := 0) (by decide +kernel)
set_option maxRecDepth 100000 in
theorem vR_52_1 : cz_chkR prog_2_method_17_code cr_52_1 = true := rws_ok (p := 17) (by decide +kernel)
set_option maxRecDepth 100000 in
theorem vR_52_2 : cz_chkR prog_2_method_17_code cr_52_2 = true := rws_ok (p := 32) (by decide +kernel)
set_option maxRecDepth 100000 in
theorem vR_52_3 : cz_chkR prog_2_method_17_code cr_52_3 = true := rws_ok (p := 48) (by decide +kernel)
set_option maxRecDepth 100000 in
theorem vR_52_4 : cz_chkR prog_2_method_17_code cr_52_4 = true := rws_ok (p := 64) (by decide +kernel)
set_option maxRecDepth 100000 in
theorem vR_52_5 : cz_chkR prog_2_method_17_code cr_52_5 = true := rws_ok (p := 80) (by decide +kernel)
set_option maxRecDepth 100000 in
theorem vR_52_6 : cz_chkR prog_2_method_17_code cr_52_6 = true := rws_ok (p := 97) (by decide +kernel)
set_option maxRecDepth 100000 in
theorem vR_52_7 : cz_chkR prog_2_method_17_code cr_52_7 = true := rws_ok (p := 112) (by decide +kernel)
set_option maxRecDepth 100000 in
theorem vR_52_8 : cz_chkR prog_2_method_17_code cr_52_8 = true := rws_ok (p := 128) (by decide +kernel)
theorem vD_52 : cz_chkD cm_52 = true := cz_chkD_of (show ∀ row ∈ [cr_52_0, cr_52_1, cr_52_2, cr_52_3, cr_52_4, cr_52_5, cr_52_6, cr_52_7, cr_52_8], cz_chkR prog_2_method_17_code row = true from List.forall_mem_cons.mpr ⟨vR_52_0, List.forall_mem_cons.mpr ⟨vR_52_1, List.forall_mem_cons.mpr ⟨vR_52_2, List.forall_mem_cons.mpr ⟨vR_52_3, List.forall_mem_cons.mpr ⟨vR_52_4, List.forall_mem_cons.mpr ⟨vR_52_5, List.forall_mem_cons.mpr ⟨vR_52_6, List.forall_mem_cons.mpr ⟨vR_52_7, List.forall_mem_cons.mpr ⟨vR_52_8, fun _ w => (by cases w)⟩⟩⟩⟩⟩⟩⟩⟩⟩)
set_option maxRecDepth 100000 in
theorem vK_52 : cz_chkK cm_52 [[6035, 6036]] = true := by decide +kernel
theorem vO_52 : cz_okM cm_52 := cz_chkM_ok cz_allY_ok cz_allC2_ok cz_asl_ok cz_okI0_ok vD_52 vK_52
set_option maxRecDepth 100000 in
theorem vR_53_0 : cz_chkR prog_2_method_14_code cr_53_0 = true := rws_ok (p := 0) (by decide +kernel)
set_option maxRecDepth 100000 in
theorem vR_53_1 : cz_chkR prog_2_method_14_code cr_53_1 = true := rws_ok (p := 16) (by decide +kernel)
theorem vD_53 : cz_chkD cm_53 = true := cz_chkD_of (show ∀ row ∈ [cr_53_0, cr_53_1], cz_chkR prog_2_method_14_code row = true from List.forall_mem_cons.mpr ⟨vR_53_0, List.forall_mem_cons.mpr ⟨vR_53_1, fun _ w => (by cases w)⟩⟩)
set_option maxRecDepth 100000 in
theorem vK_53 : cz_chkK cm_53 [] = true := by decide +kernel
theorem vO_53 : cz_okM cm_53 := cz_chkM_ok cz_allY_ok cz_allC2_ok cz_asl_ok cz_okI0_ok vD_53 vK_53
set_option maxRecDepth 100000 in
theorem vR_54_0 : cz_chkR prog_2_method_12_code cr_54_0 = true := rws_ok (p := 0) (by decide +kernel)
set_option maxRecDepth 100000 in
theorem vR_54_1 : cz_chkR prog_2_method_12_code cr_54_1 = true := rws_ok (p := 16) (by decide +kernel)
theorem vD_54 : cz_chkD cm_54 = true := cz_chkD_of (show ∀ row ∈ [cr_54_0, cr_54_1], cz_chkR prog_2_method_12_code row = true from List.forall_mem_cons.mpr ⟨vR_54_0, List.forall_mem_cons.mpr ⟨vR_54_1, fun _ w => (by cases w)⟩⟩)
set_option maxRecDepth 100000 in
theorem vK_54 : cz_chkK cm_54 [] = true := by decide +kernel
theorem vO_54 : cz_okM cm_54 := cz_chkM_ok cz_allY_ok cz_allC2_ok cz_asl_ok cz_okI0_ok vD_54 vK_54
set_option maxRecDepth 100000 in
theorem vR_55_0 : cz_chkR prog_2_method_10_code cr_55_0 = true := rws_ok (p := 0) (by decide +kernel)
set_option maxRecDepth 100000 in
theorem vR_55_1 : cz_chkR prog_2_method_10_code cr_55_1 = true := rws_ok (p := 17) (by decide +kernel)
set_option maxRecDepth 100000 in
theorem vR_55_2 : cz_chkR prog_2_method_10_code cr_55_2 = true := rws_ok (p := 34) (by decide +kernel)
theorem vD_55 : cz_chkD cm_55 = true := cz_chkD_of (show ∀ row ∈ [cr_55_0, cr_55_1, cr_55_2], cz_chkR prog_2_method_10_code row = true from List.forall_mem_cons.mpr ⟨vR_55_0, List.forall_mem_cons.mpr ⟨vR_55_1, List.forall_mem_cons.mpr ⟨vR_55_2, fun _ w => (by cases w)⟩⟩⟩)
set_option maxRecDepth 100000 in
theorem vK_55 : cz_chkK cm_55 [[2083], [2084]] = true := by decide +kernel
theorem vO_55 : cz_okM cm_55 := cz_chkM_ok cz_allY_ok cz_allC2_ok cz_asl_ok cz_okI0_ok vD_55 vK_55
set_option maxRecDepth 100000 in
theorem vR_56_0 : cz_chkR prog_2_method_15_code cr_56_0 = true := rws_ok (p := 0) (by decide +kernel)
set_option maxRecDepth 100000 in
theorem vR_56_1 : cz_chkR prog_2_method_15_code cr_56_1 = true := rws_ok (p := 16) (by decide +kernel)
theorem vD_56 : cz_chkD cm_56 = true := cz_chkD_of (show ∀ row ∈ [cr_56_0, cr_56_1], cz_chkR prog_2_method_15_code row = true from List.forall_mem_cons.mpr ⟨vR_56_0, List.forall_mem_cons.mpr ⟨vR_56_1, fun _ w => (by cases w)⟩⟩)
set_option maxRecDepth 100000 in
theorem vK_56 : cz_chkK cm_56 [] = true := by decide +kernel
theorem vO_56 : cz_okM cm_56 := cz_chkM_ok cz_allY_ok cz_allC2_ok cz_asl_ok cz_okI0_ok vD_56 vK_56
set_option maxRecDepth 100000 in
theorem vR_57_0 : cz_chkR prog_2_method_11_code cr_57_0 = true := rws_ok (p := 0) (by decide +kernel)
set_option maxRecDepth 100000 in
theorem vR_57_1 : cz_chkR prog_2_method_11_code cr_57_1 = true := rws_ok (p := 16) (by decide +kernel)
set_option maxRecDepth 100000 in
theorem vR_57_2 : cz_chkR prog_2_method_11_code cr_57_2 = true := rws_ok (p := 32) (by decide +kernel)
set_option maxRecDepth 100000 in
theorem vR_57_3 : cz_chkR prog_2_method_11_code cr_57_3 = true := rws_ok (p := 49) (by decide +kernel)
set_option maxRecDepth 100000 in
theorem vR_57_4 : cz_chkR prog_2_method_11_code cr_57_4 = true := rws_ok (p := 64) (by decide +kernel)
set_option maxRecDepth 100000 in
theorem vR_57_5 : cz_chkR prog_2_method_11_code cr_57_5 = true := rws_ok (p := 80) (by decide +kernel)
set_option maxRecDepth 100000 in
theorem vR_57_6 : cz_chkR prog_2_method_11_code cr_57_6 = true := rws_ok (p := 98) (by decide +kernel)
set_option maxRecDepth 100000 in
theorem vR_57_7 : cz_chkR prog_2_method_11_code cr_57_7 = true := rws_ok (p := 112) (by decide +kernel)
set_option maxRecDepth 100000 in
theorem vR_57_8 : cz_chkR prog_2_method_11_code cr_57_8 = true := rws_ok (p := 130) (by decide +kernel)
set_option maxRecDepth 100000 in
theorem vR_57_9 : cz_chkR prog_2_method_11_code cr_57_9 = true := rws_ok (p := 145) (by decide +kernel)
set_option maxRecDepth 100000 in
theorem vR_57_10 : cz_chkR prog_2_method_11_code cr_57_10 = true := rws_ok (p := 161) (by decide +kernel)
set_option maxRecDepth 100000 in
theorem vR_57_11 : cz_chkR prog_2_method_11_code cr_57_11 = true := rws_ok (p := 176) (by decide +kernel)
theorem vD_57 : cz_chkD cm_57 = true := cz_chkD_of (show ∀ row ∈ [cr_57_0, cr_57_1, cr_57_2, cr_57_3, cr_57_4, cr_57_5, cr_57_6, cr_57_7, cr_57_8, cr_57_9, cr_57_10, cr_57_11], cz_chkR prog_2_method_11_code row = true from List.forall_mem_cons.mpr ⟨vR_57_0, List.forall_mem_cons.mpr ⟨vR_57_1, List.forall_mem_cons.mpr ⟨vR_57_2, List.forall_mem_cons.mpr ⟨vR_57_3, List.forall_mem_cons.mpr ⟨vR_57_4, List.forall_mem_cons.mpr ⟨vR_57_5, List.forall_mem_cons.mpr ⟨vR_57_6, List.forall_mem_cons.mpr ⟨vR_57_7, List.forall_mem_cons.mpr ⟨vR_57_8, List.forall_mem_cons.mpr ⟨vR_57_9, List.forall_mem_cons.mpr ⟨vR_57_10, List.forall_mem_cons.mpr ⟨vR_57_11, fun _ w => (by cases w)⟩⟩⟩⟩⟩⟩⟩⟩⟩⟩⟩⟩)
set_option maxRecDepth 100000 in
theorem vK_57 : cz_chkK cm_57 [[2083], [2084], [2085], [2086], [6014, 6015], [6017, 6018], [6032, 6033], [6038, 6039], [0, 6044, 6046, 64]] = true := by decide +kernel
theorem vO_57 : cz_okM cm_57 := cz_chkM_ok cz_allY_ok cz_allC2_ok cz_asl_ok cz_okI0_ok vD_57 vK_57
set_option maxRecDepth 100000 in
theorem vR_58_0 : cz_chkR prog_2_method_6_code cr_58_0 = true := rws_ok (p := 0) (by decide +kernel)
set_option maxRecDepth 100000 in
theorem vR_58_1 : cz_chkR prog_2_method_6_code cr_58_1 = true := rws_ok (p := 16) (by decide +kernel)
theorem vD_58 : cz_chkD cm_58 = true := cz_chkD_of (show ∀ row ∈ [cr_58_0, cr_58_1], cz_chkR prog_2_method_6_code row = true from List.forall_mem_cons.mpr ⟨vR_58_0, List.forall_mem_cons.mpr ⟨vR_58_1, fun _ w => (by cases w)⟩⟩)
set_option maxRecDepth 100000 in
theorem vK_58 : cz_chkK cm_58 [[0, 6145, 6025, 6026]] = true := by decide +kernel
theorem vO_58 : cz_okM cm_58 := cz_chkM_ok cz_allY_ok cz_allC2_ok cz_asl_ok cz_okI0_ok vD_58 vK_58
set_option maxRecDepth 100000 in
theorem vR_59_0 : cz_chkR prog_2_method_2_code cr_59_0 = true := rws_ok (p := 0) (by decide +kernel)
set_option maxRecDepth 100000 in
theorem vR_59_1 : cz_chkR prog_2_method_2_code cr_59_1 = true := rws_ok (p := 18) (by decide +kernel)
set_option maxRecDepth 100000 in
theorem vR_59_2 : cz_chkR prog_2_method_2_code cr_59_2 = true := rws_ok (p := 32) (by decide +kernel)
set_option maxRecDepth 100000 in
theorem vR_59_3 : cz_chkR prog_2_method_2_code cr_59_3 = true := rws_ok (p := 48) (by decide +kernel)
set_option maxRecDepth 100000 in
theorem vR_59_4 : cz_chkR prog_2_method_2_code cr_59_4 = true := rws_ok (p := 64) (by decide +kernel)
set_option maxRecDepth 100000 in
theorem vR_59_5 : cz_chkR prog_2_method_2_code cr_59_5 = true := rws_ok (p := 80) (by decide +kernel)
set_option maxRecDepth 100000 in
theorem vR_59_6 : cz_chkR prog_2_method_2_code cr_59_6 = true := rws_ok (p := 96) (by decide +kernel)
set_option maxRecDepth 100000 in
theorem vR_59_7 : cz_chkR prog_2_method_2_code cr_59_7 = true := rws_ok (p := 112) (by decide +kernel)
set_option maxRecDepth 100000 in
theorem vR_59_8 : cz_chkR prog_2_method_2_code cr_59_8 = true := rws_ok (p := 128) (by decide +kernel)
set_option maxRecDepth 100000 in
theorem vR_59_9 : cz_chkR prog_2_method_2_code cr_59_9 = true := rws_ok (p := 144) (by decide +kernel)
set_option maxRecDepth 100000 in
theorem vR_59_10 : cz_chkR prog_2_method_2_code cr_59_10 = true := rws_ok (p := 160) (by decide +kernel)
theorem vD_59 : cz_chkD cm_59 = true := cz_chkD_of (show ∀ row ∈ [cr_59_0, cr_59_1, cr_59_2, cr_59_3, cr_59_4, cr_59_5, cr_59_6, cr_59_7, cr_59_8, cr_59_9, cr_59_10], cz_chkR prog_2_method_2_code row = true from List.forall_mem_cons.mpr ⟨vR_59_0, List.forall_mem_cons.mpr ⟨vR_59_1, List.forall_mem_cons.mpr ⟨vR_59_2, List.forall_mem_cons.mpr ⟨vR_59_3, List.forall_mem_cons.mpr ⟨vR_59_4, List.forall_mem_cons.mpr ⟨vR_59_5, List.forall_mem_cons.mpr ⟨vR_59_6, List.forall_mem_cons.mpr ⟨vR_59_7, List.forall_mem_cons.mpr ⟨vR_59_8, List.forall_mem_cons.mpr ⟨vR_59_9, List.forall_mem_cons.mpr ⟨vR_59_10, fun _ w => (by cases w)⟩⟩⟩⟩⟩⟩⟩⟩⟩⟩⟩)
set_option maxRecDepth 100000 in
theorem vK_59 : cz_chkK cm_59 [[2083], [2084], [2085], [2086], [2082], [1059], [2087], [2088], [1052], [0, 6008, 4235, 4236], [1162], [1159], [0, 6009, 5011, 5012], [0, 6010, 6012, 61]] = true := by decide +kernel
theorem vO_59 : cz_okM cm_59 := cz_chkM_ok cz_allY_ok cz_allC2_ok cz_asl_ok cz_okI0_ok vD_59 vK_59
set_option maxRecDepth 100000 in
theorem vR_60_0 : cz_chkR prog_2_method_16_code cr_60_0 = true := rws_ok (p := 0) (by decide +kernel)
set_option maxRecDepth 100000 in
theorem vR_60_1 : cz_chkR prog_2_method_16_code cr_60_1 = true := rws_ok (p := 16) (by decide +kernel)
set_option maxRecDepth 100000 in
theorem vR_60_2 : cz_chkR prog_2_method_16_code cr_60_2 = true := rws_ok (p := 32) (by decide +kernel)
set_option maxRecDepth 100000 in
theorem vR_60_3 : cz_chkR prog_2_method_16_code cr_60_3 = true := rws_ok (p := 48) (by decide +kernel)
theorem vD_60 : cz_chkD cm_60 = true := cz_chkD_of (show ∀ row ∈ [cr_60_0, cr_60_1, cr_60_2, cr_60_3], cz_chkR prog_2_method_16_code row = true from List.forall_mem_cons.mpr ⟨vR_60_0, List.forall_mem_cons.mpr ⟨vR_60_1, List.forall_mem_cons.mpr ⟨vR_60_2, List.forall_mem_cons.mpr ⟨vR_60_3, fun _ w => (by cases w)⟩⟩⟩⟩)
set_option maxRecDepth 100000 in
theorem vK_60 : cz_chkK cm_60 [[2083], [2087], [6014, 6015]] = true := by decide +kernel
theorem vO_60 : cz_okM cm_60 := cz_chkM_ok cz_allY_ok cz_allC2_ok cz_asl_ok cz_okI0_ok vD_60 vK_60
set_option maxRecDepth 100000 in
theorem vR_61_0 : cz_chkR prog_3_method_1_code cr_61_0 = true := rws_ok (p := 0) (by decide +kernel)
set_option maxRecDepth 100000 in
theorem vR_61_1 : cz_chkR prog_3_method_1_code cr_61_1 = true := rws_ok (p := 17) (by decide +kernel)
set_option maxRecDepth 100000 in
theorem vR_61_2 : cz_chkR prog_3_method_1_code cr_61_2 = true := rws_ok (p := 32) (by decide +kernel)
set_option maxRecDepth 100000 in
theorem vR_61_3 : cz_chkR prog_3_method_1_code cr_61_3 = true := rws_ok (p := 48) (by decide +kernel)
theorem vD_61 : cz_chkD cm_61 = true := cz_chkD_of (show ∀ row ∈ [cr_61_0, cr_61_1, cr_61_2, cr_61_3], cz_chkR prog_3_method_1_code row = true from List.forall_mem_cons.mpr ⟨vR_61_0, List.forall_mem_cons.mpr ⟨vR_61_1, List.forall_mem_cons.mpr ⟨vR_61_2, List.forall_mem_cons.mpr ⟨vR_61_3, fun _ w => (by cases w)⟩⟩⟩⟩)
set_option maxRecDepth 100000 in
theorem vK_61 : cz_chkK cm_61 [[2110, 1041, 1042], [2113], [2114], [2115], [2116], [2117], [2111], [2112]] = true := by decide +kernel
theorem vO_61 : cz_okM cm_61 := cz_chkM_ok cz_allY_ok cz_allC2_ok cz_asl_ok cz_okI0_ok vD_61 vK_61
set_option maxRecDepth 100000 in
theorem vR_62_0 : cz_chkR prog_3_method_15_code cr_62_0 = true := rws_ok (p := 0) (by decide +kernel)
set_option maxRecDepth 100000 in
theorem vR_62_1 : cz_chkR prog_3_method_15_code cr_62_1 = true := rws_ok (p := 16) (by decide +kernel)
set_option maxRecDepth 100000 in
theorem vR_62_2 : cz_chkR prog_3_method_15_code cr_62_2 = true := rws_ok (p := 33) (by decide +kernel)
set_option maxRecDepth 100000 in
theorem vR_62_3 : cz_chkR prog_3_method_15_code cr_62_3 = true := rws_ok (p := 48) (by decide +kernel)
set_option maxRecDepth 100000 in
theorem vR_62_4 : cz_chkR prog_3_method_15_code cr_62_4 = true := rws_ok (p := 64) (by decide +kernel)
theorem vD_62 : cz_chkD cm_62 = true := cz_chkD_of (show ∀ row ∈ [cr_62_0, cr_62_1, cr_62_2, cr_62_3, cr_62_4], cz_chkR prog_3_method_15_code row = true from List.forall_mem_cons.mpr ⟨vR_62_0, List.forall_mem_cons.mpr ⟨vR_62_1, List.forall_mem_cons.mpr ⟨vR_62_2, List.forall_mem_cons.mpr ⟨vR_62_3, List.forall_mem_cons.mpr ⟨vR_62_4, fun _ w => (by cases w)⟩⟩⟩⟩⟩)
set_option maxRecDepth 100000 in
theorem vK_62 : cz_chkK cm_62 [[2114], [2118]] = true := by decide +kernel
theorem vO_62 : cz_okM cm_62 := cz_chkM_ok cz_allY_ok cz_allC2_ok cz_asl_ok cz_okI0_ok vD_62 vK_62
set_option maxRecDepth 100000 in
theorem vR_63_0 : cz_chkR prog_3_method_10_code cr_63_0 = true := rws_ok (p := 0) (by decide +kernel)
set_option maxRecDepth 100000 in
theorem vR_63_1 : cz_chkR prog_3_method_10_code cr_63_1 = true := rws_ok (p := 16) (by decide +kernel)
set_option maxRecDepth 100000 in
theorem vR_63_2 : cz_chkR prog_3_method_10_code cr_63_2 = true := rws_ok (p := 33) (by decide +kernel)
theorem vD_63 : cz_chkD cm_63 = true := cz_chkD_of (show ∀ row ∈ [cr_63_0, cr_63_1, cr_63_2], cz_chkR prog_3_method_10_code row = true from List.forall_mem_cons.mpr ⟨vR_63_0, List.forall_mem_cons.mpr ⟨vR_63_1, List.forall_mem_cons.mpr ⟨vR_63_2, fun _ w => (by cases w)⟩⟩⟩)
set_option maxRecDepth 100000 in
theorem vK_63 : cz_chkK cm_63 [[0, 6078, 6080, 70]] = true := by decide +kernel
theorem vO_63 : cz_okM cm_63 := cz_chkM_ok cz_allY_ok cz_allC2_ok cz_asl_ok cz_okI0_ok vD_63 vK_63
set_option maxRecDepth 100000 in
theorem vR_64_0 : cz_chkR prog_3_method_7_code cr_64_0 = true := rws_ok (p := 0) (by decide +kernel)
set_option maxRecDepth 100000 in
theorem vR_64_1 : cz_chkR prog_3_method_7_code cr_64_1 = true := rws_ok (p := 16) (by decide +kernel)
set_option maxRecDepth 100000 in
theorem vR_64_2 : cz_chkR prog_3_method_7_code cr_64_2 = true := rws_ok (p := 34) (by decide +kernel)
theorem vD_64 : cz_chkD cm_64 = true := cz_chkD_of (show ∀ row ∈ [cr_64_0, cr_64_1, cr_64_2], cz_chkR prog_3_method_7_code row = true from List.forall_mem_cons.mpr ⟨vR_64_0, List.forall_mem_cons.mpr ⟨vR_64_1, List.forall_mem_cons.mpr ⟨vR_64_2, fun _ w => (by cases w)⟩⟩⟩)
set_option maxRecDepth 100000 in
theorem vK_64 : cz_chkK cm_64 [[0, 5232, 5148, 5149], [0, 5233, 5079, 5080], [0, 6066, 6068, 68], [0, 6106, 6108, 77]] = true := by decide +kernel
theorem vO_64 : cz_okM cm_64 := cz_chkM_ok cz_allY_ok cz_allC2_ok cz_asl_ok cz_okI0_ok vD_64 vK_64
set_option maxRecDepth 100000 in
theorem vR_65_0 : cz_chkR prog_3_method_17_code cr_65_0 = true := rws_ok (p := 0) (by decide +kernel)
set_option maxRecDepth 100000 in
theorem vR_65_1 : cz_chkR prog_3_method_17_code cr_65_1 = true := rws_ok (p := 16) (by decide +kernel)
set_option maxRecDepth 100000 in
theorem vR_65_2 : cz_chkR prog_3_method_17_code cr_65_2 = true := rws_ok (p := 32) (by decide +kernel)
set_option maxRecDepth 100000 in
theorem vR_65_3 : cz_chkR prog_3_method_17_code cr_65_3 = true := rws_ok (p := 50) (by decide +kernel)
set_option maxRecDepth 100000 in
theorem vR_65_4 : cz_chkR prog_3_method_17_code cr_65_4 = true := rws_ok (p := 65) (by decide +kernel)
theorem vD_65 : cz_chkD cm_65 = true := cz_chkD_of (show ∀ row ∈ [cr_65_0, cr_65_1, cr_65_2, cr_65_3, cr_65_4], cz_chkR prog_3_method_17_code row = true from List.forall_mem_cons.mpr ⟨vR_65_0, List.forall_mem_cons.mpr ⟨vR_65_1, List.forall_mem_cons.mpr ⟨vR_65_2, List.forall_mem_cons.mpr ⟨vR_65_3, List.forall_mem_cons.mpr ⟨vR_65_4, fun _ w => (by cases w)⟩⟩⟩⟩⟩)
set_option maxRecDepth 100000 in
theorem vK_65 : cz_chkK cm_65 [[2114], [2117]] = true := by decide +kernel
theorem vO_65 : cz_okM cm_65 := cz_chkM_ok cz_allY_ok cz_allC2_ok cz_asl_ok cz_okI0_ok vD_65 vK_65
set_option maxRecDepth 100000 in
theorem vR_66_0 : cz_chkR prog_3_method_12_code cr_66_0 = true := rws_ok (p := 0) (by decide +kernel)
set_option maxRecDepth 100000 in
theorem vR_66_1 : cz_chkR prog_3_method_12_code cr_66_1 = true := rws_ok (p := 16) (by decide +kernel)
set_option maxRecDepth 100000 in
theorem vR_66_2 : cz_chkR prog_3_method_12_code cr_66_2 = true := rws_ok (p := 33) (by decide +kernel)
theorem vD_66 : cz_chkD cm_66 = true := cz_chkD_of (show ∀ row ∈ [cr_66_0, cr_66_1, cr_66_2], cz_chkR prog_3_method_12_code row = true from List.forall_mem_cons.mpr ⟨vR_66_0, List.forall_mem_cons.mpr ⟨vR_66_1, List.forall_mem_cons.mpr ⟨vR_66_2, fun _ w => (by cases w)⟩⟩⟩)
set_option maxRecDepth 100000 in
theorem vK_66 : cz_chkK cm_66 [[2115], [2116]] = true := by decide +kernel
theorem vO_66 : cz_okM cm_66 := cz_chkM_ok cz_allY_ok cz_allC2_ok cz_asl_ok cz_okI0_ok vD_66 vK_66
set_option maxRecDepth 100000 in
theorem vR_67_0 : cz_chkR prog_3_method_13_code cr_67_0 = true := rws_ok (p := 0) (by decide +kernel)
set_option maxRecDepth 100000 in
theorem vR_67_1 : cz_chkR prog_3_method_13_code cr_67_1 = true := rws_ok (p := 16) (by decide +kernel)
set_option maxRecDepth 100000 in
theorem vR_67_2 : cz_chkR prog_3_method_13_code cr_67_2 = true := rws_ok (p := 34) (by decide +kernel)
set_option maxRecDepth 100000 in
theorem vR_67_3 : cz_chkR prog_3_method_13_code cr_67_3 = true := rws_ok (p := 50) (by decide +kernel)
theorem vD_67 : cz_chkD cm_67 = true := cz_chkD_of (show ∀ row ∈ [cr_67_0, cr_67_1, cr_67_2, cr_67_3], cz_chkR prog_3_method_13_code row = true from List.forall_mem_cons.mpr ⟨vR_67_0, List.forall_mem_cons.mpr ⟨vR_67_1, List.forall_mem_cons.mpr ⟨vR_67_2, List.forall_mem_cons.mpr ⟨vR_67_3, fun _ w => (by cases w)⟩⟩⟩⟩)
set_option maxRecDepth 100000 in
theorem vK_67 : cz_chkK cm_67 [[2115], [2116], [2118]] = true := by decide +kernel
theorem vO_67 : cz_okM cm_67 := cz_chkM_ok cz_allY_ok cz_allC2_ok cz_asl_ok cz_okI0_ok vD_67 vK_67
set_option maxRecDepth 100000 in
theorem vR_68_0 : cz_chkR prog_3_method_4_code cr_68_0 = true := rws_ok (p := 0) (by decide +kernel)
set_option maxRecDepth 100000 in
theorem vR_68_1 : cz_chkR prog_3_method_4_code cr_68_1 = true := rws_ok (p := 16) (by decide +kernel)
set_option maxRecDepth 100000 in
theorem vR_68_2 : cz_chkR prog_3_method_4_code cr_68_2 = true := rws_ok (p := 32) (by decide +kernel)
set_option maxRecDepth 100000 in
theorem vR_68_3 : cz_chkR prog_3_method_4_code cr_68_3 = true := rws_ok (p := 48) (by decide +kernel)
set_option maxRecDepth 100000 in
theorem vR_68_4 : cz_chkR prog_3_method_4_code cr_68_4 = true := rws_ok (p := 65) (by decide +kernel)
set_option maxRecDepth 100000 in
theorem vR_68_5 : cz_chkR prog_3_method_4_code cr_68_5 = true := rws_ok (p := 80) (by decide +kernel)
set_option maxRecDepth 100000 in
theorem vR_68_6 : cz_chkR prog_3_method_4_code cr_68_6 = true := rws_ok (p := 97) (by decide +kernel)
theorem vD_68 : cz_chkD cm_68 = true := cz_chkD_of (show ∀ row ∈ [cr_68_0, cr_68_1, cr_68_2, cr_68_3, cr_68_4, cr_68_5, cr_68_6], cz_chkR prog_3_method_4_code row = true from List.forall_mem_cons.mpr ⟨vR_68_0, List.forall_mem_cons.mpr ⟨vR_68_1, List.forall_mem_cons.mpr ⟨vR_68_2, List.forall_mem_cons.mpr ⟨vR_68_3, List.forall_mem_cons.mpr ⟨vR_68_4, List.forall_mem_cons.mpr ⟨vR_68_5, List.forall_mem_cons.mpr ⟨vR_68_6, fun _ w => (by cases w)⟩⟩⟩⟩⟩⟩⟩)
set_option maxRecDepth 100000 in
theorem vK_68 : cz_chkK cm_68 [[2117], [2112], [1060], [0, 5233, 5079, 5080], [0, 5238, 6000, 60], [0, 6004, 6005, 6006], [2118], [0, 6020, 6022, 62], [0, 6062, 6064, 67]] = true := by decide +kernel
theorem vO_68 : cz_okM cm_68 := cz_chkM_ok cz_allY_ok cz_allC2_ok cz_asl_ok cz_okI0_ok vD_68 vK_68
set_option maxRecDepth 100000 in
theorem vR_69_0 : cz_chkR prog_3_method_16_code cr_69_0 = true := rws_ok (p := 0) (by decide +kernel)
set_option maxRecDepth 100000 in
theorem vR_69_1 : cz_chkR prog_3_method_16_code cr_69_1 = true := rws_ok (p := 16) (by decide +kernel)
set_option maxRecDepth 100000 in
theorem vR_69_2 : cz_chkR prog_3_method_16_code cr_69_2 = true := rws_ok (p := 33) (by decide +kernel)
set_option maxRecDepth 100000 in
theorem vR_69_3 : cz_chkR prog_3_method_16_code cr_69_3 = true := rws_ok (p := 48) (by decide +kernel)
set_option maxRecDepth 100000 in
theorem vR_69_4 : cz_chkR prog_3_method_16_code cr_69_4 = true := rws_ok (p := 64) (by decide +kernel)
theorem vD_69 : cz_chkD cm_69 = true := cz_chkD_of (show ∀ row ∈ [cr_69_0, cr_69_1, cr_69_2, cr_69_3, cr_69_4], cz_chkR prog_3_method_16_code row = true from List.forall_mem_cons.mpr ⟨vR_69_0, List.forall_mem_cons.mpr ⟨vR_69_1, List.forall_mem_cons.mpr ⟨vR_69_2, List.forall_mem_cons.mpr ⟨vR_69_3, List.forall_mem_cons.mpr ⟨vR_69_4, fun _ w => (by cases w)⟩⟩⟩⟩⟩)
set_option maxRecDepth 100000 in
theorem vK_69 : cz_chkK cm_69 [[2114], [2117], [2118]] = true := by decide +kernel
theorem vO_69 : cz_okM cm_69 := cz_chkM_ok cz_allY_ok cz_allC2_ok cz_asl_ok cz_okI0_ok vD_69 vK_69
set_option maxRecDepth 100000 in
theorem vR_70_0 : cz_chkR prog_3_method_2_code cr_70_0 = true := rws_ok (p := 0) (by decide +kernel)
set_option maxRecDepth 100000 in
theorem vR_70_1 : cz_chkR prog_3_method_2_code cr_70_1 = true := rws_ok (p := 17) (by decide +kernel)
set_option maxRecDepth 100000 in
theorem vR_70_2 : cz_chkR prog_3_method_2_code cr_70_2 = true := rws_ok (p := 34) (by decide +kernel)
set_option maxRecDepth 100000 in
theorem vR_70_3 : cz_chkR prog_3_method_2_code cr_70_3 = true := rws_ok (p := 50) (by decide +kernel)
set_option maxRecDepth 100000 in
theorem vR_70_4 : cz_chkR prog_3_method_2_code cr_70_4 = true := rws_ok (p := 65) (by decide +kernel)
set_option maxRecDepth 100000 in
theorem vR_70_5 : cz_chkR prog_3_method_2_code cr_70_5 = true := rws_ok (p := 81) (by decide +kernel)
set_option maxRecDepth 100000 in
theorem vR_70_6 : cz_chkR prog_3_method_2_code cr_70_6 = true := rws_ok (p := 97) (by decide +kernel)
theorem vD_70 : cz_chkD cm_70 = true := cz_chkD_of (show ∀ row ∈ [cr_70_0, cr_70_1, cr_70_2, cr_70_3, cr_70_4, cr_70_5, cr_70_6], cz_chkR prog_3_method_2_code row = true from List.forall_mem_cons.mpr ⟨vR_70_0, List.forall_mem_cons.mpr ⟨vR_70_1, List.forall_mem_cons.mpr ⟨vR_70_2, List.forall_mem_cons.mpr ⟨vR_70_3, List.forall_mem_cons.mpr ⟨vR_70_4, List.forall_mem_cons.mpr ⟨vR_70_5, List.forall_mem_cons.mpr ⟨vR_70_6, fun _ w => (by cases w)⟩⟩⟩⟩⟩⟩⟩)
set_option maxRecDepth 100000 in
theorem vK_70 : cz_chkK cm_70 [[2111], [1060], [1053], [0, 5228, 4235, 4236], [5229, 5230], [0, 5232, 5148, 5149], [0, 5233, 5079, 5080]] = true := by decide +kernel
theorem vO_70 : cz_okM cm_70 := cz_chkM_ok cz_allY_ok cz_allC2_ok cz_asl_ok cz_okI0_ok vD_70 vK_70
set_option maxRecDepth 100000 in
theorem vR_71_0 : cz_chkR prog_3_method_3_code cr_71_0 = true := rws_ok (p := 0) (by decide +kernel)
set_option maxRecDepth 100000 in
theorem vR_71_1 : cz_chkR prog_3_method_3_code cr_71_1 = true := rws_ok (p := 16) (by decide +kernel)
set_option maxRecDepth 100000 in
theorem vR_71_2 : cz_chkR prog_3_method_3_code cr_71_2 = true := rws_ok (p := 34) (by decide +kernel)
theorem vD_71 : cz_chkD cm_71 = true := cz_chkD_of (show ∀ row ∈ [cr_71_0, cr_71_1, cr_71_2], cz_chkR prog_3_method_3_code row = true from List.forall_mem_cons.mpr ⟨vR_71_0, List.forall_mem_cons.mpr ⟨vR_71_1, List.forall_mem_cons.mpr ⟨vR_71_2, fun _ w => (by cases w)⟩⟩⟩)
set_option maxRecDepth 100000 in
theorem vK_71 : cz_chkK cm_71 [[1171], [1168], [1165]] = true := by decide +kernel
theorem vO_71 : cz_okM cm_71 := cz_chkM_ok cz_allY_ok cz_allC2_ok cz_asl_ok cz_okI0_ok vD_71 vK_71
set_option maxRecDepth 100000 in
theorem vR_72_0 : cz_chkR prog_3_method_11_code cr_72_0 = true := rws_ok (p := 0) (by decide +kernel)
set_option maxRecDepth 100000 in
theorem vR_72_3 : cz_chkR prog_3_method_11_code cr_72_3 = true := rws_ok (p := 48) (by decide +kernel)
set_option maxRecDepth 100000 in
theorem vR_72_4 : cz_chkR prog_3_method_11_code cr_72_4 = true := rws_ok (p := 66) (by decide +kernel)
set_option maxRecDepth 100000 in
theorem vR_72_5 : cz_chkR prog_3_method_11_code cr_72_5 = true := rws_ok (p := 80) (by decide +kernel)
set_option maxRecDepth 100000 in
theorem vR_72_6 : cz_chkR prog_3_method_11_code cr_72_6 = true := rws_ok (p := 98) (by decide +kernel)
set_option maxRecDepth 100000 in
theorem vR_72_7 : cz_chkR prog_3_method_11_code cr_72_7 = true := rws_ok (p := 112) (by decide +kernel)
set_option maxRecDepth 100000 in
theorem vR_72_8 : cz_chkR prog_3_method_11_code cr_72_8 = true := rws_ok (p := 129) (by decide +kernel)
set_option maxRecDepth 100000 in
theorem vR_72_9 : cz_chkR prog_3_method_11_code cr_72_9 = true := rws_ok (p := 144) (by decide +kernel)
theorem vD_72 : cz_chkD cm_72 = true := cz_chkD_of (show ∀ row ∈ [cr_72_0, [], [], cr_72_3, cr_72_4, cr_72_5, cr_72_6, cr_72_7, cr_72_8, cr_72_9], cz_chkR prog_3_method_11_code row = true from List.forall_mem_cons.mpr ⟨vR_72_0, List.forall_mem_cons.mpr ⟨rfl, List.forall_mem_cons.mpr ⟨rfl, List.forall_mem_cons.mpr ⟨vR_72_3, List.forall_mem_cons.mpr ⟨vR_72_4, List.forall_mem_cons.mpr ⟨vR_72_5, List.forall_mem_cons.mpr ⟨vR_72_6, List.forall_mem_cons.mpr ⟨vR_72_7, List.forall_mem_cons.mpr ⟨vR_72_8, List.forall_mem_cons.mpr ⟨vR_72_9, fun _ w => (by cases w)⟩⟩⟩⟩⟩⟩⟩⟩⟩⟩)
set_option maxRecDepth 100000 in
theorem vK_72 : cz_chkK cm_72 [[2119], [0, 6082, 6084, 71], [0, 6086, 6088, 72], [0, 6090, 6092, 73], [0, 6094, 6096, 74], [0, 6098, 6100, 75], [0, 6102, 6104, 76]] = true := by decide +kernel
theorem vO_72 : cz_okM cm_72 := cz_chkM_ok cz_allY_ok cz_allC2_ok cz_asl_ok cz_okI0_ok vD_72 vK_72
set_option maxRecDepth 100000 in
theorem vR_73_0 : cz_chkR prog_3_method_6_code cr_73_0 = true := rws_ok (p := 0) (by decide +kernel)
set_option maxRecDepth 100000 in
theorem vR_73_1 : cz_chkR prog_3_method_6_code cr_73_1 = true := rws_ok (p := 16) (by decide +kernel)
set_option maxRecDepth 100000 in
theorem vR_73_2 : cz_chkR prog_3_method_6_code cr_73_2 = true := rws_ok (p := 33) (by decide +kernel)
set_option maxRecDepth 100000 in
theorem vR_73_3 : cz_chkR prog_3_method_6_code cr_73_3 = true := rws_ok (p := 49) (by decide +kernel)
set_option maxRecDepth 100000 in
theorem vR_73_4 : cz_chkR prog_3_method_6_code cr_73_4 = true := rws_ok (p := 66) (by decide +kernel)
set_option maxRecDepth 100000 in
theorem vR_73_5 : cz_chkR prog_3_method_6_code cr_73_5 = true := rws_ok (p := 81) (by decide +kernel)
set_option maxRecDepth 100000 in
theorem vR_73_6 : cz_chkR prog_3_method_6_code cr_73_6 = true := rws_ok (p := 96) (by decide +kernel)
set_option maxRecDepth 100000 in
theorem vR_73_7 : cz_chkR prog_3_method_6_code cr_73_7 = true := rws_ok (p := 113) (by decide +kernel)
set_option maxRecDepth 100000 in
theorem vR_73_8 : cz_chkR prog_3_method_6_code cr_73_8 = true := rws_ok (p := 128) (by decide +kernel)
set_option maxRecDepth 100000 in
theorem vR_73_9 : cz_chkR prog_3_method_6_code cr_73_9 = true := rws_ok (p := 144) (by decide +kernel)
theorem vD_73 : cz_chkD cm_73 = true := cz_chkD_of (show ∀ row ∈ [cr_73_0, cr_73_1, cr_73_2, cr_73_3, cr_73_4, cr_73_5, cr_73_6, cr_73_7, cr_73_8, cr_73_9], cz_chkR prog_3_method_6_code row = true from List.forall_mem_cons.mpr ⟨vR_73_0, List.forall_mem_cons.mpr ⟨vR_73_1, List.forall_mem_cons.mpr ⟨vR_73_2, List.forall_mem_cons.mpr ⟨vR_73_3, List.forall_mem_cons.mpr ⟨vR_73_4, List.forall_mem_cons.mpr ⟨vR_73_5, List.forall_mem_cons.mpr ⟨vR_73_6, List.forall_mem_cons.mpr ⟨vR_73_7, List.forall_mem_cons.mpr ⟨vR_73_8, List.forall_mem_cons.mpr ⟨vR_73_9, fun _ w => (by cases w)⟩⟩⟩⟩⟩⟩⟩⟩⟩⟩)
set_option maxRecDepth 100000 in
theorem vK_73 : cz_chkK cm_73 [[2113], [2114], [2115], [2116], [2117], [2111], [1060], [1053], [2118], [2120], [2119], [0, 6002, 3224, 3225], [1201], [1153], [1089], [1093], [1156], [0, 6003, 5011, 5012]] = true := by decide +kernel
theorem vO_73 : cz_okM cm_73 := cz_chkM_ok cz_allY_ok cz_allC2_ok cz_asl_ok cz_okI0_ok vD_73 vK_73
set_option maxRecDepth 100000 in
theorem vR_74_0 : cz_chkR prog_3_method_9_code cr_74_0 = true := rws_ok (p := 0) (by decide +kernel)
set_option maxRecDepth 100000 in
theorem vR_74_1 : cz_chkR prog_3_method_9_code cr_74_1 = true := rws_ok (p := 17) (by decide +kernel)
set_option maxRecDepth 100000 in
theorem vR_74_2 : cz_chkR prog_3_method_9_code cr_74_2 = true := rws_ok (p := 33) (by decide +kernel)
set_option maxRecDepth 100000 in
theorem vR_74_3 : cz_chkR prog_3_method_9_code cr_74_3 = true := rws_ok (p := 48) (by decide +kernel)
set_option maxRecDepth 100000 in
theorem vR_74_4 : cz_chkR prog_3_method_9_code cr_74_4 = true := rws_ok (p := 65) (by decide +kernel)
theorem vD_74 : cz_chkD cm_74 = true := cz_chkD_of (show ∀ row ∈ [cr_74_0, cr_74_1, cr_74_2, cr_74_3, cr_74_4], cz_chkR prog_3_method_9_code row = true from List.forall_mem_cons.mpr ⟨vR_74_0, List.forall_mem_cons.mpr ⟨vR_74_1, List.forall_mem_cons.mpr ⟨vR_74_2, List.forall_mem_cons.mpr ⟨vR_74_3, List.forall_mem_cons.mpr ⟨vR_74_4, fun _ w => (by cases w)⟩⟩⟩⟩⟩)
set_option maxRecDepth 100000 in
theorem vK_74 : cz_chkK cm_74 [[2113], [2117], [2111], [1201], [1153], [1105], [1102], [1108]] = true := by decide +kernel
theorem vO_74 : cz_okM cm_74 := cz_chkM_ok cz_allY_ok cz_allC2_ok cz_asl_ok cz_okI0_ok vD_74 vK_74
set_option maxRecDepth 100000 in
theorem vR_75_0 : cz_chkR prog_3_method_14_code cr_75_0 = true := rws_ok (p := 0) (by decide +kernel)
set_option maxRecDepth 100000 in
theorem vR_75_1 : cz_chkR prog_3_method_14_code cr_75_1 = true := rws_ok (p := 16) (by decide +kernel)
set_option maxRecDepth 100000 in
theorem vR_75_2 : cz_chkR prog_3_method_14_code cr_75_2 = true := rws_ok (p := 33) (by decide +kernel)
set_option maxRecDepth 100000 in
theorem vR_75_3 : cz_chkR prog_3_method_14_code cr_75_3 = true := rws_ok (p := 48) (by decide +kernel)
set_option maxRecDepth 100000 in
theorem vR_75_4 : cz_chkR prog_3_method_14_code cr_75_4 = true := rws_ok (p := 64) (by decide +kernel)
theorem vD_75 : cz_chkD cm_75 = true := cz_chkD_of (show ∀ row ∈ [cr_75_0, cr_75_1, cr_75_2, cr_75_3, cr_75_4], cz_chkR prog_3_method_14_code row = true from List.forall_mem_cons.mpr ⟨vR_75_0, List.forall_mem_cons.mpr ⟨vR_75_1, List.forall_mem_cons.mpr ⟨vR_75_2, List.forall_mem_cons.mpr ⟨vR_75_3, List.forall_mem_cons.mpr ⟨vR_75_4, fun _ w => (by cases w)⟩⟩⟩⟩⟩)
set_option maxRecDepth 100000 in
theorem vK_75 : cz_chkK cm_75 [[2114], [2115]] = true := by decide +kernel
theorem vO_75 : cz_okM cm_75 := cz_chkM_ok cz_allY_ok cz_allC2_ok cz_asl_ok cz_okI0_ok vD_75 vK_75
set_option maxRecDepth 100000 in
theorem vR_76_0 : cz_chkR prog_3_method_8_code cr_76_0 = true := rws_ok (p := 0) (by decide +kernel)
set_option maxRecDepth 100000 in
theorem vR_76_1 : cz_chkR prog_3_method_8_code cr_76_1 = true := rws_ok (p := 16) (by decide +kernel)
set_option maxRecDepth 100000 in
theorem vR_76_2 : cz_chkR prog_3_method_8_code cr_76_2 = true := rws_ok (p := 34) (by decide +kernel)
set_option maxRecDepth 100000 in
theorem vR_76_3 : cz_chkR prog_3_method_8_code cr_76_3 = true := rws_ok (p := 50) (by decide +kernel)
set_option maxRecDepth 100000 in
theorem vR_76_4 : cz_chkR prog_3_method_8_code cr_76_4 = true := rws_ok (p := 64) (by decide +kernel)
theorem vD_76 : cz_chkD cm_76 = true := cz_chkD_of (show ∀ row ∈ [cr_76_0, cr_76_1, cr_76_2, cr_76_3, cr_76_4], cz_chkR prog_3_method_8_code row = true from List.forall_mem_cons.mpr ⟨vR_76_0, List.forall_mem_cons.mpr ⟨vR_76_1, List.forall_mem_cons.mpr ⟨vR_76_2, List.forall_mem_cons.mpr ⟨vR_76_3, List.forall_mem_cons.mpr ⟨vR_76_4, fun _ w => (by cases w)⟩⟩⟩⟩⟩)
set_option maxRecDepth 100000 in
theorem vK_76 : cz_chkK cm_76 [[2113], [2111], [1201], [1174], [4001], [0, 6070, 6071, 6072], [0, 6074, 6076, 69], [4009]] = true := by decide +kernel
theorem vO_76 : cz_okM cm_76 := cz_chkM_ok cz_allY_ok cz_allC2_ok cz_asl_ok cz_okI0_ok vD_76 vK_76
set_option maxRecDepth 100000 in
theorem vR_77_0 : cz_chkR prog_3_method_5_code cr_77_0 = true := rws_ok (p := 0) (by decide +kernel)
set_option maxRecDepth 100000 in
theorem vR_77_1 : cz_chkR prog_3_method_5_code cr_77_1 = true := rws_ok (p := 16) (by decide +kernel)
set_option maxRecDepth 100000 in
theorem vR_77_2 : cz_chkR prog_3_method_5_code cr_77_2 = true := rws_ok (p := 34) (by decide +kernel)
set_option maxRecDepth 100000 in
theorem vR_77_3 : cz_chkR prog_3_method_5_code cr_77_3 = true := rws_ok (p := 50) (by decide +kernel)
theorem vD_77 : cz_chkD cm_77 = true := cz_chkD_of (show ∀ row ∈ [cr_77_0, cr_77_1, cr_77_2, cr_77_3], cz_chkR prog_3_method_5_code row = true from List.forall_mem_cons.mpr ⟨vR_77_0, List.forall_mem_cons.mpr ⟨vR_77_1, List.forall_mem_cons.mpr ⟨vR_77_2, List.forall_mem_cons.mpr ⟨vR_77_3, fun _ w => (by cases w)⟩⟩⟩⟩)
set_option maxRecDepth 100000 in
theorem vK_77 : cz_chkK cm_77 [[2116], [2112], [2120], [0, 6024, 6025, 6026]] = true := by decide +kernel
theorem vO_77 : cz_okM cm_77 := cz_chkM_ok cz_allY_ok cz_allC2_ok cz_asl_ok cz_okI0_ok vD_77 vK_77
set_option maxRecDepth 100000 in
theorem vR_78_0 : cz_chkR prog_4_method_1_code cr_78_0 = true := rws_ok (p := 0) (by decide +kernel)
set_option maxRecDepth 100000 in
theorem vR_78_1 : cz_chkR prog_4_method_1_code cr_78_1 = true := rws_ok (p := 16) (by decide +kernel)
set_option maxRecDepth 100000 in
theorem vR_78_2 : cz_chkR prog_4_method_1_code cr_78_2 = true := rws_ok (p := 32) (by decide +kernel)
theorem vD_78 : cz_chkD cm_78 = true := cz_chkD_of (show ∀ row ∈ [cr_78_0, cr_78_1, cr_78_2], cz_chkR prog_4_method_1_code row = true from List.forall_mem_cons.mpr ⟨vR_78_0, List.forall_mem_cons.mpr ⟨vR_78_1, List.forall_mem_cons.mpr ⟨vR_78_2, fun _ w => (by cases w)⟩⟩⟩)
set_option maxRecDepth 100000 in
theorem vK_78 : cz_chkK cm_78 [[2147, 1041, 1042], [2148], [2149, 1048, 1049], [2153], [2154], [2150], [2155], [2151], [2152]] = true := by decide +kernel
theorem vO_78 : cz_okM cm_78 := cz_chkM_ok cz_allY_ok cz_allC2_ok cz_asl_ok cz_okI0_ok vD_78 vK_78
set_option maxRecDepth 100000 in
theorem vR_79_0 : cz_chkR prog_4_method_2_code cr_79_0 = true := rws_ok (p := 0) (by decide +kernel)
set_option maxRecDepth 100000 in
theorem vR_79_1 : cz_chkR prog_4_method_2_code cr_79_1 = true := rws_ok (p := 16) (by decide +kernel)
set_option maxRecDepth 100000 in
theorem vR_79_2 : cz_chkR prog_4_method_2_code cr_79_2 = true := rws_ok (p := 32) (by decide +kernel)
set_option maxRecDepth 100000 in
theorem vR_79_3 : cz_chkR prog_4_method_2_code cr_79_3 = true := rws_ok (p := 50) (by decide +kernel)
set_option maxRecDepth 100000 in
theorem vR_79_4 : cz_chkR prog_4_method_2_code cr_79_4 = true := rws_ok (p := 64) (by decide +kernel)
set_option maxRecDepth 100000 in
theorem vR_79_5 : cz_chkR prog_4_method_2_code cr_79_5 = true := rws_ok (p := 81) (by decide +kernel)
set_option maxRecDepth 100000 in
theorem vR_79_6 : cz_chkR prog_4_method_2_code cr_79_6 = true := rws_ok (p := 98) (by decide +kernel)
theorem vD_79 : cz_chkD cm_79 = true := cz_chkD_of (show ∀ row ∈ [cr_79_0, cr_79_1, cr_79_2, cr_79_3, cr_79_4, cr_79_5, cr_79_6], cz_chkR prog_4_method_2_code row = true from List.forall_mem_cons.mpr ⟨vR_79_0, List.forall_mem_cons.mpr ⟨vR_79_1, List.forall_mem_cons.mpr ⟨vR_79_2, List.forall_mem_cons.mpr ⟨vR_79_3, List.forall_mem_cons.mpr ⟨vR_79_4, List.forall_mem_cons.mpr ⟨vR_79_5, List.forall_mem_cons.mpr ⟨vR_79_6, fun _ w => (by cases w)⟩⟩⟩⟩⟩⟩⟩)
set_option maxRecDepth 100000 in
theorem vK_79 : cz_chkK cm_79 [[2153], [2154], [2151], [2152], [2157], [2158], [2156], [0, 6161, 5132, 5133], [1061], [1054], [0, 6162, 5018, 5019], [0, 6163, 6165, 80]] = true := by decide +kernel
theorem vO_79 : cz_okM cm_79 := cz_chkM_ok cz_allY_ok cz_allC2_ok cz_asl_ok cz_okI0_ok vD_79 vK_79
set_option maxRecDepth 100000 in
theorem vR_80_0 : cz_chkR prog_4_method_6_code cr_80_0 = true := rws_ok (p := 0) (by decide +kernel)
set_option maxRecDepth 100000 in
theorem vR_80_1 : cz_chkR prog_4_method_6_code cr_80_1 = true := rws_ok (p := 16) (by decide +kernel)
set_option maxRecDepth 100000 in
theorem vR_80_2 : cz_chkR prog_4_method_6_code cr_80_2 = true := rws_ok (p := 32) (by decide +kernel)
theorem vD_80 : cz_chkD cm_80 = true := cz_chkD_of (show ∀ row ∈ [cr_80_0, cr_80_1, cr_80_2], cz_chkR prog_4_method_6_code row = true from List.forall_mem_cons.mpr ⟨vR_80_0, List.forall_mem_cons.mpr ⟨vR_80_1, List.forall_mem_cons.mpr ⟨vR_80_2, fun _ w => (by cases w)⟩⟩⟩)
set_option maxRecDepth 100000 in
theorem vK_80 : cz_chkK cm_80 [[2153], [2154], [1054]] = true := by decide +kernel
theorem vO_80 : cz_okM cm_80 := cz_chkM_ok cz_allY_ok cz_allC2_ok cz_asl_ok cz_okI0_ok vD_80 vK_80
set_option maxRecDepth 100000 in
theorem vR_81_0 : cz_chkR prog_4_method_11_code cr_81_0 = true := rws_ok (p := 0) (by decide +kernel)
set_option maxRecDepth 100000 in
theorem vR_81_1 : cz_chkR prog_4_method_11_code cr_81_1 = true := rws_ok (p := 16) (by decide +kernel)
set_option maxRecDepth 100000 in
theorem vR_81_2 : cz_chkR prog_4_method_11_code cr_81_2 = true := rws_ok (p := 32) (by decide +kernel)
set_option maxRecDepth 100000 in
theorem vR_81_3 : cz_chkR prog_4_method_11_code cr_81_3 = true := rws_ok (p := 49) (by decide +kernel)
theorem vD_81 : cz_chkD cm_81 = true := cz_chkD_of (show ∀ row ∈ [cr_81_0, cr_81_1, cr_81_2, cr_81_3], cz_chkR prog_4_method_11_code row = true from List.forall_mem_cons.mpr ⟨vR_81_0, List.forall_mem_cons.mpr ⟨vR_81_1, List.forall_mem_cons.mpr ⟨vR_81_2, List.forall_mem_cons.mpr ⟨vR_81_3, fun _ w => (by cases w)⟩⟩⟩⟩)
set_option maxRecDepth 100000 in
theorem vK_81 : cz_chkK cm_81 [[2156], [0, 6218, 6220, 87]] = true := by decide +kernel
theorem vO_81 : cz_okM cm_81 := cz_chkM_ok cz_allY_ok cz_allC2_ok cz_asl_ok cz_okI0_ok vD_81 vK_81
set_option maxRecDepth 100000 in
theorem vR_82_0 : cz_chkR prog_4_method_15_code cr_82_0 = true := rws_ok (p := 0) (by decide +kernel)
set_option maxRecDepth 100000 in
theorem vR_82_1 : cz_chkR prog_4_method_15_code cr_82_1 = true := rws_ok (p := 16) (by decide +kernel)
set_option maxRecDepth 100000 in
theorem vR_82_2 : cz_chkR prog_4_method_15_code cr_82_2 = true := rws_ok (p := 32) (by decide +kernel)
set_option maxRecDepth 100000 in
theorem vR_82_3 : cz_chkR prog_4_method_15_code cr_82_3 = true := rws_ok (p := 48) (by decide +kernel)
set_option maxRecDepth 100000 in
theorem vR_82_4 : cz_chkR prog_4_method_15_code cr_82_4 = true := rws_ok (p := 64) (by decide +kernel)
set_option maxRecDepth 100000 in
theorem vR_82_5 : cz_chkR prog_4_method_15_code cr_82_5 = true := rws_ok (p := 80) (by decide +kernel)
set_option maxRecDepth 100000 in
theorem vR_82_6 : cz_chkR prog_4_method_15_code cr_82_6 = true := rws_ok (p := 96) (by decide +kernel)
set_option maxRecDepth 100000 in
theorem vR_82_7 : cz_chkR prog_4_method_15_code cr_82_7 = true := rws_ok (p := 112) (by decide +kernel)
theorem vD_82 : cz_chkD cm_82 = true := cz_chkD_of (show ∀ row ∈ [cr_82_0, cr_82_1, cr_82_2, cr_82_3, cr_82_4, cr_82_5, cr_82_6, cr_82_7], cz_chkR prog_4_method_15_code row = true from List.forall_mem_cons.mpr ⟨vR_82_0, List.forall_mem_cons.mpr ⟨vR_82_1, List.forall_mem_cons.mpr ⟨vR_82_2, List.forall_mem_cons.mpr ⟨vR_82_3, List.forall_mem_cons.mpr ⟨vR_82_4, List.forall_mem_cons.mpr ⟨vR_82_5, List.forall_mem_cons.mpr ⟨vR_82_6, List.forall_mem_cons.mpr ⟨vR_82_7, fun _ w => (by cases w)⟩⟩⟩⟩⟩⟩⟩⟩)
set_option maxRecDepth 100000 in
theorem vK_82 : cz_chkK cm_82 [[2156], [0, 6218, 6220, 87], [0, 7004, 7006, 89]] = true := by decide +kernel
theorem vO_82 : cz_okM cm_82 := cz_chkM_ok cz_allY_ok cz_allC2_ok cz_asl_ok cz_okI0_ok vD_82 vK_82
set_option maxRecDepth 100000 in
theorem vR_83_0 : cz_chkR prog_4_method_5_code cr_83_0 = true := rws_ok (p := 0) (by decide +kernel)
set_option maxRecDepth 100000 in
theorem vR_83_1 : cz_chkR prog_4_method_5_code cr_83_1 = true := rws_ok (p := 18) (by decide +kernel)
set_option maxRecDepth 100000 in
theorem vR_83_2 : cz_chkR prog_4_method_5_code cr_83_2 = true := rws_ok (p := 32) (by decide +kernel)
theorem vD_83 : cz_chkD cm_83 = true := cz_chkD_of (show ∀ row ∈ [cr_83_0, cr_83_1, cr_83_2], cz_chkR prog_4_method_5_code row = true from List.forall_mem_cons.mpr ⟨vR_83_0, List.forall_mem_cons.mpr ⟨vR_83_1, List.forall_mem_cons.mpr ⟨vR_83_2, fun _ w => (by cases w)⟩⟩⟩)
set_option maxRecDepth 100000 in
theorem vK_83 : cz_chkK cm_83 [[2151], [1207], [4150], [6171, 4142], [0, 6172, 6173, 6174], [1205]] = true := by decide +kernel
theorem vO_83 : cz_okM cm_83 := cz_chkM_ok cz_allY_ok cz_allC2_ok cz_asl_ok cz_okI0_ok vD_83 vK_83
set_option maxRecDepth 100000 in
theorem vR_84_0 : cz_chkR prog_4_method_4_code cr_84_0 = true := rws_ok (p := 0) (by decide +kernel)
set_option maxRecDepth 100000 in
theorem vR_84_1 : cz_chkR prog_4_method_4_code cr_84_1 = true := rws_ok (p := 17) (by decide +kernel)
set_option maxRecDepth 100000 in
theorem vR_84_2 : cz_chkR prog_4_method_4_code cr_84_2 = true := rws_ok (p := 32) (by decide +kernel)
set_option maxRecDepth 100000 in
theorem vR_84_3 : cz_chkR prog_4_method_4_code cr_84_3 = true := rws_ok (p := 48) (by decide +kernel)
set_option maxRecDepth 100000 in
theorem vR_84_4 : cz_chkR prog_4_method_4_code cr_84_4 = true := rws_ok (p := 65) (by decide +kernel)
set_option maxRecDepth 100000 in
theorem vR_84_5 : cz_chkR prog_4_method_4_code cr_84_5 = true := rws_ok (p := 80) (by decide +kernel)
theorem vD_84 : cz_chkD cm_84 = true := cz_chkD_of (show ∀ row ∈ [cr_84_0, cr_84_1, cr_84_2, cr_84_3, cr_84_4, cr_84_5], cz_chkR prog_4_method_4_code row = true from List.forall_mem_cons.mpr ⟨vR_84_0, List.forall_mem_cons.mpr ⟨vR_84_1, List.forall_mem_cons.mpr ⟨vR_84_2, List.forall_mem_cons.mpr ⟨vR_84_3, List.forall_mem_cons.mpr ⟨vR_84_4, List.forall_mem_cons.mpr ⟨vR_84_5, fun _ w => (by cases w)⟩⟩⟩⟩⟩⟩)
set_option maxRecDepth 100000 in
theorem vK_84 : cz_chkK cm_84 [[2153], [2151], [1061], [1054], [6171, 4142], [0, 6172, 6173, 6174]] = true := by decide +kernel
theorem vO_84 : cz_okM cm_84 := cz_chkM_ok cz_allY_ok cz_allC2_ok cz_asl_ok cz_okI0_ok vD_84 vK_84
set_option maxRecDepth 100000 in
theorem vR_85_0 : cz_chkR prog_4_method_14_code cr_85_0 = true := rws_ok (p := 0) (by decide +kernel)
set_option maxRecDepth 100000 in
theorem vR_85_1 : cz_chkR prog_4_method_14_code cr_85_1 = true := rws_ok (p := 17) (by decide +kernel)
theorem vD_85 : cz_chkD cm_85 = true := cz_chkD_of (show ∀ row ∈ [cr_85_0, cr_85_1], cz_chkR prog_4_method_14_code row = true from List.forall_mem_cons.mpr ⟨vR_85_0, List.forall_mem_cons.mpr ⟨vR_85_1, fun _ w => (by cases w)⟩⟩)
set_option maxRecDepth 100000 in
theorem vK_85 : cz_chkK cm_85 [[0, 7000, 7002, 88]] = true := by decide +kernel
theorem vO_85 : cz_okM cm_85 := cz_chkM_ok cz_allY_ok cz_allC2_ok cz_asl_ok cz_okI0_ok vD_85 vK_85
set_option maxRecDepth 100000 in
theorem vR_86_0 : cz_chkR prog_4_method_8_code cr_86_0 = true := rws_ok (p := 0) (by decide +kernel)
set_option maxRecDepth 100000 in
theorem vR_86_1 : cz_chkR prog_4_method_8_code cr_86_1 = true := rws_ok (p := 16) (by decide +kernel)
set_option maxRecDepth 100000 in
theorem vR_86_2 : cz_chkR prog_4_method_8_code cr_86_2 = true := rws_ok (p := 32) (by decide +kernel)
set_option maxRecDepth 100000 in
theorem vR_86_3 : cz_chkR prog_4_method_8_code cr_86_3 = true := rws_ok (p := 48) (by decide +kernel)
theorem vD_86 : cz_chkD cm_86 = true := cz_chkD_of (show ∀ row ∈ [cr_86_0, cr_86_1, cr_86_2, cr_86_3], cz_chkR prog_4_method_8_code row = true from List.forall_mem_cons.mpr ⟨vR_86_0, List.forall_mem_cons.mpr ⟨vR_86_1, List.forall_mem_cons.mpr ⟨vR_86_2, List.forall_mem_cons.mpr ⟨vR_86_3, fun _ w => (by cases w)⟩⟩⟩⟩)
set_option maxRecDepth 100000 in
theorem vK_86 : cz_chkK cm_86 [[2155], [2157], [2156], [0, 6190, 6192, 84], [6194]] = true := by decide +kernel
theorem vO_86 : cz_okM cm_86 := cz_chkM_ok cz_allY_ok cz_allC2_ok cz_asl_ok cz_okI0_ok vD_86 vK_86
set_option maxRecDepth 100000 in
theorem vR_87_0 : cz_chkR prog_4_method_7_code cr_87_0 = true := rws_ok (p := 0) (by decide +kernel)
set_option maxRecDepth 100000 in
theorem vR_87_1 : cz_chkR prog_4_method_7_code cr_87_1 = true := rws_ok (p := 16) (by decide +kernel)
set_option maxRecDepth 100000 in
theorem vR_87_2 : cz_chkR prog_4_method_7_code cr_87_2 = true := rws_ok (p := 32) (by decide +kernel)
set_option maxRecDepth 100000 in
theorem vR_87_3 : cz_chkR prog_4_method_7_code cr_87_3 = true := rws_ok (p := 48) (by decide +kernel)
theorem vD_87 : cz_chkD cm_87 = true := cz_chkD_of (show ∀ row ∈ [cr_87_0, cr_87_1, cr_87_2, cr_87_3], cz_chkR prog_4_method_7_code row = true from List.forall_mem_cons.mpr ⟨vR_87_0, List.forall_mem_cons.mpr ⟨vR_87_1, List.forall_mem_cons.mpr ⟨vR_87_2, List.forall_mem_cons.mpr ⟨vR_87_3, fun _ w => (by cases w)⟩⟩⟩⟩)
set_option maxRecDepth 100000 in
theorem vK_87 : cz_chkK cm_87 [[2151], [0, 6186, 6188, 83], [0, 6180, 4235, 4236], [0, 6181, 5011, 5012], [6182], [6183], [6184], [6185], [6196]] = true := by decide +kernel
theorem vO_87 : cz_okM cm_87 := cz_chkM_ok cz_allY_ok cz_allC2_ok cz_asl_ok cz_okI0_ok vD_87 vK_87
set_option maxRecDepth 100000 in
theorem vR_88_0 : cz_chkR prog_4_method_9_code cr_88_0 = true := rws_ok (p := 0) (by decide +kernel)
set_option maxRecDepth 100000 in
theorem vR_88_1 : cz_chkR prog_4_method_9_code cr_88_1 = true := rws_ok (p := 18) (by decide +kernel)
set_option maxRecDepth 100000 in
theorem vR_88_2 : cz_chkR prog_4_method_9_code cr_88_2 = true := rws_ok (p := 32) (by decide +kernel)
set_option maxRecDepth 100000 in
theorem vR_88_3 : cz_chkR prog_4_method_9_code cr_88_3 = true := rws_ok (p := 48) (by decide +kernel)
set_option maxRecDepth 100000 in
theorem vR_88_4 : cz_chkR prog_4_method_9_code cr_88_4 = true := rws_ok (p := 64) (by decide +kernel)
theorem vD_88 : cz_chkD cm_88 = true := cz_chkD_of (show ∀ row ∈ [cr_88_0, cr_88_1, cr_88_2, cr_88_3, cr_88_4], cz_chkR prog_4_method_9_code row = true from List.forall_mem_cons.mpr ⟨vR_88_0, List.forall_mem_cons.mpr ⟨vR_88_1, List.forall_mem_cons.mpr ⟨vR_88_2, List.forall_mem_cons.mpr ⟨vR_88_3, List.forall_mem_cons.mpr ⟨vR_88_4, fun _ w => (by cases w)⟩⟩⟩⟩⟩)
set_option maxRecDepth 100000 in
theorem vK_88 : cz_chkK cm_88 [[2158], [6194], [6195]] = true := by decide +kernel
theorem vO_88 : cz_okM cm_88 := cz_chkM_ok cz_allY_ok cz_allC2_ok cz_asl_ok cz_okI0_ok vD_88 vK_88
set_option maxRecDepth 100000 in
theorem vR_89_0 : cz_chkR prog_4_method_16_code cr_89_0 = true := rws_ok (p := 0) (by decide +kernel)
set_option maxRecDepth 100000 in
theorem vR_89_1 : cz_chkR prog_4_method_16_code cr_89_1 = true := rws_ok (p := 16) (by decide +kernel)
theorem vD_89 : cz_chkD cm_89 = true := cz_chkD_of (show ∀ row ∈ [cr_89_0, cr_89_1], cz_chkR prog_4_method_16_code row = true from List.forall_mem_cons.mpr ⟨vR_89_0, List.forall_mem_cons.mpr ⟨vR_89_1, fun _ w => (by cases w)⟩⟩)
set_option maxRecDepth 100000 in
theorem vK_89 : cz_chkK cm_89 [[2156], [0, 6218, 6220, 87]] = true := by decide +kernel
theorem vO_89 : cz_okM cm_89 := cz_chkM_ok cz_allY_ok cz_allC2_ok cz_asl_ok cz_okI0_ok vD_89 vK_89
set_option maxRecDepth 100000 in
theorem vR_90_0 : cz_chkR prog_4_method_3_code cr_90_0 = true := rws_ok (p := 0) (by decide +kernel)
set_option maxRecDepth 100000 in
theorem vR_90_1 : cz_chkR prog_4_method_3_code cr_90_1 = true := rws_ok (p := 16) (by decide +kernel)
set_option maxRecDepth 100000 in
theorem vR_90_2 : cz_chkR prog_4_method_3_code cr_90_2 = true := rws_ok (p := 33) (by decide +kernel)
set_option maxRecDepth 100000 in
theorem vR_90_3 : cz_chkR prog_4_method_3_code cr_90_3 = true := rws_ok (p := 49) (by decide +kernel)
set_option maxRecDepth 100000 in
theorem vR_90_4 : cz_chkR prog_4_method_3_code cr_90_4 = true := rws_ok (p := 65) (by decide +kernel)
set_option maxRecDepth 100000 in
theorem vR_90_5 : cz_chkR prog_4_method_3_code cr_90_5 = true := rws_ok (p := 82) (by decide +kernel)
set_option maxRecDepth 100000 in
theorem vR_90_6 : cz_chkR prog_4_method_3_code cr_90_6 = true := rws_ok (p := 96) (by decide +kernel)
set_option maxRecDepth 100000 in
theorem vR_90_7 : cz_chkR prog_4_method_3_code cr_90_7 = true := rws_ok (p := 112) (by decide +kernel)
set_option maxRecDepth 100000 in
theorem vR_90_8 : cz_chkR prog_4_method_3_code cr_90_8 = true := rws_ok (p := 129) (by decide +kernel)
set_option maxRecDepth 100000 in
theorem vR_90_9 : cz_chkR prog_4_method_3_code cr_90_9 = true := rws_ok (p := 145) (by decide +kernel)
set_option maxRecDepth 100000 in
theorem vR_90_10 : cz_chkR prog_4_method_3_code cr_90_10 = true := rws_ok (p := 161) (by decide +kernel)
set_option maxRecDepth 100000 in
theorem vR_90_11 : cz_chkR prog_4_method_3_code cr_90_11 = true := rws_ok (p := 176) (by decide +kernel)
set_option maxRecDepth 100000 in
theorem vR_90_12 : cz_chkR prog_4_method_3_code cr_90_12 = true := rws_ok (p := 194) (by decide +kernel)
theorem vD_90 : cz_chkD cm_90 = true := cz_chkD_of (show ∀ row ∈ [cr_90_0, cr_90_1, cr_90_2, cr_90_3, cr_90_4, cr_90_5, cr_90_6, cr_90_7, cr_90_8, cr_90_9, cr_90_10, cr_90_11, cr_90_12], cz_chkR prog_4_method_3_code row = true from List.forall_mem_cons.mpr ⟨vR_90_0, List.forall_mem_cons.mpr ⟨vR_90_1, List.forall_mem_cons.mpr ⟨vR_90_2, List.forall_mem_cons.mpr ⟨vR_90_3, List.forall_mem_cons.mpr ⟨vR_90_4, List.forall_mem_cons.mpr ⟨vR_90_5, List.forall_mem_cons.mpr ⟨vR_90_6, List.forall_mem_cons.mpr ⟨vR_90_7, List.forall_mem_cons.mpr ⟨vR_90_8, List.forall_mem_cons.mpr ⟨vR_90_9, List.forall_mem_cons.mpr ⟨vR_90_10, List.forall_mem_cons.mpr ⟨vR_90_11, List.forall_mem_cons.mpr ⟨vR_90_12, fun _ w => (by cases w)⟩⟩⟩⟩⟩⟩⟩⟩⟩⟩⟩⟩⟩)
set_option maxRecDepth 100000 in
theorem vK_90 : cz_chkK cm_90 [[2153], [2154], [2151], [1061], [1054], [0, 6167, 6169, 81], [0, 6176, 6178, 82], [1207], [4150], [0, 6197, 6198, 6199], [0, 6201, 6203, 85], [6205, 5189], [0, 6206, 6208, 86], [4153], [0, 6186, 6188, 83]] = true := by decide +kernel
theorem vO_90 : cz_okM cm_90 := cz_chkM_ok cz_allY_ok cz_allC2_ok cz_asl_ok cz_okI0_ok vD_90 vK_90
set_option maxRecDepth 100000 in
theorem vR_91_0 : cz_chkR prog_4_method_10_code cr_91_0 = true := rws_ok (p := 0) (by decide +kernel)
set_option maxRecDepth 100000 in
theorem vR_91_1 : cz_chkR prog_4_method_10_code cr_91_1 = true := rws_ok (p := 16) (by decide +kernel)
theorem vD_91 : cz_chkD cm_91 = true := cz_chkD_of (show ∀ row ∈ [cr_91_0, cr_91_1], cz_chkR prog_4_method_10_code row = true from List.forall_mem_cons.mpr ⟨vR_91_0, List.forall_mem_cons.mpr ⟨vR_91_1, fun _ w => (by cases w)⟩⟩)
set_option maxRecDepth 100000 in
theorem vK_91 : cz_chkK cm_91 [[2155], [6195]] = true := by decide +kernel
theorem vO_91 : cz_okM cm_91 := cz_chkM_ok cz_allY_ok cz_allC2_ok cz_asl_ok cz_okI0_ok vD_91 vK_91
set_option maxRecDepth 100000 in
theorem vR_92_0 : cz_chkR prog_4_method_12_code cr_92_0 = true := rws_ok (p := 0) (by decide +kernel)
set_option maxRecDepth 100000 in
theorem vR_92_1 : cz_chkR prog_4_method_12_code cr_92_1 = true := rws_ok (p := 16) (by decide +kernel)
set_option maxRecDepth 100000 in
theorem vR_92_2 : cz_chkR prog_4_method_12_code cr_92_2 = true := rws_ok (p := 32) (by decide +kernel)
set_option maxRecDepth 100000 in
theorem vR_92_3 : cz_chkR prog_4_method_12_code cr_92_3 = true := rws_ok (p := 48) (by decide +kernel)
set_option maxRecDepth 100000 in
theorem vR_92_4 : cz_chkR prog_4_method_12_code cr_92_4 = true := rws_ok (p := 66) (by decide +kernel)
theorem vD_92 : cz_chkD cm_92 = true := cz_chkD_of (show ∀ row ∈ [cr_92_0, cr_92_1, cr_92_2, cr_92_3, cr_92_4], cz_chkR prog_4_method_12_code row = true from List.forall_mem_cons.mpr ⟨vR_92_0, List.forall_mem_cons.mpr ⟨vR_92_1, List.forall_mem_cons.mpr ⟨vR_92_2, List.forall_mem_cons.mpr ⟨vR_92_3, List.forall_mem_cons.mpr ⟨vR_92_4, fun _ w => (by cases w)⟩⟩⟩⟩⟩)
set_option maxRecDepth 100000 in
theorem vK_92 : cz_chkK cm_92 [[2156], [0, 6218, 6220, 87], [6226, 6227]] = true := by decide +kernel
theorem vO_92 : cz_okM cm_92 := cz_chkM_ok cz_allY_ok cz_allC2_ok cz_asl_ok cz_okI0_ok vD_92 vK_92
set_option maxRecDepth 100000 in
theorem vR_93_0 : cz_chkR prog_4_method_13_code cr_93_0 = true := rws_ok (p := 0) (by decide +kernel)
set_option maxRecDepth 100000 in
theorem vR_93_1 : cz_chkR prog_4_method_13_code cr_93_1 = true := rws_ok (p := 16) (by decide +kernel)
theorem vD_93 : cz_chkD cm_93 = true := cz_chkD_of (show ∀ row ∈ [cr_93_0, cr_93_1], cz_chkR prog_4_method_13_code row = true from List.forall_mem_cons.mpr ⟨vR_93_0, List.forall_mem_cons.mpr ⟨vR_93_1, fun _ w => (by cases w)⟩⟩)
set_option maxRecDepth 100000 in
theorem vK_93 : cz_chkK cm_93 [] = true := by decide +kernel
theorem vO_93 : cz_okM cm_93 := cz_chkM_ok cz_allY_ok cz_allC2_ok cz_asl_ok cz_okI0_ok vD_93 vK_93
set_option maxRecDepth 100000 in
theorem vR_94_0 : cz_chkR prog_5_method_1_code cr_94_0 = true := rws_ok (p := 0) (by decide +kernel)
set_option maxRecDepth 100000 in
theorem vR_94_1 : cz_chkR prog_5_method_1_code cr_94_1 = true := rws_ok (p := 18) (by decide +kernel)
set_option maxRecDepth 100000 in
theorem vR_94_2 : cz_chkR prog_5_method_1_code cr_94_2 = true := rws_ok (p := 33) (by decide +kernel)
set_option maxRecDepth 100000 in
theorem vR_94_3 : cz_chkR prog_5_method_1_code cr_94_3 = true := rws_ok (p := 50) (by decide +kernel)
set_option maxRecDepth 100000 in
theorem vR_94_4 : cz_chkR prog_5_method_1_code cr_94_4 = true := rws_ok (p := 65) (by decide +kernel)
set_option maxRecDepth 100000 in
theorem vR_94_5 : cz_chkR prog_5_method_1_code cr_94_5 = true := rws_ok (p := 82) (by decide +kernel)
theorem vD_94 : cz_chkD cm_94 = true := cz_chkD_of (show ∀ row ∈ [cr_94_0, cr_94_1, cr_94_2, cr_94_3, cr_94_4, cr_94_5], cz_chkR prog_5_method_1_code row = true from List.forall_mem_cons.mpr ⟨vR_94_0, List.forall_mem_cons.mpr ⟨vR_94_1, List.forall_mem_cons.mpr ⟨vR_94_2, List.forall_mem_cons.mpr ⟨vR_94_3, List.forall_mem_cons.mpr ⟨vR_94_4, List.forall_mem_cons.mpr ⟨vR_94_5, fun _ w => (by cases w)⟩⟩⟩⟩⟩⟩)
set_option maxRecDepth 100000 in
theorem vK_94 : cz_chkK cm_94 [[1075, 1041, 1042], [1076], [1199], [1204], [1206], [1080], [1082, 1083, 1084], [1214], [1144, 1145, 1146], [0, 1195, 1196, 1197], [1202], [1076, 1077], [1078, 1079]] = true := by decide +kernel
theorem vO_94 : cz_okM cm_94 := cz_chkM_ok cz_allY_ok cz_allC2_ok cz_asl_ok cz_okI0_ok vD_94 vK_94
set_option maxRecDepth 100000 in
theorem vR_95_0 : cz_chkR prog_5_method_4_code cr_95_0 = true := rws_ok (p := 0) (by decide +kernel)
set_option maxRecDepth 100000 in
theorem vR_95_1 : cz_chkR prog_5_method_4_code cr_95_1 = true := rws_ok (p := 16) (by decide +kernel)
theorem vD_95 : cz_chkD cm_95 = true := cz_chkD_of (show ∀ row ∈ [cr_95_0, cr_95_1], cz_chkR prog_5_method_4_code row = true from List.forall_mem_cons.mpr ⟨vR_95_0, List.forall_mem_cons.mpr ⟨vR_95_1, fun _ w => (by cases w)⟩⟩)
set_option maxRecDepth 100000 in
theorem vK_95 : cz_chkK cm_95 [[1199], [0, 3223, 3224, 3225], [1152], [1092]] = true := by decide +kernel
theorem vO_95 : cz_okM cm_95 := cz_chkM_ok cz_allY_ok cz_allC2_ok cz_asl_ok cz_okI0_ok vD_95 vK_95
set_option maxRecDepth 100000 in
theorem vR_96_0 : cz_chkR prog_5_method_2_code cr_96_0 = true := rws_ok (p := 0) (by decide +kernel)
set_option maxRecDepth 100000 in
theorem vR_96_1 : cz_chkR prog_5_method_2_code cr_96_1 = true := rws_ok (p := 18) (by decide +kernel)
set_option maxRecDepth 100000 in
theorem vR_96_2 : cz_chkR prog_5_method_2_code cr_96_2 = true := rws_ok (p := 33) (by decide +kernel)
theorem vD_96 : cz_chkD cm_96 = true := cz_chkD_of (show ∀ row ∈ [cr_96_0, cr_96_1, cr_96_2], cz_chkR prog_5_method_2_code row = true from List.forall_mem_cons.mpr ⟨vR_96_0, List.forall_mem_cons.mpr ⟨vR_96_1, List.forall_mem_cons.mpr ⟨vR_96_2, fun _ w => (by cases w)⟩⟩⟩)
set_option maxRecDepth 100000 in
theorem vK_96 : cz_chkK cm_96 [[1199], [1214], [0, 1195, 1196, 1197], [1202], [1208], [1210], [1212]] = true := by decide +kernel
theorem vO_96 : cz_okM cm_96 := cz_chkM_ok cz_allY_ok cz_allC2_ok cz_asl_ok cz_okI0_ok vD_96 vK_96
set_option maxRecDepth 100000 in
theorem vR_97_0 : cz_chkR prog_5_method_6_code cr_97_0 = true := rws_ok (p := 0) (by decide +kernel)
set_option maxRecDepth 100000 in
theorem vR_97_1 : cz_chkR prog_5_method_6_code cr_97_1 = true := rws_ok (p := 16) (by decide +kernel)
set_option maxRecDepth 100000 in
theorem vR_97_2 : cz_chkR prog_5_method_6_code cr_97_2 = true := rws_ok (p := 34) (by decide +kernel)
set_option maxRecDepth 100000 in
theorem vR_97_3 : cz_chkR prog_5_method_6_code cr_97_3 = true := rws_ok (p := 50) (by decide +kernel)
set_option maxRecDepth 100000 in
theorem vR_97_4 : cz_chkR prog_5_method_6_code cr_97_4 = true := rws_ok (p := 66) (by decide +kernel)
set_option maxRecDepth 100000 in
theorem vR_97_5 : cz_chkR prog_5_method_6_code cr_97_5 = true := rws_ok (p := 80) (by decide +kernel)
set_option maxRecDepth 100000 in
theorem vR_97_6 : cz_chkR prog_5_method_6_code cr_97_6 = true := rws_ok (p := 98) (by decide +kernel)
set_option maxRecDepth 100000 in
theorem vR_97_7 : cz_chkR prog_5_method_6_code cr_97_7 = true := rws_ok (p := 112) (by decide +kernel)
theorem vD_97 : cz_chkD cm_97 = true := cz_chkD_of (show ∀ row ∈ [cr_97_0, cr_97_1, cr_97_2, cr_97_3, cr_97_4, cr_97_5, cr_97_6, cr_97_7], cz_chkR prog_5_method_6_code row = true from List.forall_mem_cons.mpr ⟨vR_97_0, List.forall_mem_cons.mpr ⟨vR_97_1, List.forall_mem_cons.mpr ⟨vR_97_2, List.forall_mem_cons.mpr ⟨vR_97_3, List.forall_mem_cons.mpr ⟨vR_97_4, List.forall_mem_cons.mpr ⟨vR_97_5, List.forall_mem_cons.mpr ⟨vR_97_6, List.forall_mem_cons.mpr ⟨vR_97_7, fun _ w => (by cases w)⟩⟩⟩⟩⟩⟩⟩⟩)
set_option maxRecDepth 100000 in
theorem vK_97 : cz_chkK cm_97 [[1199], [1202], [0, 3223, 3224, 3225], [1149], [3222], [0, 3227, 3228, 3229]] = true := by decide +kernel
theorem vO_97 : cz_okM cm_97 := cz_chkM_ok cz_allY_ok cz_allC2_ok cz_asl_ok cz_okI0_ok vD_97 vK_97
set_option maxRecDepth 100000 in
theorem vR_98_0 : cz_chkR prog_5_method_13_code cr_98_0 = true := rws_ok (p := 0) (by decide +kernel)
set_option maxRecDepth 100000 in
theorem vR_98_1 : cz_chkR prog_5_method_13_code cr_98_1 = true := rws_ok (p := 18) (by decide +kernel)
set_option maxRecDepth 100000 in
theorem vR_98_2 : cz_chkR prog_5_method_13_code cr_98_2 = true := rws_ok (p := 32) (by decide +kernel)
theorem vD_98 : cz_chkD cm_98 = true := cz_chkD_of (show ∀ row ∈ [cr_98_0, cr_98_1, cr_98_2], cz_chkR prog_5_method_13_code row = true from List.forall_mem_cons.mpr ⟨vR_98_0, List.forall_mem_cons.mpr ⟨vR_98_1, List.forall_mem_cons.mpr ⟨vR_98_2, fun _ w => (by cases w)⟩⟩⟩)
set_option maxRecDepth 100000 in
theorem vK_98 : cz_chkK cm_98 [[1204], [1208], [4164, 4165]] = true := by decide +kernel
theorem vO_98 : cz_okM cm_98 := cz_chkM_ok cz_allY_ok cz_allC2_ok cz_asl_ok cz_okI0_ok vD_98 vK_98
set_option maxRecDepth 100000 in
theorem vR_99_0 : cz_chkR prog_5_method_14_code cr_99_0 = true := rws_ok (p := 0) (by decide +kernel)
set_option maxRecDepth 100000 in
theorem vR_99_1 : cz_chkR prog_5_method_14_code cr_99_1 = true := rws_ok (p := 16) (by decide +kernel)
set_option maxRecDepth 100000 in
theorem vR_99_2 : cz_chkR prog_5_method_14_code cr_99_2 = true := rws_ok (p := 32) (by decide +kernel)
set_option maxRecDepth 100000 in
theorem vR_99_3 : cz_chkR prog_5_method_14_code cr_99_3 = true := rws_ok (p := 48) (by decide +kernel)
theorem vD_99 : cz_chkD cm_99 = true := cz_chkD_of (show ∀ row ∈ [cr_99_0, cr_99_1, cr_99_2, cr_99_3], cz_chkR prog_5_method_14_code row = true from List.forall_mem_cons.mpr ⟨vR_99_0, List.forall_mem_cons.mpr ⟨vR_99_1, List.forall_mem_cons.mpr ⟨vR_99_2, List.forall_mem_cons.mpr ⟨vR_99_3, fun _ w => (by cases w)⟩⟩⟩⟩)
set_option maxRecDepth 100000 in
theorem vK_99 : cz_chkK cm_99 [[1204], [1206], [1208], [4151]] = true := by decide +kernel
theorem vO_99 : cz_okM cm_99 := cz_chkM_ok cz_allY_ok cz_allC2_ok cz_asl_ok cz_okI0_ok vD_99 vK_99
set_option maxRecDepth 100000 in
theorem vR_100_0 : cz_chkR prog_5_method_7_code cr_100_0 = true := rws_ok (p := 0) (by decide +kernel)
set_option maxRecDepth 100000 in
theorem vR_100_1 : cz_chkR prog_5_method_7_code cr_100_1 = true := rws_ok (p := 18) (by decide +kernel)
theorem vD_100 : cz_chkD cm_100 = true := cz_chkD_of (show ∀ row ∈ [cr_100_0, cr_100_1], cz_chkR prog_5_method_7_code row = true from List.forall_mem_cons.mpr ⟨vR_100_0, List.forall_mem_cons.mpr ⟨vR_100_1, fun _ w => (by cases w)⟩⟩)
set_option maxRecDepth 100000 in
theorem vK_100 : cz_chkK cm_100 [[1199], [0, 3218, 3220, 22]] = true := by decide +kernel
theorem vO_100 : cz_okM cm_100 := cz_chkM_ok cz_allY_ok cz_allC2_ok cz_asl_ok cz_okI0_ok vD_100 vK_100
set_option maxRecDepth 100000 in
theorem vR_101_0 : cz_chkR prog_5_method_15_code cr_101_0 = true := rws_ok (p := 0) (by decide +kernel)
theorem vD_101 : cz_chkD cm_101 = true := cz_chkD_of (show ∀ row ∈ [cr_101_0], cz_chkR prog_5_method_15_code row = true from List.forall_mem_cons.mpr ⟨vR_101_0, fun _ w => (by cases w)⟩)
set_option maxRecDepth 100000 in
theorem vK_101 : cz_chkK cm_101 [] = true := by decide +kernel
theorem vO_101 : cz_okM cm_101 := cz_chkM_ok cz_allY_ok cz_allC2_ok cz_asl_ok cz_okI0_ok vD_101 vK_101
set_option maxRecDepth 100000 in
theorem vR_102_0 : cz_chkR prog_5_method_5_code cr_102_0 = true := rws_ok (p := 0) (by decide +kernel)
set_option maxRecDepth 100000 in
theorem vR_102_1 : cz_chkR prog_5_method_5_code cr_102_1 = true := rws_ok (p := 16) (by decide +kernel)
set_option maxRecDepth 100000 in
theorem vR_102_2 : cz_chkR prog_5_method_5_code cr_102_2 = true := rws_ok (p := 33) (by decide +kernel)
set_option maxRecDepth 100000 in
theorem vR_102_3 : cz_chkR prog_5_method_5_code cr_102_3 = true := rws_ok (p := 48) (by decide +kernel)
theorem vD_102 : cz_chkD cm_102 = true := cz_chkD_of (show ∀ row ∈ [cr_102_0, cr_102_1, cr_102_2, cr_102_3], cz_chkR prog_5_method_5_code row = true from List.forall_mem_cons.mpr ⟨vR_102_0, List.forall_mem_cons.mpr ⟨vR_102_1, List.forall_mem_cons.mpr ⟨vR_102_2, List.forall_mem_cons.mpr ⟨vR_102_3, fun _ w => (by cases w)⟩⟩⟩⟩)
set_option maxRecDepth 100000 in
theorem vK_102 : cz_chkK cm_102 [[1199], [1202], [1149]] = true := by decide +kernel
theorem vO_102 : cz_okM cm_102 := cz_chkM_ok cz_allY_ok cz_allC2_ok cz_asl_ok cz_okI0_ok vD_102 vK_102
set_option maxRecDepth 100000 in
theorem vR_103_0 : cz_chkR prog_5_method_3_code cr_103_0 = true := rws_ok (p := 0) (by decide +kernel)
theorem vD_103 : cz_chkD cm_103 = true := cz_chkD_of (show ∀ row ∈ [cr_103_0], cz_chkR prog_5_method_3_code row = true from List.forall_mem_cons.mpr ⟨vR_103_0, fun _ w => (by cases w)⟩)
set_option maxRecDepth 100000 in
theorem vK_103 : cz_chkK cm_103 [[1199], [0, 3223, 3224, 3225]] = true := by decide +kernel
theorem vO_103 : cz_okM cm_103 := cz_chkM_ok cz_allY_ok cz_allC2_ok cz_asl_ok cz_okI0_ok vD_103 vK_103
set_option maxRecDepth 100000 in
theorem vR_104_0 : cz_chkR prog_5_method_12_code cr_104_0 = true := rws_ok (p := 0) (by decide +kernel)
set_option maxRecDepth 100000 in
theorem vR_104_1 : cz_chkR prog_5_method_12_code cr_104_1 = true := rws_ok (p := 16) (by decide +kernel)
set_option maxRecDepth 100000 in
theorem vR_104_2 : cz_chkR prog_5_method_12_code cr_104_2 = true := rws_ok (p := 32) (by decide +kernel)
set_option maxRecDepth 100000 in
theorem vR_104_3 : cz_chkR prog_5_method_12_code cr_104_3 = true := rws_ok (p := 48) (by decide +kernel)
set_option maxRecDepth 100000 in
theorem vR_104_4 : cz_chkR prog_5_method_12_code cr_104_4 = true := rws_ok (p := 65) (by decide +kernel)
set_option maxRecDepth 100000 in
theorem vR_104_5 : cz_chkR prog_5_method_12_code cr_104_5 = true := rws_ok (p := 80) (by decide +kernel)
set_option maxRecDepth 100000 in
theorem vR_104_6 : cz_chkR prog_5_method_12_code cr_104_6 = true := rws_ok (p := 96) (by decide +kernel)
set_option maxRecDepth 100000 in
theorem vR_104_7 : cz_chkR prog_5_method_12_code cr_104_7 = true := rws_ok (p := 112) (by decide +kernel)
set_option maxRecDepth 100000 in
theorem vR_104_8 : cz_chkR prog_5_method_12_code cr_104_8 = true := rws_ok (p := 128) (by decide +kernel)
theorem vD_104 : cz_chkD cm_104 = true := cz_chkD_of (show ∀ row ∈ [cr_104_0, cr_104_1, cr_104_2, cr_104_3, cr_104_4, cr_104_5, cr_104_6, cr_104_7, cr_104_8], cz_chkR prog_5_method_12_code row = true from List.forall_mem_cons.mpr ⟨vR_104_0, List.forall_mem_cons.mpr ⟨vR_104_1, List.forall_mem_cons.mpr ⟨vR_104_2, List.forall_mem_cons.mpr ⟨vR_104_3, List.forall_mem_cons.mpr ⟨vR_104_4, List.forall_mem_cons.mpr ⟨vR_104_5, List.forall_mem_cons.mpr ⟨vR_104_6, List.forall_mem_cons.mpr ⟨vR_104_7, List.forall_mem_cons.mpr ⟨vR_104_8, fun _ w => (by cases w)⟩⟩⟩⟩⟩⟩⟩⟩⟩)
set_option maxRecDepth 100000 in
theorem vK_104 : cz_chkK cm_104 [[1204], [1206], [1208], [4164, 4165]] = true := by decide +kernel
theorem vO_104 : cz_okM cm_104 := cz_chkM_ok cz_allY_ok cz_allC2_ok cz_asl_ok cz_okI0_ok vD_104 vK_104
set_option maxRecDepth 100000 in
theorem vR_105_0 : cz_chkR prog_5_method_8_code cr_105_0 = true := rws_ok (p := 0) (by decide +kernel)
set_option maxRecDepth 100000 in
theorem vR_105_1 : cz_chkR prog_5_method_8_code cr_105_1 = true := rws_ok (p := 16) (by decide +kernel)
set_option maxRecDepth 100000 in
theorem vR_105_2 : cz_chkR prog_5_method_8_code cr_105_2 = true := rws_ok (p := 33) (by decide +kernel)
theorem vD_105 : cz_chkD cm_105 = true := cz_chkD_of (show ∀ row ∈ [cr_105_0, cr_105_1, cr_105_2], cz_chkR prog_5_method_8_code row = true from List.forall_mem_cons.mpr ⟨vR_105_0, List.forall_mem_cons.mpr ⟨vR_105_1, List.forall_mem_cons.mpr ⟨vR_105_2, fun _ w => (by cases w)⟩⟩⟩)
set_option maxRecDepth 100000 in
theorem vK_105 : cz_chkK cm_105 [[1199], [1152], [0, 3218, 3220, 22]] = true := by decide +kernel
theorem vO_105 : cz_okM cm_105 := cz_chkM_ok cz_allY_ok cz_allC2_ok cz_asl_ok cz_okI0_ok vD_105 vK_105
set_option maxRecDepth 100000 in
theorem vR_106_0 : cz_chkR prog_5_method_11_code cr_106_0 = true := rws_ok (p := 0) (by decide +kernel)
set_option maxRecDepth 100000 in
theorem vR_106_1 : cz_chkR prog_5_method_11_code cr_106_1 = true := rws_ok (p := 16) (by decide +kernel)
set_option maxRecDepth 100000 in
theorem vR_106_2 : cz_chkR prog_5_method_11_code cr_106_2 = true := rws_ok (p := 34) (by decide +kernel)
set_option maxRecDepth 100000 in
theorem vR_106_3 : cz_chkR prog_5_method_11_code cr_106_3 = true := rws_ok (p := 49) (by decide +kernel)
theorem vD_106 : cz_chkD cm_106 = true := cz_chkD_of (show ∀ row ∈ [cr_106_0, cr_106_1, cr_106_2, cr_106_3], cz_chkR prog_5_method_11_code row = true from List.forall_mem_cons.mpr ⟨vR_106_0, List.forall_mem_cons.mpr ⟨vR_106_1, List.forall_mem_cons.mpr ⟨vR_106_2, List.forall_mem_cons.mpr ⟨vR_106_3, fun _ w => (by cases w)⟩⟩⟩⟩)
set_option maxRecDepth 100000 in
theorem vK_106 : cz_chkK cm_106 [[0, 4091, 4093, 28], [1166], [1169], [1172]] = true := by decide +kernel
theorem vO_106 : cz_okM cm_106 := cz_chkM_ok cz_allY_ok cz_allC2_ok cz_asl_ok cz_okI0_ok vD_106 vK_106
set_option maxRecDepth 100000 in
theorem vR_107_0 : cz_chkR prog_5_method_9_code cr_107_0 = true := rws_ok (p := 0) (by decide +kernel)
set_option maxRecDepth 100000 in
theorem vR_107_1 : cz_chkR prog_5_method_9_code cr_107_1 = true := rws_ok (p := 16) (by decide +kernel)
set_option maxRecDepth 100000 in
theorem vR_107_2 : cz_chkR prog_5_method_9_code cr_107_2 = true := rws_ok (p := 33) (by decide +kernel)
theorem vD_107 : cz_chkD cm_107 = true := cz_chkD_of (show ∀ row ∈ [cr_107_0, cr_107_1, cr_107_2], cz_chkR prog_5_method_9_code row = true from List.forall_mem_cons.mpr ⟨vR_107_0, List.forall_mem_cons.mpr ⟨vR_107_1, List.forall_mem_cons.mpr ⟨vR_107_2, fun _ w => (by cases w)⟩⟩⟩)
set_option maxRecDepth 100000 in
theorem vK_107 : cz_chkK cm_107 [[1199], [0, 3218, 3220, 22], [0, 4120, 4121, 4122]] = true := by decide +kernel
theorem vO_107 : cz_okM cm_107 := cz_chkM_ok cz_allY_ok cz_allC2_ok cz_asl_ok cz_okI0_ok vD_107 vK_107
set_option maxRecDepth 100000 in
theorem vR_108_0 : cz_chkR prog_5_method_10_code cr_108_0 = true := rws_ok (p := 0) (by decide +kernel)
set_option maxRecDepth 100000 in
theorem vR_108_1 : cz_chkR prog_5_method_10_code cr_108_1 = true := rws_ok (p := 18) (by decide +kernel)
set_option maxRecDepth 100000 in
theorem vR_108_2 : cz_chkR prog_5_method_10_code cr_108_2 = true := rws_ok (p := 33) (by decide +kernel)
set_option maxRecDepth 100000 in
theorem vR_108_3 : cz_chkR prog_5_method_10_code cr_108_3 = true := rws_ok (p := 49) (by decide +kernel)
theorem vD_108 : cz_chkD cm_108 = true := cz_chkD_of (show ∀ row ∈ [cr_108_0, cr_108_1, cr_108_2, cr_108_3], cz_chkR prog_5_method_10_code row = true from List.forall_mem_cons.mpr ⟨vR_108_0, List.forall_mem_cons.mpr ⟨vR_108_1, List.forall_mem_cons.mpr ⟨vR_108_2, List.forall_mem_cons.mpr ⟨vR_108_3, fun _ w => (by cases w)⟩⟩⟩⟩)
set_option maxRecDepth 100000 in
theorem vK_108 : cz_chkK cm_108 [[0, 4091, 4093, 28], [1175], [4010]] = true := by decide +kernel
theorem vO_108 : cz_okM cm_108 := cz_chkM_ok cz_allY_ok cz_allC2_ok cz_asl_ok cz_okI0_ok vD_108 vK_108
set_option maxRecDepth 100000 in
theorem vR_109_0 : cz_chkR prog_6_method_1_code cr_109_0 = true := rws_ok (p := 0) (by decide +kernel)
set_option maxRecDepth 100000 in
theorem vR_109_1 : cz_chkR prog_6_method_1_code cr_109_1 = true := rws_ok (p := 17) (by decide +kernel)
set_option maxRecDepth 100000 in
theorem vR_109_2 : cz_chkR prog_6_method_1_code cr_109_2 = true := rws_ok (p := 32) (by decide +kernel)
set_option maxRecDepth 100000 in
theorem vR_109_3 : cz_chkR prog_6_method_1_code cr_109_3 = true := rws_ok (p := 50) (by decide +kernel)
theorem vD_109 : cz_chkD cm_109 = true := cz_chkD_of (show ∀ row ∈ [cr_109_0, cr_109_1, cr_109_2, cr_109_3], cz_chkR prog_6_method_1_code row = true from List.forall_mem_cons.mpr ⟨vR_109_0, List.forall_mem_cons.mpr ⟨vR_109_1, List.forall_mem_cons.mpr ⟨vR_109_2, List.forall_mem_cons.mpr ⟨vR_109_3, fun _ w => (by cases w)⟩⟩⟩⟩)
set_option maxRecDepth 100000 in
theorem vK_109 : cz_chkK cm_109 [[2022, 1041, 1042], [2026], [2028], [2029], [2031], [2032], [2025], [2023, 2024]] = true := by decide +kernel
theorem vO_109 : cz_okM cm_109 := cz_chkM_ok cz_allY_ok cz_allC2_ok cz_asl_ok cz_okI0_ok vD_109 vK_109
set_option maxRecDepth 100000 in
theorem vR_110_0 : cz_chkR prog_6_method_12_code cr_110_0 = true := rws_ok (p := 0) (by decide +kernel)
set_option maxRecDepth 100000 in
theorem vR_110_1 : cz_chkR prog_6_method_12_code cr_110_1 = true := rws_ok (p := 17) (by decide +kernel)
set_option maxRecDepth 100000 in
theorem vR_110_2 : cz_chkR prog_6_method_12_code cr_110_2 = true := rws_ok (p := 34) (by decide +kernel)
set_option maxRecDepth 100000 in
theorem vR_110_3 : cz_chkR prog_6_method_12_code cr_110_3 = true := rws_ok (p := 49) (by decide +kernel)
set_option maxRecDepth 100000 in
theorem vR_110_4 : cz_chkR prog_6_method_12_code cr_110_4 = true := rws_ok (p := 64) (by decide +kernel)
set_option maxRecDepth 100000 in
theorem vR_110_5 : cz_chkR prog_6_method_12_code cr_110_5 = true := rws_ok (p := 80) (by decide +kernel)
theorem vD_110 : cz_chkD cm_110 = true := cz_chkD_of (show ∀ row ∈ [cr_110_0, cr_110_1, cr_110_2, cr_110_3, cr_110_4, cr_110_5], cz_chkR prog_6_method_12_code row = true from List.forall_mem_cons.mpr ⟨vR_110_0, List.forall_mem_cons.mpr ⟨vR_110_1, List.forall_mem_cons.mpr ⟨vR_110_2, List.forall_mem_cons.mpr ⟨vR_110_3, List.forall_mem_cons.mpr ⟨vR_110_4, List.forall_mem_cons.mpr ⟨vR_110_5, fun _ w => (by cases w)⟩⟩⟩⟩⟩⟩)
set_option maxRecDepth 100000 in
theorem vK_110 : cz_chkK cm_110 [[2026], [2025], [1151], [1097], [4198, 4199], [0, 4234, 4235, 4236], [1113], [1114], [1111], [1112], [5143, 5144], [0, 5146, 5079, 5080], [0, 5147, 5148, 5149]] = true := by decide +kernel
theorem vO_110 : cz_okM cm_110 := cz_chkM_ok cz_allY_ok cz_allC2_ok cz_asl_ok cz_okI0_ok vD_110 vK_110
set_option maxRecDepth 100000 in
theorem vR_111_0 : cz_chkR prog_6_method_13_code cr_111_0 = true := rws_ok (p := 0) (by decide +kernel)
set_option maxRecDepth 100000 in
theorem vR_111_1 : cz_chkR prog_6_method_13_code cr_111_1 = true := rws_ok (p := 16) (by decide +kernel)
theorem vD_111 : cz_chkD cm_111 = true := cz_chkD_of (show ∀ row ∈ [cr_111_0, cr_111_1], cz_chkR prog_6_method_13_code row = true from List.forall_mem_cons.mpr ⟨vR_111_0, List.forall_mem_cons.mpr ⟨vR_111_1, fun _ w => (by cases w)⟩⟩)
set_option maxRecDepth 100000 in
theorem vK_111 : cz_chkK cm_111 [[4224, 4225], [4227, 4228], [0, 5146, 5079, 5080]] = true := by decide +kernel
theorem vO_111 : cz_okM cm_111 := cz_chkM_ok cz_allY_ok cz_allC2_ok cz_asl_ok cz_okI0_ok vD_111 vK_111
set_option maxRecDepth 100000 in
theorem vR_112_0 : cz_chkR prog_6_method_3_code cr_112_0 = true := rws_ok (p := 0) (by decide +kernel)
set_option maxRecDepth 100000 in
theorem vR_112_1 : cz_chkR prog_6_method_3_code cr_112_1 = true := rws_ok (p := 17) (by decide +kernel)
set_option maxRecDepth 100000 in
theorem vR_112_2 : cz_chkR prog_6_method_3_code cr_112_2 = true := rws_ok (p := 32) (by decide +kernel)
set_option maxRecDepth 100000 in
theorem vR_112_3 : cz_chkR prog_6_method_3_code cr_112_3 = true := rws_ok (p := 49) (by decide +kernel)
set_option maxRecDepth 100000 in
theorem vR_112_4 : cz_chkR prog_6_method_3_code cr_112_4 = true := rws_ok (p := 64) (by decide +kernel)
set_option maxRecDepth 100000 in
theorem vR_112_5 : cz_chkR prog_6_method_3_code cr_112_5 = true := rws_ok (p := 81) (by decide +kernel)
theorem vD_112 : cz_chkD cm_112 = true := cz_chkD_of (show ∀ row ∈ [cr_112_0, cr_112_1, cr_112_2, cr_112_3, cr_112_4, cr_112_5], cz_chkR prog_6_method_3_code row = true from List.forall_mem_cons.mpr ⟨vR_112_0, List.forall_mem_cons.mpr ⟨vR_112_1, List.forall_mem_cons.mpr ⟨vR_112_2, List.forall_mem_cons.mpr ⟨vR_112_3, List.forall_mem_cons.mpr ⟨vR_112_4, List.forall_mem_cons.mpr ⟨vR_112_5, fun _ w => (by cases w)⟩⟩⟩⟩⟩⟩)
set_option maxRecDepth 100000 in
theorem vK_112 : cz_chkK cm_112 [[2025], [1203], [1200], [1151], [1097], [1110], [1099], [1086], [4198, 4199]] = true := by decide +kernel
theorem vO_112 : cz_okM cm_112 := cz_chkM_ok cz_allY_ok cz_allC2_ok cz_asl_ok cz_okI0_ok vD_112 vK_112
set_option maxRecDepth 100000 in
theorem vR_113_0 : cz_chkR prog_6_method_7_code cr_113_0 = true := rws_ok (p := 0) (by decide +kernel)
set_option maxRecDepth 100000 in
theorem vR_113_1 : cz_chkR prog_6_method_7_code cr_113_1 = true := rws_ok (p := 16) (by decide +kernel)
set_option maxRecDepth 100000 in
theorem vR_113_2 : cz_chkR prog_6_method_7_code cr_113_2 = true := rws_ok (p := 34) (by decide +kernel)
set_option maxRecDepth 100000 in
theorem vR_113_3 : cz_chkR prog_6_method_7_code cr_113_3 = true := rws_ok (p := 50) (by decide +kernel)
set_option maxRecDepth 100000 in
theorem vR_113_4 : cz_chkR prog_6_method_7_code cr_113_4 = true := rws_ok (p := 66) (by decide +kernel)
set_option maxRecDepth 100000 in
theorem vR_113_5 : cz_chkR prog_6_method_7_code cr_113_5 = true := rws_ok (p := 82) (by decide +kernel)
set_option maxRecDepth 100000 in
theorem vR_113_6 : cz_chkR prog_6_method_7_code cr_113_6 = true := rws_ok (p := 96) (by decide +kernel)
set_option maxRecDepth 100000 in
theorem vR_113_7 : cz_chkR prog_6_method_7_code cr_113_7 = true := rws_ok (p := 112) (by decide +kernel)
set_option maxRecDepth 100000 in
theorem vR_113_8 : cz_chkR prog_6_method_7_code cr_113_8 = true := rws_ok (p := 128) (by decide +kernel)
set_option maxRecDepth 100000 in
theorem vR_113_9 : cz_chkR prog_6_method_7_code cr_113_9 = true := rws_ok (p := 144) (by decide +kernel)
theorem vD_113 : cz_chkD cm_113 = true := cz_chkD_of (show ∀ row ∈ [cr_113_0, cr_113_1, cr_113_2, cr_113_3, cr_113_4, cr_113_5, cr_113_6, cr_113_7, cr_113_8, cr_113_9], cz_chkR prog_6_method_7_code row = true from List.forall_mem_cons.mpr ⟨vR_113_0, List.forall_mem_cons.mpr ⟨vR_113_1, List.forall_mem_cons.mpr ⟨vR_113_2, List.forall_mem_cons.mpr ⟨vR_113_3, List.forall_mem_cons.mpr ⟨vR_113_4, List.forall_mem_cons.mpr ⟨vR_113_5, List.forall_mem_cons.mpr ⟨vR_113_6, List.forall_mem_cons.mpr ⟨vR_113_7, List.forall_mem_cons.mpr ⟨vR_113_8, List.forall_mem_cons.mpr ⟨vR_113_9, fun _ w => (by cases w)⟩⟩⟩⟩⟩⟩⟩⟩⟩⟩)
set_option maxRecDepth 100000 in
theorem vK_113 : cz_chkK cm_113 [[2027], [1097], [1110], [1099], [1086], [1113], [0, 4216, 4218, 40], [1114], [1111], [0, 4230, 4232, 42], [1112]] = true := by decide +kernel
theorem vO_113 : cz_okM cm_113 := cz_chkM_ok cz_allY_ok cz_allC2_ok cz_asl_ok cz_okI0_ok vD_113 vK_113
set_option maxRecDepth 100000 in
theorem vR_114_0 : cz_chkR prog_6_method_23_code cr_114_0 = true := rws_ok (p := 0) (by decide +kernel)
set_option maxRecDepth 100000 in
theorem vR_114_1 : cz_chkR prog_6_method_23_code cr_114_1 = true := rws_ok (p := 18) (by decide +kernel)
set_option maxRecDepth 100000 in
theorem vR_114_2 : cz_chkR prog_6_method_23_code cr_114_2 = true := rws_ok (p := 33) (by decide +kernel)
set_option maxRecDepth 100000 in
theorem vR_114_3 : cz_chkR prog_6_method_23_code cr_114_3 = true := rws_ok (p := 48) (by decide +kernel)
set_option maxRecDepth 100000 in
theorem vR_114_4 : cz_chkR prog_6_method_23_code cr_114_4 = true := rws_ok (p := 64) (by decide +kernel)
theorem vD_114 : cz_chkD cm_114 = true := cz_chkD_of (show ∀ row ∈ [cr_114_0, cr_114_1, cr_114_2, cr_114_3, cr_114_4], cz_chkR prog_6_method_23_code row = true from List.forall_mem_cons.mpr ⟨vR_114_0, List.forall_mem_cons.mpr ⟨vR_114_1, List.forall_mem_cons.mpr ⟨vR_114_2, List.forall_mem_cons.mpr ⟨vR_114_3, List.forall_mem_cons.mpr ⟨vR_114_4, fun _ w => (by cases w)⟩⟩⟩⟩⟩)
set_option maxRecDepth 100000 in
theorem vK_114 : cz_chkK cm_114 [[2031], [2032], [2033], [5025, 5026], [5028, 4165], [5029, 5030]] = true := by decide +kernel
theorem vO_114 : cz_okM cm_114 := cz_chkM_ok cz_allY_ok cz_allC2_ok cz_asl_ok cz_okI0_ok vD_114 vK_114
set_option maxRecDepth 100000 in
theorem vR_115_0 : cz_chkR prog_6_method_6_code cr_115_0 = true := rws_ok (p := 0) (by decide +kernel)
set_option maxRecDepth 100000 in
theorem vR_115_1 : cz_chkR prog_6_method_6_code cr_115_1 = true := rws_ok (p := 16) (by decide +kernel)
set_option maxRecDepth 100000 in
theorem vR_115_2 : cz_chkR prog_6_method_6_code cr_115_2 = true := rws_ok (p := 34) (by decide +kernel)
set_option maxRecDepth 100000 in
theorem vR_115_3 : cz_chkR prog_6_method_6_code cr_115_3 = true := rws_ok (p := 48) (by decide +kernel)
theorem vD_115 : cz_chkD cm_115 = true := cz_chkD_of (show ∀ row ∈ [cr_115_0, cr_115_1, cr_115_2, cr_115_3], cz_chkR prog_6_method_6_code row = true from List.forall_mem_cons.mpr ⟨vR_115_0, List.forall_mem_cons.mpr ⟨vR_115_1, List.forall_mem_cons.mpr ⟨vR_115_2, List.forall_mem_cons.mpr ⟨vR_115_3, fun _ w => (by cases w)⟩⟩⟩⟩)
set_option maxRecDepth 100000 in
theorem vK_115 : cz_chkK cm_115 [[2025], [1151], [1097], [1110], [4198, 4199], [0, 4207, 4209, 38], [0, 4234, 4235, 4236]] = true := by decide +kernel
theorem vO_115 : cz_okM cm_115 := cz_chkM_ok cz_allY_ok cz_allC2_ok cz_asl_ok cz_okI0_ok vD_115 vK_115
set_option maxRecDepth 100000 in
theorem vR_116_0 : cz_chkR prog_6_method_5_code cr_116_0 = true := rws_ok (p := 0) (by decide +kernel)
set_option maxRecDepth 100000 in
theorem vR_116_1 : cz_chkR prog_6_method_5_code cr_116_1 = true := rws_ok (p := 17) (by decide +kernel)
set_option maxRecDepth 100000 in
theorem vR_116_2 : cz_chkR prog_6_method_5_code cr_116_2 = true := rws_ok (p := 32) (by decide +kernel)
set_option maxRecDepth 100000 in
theorem vR_116_3 : cz_chkR prog_6_method_5_code cr_116_3 = true := rws_ok (p := 48) (by decide +kernel)
theorem vD_116 : cz_chkD cm_116 = true := cz_chkD_of (show ∀ row ∈ [cr_116_0, cr_116_1, cr_116_2, cr_116_3], cz_chkR prog_6_method_5_code row = true from List.forall_mem_cons.mpr ⟨vR_116_0, List.forall_mem_cons.mpr ⟨vR_116_1, List.forall_mem_cons.mpr ⟨vR_116_2, List.forall_mem_cons.mpr ⟨vR_116_3, fun _ w => (by cases w)⟩⟩⟩⟩)
set_option maxRecDepth 100000 in
theorem vK_116 : cz_chkK cm_116 [[2028], [2029], [1110], [2030]] = true := by decide +kernel
theorem vO_116 : cz_okM cm_116 := cz_chkM_ok cz_allY_ok cz_allC2_ok cz_asl_ok cz_okI0_ok vD_116 vK_116
set_option maxRecDepth 100000 in
theorem vR_117_0 : cz_chkR prog_6_method_4_code cr_117_0 = true := rws_ok (p := 0) (by decide +kernel)
set_option maxRecDepth 100000 in
theorem vR_117_1 : cz_chkR prog_6_method_4_code cr_117_1 = true := rws_ok (p := 16) (by decide +kernel)
set_option maxRecDepth 100000 in
theorem vR_117_2 : cz_chkR prog_6_method_4_code cr_117_2 = true := rws_ok (p := 34) (by decide +kernel)
set_option maxRecDepth 100000 in
theorem vR_117_3 : cz_chkR prog_6_method_4_code cr_117_3 = true := rws_ok (p := 48) (by decide +kernel)
set_option maxRecDepth 100000 in
theorem vR_117_4 : cz_chkR prog_6_method_4_code cr_117_4 = true := rws_ok (p := 66) (by decide +kernel)
set_option maxRecDepth 100000 in
theorem vR_117_5 : cz_chkR prog_6_method_4_code cr_117_5 = true := rws_ok (p := 81) (by decide +kernel)
set_option maxRecDepth 100000 in
theorem vR_117_6 : cz_chkR prog_6_method_4_code cr_117_6 = true := rws_ok (p := 96) (by decide +kernel)
set_option maxRecDepth 100000 in
theorem vR_117_7 : cz_chkR prog_6_method_4_code cr_117_7 = true := rws_ok (p := 113) (by decide +kernel)
set_option maxRecDepth 100000 in
theorem vR_117_8 : cz_chkR prog_6_method_4_code cr_117_8 = true := rws_ok (p := 128) (by decide +kernel)
theorem vD_117 : cz_chkD cm_117 = true := cz_chkD_of (show ∀ row ∈ [cr_117_0, cr_117_1, cr_117_2, cr_117_3, cr_117_4, cr_117_5, cr_117_6, cr_117_7, cr_117_8], cz_chkR prog_6_method_4_code row = true from List.forall_mem_cons.mpr ⟨vR_117_0, List.forall_mem_cons.mpr ⟨vR_117_1, List.forall_mem_cons.mpr ⟨vR_117_2, List.forall_mem_cons.mpr ⟨vR_117_3, List.forall_mem_cons.mpr ⟨vR_117_4, List.forall_mem_cons.mpr ⟨vR_117_5, List.forall_mem_cons.mpr ⟨vR_117_6, List.forall_mem_cons.mpr ⟨vR_117_7, List.forall_mem_cons.mpr ⟨vR_117_8, fun _ w => (by cases w)⟩⟩⟩⟩⟩⟩⟩⟩⟩)
set_option maxRecDepth 100000 in
theorem vK_117 : cz_chkK cm_117 [[2028], [2029], [1097], [2030], [0, 4207, 4209, 38], [4211], [0, 4212, 4214, 39], [0, 4238, 5000, 43]] = true := by decide +kernel
theorem vO_117 : cz_okM cm_117 := cz_chkM_ok cz_allY_ok cz_allC2_ok cz_asl_ok cz_okI0_ok vD_117 vK_117
set_option maxRecDepth 100000 in
theorem vR_118_0 : cz_chkR prog_6_method_11_code cr_118_0 = true := rws_ok (p := 0) (by decide +kernel)
set_option maxRecDepth 100000 in
theorem vR_118_1 : cz_chkR prog_6_method_11_code cr_118_1 = true := rws_ok (p := 16) (by decide +kernel)
set_option maxRecDepth 100000 in
theorem vR_118_2 : cz_chkR prog_6_method_11_code cr_118_2 = true := rws_ok (p := 32) (by decide +kernel)
set_option maxRecDepth 100000 in
theorem vR_118_3 : cz_chkR prog_6_method_11_code cr_118_3 = true := rws_ok (p := 48) (by decide +kernel)
theorem vD_118 : cz_chkD cm_118 = true := cz_chkD_of (show ∀ row ∈ [cr_118_0, cr_118_1, cr_118_2, cr_118_3], cz_chkR prog_6_method_11_code row = true from List.forall_mem_cons.mpr ⟨vR_118_0, List.forall_mem_cons.mpr ⟨vR_118_1, List.forall_mem_cons.mpr ⟨vR_118_2, List.forall_mem_cons.mpr ⟨vR_118_3, fun _ w => (by cases w)⟩⟩⟩⟩)
set_option maxRecDepth 100000 in
theorem vK_118 : cz_chkK cm_118 [[2025], [1151], [1097], [4198, 4199], [0, 4234, 4235, 4236], [1114], [1112], [4224, 4225]] = true := by decide +kernel
theorem vO_118 : cz_okM cm_118 := cz_chkM_ok cz_allY_ok cz_allC2_ok cz_asl_ok cz_okI0_ok vD_118 vK_118
set_option maxRecDepth 100000 in
theorem vR_119_0 : cz_chkR prog_6_method_17_code cr_119_0 = true := rws_ok (p := 0) (by decide +kernel)
set_option maxRecDepth 100000 in
theorem vR_119_1 : cz_chkR prog_6_method_17_code cr_119_1 = true := rws_ok (p := 17) (by decide +kernel)
set_option maxRecDepth 100000 in
theorem vR_119_2 : cz_chkR prog_6_method_17_code cr_119_2 = true := rws_ok (p := 33) (by decide +kernel)
set_option maxRecDepth 100000 in
theorem vR_119_3 : cz_chkR prog_6_method_17_code cr_119_3 = true := rws_ok (p := 49) (by decide +kernel)
set_option maxRecDepth 100000 in
theorem vR_119_4 : cz_chkR prog_6_method_17_code cr_119_4 = true := rws_ok (p := 65) (by decide +kernel)
set_option maxRecDepth 100000 in
theorem vR_119_5 : cz_chkR prog_6_method_17_code cr_119_5 = true := rws_ok (p := 80) (by decide +kernel)
theorem vD_119 : cz_chkD cm_119 = true := cz_chkD_of (show ∀ row ∈ [cr_119_0, cr_119_1, cr_119_2, cr_119_3, cr_119_4, cr_119_5], cz_chkR prog_6_method_17_code row = true from List.forall_mem_cons.mpr ⟨vR_119_0, List.forall_mem_cons.mpr ⟨vR_119_1, List.forall_mem_cons.mpr ⟨vR_119_2, List.forall_mem_cons.mpr ⟨vR_119_3, List.forall_mem_cons.mpr ⟨vR_119_4, List.forall_mem_cons.mpr ⟨vR_119_5, fun _ w => (by cases w)⟩⟩⟩⟩⟩⟩)
set_option maxRecDepth 100000 in
theorem vK_119 : cz_chkK cm_119 [[2025], [1203], [1200], [1151], [1097], [1099], [1086], [0, 5006, 5008, 45], [0, 5021, 5023, 46]] = true := by decide +kernel
theorem vO_119 : cz_okM cm_119 := cz_chkM_ok cz_allY_ok cz_allC2_ok cz_asl_ok cz_okI0_ok vD_119 vK_119
set_option maxRecDepth 100000 in
theorem vR_120_0 : cz_chkR prog_6_method_19_code cr_120_0 = true := rws_ok (p := 0) (by decide +kernel)
set_option maxRecDepth 100000 in
theorem vR_120_1 : cz_chkR prog_6_method_19_code cr_120_1 = true := rws_ok (p := 16) (by decide +kernel)
set_option maxRecDepth 100000 in
theorem vR_120_2 : cz_chkR prog_6_method_19_code cr_120_2 = true := rws_ok (p := 32) (by decide +kernel)
set_option maxRecDepth 100000 in
theorem vR_120_3 : cz_chkR prog_6_method_19_code cr_120_3 = true := rws_ok (p := 48) (by decide +kernel)
theorem vD_120 : cz_chkD cm_120 = true := cz_chkD_of (show ∀ row ∈ [cr_120_0, cr_120_1, cr_120_2, cr_120_3], cz_chkR prog_6_method_19_code row = true from List.forall_mem_cons.mpr ⟨vR_120_0, List.forall_mem_cons.mpr ⟨vR_120_1, List.forall_mem_cons.mpr ⟨vR_120_2, List.forall_mem_cons.mpr ⟨vR_120_3, fun _ w => (by cases w)⟩⟩⟩⟩)
set_option maxRecDepth 100000 in
theorem vK_120 : cz_chkK cm_120 [[1097], [1099], [4198, 4199], [4224, 4225], [4227, 4228]] = true := by decide +kernel
theorem vO_120 : cz_okM cm_120 := cz_chkM_ok cz_allY_ok cz_allC2_ok cz_asl_ok cz_okI0_ok vD_120 vK_120
set_option maxRecDepth 100000 in
theorem vR_121_0 : cz_chkR prog_6_method_20_code cr_121_0 = true := rws_ok (p := 0) (by decide +kernel)
set_option maxRecDepth 100000 in
theorem vR_121_1 : cz_chkR prog_6_method_20_code cr_121_1 = true := rws_ok (p := 17) (by decide +kernel)
set_option maxRecDepth 100000 in
theorem vR_121_2 : cz_chkR prog_6_method_20_code cr_121_2 = true := rws_ok (p := 32) (by decide +kernel)
set_option maxRecDepth 100000 in
theorem vR_121_3 : cz_chkR prog_6_method_20_code cr_121_3 = true := rws_ok (p := 48) (by decide +kernel)
set_option maxRecDepth 100000 in
theorem vR_121_4 : cz_chkR prog_6_method_20_code cr_121_4 = true := rws_ok (p := 65) (by decide +kernel)
set_option maxRecDepth 100000 in
theorem vR_121_5 : cz_chkR prog_6_method_20_code cr_121_5 = true := rws_ok (p := 81) (by decide +kernel)
set_option maxRecDepth 100000 in
theorem vR_121_6 : cz_chkR prog_6_method_20_code cr_121_6 = true := rws_ok (p := 96) (by decide +kernel)
set_option maxRecDepth 100000 in
theorem vR_121_7 : cz_chkR prog_6_method_20_code cr_121_7 = true := rws_ok (p := 112) (by decide +kernel)
set_option maxRecDepth 100000 in
theorem vR_121_8 : cz_chkR prog_6_method_20_code cr_121_8 = true := rws_ok (p := 128) (by decide +kernel)
set_option maxRecDepth 100000 in
theorem vR_121_9 : cz_chkR prog_6_method_20_code cr_121_9 = true := rws_ok (p := 144) (by decide +kernel)
theorem vD_121 : cz_chkD cm_121 = true := cz_chkD_of (show ∀ row ∈ [cr_121_0, cr_121_1, cr_121_2, cr_121_3, cr_121_4, cr_121_5, cr_121_6, cr_121_7, cr_121_8, cr_121_9], cz_chkR prog_6_method_20_code row = true from List.forall_mem_cons.mpr ⟨vR_121_0, List.forall_mem_cons.mpr ⟨vR_121_1, List.forall_mem_cons.mpr ⟨vR_121_2, List.forall_mem_cons.mpr ⟨vR_121_3, List.forall_mem_cons.mpr ⟨vR_121_4, List.forall_mem_cons.mpr ⟨vR_121_5, List.forall_mem_cons.mpr ⟨vR_121_6, List.forall_mem_cons.mpr ⟨vR_121_7, List.forall_mem_cons.mpr ⟨vR_121_8, List.forall_mem_cons.mpr ⟨vR_121_9, fun _ w => (by cases w)⟩⟩⟩⟩⟩⟩⟩⟩⟩⟩)
set_option maxRecDepth 100000 in
theorem vK_121 : cz_chkK cm_121 [[2031], [2032], [2033], [5025, 5026], [5028, 4165], [5029, 5030]] = true := by decide +kernel
theorem vO_121 : cz_okM cm_121 := cz_chkM_ok cz_allY_ok cz_allC2_ok cz_asl_ok cz_okI0_ok vD_121 vK_121
set_option maxRecDepth 100000 in
theorem vR_122_0 : cz_chkR prog_6_method_18_code cr_122_0 = true := rws_ok (p := 0) (by decide +kernel)
set_option maxRecDepth 100000 in
theorem vR_122_1 : cz_chkR prog_6_method_18_code cr_122_1 = true := rws_ok (p := 17) (by decide +kernel)
set_option maxRecDepth 100000 in
theorem vR_122_2 : cz_chkR prog_6_method_18_code cr_122_2 = true := rws_ok (p := 34) (by decide +kernel)
set_option maxRecDepth 100000 in
theorem vR_122_3 : cz_chkR prog_6_method_18_code cr_122_3 = true := rws_ok (p := 48) (by decide +kernel)
theorem vD_122 : cz_chkD cm_122 = true := cz_chkD_of (show ∀ row ∈ [cr_122_0, cr_122_1, cr_122_2, cr_122_3], cz_chkR prog_6_method_18_code row = true from List.forall_mem_cons.mpr ⟨vR_122_0, List.forall_mem_cons.mpr ⟨vR_122_1, List.forall_mem_cons.mpr ⟨vR_122_2, List.forall_mem_cons.mpr ⟨vR_122_3, fun _ w => (by cases w)⟩⟩⟩⟩)
set_option maxRecDepth 100000 in
theorem vK_122 : cz_chkK cm_122 [[2025], [1151], [0, 4234, 4235, 4236], [0, 5010, 5011, 5012], [1095], [5014, 5015], [0, 5017, 5018, 5019]] = true := by decide +kernel
theorem vO_122 : cz_okM cm_122 := cz_chkM_ok cz_allY_ok cz_allC2_ok cz_asl_ok cz_okI0_ok vD_122 vK_122
set_option maxRecDepth 100000 in
theorem vR_123_0 : cz_chkR prog_6_method_14_code cr_123_0 = true := rws_ok (p := 0) (by decide +kernel)
set_option maxRecDepth 100000 in
theorem vR_123_1 : cz_chkR prog_6_method_14_code cr_123_1 = true := rws_ok (p := 16) (by decide +kernel)
theorem vD_123 : cz_chkD cm_123 = true := cz_chkD_of (show ∀ row ∈ [cr_123_0, cr_123_1], cz_chkR prog_6_method_14_code row = true from List.forall_mem_cons.mpr ⟨vR_123_0, List.forall_mem_cons.mpr ⟨vR_123_1, fun _ w => (by cases w)⟩⟩)
set_option maxRecDepth 100000 in
theorem vK_123 : cz_chkK cm_123 [[4201], [4202]] = true := by decide +kernel
theorem vO_123 : cz_okM cm_123 := cz_chkM_ok cz_allY_ok cz_allC2_ok cz_asl_ok cz_okI0_ok vD_123 vK_123
set_option maxRecDepth 100000 in
theorem vR_124_0 : cz_chkR prog_6_method_21_code cr_124_0 = true := rws_ok (p := 0) (by decide +kernel)
theorem vD_124 : cz_chkD cm_124 = true := cz_chkD_of (show ∀ row ∈ [cr_124_0], cz_chkR prog_6_method_21_code row = true from List.forall_mem_cons.mpr ⟨vR_124_0, fun _ w => (by cases w)⟩)
set_option maxRecDepth 100000 in
theorem vK_124 : cz_chkK cm_124 [] = true := by decide +kernel
theorem vO_124 : cz_okM cm_124 := cz_chkM_ok cz_allY_ok cz_allC2_ok cz_asl_ok cz_okI0_ok vD_124 vK_124
set_option maxRecDepth 100000 in
theorem vR_125_0 : cz_chkR prog_6_method_24_code cr_125_0 = true := rws_ok (p := 0) (by decide +kernel)
set_option maxRecDepth 100000 in
theorem vR_125_1 : cz_chkR prog_6_method_24_code cr_125_1 = true := rws_ok (p := 16) (by decide +kernel)
set_option maxRecDepth 100000 in
theorem vR_125_2 : cz_chkR prog_6_method_24_code cr_125_2 = true := rws_ok (p := 33) (by decide +kernel)
set_option maxRecDepth 100000 in
theorem vR_125_3 : cz_chkR prog_6_method_24_code cr_125_3 = true := rws_ok (p := 50) (by decide +kernel)
theorem vD_125 : cz_chkD cm_125 = true := cz_chkD_of (show ∀ row ∈ [cr_125_0, cr_125_1, cr_125_2, cr_125_3], cz_chkR prog_6_method_24_code row = true from List.forall_mem_cons.mpr ⟨vR_125_0, List.forall_mem_cons.mpr ⟨vR_125_1, List.forall_mem_cons.mpr ⟨vR_125_2, List.forall_mem_cons.mpr ⟨vR_125_3, fun _ w => (by cases w)⟩⟩⟩⟩)
set_option maxRecDepth 100000 in
theorem vK_125 : cz_chkK cm_125 [[2031], [2033], [0, 5006, 5008, 45], [7024]] = true := by decide +kernel
theorem vO_125 : cz_okM cm_125 := cz_chkM_ok cz_allY_ok cz_allC2_ok cz_asl_ok cz_okI0_ok vD_125 vK_125
set_option maxRecDepth 100000 in
theorem vR_126_0 : cz_chkR prog_6_method_8_code cr_126_0 = true := rws_ok (p := 0) (by decide +kernel)
set_option maxRecDepth 100000 in
theorem vR_126_1 : cz_chkR prog_6_method_8_code cr_126_1 = true := rws_ok (p := 18) (by decide +kernel)
set_option maxRecDepth 100000 in
theorem vR_126_2 : cz_chkR prog_6_method_8_code cr_126_2 = true := rws_ok (p := 32) (by decide +kernel)
set_option maxRecDepth 100000 in
theorem vR_126_3 : cz_chkR prog_6_method_8_code cr_126_3 = true := rws_ok (p := 48) (by decide +kernel)
set_option maxRecDepth 100000 in
theorem vR_126_4 : cz_chkR prog_6_method_8_code cr_126_4 = true := rws_ok (p := 65) (by decide +kernel)
set_option maxRecDepth 100000 in
theorem vR_126_5 : cz_chkR prog_6_method_8_code cr_126_5 = true := rws_ok (p := 80) (by decide +kernel)
set_option maxRecDepth 100000 in
theorem vR_126_6 : cz_chkR prog_6_method_8_code cr_126_6 = true := rws_ok (p := 97) (by decide +kernel)
set_option maxRecDepth 100000 in
theorem vR_126_7 : cz_chkR prog_6_method_8_code cr_126_7 = true := rws_ok (p := 113) (by decide +kernel)
theorem vD_126 : cz_chkD cm_126 = true := cz_chkD_of (show ∀ row ∈ [cr_126_0, cr_126_1, cr_126_2, cr_126_3, cr_126_4, cr_126_5, cr_126_6, cr_126_7], cz_chkR prog_6_method_8_code row = true from List.forall_mem_cons.mpr ⟨vR_126_0, List.forall_mem_cons.mpr ⟨vR_126_1, List.forall_mem_cons.mpr ⟨vR_126_2, List.forall_mem_cons.mpr ⟨vR_126_3, List.forall_mem_cons.mpr ⟨vR_126_4, List.forall_mem_cons.mpr ⟨vR_126_5, List.forall_mem_cons.mpr ⟨vR_126_6, List.forall_mem_cons.mpr ⟨vR_126_7, fun _ w => (by cases w)⟩⟩⟩⟩⟩⟩⟩⟩)
set_option maxRecDepth 100000 in
theorem vK_126 : cz_chkK cm_126 [[2026], [2025], [1151], [1097], [4198, 4199], [0, 4234, 4235, 4236], [1113], [1114], [1111], [0, 4230, 4232, 42], [1112], [0, 4220, 4222, 41]] = true := by decide +kernel
theorem vO_126 : cz_okM cm_126 := cz_chkM_ok cz_allY_ok cz_allC2_ok cz_asl_ok cz_okI0_ok vD_126 vK_126
set_option maxRecDepth 100000 in
theorem vR_127_0 : cz_chkR prog_6_method_10_code cr_127_0 = true := rws_ok (p := 0) (by decide +kernel)
set_option maxRecDepth 100000 in
theorem vR_127_1 : cz_chkR prog_6_method_10_code cr_127_1 = true := rws_ok (p := 16) (by decide +kernel)
set_option maxRecDepth 100000 in
theorem vR_127_2 : cz_chkR prog_6_method_10_code cr_127_2 = true := rws_ok (p := 33) (by decide +kernel)
theorem vD_127 : cz_chkD cm_127 = true := cz_chkD_of (show ∀ row ∈ [cr_127_0, cr_127_1, cr_127_2], cz_chkR prog_6_method_10_code row = true from List.forall_mem_cons.mpr ⟨vR_127_0, List.forall_mem_cons.mpr ⟨vR_127_1, List.forall_mem_cons.mpr ⟨vR_127_2, fun _ w => (by cases w)⟩⟩⟩)
set_option maxRecDepth 100000 in
theorem vK_127 : cz_chkK cm_127 [[2026], [2027]] = true := by decide +kernel
theorem vO_127 : cz_okM cm_127 := cz_chkM_ok cz_allY_ok cz_allC2_ok cz_asl_ok cz_okI0_ok vD_127 vK_127
set_option maxRecDepth 100000 in
theorem vR_128_0 : cz_chkR prog_6_method_9_code cr_128_0 = true := rws_ok (p := 0) (by decide +kernel)
set_option maxRecDepth 100000 in
theorem vR_128_1 : cz_chkR prog_6_method_9_code cr_128_1 = true := rws_ok (p := 16) (by decide +kernel)
set_option maxRecDepth 100000 in
theorem vR_128_2 : cz_chkR prog_6_method_9_code cr_128_2 = true := rws_ok (p := 32) (by decide +kernel)
theorem vD_128 : cz_chkD cm_128 = true := cz_chkD_of (show ∀ row ∈ [cr_128_0, cr_128_1, cr_128_2], cz_chkR prog_6_method_9_code row = true from List.forall_mem_cons.mpr ⟨vR_128_0, List.forall_mem_cons.mpr ⟨vR_128_1, List.forall_mem_cons.mpr ⟨vR_128_2, fun _ w => (by cases w)⟩⟩⟩)
set_option maxRecDepth 100000 in
theorem vK_128 : cz_chkK cm_128 [[0, 4230, 4232, 42], [4224, 4225], [4227, 4228]] = true := by decide +kernel
theorem vO_128 : cz_okM cm_128 := cz_chkM_ok cz_allY_ok cz_allC2_ok cz_asl_ok cz_okI0_ok vD_128 vK_128
set_option maxRecDepth 100000 in
theorem vR_129_0 : cz_chkR prog_6_method_2_code cr_129_0 = true := rws_ok (p := 0) (by decide +kernel)
set_option maxRecDepth 100000 in
theorem vR_129_1 : cz_chkR prog_6_method_2_code cr_129_1 = true := rws_ok (p := 17) (by decide +kernel)
set_option maxRecDepth 100000 in
theorem vR_129_2 : cz_chkR prog_6_method_2_code cr_129_2 = true := rws_ok (p := 32) (by decide +kernel)
set_option maxRecDepth 100000 in
theorem vR_129_3 : cz_chkR prog_6_method_2_code cr_129_3 = true := rws_ok (p := 49) (by decide +kernel)
set_option maxRecDepth 100000 in
theorem vR_129_4 : cz_chkR prog_6_method_2_code cr_129_4 = true := rws_ok (p := 64) (by decide +kernel)
theorem vD_129 : cz_chkD cm_129 = true := cz_chkD_of (show ∀ row ∈ [cr_129_0, cr_129_1, cr_129_2, cr_129_3, cr_129_4], cz_chkR prog_6_method_2_code row = true from List.forall_mem_cons.mpr ⟨vR_129_0, List.forall_mem_cons.mpr ⟨vR_129_1, List.forall_mem_cons.mpr ⟨vR_129_2, List.forall_mem_cons.mpr ⟨vR_129_3, List.forall_mem_cons.mpr ⟨vR_129_4, fun _ w => (by cases w)⟩⟩⟩⟩⟩)
set_option maxRecDepth 100000 in
theorem vK_129 : cz_chkK cm_129 [[2025], [2027], [2033], [0, 4194, 4196, 36], [1203], [1200], [1151], [1097], [1110], [0, 4203, 4205, 37], [0, 5002, 5004, 44]] = true := by decide +kernel
theorem vO_129 : cz_okM cm_129 := cz_chkM_ok cz_allY_ok cz_allC2_ok cz_asl_ok cz_okI0_ok vD_129 vK_129
set_option maxRecDepth 100000 in
theorem vR_130_0 : cz_chkR prog_6_method_15_code cr_130_0 = true := rws_ok (p := 0) (by decide +kernel)
theorem vD_130 : cz_chkD cm_130 = true := cz_chkD_of (show ∀ row ∈ [cr_130_0], cz_chkR prog_6_method_15_code row = true from List.forall_mem_cons.mpr ⟨vR_130_0, fun _ w => (by cases w)⟩)
set_option maxRecDepth 100000 in
theorem vK_130 : cz_chkK cm_130 [[4201]] = true := by decide +kernel
theorem vO_130 : cz_okM cm_130 := cz_chkM_ok cz_allY_ok cz_allC2_ok cz_asl_ok cz_okI0_ok vD_130 vK_130
set_option maxRecDepth 100000 in
theorem vR_131_0 : cz_chkR prog_6_method_22_code cr_131_0 = true := rws_ok (p := 0) (by decide +kernel)
set_option maxRecDepth 100000 in
theorem vR_131_1 : cz_chkR prog_6_method_22_code cr_131_1 = true := rws_ok (p := 18) (by decide +kernel)
set_option maxRecDepth 100000 in
theorem vR_131_2 : cz_chkR prog_6_method_22_code cr_131_2 = true := rws_ok (p := 34) (by decide +kernel)
set_option maxRecDepth 100000 in
theorem vR_131_3 : cz_chkR prog_6_method_22_code cr_131_3 = true := rws_ok (p := 48) (by decide +kernel)
set_option maxRecDepth 100000 in
theorem vR_131_4 : cz_chkR prog_6_method_22_code cr_131_4 = true := rws_ok (p := 65) (by decide +kernel)
set_option maxRecDepth 100000 in
theorem vR_131_5 : cz_chkR prog_6_method_22_code cr_131_5 = true := rws_ok (p := 82) (by decide +kernel)
set_option maxRecDepth 100000 in
theorem vR_131_6 : cz_chkR prog_6_method_22_code cr_131_6 = true := rws_ok (p := 96) (by decide +kernel)
theorem vD_131 : cz_chkD cm_131 = true := cz_chkD_of (show ∀ row ∈ [cr_131_0, cr_131_1, cr_131_2, cr_131_3, cr_131_4, cr_131_5, cr_131_6], cz_chkR prog_6_method_22_code row = true from List.forall_mem_cons.mpr ⟨vR_131_0, List.forall_mem_cons.mpr ⟨vR_131_1, List.forall_mem_cons.mpr ⟨vR_131_2, List.forall_mem_cons.mpr ⟨vR_131_3, List.forall_mem_cons.mpr ⟨vR_131_4, List.forall_mem_cons.mpr ⟨vR_131_5, List.forall_mem_cons.mpr ⟨vR_131_6, fun _ w => (by cases w)⟩⟩⟩⟩⟩⟩⟩)
set_option maxRecDepth 100000 in
theorem vK_131 : cz_chkK cm_131 [[4201], [4202]] = true := by decide +kernel
theorem vO_131 : cz_okM cm_131 := cz_chkM_ok cz_allY_ok cz_allC2_ok cz_asl_ok cz_okI0_ok vD_131 vK_131
set_option maxRecDepth 100000 in
theorem vR_132_0 : cz_chkR prog_6_method_16_code cr_132_0 = true := rws_ok (p := 0) (by decide +kernel)
set_option maxRecDepth 100000 in
theorem vR_132_1 : cz_chkR prog_6_method_16_code cr_132_1 = true := rws_ok (p := 16) (by decide +kernel)
set_option maxRecDepth 100000 in
theorem vR_132_2 : cz_chkR prog_6_method_16_code cr_132_2 = true := rws_ok (p := 32) (by decide +kernel)
theorem vD_132 : cz_chkD cm_132 = true := cz_chkD_of (show ∀ row ∈ [cr_132_0, cr_132_1, cr_132_2], cz_chkR prog_6_method_16_code row = true from List.forall_mem_cons.mpr ⟨vR_132_0, List.forall_mem_cons.mpr ⟨vR_132_1, List.forall_mem_cons.mpr ⟨vR_132_2, fun _ w => (by cases w)⟩⟩⟩)
set_option maxRecDepth 100000 in
theorem vK_132 : cz_chkK cm_132 [[4201]] = true := by decide +kernel
theorem vO_132 : cz_okM cm_132 := cz_chkM_ok cz_allY_ok cz_allC2_ok cz_asl_ok cz_okI0_ok vD_132 vK_132
set_option maxRecDepth 100000 in
theorem vR_133_0 : cz_chkR prog_7_method_1_code cr_133_0 = true := rws_ok (p := 0) (by decide +kernel)
theorem vD_133 : cz_chkD cm_133 = true := cz_chkD_of (show ∀ row ∈ [cr_133_0], cz_chkR prog_7_method_1_code row = true from List.forall_mem_cons.mpr ⟨vR_133_0, fun _ w => (by cases w)⟩)
set_option maxRecDepth 100000 in
theorem vK_133 : cz_chkK cm_133 [[4149, 1041, 1042]] = true := by decide +kernel
theorem vO_133 : cz_okM cm_133 := cz_chkM_ok cz_allY_ok cz_allC2_ok cz_asl_ok cz_okI0_ok vD_133 vK_133
set_option maxRecDepth 100000 in
theorem vR_134_0 : cz_chkR prog_8_method_1_code cr_134_0 = true := rws_ok (p := 0) (by decide +kernel)
set_option maxRecDepth 100000 in
theorem vR_134_1 : cz_chkR prog_8_method_1_code cr_134_1 = true := rws_ok (p := 16) (by decide +kernel)
theorem vD_134 : cz_chkD cm_134 = true := cz_chkD_of (show ∀ row ∈ [cr_134_0, cr_134_1], cz_chkR prog_8_method_1_code row = true from List.forall_mem_cons.mpr ⟨vR_134_0, List.forall_mem_cons.mpr ⟨vR_134_1, fun _ w => (by cases w)⟩⟩)
set_option maxRecDepth 100000 in
theorem vK_134 : cz_chkK cm_134 [[1085, 1041, 1042], [1088], [1101], [1104], [1107]] = true := by decide +kernel
theorem vO_134 : cz_okM cm_134 := cz_chkM_ok cz_allY_ok cz_allC2_ok cz_asl_ok cz_okI0_ok vD_134 vK_134
set_option maxRecDepth 100000 in
theorem vR_135_0 : cz_chkR prog_9_method_1_code cr_135_0 = true := rws_ok (p := 0) (by decide +kernel)
set_option maxRecDepth 100000 in
theorem vR_135_1 : cz_chkR prog_9_method_1_code cr_135_1 = true := rws_ok (p := 17) (by decide +kernel)
set_option maxRecDepth 100000 in
theorem vR_135_2 : cz_chkR prog_9_method_1_code cr_135_2 = true := rws_ok (p := 32) (by decide +kernel)
theorem vD_135 : cz_chkD cm_135 = true := cz_chkD_of (show ∀ row ∈ [cr_135_0, cr_135_1, cr_135_2], cz_chkR prog_9_method_1_code row = true from List.forall_mem_cons.mpr ⟨vR_135_0, List.forall_mem_cons.mpr ⟨vR_135_1, List.forall_mem_cons.mpr ⟨vR_135_2, fun _ w => (by cases w)⟩⟩⟩)
set_option maxRecDepth 100000 in
theorem vK_135 : cz_chkK cm_135 [[2059, 1041, 1042], [2062], [2063], [2064], [2060], [2061]] = true := by decide +kernel
theorem vO_135 : cz_okM cm_135 := cz_chkM_ok cz_allY_ok cz_allC2_ok cz_asl_ok cz_okI0_ok vD_135 vK_135
set_option maxRecDepth 100000 in
theorem vR_136_0 : cz_chkR prog_9_method_9_code cr_136_0 = true := rws_ok (p := 0) (by decide +kernel)
set_option maxRecDepth 100000 in
theorem vR_136_1 : cz_chkR prog_9_method_9_code cr_136_1 = true := rws_ok (p := 16) (by decide +kernel)
set_option maxRecDepth 100000 in
theorem vR_136_2 : cz_chkR prog_9_method_9_code cr_136_2 = true := rws_ok (p := 33) (by decide +kernel)
set_option maxRecDepth 100000 in
theorem vR_136_3 : cz_chkR prog_9_method_9_code cr_136_3 = true := rws_ok (p := 48) (by decide +kernel)
set_option maxRecDepth 100000 in
theorem vR_136_4 : cz_chkR prog_9_method_9_code cr_136_4 = true := rws_ok (p := 64) (by decide +kernel)
set_option maxRecDepth 100000 in
theorem vR_136_5 : cz_chkR prog_9_method_9_code cr_136_5 = true := rws_ok (p := 82) (by decide +kernel)
set_option maxRecDepth 100000 in
theorem vR_136_6 : cz_chkR prog_9_method_9_code cr_136_6 = true := rws_ok (p := 98) (by decide +kernel)
set_option maxRecDepth 100000 in
theorem vR_136_7 : cz_chkR prog_9_method_9_code cr_136_7 = true := rws_ok (p := 114) (by decide +kernel)
set_option maxRecDepth 100000 in
theorem vR_136_8 : cz_chkR prog_9_method_9_code cr_136_8 = true := rws_ok (p := 130) (by decide +kernel)
set_option maxRecDepth 100000 in
theorem vR_136_9 : cz_chkR prog_9_method_9_code cr_136_9 = true := rws_ok (p := 146) (by decide +kernel)
set_option maxRecDepth 100000 in
theorem vR_136_10 : cz_chkR prog_9_method_9_code cr_136_10 = true := rws_ok (p := 160) (by decide +kernel)
set_option maxRecDepth 100000 in
theorem vR_136_11 : cz_chkR prog_9_method_9_code cr_136_11 = true := rws_ok (p := 176) (by decide +kernel)
set_option maxRecDepth 100000 in
theorem vR_136_12 : cz_chkR prog_9_method_9_code cr_136_12 = true := rws_ok (p := 192) (by decide +kernel)
theorem vD_136 : cz_chkD cm_136 = true := cz_chkD_of (show ∀ row ∈ [cr_136_0, cr_136_1, cr_136_2, cr_136_3, cr_136_4, cr_136_5, cr_136_6, cr_136_7, cr_136_8, cr_136_9, cr_136_10, cr_136_11, cr_136_12], cz_chkR prog_9_method_9_code row = true from List.forall_mem_cons.mpr ⟨vR_136_0, List.forall_mem_cons.mpr ⟨vR_136_1, List.forall_mem_cons.mpr ⟨vR_136_2, List.forall_mem_cons.mpr ⟨vR_136_3, List.forall_mem_cons.mpr ⟨vR_136_4, List.forall_mem_cons.mpr ⟨vR_136_5, List.forall_mem_cons.mpr ⟨vR_136_6, List.forall_mem_cons.mpr ⟨vR_136_7, List.forall_mem_cons.mpr ⟨vR_136_8, List.forall_mem_cons.mpr ⟨vR_136_9, List.forall_mem_cons.mpr ⟨vR_136_10, List.forall_mem_cons.mpr ⟨vR_136_11, List.forall_mem_cons.mpr ⟨vR_136_12, fun _ w => (by cases w)⟩⟩⟩⟩⟩⟩⟩⟩⟩⟩⟩⟩⟩)
set_option maxRecDepth 100000 in
theorem vK_136 : cz_chkK cm_136 [[2062], [2060], [2061], [1058], [1055], [0, 5155, 5018, 5019], [0, 5176, 5177, 5178], [0, 5180, 5182, 57], [0, 5184, 5186, 58], [5188, 5189]] = true := by decide +kernel
theorem vO_136 : cz_okM cm_136 := cz_chkM_ok cz_allY_ok cz_allC2_ok cz_asl_ok cz_okI0_ok vD_136 vK_136
set_option maxRecDepth 100000 in
theorem vR_137_0 : cz_chkR prog_9_method_2_code cr_137_0 = true := rws_ok (p := 0) (by decide +kernel)
set_option maxRecDepth 100000 in
theorem vR_137_1 : cz_chkR prog_9_method_2_code cr_137_1 = true := rws_ok (p := 16) (by decide +kernel)
theorem vD_137 : cz_chkD cm_137 = true := cz_chkD_of (show ∀ row ∈ [cr_137_0, cr_137_1], cz_chkR prog_9_method_2_code row = true from List.forall_mem_cons.mpr ⟨vR_137_0, List.forall_mem_cons.mpr ⟨vR_137_1, fun _ w => (by cases w)⟩⟩)
set_option maxRecDepth 100000 in
theorem vK_137 : cz_chkK cm_137 [[1058], [0, 5135, 5137, 51], [0, 5151, 5153, 52]] = true := by decide +kernel
theorem vO_137 : cz_okM cm_137 := cz_chkM_ok cz_allY_ok cz_allC2_ok cz_asl_ok cz_okI0_ok vD_137 vK_137
set_option maxRecDepth 100000 in
theorem vR_138_0 : cz_chkR prog_9_method_3_code cr_138_0 = true := rws_ok (p := 0) (by decide +kernel)
set_option maxRecDepth 100000 in
theorem vR_138_1 : cz_chkR prog_9_method_3_code cr_138_1 = true := rws_ok (p := 16) (by decide +kernel)
set_option maxRecDepth 100000 in
theorem vR_138_2 : cz_chkR prog_9_method_3_code cr_138_2 = true := rws_ok (p := 34) (by decide +kernel)
theorem vD_138 : cz_chkD cm_138 = true := cz_chkD_of (show ∀ row ∈ [cr_138_0, cr_138_1, cr_138_2], cz_chkR prog_9_method_3_code row = true from List.forall_mem_cons.mpr ⟨vR_138_0, List.forall_mem_cons.mpr ⟨vR_138_1, List.forall_mem_cons.mpr ⟨vR_138_2, fun _ w => (by cases w)⟩⟩⟩)
set_option maxRecDepth 100000 in
theorem vK_138 : cz_chkK cm_138 [[1058], [0, 5135, 5137, 51], [0, 5151, 5153, 52]] = true := by decide +kernel
theorem vO_138 : cz_okM cm_138 := cz_chkM_ok cz_allY_ok cz_allC2_ok cz_asl_ok cz_okI0_ok vD_138 vK_138
set_option maxRecDepth 100000 in
theorem vR_139_0 : cz_chkR prog_9_method_4_code cr_139_0 = true := rws_ok (p := 0) (by decide +kernel)
set_option maxRecDepth 100000 in
theorem vR_139_1 : cz_chkR prog_9_method_4_code cr_139_1 = true := rws_ok (p := 17) (by decide +kernel)
set_option maxRecDepth 100000 in
theorem vR_139_2 : cz_chkR prog_9_method_4_code cr_139_2 = true := rws_ok (p := 33) (by decide +kernel)
set_option maxRecDepth 100000 in
theorem vR_139_3 : cz_chkR prog_9_method_4_code cr_139_3 = true := rws_ok (p := 49) (by decide +kernel)
theorem vD_139 : cz_chkD cm_139 = true := cz_chkD_of (show ∀ row ∈ [cr_139_0, cr_139_1, cr_139_2, cr_139_3], cz_chkR prog_9_method_4_code row = true from List.forall_mem_cons.mpr ⟨vR_139_0, List.forall_mem_cons.mpr ⟨vR_139_1, List.forall_mem_cons.mpr ⟨vR_139_2, List.forall_mem_cons.mpr ⟨vR_139_3, fun _ w => (by cases w)⟩⟩⟩⟩)
set_option maxRecDepth 100000 in
theorem vK_139 : cz_chkK cm_139 [[2061], [1058], [1055], [0, 5139, 5140, 5141]] = true := by decide +kernel
theorem vO_139 : cz_okM cm_139 := cz_chkM_ok cz_allY_ok cz_allC2_ok cz_asl_ok cz_okI0_ok vD_139 vK_139
set_option maxRecDepth 100000 in
theorem vR_140_0 : cz_chkR prog_9_method_5_code cr_140_0 = true := rws_ok (p := 0) (by decide +kernel)
set_option maxRecDepth 100000 in
theorem vR_140_1 : cz_chkR prog_9_method_5_code cr_140_1 = true := rws_ok (p := 16) (by decide +kernel)
set_option maxRecDepth 100000 in
theorem vR_140_2 : cz_chkR prog_9_method_5_code cr_140_2 = true := rws_ok (p := 32) (by decide +kernel)
set_option maxRecDepth 100000 in
theorem vR_140_3 : cz_chkR prog_9_method_5_code cr_140_3 = true := rws_ok (p := 50) (by decide +kernel)
theorem vD_140 : cz_chkD cm_140 = true := cz_chkD_of (show ∀ row ∈ [cr_140_0, cr_140_1, cr_140_2, cr_140_3], cz_chkR prog_9_method_5_code row = true from List.forall_mem_cons.mpr ⟨vR_140_0, List.forall_mem_cons.mpr ⟨vR_140_1, List.forall_mem_cons.mpr ⟨vR_140_2, List.forall_mem_cons.mpr ⟨vR_140_3, fun _ w => (by cases w)⟩⟩⟩⟩)
set_option maxRecDepth 100000 in
theorem vK_140 : cz_chkK cm_140 [[2062], [2060], [1058], [1055], [0, 5155, 5018, 5019], [0, 5156, 5158, 53], [0, 5172, 5174, 56]] = true := by decide +kernel
theorem vO_140 : cz_okM cm_140 := cz_chkM_ok cz_allY_ok cz_allC2_ok cz_asl_ok cz_okI0_ok vD_140 vK_140
set_option maxRecDepth 100000 in
theorem vR_141_0 : cz_chkR prog_9_method_11_code cr_141_0 = true := rws_ok (p := 0) (by decide +kernel)
set_option maxRecDepth 100000 in
theorem vR_141_1 : cz_chkR prog_9_method_11_code cr_141_1 = true := rws_ok (p := 16) (by decide +kernel)
theorem vD_141 : cz_chkD cm_141 = true := cz_chkD_of (show ∀ row ∈ [cr_141_0, cr_141_1], cz_chkR prog_9_method_11_code row = true from List.forall_mem_cons.mpr ⟨vR_141_0, List.forall_mem_cons.mpr ⟨vR_141_1, fun _ w => (by cases w)⟩⟩)
set_option maxRecDepth 100000 in
theorem vK_141 : cz_chkK cm_141 [[2062], [5188, 5189]] = true := by decide +kernel
theorem vO_141 : cz_okM cm_141 := cz_chkM_ok cz_allY_ok cz_allC2_ok cz_asl_ok cz_okI0_ok vD_141 vK_141
set_option maxRecDepth 100000 in
theorem vR_142_0 : cz_chkR prog_9_method_10_code cr_142_0 = true := rws_ok (p := 0) (by decide +kernel)
set_option maxRecDepth 100000 in
theorem vR_142_1 : cz_chkR prog_9_method_10_code cr_142_1 = true := rws_ok (p := 17) (by decide +kernel)
theorem vD_142 : cz_chkD cm_142 = true := cz_chkD_of (show ∀ row ∈ [cr_142_0, cr_142_1], cz_chkR prog_9_method_10_code row = true from List.forall_mem_cons.mpr ⟨vR_142_0, List.forall_mem_cons.mpr ⟨vR_142_1, fun _ w => (by cases w)⟩⟩)
set_option maxRecDepth 100000 in
theorem vK_142 : cz_chkK cm_142 [[2062]] = true := by decide +kernel
theorem vO_142 : cz_okM cm_142 := cz_chkM_ok cz_allY_ok cz_allC2_ok cz_asl_ok cz_okI0_ok vD_142 vK_142
set_option maxRecDepth 100000 in
theorem vR_143_0 : cz_chkR prog_9_method_8_code cr_143_0 = true := rws_ok (p := 0) (by decide +kernel)
set_option maxRecDepth 100000 in
theorem vR_143_1 : cz_chkR prog_9_method_8_code cr_143_1 = true := rws_ok (p := 17) (by decide +kernel)
set_option maxRecDepth 100000 in
theorem vR_143_2 : cz_chkR prog_9_method_8_code cr_143_2 = true := rws_ok (p := 32) (by decide +kernel)
set_option maxRecDepth 100000 in
theorem vR_143_3 : cz_chkR prog_9_method_8_code cr_143_3 = true := rws_ok (p := 49) (by decide +kernel)
set_option maxRecDepth 100000 in
theorem vR_143_4 : cz_chkR prog_9_method_8_code cr_143_4 = true := rws_ok (p := 65) (by decide +kernel)
set_option maxRecDepth 100000 in
theorem vR_143_5 : cz_chkR prog_9_method_8_code cr_143_5 = true := rws_ok (p := 82) (by decide +kernel)
set_option maxRecDepth 100000 in
theorem vR_143_6 : cz_chkR prog_9_method_8_code cr_143_6 = true := rws_ok (p := 96) (by decide +kernel)
set_option maxRecDepth 100000 in
theorem vR_143_7 : cz_chkR prog_9_method_8_code cr_143_7 = true := rws_ok (p := 112) (by decide +kernel)
set_option maxRecDepth 100000 in
theorem vR_143_8 : cz_chkR prog_9_method_8_code cr_143_8 = true := rws_ok (p := 128) (by decide +kernel)
set_option maxRecDepth 100000 in
theorem vR_143_9 : cz_chkR prog_9_method_8_code cr_143_9 = true := rws_ok (p := 146) (by decide +kernel)
set_option maxRecDepth 100000 in
theorem vR_143_10 : cz_chkR prog_9_method_8_code cr_143_10 = true := rws_ok (p := 161) (by decide +kernel)
theorem vD_143 : cz_chkD cm_143 = true := cz_chkD_of (show ∀ row ∈ [cr_143_0, cr_143_1, cr_143_2, cr_143_3, cr_143_4, cr_143_5, cr_143_6, cr_143_7, cr_143_8, cr_143_9, cr_143_10], cz_chkR prog_9_method_8_code row = true from List.forall_mem_cons.mpr ⟨vR_143_0, List.forall_mem_cons.mpr ⟨vR_143_1, List.forall_mem_cons.mpr ⟨vR_143_2, List.forall_mem_cons.mpr ⟨vR_143_3, List.forall_mem_cons.mpr ⟨vR_143_4, List.forall_mem_cons.mpr ⟨vR_143_5, List.forall_mem_cons.mpr ⟨vR_143_6, List.forall_mem_cons.mpr ⟨vR_143_7, List.forall_mem_cons.mpr ⟨vR_143_8, List.forall_mem_cons.mpr ⟨vR_143_9, List.forall_mem_cons.mpr ⟨vR_143_10, fun _ w => (by cases w)⟩⟩⟩⟩⟩⟩⟩⟩⟩⟩⟩)
set_option maxRecDepth 100000 in
theorem vK_143 : cz_chkK cm_143 [[2062], [2063], [2064], [5171, 5105, 5104, 1032]] = true := by decide +kernel
theorem vO_143 : cz_okM cm_143 := cz_chkM_ok cz_allY_ok cz_allC2_ok cz_asl_ok cz_okI0_ok vD_143 vK_143
set_option maxRecDepth 100000 in
theorem vR_144_0 : cz_chkR prog_9_method_6_code cr_144_0 = true := rws_ok (p := 0) (by decide +kernel)
set_option maxRecDepth 100000 in
theorem vR_144_1 : cz_chkR prog_9_method_6_code cr_144_1 = true := rws_ok (p := 17) (by decide +kernel)
set_option maxRecDepth 100000 in
theorem vR_144_2 : cz_chkR prog_9_method_6_code cr_144_2 = true := rws_ok (p := 34) (by decide +kernel)
set_option maxRecDepth 100000 in
theorem vR_144_3 : cz_chkR prog_9_method_6_code cr_144_3 = true := rws_ok (p := 49) (by decide +kernel)
theorem vD_144 : cz_chkD cm_144 = true := cz_chkD_of (show ∀ row ∈ [cr_144_0, cr_144_1, cr_144_2, cr_144_3], cz_chkR prog_9_method_6_code row = true from List.forall_mem_cons.mpr ⟨vR_144_0, List.forall_mem_cons.mpr ⟨vR_144_1, List.forall_mem_cons.mpr ⟨vR_144_2, List.forall_mem_cons.mpr ⟨vR_144_3, fun _ w => (by cases w)⟩⟩⟩⟩)
set_option maxRecDepth 100000 in
theorem vK_144 : cz_chkK cm_144 [[2062], [1058], [1055], [0, 5160, 5162, 54]] = true := by decide +kernel
theorem vO_144 : cz_okM cm_144 := cz_chkM_ok cz_allY_ok cz_allC2_ok cz_asl_ok cz_okI0_ok vD_144 vK_144
set_option maxRecDepth 100000 in
theorem vR_145_0 : cz_chkR prog_9_method_7_code cr_145_0 = true := rws_ok (p := 0) (by decide +kernel)
set_option maxRecDepth 100000 in
theorem vR_145_1 : cz_chkR prog_9_method_7_code cr_145_1 = true := rws_ok (p := 16) (by decide +kernel)
set_option maxRecDepth 100000 in
theorem vR_145_2 : cz_chkR prog_9_method_7_code cr_145_2 = true := rws_ok (p := 32) (by decide +kernel)
set_option maxRecDepth 100000 in
theorem vR_145_3 : cz_chkR prog_9_method_7_code cr_145_3 = true := rws_ok (p := 48) (by decide +kernel)
set_option maxRecDepth 100000 in
theorem vR_145_4 : cz_chkR prog_9_method_7_code cr_145_4 = true := rws_ok (p := 64) (by decide +kernel)
theorem vD_145 : cz_chkD cm_145 = true := cz_chkD_of (show ∀ row ∈ [cr_145_0, cr_145_1, cr_145_2, cr_145_3, cr_145_4], cz_chkR prog_9_method_7_code row = true from List.forall_mem_cons.mpr ⟨vR_145_0, List.forall_mem_cons.mpr ⟨vR_145_1, List.forall_mem_cons.mpr ⟨vR_145_2, List.forall_mem_cons.mpr ⟨vR_145_3, List.forall_mem_cons.mpr ⟨vR_145_4, fun _ w => (by cases w)⟩⟩⟩⟩⟩)
set_option maxRecDepth 100000 in
theorem vK_145 : cz_chkK cm_145 [[5164, 5165], [0, 5167, 5169, 55]] = true := by decide +kernel
theorem vO_145 : cz_okM cm_145 := cz_chkM_ok cz_allY_ok cz_allC2_ok cz_asl_ok cz_okI0_ok vD_145 vK_145
set_option maxRecDepth 100000 in
theorem vR_146_0 : cz_chkR prog_10_method_1_code cr_146_0 = true := rws_ok (p := 0) (by decide +kernel)
set_option maxRecDepth 100000 in
theorem vR_146_1 : cz_chkR prog_10_method_1_code cr_146_1 = true := rws_ok (p := 17) (by decide +kernel)
theorem vD_146 : cz_chkD cm_146 = true := cz_chkD_of (show ∀ row ∈ [cr_146_0, cr_146_1], cz_chkR prog_10_method_1_code row = true from List.forall_mem_cons.mpr ⟨vR_146_0, List.forall_mem_cons.mpr ⟨vR_146_1, fun _ w => (by cases w)⟩⟩)
set_option maxRecDepth 100000 in
theorem vK_146 : cz_chkK cm_146 [[1237, 1041, 1042], [2000], [2001], [1238], [1239]] = true := by decide +kernel
theorem vO_146 : cz_okM cm_146 := cz_chkM_ok cz_allY_ok cz_allC2_ok cz_asl_ok cz_okI0_ok vD_146 vK_146
set_option maxRecDepth 100000 in
theorem vR_147_0 : cz_chkR prog_10_method_6_code cr_147_0 = true := rws_ok (p := 0) (by decide +kernel)
set_option maxRecDepth 100000 in
theorem vR_147_1 : cz_chkR prog_10_method_6_code cr_147_1 = true := rws_ok (p := 18) (by decide +kernel)
theorem vD_147 : cz_chkD cm_147 = true := cz_chkD_of (show ∀ row ∈ [cr_147_0, cr_147_1], cz_chkR prog_10_method_6_code row = true from List.forall_mem_cons.mpr ⟨vR_147_0, List.forall_mem_cons.mpr ⟨vR_147_1, fun _ w => (by cases w)⟩⟩)
set_option maxRecDepth 100000 in
theorem vK_147 : cz_chkK cm_147 [[1238]] = true := by decide +kernel
theorem vO_147 : cz_okM cm_147 := cz_chkM_ok cz_allY_ok cz_allC2_ok cz_asl_ok cz_okI0_ok vD_147 vK_147
set_option maxRecDepth 100000 in
theorem vR_148_0 : cz_chkR prog_10_method_27_code cr_148_0 = true := rws_ok (p := 0) (by decide +kernel)
set_option maxRecDepth 100000 in
theorem vR_148_1 : cz_chkR prog_10_method_27_code cr_148_1 = true := rws_ok (p := 17) (by decide +kernel)
set_option maxRecDepth 100000 in
theorem vR_148_2 : cz_chkR prog_10_method_27_code cr_148_2 = true := rws_ok (p := 33) (by decide +kernel)
set_option maxRecDepth 100000 in
theorem vR_148_3 : cz_chkR prog_10_method_27_code cr_148_3 = true := rws_ok (p := 48) (by decide +kernel)
theorem vD_148 : cz_chkD cm_148 = true := cz_chkD_of (show ∀ row ∈ [cr_148_0, cr_148_1, cr_148_2, cr_148_3], cz_chkR prog_10_method_27_code row = true from List.forall_mem_cons.mpr ⟨vR_148_0, List.forall_mem_cons.mpr ⟨vR_148_1, List.forall_mem_cons.mpr ⟨vR_148_2, List.forall_mem_cons.mpr ⟨vR_148_3, fun _ w => (by cases w)⟩⟩⟩⟩)
set_option maxRecDepth 100000 in
theorem vK_148 : cz_chkK cm_148 [[0, 3148, 3150, 7], [0, 4136, 4138, 35], [4140]] = true := by decide +kernel
theorem vO_148 : cz_okM cm_148 := cz_chkM_ok cz_allY_ok cz_allC2_ok cz_asl_ok cz_okI0_ok vD_148 vK_148
set_option maxRecDepth 100000 in
theorem vR_149_0 : cz_chkR prog_10_method_35_code cr_149_0 = true := rws_ok (p := 0) (by decide +kernel)
set_option maxRecDepth 100000 in
theorem vR_149_1 : cz_chkR prog_10_method_35_code cr_149_1 = true := rws_ok (p := 17) (by decide +kernel)
set_option maxRecDepth 100000 in
theorem vR_149_2 : cz_chkR prog_10_method_35_code cr_149_2 = true := rws_ok (p := 34) (by decide +kernel)
theorem vD_149 : cz_chkD cm_149 = true := cz_chkD_of (show ∀ row ∈ [cr_149_0, cr_149_1, cr_149_2], cz_chkR prog_10_method_35_code row = true from List.forall_mem_cons.mpr ⟨vR_149_0, List.forall_mem_cons.mpr ⟨vR_149_1, List.forall_mem_cons.mpr ⟨vR_149_2, fun _ w => (by cases w)⟩⟩⟩)
set_option maxRecDepth 100000 in
theorem vK_149 : cz_chkK cm_149 [[0, 3152, 3154, 8]] = true := by decide +kernel
theorem vO_149 : cz_okM cm_149 := cz_chkM_ok cz_allY_ok cz_allC2_ok cz_asl_ok cz_okI0_ok vD_149 vK_149
set_option maxRecDepth 100000 in
theorem vR_150_0 : cz_chkR prog_10_method_3_code cr_150_0 = true := rws_ok (p := 0) (by decide +kernel)
set_option maxRecDepth 100000 in
theorem vR_150_1 : cz_chkR prog_10_method_3_code cr_150_1 = true := rws_ok (p := 28) (by decide +kernel)
set_option maxRecDepth 100000 in
theorem vR_150_2 : cz_chkR prog_10_method_3_code cr_150_2 = true := rws_ok (p := 32) (by decide +kernel)
theorem vD_150 : cz_chkD cm_150 = true := cz_chkD_of (show ∀ row ∈ [cr_150_0, cr_150_1, cr_150_2], cz_chkR prog_10_method_3_code row = true from List.forall_mem_cons.mpr ⟨vR_150_0, List.forall_mem_cons.mpr ⟨vR_150_1, List.forall_mem_cons.mpr ⟨vR_150_2, fun _ w => (by cases w)⟩⟩⟩)
set_option maxRecDepth 100000 in
theorem vK_150 : cz_chkK cm_150 [] = true := by decide +kernel
theorem vO_150 : cz_okM cm_150 := cz_chkM_ok cz_allY_ok cz_allC2_ok cz_asl_ok cz_okI0_ok vD_150 vK_150
set_option maxRecDepth 100000 in
theorem vR_151_0 : cz_chkR prog_10_method_8_code cr_151_0 = true := rws_ok (p := 0) (by decide +kernel)
set_option maxRecDepth 100000 in
theorem vR_151_1 : cz_chkR prog_10_method_8_code cr_151_1 = true := rws_ok (p := 16) (by decide +kernel)
theorem vD_151 : cz_chkD cm_151 = true := cz_chkD_of (show ∀ row ∈ [cr_151_0, cr_151_1], cz_chkR prog_10_method_8_code row = true from List.forall_mem_cons.mpr ⟨vR_151_0, List.forall_mem_cons.mpr ⟨vR_151_1, fun _ w => (by cases w)⟩⟩)
set_option maxRecDepth 100000 in
theorem vK_151 : cz_chkK cm_151 [[1238]] = true := by decide +kernel
theorem vO_151 : cz_okM cm_151 := cz_chkM_ok cz_allY_ok cz_allC2_ok cz_asl_ok cz_okI0_ok vD_151 vK_151
set_option maxRecDepth 100000 in
theorem vR_152_0 : cz_chkR prog_10_method_31_code cr_152_0 = true := rws_ok (p := 0) (by decide +kernel)
set_option maxRecDepth 100000 in
theorem vR_152_1 : cz_chkR prog_10_method_31_code cr_152_1 = true := rws_ok (p := 16) (by decide +kernel)
set_option maxRecDepth 100000 in
theorem vR_152_2 : cz_chkR prog_10_method_31_code cr_152_2 = true := rws_ok (p := 32) (by decide +kernel)
theorem vD_152 : cz_chkD cm_152 = true := cz_chkD_of (show ∀ row ∈ [cr_152_0, cr_152_1, cr_152_2], cz_chkR prog_10_method_31_code row = true from List.forall_mem_cons.mpr ⟨vR_152_0, List.forall_mem_cons.mpr ⟨vR_152_1, List.forall_mem_cons.mpr ⟨vR_152_2, fun _ w => (by cases w)⟩⟩⟩)
set_option maxRecDepth 100000 in
theorem vK_152 : cz_chkK cm_152 [[2000], [2001], [0, 3166, 3168, 11], [0, 3187, 3189, 16]] = true := by decide +kernel
theorem vO_152 : cz_okM cm_152 := cz_chkM_ok cz_allY_ok cz_allC2_ok cz_asl_ok cz_okI0_ok vD_152 vK_152
set_option maxRecDepth 100000 in
theorem vR_153_0 : cz_chkR prog_10_method_11_code cr_153_0 = true := rws_ok (p := 0) (by decide +kernel)
set_option maxRecDepth 100000 in
theorem vR_153_1 : cz_chkR prog_10_method_11_code cr_153_1 = true := rws_ok (p := 16) (by decide +kernel)
theorem vD_153 : cz_chkD cm_153 = true := cz_chkD_of (show ∀ row ∈ [cr_153_0, cr_153_1], cz_chkR prog_10_method_11_code row = true from List.forall_mem_cons.mpr ⟨vR_153_0, List.forall_mem_cons.mpr ⟨vR_153_1, fun _ w => (by cases w)⟩⟩)
set_option maxRecDepth 100000 in
theorem vK_153 : cz_chkK cm_153 [[2000], [2001]] = true := by decide +kernel
theorem vO_153 : cz_okM cm_153 := cz_chkM_ok cz_allY_ok cz_allC2_ok cz_asl_ok cz_okI0_ok vD_153 vK_153
set_option maxRecDepth 100000 in
theorem vR_154_0 : cz_chkR prog_10_method_17_code cr_154_0 = true := rws_ok (p := 0) (by decide +kernel)
set_option maxRecDepth 100000 in
theorem vR_154_1 : cz_chkR prog_10_method_17_code cr_154_1 = true := rws_ok (p := 18) (by decide +kernel)
theorem vD_154 : cz_chkD cm_154 = true := cz_chkD_of (show ∀ row ∈ [cr_154_0, cr_154_1], cz_chkR prog_10_method_17_code row = true from List.forall_mem_cons.mpr ⟨vR_154_0, List.forall_mem_cons.mpr ⟨vR_154_1, fun _ w => (by cases w)⟩⟩)
set_option maxRecDepth 100000 in
theorem vK_154 : cz_chkK cm_154 [] = true := by decide +kernel
theorem vO_154 : cz_okM cm_154 := cz_chkM_ok cz_allY_ok cz_allC2_ok cz_asl_ok cz_okI0_ok vD_154 vK_154
set_option maxRecDepth 100000 in
theorem vR_155_0 : cz_chkR prog_10_method_5_code cr_155_0 = true := rws_ok (p := 0) (by decide +kernel)
set_option maxRecDepth 100000 in
theorem vR_155_1 : cz_chkR prog_10_method_5_code cr_155_1 = true := rws_ok (p := 18) (by decide +kernel)
set_option maxRecDepth 100000 in
theorem vR_155_2 : cz_chkR prog_10_method_5_code cr_155_2 = true := rws_ok (p := 33) (by decide +kernel)
set_option maxRecDepth 100000 in
theorem vR_155_3 : cz_chkR prog_10_method_5_code cr_155_3 = true := rws_ok (p := 48) (by decide +kernel)
theorem vD_155 : cz_chkD cm_155 = true := cz_chkD_of (show ∀ row ∈ [cr_155_0, cr_155_1, cr_155_2, cr_155_3], cz_chkR prog_10_method_5_code row = true from List.forall_mem_cons.mpr ⟨vR_155_0, List.forall_mem_cons.mpr ⟨vR_155_1, List.forall_mem_cons.mpr ⟨vR_155_2, List.forall_mem_cons.mpr ⟨vR_155_3, fun _ w => (by cases w)⟩⟩⟩⟩)
set_option maxRecDepth 100000 in
theorem vK_155 : cz_chkK cm_155 [[1238]] = true := by decide +kernel
theorem vO_155 : cz_okM cm_155 := cz_chkM_ok cz_allY_ok cz_allC2_ok cz_asl_ok cz_okI0_ok vD_155 vK_155
set_option maxRecDepth 100000 in
theorem vR_156_0 : cz_chkR prog_10_method_23_code cr_156_0 = true := rws_ok (p := 0) (by decide +kernel)
set_option maxRecDepth 100000 in
theorem vR_156_1 : cz_chkR prog_10_method_23_code cr_156_1 = true := rws_ok (p := 18) (by decide +kernel)
set_option maxRecDepth 100000 in
theorem vR_156_2 : cz_chkR prog_10_method_23_code cr_156_2 = true := rws_ok (p := 33) (by decide +kernel)
set_option maxRecDepth 100000 in
theorem vR_156_3 : cz_chkR prog_10_method_23_code cr_156_3 = true := rws_ok (p := 49) (by decide +kernel)
set_option maxRecDepth 100000 in
theorem vR_156_4 : cz_chkR prog_10_method_23_code cr_156_4 = true := rws_ok (p := 64) (by decide +kernel)
theorem vD_156 : cz_chkD cm_156 = true := cz_chkD_of (show ∀ row ∈ [cr_156_0, cr_156_1, cr_156_2, cr_156_3, cr_156_4], cz_chkR prog_10_method_23_code row = true from List.forall_mem_cons.mpr ⟨vR_156_0, List.forall_mem_cons.mpr ⟨vR_156_1, List.forall_mem_cons.mpr ⟨vR_156_2, List.forall_mem_cons.mpr ⟨vR_156_3, List.forall_mem_cons.mpr ⟨vR_156_4, fun _ w => (by cases w)⟩⟩⟩⟩⟩)
set_option maxRecDepth 100000 in
theorem vK_156 : cz_chkK cm_156 [[0, 4035, 4036, 4037], [0, 4083, 4085, 27], [0, 4045, 4046, 4047]] = true := by decide +kernel
theorem vO_156 : cz_okM cm_156 := cz_chkM_ok cz_allY_ok cz_allC2_ok cz_asl_ok cz_okI0_ok vD_156 vK_156
set_option maxRecDepth 100000 in
theorem vR_157_0 : cz_chkR prog_10_method_13_code cr_157_0 = true := rws_ok (p := 0) (by decide +kernel)
set_option maxRecDepth 100000 in
theorem vR_157_1 : cz_chkR prog_10_method_13_code cr_157_1 = true := rws_ok (p := 16) (by decide +kernel)
set_option maxRecDepth 100000 in
theorem vR_157_2 : cz_chkR prog_10_method_13_code cr_157_2 = true := rws_ok (p := 32) (by decide +kernel)
set_option maxRecDepth 100000 in
theorem vR_157_3 : cz_chkR prog_10_method_13_code cr_157_3 = true := rws_ok (p := 48) (by decide +kernel)
set_option maxRecDepth 100000 in
theorem vR_157_4 : cz_chkR prog_10_method_13_code cr_157_4 = true := rws_ok (p := 66) (by decide +kernel)
set_option maxRecDepth 100000 in
theorem vR_157_5 : cz_chkR prog_10_method_13_code cr_157_5 = true := rws_ok (p := 80) (by decide +kernel)
set_option maxRecDepth 100000 in
theorem vR_157_6 : cz_chkR prog_10_method_13_code cr_157_6 = true := rws_ok (p := 96) (by decide +kernel)
theorem vD_157 : cz_chkD cm_157 = true := cz_chkD_of (show ∀ row ∈ [cr_157_0, cr_157_1, cr_157_2, cr_157_3, cr_157_4, cr_157_5, cr_157_6], cz_chkR prog_10_method_13_code row = true from List.forall_mem_cons.mpr ⟨vR_157_0, List.forall_mem_cons.mpr ⟨vR_157_1, List.forall_mem_cons.mpr ⟨vR_157_2, List.forall_mem_cons.mpr ⟨vR_157_3, List.forall_mem_cons.mpr ⟨vR_157_4, List.forall_mem_cons.mpr ⟨vR_157_5, List.forall_mem_cons.mpr ⟨vR_157_6, fun _ w => (by cases w)⟩⟩⟩⟩⟩⟩⟩)
set_option maxRecDepth 100000 in
theorem vK_157 : cz_chkK cm_157 [[2000], [2001], [1238], [1090]] = true := by decide +kernel
theorem vO_157 : cz_okM cm_157 := cz_chkM_ok cz_allY_ok cz_allC2_ok cz_asl_ok cz_okI0_ok vD_157 vK_157
set_option maxRecDepth 100000 in
theorem vR_158_0 : cz_chkR prog_10_method_14_code cr_158_0 = true := rws_ok (p := 0) (by decide +kernel)
set_option maxRecDepth 100000 in
theorem vR_158_1 : cz_chkR prog_10_method_14_code cr_158_1 = true := rws_ok (p := 16) (by decide +kernel)
set_option maxRecDepth 100000 in
theorem vR_158_2 : cz_chkR prog_10_method_14_code cr_158_2 = true := rws_ok (p := 32) (by decide +kernel)
set_option maxRecDepth 100000 in
theorem vR_158_3 : cz_chkR prog_10_method_14_code cr_158_3 = true := rws_ok (p := 48) (by decide +kernel)
set_option maxRecDepth 100000 in
theorem vR_158_4 : cz_chkR prog_10_method_14_code cr_158_4 = true := rws_ok (p := 65) (by decide +kernel)
set_option maxRecDepth 100000 in
theorem vR_158_5 : cz_chkR prog_10_method_14_code cr_158_5 = true := rws_ok (p := 81) (by decide +kernel)
set_option maxRecDepth 100000 in
theorem vR_158_6 : cz_chkR prog_10_method_14_code cr_158_6 = true := rws_ok (p := 96) (by decide +kernel)
set_option maxRecDepth 100000 in
theorem vR_158_7 : cz_chkR prog_10_method_14_code cr_158_7 = true := rws_ok (p := 112) (by decide +kernel)
theorem vD_158 : cz_chkD cm_158 = true := cz_chkD_of (show ∀ row ∈ [cr_158_0, cr_158_1, cr_158_2, cr_158_3, cr_158_4, cr_158_5, cr_158_6, cr_158_7], cz_chkR prog_10_method_14_code row = true from List.forall_mem_cons.mpr ⟨vR_158_0, List.forall_mem_cons.mpr ⟨vR_158_1, List.forall_mem_cons.mpr ⟨vR_158_2, List.forall_mem_cons.mpr ⟨vR_158_3, List.forall_mem_cons.mpr ⟨vR_158_4, List.forall_mem_cons.mpr ⟨vR_158_5, List.forall_mem_cons.mpr ⟨vR_158_6, List.forall_mem_cons.mpr ⟨vR_158_7, fun _ w => (by cases w)⟩⟩⟩⟩⟩⟩⟩⟩)
set_option maxRecDepth 100000 in
theorem vK_158 : cz_chkK cm_158 [[2000], [2001], [1238], [1094]] = true := by decide +kernel
theorem vO_158 : cz_okM cm_158 := cz_chkM_ok cz_allY_ok cz_allC2_ok cz_asl_ok cz_okI0_ok vD_158 vK_158
set_option maxRecDepth 100000 in
theorem vR_159_0 : cz_chkR prog_10_method_30_code cr_159_0 = true := rws_ok (p := 0) (by decide +kernel)
set_option maxRecDepth 100000 in
theorem vR_159_1 : cz_chkR prog_10_method_30_code cr_159_1 = true := rws_ok (p := 16) (by decide +kernel)
set_option maxRecDepth 100000 in
theorem vR_159_2 : cz_chkR prog_10_method_30_code cr_159_2 = true := rws_ok (p := 32) (by decide +kernel)
set_option maxRecDepth 100000 in
theorem vR_159_3 : cz_chkR prog_10_method_30_code cr_159_3 = true := rws_ok (p := 48) (by decide +kernel)
theorem vD_159 : cz_chkD cm_159 = true := cz_chkD_of (show ∀ row ∈ [cr_159_0, cr_159_1, cr_159_2, cr_159_3], cz_chkR prog_10_method_30_code row = true from List.forall_mem_cons.mpr ⟨vR_159_0, List.forall_mem_cons.mpr ⟨vR_159_1, List.forall_mem_cons.mpr ⟨vR_159_2, List.forall_mem_cons.mpr ⟨vR_159_3, fun _ w => (by cases w)⟩⟩⟩⟩)
set_option maxRecDepth 100000 in
theorem vK_159 : cz_chkK cm_159 [[1238], [0, 3170, 3172, 12], [3174]] = true := by decide +kernel
theorem vO_159 : cz_okM cm_159 := cz_chkM_ok cz_allY_ok cz_allC2_ok cz_asl_ok cz_okI0_ok vD_159 vK_159
set_option maxRecDepth 100000 in
theorem vR_160_0 : cz_chkR prog_10_method_32_code cr_160_0 = true := rws_ok (p := 0) (by decide +kernel)
set_option maxRecDepth 100000 in
theorem vR_160_1 : cz_chkR prog_10_method_32_code cr_160_1 = true := rws_ok (p := 17) (by decide +kernel)
set_option maxRecDepth 100000 in
theorem vR_160_2 : cz_chkR prog_10_method_32_code cr_160_2 = true := rws_ok (p := 34) (by decide +kernel)
set_option maxRecDepth 100000 in
theorem vR_160_3 : cz_chkR prog_10_method_32_code cr_160_3 = true := rws_ok (p := 49) (by decide +kernel)
set_option maxRecDepth 100000 in
theorem vR_160_4 : cz_chkR prog_10_method_32_code cr_160_4 = true := rws_ok (p := 64) (by decide +kernel)
set_option maxRecDepth 100000 in
theorem vR_160_5 : cz_chkR prog_10_method_32_code cr_160_5 = true := rws_ok (p := 80) (by decide +kernel)
set_option maxRecDepth 100000 in
theorem vR_160_6 : cz_chkR prog_10_method_32_code cr_160_6 = true := rws_ok (p := 96) (by decide +kernel)
set_option maxRecDepth 100000 in
theorem vR_160_7 : cz_chkR prog_10_method_32_code cr_160_7 = true := rws_ok (p := 112) (by decide +kernel)
set_option maxRecDepth 100000 in
theorem vR_160_8 : cz_chkR prog_10_method_32_code cr_160_8 = true := rws_ok (p := 128) (by decide +kernel)
set_option maxRecDepth 100000 in
theorem vR_160_9 : cz_chkR prog_10_method_32_code cr_160_9 = true := rws_ok (p := 146) (by decide +kernel)
theorem vD_160 : cz_chkD cm_160 = true := cz_chkD_of (show ∀ row ∈ [cr_160_0, cr_160_1, cr_160_2, cr_160_3, cr_160_4, cr_160_5, cr_160_6, cr_160_7, cr_160_8, cr_160_9], cz_chkR prog_10_method_32_code row = true from List.forall_mem_cons.mpr ⟨vR_160_0, List.forall_mem_cons.mpr ⟨vR_160_1, List.forall_mem_cons.mpr ⟨vR_160_2, List.forall_mem_cons.mpr ⟨vR_160_3, List.forall_mem_cons.mpr ⟨vR_160_4, List.forall_mem_cons.mpr ⟨vR_160_5, List.forall_mem_cons.mpr ⟨vR_160_6, List.forall_mem_cons.mpr ⟨vR_160_7, List.forall_mem_cons.mpr ⟨vR_160_8, List.forall_mem_cons.mpr ⟨vR_160_9, fun _ w => (by cases w)⟩⟩⟩⟩⟩⟩⟩⟩⟩⟩)
set_option maxRecDepth 100000 in
theorem vK_160 : cz_chkK cm_160 [[2000], [2001], [1238], [0, 3166, 3168, 11], [2002], [2003]] = true := by decide +kernel
theorem vO_160 : cz_okM cm_160 := cz_chkM_ok cz_allY_ok cz_allC2_ok cz_asl_ok cz_okI0_ok vD_160 vK_160
set_option maxRecDepth 100000 in
theorem vR_161_0 : cz_chkR prog_10_method_19_code cr_161_0 = true := rws_ok (p := 0) (by decide +kernel)
set_option maxRecDepth 100000 in
theorem vR_161_1 : cz_chkR prog_10_method_19_code cr_161_1 = true := rws_ok (p := 16) (by decide +kernel)
set_option maxRecDepth 100000 in
theorem vR_161_2 : cz_chkR prog_10_method_19_code cr_161_2 = true := rws_ok (p := 32) (by decide +kernel)
set_option maxRecDepth 100000 in
theorem vR_161_3 : cz_chkR prog_10_method_19_code cr_161_3 = true := rws_ok (p := 49) (by decide +kernel)
set_option maxRecDepth 100000 in
theorem vR_161_4 : cz_chkR prog_10_method_19_code cr_161_4 = true := rws_ok (p := 64) (by decide +kernel)
set_option maxRecDepth 100000 in
theorem vR_161_5 : cz_chkR prog_10_method_19_code cr_161_5 = true := rws_ok (p := 82) (by decide +kernel)
theorem vD_161 : cz_chkD cm_161 = true := cz_chkD_of (show ∀ row ∈ [cr_161_0, cr_161_1, cr_161_2, cr_161_3, cr_161_4, cr_161_5], cz_chkR prog_10_method_19_code row = true from List.forall_mem_cons.mpr ⟨vR_161_0, List.forall_mem_cons.mpr ⟨vR_161_1, List.forall_mem_cons.mpr ⟨vR_161_2, List.forall_mem_cons.mpr ⟨vR_161_3, List.forall_mem_cons.mpr ⟨vR_161_4, List.forall_mem_cons.mpr ⟨vR_161_5, fun _ w => (by cases w)⟩⟩⟩⟩⟩⟩)
set_option maxRecDepth 100000 in
theorem vK_161 : cz_chkK cm_161 [[0, 3148, 3150, 7], [0, 3202, 3204, 19], [0, 3206, 3208, 20], [], [0, 4031, 4033, 26]] = true := by decide +kernel
theorem vO_161 : cz_okM cm_161 := cz_chkM_ok cz_allY_ok cz_allC2_ok cz_asl_ok cz_okI0_ok vD_161 vK_161
set_option maxRecDepth 100000 in
theorem vR_162_0 : cz_chkR prog_10_method_15_code cr_162_0 = true := rws_ok (p := 0) (by decide +kernel)
set_option maxRecDepth 100000 in
theorem vR_162_1 : cz_chkR prog_10_method_15_code cr_162_1 = true := rws_ok (p := 16) (by decide +kernel)
set_option maxRecDepth 100000 in
theorem vR_162_2 : cz_chkR prog_10_method_15_code cr_162_2 = true := rws_ok (p := 32) (by decide +kernel)
set_option maxRecDepth 100000 in
theorem vR_162_3 : cz_chkR prog_10_method_15_code cr_162_3 = true := rws_ok (p := 49) (by decide +kernel)
set_option maxRecDepth 100000 in
theorem vR_162_4 : cz_chkR prog_10_method_15_code cr_162_4 = true := rws_ok (p := 64) (by decide +kernel)
set_option maxRecDepth 100000 in
theorem vR_162_5 : cz_chkR prog_10_method_15_code cr_162_5 = true := rws_ok (p := 80) (by decide +kernel)
set_option maxRecDepth 100000 in
theorem vR_162_6 : cz_chkR prog_10_method_15_code cr_162_6 = true := rws_ok (p := 98) (by decide +kernel)
theorem vD_162 : cz_chkD cm_162 = true := cz_chkD_of (show ∀ row ∈ [cr_162_0, cr_162_1, cr_162_2, cr_162_3, cr_162_4, cr_162_5, cr_162_6], cz_chkR prog_10_method_15_code row = true from List.forall_mem_cons.mpr ⟨vR_162_0, List.forall_mem_cons.mpr ⟨vR_162_1, List.forall_mem_cons.mpr ⟨vR_162_2, List.forall_mem_cons.mpr ⟨vR_162_3, List.forall_mem_cons.mpr ⟨vR_162_4, List.forall_mem_cons.mpr ⟨vR_162_5, List.forall_mem_cons.mpr ⟨vR_162_6, fun _ w => (by cases w)⟩⟩⟩⟩⟩⟩⟩)
set_option maxRecDepth 100000 in
theorem vK_162 : cz_chkK cm_162 [[2000], [2001], [1238], [0, 3187, 3189, 16], [0, 3191, 3193, 17], [1100], [0, 3198, 3200, 18], [1098]] = true := by decide +kernel
theorem vO_162 : cz_okM cm_162 := cz_chkM_ok cz_allY_ok cz_allC2_ok cz_asl_ok cz_okI0_ok vD_162 vK_162
set_option maxRecDepth 100000 in
theorem vR_163_0 : cz_chkR prog_10_method_28_code cr_163_0 = true := rws_ok (p := 0) (by decide +kernel)
set_option maxRecDepth 100000 in
theorem vR_163_1 : cz_chkR prog_10_method_28_code cr_163_1 = true := rws_ok (p := 17) (by decide +kernel)
set_option maxRecDepth 100000 in
theorem vR_163_2 : cz_chkR prog_10_method_28_code cr_163_2 = true := rws_ok (p := 34) (by decide +kernel)
set_option maxRecDepth 100000 in
theorem vR_163_3 : cz_chkR prog_10_method_28_code cr_163_3 = true := rws_ok (p := 48) (by decide +kernel)
set_option maxRecDepth 100000 in
theorem vR_163_4 : cz_chkR prog_10_method_28_code cr_163_4 = true := rws_ok (p := 65) (by decide +kernel)
set_option maxRecDepth 100000 in
theorem vR_163_5 : cz_chkR prog_10_method_28_code cr_163_5 = true := rws_ok (p := 80) (by decide +kernel)
set_option maxRecDepth 100000 in
theorem vR_163_6 : cz_chkR prog_10_method_28_code cr_163_6 = true := rws_ok (p := 96) (by decide +kernel)
set_option maxRecDepth 100000 in
theorem vR_163_7 : cz_chkR prog_10_method_28_code cr_163_7 = true := rws_ok (p := 112) (by decide +kernel)
set_option maxRecDepth 100000 in
theorem vR_163_8 : cz_chkR prog_10_method_28_code cr_163_8 = true := rws_ok (p := 128) (by decide +kernel)
set_option maxRecDepth 100000 in
theorem vR_163_9 : cz_chkR prog_10_method_28_code cr_163_9 = true := rws_ok (p := 146) (by decide +kernel)
set_option maxRecDepth 100000 in
theorem vR_163_10 : cz_chkR prog_10_method_28_code cr_163_10 = true := rws_ok (p := 161) (by decide +kernel)
set_option maxRecDepth 100000 in
theorem vR_163_11 : cz_chkR prog_10_method_28_code cr_163_11 = true := rws_ok (p := 177) (by decide +kernel)
set_option maxRecDepth 100000 in
theorem vR_163_12 : cz_chkR prog_10_method_28_code cr_163_12 = true := rws_ok (p := 192) (by decide +kernel)
theorem vD_163 : cz_chkD cm_163 = true := cz_chkD_of (show ∀ row ∈ [cr_163_0, cr_163_1, cr_163_2, cr_163_3, cr_163_4, cr_163_5, cr_163_6, cr_163_7, cr_163_8, cr_163_9, cr_163_10, cr_163_11, cr_163_12], cz_chkR prog_10_method_28_code row = true from List.forall_mem_cons.mpr ⟨vR_163_0, List.forall_mem_cons.mpr ⟨vR_163_1, List.forall_mem_cons.mpr ⟨vR_163_2, List.forall_mem_cons.mpr ⟨vR_163_3, List.forall_mem_cons.mpr ⟨vR_163_4, List.forall_mem_cons.mpr ⟨vR_163_5, List.forall_mem_cons.mpr ⟨vR_163_6, List.forall_mem_cons.mpr ⟨vR_163_7, List.forall_mem_cons.mpr ⟨vR_163_8, List.forall_mem_cons.mpr ⟨vR_163_9, List.forall_mem_cons.mpr ⟨vR_163_10, List.forall_mem_cons.mpr ⟨vR_163_11, List.forall_mem_cons.mpr ⟨vR_163_12, fun _ w => (by cases w)⟩⟩⟩⟩⟩⟩⟩⟩⟩⟩⟩⟩⟩)
set_option maxRecDepth 100000 in
theorem vK_163 : cz_chkK cm_163 [[1238], [4140], [0, 3170, 3172, 12]] = true := by decide +kernel
theorem vO_163 : cz_okM cm_163 := cz_chkM_ok cz_allY_ok cz_allC2_ok cz_asl_ok cz_okI0_ok vD_163 vK_163
set_option maxRecDepth 100000 in
theorem vR_164_0 : cz_chkR prog_10_method_26_code cr_164_0 = true := rws_ok (p := 0) (by decide +kernel)
set_option maxRecDepth 100000 in
theorem vR_164_1 : cz_chkR prog_10_method_26_code cr_164_1 = true := rws_ok (p := 18) (by decide +kernel)
set_option maxRecDepth 100000 in
theorem vR_164_2 : cz_chkR prog_10_method_26_code cr_164_2 = true := rws_ok (p := 33) (by decide +kernel)
set_option maxRecDepth 100000 in
theorem vR_164_3 : cz_chkR prog_10_method_26_code cr_164_3 = true := rws_ok (p := 48) (by decide +kernel)
set_option maxRecDepth 100000 in
theorem vR_164_4 : cz_chkR prog_10_method_26_code cr_164_4 = true := rws_ok (p := 66) (by decide +kernel)
theorem vD_164 : cz_chkD cm_164 = true := cz_chkD_of (show ∀ row ∈ [cr_164_0, cr_164_1, cr_164_2, cr_164_3, cr_164_4], cz_chkR prog_10_method_26_code row = true from List.forall_mem_cons.mpr ⟨vR_164_0, List.forall_mem_cons.mpr ⟨vR_164_1, List.forall_mem_cons.mpr ⟨vR_164_2, List.forall_mem_cons.mpr ⟨vR_164_3, List.forall_mem_cons.mpr ⟨vR_164_4, fun _ w => (by cases w)⟩⟩⟩⟩⟩)
set_option maxRecDepth 100000 in
theorem vK_164 : cz_chkK cm_164 [[0, 3148, 3150, 7], [0, 4132, 4134, 34], [0, 4136, 4138, 35]] = true := by decide +kernel
theorem vO_164 : cz_okM cm_164 := cz_chkM_ok cz_allY_ok cz_allC2_ok cz_asl_ok cz_okI0_ok vD_164 vK_164
set_option maxRecDepth 100000 in
theorem vR_165_0 : cz_chkR prog_10_method_29_code cr_165_0 = true := rws_ok (p := 0) (by decide +kernel)
set_option maxRecDepth 100000 in
theorem vR_165_1 : cz_chkR prog_10_method_29_code cr_165_1 = true := rws_ok (p := 17) (by decide +kernel)
set_option maxRecDepth 100000 in
theorem vR_165_2 : cz_chkR prog_10_method_29_code cr_165_2 = true := rws_ok (p := 34) (by decide +kernel)
set_option maxRecDepth 100000 in
theorem vR_165_3 : cz_chkR prog_10_method_29_code cr_165_3 = true := rws_ok (p := 48) (by decide +kernel)
set_option maxRecDepth 100000 in
theorem vR_165_4 : cz_chkR prog_10_method_29_code cr_165_4 = true := rws_ok (p := 65) (by decide +kernel)
set_option maxRecDepth 100000 in
theorem vR_165_5 : cz_chkR prog_10_method_29_code cr_165_5 = true := rws_ok (p := 80) (by decide +kernel)
theorem vD_165 : cz_chkD cm_165 = true := cz_chkD_of (show ∀ row ∈ [cr_165_0, cr_165_1, cr_165_2, cr_165_3, cr_165_4, cr_165_5], cz_chkR prog_10_method_29_code row = true from List.forall_mem_cons.mpr ⟨vR_165_0, List.forall_mem_cons.mpr ⟨vR_165_1, List.forall_mem_cons.mpr ⟨vR_165_2, List.forall_mem_cons.mpr ⟨vR_165_3, List.forall_mem_cons.mpr ⟨vR_165_4, List.forall_mem_cons.mpr ⟨vR_165_5, fun _ w => (by cases w)⟩⟩⟩⟩⟩⟩)
set_option maxRecDepth 100000 in
theorem vK_165 : cz_chkK cm_165 [[1238]] = true := by decide +kernel
theorem vO_165 : cz_okM cm_165 := cz_chkM_ok cz_allY_ok cz_allC2_ok cz_asl_ok cz_okI0_ok vD_165 vK_165
set_option maxRecDepth 100000 in
theorem vR_166_0 : cz_chkR prog_10_method_34_code cr_166_0 = true := rws_ok (p := 0) (by decide +kernel)
set_option maxRecDepth 100000 in
theorem vR_166_1 : cz_chkR prog_10_method_34_code cr_166_1 = true := rws_ok (p := 16) (by decide +kernel)
set_option maxRecDepth 100000 in
theorem vR_166_2 : cz_chkR prog_10_method_34_code cr_166_2 = true := rws_ok (p := 32) (by decide +kernel)
set_option maxRecDepth 100000 in
theorem vR_166_3 : cz_chkR prog_10_method_34_code cr_166_3 = true := rws_ok (p := 48) (by decide +kernel)
set_option maxRecDepth 100000 in
theorem vR_166_4 : cz_chkR prog_10_method_34_code cr_166_4 = true := rws_ok (p := 64) (by decide +kernel)
set_option maxRecDepth 100000 in
theorem vR_166_5 : cz_chkR prog_10_method_34_code cr_166_5 = true := rws_ok (p := 81) (by decide +kernel)
theorem vD_166 : cz_chkD cm_166 = true := cz_chkD_of (show ∀ row ∈ [cr_166_0, cr_166_1, cr_166_2, cr_166_3, cr_166_4, cr_166_5], cz_chkR prog_10_method_34_code row = true from List.forall_mem_cons.mpr ⟨vR_166_0, List.forall_mem_cons.mpr ⟨vR_166_1, List.forall_mem_cons.mpr ⟨vR_166_2, List.forall_mem_cons.mpr ⟨vR_166_3, List.forall_mem_cons.mpr ⟨vR_166_4, List.forall_mem_cons.mpr ⟨vR_166_5, fun _ w => (by cases w)⟩⟩⟩⟩⟩⟩)
set_option maxRecDepth 100000 in
theorem vK_166 : cz_chkK cm_166 [[0, 3148, 3150, 7], [0, 3166, 3168, 11], [0, 3202, 3204, 19], [0, 3206, 3208, 20]] = true := by decide +kernel
theorem vO_166 : cz_okM cm_166 := cz_chkM_ok cz_allY_ok cz_allC2_ok cz_asl_ok cz_okI0_ok vD_166 vK_166
set_option maxRecDepth 100000 in
theorem vR_167_0 : cz_chkR prog_10_method_33_code cr_167_0 = true := rws_ok (p := 0) (by decide +kernel)
set_option maxRecDepth 100000 in
theorem vR_167_1 : cz_chkR prog_10_method_33_code cr_167_1 = true := rws_ok (p := 16) (by decide +kernel)
set_option maxRecDepth 100000 in
theorem vR_167_2 : cz_chkR prog_10_method_33_code cr_167_2 = true := rws_ok (p := 32) (by decide +kernel)
theorem vD_167 : cz_chkD cm_167 = true := cz_chkD_of (show ∀ row ∈ [cr_167_0, cr_167_1, cr_167_2], cz_chkR prog_10_method_33_code row = true from List.forall_mem_cons.mpr ⟨vR_167_0, List.forall_mem_cons.mpr ⟨vR_167_1, List.forall_mem_cons.mpr ⟨vR_167_2, fun _ w => (by cases w)⟩⟩⟩)
set_option maxRecDepth 100000 in
theorem vK_167 : cz_chkK cm_167 [[2000], [2001], [0, 3187, 3189, 16], [0, 3198, 3200, 18]] = true := by decide +kernel
theorem vO_167 : cz_okM cm_167 := cz_chkM_ok cz_allY_ok cz_allC2_ok cz_asl_ok cz_okI0_ok vD_167 vK_167
set_option maxRecDepth 100000 in
theorem vR_168_0 : cz_chkR prog_10_method_24_code cr_168_0 = true := rws_ok (p := 0) (by decide +kernel)
set_option maxRecDepth 100000 in
theorem vR_168_1 : cz_chkR prog_10_method_24_code cr_168_1 = true := rws_ok (p := 16) (by decide +kernel)
set_option maxRecDepth 100000 in
theorem vR_168_2 : cz_chkR prog_10_method_24_code cr_168_2 = true := rws_ok (p := 34) (by decide +kernel)
set_option maxRecDepth 100000 in
theorem vR_168_3 : cz_chkR prog_10_method_24_code cr_168_3 = true := rws_ok (p := 48) (by decide +kernel)
theorem vD_168 : cz_chkD cm_168 = true := cz_chkD_of (show ∀ row ∈ [cr_168_0, cr_168_1, cr_168_2, cr_168_3], cz_chkR prog_10_method_24_code row = true from List.forall_mem_cons.mpr ⟨vR_168_0, List.forall_mem_cons.mpr ⟨vR_168_1, List.forall_mem_cons.mpr ⟨vR_168_2, List.forall_mem_cons.mpr ⟨vR_168_3, fun _ w => (by cases w)⟩⟩⟩⟩)
set_option maxRecDepth 100000 in
theorem vK_168 : cz_chkK cm_168 [[1238], [0, 4045, 4046, 4047]] = true := by decide +kernel
theorem vO_168 : cz_okM cm_168 := cz_chkM_ok cz_allY_ok cz_allC2_ok cz_asl_ok cz_okI0_ok vD_168 vK_168
set_option maxRecDepth 100000 in
theorem vR_169_0 : cz_chkR prog_10_method_9_code cr_169_0 = true := rws_ok (p := 0) (by decide +kernel)
set_option maxRecDepth 100000 in
theorem vR_169_1 : cz_chkR prog_10_method_9_code cr_169_1 = true := rws_ok (p := 18) (by decide +kernel)
theorem vD_169 : cz_chkD cm_169 = true := cz_chkD_of (show ∀ row ∈ [cr_169_0, cr_169_1], cz_chkR prog_10_method_9_code row = true from List.forall_mem_cons.mpr ⟨vR_169_0, List.forall_mem_cons.mpr ⟨vR_169_1, fun _ w => (by cases w)⟩⟩)
set_option maxRecDepth 100000 in
theorem vK_169 : cz_chkK cm_169 [[0, 3152, 3154, 8]] = true := by decide +kernel
theorem vO_169 : cz_okM cm_169 := cz_chkM_ok cz_allY_ok cz_allC2_ok cz_asl_ok cz_okI0_ok vD_169 vK_169
set_option maxRecDepth 100000 in
theorem vR_170_0 : cz_chkR prog_10_method_16_code cr_170_0 = true := rws_ok (p := 0) (by decide +kernel)
set_option maxRecDepth 100000 in
theorem vR_170_1 : cz_chkR prog_10_method_16_code cr_170_1 = true := rws_ok (p := 16) (by decide +kernel)
theorem vD_170 : cz_chkD cm_170 = true := cz_chkD_of (show ∀ row ∈ [cr_170_0, cr_170_1], cz_chkR prog_10_method_16_code row = true from List.forall_mem_cons.mpr ⟨vR_170_0, List.forall_mem_cons.mpr ⟨vR_170_1, fun _ w => (by cases w)⟩⟩)
set_option maxRecDepth 100000 in
theorem vK_170 : cz_chkK cm_170 [[1238], [3195, 3196]] = true := by decide +kernel
theorem vO_170 : cz_okM cm_170 := cz_chkM_ok cz_allY_ok cz_allC2_ok cz_asl_ok cz_okI0_ok vD_170 vK_170
set_option maxRecDepth 100000 in
theorem vR_171_0 : cz_chkR prog_10_method_10_code cr_171_0 = true := rws_ok (p := 0) (by decide +kernel)
set_option maxRecDepth 100000 in
theorem vR_171_1 : cz_chkR prog_10_method_10_code cr_171_1 = true := rws_ok (p := 18) (by decide +kernel)
theorem vD_171 : cz_chkD cm_171 = true := cz_chkD_of (show ∀ row ∈ [cr_171_0, cr_171_1], cz_chkR prog_10_method_10_code row = true from List.forall_mem_cons.mpr ⟨vR_171_0, List.forall_mem_cons.mpr ⟨vR_171_1, fun _ w => (by cases w)⟩⟩)
set_option maxRecDepth 100000 in
theorem vK_171 : cz_chkK cm_171 [[0, 3152, 3154, 8]] = true := by decide +kernel
theorem vO_171 : cz_okM cm_171 := cz_chkM_ok cz_allY_ok cz_allC2_ok cz_asl_ok cz_okI0_ok vD_171 vK_171
set_option maxRecDepth 100000 in
theorem vR_172_0 : cz_chkR prog_10_method_4_code cr_172_0 = true := rws_ok (p := 0) (by decide +kernel)
set_option maxRecDepth 100000 in
theorem vR_172_1 : cz_chkR prog_10_method_4_code cr_172_1 = true := rws_ok (p := 16) (by decide +kernel)
set_option maxRecDepth 100000 in
theorem vR_172_2 : cz_chkR prog_10_method_4_code cr_172_2 = true := rws_ok (p := 33) (by decide +kernel)
set_option maxRecDepth 100000 in
theorem vR_172_3 : cz_chkR prog_10_method_4_code cr_172_3 = true := rws_ok (p := 49) (by decide +kernel)
set_option maxRecDepth 100000 in
theorem vR_172_4 : cz_chkR prog_10_method_4_code cr_172_4 = true := rws_ok (p := 64) (by decide +kernel)
set_option maxRecDepth 100000 in
theorem vR_172_5 : cz_chkR prog_10_method_4_code cr_172_5 = true := rws_ok (p := 82) (by decide +kernel)
theorem vD_172 : cz_chkD cm_172 = true := cz_chkD_of (show ∀ row ∈ [cr_172_0, cr_172_1, cr_172_2, cr_172_3, cr_172_4, cr_172_5], cz_chkR prog_10_method_4_code row = true from List.forall_mem_cons.mpr ⟨vR_172_0, List.forall_mem_cons.mpr ⟨vR_172_1, List.forall_mem_cons.mpr ⟨vR_172_2, List.forall_mem_cons.mpr ⟨vR_172_3, List.forall_mem_cons.mpr ⟨vR_172_4, List.forall_mem_cons.mpr ⟨vR_172_5, fun _ w => (by cases w)⟩⟩⟩⟩⟩⟩)
set_option maxRecDepth 100000 in
theorem vK_172 : cz_chkK cm_172 [[1238], [0, 3136, 3138, 4], [0, 3140, 3142, 5], [0, 3144, 3146, 6]] = true := by decide +kernel
theorem vO_172 : cz_okM cm_172 := cz_chkM_ok cz_allY_ok cz_allC2_ok cz_asl_ok cz_okI0_ok vD_172 vK_172
set_option maxRecDepth 100000 in
theorem vR_173_0 : cz_chkR prog_10_method_22_code cr_173_0 = true := rws_ok (p := 0) (by decide +kernel)
set_option maxRecDepth 100000 in
theorem vR_173_1 : cz_chkR prog_10_method_22_code cr_173_1 = true := rws_ok (p := 16) (by decide +kernel)
set_option maxRecDepth 100000 in
theorem vR_173_2 : cz_chkR prog_10_method_22_code cr_173_2 = true := rws_ok (p := 34) (by decide +kernel)
theorem vD_173 : cz_chkD cm_173 = true := cz_chkD_of (show ∀ row ∈ [cr_173_0, cr_173_1, cr_173_2], cz_chkR prog_10_method_22_code row = true from List.forall_mem_cons.mpr ⟨vR_173_0, List.forall_mem_cons.mpr ⟨vR_173_1, List.forall_mem_cons.mpr ⟨vR_173_2, fun _ w => (by cases w)⟩⟩⟩)
set_option maxRecDepth 100000 in
theorem vK_173 : cz_chkK cm_173 [[0, 4035, 4036, 4037], [0, 4083, 4085, 27]] = true := by decide +kernel
theorem vO_173 : cz_okM cm_173 := cz_chkM_ok cz_allY_ok cz_allC2_ok cz_asl_ok cz_okI0_ok vD_173 vK_173
set_option maxRecDepth 100000 in
theorem vR_174_0 : cz_chkR prog_10_method_2_code cr_174_0 = true := rws_ok (p := 0) (by decide +kernel)
set_option maxRecDepth 100000 in
theorem vR_174_1 : cz_chkR prog_10_method_2_code cr_174_1 = true := rws_ok (p := 16) (by decide +kernel)
set_option maxRecDepth 100000 in
theorem vR_174_3 : cz_chkR prog_10_method_2_code cr_174_3 = true := rws_ok (p := 60) (by decide +kernel)
set_option maxRecDepth 100000 in
theorem vR_174_4 : cz_chkR prog_10_method_2_code cr_174_4 = true := rws_ok (p := 64) (by decide +kernel)
set_option maxRecDepth 100000 in
theorem vR_174_5 : cz_chkR prog_10_method_2_code cr_174_5 = true := rws_ok (p := 80) (by decide +kernel)
set_option maxRecDepth 100000 in
theorem vR_174_6 : cz_chkR prog_10_method_2_code cr_174_6 = true := rws_ok (p := 96) (by decide +kernel)
set_option maxRecDepth 100000 in
theorem vR_174_7 : cz_chkR prog_10_method_2_code cr_174_7 = true := rws_ok (p := 114) (by decide +kernel)
theorem vD_174 : cz_chkD cm_174 = true := cz_chkD_of (show ∀ row ∈ [cr_174_0, cr_174_1, [], cr_174_3, cr_174_4, cr_174_5, cr_174_6, cr_174_7], cz_chkR prog_10_method_2_code row = true from List.forall_mem_cons.mpr ⟨vR_174_0, List.forall_mem_cons.mpr ⟨vR_174_1, List.forall_mem_cons.mpr ⟨rfl, List.forall_mem_cons.mpr ⟨vR_174_3, List.forall_mem_cons.mpr ⟨vR_174_4, List.forall_mem_cons.mpr ⟨vR_174_5, List.forall_mem_cons.mpr ⟨vR_174_6, List.forall_mem_cons.mpr ⟨vR_174_7, fun _ w => (by cases w)⟩⟩⟩⟩⟩⟩⟩⟩)
set_option maxRecDepth 100000 in
theorem vK_174 : cz_chkK cm_174 [[1239], [1209], [3129, 3130], [0, 3132, 3134, 3], [0, 3156, 3158, 9], [0, 3231, 3233, 23], [0, 4095, 4097, 29], [0, 4103, 4105, 30], [0, 4124, 4126, 32]] = true := by decide +kernel
theorem vO_174 : cz_okM cm_174 := cz_chkM_ok cz_allY_ok cz_allC2_ok cz_asl_ok cz_okI0_ok vD_174 vK_174
set_option maxRecDepth 100000 in
theorem vR_175_0 : cz_chkR prog_10_method_25_code cr_175_0 = true := rws_ok (p := 0) (by decide +kernel)
set_option maxRecDepth 100000 in
theorem vR_175_1 : cz_chkR prog_10_method_25_code cr_175_1 = true := rws_ok (p := 17) (by decide +kernel)
set_option maxRecDepth 100000 in
theorem vR_175_2 : cz_chkR prog_10_method_25_code cr_175_2 = true := rws_ok (p := 34) (by decide +kernel)
set_option maxRecDepth 100000 in
theorem vR_175_3 : cz_chkR prog_10_method_25_code cr_175_3 = true := rws_ok (p := 48) (by decide +kernel)
set_option maxRecDepth 100000 in
theorem vR_175_4 : cz_chkR prog_10_method_25_code cr_175_4 = true := rws_ok (p := 64) (by decide +kernel)
set_option maxRecDepth 100000 in
theorem vR_175_5 : cz_chkR prog_10_method_25_code cr_175_5 = true := rws_ok (p := 81) (by decide +kernel)
set_option maxRecDepth 100000 in
theorem vR_175_6 : cz_chkR prog_10_method_25_code cr_175_6 = true := rws_ok (p := 96) (by decide +kernel)
theorem vD_175 : cz_chkD cm_175 = true := cz_chkD_of (show ∀ row ∈ [cr_175_0, cr_175_1, cr_175_2, cr_175_3, cr_175_4, cr_175_5, cr_175_6], cz_chkR prog_10_method_25_code row = true from List.forall_mem_cons.mpr ⟨vR_175_0, List.forall_mem_cons.mpr ⟨vR_175_1, List.forall_mem_cons.mpr ⟨vR_175_2, List.forall_mem_cons.mpr ⟨vR_175_3, List.forall_mem_cons.mpr ⟨vR_175_4, List.forall_mem_cons.mpr ⟨vR_175_5, List.forall_mem_cons.mpr ⟨vR_175_6, fun _ w => (by cases w)⟩⟩⟩⟩⟩⟩⟩)
set_option maxRecDepth 100000 in
theorem vK_175 : cz_chkK cm_175 [[2000], [2001], [1239], [0, 3198, 3200, 18], [0, 4128, 4130, 33], [4141, 4142], [4144], [4146, 4147, 4148], [4152], [4154], [0, 4160, 4161, 4162]] = true := by decide +kernel
theorem vO_175 : cz_okM cm_175 := cz_chkM_ok cz_allY_ok cz_allC2_ok cz_asl_ok cz_okI0_ok vD_175 vK_175
set_option maxRecDepth 100000 in
theorem vR_176_0 : cz_chkR prog_10_method_12_code cr_176_0 = true := rws_ok (p := 0) (by decide +kernel)
set_option maxRecDepth 100000 in
theorem vR_176_1 : cz_chkR prog_10_method_12_code cr_176_1 = true := rws_ok (p := 16) (by decide +kernel)
set_option maxRecDepth 100000 in
theorem vR_176_2 : cz_chkR prog_10_method_12_code cr_176_2 = true := rws_ok (p := 32) (by decide +kernel)
set_option maxRecDepth 100000 in
theorem vR_176_3 : cz_chkR prog_10_method_12_code cr_176_3 = true := rws_ok (p := 49) (by decide +kernel)
set_option maxRecDepth 100000 in
theorem vR_176_4 : cz_chkR prog_10_method_12_code cr_176_4 = true := rws_ok (p := 66) (by decide +kernel)
set_option maxRecDepth 100000 in
theorem vR_176_5 : cz_chkR prog_10_method_12_code cr_176_5 = true := rws_ok (p := 80) (by decide +kernel)
set_option maxRecDepth 100000 in
theorem vR_176_6 : cz_chkR prog_10_method_12_code cr_176_6 = true := rws_ok (p := 96) (by decide +kernel)
set_option maxRecDepth 100000 in
theorem vR_176_7 : cz_chkR prog_10_method_12_code cr_176_7 = true := rws_ok (p := 114) (by decide +kernel)
set_option maxRecDepth 100000 in
theorem vR_176_8 : cz_chkR prog_10_method_12_code cr_176_8 = true := rws_ok (p := 130) (by decide +kernel)
set_option maxRecDepth 100000 in
theorem vR_176_9 : cz_chkR prog_10_method_12_code cr_176_9 = true := rws_ok (p := 146) (by decide +kernel)
set_option maxRecDepth 100000 in
theorem vR_176_10 : cz_chkR prog_10_method_12_code cr_176_10 = true := rws_ok (p := 162) (by decide +kernel)
set_option maxRecDepth 100000 in
theorem vR_176_11 : cz_chkR prog_10_method_12_code cr_176_11 = true := rws_ok (p := 176) (by decide +kernel)
set_option maxRecDepth 100000 in
theorem vR_176_12 : cz_chkR prog_10_method_12_code cr_176_12 = true := rws_ok (p := 192) (by decide +kernel)
set_option maxRecDepth 100000 in
theorem vR_176_13 : cz_chkR prog_10_method_12_code cr_176_13 = true := rws_ok (p := 208) (by decide +kernel)
theorem vD_176 : cz_chkD cm_176 = true := cz_chkD_of (show ∀ row ∈ [cr_176_0, cr_176_1, cr_176_2, cr_176_3, cr_176_4, cr_176_5, cr_176_6, cr_176_7, cr_176_8, cr_176_9, cr_176_10, cr_176_11, cr_176_12, cr_176_13], cz_chkR prog_10_method_12_code row = true from List.forall_mem_cons.mpr ⟨vR_176_0, List.forall_mem_cons.mpr ⟨vR_176_1, List.forall_mem_cons.mpr ⟨vR_176_2, List.forall_mem_cons.mpr ⟨vR_176_3, List.forall_mem_cons.mpr ⟨vR_176_4, List.forall_mem_cons.mpr ⟨vR_176_5, List.forall_mem_cons.mpr ⟨vR_176_6, List.forall_mem_cons.mpr ⟨vR_176_7, List.forall_mem_cons.mpr ⟨vR_176_8, List.forall_mem_cons.mpr ⟨vR_176_9, List.forall_mem_cons.mpr ⟨vR_176_10, List.forall_mem_cons.mpr ⟨vR_176_11, List.forall_mem_cons.mpr ⟨vR_176_12, List.forall_mem_cons.mpr ⟨vR_176_13, fun _ w => (by cases w)⟩⟩⟩⟩⟩⟩⟩⟩⟩⟩⟩⟩⟩⟩)
set_option maxRecDepth 100000 in
theorem vK_176 : cz_chkK cm_176 [[2000], [2001], [1239], [3160], [3161, 1083, 1084], [0, 3162, 3164, 10], [0, 3175, 3177, 13], [0, 3179, 3181, 14], [0, 3183, 3185, 15], [0, 3210, 3212, 21], [0, 3166, 3168, 11], [1103], [1106], [1109], [2002], [2003], [0, 3187, 3189, 16], [1087], [0, 3214, 3215, 3216]] = true := by decide +kernel
theorem vO_176 : cz_okM cm_176 := cz_chkM_ok cz_allY_ok cz_allC2_ok cz_asl_ok cz_okI0_ok vD_176 vK_176
set_option maxRecDepth 100000 in
theorem vR_177_0 : cz_chkR prog_10_method_20_code cr_177_0 = true := rws_ok (p := 0) (by decide +kernel)
set_option maxRecDepth 100000 in
theorem vR_177_1 : cz_chkR prog_10_method_20_code cr_177_1 = true := rws_ok (p := 16) (by decide +kernel)
set_option maxRecDepth 100000 in
theorem vR_177_2 : cz_chkR prog_10_method_20_code cr_177_2 = true := rws_ok (p := 32) (by decide +kernel)
set_option maxRecDepth 100000 in
theorem vR_177_3 : cz_chkR prog_10_method_20_code cr_177_3 = true := rws_ok (p := 49) (by decide +kernel)
set_option maxRecDepth 100000 in
theorem vR_177_4 : cz_chkR prog_10_method_20_code cr_177_4 = true := rws_ok (p := 64) (by decide +kernel)
set_option maxRecDepth 100000 in
theorem vR_177_5 : cz_chkR prog_10_method_20_code cr_177_5 = true := rws_ok (p := 82) (by decide +kernel)
set_option maxRecDepth 100000 in
theorem vR_177_6 : cz_chkR prog_10_method_20_code cr_177_6 = true := rws_ok (p := 97) (by decide +kernel)
set_option maxRecDepth 100000 in
theorem vR_177_7 : cz_chkR prog_10_method_20_code cr_177_7 = true := rws_ok (p := 112) (by decide +kernel)
theorem vD_177 : cz_chkD cm_177 = true := cz_chkD_of (show ∀ row ∈ [cr_177_0, cr_177_1, cr_177_2, cr_177_3, cr_177_4, cr_177_5, cr_177_6, cr_177_7], cz_chkR prog_10_method_20_code row = true from List.forall_mem_cons.mpr ⟨vR_177_0, List.forall_mem_cons.mpr ⟨vR_177_1, List.forall_mem_cons.mpr ⟨vR_177_2, List.forall_mem_cons.mpr ⟨vR_177_3, List.forall_mem_cons.mpr ⟨vR_177_4, List.forall_mem_cons.mpr ⟨vR_177_5, List.forall_mem_cons.mpr ⟨vR_177_6, List.forall_mem_cons.mpr ⟨vR_177_7, fun _ w => (by cases w)⟩⟩⟩⟩⟩⟩⟩⟩)
set_option maxRecDepth 100000 in
theorem vK_177 : cz_chkK cm_177 [[2000], [2001], [1238], [1239], [0, 3166, 3168, 11], [0, 3198, 3200, 18], [0, 4099, 4100, 4101]] = true := by decide +kernel
theorem vO_177 : cz_okM cm_177 := cz_chkM_ok cz_allY_ok cz_allC2_ok cz_asl_ok cz_okI0_ok vD_177 vK_177
set_option maxRecDepth 100000 in
theorem vR_178_0 : cz_chkR prog_10_method_21_code cr_178_0 = true := rws_ok (p := 0) (by decide +kernel)
set_option maxRecDepth 100000 in
theorem vR_178_1 : cz_chkR prog_10_method_21_code cr_178_1 = true := rws_ok (p := 18) (by decide +kernel)
set_option maxRecDepth 100000 in
theorem vR_178_2 : cz_chkR prog_10_method_21_code cr_178_2 = true := rws_ok (p := 33) (by decide +kernel)
set_option maxRecDepth 100000 in
theorem vR_178_3 : cz_chkR prog_10_method_21_code cr_178_3 = true := rws_ok (p := 48) (by decide +kernel)
set_option maxRecDepth 100000 in
theorem vR_178_4 : cz_chkR prog_10_method_21_code cr_178_4 = true := rws_ok (p := 64) (by decide +kernel)
set_option maxRecDepth 100000 in
theorem vR_178_5 : cz_chkR prog_10_method_21_code cr_178_5 = true := rws_ok (p := 80) (by decide +kernel)
set_option maxRecDepth 100000 in
theorem vR_178_6 : cz_chkR prog_10_method_21_code cr_178_6 = true := rws_ok (p := 98) (by decide +kernel)
set_option maxRecDepth 100000 in
theorem vR_178_7 : cz_chkR prog_10_method_21_code cr_178_7 = true := rws_ok (p := 112) (by decide +kernel)
set_option maxRecDepth 100000 in
theorem vR_178_8 : cz_chkR prog_10_method_21_code cr_178_8 = true := rws_ok (p := 128) (by decide +kernel)
set_option maxRecDepth 100000 in
theorem vR_178_9 : cz_chkR prog_10_method_21_code cr_178_9 = true := rws_ok (p := 145) (by decide +kernel)
theorem vD_178 : cz_chkD cm_178 = true := cz_chkD_of (show ∀ row ∈ [cr_178_0, cr_178_1, cr_178_2, cr_178_3, cr_178_4, cr_178_5, cr_178_6, cr_178_7, cr_178_8, cr_178_9], cz_chkR prog_10_method_21_code row = true from List.forall_mem_cons.mpr ⟨vR_178_0, List.forall_mem_cons.mpr ⟨vR_178_1, List.forall_mem_cons.mpr ⟨vR_178_2, List.forall_mem_cons.mpr ⟨vR_178_3, List.forall_mem_cons.mpr ⟨vR_178_4, List.forall_mem_cons.mpr ⟨vR_178_5, List.forall_mem_cons.mpr ⟨vR_178_6, List.forall_mem_cons.mpr ⟨vR_178_7, List.forall_mem_cons.mpr ⟨vR_178_8, List.forall_mem_cons.mpr ⟨vR_178_9, fun _ w => (by cases w)⟩⟩⟩⟩⟩⟩⟩⟩⟩⟩)
set_option maxRecDepth 100000 in
theorem vK_178 : cz_chkK cm_178 [[2000], [2001], [1239], [0, 3162, 3164, 10], [2002], [2003], [0, 4031, 4033, 26], [], [], [0, 4109, 4111, 31], [], [], [], [0, 4116, 4117, 4118]] = true := by decide +kernel
theorem vO_178 : cz_okM cm_178 := cz_chkM_ok cz_allY_ok cz_allC2_ok cz_asl_ok cz_okI0_ok vD_178 vK_178
set_option maxRecDepth 100000 in
theorem vR_179_0 : cz_chkR prog_10_method_18_code cr_179_0 = true := rws_ok (p := 0) (by decide +kernel)
set_option maxRecDepth 100000 in
theorem vR_179_1 : cz_chkR prog_10_method_18_code cr_179_1 = true := rws_ok (p := 17) (by decide +kernel)
set_option maxRecDepth 100000 in
theorem vR_179_2 : cz_chkR prog_10_method_18_code cr_179_2 = true := rws_ok (p := 32) (by decide +kernel)
set_option maxRecDepth 100000 in
theorem vR_179_3 : cz_chkR prog_10_method_18_code cr_179_3 = true := rws_ok (p := 48) (by decide +kernel)
set_option maxRecDepth 100000 in
theorem vR_179_4 : cz_chkR prog_10_method_18_code cr_179_4 = true := rws_ok (p := 66) (by decide +kernel)
set_option maxRecDepth 100000 in
theorem vR_179_5 : cz_chkR prog_10_method_18_code cr_179_5 = true := rws_ok (p := 81) (by decide +kernel)
set_option maxRecDepth 100000 in
theorem vR_179_6 : cz_chkR prog_10_method_18_code cr_179_6 = true := rws_ok (p := 98) (by decide +kernel)
set_option maxRecDepth 100000 in
theorem vR_179_7 : cz_chkR prog_10_method_18_code cr_179_7 = true := rws_ok (p := 114) (by decide +kernel)
theorem vD_179 : cz_chkD cm_179 = true := cz_chkD_of (show ∀ row ∈ [cr_179_0, cr_179_1, cr_179_2, cr_179_3, cr_179_4, cr_179_5, cr_179_6, cr_179_7], cz_chkR prog_10_method_18_code row = true from List.forall_mem_cons.mpr ⟨vR_179_0, List.forall_mem_cons.mpr ⟨vR_179_1, List.forall_mem_cons.mpr ⟨vR_179_2, List.forall_mem_cons.mpr ⟨vR_179_3, List.forall_mem_cons.mpr ⟨vR_179_4, List.forall_mem_cons.mpr ⟨vR_179_5, List.forall_mem_cons.mpr ⟨vR_179_6, List.forall_mem_cons.mpr ⟨vR_179_7, fun _ w => (by cases w)⟩⟩⟩⟩⟩⟩⟩⟩)
set_option maxRecDepth 100000 in
theorem vK_179 : cz_chkK cm_179 [[2000], [2001], [1239], [0, 3166, 3168, 11], [3235], [3237, 3238, 3239], [0, 4022, 4024, 24], [4004], [4006], [4008], [0, 4026, 4028, 25], [4002], [0, 4087, 4088, 4089]] = true := by decide +kernel
theorem vO_179 : cz_okM cm_179 := cz_chkM_ok cz_allY_ok cz_allC2_ok cz_asl_ok cz_okI0_ok vD_179 vK_179
set_option maxRecDepth 100000 in
theorem vR_180_0 : cz_chkR prog_10_method_7_code cr_180_0 = true := rws_ok (p := 0) (by decide +kernel)
set_option maxRecDepth 100000 in
theorem vR_180_1 : cz_chkR prog_10_method_7_code cr_180_1 = true := rws_ok (p := 18) (by decide +kernel)
set_option maxRecDepth 100000 in
theorem vR_180_2 : cz_chkR prog_10_method_7_code cr_180_2 = true := rws_ok (p := 32) (by decide +kernel)
set_option maxRecDepth 100000 in
theorem vR_180_3 : cz_chkR prog_10_method_7_code cr_180_3 = true := rws_ok (p := 48) (by decide +kernel)
theorem vD_180 : cz_chkD cm_180 = true := cz_chkD_of (show ∀ row ∈ [cr_180_0, cr_180_1, cr_180_2, cr_180_3], cz_chkR prog_10_method_7_code row = true from List.forall_mem_cons.mpr ⟨vR_180_0, List.forall_mem_cons.mpr ⟨vR_180_1, List.forall_mem_cons.mpr ⟨vR_180_2, List.forall_mem_cons.mpr ⟨vR_180_3, fun _ w => (by cases w)⟩⟩⟩⟩)
set_option maxRecDepth 100000 in
theorem vK_180 : cz_chkK cm_180 [[2000], [2001], [0, 3148, 3150, 7], [0, 3152, 3154, 8]] = true := by decide +kernel
theorem vO_180 : cz_okM cm_180 := cz_chkM_ok cz_allY_ok cz_allC2_ok cz_asl_ok cz_okI0_ok vD_180 vK_180
set_option maxRecDepth 100000 in
theorem vR_181_0 : cz_chkR prog_11_method_1_code cr_181_0 = true := rws_ok (p := 0) (by decide +kernel)
theorem vD_181 : cz_chkD cm_181 = true := cz_chkD_of (show ∀ row ∈ [cr_181_0], cz_chkR prog_11_method_1_code row = true from List.forall_mem_cons.mpr ⟨vR_181_0, fun _ w => (by cases w)⟩)
set_option maxRecDepth 100000 in
theorem vK_181 : cz_chkK cm_181 [[1147, 1041, 1042]] = true := by decide +kernel
theorem vO_181 : cz_okM cm_181 := cz_chkM_ok cz_allY_ok cz_allC2_ok cz_asl_ok cz_okI0_ok vD_181 vK_181
set_option maxRecDepth 100000 in
theorem vR_182_0 : cz_chkR prog_11_method_3_code cr_182_0 = true := rws_ok (p := 0) (by decide +kernel)
set_option maxRecDepth 100000 in
theorem vR_182_1 : cz_chkR prog_11_method_3_code cr_182_1 = true := rws_ok (p := 16) (by decide +kernel)
set_option maxRecDepth 100000 in
theorem vR_182_2 : cz_chkR prog_11_method_3_code cr_182_2 = true := rws_ok (p := 32) (by decide +kernel)
theorem vD_182 : cz_chkD cm_182 = true := cz_chkD_of (show ∀ row ∈ [cr_182_0, cr_182_1, cr_182_2], cz_chkR prog_11_method_3_code row = true from List.forall_mem_cons.mpr ⟨vR_182_0, List.forall_mem_cons.mpr ⟨vR_182_1, List.forall_mem_cons.mpr ⟨vR_182_2, fun _ w => (by cases w)⟩⟩⟩)
set_option maxRecDepth 100000 in
theorem vK_182 : cz_chkK cm_182 [[1150], [1155], [1158], [1161], [1164], [1167], [1170], [1173], [1148]] = true := by decide +kernel
theorem vO_182 : cz_okM cm_182 := cz_chkM_ok cz_allY_ok cz_allC2_ok cz_asl_ok cz_okI0_ok vD_182 vK_182
set_option maxRecDepth 100000 in
theorem vR_183_0 : cz_chkR prog_11_method_2_code cr_183_0 = true := rws_ok (p := 0) (by decide +kernel)
set_option maxRecDepth 100000 in
theorem vR_183_1 : cz_chkR prog_11_method_2_code cr_183_1 = true := rws_ok (p := 16) (by decide +kernel)
set_option maxRecDepth 100000 in
theorem vR_183_2 : cz_chkR prog_11_method_2_code cr_183_2 = true := rws_ok (p := 32) (by decide +kernel)
set_option maxRecDepth 100000 in
theorem vR_183_3 : cz_chkR prog_11_method_2_code cr_183_3 = true := rws_ok (p := 48) (by decide +kernel)
set_option maxRecDepth 100000 in
theorem vR_183_4 : cz_chkR prog_11_method_2_code cr_183_4 = true := rws_ok (p := 64) (by decide +kernel)
theorem vD_183 : cz_chkD cm_183 = true := cz_chkD_of (show ∀ row ∈ [cr_183_0, cr_183_1, cr_183_2, cr_183_3, cr_183_4], cz_chkR prog_11_method_2_code row = true from List.forall_mem_cons.mpr ⟨vR_183_0, List.forall_mem_cons.mpr ⟨vR_183_1, List.forall_mem_cons.mpr ⟨vR_183_2, List.forall_mem_cons.mpr ⟨vR_183_3, List.forall_mem_cons.mpr ⟨vR_183_4, fun _ w => (by cases w)⟩⟩⟩⟩⟩)
set_option maxRecDepth 100000 in
theorem vK_183 : cz_chkK cm_183 [[1150], [1155], [1158], [1161], [1164], [1167], [1170], [1173]] = true := by decide +kernel
theorem vO_183 : cz_okM cm_183 := cz_chkM_ok cz_allY_ok cz_allC2_ok cz_asl_ok cz_okI0_ok vD_183 vK_183
set_option maxRecDepth 100000 in
theorem vR_184_0 : cz_chkR prog_11_method_5_code cr_184_0 = true := rws_ok (p := 0) (by decide +kernel)
theorem vD_184 : cz_chkD cm_184 = true := cz_chkD_of (show ∀ row ∈ [cr_184_0], cz_chkR prog_11_method_5_code row = true from List.forall_mem_cons.mpr ⟨vR_184_0, fun _ w => (by cases w)⟩)
set_option maxRecDepth 100000 in
theorem vK_184 : cz_chkK cm_184 [[1155]] = true := by decide +kernel
theorem vO_184 : cz_okM cm_184 := cz_chkM_ok cz_allY_ok cz_allC2_ok cz_asl_ok cz_okI0_ok vD_184 vK_184
set_option maxRecDepth 100000 in
theorem vR_185_0 : cz_chkR prog_11_method_4_code cr_185_0 = true := rws_ok (p := 0) (by decide +kernel)
set_option maxRecDepth 100000 in
theorem vR_185_1 : cz_chkR prog_11_method_4_code cr_185_1 = true := rws_ok (p := 17) (by decide +kernel)
set_option maxRecDepth 100000 in
theorem vR_185_2 : cz_chkR prog_11_method_4_code cr_185_2 = true := rws_ok (p := 32) (by decide +kernel)
theorem vD_185 : cz_chkD cm_185 = true := cz_chkD_of (show ∀ row ∈ [cr_185_0, cr_185_1, cr_185_2], cz_chkR prog_11_method_4_code row = true from List.forall_mem_cons.mpr ⟨vR_185_0, List.forall_mem_cons.mpr ⟨vR_185_1, List.forall_mem_cons.mpr ⟨vR_185_2, fun _ w => (by cases w)⟩⟩⟩)
set_option maxRecDepth 100000 in
theorem vK_185 : cz_chkK cm_185 [[1155], [1158], [1161]] = true := by decide +kernel
theorem vO_185 : cz_okM cm_185 := cz_chkM_ok cz_allY_ok cz_allC2_ok cz_asl_ok cz_okI0_ok vD_185 vK_185
set_option maxRecDepth 100000 in
theorem vR_186_0 : cz_chkR prog_12_method_1_code cr_186_0 = true := rws_ok (p := 0) (by decide +kernel)
theorem vD_186 : cz_chkD cm_186 = true := cz_chkD_of (show ∀ row ∈ [cr_186_0], cz_chkR prog_12_method_1_code row = true from List.forall_mem_cons.mpr ⟨vR_186_0, fun _ w => (by cases w)⟩)
set_option maxRecDepth 100000 in
theorem vK_186 : cz_chkK cm_186 [[4000, 1041, 1042]] = true := by decide +kernel
theorem vO_186 : cz_okM cm_186 := cz_chkM_ok cz_allY_ok cz_allC2_ok cz_asl_ok cz_okI0_ok vD_186 vK_186
set_option maxRecDepth 100000 in
theorem vR_187_0 : cz_chkR prog_12_method_2_code cr_187_0 = true := rws_ok (p := 0) (by decide +kernel)
set_option maxRecDepth 100000 in
theorem vR_187_1 : cz_chkR prog_12_method_2_code cr_187_1 = true := rws_ok (p := 18) (by decide +kernel)
theorem vD_187 : cz_chkD cm_187 = true := cz_chkD_of (show ∀ row ∈ [cr_187_0, cr_187_1], cz_chkR prog_12_method_2_code row = true from List.forall_mem_cons.mpr ⟨vR_187_0, List.forall_mem_cons.mpr ⟨vR_187_1, fun _ w => (by cases w)⟩⟩)
set_option maxRecDepth 100000 in
theorem vK_187 : cz_chkK cm_187 [[4003], [4007], [4005]] = true := by decide +kernel
theorem vO_187 : cz_okM cm_187 := cz_chkM_ok cz_allY_ok cz_allC2_ok cz_asl_ok cz_okI0_ok vD_187 vK_187
set_option maxRecDepth 100000 in
theorem vR_188_0 : cz_chkR prog_13_method_1_code cr_188_0 = true := rws_ok (p := 0) (by decide +kernel)
theorem vD_188 : cz_chkD cm_188 = true := cz_chkD_of (show ∀ row ∈ [cr_188_0], cz_chkR prog_13_method_1_code row = true from List.forall_mem_cons.mpr ⟨vR_188_0, fun _ w => (by cases w)⟩)
set_option maxRecDepth 100000 in
theorem vK_188 : cz_chkK cm_188 [[1050, 1041, 1042], [1051]] = true := by decide +kernel
theorem vO_188 : cz_okM cm_188 := cz_chkM_ok cz_allY_ok cz_allC2_ok cz_asl_ok cz_okI0_ok vD_188 vK_188
set_option maxRecDepth 100000 in
theorem vR_189_0 : cz_chkR prog_13_method_2_code cr_189_0 = true := rws_ok (p := 0) (by decide +kernel)
set_option maxRecDepth 100000 in
theorem vR_189_1 : cz_chkR prog_13_method_2_code cr_189_1 = true := rws_ok (p := 16) (by decide +kernel)
set_option maxRecDepth 100000 in
theorem vR_189_2 : cz_chkR prog_13_method_2_code cr_189_2 = true := rws_ok (p := 32) (by decide +kernel)
theorem vD_189 : cz_chkD cm_189 = true := cz_chkD_of (show ∀ row ∈ [cr_189_0, cr_189_1, cr_189_2], cz_chkR prog_13_method_2_code row = true from List.forall_mem_cons.mpr ⟨vR_189_0, List.forall_mem_cons.mpr ⟨vR_189_1, List.forall_mem_cons.mpr ⟨vR_189_2, fun _ w => (by cases w)⟩⟩⟩)
set_option maxRecDepth 100000 in
theorem vK_189 : cz_chkK cm_189 [[1051], [1057]] = true := by decide +kernel
theorem vO_189 : cz_okM cm_189 := cz_chkM_ok cz_allY_ok cz_allC2_ok cz_asl_ok cz_okI0_ok vD_189 vK_189
set_option maxRecDepth 100000 in
theorem vR_190_0 : cz_chkR prog_13_method_3_code cr_190_0 = true := rws_ok (p := 0) (by decide +kernel)
set_option maxRecDepth 100000 in
theorem vR_190_1 : cz_chkR prog_13_method_3_code cr_190_1 = true := rws_ok (p := 17) (by decide +kernel)
set_option maxRecDepth 100000 in
theorem vR_190_2 : cz_chkR prog_13_method_3_code cr_190_2 = true := rws_ok (p := 33) (by decide +kernel)
set_option maxRecDepth 100000 in
theorem vR_190_3 : cz_chkR prog_13_method_3_code cr_190_3 = true := rws_ok (p := 48) (by decide +kernel)
theorem vD_190 : cz_chkD cm_190 = true := cz_chkD_of (show ∀ row ∈ [cr_190_0, cr_190_1, cr_190_2, cr_190_3], cz_chkR prog_13_method_3_code row = true from List.forall_mem_cons.mpr ⟨vR_190_0, List.forall_mem_cons.mpr ⟨vR_190_1, List.forall_mem_cons.mpr ⟨vR_190_2, List.forall_mem_cons.mpr ⟨vR_190_3, fun _ w => (by cases w)⟩⟩⟩⟩)
set_option maxRecDepth 100000 in
theorem vK_190 : cz_chkK cm_190 [[1051], [1057]] = true := by decide +kernel
theorem vO_190 : cz_okM cm_190 := cz_chkM_ok cz_allY_ok cz_allC2_ok cz_asl_ok cz_okI0_ok vD_190 vK_190
set_option maxRecDepth 100000 in
theorem vR_191_0 : cz_chkR prog_13_method_5_code cr_191_0 = true := rws_ok (p := 0) (by decide +kernel)
set_option maxRecDepth 100000 in
theorem vR_191_1 : cz_chkR prog_13_method_5_code cr_191_1 = true := rws_ok (p := 16) (by decide +kernel)
set_option maxRecDepth 100000 in
theorem vR_191_2 : cz_chkR prog_13_method_5_code cr_191_2 = true := rws_ok (p := 33) (by decide +kernel)
theorem vD_191 : cz_chkD cm_191 = true := cz_chkD_of (show ∀ row ∈ [cr_191_0, cr_191_1, cr_191_2], cz_chkR prog_13_method_5_code row = true from List.forall_mem_cons.mpr ⟨vR_191_0, List.forall_mem_cons.mpr ⟨vR_191_1, List.forall_mem_cons.mpr ⟨vR_191_2, fun _ w => (by cases w)⟩⟩⟩)
set_option maxRecDepth 100000 in
theorem vK_191 : cz_chkK cm_191 [[1051], [1057]] = true := by decide +kernel
theorem vO_191 : cz_okM cm_191 := cz_chkM_ok cz_allY_ok cz_allC2_ok cz_asl_ok cz_okI0_ok vD_191 vK_191
set_option maxRecDepth 100000 in
theorem vR_192_0 : cz_chkR prog_13_method_4_code cr_192_0 = true := rws_ok (p := 0) (by decide +kernel)
set_option maxRecDepth 100000 in
theorem vR_192_1 : cz_chkR prog_13_method_4_code cr_192_1 = true := rws_ok (p := 16) (by decide +kernel)
theorem vD_192 : cz_chkD cm_192 = true := cz_chkD_of (show ∀ row ∈ [cr_192_0, cr_192_1], cz_chkR prog_13_method_4_code row = true from List.forall_mem_cons.mpr ⟨vR_192_0, List.forall_mem_cons.mpr ⟨vR_192_1, fun _ w => (by cases w)⟩⟩)
set_option maxRecDepth 100000 in
theorem vK_192 : cz_chkK cm_192 [[1051], [1057], [5103, 5105, 5104, 1032]] = true := by decide +kernel
theorem vO_192 : cz_okM cm_192 := cz_chkM_ok cz_allY_ok cz_allC2_ok cz_asl_ok cz_okI0_ok vD_192 vK_192
set_option maxRecDepth 100000 in
theorem vR_193_0 : cz_chkR method_21_code cr_193_0 = true := rws_ok (p := 0) (by decide +kernel)
set_option maxRecDepth 100000 in
theorem vR_193_1 : cz_chkR method_21_code cr_193_1 = true := rws_ok (p := 16) (by decide +kernel)
theorem vD_193 : cz_chkD cm_193 = true := cz_chkD_of (show ∀ row ∈ [cr_193_0, cr_193_1], cz_chkR method_21_code row = true from List.forall_mem_cons.mpr ⟨vR_193_0, List.forall_mem_cons.mpr ⟨vR_193_1, fun _ w => (by cases w)⟩⟩)
set_option maxRecDepth 100000 in
theorem vK_193 : cz_chkK cm_193 [[3074], [3100], [0, 7011, 7012, 7013]] = true := by decide +kernel
theorem vO_193 : cz_okM cm_193 := cz_chkM_ok cz_allY_ok cz_allC2_ok cz_asl_ok cz_okI0_ok vD_193 vK_193
set_option maxRecDepth 100000 in
theorem vR_194_0 : cz_chkR method_8_code cr_194_0 = true := rws_ok (p := 0) (by decide +kernel)
set_option maxRecDepth 100000 in
theorem vR_194_1 : cz_chkR method_8_code cr_194_1 = true := rws_ok (p := 16) (by decide +kernel)
theorem vD_194 : cz_chkD cm_194 = true := cz_chkD_of (show ∀ row ∈ [cr_194_0, cr_194_1], cz_chkR method_8_code row = true from List.forall_mem_cons.mpr ⟨vR_194_0, List.forall_mem_cons.mpr ⟨vR_194_1, fun _ w => (by cases w)⟩⟩)
set_option maxRecDepth 100000 in
theorem vK_194 : cz_chkK cm_194 [[2236], [3074], [0, 5085, 5086, 5087]] = true := by decide +kernel
theorem vO_194 : cz_okM cm_194 := cz_chkM_ok cz_allY_ok cz_allC2_ok cz_asl_ok cz_okI0_ok vD_194 vK_194
set_option maxRecDepth 100000 in
theorem vR_195_0 : cz_chkR method_22_code cr_195_0 = true := rws_ok (p := 0) (by decide +kernel)
set_option maxRecDepth 100000 in
theorem vR_195_1 : cz_chkR method_22_code cr_195_1 = true := rws_ok (p := 16) (by decide +kernel)
theorem vD_195 : cz_chkD cm_195 = true := cz_chkD_of (show ∀ row ∈ [cr_195_0, cr_195_1], cz_chkR method_22_code row = true from List.forall_mem_cons.mpr ⟨vR_195_0, List.forall_mem_cons.mpr ⟨vR_195_1, fun _ w => (by cases w)⟩⟩)
set_option maxRecDepth 100000 in
theorem vK_195 : cz_chkK cm_195 [[3074], [3101], [0, 7028, 7029, 7030]] = true := by decide +kernel
theorem vO_195 : cz_okM cm_195 := cz_chkM_ok cz_allY_ok cz_allC2_ok cz_asl_ok cz_okI0_ok vD_195 vK_195
set_option maxRecDepth 100000 in
theorem vR_196_0 : cz_chkR method_15_code cr_196_0 = true := rws_ok (p := 0) (by decide +kernel)
set_option maxRecDepth 100000 in
theorem vR_196_1 : cz_chkR method_15_code cr_196_1 = true := rws_ok (p := 17) (by decide +kernel)
theorem vD_196 : cz_chkD cm_196 = true := cz_chkD_of (show ∀ row ∈ [cr_196_0, cr_196_1], cz_chkR method_15_code row = true from List.forall_mem_cons.mpr ⟨vR_196_0, List.forall_mem_cons.mpr ⟨vR_196_1, fun _ w => (by cases w)⟩⟩)
set_option maxRecDepth 100000 in
theorem vK_196 : cz_chkK cm_196 [[2236], [3074], [3100], [0, 5220, 5221, 5222]] = true := by decide +kernel
theorem vO_196 : cz_okM cm_196 := cz_chkM_ok cz_allY_ok cz_allC2_ok cz_asl_ok cz_okI0_ok vD_196 vK_196
set_option maxRecDepth 100000 in
theorem vR_197_0 : cz_chkR method_20_code cr_197_0 = true := rws_ok (p := 0) (by decide +kernel)
set_option maxRecDepth 100000 in
theorem vR_197_1 : cz_chkR method_20_code cr_197_1 = true := rws_ok (p := 17) (by decide +kernel)
theorem vD_197 : cz_chkD cm_197 = true := cz_chkD_of (show ∀ row ∈ [cr_197_0, cr_197_1], cz_chkR method_20_code row = true from List.forall_mem_cons.mpr ⟨vR_197_0, List.forall_mem_cons.mpr ⟨vR_197_1, fun _ w => (by cases w)⟩⟩)
set_option maxRecDepth 100000 in
theorem vK_197 : cz_chkK cm_197 [[2236], [3074], [3100], [0, 6232, 6233, 6234]] = true := by decide +kernel
theorem vO_197 : cz_okM cm_197 := cz_chkM_ok cz_allY_ok cz_allC2_ok cz_asl_ok cz_okI0_ok vD_197 vK_197
set_option maxRecDepth 100000 in
theorem vR_198_0 : cz_chkR method_24_code cr_198_0 = true := rws_ok (p := 0) (by decide +kernel)
set_option maxRecDepth 100000 in
theorem vR_198_1 : cz_chkR method_24_code cr_198_1 = true := rws_ok (p := 16) (by decide +kernel)
theorem vD_198 : cz_chkD cm_198 = true := cz_chkD_of (show ∀ row ∈ [cr_198_0, cr_198_1], cz_chkR method_24_code row = true from List.forall_mem_cons.mpr ⟨vR_198_0, List.forall_mem_cons.mpr ⟨vR_198_1, fun _ w => (by cases w)⟩⟩)
set_option maxRecDepth 100000 in
theorem vK_198 : cz_chkK cm_198 [[3074], [0, 7049, 7050, 7051]] = true := by decide +kernel
theorem vO_198 : cz_okM cm_198 := cz_chkM_ok cz_allY_ok cz_allC2_ok cz_asl_ok cz_okI0_ok vD_198 vK_198
set_option maxRecDepth 100000 in
theorem vR_199_0 : cz_chkR method_17_code cr_199_0 = true := rws_ok (p := 0) (by decide +kernel)
set_option maxRecDepth 100000 in
theorem vR_199_1 : cz_chkR method_17_code cr_199_1 = true := rws_ok (p := 17) (by decide +kernel)
theorem vD_199 : cz_chkD cm_199 = true := cz_chkD_of (show ∀ row ∈ [cr_199_0, cr_199_1], cz_chkR method_17_code row = true from List.forall_mem_cons.mpr ⟨vR_199_0, List.forall_mem_cons.mpr ⟨vR_199_1, fun _ w => (by cases w)⟩⟩)
set_option maxRecDepth 100000 in
theorem vK_199 : cz_chkK cm_199 [[3074], [3100], [0, 6124, 6125, 6126]] = true := by decide +kernel
theorem vO_199 : cz_okM cm_199 := cz_chkM_ok cz_allY_ok cz_allC2_ok cz_asl_ok cz_okI0_ok vD_199 vK_199
/-! Written by wip/p2/py/gen22.py. -/
set_option maxRecDepth 100000 in
theorem vR_200_0 : cz_chkR method_4_code cr_200_0 = true := rws_ok (p := 0) (by decide +kernel)
set_option maxRecDepth 100000 in
theorem vR_200_1 : cz_chkR method_4_code cr_200_1 = true := rws_ok (p := 16) (by decide +kernel)
theorem vD_200 : cz_chkD cm_200 = true := cz_chkD_of (show ∀ row ∈ [cr_200_0, cr_200_1], cz_chkR method_4_code row = true from List.forall_mem_cons.mpr ⟨vR_200_0, List.forall_mem_cons.mpr ⟨vR_200_1, fun _ w => (by cases w)⟩⟩)
set_option maxRecDepth 100000 in
theorem vK_200 : cz_chkK cm_200 [[0, 3075, 3076, 3077], [3074]] = true := by decide +kernel
theorem vO_200 : cz_okM cm_200 := cz_chkM_ok cz_allY_ok cz_allC2_ok cz_asl_ok cz_okI0_ok vD_200 vK_200
set_option maxRecDepth 100000 in
theorem vR_201_0 : cz_chkR method_3_code cr_201_0 = true := rws_ok (p := 0) (by decide +kernel)
set_option maxRecDepth 100000 in
theorem vR_201_1 : cz_chkR method_3_code cr_201_1 = true := rws_ok (p := 16) (by decide +kernel)
theorem vD_201 : cz_chkD cm_201 = true := cz_chkD_of (show ∀ row ∈ [cr_201_0, cr_201_1], cz_chkR method_3_code row = true from List.forall_mem_cons.mpr ⟨vR_201_0, List.forall_mem_cons.mpr ⟨vR_201_1, fun _ w => (by cases w)⟩⟩)
set_option maxRecDepth 100000 in
theorem vK_201 : cz_chkK cm_201 [[0, 2237, 2238, 2239], [2236]] = true := by decide +kernel
theorem vO_201 : cz_okM cm_201 := cz_chkM_ok cz_allY_ok cz_allC2_ok cz_asl_ok cz_okI0_ok vD_201 vK_201
set_option maxRecDepth 100000 in
theorem vR_202_0 : cz_chkR method_13_code cr_202_0 = true := rws_ok (p := 0) (by decide +kernel)
set_option maxRecDepth 100000 in
theorem vR_202_1 : cz_chkR method_13_code cr_202_1 = true := rws_ok (p := 16) (by decide +kernel)
theorem vD_202 : cz_chkD cm_202 = true := cz_chkD_of (show ∀ row ∈ [cr_202_0, cr_202_1], cz_chkR method_13_code row = true from List.forall_mem_cons.mpr ⟨vR_202_0, List.forall_mem_cons.mpr ⟨vR_202_1, fun _ w => (by cases w)⟩⟩)
set_option maxRecDepth 100000 in
theorem vK_202 : cz_chkK cm_202 [[3074], [3100], [0, 5198, 5199, 5200]] = true := by decide +kernel
theorem vO_202 : cz_okM cm_202 := cz_chkM_ok cz_allY_ok cz_allC2_ok cz_asl_ok cz_okI0_ok vD_202 vK_202
set_option maxRecDepth 100000 in
theorem vR_203_0 : cz_chkR method_14_code cr_203_0 = true := rws_ok (p := 0) (by decide +kernel)
set_option maxRecDepth 100000 in
theorem vR_203_1 : cz_chkR method_14_code cr_203_1 = true := rws_ok (p := 17) (by decide +kernel)
theorem vD_203 : cz_chkD cm_203 = true := cz_chkD_of (show ∀ row ∈ [cr_203_0, cr_203_1], cz_chkR method_14_code row = true from List.forall_mem_cons.mpr ⟨vR_203_0, List.forall_mem_cons.mpr ⟨vR_203_1, fun _ w => (by cases w)⟩⟩)
set_option maxRecDepth 100000 in
theorem vK_203 : cz_chkK cm_203 [[2236], [3074], [3100], [0, 5209, 5210, 5211]] = true := by decide +kernel
theorem vO_203 : cz_okM cm_203 := cz_chkM_ok cz_allY_ok cz_allC2_ok cz_asl_ok cz_okI0_ok vD_203 vK_203
set_option maxRecDepth 100000 in
theorem vR_204_0 : cz_chkR method_19_code cr_204_0 = true := rws_ok (p := 0) (by decide +kernel)
set_option maxRecDepth 100000 in
theorem vR_204_1 : cz_chkR method_19_code cr_204_1 = true := rws_ok (p := 17) (by decide +kernel)
theorem vD_204 : cz_chkD cm_204 = true := cz_chkD_of (show ∀ row ∈ [cr_204_0, cr_204_1], cz_chkR method_19_code row = true from List.forall_mem_cons.mpr ⟨vR_204_0, List.forall_mem_cons.mpr ⟨vR_204_1, fun _ w => (by cases w)⟩⟩)
set_option maxRecDepth 100000 in
theorem vK_204 : cz_chkK cm_204 [[2236], [3074], [3100], [0, 6153, 6154, 6155]] = true := by decide +kernel
theorem vO_204 : cz_okM cm_204 := cz_chkM_ok cz_allY_ok cz_allC2_ok cz_asl_ok cz_okI0_ok vD_204 vK_204
set_option maxRecDepth 100000 in
theorem vR_205_0 : cz_chkR method_5_code cr_205_0 = true := rws_ok (p := 0) (by decide +kernel)
set_option maxRecDepth 100000 in
theorem vR_205_1 : cz_chkR method_5_code cr_205_1 = true := rws_ok (p := 16) (by decide +kernel)
theorem vD_205 : cz_chkD cm_205 = true := cz_chkD_of (show ∀ row ∈ [cr_205_0, cr_205_1], cz_chkR method_5_code row = true from List.forall_mem_cons.mpr ⟨vR_205_0, List.forall_mem_cons.mpr ⟨vR_205_1, fun _ w => (by cases w)⟩⟩)
set_option maxRecDepth 100000 in
theorem vK_205 : cz_chkK cm_205 [[3074], [0, 3102, 3103, 3104], [3100], [3101]] = true := by decide +kernel
theorem vO_205 : cz_okM cm_205 := cz_chkM_ok cz_allY_ok cz_allC2_ok cz_asl_ok cz_okI0_ok vD_205 vK_205
set_option maxRecDepth 100000 in
theorem vR_206_0 : cz_chkR method_16_code cr_206_0 = true := rws_ok (p := 0) (by decide +kernel)
set_option maxRecDepth 100000 in
theorem vR_206_1 : cz_chkR method_16_code cr_206_1 = true := rws_ok (p := 17) (by decide +kernel)
set_option maxRecDepth 100000 in
theorem vR_206_2 : cz_chkR method_16_code cr_206_2 = true := rws_ok (p := 32) (by decide +kernel)
theorem vD_206 : cz_chkD cm_206 = true := cz_chkD_of (show ∀ row ∈ [cr_206_0, cr_206_1, cr_206_2], cz_chkR method_16_code row = true from List.forall_mem_cons.mpr ⟨vR_206_0, List.forall_mem_cons.mpr ⟨vR_206_1, List.forall_mem_cons.mpr ⟨vR_206_2, fun _ w => (by cases w)⟩⟩⟩)
set_option maxRecDepth 100000 in
theorem vK_206 : cz_chkK cm_206 [[2236], [3074], [3100], [0, 6113, 6114, 6115]] = true := by decide +kernel
theorem vO_206 : cz_okM cm_206 := cz_chkM_ok cz_allY_ok cz_allC2_ok cz_asl_ok cz_okI0_ok vD_206 vK_206
set_option maxRecDepth 100000 in
theorem vR_207_0 : cz_chkR method_18_code cr_207_0 = true := rws_ok (p := 0) (by decide +kernel)
set_option maxRecDepth 100000 in
theorem vR_207_1 : cz_chkR method_18_code cr_207_1 = true := rws_ok (p := 17) (by decide +kernel)
theorem vD_207 : cz_chkD cm_207 = true := cz_chkD_of (show ∀ row ∈ [cr_207_0, cr_207_1], cz_chkR method_18_code row = true from List.forall_mem_cons.mpr ⟨vR_207_0, List.forall_mem_cons.mpr ⟨vR_207_1, fun _ w => (by cases w)⟩⟩)
set_option maxRecDepth 100000 in
theorem vK_207 : cz_chkK cm_207 [[3074], [3100], [0, 6137, 6138, 6139]] = true := by decide +kernel
theorem vO_207 : cz_okM cm_207 := cz_chkM_ok cz_allY_ok cz_allC2_ok cz_asl_ok cz_okI0_ok vD_207 vK_207
set_option maxRecDepth 100000 in
theorem vR_208_0 : cz_chkR method_12_code cr_208_0 = true := rws_ok (p := 0) (by decide +kernel)
set_option maxRecDepth 100000 in
theorem vR_208_1 : cz_chkR method_12_code cr_208_1 = true := rws_ok (p := 17) (by decide +kernel)
theorem vD_208 : cz_chkD cm_208 = true := cz_chkD_of (show ∀ row ∈ [cr_208_0, cr_208_1], cz_chkR method_12_code row = true from List.forall_mem_cons.mpr ⟨vR_208_0, List.forall_mem_cons.mpr ⟨vR_208_1, fun _ w => (by cases w)⟩⟩)
set_option maxRecDepth 100000 in
theorem vK_208 : cz_chkK cm_208 [[2236], [3074], [3100], [0, 5123, 5124, 5125]] = true := by decide +kernel
theorem vO_208 : cz_okM cm_208 := cz_chkM_ok cz_allY_ok cz_allC2_ok cz_asl_ok cz_okI0_ok vD_208 vK_208
set_option maxRecDepth 100000 in
theorem vR_209_0 : cz_chkR method_9_code cr_209_0 = true := rws_ok (p := 0) (by decide +kernel)
set_option maxRecDepth 100000 in
theorem vR_209_1 : cz_chkR method_9_code cr_209_1 = true := rws_ok (p := 17) (by decide +kernel)
theorem vD_209 : cz_chkD cm_209 = true := cz_chkD_of (show ∀ row ∈ [cr_209_0, cr_209_1], cz_chkR method_9_code row = true from List.forall_mem_cons.mpr ⟨vR_209_0, List.forall_mem_cons.mpr ⟨vR_209_1, fun _ w => (by cases w)⟩⟩)
set_option maxRecDepth 100000 in
theorem vK_209 : cz_chkK cm_209 [[3074], [0, 5095, 5096, 5097]] = true := by decide +kernel
theorem vO_209 : cz_okM cm_209 := cz_chkM_ok cz_allY_ok cz_allC2_ok cz_asl_ok cz_okI0_ok vD_209 vK_209
set_option maxRecDepth 100000 in
theorem vR_210_0 : cz_chkR method_10_code cr_210_0 = true := rws_ok (p := 0) (by decide +kernel)
set_option maxRecDepth 100000 in
theorem vR_210_1 : cz_chkR method_10_code cr_210_1 = true := rws_ok (p := 16) (by decide +kernel)
theorem vD_210 : cz_chkD cm_210 = true := cz_chkD_of (show ∀ row ∈ [cr_210_0, cr_210_1], cz_chkR method_10_code row = true from List.forall_mem_cons.mpr ⟨vR_210_0, List.forall_mem_cons.mpr ⟨vR_210_1, fun _ w => (by cases w)⟩⟩)
set_option maxRecDepth 100000 in
theorem vK_210 : cz_chkK cm_210 [[2236], [3074], [0, 5109, 5110, 5111]] = true := by decide +kernel
theorem vO_210 : cz_okM cm_210 := cz_chkM_ok cz_allY_ok cz_allC2_ok cz_asl_ok cz_okI0_ok vD_210 vK_210
set_option maxRecDepth 100000 in
theorem vR_211_0 : cz_chkR method_6_code cr_211_0 = true := rws_ok (p := 0) (by decide +kernel)
set_option maxRecDepth 100000 in
theorem vR_211_1 : cz_chkR method_6_code cr_211_1 = true := rws_ok (p := 16) (by decide +kernel)
theorem vD_211 : cz_chkD cm_211 = true := cz_chkD_of (show ∀ row ∈ [cr_211_0, cr_211_1], cz_chkR method_6_code row = true from List.forall_mem_cons.mpr ⟨vR_211_0, List.forall_mem_cons.mpr ⟨vR_211_1, fun _ w => (by cases w)⟩⟩)
set_option maxRecDepth 100000 in
theorem vK_211 : cz_chkK cm_211 [[3100], [0, 4186, 4187, 4188], [4185]] = true := by decide +kernel
theorem vO_211 : cz_okM cm_211 := cz_chkM_ok cz_allY_ok cz_allC2_ok cz_asl_ok cz_okI0_ok vD_211 vK_211
set_option maxRecDepth 100000 in
theorem vR_212_0 : cz_chkR method_11_code cr_212_0 = true := rws_ok (p := 0) (by decide +kernel)
set_option maxRecDepth 100000 in
theorem vR_212_1 : cz_chkR method_11_code cr_212_1 = true := rws_ok (p := 16) (by decide +kernel)
theorem vD_212 : cz_chkD cm_212 = true := cz_chkD_of (show ∀ row ∈ [cr_212_0, cr_212_1], cz_chkR method_11_code row = true from List.forall_mem_cons.mpr ⟨vR_212_0, List.forall_mem_cons.mpr ⟨vR_212_1, fun _ w => (by cases w)⟩⟩)
set_option maxRecDepth 100000 in
theorem vK_212 : cz_chkK cm_212 [[3074], [0, 5116, 5117, 5118]] = true := by decide +kernel
theorem vO_212 : cz_okM cm_212 := cz_chkM_ok cz_allY_ok cz_allC2_ok cz_asl_ok cz_okI0_ok vD_212 vK_212
set_option maxRecDepth 100000 in
theorem vR_213_0 : cz_chkR method_7_code cr_213_0 = true := rws_ok (p := 0) (by decide +kernel)
set_option maxRecDepth 100000 in
theorem vR_213_1 : cz_chkR method_7_code cr_213_1 = true := rws_ok (p := 16) (by decide +kernel)
theorem vD_213 : cz_chkD cm_213 = true := cz_chkD_of (show ∀ row ∈ [cr_213_0, cr_213_1], cz_chkR method_7_code row = true from List.forall_mem_cons.mpr ⟨vR_213_0, List.forall_mem_cons.mpr ⟨vR_213_1, fun _ w => (by cases w)⟩⟩)
set_option maxRecDepth 100000 in
theorem vK_213 : cz_chkK cm_213 [[2236], [3074], [3101], [0, 5050, 5051, 5052]] = true := by decide +kernel
theorem vO_213 : cz_okM cm_213 := cz_chkM_ok cz_allY_ok cz_allC2_ok cz_asl_ok cz_okI0_ok vD_213 vK_213
set_option maxRecDepth 100000 in
theorem vR_214_0 : cz_chkR method_23_code cr_214_0 = true := rws_ok (p := 0) (by decide +kernel)
theorem vD_214 : cz_chkD cm_214 = true := cz_chkD_of (show ∀ row ∈ [cr_214_0], cz_chkR method_23_code row = true from List.forall_mem_cons.mpr ⟨vR_214_0, fun _ w => (by cases w)⟩)
set_option maxRecDepth 100000 in
theorem vK_214 : cz_chkK cm_214 [[2236], [0, 7042, 7043, 7044]] = true := by decide +kernel
theorem vO_214 : cz_okM cm_214 := cz_chkM_ok cz_allY_ok cz_allC2_ok cz_asl_ok cz_okI0_ok vD_214 vK_214
set_option maxRecDepth 100000 in
theorem vR_215_0 : cz_chkR prog_15_method_1_code cr_215_0 = true := rws_ok (p := 0) (by decide +kernel)
set_option maxRecDepth 100000 in
theorem vR_215_1 : cz_chkR prog_15_method_1_code cr_215_1 = true := rws_ok (p := 16) (by decide +kernel)
set_option maxRecDepth 100000 in
theorem vR_215_2 : cz_chkR prog_15_method_1_code cr_215_2 = true := rws_ok (p := 34) (by decide +kernel)
set_option maxRecDepth 100000 in
theorem vR_215_3 : cz_chkR prog_15_method_1_code cr_215_3 = true := rws_ok (p := 48) (by decide +kernel)
set_option maxRecDepth 100000 in
theorem vR_215_4 : cz_chkR prog_15_method_1_code cr_215_4 = true := rws_ok (p := 66) (by decide +kernel)
set_option maxRecDepth 100000 in
theorem vR_215_5 : cz_chkR prog_15_method_1_code cr_215_5 = true := rws_ok (p := 80) (by decide +kernel)
set_option maxRecDepth 100000 in
theorem vR_215_6 : cz_chkR prog_15_method_1_code cr_215_6 = true := rws_ok (p := 96) (by decide +kernel)
set_option maxRecDepth 100000 in
theorem vR_215_7 : cz_chkR prog_15_method_1_code cr_215_7 = true := rws_ok (p := 113) (by decide +kernel)
set_option maxRecDepth 100000 in
theorem vR_215_8 : cz_chkR prog_15_method_1_code cr_215_8 = true := rws_ok (p := 128) (by decide +kernel)
set_option maxRecDepth 100000 in
theorem vR_215_9 : cz_chkR prog_15_method_1_code cr_215_9 = true := rws_ok (p := 144) (by decide +kernel)
set_option maxRecDepth 100000 in
theorem vR_215_10 : cz_chkR prog_15_method_1_code cr_215_10 = true := rws_ok (p := 162) (by decide +kernel)
set_option maxRecDepth 100000 in
theorem vR_215_11 : cz_chkR prog_15_method_1_code cr_215_11 = true := rws_ok (p := 176) (by decide +kernel)
set_option maxRecDepth 100000 in
theorem vR_215_12 : cz_chkR prog_15_method_1_code cr_215_12 = true := rws_ok (p := 192) (by decide +kernel)
set_option maxRecDepth 100000 in
theorem vR_215_13 : cz_chkR prog_15_method_1_code cr_215_13 = true := rws_ok (p := 209) (by decide +kernel)
set_option maxRecDepth 100000 in
theorem vR_215_14 : cz_chkR prog_15_method_1_code cr_215_14 = true := rws_ok (p := 225) (by decide +kernel)
set_option maxRecDepth 100000 in
theorem vR_215_15 : cz_chkR prog_15_method_1_code cr_215_15 = true := rws_ok (p := 240) (by decide +kernel)
set_option maxRecDepth 100000 in
theorem vR_215_16 : cz_chkR prog_15_method_1_code cr_215_16 = true := rws_ok (p := 256) (by decide +kernel)
set_option maxRecDepth 100000 in
theorem vR_215_17 : cz_chkR prog_15_method_1_code cr_215_17 = true := rws_ok (p := 273) (by decide +kernel)
set_option maxRecDepth 100000 in
theorem vR_215_18 : cz_chkR prog_15_method_1_code cr_215_18 = true := rws_ok (p := 288) (by decide +kernel)
set_option maxRecDepth 100000 in
theorem vR_215_19 : cz_chkR prog_15_method_1_code cr_215_19 = true := rws_ok (p := 304) (by decide +kernel)
set_option maxRecDepth 100000 in
theorem vR_215_20 : cz_chkR prog_15_method_1_code cr_215_20 = true := rws_ok (p := 320) (by decide +kernel)
set_option maxRecDepth 100000 in
theorem vR_215_21 : cz_chkR prog_15_method_1_code cr_215_21 = true := rws_ok (p := 336) (by decide +kernel)
set_option maxRecDepth 100000 in
theorem vR_215_22 : cz_chkR prog_15_method_1_code cr_215_22 = true := rws_ok (p := 352) (by decide +kernel)
set_option maxRecDepth 100000 in
theorem vR_215_23 : cz_chkR prog_15_method_1_code cr_215_23 = true := rws_ok (p := 368) (by decide +kernel)
set_option maxRecDepth 100000 in
theorem vR_215_24 : cz_chkR prog_15_method_1_code cr_215_24 = true := rws_ok (p := 384) (by decide +kernel)
set_option maxRecDepth 100000 in
theorem vR_215_25 : cz_chkR prog_15_method_1_code cr_215_25 = true := rws_ok (p := 401) (by decide +kernel)
set_option maxRecDepth 100000 in
theorem vR_215_26 : cz_chkR prog_15_method_1_code cr_215_26 = true := rws_ok (p := 417) (by decide +kernel)
set_option maxRecDepth 100000 in
theorem vR_215_27 : cz_chkR prog_15_method_1_code cr_215_27 = true := rws_ok (p := 432) (by decide +kernel)
set_option maxRecDepth 100000 in
theorem vR_215_28 : cz_chkR prog_15_method_1_code cr_215_28 = true := rws_ok (p := 448) (by decide +kernel)
set_option maxRecDepth 100000 in
theorem vR_215_29 : cz_chkR prog_15_method_1_code cr_215_29 = true := rws_ok (p := 464) (by decide +kernel)
set_option maxRecDepth 100000 in
theorem vR_215_30 : cz_chkR prog_15_method_1_code cr_215_30 = true := rws_ok (p := 482) (by decide +kernel)
set_option maxRecDepth 100000 in
theorem vR_215_31 : cz_chkR prog_15_method_1_code cr_215_31 = true := rws_ok (p := 496) (by decide +kernel)
theorem vD_215 : cz_chkD cm_215 = true := cz_chkD_of (show ∀ row ∈ [cr_215_0, cr_215_1, cr_215_2, cr_215_3, cr_215_4, cr_215_5, cr_215_6, cr_215_7, cr_215_8, cr_215_9, cr_215_10, cr_215_11, cr_215_12, cr_215_13, cr_215_14, cr_215_15, cr_215_16, cr_215_17, cr_215_18, cr_215_19, cr_215_20, cr_215_21, cr_215_22, cr_215_23, cr_215_24, cr_215_25, cr_215_26, cr_215_27, cr_215_28, cr_215_29, cr_215_30, cr_215_31], cz_chkR prog_15_method_1_code row = true from List.forall_mem_cons.mpr ⟨vR_215_0, List.forall_mem_cons.mpr ⟨vR_215_1, List.forall_mem_cons.mpr ⟨vR_215_2, List.forall_mem_cons.mpr ⟨vR_215_3, List.forall_mem_cons.mpr ⟨vR_215_4, List.forall_mem_cons.mpr ⟨vR_215_5, List.forall_mem_cons.mpr ⟨vR_215_6, List.forall_mem_cons.mpr ⟨vR_215_7, List.forall_mem_cons.mpr ⟨vR_215_8, List.forall_mem_cons.mpr ⟨vR_215_9, List.forall_mem_cons.mpr ⟨vR_215_10, List.forall_mem_cons.mpr ⟨vR_215_11, List.forall_mem_cons.mpr ⟨vR_215_12, List.forall_mem_cons.mpr ⟨vR_215_13, List.forall_mem_cons.mpr ⟨vR_215_14, List.forall_mem_cons.mpr ⟨vR_215_15, List.forall_mem_cons.mpr ⟨vR_215_16, List.forall_mem_cons.mpr ⟨vR_215_17, List.forall_mem_cons.mpr ⟨vR_215_18, List.forall_mem_cons.mpr ⟨vR_215_19, List.forall_mem_cons.mpr ⟨vR_215_20, List.forall_mem_cons.mpr ⟨vR_215_21, List.forall_mem_cons.mpr ⟨vR_215_22, List.forall_mem_cons.mpr ⟨vR_215_23, List.forall_mem_cons.mpr ⟨vR_215_24, List.forall_mem_cons.mpr ⟨vR_215_25, List.forall_mem_cons.mpr ⟨vR_215_26, List.forall_mem_cons.mpr ⟨vR_215_27, List.forall_mem_cons.mpr ⟨vR_215_28, List.forall_mem_cons.mpr ⟨vR_215_29, List.forall_mem_cons.mpr ⟨vR_215_30, List.forall_mem_cons.mpr ⟨vR_215_31, fun _ w => (by cases w)⟩⟩⟩⟩⟩⟩⟩⟩⟩⟩⟩⟩⟩⟩⟩⟩⟩⟩⟩⟩⟩⟩⟩⟩⟩⟩⟩⟩⟩⟩⟩⟩)
set_option maxRecDepth 100000 in
theorem vK_215 : cz_chkK cm_215 [[7058, 1041, 1042], [7109], [7059], [7111], [7060], [7113], [7114], [7117], [7119], [], [], [], [], [], [], [], [], [], [7121], [], [], [], [], [], [], [7122], [], [], [], [], [], [], [], [], [], [], [], [], [], [], [7123], [], [], [], [], [], [], [], [], [], [], [], [], [], [7124], [7127], [7128], [7129], [7130], [7132], [7134], [7135], [7137], [7139], [7140], [7142], [7143], [7145], [7146], [7147], [7148], [7062, 7063], [7064, 7065]] = true := by decide +kernel
theorem vO_215 : cz_okM cm_215 := cz_chkM_ok cz_allY_ok cz_allC2_ok cz_asl_ok cz_okI0_ok vD_215 vK_215
set_option maxRecDepth 100000 in
theorem vR_216_0 : cz_chkR prog_15_method_95_code cr_216_0 = true := rws_ok (p := 0) (by decide +kernel)
set_option maxRecDepth 100000 in
theorem vR_216_1 : cz_chkR prog_15_method_95_code cr_216_1 = true := rws_ok (p := 16) (by decide +kernel)
set_option maxRecDepth 100000 in
theorem vR_216_2 : cz_chkR prog_15_method_95_code cr_216_2 = true := rws_ok (p := 32) (by decide +kernel)
set_option maxRecDepth 100000 in
theorem vR_216_5 : cz_chkR prog_15_method_95_code cr_216_5 = true := rws_ok (p := 88) (by decide +kernel)
set_option maxRecDepth 100000 in
theorem vR_216_6 : cz_chkR prog_15_method_95_code cr_216_6 = true := rws_ok (p := 96) (by decide +kernel)
set_option maxRecDepth 100000 in
theorem vR_216_7 : cz_chkR prog_15_method_95_code cr_216_7 = true := rws_ok (p := 112) (by decide +kernel)
set_option maxRecDepth 100000 in
theorem vR_216_8 : cz_chkR prog_15_method_95_code cr_216_8 = true := rws_ok (p := 129) (by decide +kernel)
set_option maxRecDepth 100000 in
theorem vR_216_9 : cz_chkR prog_15_method_95_code cr_216_9 = true := rws_ok (p := 144) (by decide +kernel)
set_option maxRecDepth 100000 in
theorem vR_216_10 : cz_chkR prog_15_method_95_code cr_216_10 = true := rws_ok (p := 162) (by decide +kernel)
set_option maxRecDepth 100000 in
theorem vR_216_11 : cz_chkR prog_15_method_95_code cr_216_11 = true := rws_ok (p := 176) (by decide +kernel)
set_option maxRecDepth 100000 in
theorem vR_216_12 : cz_chkR prog_15_method_95_code cr_216_12 = true := rws_ok (p := 192) (by decide +kernel)
theorem vD_216 : cz_chkD cm_216 = true := cz_chkD_of (show ∀ row ∈ [cr_216_0, cr_216_1, cr_216_2, [], [], cr_216_5, cr_216_6, cr_216_7, cr_216_8, cr_216_9, cr_216_10, cr_216_11, cr_216_12], cz_chkR prog_15_method_95_code row = true from List.forall_mem_cons.mpr ⟨vR_216_0, List.forall_mem_cons.mpr ⟨vR_216_1, List.forall_mem_cons.mpr ⟨vR_216_2, List.forall_mem_cons.mpr ⟨rfl, List.forall_mem_cons.mpr ⟨rfl, List.forall_mem_cons.mpr ⟨vR_216_5, List.forall_mem_cons.mpr ⟨vR_216_6, List.forall_mem_cons.mpr ⟨vR_216_7, List.forall_mem_cons.mpr ⟨vR_216_8, List.forall_mem_cons.mpr ⟨vR_216_9, List.forall_mem_cons.mpr ⟨vR_216_10, List.forall_mem_cons.mpr ⟨vR_216_11, List.forall_mem_cons.mpr ⟨vR_216_12, fun _ w => (by cases w)⟩⟩⟩⟩⟩⟩⟩⟩⟩⟩⟩⟩⟩)
set_option maxRecDepth 100000 in
theorem vK_216 : cz_chkK cm_216 [[7108], [8095], [0, 8004, 8006, 91], [7115], [0, 9187, 9189, 122], [0, 9191, 9193, 123], [0, 9175, 9177, 119], [0, 9183, 9185, 121], [0, 10073, 10075, 148], [0, 10021, 10023, 135], [0, 10192, 10194, 163]] = true := by decide +kernel
theorem vO_216 : cz_okM cm_216 := cz_chkM_ok cz_allY_ok cz_allC2_ok cz_asl_ok cz_okI0_ok vD_216 vK_216
set_option maxRecDepth 100000 in
theorem vR_217_0 : cz_chkR prog_15_method_90_code cr_217_0 = true := rws_ok (p := 0) (by decide +kernel)
set_option maxRecDepth 100000 in
theorem vR_217_1 : cz_chkR prog_15_method_90_code cr_217_1 = true := rws_ok (p := 17) (by decide +kernel)
set_option maxRecDepth 100000 in
theorem vR_217_2 : cz_chkR prog_15_method_90_code cr_217_2 = true := rws_ok (p := 33) (by decide +kernel)
set_option maxRecDepth 100000 in
theorem vR_217_3 : cz_chkR prog_15_method_90_code cr_217_3 = true := rws_ok (p := 48) (by decide +kernel)
set_option maxRecDepth 100000 in
theorem vR_217_4 : cz_chkR prog_15_method_90_code cr_217_4 = true := rws_ok (p := 65) (by decide +kernel)
theorem vD_217 : cz_chkD cm_217 = true := cz_chkD_of (show ∀ row ∈ [cr_217_0, cr_217_1, cr_217_2, cr_217_3, cr_217_4], cz_chkR prog_15_method_90_code row = true from List.forall_mem_cons.mpr ⟨vR_217_0, List.forall_mem_cons.mpr ⟨vR_217_1, List.forall_mem_cons.mpr ⟨vR_217_2, List.forall_mem_cons.mpr ⟨vR_217_3, List.forall_mem_cons.mpr ⟨vR_217_4, fun _ w => (by cases w)⟩⟩⟩⟩⟩)
set_option maxRecDepth 100000 in
theorem vK_217 : cz_chkK cm_217 [[7113], [7114], [7108], [8095], [0, 8004, 8006, 91], [0, 9212, 9214, 126]] = true := by decide +kernel
theorem vO_217 : cz_okM cm_217 := cz_chkM_ok cz_allY_ok cz_allC2_ok cz_asl_ok cz_okI0_ok vD_217 vK_217
set_option maxRecDepth 100000 in
theorem vR_218_0 : cz_chkR prog_15_method_70_code cr_218_0 = true := rws_ok (p := 0) (by decide +kernel)
set_option maxRecDepth 100000 in
theorem vR_218_1 : cz_chkR prog_15_method_70_code cr_218_1 = true := rws_ok (p := 16) (by decide +kernel)
set_option maxRecDepth 100000 in
theorem vR_218_2 : cz_chkR prog_15_method_70_code cr_218_2 = true := rws_ok (p := 34) (by decide +kernel)
theorem vD_218 : cz_chkD cm_218 = true := cz_chkD_of (show ∀ row ∈ [cr_218_0, cr_218_1, cr_218_2], cz_chkR prog_15_method_70_code row = true from List.forall_mem_cons.mpr ⟨vR_218_0, List.forall_mem_cons.mpr ⟨vR_218_1, List.forall_mem_cons.mpr ⟨vR_218_2, fun _ w => (by cases w)⟩⟩⟩)
set_option maxRecDepth 100000 in
theorem vK_218 : cz_chkK cm_218 [[0, 10021, 10023, 135], [0, 10033, 10035, 138]] = true := by decide +kernel
theorem vO_218 : cz_okM cm_218 := cz_chkM_ok cz_allY_ok cz_allC2_ok cz_asl_ok cz_okI0_ok vD_218 vK_218
set_option maxRecDepth 100000 in
theorem vR_219_0 : cz_chkR prog_15_method_19_code cr_219_0 = true := rws_ok (p := 0) (by decide +kernel)
set_option maxRecDepth 100000 in
theorem vR_219_1 : cz_chkR prog_15_method_19_code cr_219_1 = true := rws_ok (p := 17) (by decide +kernel)
set_option maxRecDepth 100000 in
theorem vR_219_2 : cz_chkR prog_15_method_19_code cr_219_2 = true := rws_ok (p := 33) (by decide +kernel)
set_option maxRecDepth 100000 in
theorem vR_219_3 : cz_chkR prog_15_method_19_code cr_219_3 = true := rws_ok (p := 50) (by decide +kernel)
set_option maxRecDepth 100000 in
theorem vR_219_4 : cz_chkR prog_15_method_19_code cr_219_4 = true := rws_ok (p := 64) (by decide +kernel)
set_option maxRecDepth 100000 in
theorem vR_219_5 : cz_chkR prog_15_method_19_code cr_219_5 = true := rws_ok (p := 80) (by decide +kernel)
set_option maxRecDepth 100000 in
theorem vR_219_6 : cz_chkR prog_15_method_19_code cr_219_6 = true := rws_ok (p := 97) (by decide +kernel)
theorem vD_219 : cz_chkD cm_219 = true := cz_chkD_of (show ∀ row ∈ [cr_219_0, cr_219_1, cr_219_2, cr_219_3, cr_219_4, cr_219_5, cr_219_6], cz_chkR prog_15_method_19_code row = true from List.forall_mem_cons.mpr ⟨vR_219_0, List.forall_mem_cons.mpr ⟨vR_219_1, List.forall_mem_cons.mpr ⟨vR_219_2, List.forall_mem_cons.mpr ⟨vR_219_3, List.forall_mem_cons.mpr ⟨vR_219_4, List.forall_mem_cons.mpr ⟨vR_219_5, List.forall_mem_cons.mpr ⟨vR_219_6, fun _ w => (by cases w)⟩⟩⟩⟩⟩⟩⟩)
set_option maxRecDepth 100000 in
theorem vK_219 : cz_chkK cm_219 [[8003], [8066], [0, 9125, 4036, 4037], [0, 9126, 4046, 4047]] = true := by decide +kernel
theorem vO_219 : cz_okM cm_219 := cz_chkM_ok cz_allY_ok cz_allC2_ok cz_asl_ok cz_okI0_ok vD_219 vK_219
set_option maxRecDepth 100000 in
theorem vR_220_0 : cz_chkR prog_15_method_69_code cr_220_0 = true := rws_ok (p := 0) (by decide +kernel)
set_option maxRecDepth 100000 in
theorem vR_220_1 : cz_chkR prog_15_method_69_code cr_220_1 = true := rws_ok (p := 16) (by decide +kernel)
theorem vD_220 : cz_chkD cm_220 = true := cz_chkD_of (show ∀ row ∈ [cr_220_0, cr_220_1], cz_chkR prog_15_method_69_code row = true from List.forall_mem_cons.mpr ⟨vR_220_0, List.forall_mem_cons.mpr ⟨vR_220_1, fun _ w => (by cases w)⟩⟩)
set_option maxRecDepth 100000 in
theorem vK_220 : cz_chkK cm_220 [[0, 10041, 10043, 140]] = true := by decide +kernel
theorem vO_220 : cz_okM cm_220 := cz_chkM_ok cz_allY_ok cz_allC2_ok cz_asl_ok cz_okI0_ok vD_220 vK_220
set_option maxRecDepth 100000 in
theorem vR_221_0 : cz_chkR prog_15_method_18_code cr_221_0 = true := rws_ok (p := 0) (by decide +kernel)
set_option maxRecDepth 100000 in
theorem vR_221_1 : cz_chkR prog_15_method_18_code cr_221_1 = true := rws_ok (p := 16) (by decide +kernel)
set_option maxRecDepth 100000 in
theorem vR_221_2 : cz_chkR prog_15_method_18_code cr_221_2 = true := rws_ok (p := 33) (by decide +kernel)
theorem vD_221 : cz_chkD cm_221 = true := cz_chkD_of (show ∀ row ∈ [cr_221_0, cr_221_1, cr_221_2], cz_chkR prog_15_method_18_code row = true from List.forall_mem_cons.mpr ⟨vR_221_0, List.forall_mem_cons.mpr ⟨vR_221_1, List.forall_mem_cons.mpr ⟨vR_221_2, fun _ w => (by cases w)⟩⟩⟩)
set_option maxRecDepth 100000 in
theorem vK_221 : cz_chkK cm_221 [[0, 9125, 4036, 4037], [0, 9126, 4046, 4047]] = true := by decide +kernel
theorem vO_221 : cz_okM cm_221 := cz_chkM_ok cz_allY_ok cz_allC2_ok cz_asl_ok cz_okI0_ok vD_221 vK_221
set_option maxRecDepth 100000 in
theorem vR_222_0 : cz_chkR prog_15_method_53_code cr_222_0 = true := rws_ok (p := 0) (by decide +kernel)
set_option maxRecDepth 100000 in
theorem vR_222_1 : cz_chkR prog_15_method_53_code cr_222_1 = true := rws_ok (p := 16) (by decide +kernel)
set_option maxRecDepth 100000 in
theorem vR_222_2 : cz_chkR prog_15_method_53_code cr_222_2 = true := rws_ok (p := 34) (by decide +kernel)
set_option maxRecDepth 100000 in
theorem vR_222_3 : cz_chkR prog_15_method_53_code cr_222_3 = true := rws_ok (p := 49) (by decide +kernel)
set_option maxRecDepth 100000 in
theorem vR_222_4 : cz_chkR prog_15_method_53_code cr_222_4 = true := rws_ok (p := 64) (by decide +kernel)
set_option maxRecDepth 100000 in
theorem vR_222_5 : cz_chkR prog_15_method_53_code cr_222_5 = true := rws_ok (p := 80) (by decide +kernel)
theorem vD_222 : cz_chkD cm_222 = true := cz_chkD_of (show ∀ row ∈ [cr_222_0, cr_222_1, cr_222_2, cr_222_3, cr_222_4, cr_222_5], cz_chkR prog_15_method_53_code row = true from List.forall_mem_cons.mpr ⟨vR_222_0, List.forall_mem_cons.mpr ⟨vR_222_1, List.forall_mem_cons.mpr ⟨vR_222_2, List.forall_mem_cons.mpr ⟨vR_222_3, List.forall_mem_cons.mpr ⟨vR_222_4, List.forall_mem_cons.mpr ⟨vR_222_5, fun _ w => (by cases w)⟩⟩⟩⟩⟩⟩)
set_option maxRecDepth 100000 in
theorem vK_222 : cz_chkK cm_222 [[0, 9191, 9193, 123]] = true := by decide +kernel
theorem vO_222 : cz_okM cm_222 := cz_chkM_ok cz_allY_ok cz_allC2_ok cz_asl_ok cz_okI0_ok vD_222 vK_222
set_option maxRecDepth 100000 in
theorem vR_223_0 : cz_chkR prog_15_method_6_code cr_223_0 = true := rws_ok (p := 0) (by decide +kernel)
set_option maxRecDepth 100000 in
theorem vR_223_1 : cz_chkR prog_15_method_6_code cr_223_1 = true := rws_ok (p := 16) (by decide +kernel)
theorem vD_223 : cz_chkD cm_223 = true := cz_chkD_of (show ∀ row ∈ [cr_223_0, cr_223_1], cz_chkR prog_15_method_6_code row = true from List.forall_mem_cons.mpr ⟨vR_223_0, List.forall_mem_cons.mpr ⟨vR_223_1, fun _ w => (by cases w)⟩⟩)
set_option maxRecDepth 100000 in
theorem vK_223 : cz_chkK cm_223 [] = true := by decide +kernel
theorem vO_223 : cz_okM cm_223 := cz_chkM_ok cz_allY_ok cz_allC2_ok cz_asl_ok cz_okI0_ok vD_223 vK_223
set_option maxRecDepth 100000 in
theorem vR_224_0 : cz_chkR prog_15_method_10_code cr_224_0 = true := rws_ok (p := 0) (by decide +kernel)
set_option maxRecDepth 100000 in
theorem vR_224_1 : cz_chkR prog_15_method_10_code cr_224_1 = true := rws_ok (p := 16) (by decide +kernel)
theorem vD_224 : cz_chkD cm_224 = true := cz_chkD_of (show ∀ row ∈ [cr_224_0, cr_224_1], cz_chkR prog_15_method_10_code row = true from List.forall_mem_cons.mpr ⟨vR_224_0, List.forall_mem_cons.mpr ⟨vR_224_1, fun _ w => (by cases w)⟩⟩)
set_option maxRecDepth 100000 in
theorem vK_224 : cz_chkK cm_224 [[0, 8067, 8069, 94], [7125], [0, 8091, 8093, 100]] = true := by decide +kernel
theorem vO_224 : cz_okM cm_224 := cz_chkM_ok cz_allY_ok cz_allC2_ok cz_asl_ok cz_okI0_ok vD_224 vK_224
set_option maxRecDepth 100000 in
theorem vR_225_0 : cz_chkR prog_15_method_67_code cr_225_0 = true := rws_ok (p := 0) (by decide +kernel)
theorem vD_225 : cz_chkD cm_225 = true := cz_chkD_of (show ∀ row ∈ [cr_225_0], cz_chkR prog_15_method_67_code row = true from List.forall_mem_cons.mpr ⟨vR_225_0, fun _ w => (by cases w)⟩)
set_option maxRecDepth 100000 in
theorem vK_225 : cz_chkK cm_225 [] = true := by decide +kernel
theorem vO_225 : cz_okM cm_225 := cz_chkM_ok cz_allY_ok cz_allC2_ok cz_asl_ok cz_okI0_ok vD_225 vK_225
set_option maxRecDepth 100000 in
theorem vR_226_0 : cz_chkR prog_15_method_96_code cr_226_0 = true := rws_ok (p := 0) (by decide +kernel)
set_option maxRecDepth 100000 in
theorem vR_226_1 : cz_chkR prog_15_method_96_code cr_226_1 = true := rws_ok (p := 18) (by decide +kernel)
set_option maxRecDepth 100000 in
theorem vR_226_2 : cz_chkR prog_15_method_96_code cr_226_2 = true := rws_ok (p := 32) (by decide +kernel)
set_option maxRecDepth 100000 in
theorem vR_226_3 : cz_chkR prog_15_method_96_code cr_226_3 = true := rws_ok (p := 49) (by decide +kernel)
set_option maxRecDepth 100000 in
theorem vR_226_4 : cz_chkR prog_15_method_96_code cr_226_4 = true := rws_ok (p := 64) (by decide +kernel)
set_option maxRecDepth 100000 in
theorem vR_226_5 : cz_chkR prog_15_method_96_code cr_226_5 = true := rws_ok (p := 80) (by decide +kernel)
set_option maxRecDepth 100000 in
theorem vR_226_6 : cz_chkR prog_15_method_96_code cr_226_6 = true := rws_ok (p := 96) (by decide +kernel)
set_option maxRecDepth 100000 in
theorem vR_226_7 : cz_chkR prog_15_method_96_code cr_226_7 = true := rws_ok (p := 112) (by decide +kernel)
set_option maxRecDepth 100000 in
theorem vR_226_8 : cz_chkR prog_15_method_96_code cr_226_8 = true := rws_ok (p := 129) (by decide +kernel)
set_option maxRecDepth 100000 in
theorem vR_226_9 : cz_chkR prog_15_method_96_code cr_226_9 = true := rws_ok (p := 145) (by decide +kernel)
set_option maxRecDepth 100000 in
theorem vR_226_10 : cz_chkR prog_15_method_96_code cr_226_10 = true := rws_ok (p := 161) (by decide +kernel)
set_option maxRecDepth 100000 in
theorem vR_226_11 : cz_chkR prog_15_method_96_code cr_226_11 = true := rws_ok (p := 176) (by decide +kernel)
set_option maxRecDepth 100000 in
theorem vR_226_12 : cz_chkR prog_15_method_96_code cr_226_12 = true := rws_ok (p := 192) (by decide +kernel)
set_option maxRecDepth 100000 in
theorem vR_226_13 : cz_chkR prog_15_method_96_code cr_226_13 = true := rws_ok (p := 208) (by decide +kernel)
set_option maxRecDepth 100000 in
theorem vR_226_14 : cz_chkR prog_15_method_96_code cr_226_14 = true := rws_ok (p := 224) (by decide +kernel)
set_option maxRecDepth 100000 in
theorem vR_226_15 : cz_chkR prog_15_method_96_code cr_226_15 = true := rws_ok (p := 241) (by decide +kernel)
set_option maxRecDepth 100000 in
theorem vR_226_16 : cz_chkR prog_15_method_96_code cr_226_16 = true := rws_ok (p := 257) (by decide +kernel)
theorem vD_226 : cz_chkD cm_226 = true := cz_chkD_of (show ∀ row ∈ [cr_226_0, cr_226_1, cr_226_2, cr_226_3, cr_226_4, cr_226_5, cr_226_6, cr_226_7, cr_226_8, cr_226_9, cr_226_10, cr_226_11, cr_226_12, cr_226_13, cr_226_14, cr_226_15, cr_226_16], cz_chkR prog_15_method_96_code row = true from List.forall_mem_cons.mpr ⟨vR_226_0, List.forall_mem_cons.mpr ⟨vR_226_1, List.forall_mem_cons.mpr ⟨vR_226_2, List.forall_mem_cons.mpr ⟨vR_226_3, List.forall_mem_cons.mpr ⟨vR_226_4, List.forall_mem_cons.mpr ⟨vR_226_5, List.forall_mem_cons.mpr ⟨vR_226_6, List.forall_mem_cons.mpr ⟨vR_226_7, List.forall_mem_cons.mpr ⟨vR_226_8, List.forall_mem_cons.mpr ⟨vR_226_9, List.forall_mem_cons.mpr ⟨vR_226_10, List.forall_mem_cons.mpr ⟨vR_226_11, List.forall_mem_cons.mpr ⟨vR_226_12, List.forall_mem_cons.mpr ⟨vR_226_13, List.forall_mem_cons.mpr ⟨vR_226_14, List.forall_mem_cons.mpr ⟨vR_226_15, List.forall_mem_cons.mpr ⟨vR_226_16, fun _ w => (by cases w)⟩⟩⟩⟩⟩⟩⟩⟩⟩⟩⟩⟩⟩⟩⟩⟩⟩)
set_option maxRecDepth 100000 in
theorem vK_226 : cz_chkK cm_226 [[7059], [7111], [7113], [7114], [7108], [0, 8004, 8006, 91], [0, 9212, 9214, 126], [7112], [10170], [10171]] = true := by decide +kernel
theorem vO_226 : cz_okM cm_226 := cz_chkM_ok cz_allY_ok cz_allC2_ok cz_asl_ok cz_okI0_ok vD_226 vK_226
set_option maxRecDepth 100000 in
theorem vR_227_0 : cz_chkR prog_15_method_5_code cr_227_0 = true := rws_ok (p := 0) (by decide +kernel)
theorem vD_227 : cz_chkD cm_227 = true := cz_chkD_of (show ∀ row ∈ [cr_227_0], cz_chkR prog_15_method_5_code row = true from List.forall_mem_cons.mpr ⟨vR_227_0, fun _ w => (by cases w)⟩)
set_option maxRecDepth 100000 in
theorem vK_227 : cz_chkK cm_227 [[8003], [8066]] = true := by decide +kernel
theorem vO_227 : cz_okM cm_227 := cz_chkM_ok cz_allY_ok cz_allC2_ok cz_asl_ok cz_okI0_ok vD_227 vK_227
set_option maxRecDepth 100000 in
theorem vR_228_0 : cz_chkR prog_15_method_52_code cr_228_0 = true := rws_ok (p := 0) (by decide +kernel)
set_option maxRecDepth 100000 in
theorem vR_228_1 : cz_chkR prog_15_method_52_code cr_228_1 = true := rws_ok (p := 16) (by decide +kernel)
set_option maxRecDepth 100000 in
theorem vR_228_2 : cz_chkR prog_15_method_52_code cr_228_2 = true := rws_ok (p := 33) (by decide +kernel)
theorem vD_228 : cz_chkD cm_228 = true := cz_chkD_of (show ∀ row ∈ [cr_228_0, cr_228_1, cr_228_2], cz_chkR prog_15_method_52_code row = true from List.forall_mem_cons.mpr ⟨vR_228_0, List.forall_mem_cons.mpr ⟨vR_228_1, List.forall_mem_cons.mpr ⟨vR_228_2, fun _ w => (by cases w)⟩⟩⟩)
set_option maxRecDepth 100000 in
theorem vK_228 : cz_chkK cm_228 [[0, 9187, 9189, 122], [0, 10073, 10075, 148]] = true := by decide +kernel
theorem vO_228 : cz_okM cm_228 := cz_chkM_ok cz_allY_ok cz_allC2_ok cz_asl_ok cz_okI0_ok vD_228 vK_228
set_option maxRecDepth 100000 in
theorem vR_229_0 : cz_chkR prog_15_method_21_code cr_229_0 = true := rws_ok (p := 0) (by decide +kernel)
set_option maxRecDepth 100000 in
theorem vR_229_1 : cz_chkR prog_15_method_21_code cr_229_1 = true := rws_ok (p := 16) (by decide +kernel)
set_option maxRecDepth 100000 in
theorem vR_229_2 : cz_chkR prog_15_method_21_code cr_229_2 = true := rws_ok (p := 32) (by decide +kernel)
set_option maxRecDepth 100000 in
theorem vR_229_3 : cz_chkR prog_15_method_21_code cr_229_3 = true := rws_ok (p := 48) (by decide +kernel)
set_option maxRecDepth 100000 in
theorem vR_229_4 : cz_chkR prog_15_method_21_code cr_229_4 = true := rws_ok (p := 66) (by decide +kernel)
set_option maxRecDepth 100000 in
theorem vR_229_5 : cz_chkR prog_15_method_21_code cr_229_5 = true := rws_ok (p := 80) (by decide +kernel)
set_option maxRecDepth 100000 in
theorem vR_229_6 : cz_chkR prog_15_method_21_code cr_229_6 = true := rws_ok (p := 97) (by decide +kernel)
set_option maxRecDepth 100000 in
theorem vR_229_7 : cz_chkR prog_15_method_21_code cr_229_7 = true := rws_ok (p := 113) (by decide +kernel)
set_option maxRecDepth 100000 in
theorem vR_229_8 : cz_chkR prog_15_method_21_code cr_229_8 = true := rws_ok (p := 128) (by decide +kernel)
set_option maxRecDepth 100000 in
theorem vR_229_9 : cz_chkR prog_15_method_21_code cr_229_9 = true := rws_ok (p := 144) (by decide +kernel)
set_option maxRecDepth 100000 in
theorem vR_229_10 : cz_chkR prog_15_method_21_code cr_229_10 = true := rws_ok (p := 161) (by decide +kernel)
theorem vD_229 : cz_chkD cm_229 = true := cz_chkD_of (show ∀ row ∈ [cr_229_0, cr_229_1, cr_229_2, cr_229_3, cr_229_4, cr_229_5, cr_229_6, cr_229_7, cr_229_8, cr_229_9, cr_229_10], cz_chkR prog_15_method_21_code row = true from List.forall_mem_cons.mpr ⟨vR_229_0, List.forall_mem_cons.mpr ⟨vR_229_1, List.forall_mem_cons.mpr ⟨vR_229_2, List.forall_mem_cons.mpr ⟨vR_229_3, List.forall_mem_cons.mpr ⟨vR_229_4, List.forall_mem_cons.mpr ⟨vR_229_5, List.forall_mem_cons.mpr ⟨vR_229_6, List.forall_mem_cons.mpr ⟨vR_229_7, List.forall_mem_cons.mpr ⟨vR_229_8, List.forall_mem_cons.mpr ⟨vR_229_9, List.forall_mem_cons.mpr ⟨vR_229_10, fun _ w => (by cases w)⟩⟩⟩⟩⟩⟩⟩⟩⟩⟩⟩)
set_option maxRecDepth 100000 in
theorem vK_229 : cz_chkK cm_229 [[7121], [7127], [7128], [7118], [0, 8062, 8064, 93], [7125], [7126], [8021], [0, 8100, 8102, 102], [8014], [8015], [0, 8075, 8077, 96], [0, 8079, 8081, 97], [0, 8104, 8106, 103], [0, 8120, 8122, 107], [0, 9121, 9123, 108], [8030]] = true := by decide +kernel
theorem vO_229 : cz_okM cm_229 := cz_chkM_ok cz_allY_ok cz_allC2_ok cz_asl_ok cz_okI0_ok vD_229 vK_229
set_option maxRecDepth 100000 in
theorem vR_230_0 : cz_chkR prog_15_method_55_code cr_230_0 = true := rws_ok (p := 0) (by decide +kernel)
set_option maxRecDepth 100000 in
theorem vR_230_1 : cz_chkR prog_15_method_55_code cr_230_1 = true := rws_ok (p := 17) (by decide +kernel)
set_option maxRecDepth 100000 in
theorem vR_230_2 : cz_chkR prog_15_method_55_code cr_230_2 = true := rws_ok (p := 34) (by decide +kernel)
set_option maxRecDepth 100000 in
theorem vR_230_3 : cz_chkR prog_15_method_55_code cr_230_3 = true := rws_ok (p := 48) (by decide +kernel)
set_option maxRecDepth 100000 in
theorem vR_230_4 : cz_chkR prog_15_method_55_code cr_230_4 = true := rws_ok (p := 64) (by decide +kernel)
set_option maxRecDepth 100000 in
theorem vR_230_5 : cz_chkR prog_15_method_55_code cr_230_5 = true := rws_ok (p := 81) (by decide +kernel)
set_option maxRecDepth 100000 in
theorem vR_230_6 : cz_chkR prog_15_method_55_code cr_230_6 = true := rws_ok (p := 96) (by decide +kernel)
set_option maxRecDepth 100000 in
theorem vR_230_7 : cz_chkR prog_15_method_55_code cr_230_7 = true := rws_ok (p := 113) (by decide +kernel)
set_option maxRecDepth 100000 in
theorem vR_230_8 : cz_chkR prog_15_method_55_code cr_230_8 = true := rws_ok (p := 128) (by decide +kernel)
set_option maxRecDepth 100000 in
theorem vR_230_9 : cz_chkR prog_15_method_55_code cr_230_9 = true := rws_ok (p := 145) (by decide +kernel)
set_option maxRecDepth 100000 in
theorem vR_230_10 : cz_chkR prog_15_method_55_code cr_230_10 = true := rws_ok (p := 160) (by decide +kernel)
set_option maxRecDepth 100000 in
theorem vR_230_11 : cz_chkR prog_15_method_55_code cr_230_11 = true := rws_ok (p := 176) (by decide +kernel)
set_option maxRecDepth 100000 in
theorem vR_230_12 : cz_chkR prog_15_method_55_code cr_230_12 = true := rws_ok (p := 192) (by decide +kernel)
set_option maxRecDepth 100000 in
theorem vR_230_13 : cz_chkR prog_15_method_55_code cr_230_13 = true := rws_ok (p := 208) (by decide +kernel)
set_option maxRecDepth 100000 in
theorem vR_230_14 : cz_chkR prog_15_method_55_code cr_230_14 = true := rws_ok (p := 226) (by decide +kernel)
set_option maxRecDepth 100000 in
theorem vR_230_15 : cz_chkR prog_15_method_55_code cr_230_15 = true := rws_ok (p := 240) (by decide +kernel)
set_option maxRecDepth 100000 in
theorem vR_230_16 : cz_chkR prog_15_method_55_code cr_230_16 = true := rws_ok (p := 257) (by decide +kernel)
set_option maxRecDepth 100000 in
theorem vR_230_17 : cz_chkR prog_15_method_55_code cr_230_17 = true := rws_ok (p := 274) (by decide +kernel)
set_option maxRecDepth 100000 in
theorem vR_230_18 : cz_chkR prog_15_method_55_code cr_230_18 = true := rws_ok (p := 289) (by decide +kernel)
set_option maxRecDepth 100000 in
theorem vR_230_19 : cz_chkR prog_15_method_55_code cr_230_19 = true := rws_ok (p := 305) (by decide +kernel)
theorem vD_230 : cz_chkD cm_230 = true := cz_chkD_of (show ∀ row ∈ [cr_230_0, cr_230_1, cr_230_2, cr_230_3, cr_230_4, cr_230_5, cr_230_6, cr_230_7, cr_230_8, cr_230_9, cr_230_10, cr_230_11, cr_230_12, cr_230_13, cr_230_14, cr_230_15, cr_230_16, cr_230_17, cr_230_18, cr_230_19], cz_chkR prog_15_method_55_code row = true from List.forall_mem_cons.mpr ⟨vR_230_0, List.forall_mem_cons.mpr ⟨vR_230_1, List.forall_mem_cons.mpr ⟨vR_230_2, List.forall_mem_cons.mpr ⟨vR_230_3, List.forall_mem_cons.mpr ⟨vR_230_4, List.forall_mem_cons.mpr ⟨vR_230_5, List.forall_mem_cons.mpr ⟨vR_230_6, List.forall_mem_cons.mpr ⟨vR_230_7, List.forall_mem_cons.mpr ⟨vR_230_8, List.forall_mem_cons.mpr ⟨vR_230_9, List.forall_mem_cons.mpr ⟨vR_230_10, List.forall_mem_cons.mpr ⟨vR_230_11, List.forall_mem_cons.mpr ⟨vR_230_12, List.forall_mem_cons.mpr ⟨vR_230_13, List.forall_mem_cons.mpr ⟨vR_230_14, List.forall_mem_cons.mpr ⟨vR_230_15, List.forall_mem_cons.mpr ⟨vR_230_16, List.forall_mem_cons.mpr ⟨vR_230_17, List.forall_mem_cons.mpr ⟨vR_230_18, List.forall_mem_cons.mpr ⟨vR_230_19, fun _ w => (by cases w)⟩⟩⟩⟩⟩⟩⟩⟩⟩⟩⟩⟩⟩⟩⟩⟩⟩⟩⟩⟩)
set_option maxRecDepth 100000 in
theorem vK_230 : cz_chkK cm_230 [[7117], [7119], [8021], [8023], [8014], [8025], [8027], [8029], [8030], [8013], [7120], [0, 9157, 9159, 115], [0, 9220, 9222, 128], [0, 10065, 10067, 146]] = true := by decide +kernel
theorem vO_230 : cz_okM cm_230 := cz_chkM_ok cz_allY_ok cz_allC2_ok cz_asl_ok cz_okI0_ok vD_230 vK_230
set_option maxRecDepth 100000 in
theorem vR_231_0 : cz_chkR prog_15_method_28_code cr_231_0 = true := rws_ok (p := 0) (by decide +kernel)
set_option maxRecDepth 100000 in
theorem vR_231_1 : cz_chkR prog_15_method_28_code cr_231_1 = true := rws_ok (p := 16) (by decide +kernel)
theorem vD_231 : cz_chkD cm_231 = true := cz_chkD_of (show ∀ row ∈ [cr_231_0, cr_231_1], cz_chkR prog_15_method_28_code row = true from List.forall_mem_cons.mpr ⟨vR_231_0, List.forall_mem_cons.mpr ⟨vR_231_1, fun _ w => (by cases w)⟩⟩)
set_option maxRecDepth 100000 in
theorem vK_231 : cz_chkK cm_231 [[8016], [0, 9157, 9159, 115]] = true := by decide +kernel
theorem vO_231 : cz_okM cm_231 := cz_chkM_ok cz_allY_ok cz_allC2_ok cz_asl_ok cz_okI0_ok vD_231 vK_231
set_option maxRecDepth 100000 in
theorem vR_232_0 : cz_chkR prog_15_method_59_code cr_232_0 = true := rws_ok (p := 0) (by decide +kernel)
set_option maxRecDepth 100000 in
theorem vR_232_1 : cz_chkR prog_15_method_59_code cr_232_1 = true := rws_ok (p := 18) (by decide +kernel)
set_option maxRecDepth 100000 in
theorem vR_232_2 : cz_chkR prog_15_method_59_code cr_232_2 = true := rws_ok (p := 32) (by decide +kernel)
set_option maxRecDepth 100000 in
theorem vR_232_3 : cz_chkR prog_15_method_59_code cr_232_3 = true := rws_ok (p := 48) (by decide +kernel)
set_option maxRecDepth 100000 in
theorem vR_232_4 : cz_chkR prog_15_method_59_code cr_232_4 = true := rws_ok (p := 64) (by decide +kernel)
set_option maxRecDepth 100000 in
theorem vR_232_5 : cz_chkR prog_15_method_59_code cr_232_5 = true := rws_ok (p := 80) (by decide +kernel)
set_option maxRecDepth 100000 in
theorem vR_232_6 : cz_chkR prog_15_method_59_code cr_232_6 = true := rws_ok (p := 96) (by decide +kernel)
set_option maxRecDepth 100000 in
theorem vR_232_7 : cz_chkR prog_15_method_59_code cr_232_7 = true := rws_ok (p := 112) (by decide +kernel)
set_option maxRecDepth 100000 in
theorem vR_232_8 : cz_chkR prog_15_method_59_code cr_232_8 = true := rws_ok (p := 128) (by decide +kernel)
set_option maxRecDepth 100000 in
theorem vR_232_9 : cz_chkR prog_15_method_59_code cr_232_9 = true := rws_ok (p := 145) (by decide +kernel)
set_option maxRecDepth 100000 in
theorem vR_232_10 : cz_chkR prog_15_method_59_code cr_232_10 = true := rws_ok (p := 161) (by decide +kernel)
theorem vD_232 : cz_chkD cm_232 = true := cz_chkD_of (show ∀ row ∈ [cr_232_0, cr_232_1, cr_232_2, cr_232_3, cr_232_4, cr_232_5, cr_232_6, cr_232_7, cr_232_8, cr_232_9, cr_232_10], cz_chkR prog_15_method_59_code row = true from List.forall_mem_cons.mpr ⟨vR_232_0, List.forall_mem_cons.mpr ⟨vR_232_1, List.forall_mem_cons.mpr ⟨vR_232_2, List.forall_mem_cons.mpr ⟨vR_232_3, List.forall_mem_cons.mpr ⟨vR_232_4, List.forall_mem_cons.mpr ⟨vR_232_5, List.forall_mem_cons.mpr ⟨vR_232_6, List.forall_mem_cons.mpr ⟨vR_232_7, List.forall_mem_cons.mpr ⟨vR_232_8, List.forall_mem_cons.mpr ⟨vR_232_9, List.forall_mem_cons.mpr ⟨vR_232_10, fun _ w => (by cases w)⟩⟩⟩⟩⟩⟩⟩⟩⟩⟩⟩)
set_option maxRecDepth 100000 in
theorem vK_232 : cz_chkK cm_232 [[7113], [7114], [7108], [0, 8004, 8006, 91], [7115], [7138], [9211], [0, 9212, 9214, 126], [0, 9233, 9235, 131], [0, 10061, 10063, 145], [0, 10009, 10011, 132], [0, 10081, 10083, 150]] = true := by decide +kernel
theorem vO_232 : cz_okM cm_232 := cz_chkM_ok cz_allY_ok cz_allC2_ok cz_asl_ok cz_okI0_ok vD_232 vK_232
set_option maxRecDepth 100000 in
theorem vR_233_0 : cz_chkR prog_15_method_65_code cr_233_0 = true := rws_ok (p := 0) (by decide +kernel)
set_option maxRecDepth 100000 in
theorem vR_233_1 : cz_chkR prog_15_method_65_code cr_233_1 = true := rws_ok (p := 16) (by decide +kernel)
set_option maxRecDepth 100000 in
theorem vR_233_2 : cz_chkR prog_15_method_65_code cr_233_2 = true := rws_ok (p := 34) (by decide +kernel)
set_option maxRecDepth 100000 in
theorem vR_233_3 : cz_chkR prog_15_method_65_code cr_233_3 = true := rws_ok (p := 48) (by decide +kernel)
set_option maxRecDepth 100000 in
theorem vR_233_4 : cz_chkR prog_15_method_65_code cr_233_4 = true := rws_ok (p := 66) (by decide +kernel)
set_option maxRecDepth 100000 in
theorem vR_233_5 : cz_chkR prog_15_method_65_code cr_233_5 = true := rws_ok (p := 80) (by decide +kernel)
set_option maxRecDepth 100000 in
theorem vR_233_6 : cz_chkR prog_15_method_65_code cr_233_6 = true := rws_ok (p := 96) (by decide +kernel)
set_option maxRecDepth 100000 in
theorem vR_233_7 : cz_chkR prog_15_method_65_code cr_233_7 = true := rws_ok (p := 112) (by decide +kernel)
set_option maxRecDepth 100000 in
theorem vR_233_8 : cz_chkR prog_15_method_65_code cr_233_8 = true := rws_ok (p := 130) (by decide +kernel)
set_option maxRecDepth 100000 in
theorem vR_233_9 : cz_chkR prog_15_method_65_code cr_233_9 = true := rws_ok (p := 144) (by decide +kernel)
set_option maxRecDepth 100000 in
theorem vR_233_10 : cz_chkR prog_15_method_65_code cr_233_10 = true := rws_ok (p := 161) (by decide +kernel)
set_option maxRecDepth 100000 in
theorem vR_233_11 : cz_chkR prog_15_method_65_code cr_233_11 = true := rws_ok (p := 177) (by decide +kernel)
set_option maxRecDepth 100000 in
theorem vR_233_12 : cz_chkR prog_15_method_65_code cr_233_12 = true := rws_ok (p := 193) (by decide +kernel)
set_option maxRecDepth 100000 in
theorem vR_233_13 : cz_chkR prog_15_method_65_code cr_233_13 = true := rws_ok (p := 210) (by decide +kernel)
set_option maxRecDepth 100000 in
theorem vR_233_14 : cz_chkR prog_15_method_65_code cr_233_14 = true := rws_ok (p := 224) (by decide +kernel)
set_option maxRecDepth 100000 in
theorem vR_233_15 : cz_chkR prog_15_method_65_code cr_233_15 = true := rws_ok (p := 240) (by decide +kernel)
set_option maxRecDepth 100000 in
theorem vR_233_16 : cz_chkR prog_15_method_65_code cr_233_16 = true := rws_ok (p := 257) (by decide +kernel)
set_option maxRecDepth 100000 in
theorem vR_233_17 : cz_chkR prog_15_method_65_code cr_233_17 = true := rws_ok (p := 272) (by decide +kernel)
set_option maxRecDepth 100000 in
theorem vR_233_18 : cz_chkR prog_15_method_65_code cr_233_18 = true := rws_ok (p := 290) (by decide +kernel)
set_option maxRecDepth 100000 in
theorem vR_233_19 : cz_chkR prog_15_method_65_code cr_233_19 = true := rws_ok (p := 304) (by decide +kernel)
theorem vD_233 : cz_chkD cm_233 = true := cz_chkD_of (show ∀ row ∈ [cr_233_0, cr_233_1, cr_233_2, cr_233_3, cr_233_4, cr_233_5, cr_233_6, cr_233_7, cr_233_8, cr_233_9, cr_233_10, cr_233_11, cr_233_12, cr_233_13, cr_233_14, cr_233_15, cr_233_16, cr_233_17, cr_233_18, cr_233_19], cz_chkR prog_15_method_65_code row = true from List.forall_mem_cons.mpr ⟨vR_233_0, List.forall_mem_cons.mpr ⟨vR_233_1, List.forall_mem_cons.mpr ⟨vR_233_2, List.forall_mem_cons.mpr ⟨vR_233_3, List.forall_mem_cons.mpr ⟨vR_233_4, List.forall_mem_cons.mpr ⟨vR_233_5, List.forall_mem_cons.mpr ⟨vR_233_6, List.forall_mem_cons.mpr ⟨vR_233_7, List.forall_mem_cons.mpr ⟨vR_233_8, List.forall_mem_cons.mpr ⟨vR_233_9, List.forall_mem_cons.mpr ⟨vR_233_10, List.forall_mem_cons.mpr ⟨vR_233_11, List.forall_mem_cons.mpr ⟨vR_233_12, List.forall_mem_cons.mpr ⟨vR_233_13, List.forall_mem_cons.mpr ⟨vR_233_14, List.forall_mem_cons.mpr ⟨vR_233_15, List.forall_mem_cons.mpr ⟨vR_233_16, List.forall_mem_cons.mpr ⟨vR_233_17, List.forall_mem_cons.mpr ⟨vR_233_18, List.forall_mem_cons.mpr ⟨vR_233_19, fun _ w => (by cases w)⟩⟩⟩⟩⟩⟩⟩⟩⟩⟩⟩⟩⟩⟩⟩⟩⟩⟩⟩⟩)
set_option maxRecDepth 100000 in
theorem vK_233 : cz_chkK cm_233 [[0, 9187, 9189, 122], [0, 10021, 10023, 135]] = true := by decide +kernel
theorem vO_233 : cz_okM cm_233 := cz_chkM_ok cz_allY_ok cz_allC2_ok cz_asl_ok cz_okI0_ok vD_233 vK_233
set_option maxRecDepth 100000 in
theorem vR_234_0 : cz_chkR prog_15_method_12_code cr_234_0 = true := rws_ok (p := 0) (by decide +kernel)
set_option maxRecDepth 100000 in
theorem vR_234_1 : cz_chkR prog_15_method_12_code cr_234_1 = true := rws_ok (p := 16) (by decide +kernel)
set_option maxRecDepth 100000 in
theorem vR_234_2 : cz_chkR prog_15_method_12_code cr_234_2 = true := rws_ok (p := 34) (by decide +kernel)
set_option maxRecDepth 100000 in
theorem vR_234_3 : cz_chkR prog_15_method_12_code cr_234_3 = true := rws_ok (p := 49) (by decide +kernel)
set_option maxRecDepth 100000 in
theorem vR_234_4 : cz_chkR prog_15_method_12_code cr_234_4 = true := rws_ok (p := 64) (by decide +kernel)
set_option maxRecDepth 100000 in
theorem vR_234_5 : cz_chkR prog_15_method_12_code cr_234_5 = true := rws_ok (p := 81) (by decide +kernel)
set_option maxRecDepth 100000 in
theorem vR_234_6 : cz_chkR prog_15_method_12_code cr_234_6 = true := rws_ok (p := 96) (by decide +kernel)
theorem vD_234 : cz_chkD cm_234 = true := cz_chkD_of (show ∀ row ∈ [cr_234_0, cr_234_1, cr_234_2, cr_234_3, cr_234_4, cr_234_5, cr_234_6], cz_chkR prog_15_method_12_code row = true from List.forall_mem_cons.mpr ⟨vR_234_0, List.forall_mem_cons.mpr ⟨vR_234_1, List.forall_mem_cons.mpr ⟨vR_234_2, List.forall_mem_cons.mpr ⟨vR_234_3, List.forall_mem_cons.mpr ⟨vR_234_4, List.forall_mem_cons.mpr ⟨vR_234_5, List.forall_mem_cons.mpr ⟨vR_234_6, fun _ w => (by cases w)⟩⟩⟩⟩⟩⟩⟩)
set_option maxRecDepth 100000 in
theorem vK_234 : cz_chkK cm_234 [[7109], [0, 8062, 8064, 93], [7125], [0, 8087, 8089, 99], [8095]] = true := by decide +kernel
theorem vO_234 : cz_okM cm_234 := cz_chkM_ok cz_allY_ok cz_allC2_ok cz_asl_ok cz_okI0_ok vD_234 vK_234
set_option maxRecDepth 100000 in
theorem vR_235_0 : cz_chkR prog_15_method_15_code cr_235_0 = true := rws_ok (p := 0) (by decide +kernel)
set_option maxRecDepth 100000 in
theorem vR_235_1 : cz_chkR prog_15_method_15_code cr_235_1 = true := rws_ok (p := 16) (by decide +kernel)
set_option maxRecDepth 100000 in
theorem vR_235_2 : cz_chkR prog_15_method_15_code cr_235_2 = true := rws_ok (p := 32) (by decide +kernel)
set_option maxRecDepth 100000 in
theorem vR_235_3 : cz_chkR prog_15_method_15_code cr_235_3 = true := rws_ok (p := 49) (by decide +kernel)
set_option maxRecDepth 100000 in
theorem vR_235_4 : cz_chkR prog_15_method_15_code cr_235_4 = true := rws_ok (p := 64) (by decide +kernel)
set_option maxRecDepth 100000 in
theorem vR_235_5 : cz_chkR prog_15_method_15_code cr_235_5 = true := rws_ok (p := 80) (by decide +kernel)
theorem vD_235 : cz_chkD cm_235 = true := cz_chkD_of (show ∀ row ∈ [cr_235_0, cr_235_1, cr_235_2, cr_235_3, cr_235_4, cr_235_5], cz_chkR prog_15_method_15_code row = true from List.forall_mem_cons.mpr ⟨vR_235_0, List.forall_mem_cons.mpr ⟨vR_235_1, List.forall_mem_cons.mpr ⟨vR_235_2, List.forall_mem_cons.mpr ⟨vR_235_3, List.forall_mem_cons.mpr ⟨vR_235_4, List.forall_mem_cons.mpr ⟨vR_235_5, fun _ w => (by cases w)⟩⟩⟩⟩⟩⟩)
set_option maxRecDepth 100000 in
theorem vK_235 : cz_chkK cm_235 [[0, 8062, 8064, 93], [7125], [0, 8091, 8093, 100], [0, 8083, 8085, 98], [8014], [8015], [0, 8096, 8098, 101]] = true := by decide +kernel
theorem vO_235 : cz_okM cm_235 := cz_chkM_ok cz_allY_ok cz_allC2_ok cz_asl_ok cz_okI0_ok vD_235 vK_235
set_option maxRecDepth 100000 in
theorem vR_236_0 : cz_chkR prog_15_method_24_code cr_236_0 = true := rws_ok (p := 0) (by decide +kernel)
set_option maxRecDepth 100000 in
theorem vR_236_1 : cz_chkR prog_15_method_24_code cr_236_1 = true := rws_ok (p := 17) (by decide +kernel)
set_option maxRecDepth 100000 in
theorem vR_236_2 : cz_chkR prog_15_method_24_code cr_236_2 = true := rws_ok (p := 32) (by decide +kernel)
set_option maxRecDepth 100000 in
theorem vR_236_3 : cz_chkR prog_15_method_24_code cr_236_3 = true := rws_ok (p := 50) (by decide +kernel)
set_option maxRecDepth 100000 in
theorem vR_236_4 : cz_chkR prog_15_method_24_code cr_236_4 = true := rws_ok (p := 64) (by decide +kernel)
set_option maxRecDepth 100000 in
theorem vR_236_5 : cz_chkR prog_15_method_24_code cr_236_5 = true := rws_ok (p := 82) (by decide +kernel)
set_option maxRecDepth 100000 in
theorem vR_236_6 : cz_chkR prog_15_method_24_code cr_236_6 = true := rws_ok (p := 96) (by decide +kernel)
set_option maxRecDepth 100000 in
theorem vR_236_7 : cz_chkR prog_15_method_24_code cr_236_7 = true := rws_ok (p := 114) (by decide +kernel)
set_option maxRecDepth 100000 in
theorem vR_236_8 : cz_chkR prog_15_method_24_code cr_236_8 = true := rws_ok (p := 129) (by decide +kernel)
set_option maxRecDepth 100000 in
theorem vR_236_9 : cz_chkR prog_15_method_24_code cr_236_9 = true := rws_ok (p := 144) (by decide +kernel)
set_option maxRecDepth 100000 in
theorem vR_236_10 : cz_chkR prog_15_method_24_code cr_236_10 = true := rws_ok (p := 161) (by decide +kernel)
set_option maxRecDepth 100000 in
theorem vR_236_11 : cz_chkR prog_15_method_24_code cr_236_11 = true := rws_ok (p := 177) (by decide +kernel)
set_option maxRecDepth 100000 in
theorem vR_236_12 : cz_chkR prog_15_method_24_code cr_236_12 = true := rws_ok (p := 192) (by decide +kernel)
set_option maxRecDepth 100000 in
theorem vR_236_13 : cz_chkR prog_15_method_24_code cr_236_13 = true := rws_ok (p := 208) (by decide +kernel)
set_option maxRecDepth 100000 in
theorem vR_236_14 : cz_chkR prog_15_method_24_code cr_236_14 = true := rws_ok (p := 225) (by decide +kernel)
set_option maxRecDepth 100000 in
theorem vR_236_15 : cz_chkR prog_15_method_24_code cr_236_15 = true := rws_ok (p := 240) (by decide +kernel)
set_option maxRecDepth 100000 in
theorem vR_236_16 : cz_chkR prog_15_method_24_code cr_236_16 = true := rws_ok (p := 257) (by decide +kernel)
set_option maxRecDepth 100000 in
theorem vR_236_17 : cz_chkR prog_15_method_24_code cr_236_17 = true := rws_ok (p := 272) (by decide +kernel)
set_option maxRecDepth 100000 in
theorem vR_236_18 : cz_chkR prog_15_method_24_code cr_236_18 = true := rws_ok (p := 288) (by decide +kernel)
theorem vD_236 : cz_chkD cm_236 = true := cz_chkD_of (show ∀ row ∈ [cr_236_0, cr_236_1, cr_236_2, cr_236_3, cr_236_4, cr_236_5, cr_236_6, cr_236_7, cr_236_8, cr_236_9, cr_236_10, cr_236_11, cr_236_12, cr_236_13, cr_236_14, cr_236_15, cr_236_16, cr_236_17, cr_236_18], cz_chkR prog_15_method_24_code row = true from List.forall_mem_cons.mpr ⟨vR_236_0, List.forall_mem_cons.mpr ⟨vR_236_1, List.forall_mem_cons.mpr ⟨vR_236_2, List.forall_mem_cons.mpr ⟨vR_236_3, List.forall_mem_cons.mpr ⟨vR_236_4, List.forall_mem_cons.mpr ⟨vR_236_5, List.forall_mem_cons.mpr ⟨vR_236_6, List.forall_mem_cons.mpr ⟨vR_236_7, List.forall_mem_cons.mpr ⟨vR_236_8, List.forall_mem_cons.mpr ⟨vR_236_9, List.forall_mem_cons.mpr ⟨vR_236_10, List.forall_mem_cons.mpr ⟨vR_236_11, List.forall_mem_cons.mpr ⟨vR_236_12, List.forall_mem_cons.mpr ⟨vR_236_13, List.forall_mem_cons.mpr ⟨vR_236_14, List.forall_mem_cons.mpr ⟨vR_236_15, List.forall_mem_cons.mpr ⟨vR_236_16, List.forall_mem_cons.mpr ⟨vR_236_17, List.forall_mem_cons.mpr ⟨vR_236_18, fun _ w => (by cases w)⟩⟩⟩⟩⟩⟩⟩⟩⟩⟩⟩⟩⟩⟩⟩⟩⟩⟩⟩)
set_option maxRecDepth 100000 in
theorem vK_236 : cz_chkK cm_236 [[7118], [0, 8062, 8064, 93], [7125], [7126], [0, 8091, 8093, 100], [0, 8087, 8089, 99], [8021], [8023], [0, 8108, 8110, 104], [0, 8100, 8102, 102], [0, 8075, 8077, 96], [0, 8104, 8106, 103]] = true := by decide +kernel
theorem vO_236 : cz_okM cm_236 := cz_chkM_ok cz_allY_ok cz_allC2_ok cz_asl_ok cz_okI0_ok vD_236 vK_236
set_option maxRecDepth 100000 in
theorem vR_237_0 : cz_chkR prog_15_method_32_code cr_237_0 = true := rws_ok (p := 0) (by decide +kernel)
set_option maxRecDepth 100000 in
theorem vR_237_1 : cz_chkR prog_15_method_32_code cr_237_1 = true := rws_ok (p := 16) (by decide +kernel)
set_option maxRecDepth 100000 in
theorem vR_237_2 : cz_chkR prog_15_method_32_code cr_237_2 = true := rws_ok (p := 33) (by decide +kernel)
set_option maxRecDepth 100000 in
theorem vR_237_3 : cz_chkR prog_15_method_32_code cr_237_3 = true := rws_ok (p := 48) (by decide +kernel)
set_option maxRecDepth 100000 in
theorem vR_237_4 : cz_chkR prog_15_method_32_code cr_237_4 = true := rws_ok (p := 64) (by decide +kernel)
set_option maxRecDepth 100000 in
theorem vR_237_5 : cz_chkR prog_15_method_32_code cr_237_5 = true := rws_ok (p := 81) (by decide +kernel)
set_option maxRecDepth 100000 in
theorem vR_237_6 : cz_chkR prog_15_method_32_code cr_237_6 = true := rws_ok (p := 96) (by decide +kernel)
set_option maxRecDepth 100000 in
theorem vR_237_7 : cz_chkR prog_15_method_32_code cr_237_7 = true := rws_ok (p := 114) (by decide +kernel)
set_option maxRecDepth 100000 in
theorem vR_237_8 : cz_chkR prog_15_method_32_code cr_237_8 = true := rws_ok (p := 129) (by decide +kernel)
set_option maxRecDepth 100000 in
theorem vR_237_9 : cz_chkR prog_15_method_32_code cr_237_9 = true := rws_ok (p := 144) (by decide +kernel)
set_option maxRecDepth 100000 in
theorem vR_237_10 : cz_chkR prog_15_method_32_code cr_237_10 = true := rws_ok (p := 160) (by decide +kernel)
set_option maxRecDepth 100000 in
theorem vR_237_11 : cz_chkR prog_15_method_32_code cr_237_11 = true := rws_ok (p := 177) (by decide +kernel)
set_option maxRecDepth 100000 in
theorem vR_237_12 : cz_chkR prog_15_method_32_code cr_237_12 = true := rws_ok (p := 193) (by decide +kernel)
set_option maxRecDepth 100000 in
theorem vR_237_13 : cz_chkR prog_15_method_32_code cr_237_13 = true := rws_ok (p := 208) (by decide +kernel)
set_option maxRecDepth 100000 in
theorem vR_237_14 : cz_chkR prog_15_method_32_code cr_237_14 = true := rws_ok (p := 226) (by decide +kernel)
theorem vD_237 : cz_chkD cm_237 = true := cz_chkD_of (show ∀ row ∈ [cr_237_0, cr_237_1, cr_237_2, cr_237_3, cr_237_4, cr_237_5, cr_237_6, cr_237_7, cr_237_8, cr_237_9, cr_237_10, cr_237_11, cr_237_12, cr_237_13, cr_237_14], cz_chkR prog_15_method_32_code row = true from List.forall_mem_cons.mpr ⟨vR_237_0, List.forall_mem_cons.mpr ⟨vR_237_1, List.forall_mem_cons.mpr ⟨vR_237_2, List.forall_mem_cons.mpr ⟨vR_237_3, List.forall_mem_cons.mpr ⟨vR_237_4, List.forall_mem_cons.mpr ⟨vR_237_5, List.forall_mem_cons.mpr ⟨vR_237_6, List.forall_mem_cons.mpr ⟨vR_237_7, List.forall_mem_cons.mpr ⟨vR_237_8, List.forall_mem_cons.mpr ⟨vR_237_9, List.forall_mem_cons.mpr ⟨vR_237_10, List.forall_mem_cons.mpr ⟨vR_237_11, List.forall_mem_cons.mpr ⟨vR_237_12, List.forall_mem_cons.mpr ⟨vR_237_13, List.forall_mem_cons.mpr ⟨vR_237_14, fun _ w => (by cases w)⟩⟩⟩⟩⟩⟩⟩⟩⟩⟩⟩⟩⟩⟩⟩)
set_option maxRecDepth 100000 in
theorem vK_237 : cz_chkK cm_237 [[7119], [7129], [7130], [8014], [8018], [8013], [7120], [0, 9157, 9159, 115], [7131], [7062, 7063]] = true := by decide +kernel
theorem vO_237 : cz_okM cm_237 := cz_chkM_ok cz_allY_ok cz_allC2_ok cz_asl_ok cz_okI0_ok vD_237 vK_237
set_option maxRecDepth 100000 in
theorem vR_238_0 : cz_chkR prog_15_method_85_code cr_238_0 = true := rws_ok (p := 0) (by decide +kernel)
set_option maxRecDepth 100000 in
theorem vR_238_1 : cz_chkR prog_15_method_85_code cr_238_1 = true := rws_ok (p := 18) (by decide +kernel)
set_option maxRecDepth 100000 in
theorem vR_238_2 : cz_chkR prog_15_method_85_code cr_238_2 = true := rws_ok (p := 32) (by decide +kernel)
set_option maxRecDepth 100000 in
theorem vR_238_3 : cz_chkR prog_15_method_85_code cr_238_3 = true := rws_ok (p := 49) (by decide +kernel)
set_option maxRecDepth 100000 in
theorem vR_238_4 : cz_chkR prog_15_method_85_code cr_238_4 = true := rws_ok (p := 64) (by decide +kernel)
set_option maxRecDepth 100000 in
theorem vR_238_5 : cz_chkR prog_15_method_85_code cr_238_5 = true := rws_ok (p := 81) (by decide +kernel)
set_option maxRecDepth 100000 in
theorem vR_238_6 : cz_chkR prog_15_method_85_code cr_238_6 = true := rws_ok (p := 97) (by decide +kernel)
set_option maxRecDepth 100000 in
theorem vR_238_7 : cz_chkR prog_15_method_85_code cr_238_7 = true := rws_ok (p := 113) (by decide +kernel)
set_option maxRecDepth 100000 in
theorem vR_238_8 : cz_chkR prog_15_method_85_code cr_238_8 = true := rws_ok (p := 128) (by decide +kernel)
set_option maxRecDepth 100000 in
theorem vR_238_9 : cz_chkR prog_15_method_85_code cr_238_9 = true := rws_ok (p := 145) (by decide +kernel)
set_option maxRecDepth 100000 in
theorem vR_238_10 : cz_chkR prog_15_method_85_code cr_238_10 = true := rws_ok (p := 161) (by decide +kernel)
set_option maxRecDepth 100000 in
theorem vR_238_11 : cz_chkR prog_15_method_85_code cr_238_11 = true := rws_ok (p := 176) (by decide +kernel)
set_option maxRecDepth 100000 in
theorem vR_238_12 : cz_chkR prog_15_method_85_code cr_238_12 = true := rws_ok (p := 192) (by decide +kernel)
theorem vD_238 : cz_chkD cm_238 = true := cz_chkD_of (show ∀ row ∈ [cr_238_0, cr_238_1, cr_238_2, cr_238_3, cr_238_4, cr_238_5, cr_238_6, cr_238_7, cr_238_8, cr_238_9, cr_238_10, cr_238_11, cr_238_12], cz_chkR prog_15_method_85_code row = true from List.forall_mem_cons.mpr ⟨vR_238_0, List.forall_mem_cons.mpr ⟨vR_238_1, List.forall_mem_cons.mpr ⟨vR_238_2, List.forall_mem_cons.mpr ⟨vR_238_3, List.forall_mem_cons.mpr ⟨vR_238_4, List.forall_mem_cons.mpr ⟨vR_238_5, List.forall_mem_cons.mpr ⟨vR_238_6, List.forall_mem_cons.mpr ⟨vR_238_7, List.forall_mem_cons.mpr ⟨vR_238_8, List.forall_mem_cons.mpr ⟨vR_238_9, List.forall_mem_cons.mpr ⟨vR_238_10, List.forall_mem_cons.mpr ⟨vR_238_11, List.forall_mem_cons.mpr ⟨vR_238_12, fun _ w => (by cases w)⟩⟩⟩⟩⟩⟩⟩⟩⟩⟩⟩⟩⟩)
set_option maxRecDepth 100000 in
theorem vK_238 : cz_chkK cm_238 [[7147], [7148], [7108], [0, 8004, 8006, 91], [7115], [9211], [0, 9212, 9214, 126], [7149], [0, 10117, 10119, 155]] = true := by decide +kernel
theorem vO_238 : cz_okM cm_238 := cz_chkM_ok cz_allY_ok cz_allC2_ok cz_asl_ok cz_okI0_ok vD_238 vK_238
set_option maxRecDepth 100000 in
theorem vR_239_0 : cz_chkR prog_15_method_46_code cr_239_0 = true := rws_ok (p := 0) (by decide +kernel)
set_option maxRecDepth 100000 in
theorem vR_239_1 : cz_chkR prog_15_method_46_code cr_239_1 = true := rws_ok (p := 16) (by decide +kernel)
set_option maxRecDepth 100000 in
theorem vR_239_2 : cz_chkR prog_15_method_46_code cr_239_2 = true := rws_ok (p := 33) (by decide +kernel)
set_option maxRecDepth 100000 in
theorem vR_239_3 : cz_chkR prog_15_method_46_code cr_239_3 = true := rws_ok (p := 50) (by decide +kernel)
set_option maxRecDepth 100000 in
theorem vR_239_4 : cz_chkR prog_15_method_46_code cr_239_4 = true := rws_ok (p := 65) (by decide +kernel)
set_option maxRecDepth 100000 in
theorem vR_239_5 : cz_chkR prog_15_method_46_code cr_239_5 = true := rws_ok (p := 80) (by decide +kernel)
set_option maxRecDepth 100000 in
theorem vR_239_6 : cz_chkR prog_15_method_46_code cr_239_6 = true := rws_ok (p := 97) (by decide +kernel)
set_option maxRecDepth 100000 in
theorem vR_239_7 : cz_chkR prog_15_method_46_code cr_239_7 = true := rws_ok (p := 112) (by decide +kernel)
set_option maxRecDepth 100000 in
theorem vR_239_8 : cz_chkR prog_15_method_46_code cr_239_8 = true := rws_ok (p := 128) (by decide +kernel)
set_option maxRecDepth 100000 in
theorem vR_239_9 : cz_chkR prog_15_method_46_code cr_239_9 = true := rws_ok (p := 144) (by decide +kernel)
set_option maxRecDepth 100000 in
theorem vR_239_10 : cz_chkR prog_15_method_46_code cr_239_10 = true := rws_ok (p := 160) (by decide +kernel)
set_option maxRecDepth 100000 in
theorem vR_239_11 : cz_chkR prog_15_method_46_code cr_239_11 = true := rws_ok (p := 178) (by decide +kernel)
theorem vD_239 : cz_chkD cm_239 = true := cz_chkD_of (show ∀ row ∈ [cr_239_0, cr_239_1, cr_239_2, cr_239_3, cr_239_4, cr_239_5, cr_239_6, cr_239_7, cr_239_8, cr_239_9, cr_239_10, cr_239_11], cz_chkR prog_15_method_46_code row = true from List.forall_mem_cons.mpr ⟨vR_239_0, List.forall_mem_cons.mpr ⟨vR_239_1, List.forall_mem_cons.mpr ⟨vR_239_2, List.forall_mem_cons.mpr ⟨vR_239_3, List.forall_mem_cons.mpr ⟨vR_239_4, List.forall_mem_cons.mpr ⟨vR_239_5, List.forall_mem_cons.mpr ⟨vR_239_6, List.forall_mem_cons.mpr ⟨vR_239_7, List.forall_mem_cons.mpr ⟨vR_239_8, List.forall_mem_cons.mpr ⟨vR_239_9, List.forall_mem_cons.mpr ⟨vR_239_10, List.forall_mem_cons.mpr ⟨vR_239_11, fun _ w => (by cases w)⟩⟩⟩⟩⟩⟩⟩⟩⟩⟩⟩⟩)
set_option maxRecDepth 100000 in
theorem vK_239 : cz_chkK cm_239 [[7137], [7140], [0, 9191, 9193, 123], [0, 9199, 9201, 125], [7138]] = true := by decide +kernel
theorem vO_239 : cz_okM cm_239 := cz_chkM_ok cz_allY_ok cz_allC2_ok cz_asl_ok cz_okI0_ok vD_239 vK_239
set_option maxRecDepth 100000 in
theorem vR_240_0 : cz_chkR prog_15_method_40_code cr_240_0 = true := rws_ok (p := 0) (by decide +kernel)
set_option maxRecDepth 100000 in
theorem vR_240_1 : cz_chkR prog_15_method_40_code cr_240_1 = true := rws_ok (p := 17) (by decide +kernel)
set_option maxRecDepth 100000 in
theorem vR_240_2 : cz_chkR prog_15_method_40_code cr_240_2 = true := rws_ok (p := 34) (by decide +kernel)
set_option maxRecDepth 100000 in
theorem vR_240_3 : cz_chkR prog_15_method_40_code cr_240_3 = true := rws_ok (p := 48) (by decide +kernel)
set_option maxRecDepth 100000 in
theorem vR_240_4 : cz_chkR prog_15_method_40_code cr_240_4 = true := rws_ok (p := 64) (by decide +kernel)
set_option maxRecDepth 100000 in
theorem vR_240_5 : cz_chkR prog_15_method_40_code cr_240_5 = true := rws_ok (p := 81) (by decide +kernel)
set_option maxRecDepth 100000 in
theorem vR_240_6 : cz_chkR prog_15_method_40_code cr_240_6 = true := rws_ok (p := 97) (by decide +kernel)
set_option maxRecDepth 100000 in
theorem vR_240_7 : cz_chkR prog_15_method_40_code cr_240_7 = true := rws_ok (p := 114) (by decide +kernel)
theorem vD_240 : cz_chkD cm_240 = true := cz_chkD_of (show ∀ row ∈ [cr_240_0, cr_240_1, cr_240_2, cr_240_3, cr_240_4, cr_240_5, cr_240_6, cr_240_7], cz_chkR prog_15_method_40_code row = true from List.forall_mem_cons.mpr ⟨vR_240_0, List.forall_mem_cons.mpr ⟨vR_240_1, List.forall_mem_cons.mpr ⟨vR_240_2, List.forall_mem_cons.mpr ⟨vR_240_3, List.forall_mem_cons.mpr ⟨vR_240_4, List.forall_mem_cons.mpr ⟨vR_240_5, List.forall_mem_cons.mpr ⟨vR_240_6, List.forall_mem_cons.mpr ⟨vR_240_7, fun _ w => (by cases w)⟩⟩⟩⟩⟩⟩⟩⟩)
set_option maxRecDepth 100000 in
theorem vK_240 : cz_chkK cm_240 [[7117], [7129], [7130], [7135], [8021], [9165], [0, 9161, 9163, 116], [7136], [0, 9195, 9197, 124]] = true := by decide +kernel
theorem vO_240 : cz_okM cm_240 := cz_chkM_ok cz_allY_ok cz_allC2_ok cz_asl_ok cz_okI0_ok vD_240 vK_240
set_option maxRecDepth 100000 in
theorem vR_241_0 : cz_chkR prog_15_method_98_code cr_241_0 = true := rws_ok (p := 0) (by decide +kernel)
set_option maxRecDepth 100000 in
theorem vR_241_1 : cz_chkR prog_15_method_98_code cr_241_1 = true := rws_ok (p := 16) (by decide +kernel)
set_option maxRecDepth 100000 in
theorem vR_241_2 : cz_chkR prog_15_method_98_code cr_241_2 = true := rws_ok (p := 32) (by decide +kernel)
set_option maxRecDepth 100000 in
theorem vR_241_3 : cz_chkR prog_15_method_98_code cr_241_3 = true := rws_ok (p := 48) (by decide +kernel)
set_option maxRecDepth 100000 in
theorem vR_241_4 : cz_chkR prog_15_method_98_code cr_241_4 = true := rws_ok (p := 66) (by decide +kernel)
theorem vD_241 : cz_chkD cm_241 = true := cz_chkD_of (show ∀ row ∈ [cr_241_0, cr_241_1, cr_241_2, cr_241_3, cr_241_4], cz_chkR prog_15_method_98_code row = true from List.forall_mem_cons.mpr ⟨vR_241_0, List.forall_mem_cons.mpr ⟨vR_241_1, List.forall_mem_cons.mpr ⟨vR_241_2, List.forall_mem_cons.mpr ⟨vR_241_3, List.forall_mem_cons.mpr ⟨vR_241_4, fun _ w => (by cases w)⟩⟩⟩⟩⟩)
set_option maxRecDepth 100000 in
theorem vK_241 : cz_chkK cm_241 [[7108], [0, 8004, 8006, 91], [7115], [7110], [7116], [7112]] = true := by decide +kernel
theorem vO_241 : cz_okM cm_241 := cz_chkM_ok cz_allY_ok cz_allC2_ok cz_asl_ok cz_okI0_ok vD_241 vK_241
set_option maxRecDepth 100000 in
theorem vR_242_0 : cz_chkR prog_15_method_68_code cr_242_0 = true := rws_ok (p := 0) (by decide +kernel)
set_option maxRecDepth 100000 in
theorem vR_242_1 : cz_chkR prog_15_method_68_code cr_242_1 = true := rws_ok (p := 16) (by decide +kernel)
set_option maxRecDepth 100000 in
theorem vR_242_2 : cz_chkR prog_15_method_68_code cr_242_2 = true := rws_ok (p := 34) (by decide +kernel)
theorem vD_242 : cz_chkD cm_242 = true := cz_chkD_of (show ∀ row ∈ [cr_242_0, cr_242_1, cr_242_2], cz_chkR prog_15_method_68_code row = true from List.forall_mem_cons.mpr ⟨vR_242_0, List.forall_mem_cons.mpr ⟨vR_242_1, List.forall_mem_cons.mpr ⟨vR_242_2, fun _ w => (by cases w)⟩⟩⟩)
set_option maxRecDepth 100000 in
theorem vK_242 : cz_chkK cm_242 [[0, 10021, 10023, 135], [0, 10033, 10035, 138], [0, 10029, 10031, 137]] = true := by decide +kernel
theorem vO_242 : cz_okM cm_242 := cz_chkM_ok cz_allY_ok cz_allC2_ok cz_asl_ok cz_okI0_ok vD_242 vK_242
set_option maxRecDepth 100000 in
theorem vR_243_0 : cz_chkR prog_15_method_80_code cr_243_0 = true := rws_ok (p := 0) (by decide +kernel)
set_option maxRecDepth 100000 in
theorem vR_243_1 : cz_chkR prog_15_method_80_code cr_243_1 = true := rws_ok (p := 17) (by decide +kernel)
set_option maxRecDepth 100000 in
theorem vR_243_2 : cz_chkR prog_15_method_80_code cr_243_2 = true := rws_ok (p := 32) (by decide +kernel)
theorem vD_243 : cz_chkD cm_243 = true := cz_chkD_of (show ∀ row ∈ [cr_243_0, cr_243_1, cr_243_2], cz_chkR prog_15_method_80_code row = true from List.forall_mem_cons.mpr ⟨vR_243_0, List.forall_mem_cons.mpr ⟨vR_243_1, List.forall_mem_cons.mpr ⟨vR_243_2, fun _ w => (by cases w)⟩⟩⟩)
set_option maxRecDepth 100000 in
theorem vK_243 : cz_chkK cm_243 [[7137], [7138]] = true := by decide +kernel
theorem vO_243 : cz_okM cm_243 := cz_chkM_ok cz_allY_ok cz_allC2_ok cz_asl_ok cz_okI0_ok vD_243 vK_243
set_option maxRecDepth 100000 in
theorem vR_244_0 : cz_chkR prog_15_method_75_code cr_244_0 = true := rws_ok (p := 0) (by decide +kernel)
set_option maxRecDepth 100000 in
theorem vR_244_1 : cz_chkR prog_15_method_75_code cr_244_1 = true := rws_ok (p := 17) (by decide +kernel)
set_option maxRecDepth 100000 in
theorem vR_244_2 : cz_chkR prog_15_method_75_code cr_244_2 = true := rws_ok (p := 32) (by decide +kernel)
set_option maxRecDepth 100000 in
theorem vR_244_3 : cz_chkR prog_15_method_75_code cr_244_3 = true := rws_ok (p := 48) (by decide +kernel)
set_option maxRecDepth 100000 in
theorem vR_244_4 : cz_chkR prog_15_method_75_code cr_244_4 = true := rws_ok (p := 65) (by decide +kernel)
set_option maxRecDepth 100000 in
theorem vR_244_5 : cz_chkR prog_15_method_75_code cr_244_5 = true := rws_ok (p := 82) (by decide +kernel)
theorem vD_244 : cz_chkD cm_244 = true := cz_chkD_of (show ∀ row ∈ [cr_244_0, cr_244_1, cr_244_2, cr_244_3, cr_244_4, cr_244_5], cz_chkR prog_15_method_75_code row = true from List.forall_mem_cons.mpr ⟨vR_244_0, List.forall_mem_cons.mpr ⟨vR_244_1, List.forall_mem_cons.mpr ⟨vR_244_2, List.forall_mem_cons.mpr ⟨vR_244_3, List.forall_mem_cons.mpr ⟨vR_244_4, List.forall_mem_cons.mpr ⟨vR_244_5, fun _ w => (by cases w)⟩⟩⟩⟩⟩⟩)
set_option maxRecDepth 100000 in
theorem vK_244 : cz_chkK cm_244 [[7113], [7114], [7108], [0, 8004, 8006, 91], [7115], [0, 9212, 9214, 126], [0, 10013, 10015, 133]] = true := by decide +kernel
theorem vO_244 : cz_okM cm_244 := cz_chkM_ok cz_allY_ok cz_allC2_ok cz_asl_ok cz_okI0_ok vD_244 vK_244
set_option maxRecDepth 100000 in
theorem vR_245_0 : cz_chkR prog_15_method_64_code cr_245_0 = true := rws_ok (p := 0) (by decide +kernel)
set_option maxRecDepth 100000 in
theorem vR_245_1 : cz_chkR prog_15_method_64_code cr_245_1 = true := rws_ok (p := 17) (by decide +kernel)
set_option maxRecDepth 100000 in
theorem vR_245_2 : cz_chkR prog_15_method_64_code cr_245_2 = true := rws_ok (p := 33) (by decide +kernel)
theorem vD_245 : cz_chkD cm_245 = true := cz_chkD_of (show ∀ row ∈ [cr_245_0, cr_245_1, cr_245_2], cz_chkR prog_15_method_64_code row = true from List.forall_mem_cons.mpr ⟨vR_245_0, List.forall_mem_cons.mpr ⟨vR_245_1, List.forall_mem_cons.mpr ⟨vR_245_2, fun _ w => (by cases w)⟩⟩⟩)
set_option maxRecDepth 100000 in
theorem vK_245 : cz_chkK cm_245 [[0, 10017, 10019, 134], [0, 10025, 10027, 136]] = true := by decide +kernel
theorem vO_245 : cz_okM cm_245 := cz_chkM_ok cz_allY_ok cz_allC2_ok cz_asl_ok cz_okI0_ok vD_245 vK_245
set_option maxRecDepth 100000 in
theorem vR_246_0 : cz_chkR prog_15_method_77_code cr_246_0 = true := rws_ok (p := 0) (by decide +kernel)
set_option maxRecDepth 100000 in
theorem vR_246_1 : cz_chkR prog_15_method_77_code cr_246_1 = true := rws_ok (p := 16) (by decide +kernel)
set_option maxRecDepth 100000 in
theorem vR_246_2 : cz_chkR prog_15_method_77_code cr_246_2 = true := rws_ok (p := 32) (by decide +kernel)
set_option maxRecDepth 100000 in
theorem vR_246_3 : cz_chkR prog_15_method_77_code cr_246_3 = true := rws_ok (p := 49) (by decide +kernel)
set_option maxRecDepth 100000 in
theorem vR_246_4 : cz_chkR prog_15_method_77_code cr_246_4 = true := rws_ok (p := 65) (by decide +kernel)
set_option maxRecDepth 100000 in
theorem vR_246_5 : cz_chkR prog_15_method_77_code cr_246_5 = true := rws_ok (p := 81) (by decide +kernel)
set_option maxRecDepth 100000 in
theorem vR_246_6 : cz_chkR prog_15_method_77_code cr_246_6 = true := rws_ok (p := 96) (by decide +kernel)
set_option maxRecDepth 100000 in
theorem vR_246_7 : cz_chkR prog_15_method_77_code cr_246_7 = true := rws_ok (p := 114) (by decide +kernel)
set_option maxRecDepth 100000 in
theorem vR_246_8 : cz_chkR prog_15_method_77_code cr_246_8 = true := rws_ok (p := 130) (by decide +kernel)
theorem vD_246 : cz_chkD cm_246 = true := cz_chkD_of (show ∀ row ∈ [cr_246_0, cr_246_1, cr_246_2, cr_246_3, cr_246_4, cr_246_5, cr_246_6, cr_246_7, cr_246_8], cz_chkR prog_15_method_77_code row = true from List.forall_mem_cons.mpr ⟨vR_246_0, List.forall_mem_cons.mpr ⟨vR_246_1, List.forall_mem_cons.mpr ⟨vR_246_2, List.forall_mem_cons.mpr ⟨vR_246_3, List.forall_mem_cons.mpr ⟨vR_246_4, List.forall_mem_cons.mpr ⟨vR_246_5, List.forall_mem_cons.mpr ⟨vR_246_6, List.forall_mem_cons.mpr ⟨vR_246_7, List.forall_mem_cons.mpr ⟨vR_246_8, fun _ w => (by cases w)⟩⟩⟩⟩⟩⟩⟩⟩⟩)
set_option maxRecDepth 100000 in
theorem vK_246 : cz_chkK cm_246 [[7143], [7144]] = true := by decide +kernel
theorem vO_246 : cz_okM cm_246 := cz_chkM_ok cz_allY_ok cz_allC2_ok cz_asl_ok cz_okI0_ok vD_246 vK_246
set_option maxRecDepth 100000 in
theorem vR_247_0 : cz_chkR prog_15_method_79_code cr_247_0 = true := rws_ok (p := 0) (by decide +kernel)
set_option maxRecDepth 100000 in
theorem vR_247_1 : cz_chkR prog_15_method_79_code cr_247_1 = true := rws_ok (p := 17) (by decide +kernel)
set_option maxRecDepth 100000 in
theorem vR_247_2 : cz_chkR prog_15_method_79_code cr_247_2 = true := rws_ok (p := 32) (by decide +kernel)
set_option maxRecDepth 100000 in
theorem vR_247_3 : cz_chkR prog_15_method_79_code cr_247_3 = true := rws_ok (p := 48) (by decide +kernel)
set_option maxRecDepth 100000 in
theorem vR_247_4 : cz_chkR prog_15_method_79_code cr_247_4 = true := rws_ok (p := 65) (by decide +kernel)
set_option maxRecDepth 100000 in
theorem vR_247_5 : cz_chkR prog_15_method_79_code cr_247_5 = true := rws_ok (p := 82) (by decide +kernel)
set_option maxRecDepth 100000 in
theorem vR_247_6 : cz_chkR prog_15_method_79_code cr_247_6 = true := rws_ok (p := 97) (by decide +kernel)
set_option maxRecDepth 100000 in
theorem vR_247_7 : cz_chkR prog_15_method_79_code cr_247_7 = true := rws_ok (p := 112) (by decide +kernel)
set_option maxRecDepth 100000 in
theorem vR_247_8 : cz_chkR prog_15_method_79_code cr_247_8 = true := rws_ok (p := 129) (by decide +kernel)
set_option maxRecDepth 100000 in
theorem vR_247_9 : cz_chkR prog_15_method_79_code cr_247_9 = true := rws_ok (p := 146) (by decide +kernel)
set_option maxRecDepth 100000 in
theorem vR_247_10 : cz_chkR prog_15_method_79_code cr_247_10 = true := rws_ok (p := 161) (by decide +kernel)
set_option maxRecDepth 100000 in
theorem vR_247_11 : cz_chkR prog_15_method_79_code cr_247_11 = true := rws_ok (p := 177) (by decide +kernel)
set_option maxRecDepth 100000 in
theorem vR_247_12 : cz_chkR prog_15_method_79_code cr_247_12 = true := rws_ok (p := 192) (by decide +kernel)
set_option maxRecDepth 100000 in
theorem vR_247_13 : cz_chkR prog_15_method_79_code cr_247_13 = true := rws_ok (p := 208) (by decide +kernel)
set_option maxRecDepth 100000 in
theorem vR_247_14 : cz_chkR prog_15_method_79_code cr_247_14 = true := rws_ok (p := 224) (by decide +kernel)
set_option maxRecDepth 100000 in
theorem vR_247_15 : cz_chkR prog_15_method_79_code cr_247_15 = true := rws_ok (p := 241) (by decide +kernel)
set_option maxRecDepth 100000 in
theorem vR_247_16 : cz_chkR prog_15_method_79_code cr_247_16 = true := rws_ok (p := 257) (by decide +kernel)
set_option maxRecDepth 100000 in
theorem vR_247_17 : cz_chkR prog_15_method_79_code cr_247_17 = true := rws_ok (p := 273) (by decide +kernel)
set_option maxRecDepth 100000 in
theorem vR_247_18 : cz_chkR prog_15_method_79_code cr_247_18 = true := rws_ok (p := 288) (by decide +kernel)
set_option maxRecDepth 100000 in
theorem vR_247_19 : cz_chkR prog_15_method_79_code cr_247_19 = true := rws_ok (p := 304) (by decide +kernel)
set_option maxRecDepth 100000 in
theorem vR_247_20 : cz_chkR prog_15_method_79_code cr_247_20 = true := rws_ok (p := 320) (by decide +kernel)
set_option maxRecDepth 100000 in
theorem vR_247_21 : cz_chkR prog_15_method_79_code cr_247_21 = true := rws_ok (p := 338) (by decide +kernel)
theorem vD_247 : cz_chkD cm_247 = true := cz_chkD_of (show ∀ row ∈ [cr_247_0, cr_247_1, cr_247_2, cr_247_3, cr_247_4, cr_247_5, cr_247_6, cr_247_7, cr_247_8, cr_247_9, cr_247_10, cr_247_11, cr_247_12, cr_247_13, cr_247_14, cr_247_15, cr_247_16, cr_247_17, cr_247_18, cr_247_19, cr_247_20, cr_247_21], cz_chkR prog_15_method_79_code row = true from List.forall_mem_cons.mpr ⟨vR_247_0, List.forall_mem_cons.mpr ⟨vR_247_1, List.forall_mem_cons.mpr ⟨vR_247_2, List.forall_mem_cons.mpr ⟨vR_247_3, List.forall_mem_cons.mpr ⟨vR_247_4, List.forall_mem_cons.mpr ⟨vR_247_5, List.forall_mem_cons.mpr ⟨vR_247_6, List.forall_mem_cons.mpr ⟨vR_247_7, List.forall_mem_cons.mpr ⟨vR_247_8, List.forall_mem_cons.mpr ⟨vR_247_9, List.forall_mem_cons.mpr ⟨vR_247_10, List.forall_mem_cons.mpr ⟨vR_247_11, List.forall_mem_cons.mpr ⟨vR_247_12, List.forall_mem_cons.mpr ⟨vR_247_13, List.forall_mem_cons.mpr ⟨vR_247_14, List.forall_mem_cons.mpr ⟨vR_247_15, List.forall_mem_cons.mpr ⟨vR_247_16, List.forall_mem_cons.mpr ⟨vR_247_17, List.forall_mem_cons.mpr ⟨vR_247_18, List.forall_mem_cons.mpr ⟨vR_247_19, List.forall_mem_cons.mpr ⟨vR_247_20, List.forall_mem_cons.mpr ⟨vR_247_21, fun _ w => (by cases w)⟩⟩⟩⟩⟩⟩⟩⟩⟩⟩⟩⟩⟩⟩⟩⟩⟩⟩⟩⟩⟩⟩)
set_option maxRecDepth 100000 in
theorem vK_247 : cz_chkK cm_247 [[7113], [7114], [7117], [7137], [7145], [8021], [8023], [0, 9191, 9193, 123], [7138], [0, 9216, 9218, 127], [7144], [0, 10125, 10127, 157], [0, 10129, 10131, 158], [0, 10140, 10142, 160], [10144, 5189], [0, 10136, 10138, 159]] = true := by decide +kernel
theorem vO_247 : cz_okM cm_247 := cz_chkM_ok cz_allY_ok cz_allC2_ok cz_asl_ok cz_okI0_ok vD_247 vK_247
set_option maxRecDepth 100000 in
theorem vR_248_0 : cz_chkR prog_15_method_13_code cr_248_0 = true := rws_ok (p := 0) (by decide +kernel)
set_option maxRecDepth 100000 in
theorem vR_248_1 : cz_chkR prog_15_method_13_code cr_248_1 = true := rws_ok (p := 16) (by decide +kernel)
theorem vD_248 : cz_chkD cm_248 = true := cz_chkD_of (show ∀ row ∈ [cr_248_0, cr_248_1], cz_chkR prog_15_method_13_code row = true from List.forall_mem_cons.mpr ⟨vR_248_0, List.forall_mem_cons.mpr ⟨vR_248_1, fun _ w => (by cases w)⟩⟩)
set_option maxRecDepth 100000 in
theorem vK_248 : cz_chkK cm_248 [[0, 8062, 8064, 93], [7125], [7126]] = true := by decide +kernel
theorem vO_248 : cz_okM cm_248 := cz_chkM_ok cz_allY_ok cz_allC2_ok cz_asl_ok cz_okI0_ok vD_248 vK_248
set_option maxRecDepth 100000 in
theorem vR_249_0 : cz_chkR prog_15_method_87_code cr_249_0 = true := rws_ok (p := 0) (by decide +kernel)
set_option maxRecDepth 100000 in
theorem vR_249_1 : cz_chkR prog_15_method_87_code cr_249_1 = true := rws_ok (p := 17) (by decide +kernel)
theorem vD_249 : cz_chkD cm_249 = true := cz_chkD_of (show ∀ row ∈ [cr_249_0, cr_249_1], cz_chkR prog_15_method_87_code row = true from List.forall_mem_cons.mpr ⟨vR_249_0, List.forall_mem_cons.mpr ⟨vR_249_1, fun _ w => (by cases w)⟩⟩)
set_option maxRecDepth 100000 in
theorem vK_249 : cz_chkK cm_249 [[7108], [0, 8004, 8006, 91], [7110]] = true := by decide +kernel
theorem vO_249 : cz_okM cm_249 := cz_chkM_ok cz_allY_ok cz_allC2_ok cz_asl_ok cz_okI0_ok vD_249 vK_249
set_option maxRecDepth 100000 in
theorem vR_250_0 : cz_chkR prog_15_method_38_code cr_250_0 = true := rws_ok (p := 0) (by decide +kernel)
set_option maxRecDepth 100000 in
theorem vR_250_1 : cz_chkR prog_15_method_38_code cr_250_1 = true := rws_ok (p := 18) (by decide +kernel)
set_option maxRecDepth 100000 in
theorem vR_250_2 : cz_chkR prog_15_method_38_code cr_250_2 = true := rws_ok (p := 32) (by decide +kernel)
set_option maxRecDepth 100000 in
theorem vR_250_3 : cz_chkR prog_15_method_38_code cr_250_3 = true := rws_ok (p := 48) (by decide +kernel)
set_option maxRecDepth 100000 in
theorem vR_250_4 : cz_chkR prog_15_method_38_code cr_250_4 = true := rws_ok (p := 65) (by decide +kernel)
set_option maxRecDepth 100000 in
theorem vR_250_5 : cz_chkR prog_15_method_38_code cr_250_5 = true := rws_ok (p := 80) (by decide +kernel)
set_option maxRecDepth 100000 in
theorem vR_250_6 : cz_chkR prog_15_method_38_code cr_250_6 = true := rws_ok (p := 96) (by decide +kernel)
set_option maxRecDepth 100000 in
theorem vR_250_7 : cz_chkR prog_15_method_38_code cr_250_7 = true := rws_ok (p := 112) (by decide +kernel)
set_option maxRecDepth 100000 in
theorem vR_250_8 : cz_chkR prog_15_method_38_code cr_250_8 = true := rws_ok (p := 128) (by decide +kernel)
set_option maxRecDepth 100000 in
theorem vR_250_9 : cz_chkR prog_15_method_38_code cr_250_9 = true := rws_ok (p := 144) (by decide +kernel)
theorem vD_250 : cz_chkD cm_250 = true := cz_chkD_of (show ∀ row ∈ [cr_250_0, cr_250_1, cr_250_2, cr_250_3, cr_250_4, cr_250_5, cr_250_6, cr_250_7, cr_250_8, cr_250_9], cz_chkR prog_15_method_38_code row = true from List.forall_mem_cons.mpr ⟨vR_250_0, List.forall_mem_cons.mpr ⟨vR_250_1, List.forall_mem_cons.mpr ⟨vR_250_2, List.forall_mem_cons.mpr ⟨vR_250_3, List.forall_mem_cons.mpr ⟨vR_250_4, List.forall_mem_cons.mpr ⟨vR_250_5, List.forall_mem_cons.mpr ⟨vR_250_6, List.forall_mem_cons.mpr ⟨vR_250_7, List.forall_mem_cons.mpr ⟨vR_250_8, List.forall_mem_cons.mpr ⟨vR_250_9, fun _ w => (by cases w)⟩⟩⟩⟩⟩⟩⟩⟩⟩⟩)
set_option maxRecDepth 100000 in
theorem vK_250 : cz_chkK cm_250 [[7117], [7130], [8021], [8023], [7131], [0, 9171, 9173, 118]] = true := by decide +kernel
theorem vO_250 : cz_okM cm_250 := cz_chkM_ok cz_allY_ok cz_allC2_ok cz_asl_ok cz_okI0_ok vD_250 vK_250
set_option maxRecDepth 100000 in
theorem vR_251_0 : cz_chkR prog_15_method_36_code cr_251_0 = true := rws_ok (p := 0) (by decide +kernel)
set_option maxRecDepth 100000 in
theorem vR_251_1 : cz_chkR prog_15_method_36_code cr_251_1 = true := rws_ok (p := 17) (by decide +kernel)
set_option maxRecDepth 100000 in
theorem vR_251_2 : cz_chkR prog_15_method_36_code cr_251_2 = true := rws_ok (p := 33) (by decide +kernel)
set_option maxRecDepth 100000 in
theorem vR_251_3 : cz_chkR prog_15_method_36_code cr_251_3 = true := rws_ok (p := 48) (by decide +kernel)
set_option maxRecDepth 100000 in
theorem vR_251_4 : cz_chkR prog_15_method_36_code cr_251_4 = true := rws_ok (p := 66) (by decide +kernel)
set_option maxRecDepth 100000 in
theorem vR_251_5 : cz_chkR prog_15_method_36_code cr_251_5 = true := rws_ok (p := 80) (by decide +kernel)
theorem vD_251 : cz_chkD cm_251 = true := cz_chkD_of (show ∀ row ∈ [cr_251_0, cr_251_1, cr_251_2, cr_251_3, cr_251_4, cr_251_5], cz_chkR prog_15_method_36_code row = true from List.forall_mem_cons.mpr ⟨vR_251_0, List.forall_mem_cons.mpr ⟨vR_251_1, List.forall_mem_cons.mpr ⟨vR_251_2, List.forall_mem_cons.mpr ⟨vR_251_3, List.forall_mem_cons.mpr ⟨vR_251_4, List.forall_mem_cons.mpr ⟨vR_251_5, fun _ w => (by cases w)⟩⟩⟩⟩⟩⟩)
set_option maxRecDepth 100000 in
theorem vK_251 : cz_chkK cm_251 [[7117], [7130], [8021], [8023], [8018], [0, 9171, 9173, 118], [0, 9187, 9189, 122], [0, 9191, 9193, 123]] = true := by decide +kernel
theorem vO_251 : cz_okM cm_251 := cz_chkM_ok cz_allY_ok cz_allC2_ok cz_asl_ok cz_okI0_ok vD_251 vK_251
set_option maxRecDepth 100000 in
theorem vR_252_0 : cz_chkR prog_15_method_3_code cr_252_0 = true := rws_ok (p := 0) (by decide +kernel)
theorem vD_252 : cz_chkD cm_252 = true := cz_chkD_of (show ∀ row ∈ [cr_252_0], cz_chkR prog_15_method_3_code row = true from List.forall_mem_cons.mpr ⟨vR_252_0, fun _ w => (by cases w)⟩)
set_option maxRecDepth 100000 in
theorem vK_252 : cz_chkK cm_252 [[7108]] = true := by decide +kernel
theorem vO_252 : cz_okM cm_252 := cz_chkM_ok cz_allY_ok cz_allC2_ok cz_asl_ok cz_okI0_ok vD_252 vK_252
set_option maxRecDepth 100000 in
theorem vR_253_0 : cz_chkR prog_15_method_86_code cr_253_0 = true := rws_ok (p := 0) (by decide +kernel)
set_option maxRecDepth 100000 in
theorem vR_253_1 : cz_chkR prog_15_method_86_code cr_253_1 = true := rws_ok (p := 18) (by decide +kernel)
set_option maxRecDepth 100000 in
theorem vR_253_2 : cz_chkR prog_15_method_86_code cr_253_2 = true := rws_ok (p := 34) (by decide +kernel)
set_option maxRecDepth 100000 in
theorem vR_253_3 : cz_chkR prog_15_method_86_code cr_253_3 = true := rws_ok (p := 48) (by decide +kernel)
set_option maxRecDepth 100000 in
theorem vR_253_4 : cz_chkR prog_15_method_86_code cr_253_4 = true := rws_ok (p := 66) (by decide +kernel)
set_option maxRecDepth 100000 in
theorem vR_253_5 : cz_chkR prog_15_method_86_code cr_253_5 = true := rws_ok (p := 80) (by decide +kernel)
set_option maxRecDepth 100000 in
theorem vR_253_6 : cz_chkR prog_15_method_86_code cr_253_6 = true := rws_ok (p := 96) (by decide +kernel)
set_option maxRecDepth 100000 in
theorem vR_253_7 : cz_chkR prog_15_method_86_code cr_253_7 = true := rws_ok (p := 112) (by decide +kernel)
theorem vD_253 : cz_chkD cm_253 = true := cz_chkD_of (show ∀ row ∈ [cr_253_0, cr_253_1, cr_253_2, cr_253_3, cr_253_4, cr_253_5, cr_253_6, cr_253_7], cz_chkR prog_15_method_86_code row = true from List.forall_mem_cons.mpr ⟨vR_253_0, List.forall_mem_cons.mpr ⟨vR_253_1, List.forall_mem_cons.mpr ⟨vR_253_2, List.forall_mem_cons.mpr ⟨vR_253_3, List.forall_mem_cons.mpr ⟨vR_253_4, List.forall_mem_cons.mpr ⟨vR_253_5, List.forall_mem_cons.mpr ⟨vR_253_6, List.forall_mem_cons.mpr ⟨vR_253_7, fun _ w => (by cases w)⟩⟩⟩⟩⟩⟩⟩⟩)
set_option maxRecDepth 100000 in
theorem vK_253 : cz_chkK cm_253 [[7109], [7108], [0, 8004, 8006, 91], [7110]] = true := by decide +kernel
theorem vO_253 : cz_okM cm_253 := cz_chkM_ok cz_allY_ok cz_allC2_ok cz_asl_ok cz_okI0_ok vD_253 vK_253
set_option maxRecDepth 100000 in
theorem vR_254_0 : cz_chkR prog_15_method_8_code cr_254_0 = true := rws_ok (p := 0) (by decide +kernel)
set_option maxRecDepth 100000 in
theorem vR_254_1 : cz_chkR prog_15_method_8_code cr_254_1 = true := rws_ok (p := 16) (by decide +kernel)
theorem vD_254 : cz_chkD cm_254 = true := cz_chkD_of (show ∀ row ∈ [cr_254_0, cr_254_1], cz_chkR prog_15_method_8_code row = true from List.forall_mem_cons.mpr ⟨vR_254_0, List.forall_mem_cons.mpr ⟨vR_254_1, fun _ w => (by cases w)⟩⟩)
set_option maxRecDepth 100000 in
theorem vK_254 : cz_chkK cm_254 [[7127], [7128], [7125], [7126]] = true := by decide +kernel
theorem vO_254 : cz_okM cm_254 := cz_chkM_ok cz_allY_ok cz_allC2_ok cz_asl_ok cz_okI0_ok vD_254 vK_254
set_option maxRecDepth 100000 in
theorem vR_255_0 : cz_chkR prog_15_method_7_code cr_255_0 = true := rws_ok (p := 0) (by decide +kernel)
set_option maxRecDepth 100000 in
theorem vR_255_1 : cz_chkR prog_15_method_7_code cr_255_1 = true := rws_ok (p := 17) (by decide +kernel)
set_option maxRecDepth 100000 in
theorem vR_255_2 : cz_chkR prog_15_method_7_code cr_255_2 = true := rws_ok (p := 32) (by decide +kernel)
set_option maxRecDepth 100000 in
theorem vR_255_3 : cz_chkR prog_15_method_7_code cr_255_3 = true := rws_ok (p := 49) (by decide +kernel)
set_option maxRecDepth 100000 in
theorem vR_255_4 : cz_chkR prog_15_method_7_code cr_255_4 = true := rws_ok (p := 64) (by decide +kernel)
set_option maxRecDepth 100000 in
theorem vR_255_5 : cz_chkR prog_15_method_7_code cr_255_5 = true := rws_ok (p := 81) (by decide +kernel)
set_option maxRecDepth 100000 in
theorem vR_255_6 : cz_chkR prog_15_method_7_code cr_255_6 = true := rws_ok (p := 97) (by decide +kernel)
set_option maxRecDepth 100000 in
theorem vR_255_7 : cz_chkR prog_15_method_7_code cr_255_7 = true := rws_ok (p := 112) (by decide +kernel)
set_option maxRecDepth 100000 in
theorem vR_255_8 : cz_chkR prog_15_method_7_code cr_255_8 = true := rws_ok (p := 129) (by decide +kernel)
set_option maxRecDepth 100000 in
theorem vR_255_9 : cz_chkR prog_15_method_7_code cr_255_9 = true := rws_ok (p := 145) (by decide +kernel)
set_option maxRecDepth 100000 in
theorem vR_255_10 : cz_chkR prog_15_method_7_code cr_255_10 = true := rws_ok (p := 161) (by decide +kernel)
set_option maxRecDepth 100000 in
theorem vR_255_11 : cz_chkR prog_15_method_7_code cr_255_11 = true := rws_ok (p := 176) (by decide +kernel)
set_option maxRecDepth 100000 in
theorem vR_255_12 : cz_chkR prog_15_method_7_code cr_255_12 = true := rws_ok (p := 192) (by decide +kernel)
set_option maxRecDepth 100000 in
theorem vR_255_13 : cz_chkR prog_15_method_7_code cr_255_13 = true := rws_ok (p := 209) (by decide +kernel)
set_option maxRecDepth 100000 in
theorem vR_255_14 : cz_chkR prog_15_method_7_code cr_255_14 = true := rws_ok (p := 225) (by decide +kernel)
set_option maxRecDepth 100000 in
theorem vR_255_15 : cz_chkR prog_15_method_7_code cr_255_15 = true := rws_ok (p := 242) (by decide +kernel)
set_option maxRecDepth 100000 in
theorem vR_255_16 : cz_chkR prog_15_method_7_code cr_255_16 = true := rws_ok (p := 256) (by decide +kernel)
set_option maxRecDepth 100000 in
theorem vR_255_17 : cz_chkR prog_15_method_7_code cr_255_17 = true := rws_ok (p := 272) (by decide +kernel)
set_option maxRecDepth 100000 in
theorem vR_255_18 : cz_chkR prog_15_method_7_code cr_255_18 = true := rws_ok (p := 288) (by decide +kernel)
theorem vD_255 : cz_chkD cm_255 = true := cz_chkD_of (show ∀ row ∈ [cr_255_0, cr_255_1, cr_255_2, cr_255_3, cr_255_4, cr_255_5, cr_255_6, cr_255_7, cr_255_8, cr_255_9, cr_255_10, cr_255_11, cr_255_12, cr_255_13, cr_255_14, cr_255_15, cr_255_16, cr_255_17, cr_255_18], cz_chkR prog_15_method_7_code row = true from List.forall_mem_cons.mpr ⟨vR_255_0, List.forall_mem_cons.mpr ⟨vR_255_1, List.forall_mem_cons.mpr ⟨vR_255_2, List.forall_mem_cons.mpr ⟨vR_255_3, List.forall_mem_cons.mpr ⟨vR_255_4, List.forall_mem_cons.mpr ⟨vR_255_5, List.forall_mem_cons.mpr ⟨vR_255_6, List.forall_mem_cons.mpr ⟨vR_255_7, List.forall_mem_cons.mpr ⟨vR_255_8, List.forall_mem_cons.mpr ⟨vR_255_9, List.forall_mem_cons.mpr ⟨vR_255_10, List.forall_mem_cons.mpr ⟨vR_255_11, List.forall_mem_cons.mpr ⟨vR_255_12, List.forall_mem_cons.mpr ⟨vR_255_13, List.forall_mem_cons.mpr ⟨vR_255_14, List.forall_mem_cons.mpr ⟨vR_255_15, List.forall_mem_cons.mpr ⟨vR_255_16, List.forall_mem_cons.mpr ⟨vR_255_17, List.forall_mem_cons.mpr ⟨vR_255_18, fun _ w => (by cases w)⟩⟩⟩⟩⟩⟩⟩⟩⟩⟩⟩⟩⟩⟩⟩⟩⟩⟩⟩)
set_option maxRecDepth 100000 in
theorem vK_255 : cz_chkK cm_255 [[7109], [7127], [7128], [0, 8062, 8064, 93], [0, 8067, 8069, 94]] = true := by decide +kernel
theorem vO_255 : cz_okM cm_255 := cz_chkM_ok cz_allY_ok cz_allC2_ok cz_asl_ok cz_okI0_ok vD_255 vK_255
set_option maxRecDepth 100000 in
theorem vR_256_0 : cz_chkR prog_15_method_57_code cr_256_0 = true := rws_ok (p := 0) (by decide +kernel)
set_option maxRecDepth 100000 in
theorem vR_256_1 : cz_chkR prog_15_method_57_code cr_256_1 = true := rws_ok (p := 17) (by decide +kernel)
set_option maxRecDepth 100000 in
theorem vR_256_2 : cz_chkR prog_15_method_57_code cr_256_2 = true := rws_ok (p := 33) (by decide +kernel)
set_option maxRecDepth 100000 in
theorem vR_256_3 : cz_chkR prog_15_method_57_code cr_256_3 = true := rws_ok (p := 50) (by decide +kernel)
set_option maxRecDepth 100000 in
theorem vR_256_4 : cz_chkR prog_15_method_57_code cr_256_4 = true := rws_ok (p := 64) (by decide +kernel)
set_option maxRecDepth 100000 in
theorem vR_256_5 : cz_chkR prog_15_method_57_code cr_256_5 = true := rws_ok (p := 81) (by decide +kernel)
set_option maxRecDepth 100000 in
theorem vR_256_6 : cz_chkR prog_15_method_57_code cr_256_6 = true := rws_ok (p := 96) (by decide +kernel)
theorem vD_256 : cz_chkD cm_256 = true := cz_chkD_of (show ∀ row ∈ [cr_256_0, cr_256_1, cr_256_2, cr_256_3, cr_256_4, cr_256_5, cr_256_6], cz_chkR prog_15_method_57_code row = true from List.forall_mem_cons.mpr ⟨vR_256_0, List.forall_mem_cons.mpr ⟨vR_256_1, List.forall_mem_cons.mpr ⟨vR_256_2, List.forall_mem_cons.mpr ⟨vR_256_3, List.forall_mem_cons.mpr ⟨vR_256_4, List.forall_mem_cons.mpr ⟨vR_256_5, List.forall_mem_cons.mpr ⟨vR_256_6, fun _ w => (by cases w)⟩⟩⟩⟩⟩⟩⟩)
set_option maxRecDepth 100000 in
theorem vK_256 : cz_chkK cm_256 [[7117], [8021], [8023], [0, 9220, 9222, 128], [0, 10085, 10087, 151]] = true := by decide +kernel
theorem vO_256 : cz_okM cm_256 := cz_chkM_ok cz_allY_ok cz_allC2_ok cz_asl_ok cz_okI0_ok vD_256 vK_256
set_option maxRecDepth 100000 in
theorem vR_257_0 : cz_chkR prog_15_method_61_code cr_257_0 = true := rws_ok (p := 0) (by decide +kernel)
set_option maxRecDepth 100000 in
theorem vR_257_1 : cz_chkR prog_15_method_61_code cr_257_1 = true := rws_ok (p := 16) (by decide +kernel)
set_option maxRecDepth 100000 in
theorem vR_257_2 : cz_chkR prog_15_method_61_code cr_257_2 = true := rws_ok (p := 32) (by decide +kernel)
theorem vD_257 : cz_chkD cm_257 = true := cz_chkD_of (show ∀ row ∈ [cr_257_0, cr_257_1, cr_257_2], cz_chkR prog_15_method_61_code row = true from List.forall_mem_cons.mpr ⟨vR_257_0, List.forall_mem_cons.mpr ⟨vR_257_1, List.forall_mem_cons.mpr ⟨vR_257_2, fun _ w => (by cases w)⟩⟩⟩)
set_option maxRecDepth 100000 in
theorem vK_257 : cz_chkK cm_257 [[7139], [7138], [0, 10081, 10083, 150], [7141], [0, 10097, 10099, 153]] = true := by decide +kernel
theorem vO_257 : cz_okM cm_257 := cz_chkM_ok cz_allY_ok cz_allC2_ok cz_asl_ok cz_okI0_ok vD_257 vK_257
set_option maxRecDepth 100000 in
theorem vR_258_0 : cz_chkR prog_15_method_56_code cr_258_0 = true := rws_ok (p := 0) (by decide +kernel)
set_option maxRecDepth 100000 in
theorem vR_258_1 : cz_chkR prog_15_method_56_code cr_258_1 = true := rws_ok (p := 16) (by decide +kernel)
set_option maxRecDepth 100000 in
theorem vR_258_2 : cz_chkR prog_15_method_56_code cr_258_2 = true := rws_ok (p := 33) (by decide +kernel)
set_option maxRecDepth 100000 in
theorem vR_258_3 : cz_chkR prog_15_method_56_code cr_258_3 = true := rws_ok (p := 50) (by decide +kernel)
set_option maxRecDepth 100000 in
theorem vR_258_4 : cz_chkR prog_15_method_56_code cr_258_4 = true := rws_ok (p := 64) (by decide +kernel)
theorem vD_258 : cz_chkD cm_258 = true := cz_chkD_of (show ∀ row ∈ [cr_258_0, cr_258_1, cr_258_2, cr_258_3, cr_258_4], cz_chkR prog_15_method_56_code row = true from List.forall_mem_cons.mpr ⟨vR_258_0, List.forall_mem_cons.mpr ⟨vR_258_1, List.forall_mem_cons.mpr ⟨vR_258_2, List.forall_mem_cons.mpr ⟨vR_258_3, List.forall_mem_cons.mpr ⟨vR_258_4, fun _ w => (by cases w)⟩⟩⟩⟩⟩)
set_option maxRecDepth 100000 in
theorem vK_258 : cz_chkK cm_258 [[7119], [8014], [8018], [8013], [7120]] = true := by decide +kernel
theorem vO_258 : cz_okM cm_258 := cz_chkM_ok cz_allY_ok cz_allC2_ok cz_asl_ok cz_okI0_ok vD_258 vK_258
set_option maxRecDepth 100000 in
theorem vR_259_0 : cz_chkR prog_15_method_22_code cr_259_0 = true := rws_ok (p := 0) (by decide +kernel)
set_option maxRecDepth 100000 in
theorem vR_259_1 : cz_chkR prog_15_method_22_code cr_259_1 = true := rws_ok (p := 16) (by decide +kernel)
set_option maxRecDepth 100000 in
theorem vR_259_2 : cz_chkR prog_15_method_22_code cr_259_2 = true := rws_ok (p := 32) (by decide +kernel)
set_option maxRecDepth 100000 in
theorem vR_259_3 : cz_chkR prog_15_method_22_code cr_259_3 = true := rws_ok (p := 48) (by decide +kernel)
set_option maxRecDepth 100000 in
theorem vR_259_4 : cz_chkR prog_15_method_22_code cr_259_4 = true := rws_ok (p := 66) (by decide +kernel)
set_option maxRecDepth 100000 in
theorem vR_259_5 : cz_chkR prog_15_method_22_code cr_259_5 = true := rws_ok (p := 81) (by decide +kernel)
set_option maxRecDepth 100000 in
theorem vR_259_6 : cz_chkR prog_15_method_22_code cr_259_6 = true := rws_ok (p := 96) (by decide +kernel)
set_option maxRecDepth 100000 in
theorem vR_259_7 : cz_chkR prog_15_method_22_code cr_259_7 = true := rws_ok (p := 112) (by decide +kernel)
set_option maxRecDepth 100000 in
theorem vR_259_8 : cz_chkR prog_15_method_22_code cr_259_8 = true := rws_ok (p := 128) (by decide +kernel)
theorem vD_259 : cz_chkD cm_259 = true := cz_chkD_of (show ∀ row ∈ [cr_259_0, cr_259_1, cr_259_2, cr_259_3, cr_259_4, cr_259_5, cr_259_6, cr_259_7, cr_259_8], cz_chkR prog_15_method_22_code row = true from List.forall_mem_cons.mpr ⟨vR_259_0, List.forall_mem_cons.mpr ⟨vR_259_1, List.forall_mem_cons.mpr ⟨vR_259_2, List.forall_mem_cons.mpr ⟨vR_259_3, List.forall_mem_cons.mpr ⟨vR_259_4, List.forall_mem_cons.mpr ⟨vR_259_5, List.forall_mem_cons.mpr ⟨vR_259_6, List.forall_mem_cons.mpr ⟨vR_259_7, List.forall_mem_cons.mpr ⟨vR_259_8, fun _ w => (by cases w)⟩⟩⟩⟩⟩⟩⟩⟩⟩)
set_option maxRecDepth 100000 in
theorem vK_259 : cz_chkK cm_259 [[7127], [7128], [0, 8062, 8064, 93], [7125], [0, 8091, 8093, 100], [8014], [8015], [0, 8096, 8098, 101], [0, 8075, 8077, 96], [0, 8079, 8081, 97], [8018], [0, 8104, 8106, 103]] = true := by decide +kernel
theorem vO_259 : cz_okM cm_259 := cz_chkM_ok cz_allY_ok cz_allC2_ok cz_asl_ok cz_okI0_ok vD_259 vK_259
set_option maxRecDepth 100000 in
theorem vR_260_0 : cz_chkR prog_15_method_88_code cr_260_0 = true := rws_ok (p := 0) (by decide +kernel)
set_option maxRecDepth 100000 in
theorem vR_260_1 : cz_chkR prog_15_method_88_code cr_260_1 = true := rws_ok (p := 18) (by decide +kernel)
set_option maxRecDepth 100000 in
theorem vR_260_2 : cz_chkR prog_15_method_88_code cr_260_2 = true := rws_ok (p := 33) (by decide +kernel)
theorem vD_260 : cz_chkD cm_260 = true := cz_chkD_of (show ∀ row ∈ [cr_260_0, cr_260_1, cr_260_2], cz_chkR prog_15_method_88_code row = true from List.forall_mem_cons.mpr ⟨vR_260_0, List.forall_mem_cons.mpr ⟨vR_260_1, List.forall_mem_cons.mpr ⟨vR_260_2, fun _ w => (by cases w)⟩⟩⟩)
set_option maxRecDepth 100000 in
theorem vK_260 : cz_chkK cm_260 [[7109]] = true := by decide +kernel
theorem vO_260 : cz_okM cm_260 := cz_chkM_ok cz_allY_ok cz_allC2_ok cz_asl_ok cz_okI0_ok vD_260 vK_260
set_option maxRecDepth 100000 in
theorem vR_261_0 : cz_chkR prog_15_method_35_code cr_261_0 = true := rws_ok (p := 0) (by decide +kernel)
set_option maxRecDepth 100000 in
theorem vR_261_1 : cz_chkR prog_15_method_35_code cr_261_1 = true := rws_ok (p := 16) (by decide +kernel)
set_option maxRecDepth 100000 in
theorem vR_261_2 : cz_chkR prog_15_method_35_code cr_261_2 = true := rws_ok (p := 33) (by decide +kernel)
set_option maxRecDepth 100000 in
theorem vR_261_3 : cz_chkR prog_15_method_35_code cr_261_3 = true := rws_ok (p := 48) (by decide +kernel)
set_option maxRecDepth 100000 in
theorem vR_261_4 : cz_chkR prog_15_method_35_code cr_261_4 = true := rws_ok (p := 65) (by decide +kernel)
set_option maxRecDepth 100000 in
theorem vR_261_5 : cz_chkR prog_15_method_35_code cr_261_5 = true := rws_ok (p := 80) (by decide +kernel)
set_option maxRecDepth 100000 in
theorem vR_261_6 : cz_chkR prog_15_method_35_code cr_261_6 = true := rws_ok (p := 96) (by decide +kernel)
set_option maxRecDepth 100000 in
theorem vR_261_7 : cz_chkR prog_15_method_35_code cr_261_7 = true := rws_ok (p := 114) (by decide +kernel)
set_option maxRecDepth 100000 in
theorem vR_261_8 : cz_chkR prog_15_method_35_code cr_261_8 = true := rws_ok (p := 128) (by decide +kernel)
set_option maxRecDepth 100000 in
theorem vR_261_9 : cz_chkR prog_15_method_35_code cr_261_9 = true := rws_ok (p := 144) (by decide +kernel)
set_option maxRecDepth 100000 in
theorem vR_261_10 : cz_chkR prog_15_method_35_code cr_261_10 = true := rws_ok (p := 162) (by decide +kernel)
set_option maxRecDepth 100000 in
theorem vR_261_11 : cz_chkR prog_15_method_35_code cr_261_11 = true := rws_ok (p := 176) (by decide +kernel)
set_option maxRecDepth 100000 in
theorem vR_261_12 : cz_chkR prog_15_method_35_code cr_261_12 = true := rws_ok (p := 192) (by decide +kernel)
set_option maxRecDepth 100000 in
theorem vR_261_13 : cz_chkR prog_15_method_35_code cr_261_13 = true := rws_ok (p := 210) (by decide +kernel)
set_option maxRecDepth 100000 in
theorem vR_261_14 : cz_chkR prog_15_method_35_code cr_261_14 = true := rws_ok (p := 225) (by decide +kernel)
set_option maxRecDepth 100000 in
theorem vR_261_15 : cz_chkR prog_15_method_35_code cr_261_15 = true := rws_ok (p := 240) (by decide +kernel)
set_option maxRecDepth 100000 in
theorem vR_261_16 : cz_chkR prog_15_method_35_code cr_261_16 = true := rws_ok (p := 257) (by decide +kernel)
theorem vD_261 : cz_chkD cm_261 = true := cz_chkD_of (show ∀ row ∈ [cr_261_0, cr_261_1, cr_261_2, cr_261_3, cr_261_4, cr_261_5, cr_261_6, cr_261_7, cr_261_8, cr_261_9, cr_261_10, cr_261_11, cr_261_12, cr_261_13, cr_261_14, cr_261_15, cr_261_16], cz_chkR prog_15_method_35_code row = true from List.forall_mem_cons.mpr ⟨vR_261_0, List.forall_mem_cons.mpr ⟨vR_261_1, List.forall_mem_cons.mpr ⟨vR_261_2, List.forall_mem_cons.mpr ⟨vR_261_3, List.forall_mem_cons.mpr ⟨vR_261_4, List.forall_mem_cons.mpr ⟨vR_261_5, List.forall_mem_cons.mpr ⟨vR_261_6, List.forall_mem_cons.mpr ⟨vR_261_7, List.forall_mem_cons.mpr ⟨vR_261_8, List.forall_mem_cons.mpr ⟨vR_261_9, List.forall_mem_cons.mpr ⟨vR_261_10, List.forall_mem_cons.mpr ⟨vR_261_11, List.forall_mem_cons.mpr ⟨vR_261_12, List.forall_mem_cons.mpr ⟨vR_261_13, List.forall_mem_cons.mpr ⟨vR_261_14, List.forall_mem_cons.mpr ⟨vR_261_15, List.forall_mem_cons.mpr ⟨vR_261_16, fun _ w => (by cases w)⟩⟩⟩⟩⟩⟩⟩⟩⟩⟩⟩⟩⟩⟩⟩⟩⟩)
set_option maxRecDepth 100000 in
theorem vK_261 : cz_chkK cm_261 [[7117], [7130], [7132], [7134], [8021], [8023], [8018], [9165], [7133], [0, 9179, 9181, 120], [0, 9171, 9173, 118], [0, 9161, 9163, 116]] = true := by decide +kernel
theorem vO_261 : cz_okM cm_261 := cz_chkM_ok cz_allY_ok cz_allC2_ok cz_asl_ok cz_okI0_ok vD_261 vK_261
set_option maxRecDepth 100000 in
theorem vR_262_0 : cz_chkR prog_15_method_31_code cr_262_0 = true := rws_ok (p := 0) (by decide +kernel)
set_option maxRecDepth 100000 in
theorem vR_262_1 : cz_chkR prog_15_method_31_code cr_262_1 = true := rws_ok (p := 18) (by decide +kernel)
theorem vD_262 : cz_chkD cm_262 = true := cz_chkD_of (show ∀ row ∈ [cr_262_0, cr_262_1], cz_chkR prog_15_method_31_code row = true from List.forall_mem_cons.mpr ⟨vR_262_0, List.forall_mem_cons.mpr ⟨vR_262_1, fun _ w => (by cases w)⟩⟩)
set_option maxRecDepth 100000 in
theorem vK_262 : cz_chkK cm_262 [[9165], [9166]] = true := by decide +kernel
theorem vO_262 : cz_okM cm_262 := cz_chkM_ok cz_allY_ok cz_allC2_ok cz_asl_ok cz_okI0_ok vD_262 vK_262
set_option maxRecDepth 100000 in
theorem vR_263_0 : cz_chkR prog_15_method_37_code cr_263_0 = true := rws_ok (p := 0) (by decide +kernel)
set_option maxRecDepth 100000 in
theorem vR_263_1 : cz_chkR prog_15_method_37_code cr_263_1 = true := rws_ok (p := 18) (by decide +kernel)
set_option maxRecDepth 100000 in
theorem vR_263_2 : cz_chkR prog_15_method_37_code cr_263_2 = true := rws_ok (p := 33) (by decide +kernel)
set_option maxRecDepth 100000 in
theorem vR_263_3 : cz_chkR prog_15_method_37_code cr_263_3 = true := rws_ok (p := 48) (by decide +kernel)
set_option maxRecDepth 100000 in
theorem vR_263_4 : cz_chkR prog_15_method_37_code cr_263_4 = true := rws_ok (p := 65) (by decide +kernel)
theorem vD_263 : cz_chkD cm_263 = true := cz_chkD_of (show ∀ row ∈ [cr_263_0, cr_263_1, cr_263_2, cr_263_3, cr_263_4], cz_chkR prog_15_method_37_code row = true from List.forall_mem_cons.mpr ⟨vR_263_0, List.forall_mem_cons.mpr ⟨vR_263_1, List.forall_mem_cons.mpr ⟨vR_263_2, List.forall_mem_cons.mpr ⟨vR_263_3, List.forall_mem_cons.mpr ⟨vR_263_4, fun _ w => (by cases w)⟩⟩⟩⟩⟩)
set_option maxRecDepth 100000 in
theorem vK_263 : cz_chkK cm_263 [[9165], [0, 9161, 9163, 116]] = true := by decide +kernel
theorem vO_263 : cz_okM cm_263 := cz_chkM_ok cz_allY_ok cz_allC2_ok cz_asl_ok cz_okI0_ok vD_263 vK_263
set_option maxRecDepth 100000 in
theorem vR_264_0 : cz_chkR prog_15_method_29_code cr_264_0 = true := rws_ok (p := 0) (by decide +kernel)
set_option maxRecDepth 100000 in
theorem vR_264_1 : cz_chkR prog_15_method_29_code cr_264_1 = true := rws_ok (p := 16) (by decide +kernel)
set_option maxRecDepth 100000 in
theorem vR_264_2 : cz_chkR prog_15_method_29_code cr_264_2 = true := rws_ok (p := 32) (by decide +kernel)
set_option maxRecDepth 100000 in
theorem vR_264_3 : cz_chkR prog_15_method_29_code cr_264_3 = true := rws_ok (p := 48) (by decide +kernel)
theorem vD_264 : cz_chkD cm_264 = true := cz_chkD_of (show ∀ row ∈ [cr_264_0, cr_264_1, cr_264_2, cr_264_3], cz_chkR prog_15_method_29_code row = true from List.forall_mem_cons.mpr ⟨vR_264_0, List.forall_mem_cons.mpr ⟨vR_264_1, List.forall_mem_cons.mpr ⟨vR_264_2, List.forall_mem_cons.mpr ⟨vR_264_3, fun _ w => (by cases w)⟩⟩⟩⟩)
set_option maxRecDepth 100000 in
theorem vK_264 : cz_chkK cm_264 [[7119], [8014], [8015], [8018], [8013], [7120]] = true := by decide +kernel
theorem vO_264 : cz_okM cm_264 := cz_chkM_ok cz_allY_ok cz_allC2_ok cz_asl_ok cz_okI0_ok vD_264 vK_264
set_option maxRecDepth 100000 in
theorem vR_265_0 : cz_chkR prog_15_method_11_code cr_265_0 = true := rws_ok (p := 0) (by decide +kernel)
set_option maxRecDepth 100000 in
theorem vR_265_1 : cz_chkR prog_15_method_11_code cr_265_1 = true := rws_ok (p := 17) (by decide +kernel)
set_option maxRecDepth 100000 in
theorem vR_265_2 : cz_chkR prog_15_method_11_code cr_265_2 = true := rws_ok (p := 33) (by decide +kernel)
theorem vD_265 : cz_chkD cm_265 = true := cz_chkD_of (show ∀ row ∈ [cr_265_0, cr_265_1, cr_265_2], cz_chkR prog_15_method_11_code row = true from List.forall_mem_cons.mpr ⟨vR_265_0, List.forall_mem_cons.mpr ⟨vR_265_1, List.forall_mem_cons.mpr ⟨vR_265_2, fun _ w => (by cases w)⟩⟩⟩)
set_option maxRecDepth 100000 in
theorem vK_265 : cz_chkK cm_265 [[0, 8091, 8093, 100]] = true := by decide +kernel
theorem vO_265 : cz_okM cm_265 := cz_chkM_ok cz_allY_ok cz_allC2_ok cz_asl_ok cz_okI0_ok vD_265 vK_265
set_option maxRecDepth 100000 in
theorem vR_266_0 : cz_chkR prog_15_method_54_code cr_266_0 = true := rws_ok (p := 0) (by decide +kernel)
set_option maxRecDepth 100000 in
theorem vR_266_1 : cz_chkR prog_15_method_54_code cr_266_1 = true := rws_ok (p := 17) (by decide +kernel)
set_option maxRecDepth 100000 in
theorem vR_266_4 : cz_chkR prog_15_method_54_code cr_266_4 = true := rws_ok (p := 64) (by decide +kernel)
set_option maxRecDepth 100000 in
theorem vR_266_5 : cz_chkR prog_15_method_54_code cr_266_5 = true := rws_ok (p := 81) (by decide +kernel)
set_option maxRecDepth 100000 in
theorem vR_266_6 : cz_chkR prog_15_method_54_code cr_266_6 = true := rws_ok (p := 96) (by decide +kernel)
set_option maxRecDepth 100000 in
theorem vR_266_7 : cz_chkR prog_15_method_54_code cr_266_7 = true := rws_ok (p := 113) (by decide +kernel)
set_option maxRecDepth 100000 in
theorem vR_266_8 : cz_chkR prog_15_method_54_code cr_266_8 = true := rws_ok (p := 129) (by decide +kernel)
set_option maxRecDepth 100000 in
theorem vR_266_9 : cz_chkR prog_15_method_54_code cr_266_9 = true := rws_ok (p := 145) (by decide +kernel)
set_option maxRecDepth 100000 in
theorem vR_266_10 : cz_chkR prog_15_method_54_code cr_266_10 = true := rws_ok (p := 160) (by decide +kernel)
set_option maxRecDepth 100000 in
theorem vR_266_11 : cz_chkR prog_15_method_54_code cr_266_11 = true := rws_ok (p := 177) (by decide +kernel)
set_option maxRecDepth 100000 in
theorem vR_266_12 : cz_chkR prog_15_method_54_code cr_266_12 = true := rws_ok (p := 192) (by decide +kernel)
set_option maxRecDepth 100000 in
theorem vR_266_13 : cz_chkR prog_15_method_54_code cr_266_13 = true := rws_ok (p := 209) (by decide +kernel)
set_option maxRecDepth 100000 in
theorem vR_266_14 : cz_chkR prog_15_method_54_code cr_266_14 = true := rws_ok (p := 225) (by decide +kernel)
set_option maxRecDepth 100000 in
theorem vR_266_15 : cz_chkR prog_15_method_54_code cr_266_15 = true := rws_ok (p := 240) (by decide +kernel)
set_option maxRecDepth 100000 in
theorem vR_266_16 : cz_chkR prog_15_method_54_code cr_266_16 = true := rws_ok (p := 256) (by decide +kernel)
theorem vD_266 : cz_chkD cm_266 = true := cz_chkD_of (show ∀ row ∈ [cr_266_0, cr_266_1, [], [], cr_266_4, cr_266_5, cr_266_6, cr_266_7, cr_266_8, cr_266_9, cr_266_10, cr_266_11, cr_266_12, cr_266_13, cr_266_14, cr_266_15, cr_266_16], cz_chkR prog_15_method_54_code row = true from List.forall_mem_cons.mpr ⟨vR_266_0, List.forall_mem_cons.mpr ⟨vR_266_1, List.forall_mem_cons.mpr ⟨rfl, List.forall_mem_cons.mpr ⟨rfl, List.forall_mem_cons.mpr ⟨vR_266_4, List.forall_mem_cons.mpr ⟨vR_266_5, List.forall_mem_cons.mpr ⟨vR_266_6, List.forall_mem_cons.mpr ⟨vR_266_7, List.forall_mem_cons.mpr ⟨vR_266_8, List.forall_mem_cons.mpr ⟨vR_266_9, List.forall_mem_cons.mpr ⟨vR_266_10, List.forall_mem_cons.mpr ⟨vR_266_11, List.forall_mem_cons.mpr ⟨vR_266_12, List.forall_mem_cons.mpr ⟨vR_266_13, List.forall_mem_cons.mpr ⟨vR_266_14, List.forall_mem_cons.mpr ⟨vR_266_15, List.forall_mem_cons.mpr ⟨vR_266_16, fun _ w => (by cases w)⟩⟩⟩⟩⟩⟩⟩⟩⟩⟩⟩⟩⟩⟩⟩⟩⟩)
set_option maxRecDepth 100000 in
theorem vK_266 : cz_chkK cm_266 [[0, 9187, 9189, 122], [0, 9191, 9193, 123], [0, 10069, 10071, 147], [0, 10077, 10079, 149]] = true := by decide +kernel
theorem vO_266 : cz_okM cm_266 := cz_chkM_ok cz_allY_ok cz_allC2_ok cz_asl_ok cz_okI0_ok vD_266 vK_266
set_option maxRecDepth 100000 in
theorem vR_267_0 : cz_chkR prog_15_method_81_code cr_267_0 = true := rws_ok (p := 0) (by decide +kernel)
set_option maxRecDepth 100000 in
theorem vR_267_1 : cz_chkR prog_15_method_81_code cr_267_1 = true := rws_ok (p := 18) (by decide +kernel)
set_option maxRecDepth 100000 in
theorem vR_267_2 : cz_chkR prog_15_method_81_code cr_267_2 = true := rws_ok (p := 34) (by decide +kernel)
set_option maxRecDepth 100000 in
theorem vR_267_3 : cz_chkR prog_15_method_81_code cr_267_3 = true := rws_ok (p := 50) (by decide +kernel)
theorem vD_267 : cz_chkD cm_267 = true := cz_chkD_of (show ∀ row ∈ [cr_267_0, cr_267_1, cr_267_2, cr_267_3], cz_chkR prog_15_method_81_code row = true from List.forall_mem_cons.mpr ⟨vR_267_0, List.forall_mem_cons.mpr ⟨vR_267_1, List.forall_mem_cons.mpr ⟨vR_267_2, List.forall_mem_cons.mpr ⟨vR_267_3, fun _ w => (by cases w)⟩⟩⟩⟩)
set_option maxRecDepth 100000 in
theorem vK_267 : cz_chkK cm_267 [[0, 9187, 9189, 122], [0, 10136, 10138, 159], [10133], [10134], [10135]] = true := by decide +kernel
theorem vO_267 : cz_okM cm_267 := cz_chkM_ok cz_allY_ok cz_allC2_ok cz_asl_ok cz_okI0_ok vD_267 vK_267
set_option maxRecDepth 100000 in
theorem vR_268_0 : cz_chkR prog_15_method_50_code cr_268_0 = true := rws_ok (p := 0) (by decide +kernel)
set_option maxRecDepth 100000 in
theorem vR_268_1 : cz_chkR prog_15_method_50_code cr_268_1 = true := rws_ok (p := 17) (by decide +kernel)
set_option maxRecDepth 100000 in
theorem vR_268_2 : cz_chkR prog_15_method_50_code cr_268_2 = true := rws_ok (p := 34) (by decide +kernel)
set_option maxRecDepth 100000 in
theorem vR_268_3 : cz_chkR prog_15_method_50_code cr_268_3 = true := rws_ok (p := 48) (by decide +kernel)
set_option maxRecDepth 100000 in
theorem vR_268_4 : cz_chkR prog_15_method_50_code cr_268_4 = true := rws_ok (p := 64) (by decide +kernel)
set_option maxRecDepth 100000 in
theorem vR_268_5 : cz_chkR prog_15_method_50_code cr_268_5 = true := rws_ok (p := 80) (by decide +kernel)
set_option maxRecDepth 100000 in
theorem vR_268_6 : cz_chkR prog_15_method_50_code cr_268_6 = true := rws_ok (p := 97) (by decide +kernel)
set_option maxRecDepth 100000 in
theorem vR_268_7 : cz_chkR prog_15_method_50_code cr_268_7 = true := rws_ok (p := 112) (by decide +kernel)
set_option maxRecDepth 100000 in
theorem vR_268_8 : cz_chkR prog_15_method_50_code cr_268_8 = true := rws_ok (p := 128) (by decide +kernel)
set_option maxRecDepth 100000 in
theorem vR_268_9 : cz_chkR prog_15_method_50_code cr_268_9 = true := rws_ok (p := 146) (by decide +kernel)
theorem vD_268 : cz_chkD cm_268 = true := cz_chkD_of (show ∀ row ∈ [cr_268_0, cr_268_1, cr_268_2, cr_268_3, cr_268_4, cr_268_5, cr_268_6, cr_268_7, cr_268_8, cr_268_9], cz_chkR prog_15_method_50_code row = true from List.forall_mem_cons.mpr ⟨vR_268_0, List.forall_mem_cons.mpr ⟨vR_268_1, List.forall_mem_cons.mpr ⟨vR_268_2, List.forall_mem_cons.mpr ⟨vR_268_3, List.forall_mem_cons.mpr ⟨vR_268_4, List.forall_mem_cons.mpr ⟨vR_268_5, List.forall_mem_cons.mpr ⟨vR_268_6, List.forall_mem_cons.mpr ⟨vR_268_7, List.forall_mem_cons.mpr ⟨vR_268_8, List.forall_mem_cons.mpr ⟨vR_268_9, fun _ w => (by cases w)⟩⟩⟩⟩⟩⟩⟩⟩⟩⟩)
set_option maxRecDepth 100000 in
theorem vK_268 : cz_chkK cm_268 [[7113], [7114], [7137], [7108], [0, 8004, 8006, 91], [7115], [7138], [9211], [0, 9212, 9214, 126], [0, 9216, 9218, 127]] = true := by decide +kernel
theorem vO_268 : cz_okM cm_268 := cz_chkM_ok cz_allY_ok cz_allC2_ok cz_asl_ok cz_okI0_ok vD_268 vK_268
set_option maxRecDepth 100000 in
theorem vR_269_0 : cz_chkR prog_15_method_51_code cr_269_0 = true := rws_ok (p := 0) (by decide +kernel)
set_option maxRecDepth 100000 in
theorem vR_269_1 : cz_chkR prog_15_method_51_code cr_269_1 = true := rws_ok (p := 18) (by decide +kernel)
set_option maxRecDepth 100000 in
theorem vR_269_2 : cz_chkR prog_15_method_51_code cr_269_2 = true := rws_ok (p := 34) (by decide +kernel)
set_option maxRecDepth 100000 in
theorem vR_269_3 : cz_chkR prog_15_method_51_code cr_269_3 = true := rws_ok (p := 50) (by decide +kernel)
set_option maxRecDepth 100000 in
theorem vR_269_4 : cz_chkR prog_15_method_51_code cr_269_4 = true := rws_ok (p := 64) (by decide +kernel)
set_option maxRecDepth 100000 in
theorem vR_269_5 : cz_chkR prog_15_method_51_code cr_269_5 = true := rws_ok (p := 80) (by decide +kernel)
set_option maxRecDepth 100000 in
theorem vR_269_6 : cz_chkR prog_15_method_51_code cr_269_6 = true := rws_ok (p := 98) (by decide +kernel)
set_option maxRecDepth 100000 in
theorem vR_269_7 : cz_chkR prog_15_method_51_code cr_269_7 = true := rws_ok (p := 112) (by decide +kernel)
set_option maxRecDepth 100000 in
theorem vR_269_8 : cz_chkR prog_15_method_51_code cr_269_8 = true := rws_ok (p := 129) (by decide +kernel)
set_option maxRecDepth 100000 in
theorem vR_269_9 : cz_chkR prog_15_method_51_code cr_269_9 = true := rws_ok (p := 144) (by decide +kernel)
set_option maxRecDepth 100000 in
theorem vR_269_10 : cz_chkR prog_15_method_51_code cr_269_10 = true := rws_ok (p := 160) (by decide +kernel)
set_option maxRecDepth 100000 in
theorem vR_269_11 : cz_chkR prog_15_method_51_code cr_269_11 = true := rws_ok (p := 178) (by decide +kernel)
set_option maxRecDepth 100000 in
theorem vR_269_12 : cz_chkR prog_15_method_51_code cr_269_12 = true := rws_ok (p := 192) (by decide +kernel)
theorem vD_269 : cz_chkD cm_269 = true := cz_chkD_of (show ∀ row ∈ [cr_269_0, cr_269_1, cr_269_2, cr_269_3, cr_269_4, cr_269_5, cr_269_6, cr_269_7, cr_269_8, cr_269_9, cr_269_10, cr_269_11, cr_269_12], cz_chkR prog_15_method_51_code row = true from List.forall_mem_cons.mpr ⟨vR_269_0, List.forall_mem_cons.mpr ⟨vR_269_1, List.forall_mem_cons.mpr ⟨vR_269_2, List.forall_mem_cons.mpr ⟨vR_269_3, List.forall_mem_cons.mpr ⟨vR_269_4, List.forall_mem_cons.mpr ⟨vR_269_5, List.forall_mem_cons.mpr ⟨vR_269_6, List.forall_mem_cons.mpr ⟨vR_269_7, List.forall_mem_cons.mpr ⟨vR_269_8, List.forall_mem_cons.mpr ⟨vR_269_9, List.forall_mem_cons.mpr ⟨vR_269_10, List.forall_mem_cons.mpr ⟨vR_269_11, List.forall_mem_cons.mpr ⟨vR_269_12, fun _ w => (by cases w)⟩⟩⟩⟩⟩⟩⟩⟩⟩⟩⟩⟩⟩)
set_option maxRecDepth 100000 in
theorem vK_269 : cz_chkK cm_269 [[7113], [7114], [7139], [7108], [0, 8004, 8006, 91], [7115], [9211], [0, 9212, 9214, 126], [0, 9216, 9218, 127], [0, 9233, 9235, 131]] = true := by decide +kernel
theorem vO_269 : cz_okM cm_269 := cz_chkM_ok cz_allY_ok cz_allC2_ok cz_asl_ok cz_okI0_ok vD_269 vK_269
set_option maxRecDepth 100000 in
theorem vR_270_0 : cz_chkR prog_15_method_4_code cr_270_0 = true := rws_ok (p := 0) (by decide +kernel)
set_option maxRecDepth 100000 in
theorem vR_270_1 : cz_chkR prog_15_method_4_code cr_270_1 = true := rws_ok (p := 17) (by decide +kernel)
set_option maxRecDepth 100000 in
theorem vR_270_2 : cz_chkR prog_15_method_4_code cr_270_2 = true := rws_ok (p := 32) (by decide +kernel)
set_option maxRecDepth 100000 in
theorem vR_270_3 : cz_chkR prog_15_method_4_code cr_270_3 = true := rws_ok (p := 48) (by decide +kernel)
set_option maxRecDepth 100000 in
theorem vR_270_4 : cz_chkR prog_15_method_4_code cr_270_4 = true := rws_ok (p := 66) (by decide +kernel)
theorem vD_270 : cz_chkD cm_270 = true := cz_chkD_of (show ∀ row ∈ [cr_270_0, cr_270_1, cr_270_2, cr_270_3, cr_270_4], cz_chkR prog_15_method_4_code row = true from List.forall_mem_cons.mpr ⟨vR_270_0, List.forall_mem_cons.mpr ⟨vR_270_1, List.forall_mem_cons.mpr ⟨vR_270_2, List.forall_mem_cons.mpr ⟨vR_270_3, List.forall_mem_cons.mpr ⟨vR_270_4, fun _ w => (by cases w)⟩⟩⟩⟩⟩)
set_option maxRecDepth 100000 in
theorem vK_270 : cz_chkK cm_270 [[7117], [7118]] = true := by decide +kernel
theorem vO_270 : cz_okM cm_270 := cz_chkM_ok cz_allY_ok cz_allC2_ok cz_asl_ok cz_okI0_ok vD_270 vK_270
set_option maxRecDepth 100000 in
theorem vR_271_0 : cz_chkR prog_15_method_60_code cr_271_0 = true := rws_ok (p := 0) (by decide +kernel)
set_option maxRecDepth 100000 in
theorem vR_271_1 : cz_chkR prog_15_method_60_code cr_271_1 = true := rws_ok (p := 16) (by decide +kernel)
set_option maxRecDepth 100000 in
theorem vR_271_2 : cz_chkR prog_15_method_60_code cr_271_2 = true := rws_ok (p := 33) (by decide +kernel)
theorem vD_271 : cz_chkD cm_271 = true := cz_chkD_of (show ∀ row ∈ [cr_271_0, cr_271_1, cr_271_2], cz_chkR prog_15_method_60_code row = true from List.forall_mem_cons.mpr ⟨vR_271_0, List.forall_mem_cons.mpr ⟨vR_271_1, List.forall_mem_cons.mpr ⟨vR_271_2, fun _ w => (by cases w)⟩⟩⟩)
set_option maxRecDepth 100000 in
theorem vK_271 : cz_chkK cm_271 [[7137], [7139], [7138], [7141]] = true := by decide +kernel
theorem vO_271 : cz_okM cm_271 := cz_chkM_ok cz_allY_ok cz_allC2_ok cz_asl_ok cz_okI0_ok vD_271 vK_271
set_option maxRecDepth 100000 in
theorem vR_272_0 : cz_chkR prog_15_method_84_code cr_272_0 = true := rws_ok (p := 0) (by decide +kernel)
set_option maxRecDepth 100000 in
theorem vR_272_1 : cz_chkR prog_15_method_84_code cr_272_1 = true := rws_ok (p := 18) (by decide +kernel)
set_option maxRecDepth 100000 in
theorem vR_272_2 : cz_chkR prog_15_method_84_code cr_272_2 = true := rws_ok (p := 33) (by decide +kernel)
set_option maxRecDepth 100000 in
theorem vR_272_3 : cz_chkR prog_15_method_84_code cr_272_3 = true := rws_ok (p := 49) (by decide +kernel)
set_option maxRecDepth 100000 in
theorem vR_272_4 : cz_chkR prog_15_method_84_code cr_272_4 = true := rws_ok (p := 64) (by decide +kernel)
set_option maxRecDepth 100000 in
theorem vR_272_5 : cz_chkR prog_15_method_84_code cr_272_5 = true := rws_ok (p := 80) (by decide +kernel)
set_option maxRecDepth 100000 in
theorem vR_272_6 : cz_chkR prog_15_method_84_code cr_272_6 = true := rws_ok (p := 97) (by decide +kernel)
set_option maxRecDepth 100000 in
theorem vR_272_7 : cz_chkR prog_15_method_84_code cr_272_7 = true := rws_ok (p := 112) (by decide +kernel)
theorem vD_272 : cz_chkD cm_272 = true := cz_chkD_of (show ∀ row ∈ [cr_272_0, cr_272_1, cr_272_2, cr_272_3, cr_272_4, cr_272_5, cr_272_6, cr_272_7], cz_chkR prog_15_method_84_code row = true from List.forall_mem_cons.mpr ⟨vR_272_0, List.forall_mem_cons.mpr ⟨vR_272_1, List.forall_mem_cons.mpr ⟨vR_272_2, List.forall_mem_cons.mpr ⟨vR_272_3, List.forall_mem_cons.mpr ⟨vR_272_4, List.forall_mem_cons.mpr ⟨vR_272_5, List.forall_mem_cons.mpr ⟨vR_272_6, List.forall_mem_cons.mpr ⟨vR_272_7, fun _ w => (by cases w)⟩⟩⟩⟩⟩⟩⟩⟩)
set_option maxRecDepth 100000 in
theorem vK_272 : cz_chkK cm_272 [[7059], [7111], [7148], [7108], [0, 8004, 8006, 91], [7115], [9211], [0, 9212, 9214, 126], [7149], [0, 10117, 10119, 155], [7112]] = true := by decide +kernel
theorem vO_272 : cz_okM cm_272 := cz_chkM_ok cz_allY_ok cz_allC2_ok cz_asl_ok cz_okI0_ok vD_272 vK_272
set_option maxRecDepth 100000 in
theorem vR_273_0 : cz_chkR prog_15_method_83_code cr_273_0 = true := rws_ok (p := 0) (by decide +kernel)
set_option maxRecDepth 100000 in
theorem vR_273_1 : cz_chkR prog_15_method_83_code cr_273_1 = true := rws_ok (p := 17) (by decide +kernel)
set_option maxRecDepth 100000 in
theorem vR_273_2 : cz_chkR prog_15_method_83_code cr_273_2 = true := rws_ok (p := 32) (by decide +kernel)
set_option maxRecDepth 100000 in
theorem vR_273_3 : cz_chkR prog_15_method_83_code cr_273_3 = true := rws_ok (p := 48) (by decide +kernel)
set_option maxRecDepth 100000 in
theorem vR_273_4 : cz_chkR prog_15_method_83_code cr_273_4 = true := rws_ok (p := 66) (by decide +kernel)
set_option maxRecDepth 100000 in
theorem vR_273_5 : cz_chkR prog_15_method_83_code cr_273_5 = true := rws_ok (p := 80) (by decide +kernel)
set_option maxRecDepth 100000 in
theorem vR_273_6 : cz_chkR prog_15_method_83_code cr_273_6 = true := rws_ok (p := 98) (by decide +kernel)
set_option maxRecDepth 100000 in
theorem vR_273_7 : cz_chkR prog_15_method_83_code cr_273_7 = true := rws_ok (p := 113) (by decide +kernel)
set_option maxRecDepth 100000 in
theorem vR_273_8 : cz_chkR prog_15_method_83_code cr_273_8 = true := rws_ok (p := 128) (by decide +kernel)
set_option maxRecDepth 100000 in
theorem vR_273_9 : cz_chkR prog_15_method_83_code cr_273_9 = true := rws_ok (p := 145) (by decide +kernel)
set_option maxRecDepth 100000 in
theorem vR_273_10 : cz_chkR prog_15_method_83_code cr_273_10 = true := rws_ok (p := 160) (by decide +kernel)
set_option maxRecDepth 100000 in
theorem vR_273_11 : cz_chkR prog_15_method_83_code cr_273_11 = true := rws_ok (p := 177) (by decide +kernel)
set_option maxRecDepth 100000 in
theorem vR_273_12 : cz_chkR prog_15_method_83_code cr_273_12 = true := rws_ok (p := 193) (by decide +kernel)
set_option maxRecDepth 100000 in
theorem vR_273_13 : cz_chkR prog_15_method_83_code cr_273_13 = true := rws_ok (p := 210) (by decide +kernel)
set_option maxRecDepth 100000 in
theorem vR_273_14 : cz_chkR prog_15_method_83_code cr_273_14 = true := rws_ok (p := 224) (by decide +kernel)
set_option maxRecDepth 100000 in
theorem vR_273_15 : cz_chkR prog_15_method_83_code cr_273_15 = true := rws_ok (p := 240) (by decide +kernel)
set_option maxRecDepth 100000 in
theorem vR_273_16 : cz_chkR prog_15_method_83_code cr_273_16 = true := rws_ok (p := 256) (by decide +kernel)
set_option maxRecDepth 100000 in
theorem vR_273_17 : cz_chkR prog_15_method_83_code cr_273_17 = true := rws_ok (p := 273) (by decide +kernel)
set_option maxRecDepth 100000 in
theorem vR_273_18 : cz_chkR prog_15_method_83_code cr_273_18 = true := rws_ok (p := 288) (by decide +kernel)
set_option maxRecDepth 100000 in
theorem vR_273_19 : cz_chkR prog_15_method_83_code cr_273_19 = true := rws_ok (p := 306) (by decide +kernel)
set_option maxRecDepth 100000 in
theorem vR_273_20 : cz_chkR prog_15_method_83_code cr_273_20 = true := rws_ok (p := 320) (by decide +kernel)
set_option maxRecDepth 100000 in
theorem vR_273_21 : cz_chkR prog_15_method_83_code cr_273_21 = true := rws_ok (p := 336) (by decide +kernel)
theorem vD_273 : cz_chkD cm_273 = true := cz_chkD_of (show ∀ row ∈ [cr_273_0, cr_273_1, cr_273_2, cr_273_3, cr_273_4, cr_273_5, cr_273_6, cr_273_7, cr_273_8, cr_273_9, cr_273_10, cr_273_11, cr_273_12, cr_273_13, cr_273_14, cr_273_15, cr_273_16, cr_273_17, cr_273_18, cr_273_19, cr_273_20, cr_273_21], cz_chkR prog_15_method_83_code row = true from List.forall_mem_cons.mpr ⟨vR_273_0, List.forall_mem_cons.mpr ⟨vR_273_1, List.forall_mem_cons.mpr ⟨vR_273_2, List.forall_mem_cons.mpr ⟨vR_273_3, List.forall_mem_cons.mpr ⟨vR_273_4, List.forall_mem_cons.mpr ⟨vR_273_5, List.forall_mem_cons.mpr ⟨vR_273_6, List.forall_mem_cons.mpr ⟨vR_273_7, List.forall_mem_cons.mpr ⟨vR_273_8, List.forall_mem_cons.mpr ⟨vR_273_9, List.forall_mem_cons.mpr ⟨vR_273_10, List.forall_mem_cons.mpr ⟨vR_273_11, List.forall_mem_cons.mpr ⟨vR_273_12, List.forall_mem_cons.mpr ⟨vR_273_13, List.forall_mem_cons.mpr ⟨vR_273_14, List.forall_mem_cons.mpr ⟨vR_273_15, List.forall_mem_cons.mpr ⟨vR_273_16, List.forall_mem_cons.mpr ⟨vR_273_17, List.forall_mem_cons.mpr ⟨vR_273_18, List.forall_mem_cons.mpr ⟨vR_273_19, List.forall_mem_cons.mpr ⟨vR_273_20, List.forall_mem_cons.mpr ⟨vR_273_21, fun _ w => (by cases w)⟩⟩⟩⟩⟩⟩⟩⟩⟩⟩⟩⟩⟩⟩⟩⟩⟩⟩⟩⟩⟩⟩)
set_option maxRecDepth 100000 in
theorem vK_273 : cz_chkK cm_273 [[7143], [7146], [7144], [7149], [0, 10121, 10123, 156], [10145], [0, 10146, 10148, 161]] = true := by decide +kernel
theorem vO_273 : cz_okM cm_273 := cz_chkM_ok cz_allY_ok cz_allC2_ok cz_asl_ok cz_okI0_ok vD_273 vK_273
set_option maxRecDepth 100000 in
theorem vR_274_0 : cz_chkR prog_15_method_30_code cr_274_0 = true := rws_ok (p := 0) (by decide +kernel)
set_option maxRecDepth 100000 in
theorem vR_274_1 : cz_chkR prog_15_method_30_code cr_274_1 = true := rws_ok (p := 16) (by decide +kernel)
set_option maxRecDepth 100000 in
theorem vR_274_2 : cz_chkR prog_15_method_30_code cr_274_2 = true := rws_ok (p := 33) (by decide +kernel)
set_option maxRecDepth 100000 in
theorem vR_274_3 : cz_chkR prog_15_method_30_code cr_274_3 = true := rws_ok (p := 49) (by decide +kernel)
set_option maxRecDepth 100000 in
theorem vR_274_4 : cz_chkR prog_15_method_30_code cr_274_4 = true := rws_ok (p := 64) (by decide +kernel)
theorem vD_274 : cz_chkD cm_274 = true := cz_chkD_of (show ∀ row ∈ [cr_274_0, cr_274_1, cr_274_2, cr_274_3, cr_274_4], cz_chkR prog_15_method_30_code row = true from List.forall_mem_cons.mpr ⟨vR_274_0, List.forall_mem_cons.mpr ⟨vR_274_1, List.forall_mem_cons.mpr ⟨vR_274_2, List.forall_mem_cons.mpr ⟨vR_274_3, List.forall_mem_cons.mpr ⟨vR_274_4, fun _ w => (by cases w)⟩⟩⟩⟩⟩)
set_option maxRecDepth 100000 in
theorem vK_274 : cz_chkK cm_274 [[7119], [8014], [8015], [8018], [8019], [8013], [7120]] = true := by decide +kernel
theorem vO_274 : cz_okM cm_274 := cz_chkM_ok cz_allY_ok cz_allC2_ok cz_asl_ok cz_okI0_ok vD_274 vK_274
set_option maxRecDepth 100000 in
theorem vR_275_0 : cz_chkR prog_15_method_72_code cr_275_0 = true := rws_ok (p := 0) (by decide +kernel)
set_option maxRecDepth 100000 in
theorem vR_275_1 : cz_chkR prog_15_method_72_code cr_275_1 = true := rws_ok (p := 16) (by decide +kernel)
theorem vD_275 : cz_chkD cm_275 = true := cz_chkD_of (show ∀ row ∈ [cr_275_0, cr_275_1], cz_chkR prog_15_method_72_code row = true from List.forall_mem_cons.mpr ⟨vR_275_0, List.forall_mem_cons.mpr ⟨vR_275_1, fun _ w => (by cases w)⟩⟩)
set_option maxRecDepth 100000 in
theorem vK_275 : cz_chkK cm_275 [] = true := by decide +kernel
theorem vO_275 : cz_okM cm_275 := cz_chkM_ok cz_allY_ok cz_allC2_ok cz_asl_ok cz_okI0_ok vD_275 vK_275
set_option maxRecDepth 100000 in
theorem vR_276_0 : cz_chkR prog_15_method_25_code cr_276_0 = true := rws_ok (p := 0) (by decide +kernel)
set_option maxRecDepth 100000 in
theorem vR_276_1 : cz_chkR prog_15_method_25_code cr_276_1 = true := rws_ok (p := 16) (by decide +kernel)
set_option maxRecDepth 100000 in
theorem vR_276_2 : cz_chkR prog_15_method_25_code cr_276_2 = true := rws_ok (p := 32) (by decide +kernel)
set_option maxRecDepth 100000 in
theorem vR_276_3 : cz_chkR prog_15_method_25_code cr_276_3 = true := rws_ok (p := 48) (by decide +kernel)
set_option maxRecDepth 100000 in
theorem vR_276_4 : cz_chkR prog_15_method_25_code cr_276_4 = true := rws_ok (p := 64) (by decide +kernel)
set_option maxRecDepth 100000 in
theorem vR_276_5 : cz_chkR prog_15_method_25_code cr_276_5 = true := rws_ok (p := 81) (by decide +kernel)
set_option maxRecDepth 100000 in
theorem vR_276_6 : cz_chkR prog_15_method_25_code cr_276_6 = true := rws_ok (p := 96) (by decide +kernel)
set_option maxRecDepth 100000 in
theorem vR_276_7 : cz_chkR prog_15_method_25_code cr_276_7 = true := rws_ok (p := 113) (by decide +kernel)
set_option maxRecDepth 100000 in
theorem vR_276_8 : cz_chkR prog_15_method_25_code cr_276_8 = true := rws_ok (p := 128) (by decide +kernel)
set_option maxRecDepth 100000 in
theorem vR_276_9 : cz_chkR prog_15_method_25_code cr_276_9 = true := rws_ok (p := 144) (by decide +kernel)
set_option maxRecDepth 100000 in
theorem vR_276_10 : cz_chkR prog_15_method_25_code cr_276_10 = true := rws_ok (p := 162) (by decide +kernel)
set_option maxRecDepth 100000 in
theorem vR_276_11 : cz_chkR prog_15_method_25_code cr_276_11 = true := rws_ok (p := 176) (by decide +kernel)
set_option maxRecDepth 100000 in
theorem vR_276_12 : cz_chkR prog_15_method_25_code cr_276_12 = true := rws_ok (p := 192) (by decide +kernel)
set_option maxRecDepth 100000 in
theorem vR_276_13 : cz_chkR prog_15_method_25_code cr_276_13 = true := rws_ok (p := 208) (by decide +kernel)
set_option maxRecDepth 100000 in
theorem vR_276_14 : cz_chkR prog_15_method_25_code cr_276_14 = true := rws_ok (p := 224) (by decide +kernel)
set_option maxRecDepth 100000 in
theorem vR_276_15 : cz_chkR prog_15_method_25_code cr_276_15 = true := rws_ok (p := 242) (by decide +kernel)
set_option maxRecDepth 100000 in
theorem vR_276_16 : cz_chkR prog_15_method_25_code cr_276_16 = true := rws_ok (p := 257) (by decide +kernel)
set_option maxRecDepth 100000 in
theorem vR_276_17 : cz_chkR prog_15_method_25_code cr_276_17 = true := rws_ok (p := 272) (by decide +kernel)
theorem vD_276 : cz_chkD cm_276 = true := cz_chkD_of (show ∀ row ∈ [cr_276_0, cr_276_1, cr_276_2, cr_276_3, cr_276_4, cr_276_5, cr_276_6, cr_276_7, cr_276_8, cr_276_9, cr_276_10, cr_276_11, cr_276_12, cr_276_13, cr_276_14, cr_276_15, cr_276_16, cr_276_17], cz_chkR prog_15_method_25_code row = true from List.forall_mem_cons.mpr ⟨vR_276_0, List.forall_mem_cons.mpr ⟨vR_276_1, List.forall_mem_cons.mpr ⟨vR_276_2, List.forall_mem_cons.mpr ⟨vR_276_3, List.forall_mem_cons.mpr ⟨vR_276_4, List.forall_mem_cons.mpr ⟨vR_276_5, List.forall_mem_cons.mpr ⟨vR_276_6, List.forall_mem_cons.mpr ⟨vR_276_7, List.forall_mem_cons.mpr ⟨vR_276_8, List.forall_mem_cons.mpr ⟨vR_276_9, List.forall_mem_cons.mpr ⟨vR_276_10, List.forall_mem_cons.mpr ⟨vR_276_11, List.forall_mem_cons.mpr ⟨vR_276_12, List.forall_mem_cons.mpr ⟨vR_276_13, List.forall_mem_cons.mpr ⟨vR_276_14, List.forall_mem_cons.mpr ⟨vR_276_15, List.forall_mem_cons.mpr ⟨vR_276_16, List.forall_mem_cons.mpr ⟨vR_276_17, fun _ w => (by cases w)⟩⟩⟩⟩⟩⟩⟩⟩⟩⟩⟩⟩⟩⟩⟩⟩⟩⟩)
set_option maxRecDepth 100000 in
theorem vK_276 : cz_chkK cm_276 [[7062], [7119], [7108], [7118], [8003], [8023], [8014], [8015], [0, 8004, 8006, 91], [7115], [8009, 8010, 8011], [8013], [7110], [0, 8058, 8060, 92], [0, 8071, 8073, 95], [0, 8116, 8118, 106], [0, 9127, 9129, 109], [0, 9131, 9133, 110], [0, 9141, 9143, 112], [7120], [7116], [7062, 7063]] = true := by decide +kernel
theorem vO_276 : cz_okM cm_276 := cz_chkM_ok cz_allY_ok cz_allC2_ok cz_asl_ok cz_okI0_ok vD_276 vK_276
set_option maxRecDepth 100000 in
theorem vR_277_0 : cz_chkR prog_15_method_78_code cr_277_0 = true := rws_ok (p := 0) (by decide +kernel)
set_option maxRecDepth 100000 in
theorem vR_277_1 : cz_chkR prog_15_method_78_code cr_277_1 = true := rws_ok (p := 16) (by decide +kernel)
set_option maxRecDepth 100000 in
theorem vR_277_2 : cz_chkR prog_15_method_78_code cr_277_2 = true := rws_ok (p := 32) (by decide +kernel)
set_option maxRecDepth 100000 in
theorem vR_277_3 : cz_chkR prog_15_method_78_code cr_277_3 = true := rws_ok (p := 48) (by decide +kernel)
set_option maxRecDepth 100000 in
theorem vR_277_4 : cz_chkR prog_15_method_78_code cr_277_4 = true := rws_ok (p := 64) (by decide +kernel)
set_option maxRecDepth 100000 in
theorem vR_277_5 : cz_chkR prog_15_method_78_code cr_277_5 = true := rws_ok (p := 81) (by decide +kernel)
set_option maxRecDepth 100000 in
theorem vR_277_6 : cz_chkR prog_15_method_78_code cr_277_6 = true := rws_ok (p := 97) (by decide +kernel)
theorem vD_277 : cz_chkD cm_277 = true := cz_chkD_of (show ∀ row ∈ [cr_277_0, cr_277_1, cr_277_2, cr_277_3, cr_277_4, cr_277_5, cr_277_6], cz_chkR prog_15_method_78_code row = true from List.forall_mem_cons.mpr ⟨vR_277_0, List.forall_mem_cons.mpr ⟨vR_277_1, List.forall_mem_cons.mpr ⟨vR_277_2, List.forall_mem_cons.mpr ⟨vR_277_3, List.forall_mem_cons.mpr ⟨vR_277_4, List.forall_mem_cons.mpr ⟨vR_277_5, List.forall_mem_cons.mpr ⟨vR_277_6, fun _ w => (by cases w)⟩⟩⟩⟩⟩⟩⟩)
set_option maxRecDepth 100000 in
theorem vK_277 : cz_chkK cm_277 [[7117], [7119], [7145], [8021], [8023], [8013], [7120]] = true := by decide +kernel
theorem vO_277 : cz_okM cm_277 := cz_chkM_ok cz_allY_ok cz_allC2_ok cz_asl_ok cz_okI0_ok vD_277 vK_277
set_option maxRecDepth 100000 in
theorem vR_278_0 : cz_chkR prog_15_method_43_code cr_278_0 = true := rws_ok (p := 0) (by decide +kernel)
set_option maxRecDepth 100000 in
theorem vR_278_1 : cz_chkR prog_15_method_43_code cr_278_1 = true := rws_ok (p := 17) (by decide +kernel)
set_option maxRecDepth 100000 in
theorem vR_278_2 : cz_chkR prog_15_method_43_code cr_278_2 = true := rws_ok (p := 33) (by decide +kernel)
theorem vD_278 : cz_chkD cm_278 = true := cz_chkD_of (show ∀ row ∈ [cr_278_0, cr_278_1, cr_278_2], cz_chkR prog_15_method_43_code row = true from List.forall_mem_cons.mpr ⟨vR_278_0, List.forall_mem_cons.mpr ⟨vR_278_1, List.forall_mem_cons.mpr ⟨vR_278_2, fun _ w => (by cases w)⟩⟩⟩)
set_option maxRecDepth 100000 in
theorem vK_278 : cz_chkK cm_278 [[7137], [7138], [9211], [9224]] = true := by decide +kernel
theorem vO_278 : cz_okM cm_278 := cz_chkM_ok cz_allY_ok cz_allC2_ok cz_asl_ok cz_okI0_ok vD_278 vK_278
set_option maxRecDepth 100000 in
theorem vR_279_0 : cz_chkR prog_15_method_63_code cr_279_0 = true := rws_ok (p := 0) (by decide +kernel)
set_option maxRecDepth 100000 in
theorem vR_279_1 : cz_chkR prog_15_method_63_code cr_279_1 = true := rws_ok (p := 18) (by decide +kernel)
set_option maxRecDepth 100000 in
theorem vR_279_2 : cz_chkR prog_15_method_63_code cr_279_2 = true := rws_ok (p := 32) (by decide +kernel)
set_option maxRecDepth 100000 in
theorem vR_279_3 : cz_chkR prog_15_method_63_code cr_279_3 = true := rws_ok (p := 48) (by decide +kernel)
set_option maxRecDepth 100000 in
theorem vR_279_4 : cz_chkR prog_15_method_63_code cr_279_4 = true := rws_ok (p := 64) (by decide +kernel)
set_option maxRecDepth 100000 in
theorem vR_279_5 : cz_chkR prog_15_method_63_code cr_279_5 = true := rws_ok (p := 80) (by decide +kernel)
set_option maxRecDepth 100000 in
theorem vR_279_6 : cz_chkR prog_15_method_63_code cr_279_6 = true := rws_ok (p := 97) (by decide +kernel)
set_option maxRecDepth 100000 in
theorem vR_279_7 : cz_chkR prog_15_method_63_code cr_279_7 = true := rws_ok (p := 113) (by decide +kernel)
set_option maxRecDepth 100000 in
theorem vR_279_8 : cz_chkR prog_15_method_63_code cr_279_8 = true := rws_ok (p := 129) (by decide +kernel)
set_option maxRecDepth 100000 in
theorem vR_279_9 : cz_chkR prog_15_method_63_code cr_279_9 = true := rws_ok (p := 145) (by decide +kernel)
set_option maxRecDepth 100000 in
theorem vR_279_10 : cz_chkR prog_15_method_63_code cr_279_10 = true := rws_ok (p := 160) (by decide +kernel)
set_option maxRecDepth 100000 in
theorem vR_279_11 : cz_chkR prog_15_method_63_code cr_279_11 = true := rws_ok (p := 176) (by decide +kernel)
theorem vD_279 : cz_chkD cm_279 = true := cz_chkD_of (show ∀ row ∈ [cr_279_0, cr_279_1, cr_279_2, cr_279_3, cr_279_4, cr_279_5, cr_279_6, cr_279_7, cr_279_8, cr_279_9, cr_279_10, cr_279_11], cz_chkR prog_15_method_63_code row = true from List.forall_mem_cons.mpr ⟨vR_279_0, List.forall_mem_cons.mpr ⟨vR_279_1, List.forall_mem_cons.mpr ⟨vR_279_2, List.forall_mem_cons.mpr ⟨vR_279_3, List.forall_mem_cons.mpr ⟨vR_279_4, List.forall_mem_cons.mpr ⟨vR_279_5, List.forall_mem_cons.mpr ⟨vR_279_6, List.forall_mem_cons.mpr ⟨vR_279_7, List.forall_mem_cons.mpr ⟨vR_279_8, List.forall_mem_cons.mpr ⟨vR_279_9, List.forall_mem_cons.mpr ⟨vR_279_10, List.forall_mem_cons.mpr ⟨vR_279_11, fun _ w => (by cases w)⟩⟩⟩⟩⟩⟩⟩⟩⟩⟩⟩⟩)
set_option maxRecDepth 100000 in
theorem vK_279 : cz_chkK cm_279 [[7139], [7142], [7108], [0, 8004, 8006, 91], [7115], [9211], [0, 9212, 9214, 126], [7141], [0, 10093, 10095, 152]] = true := by decide +kernel
theorem vO_279 : cz_okM cm_279 := cz_chkM_ok cz_allY_ok cz_allC2_ok cz_asl_ok cz_okI0_ok vD_279 vK_279
set_option maxRecDepth 100000 in
theorem vR_280_0 : cz_chkR prog_15_method_62_code cr_280_0 = true := rws_ok (p := 0) (by decide +kernel)
set_option maxRecDepth 100000 in
theorem vR_280_1 : cz_chkR prog_15_method_62_code cr_280_1 = true := rws_ok (p := 17) (by decide +kernel)
set_option maxRecDepth 100000 in
theorem vR_280_2 : cz_chkR prog_15_method_62_code cr_280_2 = true := rws_ok (p := 32) (by decide +kernel)
set_option maxRecDepth 100000 in
theorem vR_280_3 : cz_chkR prog_15_method_62_code cr_280_3 = true := rws_ok (p := 49) (by decide +kernel)
set_option maxRecDepth 100000 in
theorem vR_280_4 : cz_chkR prog_15_method_62_code cr_280_4 = true := rws_ok (p := 65) (by decide +kernel)
set_option maxRecDepth 100000 in
theorem vR_280_5 : cz_chkR prog_15_method_62_code cr_280_5 = true := rws_ok (p := 80) (by decide +kernel)
set_option maxRecDepth 100000 in
theorem vR_280_6 : cz_chkR prog_15_method_62_code cr_280_6 = true := rws_ok (p := 96) (by decide +kernel)
set_option maxRecDepth 100000 in
theorem vR_280_7 : cz_chkR prog_15_method_62_code cr_280_7 = true := rws_ok (p := 112) (by decide +kernel)
theorem vD_280 : cz_chkD cm_280 = true := cz_chkD_of (show ∀ row ∈ [cr_280_0, cr_280_1, cr_280_2, cr_280_3, cr_280_4, cr_280_5, cr_280_6, cr_280_7], cz_chkR prog_15_method_62_code row = true from List.forall_mem_cons.mpr ⟨vR_280_0, List.forall_mem_cons.mpr ⟨vR_280_1, List.forall_mem_cons.mpr ⟨vR_280_2, List.forall_mem_cons.mpr ⟨vR_280_3, List.forall_mem_cons.mpr ⟨vR_280_4, List.forall_mem_cons.mpr ⟨vR_280_5, List.forall_mem_cons.mpr ⟨vR_280_6, List.forall_mem_cons.mpr ⟨vR_280_7, fun _ w => (by cases w)⟩⟩⟩⟩⟩⟩⟩⟩)
set_option maxRecDepth 100000 in
theorem vK_280 : cz_chkK cm_280 [[7113], [7114], [7139], [0, 9216, 9218, 127], [7141], [0, 10097, 10099, 153], [0, 10101, 10103, 154]] = true := by decide +kernel
theorem vO_280 : cz_okM cm_280 := cz_chkM_ok cz_allY_ok cz_allC2_ok cz_asl_ok cz_okI0_ok vD_280 vK_280
set_option maxRecDepth 100000 in
theorem vR_281_0 : cz_chkR prog_15_method_76_code cr_281_0 = true := rws_ok (p := 0) (by decide +kernel)
set_option maxRecDepth 100000 in
theorem vR_281_1 : cz_chkR prog_15_method_76_code cr_281_1 = true := rws_ok (p := 17) (by decide +kernel)
set_option maxRecDepth 100000 in
theorem vR_281_2 : cz_chkR prog_15_method_76_code cr_281_2 = true := rws_ok (p := 32) (by decide +kernel)
set_option maxRecDepth 100000 in
theorem vR_281_3 : cz_chkR prog_15_method_76_code cr_281_3 = true := rws_ok (p := 49) (by decide +kernel)
set_option maxRecDepth 100000 in
theorem vR_281_4 : cz_chkR prog_15_method_76_code cr_281_4 = true := rws_ok (p := 64) (by decide +kernel)
set_option maxRecDepth 100000 in
theorem vR_281_5 : cz_chkR prog_15_method_76_code cr_281_5 = true := rws_ok (p := 80) (by decide +kernel)
set_option maxRecDepth 100000 in
theorem vR_281_6 : cz_chkR prog_15_method_76_code cr_281_6 = true := rws_ok (p := 96) (by decide +kernel)
set_option maxRecDepth 100000 in
theorem vR_281_7 : cz_chkR prog_15_method_76_code cr_281_7 = true := rws_ok (p := 113) (by decide +kernel)
theorem vD_281 : cz_chkD cm_281 = true := cz_chkD_of (show ∀ row ∈ [cr_281_0, cr_281_1, cr_281_2, cr_281_3, cr_281_4, cr_281_5, cr_281_6, cr_281_7], cz_chkR prog_15_method_76_code row = true from List.forall_mem_cons.mpr ⟨vR_281_0, List.forall_mem_cons.mpr ⟨vR_281_1, List.forall_mem_cons.mpr ⟨vR_281_2, List.forall_mem_cons.mpr ⟨vR_281_3, List.forall_mem_cons.mpr ⟨vR_281_4, List.forall_mem_cons.mpr ⟨vR_281_5, List.forall_mem_cons.mpr ⟨vR_281_6, List.forall_mem_cons.mpr ⟨vR_281_7, fun _ w => (by cases w)⟩⟩⟩⟩⟩⟩⟩⟩)
set_option maxRecDepth 100000 in
theorem vK_281 : cz_chkK cm_281 [[7113], [7114], [7108], [0, 8004, 8006, 91], [7115], [0, 9212, 9214, 126], [0, 10013, 10015, 133]] = true := by decide +kernel
theorem vO_281 : cz_okM cm_281 := cz_chkM_ok cz_allY_ok cz_allC2_ok cz_asl_ok cz_okI0_ok vD_281 vK_281
set_option maxRecDepth 100000 in
theorem vR_282_0 : cz_chkR prog_15_method_49_code cr_282_0 = true := rws_ok (p := 0) (by decide +kernel)
set_option maxRecDepth 100000 in
theorem vR_282_1 : cz_chkR prog_15_method_49_code cr_282_1 = true := rws_ok (p := 18) (by decide +kernel)
set_option maxRecDepth 100000 in
theorem vR_282_2 : cz_chkR prog_15_method_49_code cr_282_2 = true := rws_ok (p := 32) (by decide +kernel)
set_option maxRecDepth 100000 in
theorem vR_282_3 : cz_chkR prog_15_method_49_code cr_282_3 = true := rws_ok (p := 48) (by decide +kernel)
set_option maxRecDepth 100000 in
theorem vR_282_4 : cz_chkR prog_15_method_49_code cr_282_4 = true := rws_ok (p := 66) (by decide +kernel)
set_option maxRecDepth 100000 in
theorem vR_282_5 : cz_chkR prog_15_method_49_code cr_282_5 = true := rws_ok (p := 82) (by decide +kernel)
theorem vD_282 : cz_chkD cm_282 = true := cz_chkD_of (show ∀ row ∈ [cr_282_0, cr_282_1, cr_282_2, cr_282_3, cr_282_4, cr_282_5], cz_chkR prog_15_method_49_code row = true from List.forall_mem_cons.mpr ⟨vR_282_0, List.forall_mem_cons.mpr ⟨vR_282_1, List.forall_mem_cons.mpr ⟨vR_282_2, List.forall_mem_cons.mpr ⟨vR_282_3, List.forall_mem_cons.mpr ⟨vR_282_4, List.forall_mem_cons.mpr ⟨vR_282_5, fun _ w => (by cases w)⟩⟩⟩⟩⟩⟩)
set_option maxRecDepth 100000 in
theorem vK_282 : cz_chkK cm_282 [[7113], [7114], [7108], [0, 8004, 8006, 91], [7115], [9211], [0, 9212, 9214, 126], [0, 9216, 9218, 127], [0, 9233, 9235, 131]] = true := by decide +kernel
theorem vO_282 : cz_okM cm_282 := cz_chkM_ok cz_allY_ok cz_allC2_ok cz_asl_ok cz_okI0_ok vD_282 vK_282
set_option maxRecDepth 100000 in
theorem vR_283_0 : cz_chkR prog_15_method_44_code cr_283_0 = true := rws_ok (p := 0) (by decide +kernel)
set_option maxRecDepth 100000 in
theorem vR_283_1 : cz_chkR prog_15_method_44_code cr_283_1 = true := rws_ok (p := 16) (by decide +kernel)
set_option maxRecDepth 100000 in
theorem vR_283_2 : cz_chkR prog_15_method_44_code cr_283_2 = true := rws_ok (p := 34) (by decide +kernel)
set_option maxRecDepth 100000 in
theorem vR_283_3 : cz_chkR prog_15_method_44_code cr_283_3 = true := rws_ok (p := 48) (by decide +kernel)
set_option maxRecDepth 100000 in
theorem vR_283_4 : cz_chkR prog_15_method_44_code cr_283_4 = true := rws_ok (p := 66) (by decide +kernel)
set_option maxRecDepth 100000 in
theorem vR_283_5 : cz_chkR prog_15_method_44_code cr_283_5 = true := rws_ok (p := 82) (by decide +kernel)
theorem vD_283 : cz_chkD cm_283 = true := cz_chkD_of (show ∀ row ∈ [cr_283_0, cr_283_1, cr_283_2, cr_283_3, cr_283_4, cr_283_5], cz_chkR prog_15_method_44_code row = true from List.forall_mem_cons.mpr ⟨vR_283_0, List.forall_mem_cons.mpr ⟨vR_283_1, List.forall_mem_cons.mpr ⟨vR_283_2, List.forall_mem_cons.mpr ⟨vR_283_3, List.forall_mem_cons.mpr ⟨vR_283_4, List.forall_mem_cons.mpr ⟨vR_283_5, fun _ w => (by cases w)⟩⟩⟩⟩⟩⟩)
set_option maxRecDepth 100000 in
theorem vK_283 : cz_chkK cm_283 [[7134], [0, 9175, 9177, 119], [7138], [0, 9220, 9222, 128], [0, 9225, 9227, 129], [0, 9229, 9231, 130]] = true := by decide +kernel
theorem vO_283 : cz_okM cm_283 := cz_chkM_ok cz_allY_ok cz_allC2_ok cz_asl_ok cz_okI0_ok vD_283 vK_283
set_option maxRecDepth 100000 in
theorem vR_284_0 : cz_chkR prog_15_method_16_code cr_284_0 = true := rws_ok (p := 0) (by decide +kernel)
set_option maxRecDepth 100000 in
theorem vR_284_1 : cz_chkR prog_15_method_16_code cr_284_1 = true := rws_ok (p := 16) (by decide +kernel)
theorem vD_284 : cz_chkD cm_284 = true := cz_chkD_of (show ∀ row ∈ [cr_284_0, cr_284_1], cz_chkR prog_15_method_16_code row = true from List.forall_mem_cons.mpr ⟨vR_284_0, List.forall_mem_cons.mpr ⟨vR_284_1, fun _ w => (by cases w)⟩⟩)
set_option maxRecDepth 100000 in
theorem vK_284 : cz_chkK cm_284 [[7125], [7126], [0, 8083, 8085, 98], [0, 8096, 8098, 101], [0, 8075, 8077, 96]] = true := by decide +kernel
theorem vO_284 : cz_okM cm_284 := cz_chkM_ok cz_allY_ok cz_allC2_ok cz_asl_ok cz_okI0_ok vD_284 vK_284
set_option maxRecDepth 100000 in
theorem vR_285_0 : cz_chkR prog_15_method_45_code cr_285_0 = true := rws_ok (p := 0) (by decide +kernel)
set_option maxRecDepth 100000 in
theorem vR_285_1 : cz_chkR prog_15_method_45_code cr_285_1 = true := rws_ok (p := 16) (by decide +kernel)
set_option maxRecDepth 100000 in
theorem vR_285_2 : cz_chkR prog_15_method_45_code cr_285_2 = true := rws_ok (p := 32) (by decide +kernel)
set_option maxRecDepth 100000 in
theorem vR_285_3 : cz_chkR prog_15_method_45_code cr_285_3 = true := rws_ok (p := 50) (by decide +kernel)
set_option maxRecDepth 100000 in
theorem vR_285_4 : cz_chkR prog_15_method_45_code cr_285_4 = true := rws_ok (p := 64) (by decide +kernel)
set_option maxRecDepth 100000 in
theorem vR_285_5 : cz_chkR prog_15_method_45_code cr_285_5 = true := rws_ok (p := 80) (by decide +kernel)
set_option maxRecDepth 100000 in
theorem vR_285_6 : cz_chkR prog_15_method_45_code cr_285_6 = true := rws_ok (p := 96) (by decide +kernel)
set_option maxRecDepth 100000 in
theorem vR_285_7 : cz_chkR prog_15_method_45_code cr_285_7 = true := rws_ok (p := 113) (by decide +kernel)
set_option maxRecDepth 100000 in
theorem vR_285_8 : cz_chkR prog_15_method_45_code cr_285_8 = true := rws_ok (p := 128) (by decide +kernel)
set_option maxRecDepth 100000 in
theorem vR_285_9 : cz_chkR prog_15_method_45_code cr_285_9 = true := rws_ok (p := 146) (by decide +kernel)
theorem vD_285 : cz_chkD cm_285 = true := cz_chkD_of (show ∀ row ∈ [cr_285_0, cr_285_1, cr_285_2, cr_285_3, cr_285_4, cr_285_5, cr_285_6, cr_285_7, cr_285_8, cr_285_9], cz_chkR prog_15_method_45_code row = true from List.forall_mem_cons.mpr ⟨vR_285_0, List.forall_mem_cons.mpr ⟨vR_285_1, List.forall_mem_cons.mpr ⟨vR_285_2, List.forall_mem_cons.mpr ⟨vR_285_3, List.forall_mem_cons.mpr ⟨vR_285_4, List.forall_mem_cons.mpr ⟨vR_285_5, List.forall_mem_cons.mpr ⟨vR_285_6, List.forall_mem_cons.mpr ⟨vR_285_7, List.forall_mem_cons.mpr ⟨vR_285_8, List.forall_mem_cons.mpr ⟨vR_285_9, fun _ w => (by cases w)⟩⟩⟩⟩⟩⟩⟩⟩⟩⟩)
set_option maxRecDepth 100000 in
theorem vK_285 : cz_chkK cm_285 [[7137], [7140], [0, 9191, 9193, 123], [7138]] = true := by decide +kernel
theorem vO_285 : cz_okM cm_285 := cz_chkM_ok cz_allY_ok cz_allC2_ok cz_asl_ok cz_okI0_ok vD_285 vK_285
set_option maxRecDepth 100000 in
theorem vR_286_0 : cz_chkR prog_15_method_48_code cr_286_0 = true := rws_ok (p := 0) (by decide +kernel)
theorem vD_286 : cz_chkD cm_286 = true := cz_chkD_of (show ∀ row ∈ [cr_286_0], cz_chkR prog_15_method_48_code row = true from List.forall_mem_cons.mpr ⟨vR_286_0, fun _ w => (by cases w)⟩)
set_option maxRecDepth 100000 in
theorem vK_286 : cz_chkK cm_286 [] = true := by decide +kernel
theorem vO_286 : cz_okM cm_286 := cz_chkM_ok cz_allY_ok cz_allC2_ok cz_asl_ok cz_okI0_ok vD_286 vK_286
set_option maxRecDepth 100000 in
theorem vR_287_0 : cz_chkR prog_15_method_91_code cr_287_0 = true := rws_ok (p := 0) (by decide +kernel)
set_option maxRecDepth 100000 in
theorem vR_287_1 : cz_chkR prog_15_method_91_code cr_287_1 = true := rws_ok (p := 18) (by decide +kernel)
set_option maxRecDepth 100000 in
theorem vR_287_2 : cz_chkR prog_15_method_91_code cr_287_2 = true := rws_ok (p := 33) (by decide +kernel)
set_option maxRecDepth 100000 in
theorem vR_287_3 : cz_chkR prog_15_method_91_code cr_287_3 = true := rws_ok (p := 48) (by decide +kernel)
set_option maxRecDepth 100000 in
theorem vR_287_4 : cz_chkR prog_15_method_91_code cr_287_4 = true := rws_ok (p := 64) (by decide +kernel)
set_option maxRecDepth 100000 in
theorem vR_287_5 : cz_chkR prog_15_method_91_code cr_287_5 = true := rws_ok (p := 82) (by decide +kernel)
theorem vD_287 : cz_chkD cm_287 = true := cz_chkD_of (show ∀ row ∈ [cr_287_0, cr_287_1, cr_287_2, cr_287_3, cr_287_4, cr_287_5], cz_chkR prog_15_method_91_code row = true from List.forall_mem_cons.mpr ⟨vR_287_0, List.forall_mem_cons.mpr ⟨vR_287_1, List.forall_mem_cons.mpr ⟨vR_287_2, List.forall_mem_cons.mpr ⟨vR_287_3, List.forall_mem_cons.mpr ⟨vR_287_4, List.forall_mem_cons.mpr ⟨vR_287_5, fun _ w => (by cases w)⟩⟩⟩⟩⟩⟩)
set_option maxRecDepth 100000 in
theorem vK_287 : cz_chkK cm_287 [[7113], [7114], [7137], [7108], [0, 8004, 8006, 91], [7138], [0, 9212, 9214, 126], [0, 9233, 9235, 131]] = true := by decide +kernel
theorem vO_287 : cz_okM cm_287 := cz_chkM_ok cz_allY_ok cz_allC2_ok cz_asl_ok cz_okI0_ok vD_287 vK_287
set_option maxRecDepth 100000 in
theorem vR_288_0 : cz_chkR prog_15_method_66_code cr_288_0 = true := rws_ok (p := 0) (by decide +kernel)
set_option maxRecDepth 100000 in
theorem vR_288_1 : cz_chkR prog_15_method_66_code cr_288_1 = true := rws_ok (p := 16) (by decide +kernel)
theorem vD_288 : cz_chkD cm_288 = true := cz_chkD_of (show ∀ row ∈ [cr_288_0, cr_288_1], cz_chkR prog_15_method_66_code row = true from List.forall_mem_cons.mpr ⟨vR_288_0, List.forall_mem_cons.mpr ⟨vR_288_1, fun _ w => (by cases w)⟩⟩)
set_option maxRecDepth 100000 in
theorem vK_288 : cz_chkK cm_288 [] = true := by decide +kernel
theorem vO_288 : cz_okM cm_288 := cz_chkM_ok cz_allY_ok cz_allC2_ok cz_asl_ok cz_okI0_ok vD_288 vK_288
set_option maxRecDepth 100000 in
theorem vR_289_0 : cz_chkR prog_15_method_9_code cr_289_0 = true := rws_ok (p := 0) (by decide +kernel)
set_option maxRecDepth 100000 in
theorem vR_289_1 : cz_chkR prog_15_method_9_code cr_289_1 = true := rws_ok (p := 16) (by decide +kernel)
theorem vD_289 : cz_chkD cm_289 = true := cz_chkD_of (show ∀ row ∈ [cr_289_0, cr_289_1], cz_chkR prog_15_method_9_code row = true from List.forall_mem_cons.mpr ⟨vR_289_0, List.forall_mem_cons.mpr ⟨vR_289_1, fun _ w => (by cases w)⟩⟩)
set_option maxRecDepth 100000 in
theorem vK_289 : cz_chkK cm_289 [[7109], [7125], [7126]] = true := by decide +kernel
theorem vO_289 : cz_okM cm_289 := cz_chkM_ok cz_allY_ok cz_allC2_ok cz_asl_ok cz_okI0_ok vD_289 vK_289
set_option maxRecDepth 100000 in
theorem vR_290_0 : cz_chkR prog_15_method_92_code cr_290_0 = true := rws_ok (p := 0) (by decide +kernel)
set_option maxRecDepth 100000 in
theorem vR_290_1 : cz_chkR prog_15_method_92_code cr_290_1 = true := rws_ok (p := 18) (by decide +kernel)
set_option maxRecDepth 100000 in
theorem vR_290_2 : cz_chkR prog_15_method_92_code cr_290_2 = true := rws_ok (p := 33) (by decide +kernel)
set_option maxRecDepth 100000 in
theorem vR_290_3 : cz_chkR prog_15_method_92_code cr_290_3 = true := rws_ok (p := 48) (by decide +kernel)
theorem vD_290 : cz_chkD cm_290 = true := cz_chkD_of (show ∀ row ∈ [cr_290_0, cr_290_1, cr_290_2, cr_290_3], cz_chkR prog_15_method_92_code row = true from List.forall_mem_cons.mpr ⟨vR_290_0, List.forall_mem_cons.mpr ⟨vR_290_1, List.forall_mem_cons.mpr ⟨vR_290_2, List.forall_mem_cons.mpr ⟨vR_290_3, fun _ w => (by cases w)⟩⟩⟩⟩)
set_option maxRecDepth 100000 in
theorem vK_290 : cz_chkK cm_290 [[7113], [7114], [7108], [0, 8004, 8006, 91], [0, 9212, 9214, 126]] = true := by decide +kernel
theorem vO_290 : cz_okM cm_290 := cz_chkM_ok cz_allY_ok cz_allC2_ok cz_asl_ok cz_okI0_ok vD_290 vK_290
set_option maxRecDepth 100000 in
theorem vR_291_0 : cz_chkR prog_15_method_20_code cr_291_0 = true := rws_ok (p := 0) (by decide +kernel)
set_option maxRecDepth 100000 in
theorem vR_291_1 : cz_chkR prog_15_method_20_code cr_291_1 = true := rws_ok (p := 16) (by decide +kernel)
set_option maxRecDepth 100000 in
theorem vR_291_2 : cz_chkR prog_15_method_20_code cr_291_2 = true := rws_ok (p := 34) (by decide +kernel)
set_option maxRecDepth 100000 in
theorem vR_291_3 : cz_chkR prog_15_method_20_code cr_291_3 = true := rws_ok (p := 49) (by decide +kernel)
set_option maxRecDepth 100000 in
theorem vR_291_4 : cz_chkR prog_15_method_20_code cr_291_4 = true := rws_ok (p := 64) (by decide +kernel)
set_option maxRecDepth 100000 in
theorem vR_291_5 : cz_chkR prog_15_method_20_code cr_291_5 = true := rws_ok (p := 82) (by decide +kernel)
set_option maxRecDepth 100000 in
theorem vR_291_6 : cz_chkR prog_15_method_20_code cr_291_6 = true := rws_ok (p := 98) (by decide +kernel)
set_option maxRecDepth 100000 in
theorem vR_291_7 : cz_chkR prog_15_method_20_code cr_291_7 = true := rws_ok (p := 114) (by decide +kernel)
set_option maxRecDepth 100000 in
theorem vR_291_8 : cz_chkR prog_15_method_20_code cr_291_8 = true := rws_ok (p := 128) (by decide +kernel)
set_option maxRecDepth 100000 in
theorem vR_291_9 : cz_chkR prog_15_method_20_code cr_291_9 = true := rws_ok (p := 144) (by decide +kernel)
set_option maxRecDepth 100000 in
theorem vR_291_10 : cz_chkR prog_15_method_20_code cr_291_10 = true := rws_ok (p := 161) (by decide +kernel)
set_option maxRecDepth 100000 in
theorem vR_291_11 : cz_chkR prog_15_method_20_code cr_291_11 = true := rws_ok (p := 177) (by decide +kernel)
set_option maxRecDepth 100000 in
theorem vR_291_12 : cz_chkR prog_15_method_20_code cr_291_12 = true := rws_ok (p := 194) (by decide +kernel)
set_option maxRecDepth 100000 in
theorem vR_291_13 : cz_chkR prog_15_method_20_code cr_291_13 = true := rws_ok (p := 210) (by decide +kernel)
set_option maxRecDepth 100000 in
theorem vR_291_14 : cz_chkR prog_15_method_20_code cr_291_14 = true := rws_ok (p := 224) (by decide +kernel)
set_option maxRecDepth 100000 in
theorem vR_291_15 : cz_chkR prog_15_method_20_code cr_291_15 = true := rws_ok (p := 241) (by decide +kernel)
set_option maxRecDepth 100000 in
theorem vR_291_16 : cz_chkR prog_15_method_20_code cr_291_16 = true := rws_ok (p := 256) (by decide +kernel)
set_option maxRecDepth 100000 in
theorem vR_291_17 : cz_chkR prog_15_method_20_code cr_291_17 = true := rws_ok (p := 273) (by decide +kernel)
set_option maxRecDepth 100000 in
theorem vR_291_18 : cz_chkR prog_15_method_20_code cr_291_18 = true := rws_ok (p := 289) (by decide +kernel)
set_option maxRecDepth 100000 in
theorem vR_291_19 : cz_chkR prog_15_method_20_code cr_291_19 = true := rws_ok (p := 304) (by decide +kernel)
set_option maxRecDepth 100000 in
theorem vR_291_20 : cz_chkR prog_15_method_20_code cr_291_20 = true := rws_ok (p := 322) (by decide +kernel)
set_option maxRecDepth 100000 in
theorem vR_291_21 : cz_chkR prog_15_method_20_code cr_291_21 = true := rws_ok (p := 336) (by decide +kernel)
set_option maxRecDepth 100000 in
theorem vR_291_22 : cz_chkR prog_15_method_20_code cr_291_22 = true := rws_ok (p := 352) (by decide +kernel)
set_option maxRecDepth 100000 in
theorem vR_291_23 : cz_chkR prog_15_method_20_code cr_291_23 = true := rws_ok (p := 368) (by decide +kernel)
set_option maxRecDepth 100000 in
theorem vR_291_24 : cz_chkR prog_15_method_20_code cr_291_24 = true := rws_ok (p := 385) (by decide +kernel)
set_option maxRecDepth 100000 in
theorem vR_291_25 : cz_chkR prog_15_method_20_code cr_291_25 = true := rws_ok (p := 402) (by decide +kernel)
theorem vD_291 : cz_chkD cm_291 = true := cz_chkD_of (show ∀ row ∈ [cr_291_0, cr_291_1, cr_291_2, cr_291_3, cr_291_4, cr_291_5, cr_291_6, cr_291_7, cr_291_8, cr_291_9, cr_291_10, cr_291_11, cr_291_12, cr_291_13, cr_291_14, cr_291_15, cr_291_16, cr_291_17, cr_291_18, cr_291_19, cr_291_20, cr_291_21, cr_291_22, cr_291_23, cr_291_24, cr_291_25], cz_chkR prog_15_method_20_code row = true from List.forall_mem_cons.mpr ⟨vR_291_0, List.forall_mem_cons.mpr ⟨vR_291_1, List.forall_mem_cons.mpr ⟨vR_291_2, List.forall_mem_cons.mpr ⟨vR_291_3, List.forall_mem_cons.mpr ⟨vR_291_4, List.forall_mem_cons.mpr ⟨vR_291_5, List.forall_mem_cons.mpr ⟨vR_291_6, List.forall_mem_cons.mpr ⟨vR_291_7, List.forall_mem_cons.mpr ⟨vR_291_8, List.forall_mem_cons.mpr ⟨vR_291_9, List.forall_mem_cons.mpr ⟨vR_291_10, List.forall_mem_cons.mpr ⟨vR_291_11, List.forall_mem_cons.mpr ⟨vR_291_12, List.forall_mem_cons.mpr ⟨vR_291_13, List.forall_mem_cons.mpr ⟨vR_291_14, List.forall_mem_cons.mpr ⟨vR_291_15, List.forall_mem_cons.mpr ⟨vR_291_16, List.forall_mem_cons.mpr ⟨vR_291_17, List.forall_mem_cons.mpr ⟨vR_291_18, List.forall_mem_cons.mpr ⟨vR_291_19, List.forall_mem_cons.mpr ⟨vR_291_20, List.forall_mem_cons.mpr ⟨vR_291_21, List.forall_mem_cons.mpr ⟨vR_291_22, List.forall_mem_cons.mpr ⟨vR_291_23, List.forall_mem_cons.mpr ⟨vR_291_24, List.forall_mem_cons.mpr ⟨vR_291_25, fun _ w => (by cases w)⟩⟩⟩⟩⟩⟩⟩⟩⟩⟩⟩⟩⟩⟩⟩⟩⟩⟩⟩⟩⟩⟩⟩⟩⟩⟩)
set_option maxRecDepth 100000 in
theorem vK_291 : cz_chkK cm_291 [[0, 8062, 8064, 93], [7125], [7126], [0, 8091, 8093, 100], [0, 8100, 8102, 102], [8014], [8015], [0, 8096, 8098, 101], [0, 8075, 8077, 96], [0, 8079, 8081, 97], [8016], [8017], [8018], [0, 8104, 8106, 103], [0, 8112, 8114, 105], [8025], [8027], [8029]] = true := by decide +kernel
theorem vO_291 : cz_okM cm_291 := cz_chkM_ok cz_allY_ok cz_allC2_ok cz_asl_ok cz_okI0_ok vD_291 vK_291
set_option maxRecDepth 100000 in
theorem vR_292_0 : cz_chkR prog_15_method_23_code cr_292_0 = true := rws_ok (p := 0) (by decide +kernel)
set_option maxRecDepth 100000 in
theorem vR_292_1 : cz_chkR prog_15_method_23_code cr_292_1 = true := rws_ok (p := 16) (by decide +kernel)
set_option maxRecDepth 100000 in
theorem vR_292_2 : cz_chkR prog_15_method_23_code cr_292_2 = true := rws_ok (p := 32) (by decide +kernel)
set_option maxRecDepth 100000 in
theorem vR_292_3 : cz_chkR prog_15_method_23_code cr_292_3 = true := rws_ok (p := 49) (by decide +kernel)
set_option maxRecDepth 100000 in
theorem vR_292_4 : cz_chkR prog_15_method_23_code cr_292_4 = true := rws_ok (p := 66) (by decide +kernel)
set_option maxRecDepth 100000 in
theorem vR_292_5 : cz_chkR prog_15_method_23_code cr_292_5 = true := rws_ok (p := 80) (by decide +kernel)
set_option maxRecDepth 100000 in
theorem vR_292_6 : cz_chkR prog_15_method_23_code cr_292_6 = true := rws_ok (p := 96) (by decide +kernel)
theorem vD_292 : cz_chkD cm_292 = true := cz_chkD_of (show ∀ row ∈ [cr_292_0, cr_292_1, cr_292_2, cr_292_3, cr_292_4, cr_292_5, cr_292_6], cz_chkR prog_15_method_23_code row = true from List.forall_mem_cons.mpr ⟨vR_292_0, List.forall_mem_cons.mpr ⟨vR_292_1, List.forall_mem_cons.mpr ⟨vR_292_2, List.forall_mem_cons.mpr ⟨vR_292_3, List.forall_mem_cons.mpr ⟨vR_292_4, List.forall_mem_cons.mpr ⟨vR_292_5, List.forall_mem_cons.mpr ⟨vR_292_6, fun _ w => (by cases w)⟩⟩⟩⟩⟩⟩⟩)
set_option maxRecDepth 100000 in
theorem vK_292 : cz_chkK cm_292 [[7122], [7123], [7124], [0, 8096, 8098, 101], [0, 8075, 8077, 96], [0, 8079, 8081, 97], [8018], [0, 8120, 8122, 107], [0, 9121, 9123, 108], [], [0, 9136, 9138, 111], [8019], []] = true := by decide +kernel
theorem vO_292 : cz_okM cm_292 := cz_chkM_ok cz_allY_ok cz_allC2_ok cz_asl_ok cz_okI0_ok vD_292 vK_292
set_option maxRecDepth 100000 in
theorem vR_293_0 : cz_chkR prog_15_method_34_code cr_293_0 = true := rws_ok (p := 0) (by decide +kernel)
set_option maxRecDepth 100000 in
theorem vR_293_1 : cz_chkR prog_15_method_34_code cr_293_1 = true := rws_ok (p := 17) (by decide +kernel)
set_option maxRecDepth 100000 in
theorem vR_293_2 : cz_chkR prog_15_method_34_code cr_293_2 = true := rws_ok (p := 32) (by decide +kernel)
set_option maxRecDepth 100000 in
theorem vR_293_3 : cz_chkR prog_15_method_34_code cr_293_3 = true := rws_ok (p := 48) (by decide +kernel)
set_option maxRecDepth 100000 in
theorem vR_293_4 : cz_chkR prog_15_method_34_code cr_293_4 = true := rws_ok (p := 66) (by decide +kernel)
theorem vD_293 : cz_chkD cm_293 = true := cz_chkD_of (show ∀ row ∈ [cr_293_0, cr_293_1, cr_293_2, cr_293_3, cr_293_4], cz_chkR prog_15_method_34_code row = true from List.forall_mem_cons.mpr ⟨vR_293_0, List.forall_mem_cons.mpr ⟨vR_293_1, List.forall_mem_cons.mpr ⟨vR_293_2, List.forall_mem_cons.mpr ⟨vR_293_3, List.forall_mem_cons.mpr ⟨vR_293_4, fun _ w => (by cases w)⟩⟩⟩⟩⟩)
set_option maxRecDepth 100000 in
theorem vK_293 : cz_chkK cm_293 [[7132], [7133]] = true := by decide +kernel
theorem vO_293 : cz_okM cm_293 := cz_chkM_ok cz_allY_ok cz_allC2_ok cz_asl_ok cz_okI0_ok vD_293 vK_293
set_option maxRecDepth 100000 in
theorem vR_294_0 : cz_chkR prog_15_method_73_code cr_294_0 = true := rws_ok (p := 0) (by decide +kernel)
set_option maxRecDepth 100000 in
theorem vR_294_1 : cz_chkR prog_15_method_73_code cr_294_1 = true := rws_ok (p := 16) (by decide +kernel)
theorem vD_294 : cz_chkD cm_294 = true := cz_chkD_of (show ∀ row ∈ [cr_294_0, cr_294_1], cz_chkR prog_15_method_73_code row = true from List.forall_mem_cons.mpr ⟨vR_294_0, List.forall_mem_cons.mpr ⟨vR_294_1, fun _ w => (by cases w)⟩⟩)
set_option maxRecDepth 100000 in
theorem vK_294 : cz_chkK cm_294 [] = true := by decide +kernel
theorem vO_294 : cz_okM cm_294 := cz_chkM_ok cz_allY_ok cz_allC2_ok cz_asl_ok cz_okI0_ok vD_294 vK_294
set_option maxRecDepth 100000 in
theorem vR_295_0 : cz_chkR prog_15_method_27_code cr_295_0 = true := rws_ok (p := 0) (by decide +kernel)
set_option maxRecDepth 100000 in
theorem vR_295_1 : cz_chkR prog_15_method_27_code cr_295_1 = true := rws_ok (p := 18) (by decide +kernel)
theorem vD_295 : cz_chkD cm_295 = true := cz_chkD_of (show ∀ row ∈ [cr_295_0, cr_295_1], cz_chkR prog_15_method_27_code row = true from List.forall_mem_cons.mpr ⟨vR_295_0, List.forall_mem_cons.mpr ⟨vR_295_1, fun _ w => (by cases w)⟩⟩)
set_option maxRecDepth 100000 in
theorem vK_295 : cz_chkK cm_295 [[8017], [0, 9157, 9159, 115]] = true := by decide +kernel
theorem vO_295 : cz_okM cm_295 := cz_chkM_ok cz_allY_ok cz_allC2_ok cz_asl_ok cz_okI0_ok vD_295 vK_295
set_option maxRecDepth 100000 in
theorem vR_296_0 : cz_chkR prog_15_method_42_code cr_296_0 = true := rws_ok (p := 0) (by decide +kernel)
set_option maxRecDepth 100000 in
theorem vR_296_1 : cz_chkR prog_15_method_42_code cr_296_1 = true := rws_ok (p := 16) (by decide +kernel)
set_option maxRecDepth 100000 in
theorem vR_296_2 : cz_chkR prog_15_method_42_code cr_296_2 = true := rws_ok (p := 33) (by decide +kernel)
set_option maxRecDepth 100000 in
theorem vR_296_3 : cz_chkR prog_15_method_42_code cr_296_3 = true := rws_ok (p := 50) (by decide +kernel)
theorem vD_296 : cz_chkD cm_296 = true := cz_chkD_of (show ∀ row ∈ [cr_296_0, cr_296_1, cr_296_2, cr_296_3], cz_chkR prog_15_method_42_code row = true from List.forall_mem_cons.mpr ⟨vR_296_0, List.forall_mem_cons.mpr ⟨vR_296_1, List.forall_mem_cons.mpr ⟨vR_296_2, List.forall_mem_cons.mpr ⟨vR_296_3, fun _ w => (by cases w)⟩⟩⟩⟩)
set_option maxRecDepth 100000 in
theorem vK_296 : cz_chkK cm_296 [[7114], [7108], [7118], [7115], [7120], [7116]] = true := by decide +kernel
theorem vO_296 : cz_okM cm_296 := cz_chkM_ok cz_allY_ok cz_allC2_ok cz_asl_ok cz_okI0_ok vD_296 vK_296
set_option maxRecDepth 100000 in
theorem vR_297_0 : cz_chkR prog_15_method_14_code cr_297_0 = true := rws_ok (p := 0) (by decide +kernel)
set_option maxRecDepth 100000 in
theorem vR_297_1 : cz_chkR prog_15_method_14_code cr_297_1 = true := rws_ok (p := 16) (by decide +kernel)
set_option maxRecDepth 100000 in
theorem vR_297_2 : cz_chkR prog_15_method_14_code cr_297_2 = true := rws_ok (p := 34) (by decide +kernel)
set_option maxRecDepth 100000 in
theorem vR_297_3 : cz_chkR prog_15_method_14_code cr_297_3 = true := rws_ok (p := 48) (by decide +kernel)
set_option maxRecDepth 100000 in
theorem vR_297_4 : cz_chkR prog_15_method_14_code cr_297_4 = true := rws_ok (p := 65) (by decide +kernel)
theorem vD_297 : cz_chkD cm_297 = true := cz_chkD_of (show ∀ row ∈ [cr_297_0, cr_297_1, cr_297_2, cr_297_3, cr_297_4], cz_chkR prog_15_method_14_code row = true from List.forall_mem_cons.mpr ⟨vR_297_0, List.forall_mem_cons.mpr ⟨vR_297_1, List.forall_mem_cons.mpr ⟨vR_297_2, List.forall_mem_cons.mpr ⟨vR_297_3, List.forall_mem_cons.mpr ⟨vR_297_4, fun _ w => (by cases w)⟩⟩⟩⟩⟩)
set_option maxRecDepth 100000 in
theorem vK_297 : cz_chkK cm_297 [[7118], [0, 8062, 8064, 93], [0, 8067, 8069, 94], [7125], [7126], [0, 8091, 8093, 100], [8021], [8023], [0, 8083, 8085, 98], [0, 8108, 8110, 104], [0, 8100, 8102, 102]] = true := by decide +kernel
theorem vO_297 : cz_okM cm_297 := cz_chkM_ok cz_allY_ok cz_allC2_ok cz_asl_ok cz_okI0_ok vD_297 vK_297
set_option maxRecDepth 100000 in
theorem vR_298_0 : cz_chkR prog_15_method_41_code cr_298_0 = true := rws_ok (p := 0) (by decide +kernel)
set_option maxRecDepth 100000 in
theorem vR_298_1 : cz_chkR prog_15_method_41_code cr_298_1 = true := rws_ok (p := 17) (by decide +kernel)
set_option maxRecDepth 100000 in
theorem vR_298_2 : cz_chkR prog_15_method_41_code cr_298_2 = true := rws_ok (p := 32) (by decide +kernel)
theorem vD_298 : cz_chkD cm_298 = true := cz_chkD_of (show ∀ row ∈ [cr_298_0, cr_298_1, cr_298_2], cz_chkR prog_15_method_41_code row = true from List.forall_mem_cons.mpr ⟨vR_298_0, List.forall_mem_cons.mpr ⟨vR_298_1, List.forall_mem_cons.mpr ⟨vR_298_2, fun _ w => (by cases w)⟩⟩⟩)
set_option maxRecDepth 100000 in
theorem vK_298 : cz_chkK cm_298 [[7108], [0, 8004, 8006, 91], [7115], [7136], [0, 9149, 9151, 113]] = true := by decide +kernel
theorem vO_298 : cz_okM cm_298 := cz_chkM_ok cz_allY_ok cz_allC2_ok cz_asl_ok cz_okI0_ok vD_298 vK_298
set_option maxRecDepth 100000 in
theorem vR_299_0 : cz_chkR prog_15_method_94_code cr_299_0 = true := rws_ok (p := 0) (by decide +kernel)
set_option maxRecDepth 100000 in
theorem vR_299_1 : cz_chkR prog_15_method_94_code cr_299_1 = true := rws_ok (p := 18) (by decide +kernel)
set_option maxRecDepth 100000 in
theorem vR_299_2 : cz_chkR prog_15_method_94_code cr_299_2 = true := rws_ok (p := 32) (by decide +kernel)
theorem vD_299 : cz_chkD cm_299 = true := cz_chkD_of (show ∀ row ∈ [cr_299_0, cr_299_1, cr_299_2], cz_chkR prog_15_method_94_code row = true from List.forall_mem_cons.mpr ⟨vR_299_0, List.forall_mem_cons.mpr ⟨vR_299_1, List.forall_mem_cons.mpr ⟨vR_299_2, fun _ w => (by cases w)⟩⟩⟩)
set_option maxRecDepth 100000 in
theorem vK_299 : cz_chkK cm_299 [[7117], [7130], [7135], [8021], [7136]] = true := by decide +kernel
theorem vO_299 : cz_okM cm_299 := cz_chkM_ok cz_allY_ok cz_allC2_ok cz_asl_ok cz_okI0_ok vD_299 vK_299
set_option maxRecDepth 100000 in
theorem vR_300_0 : cz_chkR prog_15_method_93_code cr_300_0 = true := rws_ok (p := 0) (by decide +kernel)
set_option maxRecDepth 100000 in
theorem vR_300_1 : cz_chkR prog_15_method_93_code cr_300_1 = true := rws_ok (p := 18) (by decide +kernel)
theorem vD_300 : cz_chkD cm_300 = true := cz_chkD_of (show ∀ row ∈ [cr_300_0, cr_300_1], cz_chkR prog_15_method_93_code row = true from List.forall_mem_cons.mpr ⟨vR_300_0, List.forall_mem_cons.mpr ⟨vR_300_1, fun _ w => (by cases w)⟩⟩)
set_option maxRecDepth 100000 in
theorem vK_300 : cz_chkK cm_300 [[7114], [7108], [0, 8004, 8006, 91], [0, 9212, 9214, 126]] = true := by decide +kernel
theorem vO_300 : cz_okM cm_300 := cz_chkM_ok cz_allY_ok cz_allC2_ok cz_asl_ok cz_okI0_ok vD_300 vK_300
set_option maxRecDepth 100000 in
theorem vR_301_0 : cz_chkR prog_15_method_39_code cr_301_0 = true := rws_ok (p := 0) (by decide +kernel)
set_option maxRecDepth 100000 in
theorem vR_301_1 : cz_chkR prog_15_method_39_code cr_301_1 = true := rws_ok (p := 16) (by decide +kernel)
set_option maxRecDepth 100000 in
theorem vR_301_2 : cz_chkR prog_15_method_39_code cr_301_2 = true := rws_ok (p := 32) (by decide +kernel)
set_option maxRecDepth 100000 in
theorem vR_301_3 : cz_chkR prog_15_method_39_code cr_301_3 = true := rws_ok (p := 49) (by decide +kernel)
set_option maxRecDepth 100000 in
theorem vR_301_4 : cz_chkR prog_15_method_39_code cr_301_4 = true := rws_ok (p := 64) (by decide +kernel)
set_option maxRecDepth 100000 in
theorem vR_301_5 : cz_chkR prog_15_method_39_code cr_301_5 = true := rws_ok (p := 82) (by decide +kernel)
set_option maxRecDepth 100000 in
theorem vR_301_6 : cz_chkR prog_15_method_39_code cr_301_6 = true := rws_ok (p := 97) (by decide +kernel)
set_option maxRecDepth 100000 in
theorem vR_301_7 : cz_chkR prog_15_method_39_code cr_301_7 = true := rws_ok (p := 113) (by decide +kernel)
set_option maxRecDepth 100000 in
theorem vR_301_8 : cz_chkR prog_15_method_39_code cr_301_8 = true := rws_ok (p := 129) (by decide +kernel)
set_option maxRecDepth 100000 in
theorem vR_301_9 : cz_chkR prog_15_method_39_code cr_301_9 = true := rws_ok (p := 144) (by decide +kernel)
set_option maxRecDepth 100000 in
theorem vR_301_10 : cz_chkR prog_15_method_39_code cr_301_10 = true := rws_ok (p := 160) (by decide +kernel)
set_option maxRecDepth 100000 in
theorem vR_301_11 : cz_chkR prog_15_method_39_code cr_301_11 = true := rws_ok (p := 176) (by decide +kernel)
set_option maxRecDepth 100000 in
theorem vR_301_12 : cz_chkR prog_15_method_39_code cr_301_12 = true := rws_ok (p := 192) (by decide +kernel)
set_option maxRecDepth 100000 in
theorem vR_301_13 : cz_chkR prog_15_method_39_code cr_301_13 = true := rws_ok (p := 208) (by decide +kernel)
set_option maxRecDepth 100000 in
theorem vR_301_14 : cz_chkR prog_15_method_39_code cr_301_14 = true := rws_ok (p := 226) (by decide +kernel)
set_option maxRecDepth 100000 in
theorem vR_301_15 : cz_chkR prog_15_method_39_code cr_301_15 = true := rws_ok (p := 240) (by decide +kernel)
set_option maxRecDepth 100000 in
theorem vR_301_16 : cz_chkR prog_15_method_39_code cr_301_16 = true := rws_ok (p := 257) (by decide +kernel)
theorem vD_301 : cz_chkD cm_301 = true := cz_chkD_of (show ∀ row ∈ [cr_301_0, cr_301_1, cr_301_2, cr_301_3, cr_301_4, cr_301_5, cr_301_6, cr_301_7, cr_301_8, cr_301_9, cr_301_10, cr_301_11, cr_301_12, cr_301_13, cr_301_14, cr_301_15, cr_301_16], cz_chkR prog_15_method_39_code row = true from List.forall_mem_cons.mpr ⟨vR_301_0, List.forall_mem_cons.mpr ⟨vR_301_1, List.forall_mem_cons.mpr ⟨vR_301_2, List.forall_mem_cons.mpr ⟨vR_301_3, List.forall_mem_cons.mpr ⟨vR_301_4, List.forall_mem_cons.mpr ⟨vR_301_5, List.forall_mem_cons.mpr ⟨vR_301_6, List.forall_mem_cons.mpr ⟨vR_301_7, List.forall_mem_cons.mpr ⟨vR_301_8, List.forall_mem_cons.mpr ⟨vR_301_9, List.forall_mem_cons.mpr ⟨vR_301_10, List.forall_mem_cons.mpr ⟨vR_301_11, List.forall_mem_cons.mpr ⟨vR_301_12, List.forall_mem_cons.mpr ⟨vR_301_13, List.forall_mem_cons.mpr ⟨vR_301_14, List.forall_mem_cons.mpr ⟨vR_301_15, List.forall_mem_cons.mpr ⟨vR_301_16, fun _ w => (by cases w)⟩⟩⟩⟩⟩⟩⟩⟩⟩⟩⟩⟩⟩⟩⟩⟩⟩)
set_option maxRecDepth 100000 in
theorem vK_301 : cz_chkK cm_301 [[7117], [7129], [7130], [7135], [8021], [8023], [8018], [7131], [0, 9161, 9163, 116], [0, 9153, 9155, 114], [0, 9167, 9169, 117], [7136], [0, 9175, 9177, 119], [0, 9183, 9185, 121], [0, 9195, 9197, 124], [0, 9199, 9201, 125]] = true := by decide +kernel
theorem vO_301 : cz_okM cm_301 := cz_chkM_ok cz_allY_ok cz_allC2_ok cz_asl_ok cz_okI0_ok vD_301 vK_301
set_option maxRecDepth 100000 in
theorem vR_302_0 : cz_chkR prog_15_method_47_code cr_302_0 = true := rws_ok (p := 0) (by decide +kernel)
set_option maxRecDepth 100000 in
theorem vR_302_1 : cz_chkR prog_15_method_47_code cr_302_1 = true := rws_ok (p := 16) (by decide +kernel)
set_option maxRecDepth 100000 in
theorem vR_302_2 : cz_chkR prog_15_method_47_code cr_302_2 = true := rws_ok (p := 34) (by decide +kernel)
theorem vD_302 : cz_chkD cm_302 = true := cz_chkD_of (show ∀ row ∈ [cr_302_0, cr_302_1, cr_302_2], cz_chkR prog_15_method_47_code row = true from List.forall_mem_cons.mpr ⟨vR_302_0, List.forall_mem_cons.mpr ⟨vR_302_1, List.forall_mem_cons.mpr ⟨vR_302_2, fun _ w => (by cases w)⟩⟩⟩)
set_option maxRecDepth 100000 in
theorem vK_302 : cz_chkK cm_302 [[7113], [7114], [7137], [7138]] = true := by decide +kernel
theorem vO_302 : cz_okM cm_302 := cz_chkM_ok cz_allY_ok cz_allC2_ok cz_asl_ok cz_okI0_ok vD_302 vK_302
set_option maxRecDepth 100000 in
theorem vR_303_0 : cz_chkR prog_15_method_89_code cr_303_0 = true := rws_ok (p := 0) (by decide +kernel)
set_option maxRecDepth 100000 in
theorem vR_303_1 : cz_chkR prog_15_method_89_code cr_303_1 = true := rws_ok (p := 18) (by decide +kernel)
set_option maxRecDepth 100000 in
theorem vR_303_2 : cz_chkR prog_15_method_89_code cr_303_2 = true := rws_ok (p := 32) (by decide +kernel)
set_option maxRecDepth 100000 in
theorem vR_303_3 : cz_chkR prog_15_method_89_code cr_303_3 = true := rws_ok (p := 49) (by decide +kernel)
set_option maxRecDepth 100000 in
theorem vR_303_4 : cz_chkR prog_15_method_89_code cr_303_4 = true := rws_ok (p := 64) (by decide +kernel)
set_option maxRecDepth 100000 in
theorem vR_303_5 : cz_chkR prog_15_method_89_code cr_303_5 = true := rws_ok (p := 81) (by decide +kernel)
set_option maxRecDepth 100000 in
theorem vR_303_6 : cz_chkR prog_15_method_89_code cr_303_6 = true := rws_ok (p := 96) (by decide +kernel)
set_option maxRecDepth 100000 in
theorem vR_303_7 : cz_chkR prog_15_method_89_code cr_303_7 = true := rws_ok (p := 113) (by decide +kernel)
set_option maxRecDepth 100000 in
theorem vR_303_8 : cz_chkR prog_15_method_89_code cr_303_8 = true := rws_ok (p := 128) (by decide +kernel)
set_option maxRecDepth 100000 in
theorem vR_303_9 : cz_chkR prog_15_method_89_code cr_303_9 = true := rws_ok (p := 144) (by decide +kernel)
set_option maxRecDepth 100000 in
theorem vR_303_10 : cz_chkR prog_15_method_89_code cr_303_10 = true := rws_ok (p := 160) (by decide +kernel)
set_option maxRecDepth 100000 in
theorem vR_303_11 : cz_chkR prog_15_method_89_code cr_303_11 = true := rws_ok (p := 176) (by decide +kernel)
set_option maxRecDepth 100000 in
theorem vR_303_12 : cz_chkR prog_15_method_89_code cr_303_12 = true := rws_ok (p := 194) (by decide +kernel)
set_option maxRecDepth 100000 in
theorem vR_303_13 : cz_chkR prog_15_method_89_code cr_303_13 = true := rws_ok (p := 208) (by decide +kernel)
set_option maxRecDepth 100000 in
theorem vR_303_14 : cz_chkR prog_15_method_89_code cr_303_14 = true := rws_ok (p := 225) (by decide +kernel)
set_option maxRecDepth 100000 in
theorem vR_303_15 : cz_chkR prog_15_method_89_code cr_303_15 = true := rws_ok (p := 241) (by decide +kernel)
set_option maxRecDepth 100000 in
theorem vR_303_16 : cz_chkR prog_15_method_89_code cr_303_16 = true := rws_ok (p := 256) (by decide +kernel)
set_option maxRecDepth 100000 in
theorem vR_303_17 : cz_chkR prog_15_method_89_code cr_303_17 = true := rws_ok (p := 274) (by decide +kernel)
set_option maxRecDepth 100000 in
theorem vR_303_18 : cz_chkR prog_15_method_89_code cr_303_18 = true := rws_ok (p := 288) (by decide +kernel)
set_option maxRecDepth 100000 in
theorem vR_303_19 : cz_chkR prog_15_method_89_code cr_303_19 = true := rws_ok (p := 304) (by decide +kernel)
theorem vD_303 : cz_chkD cm_303 = true := cz_chkD_of (show ∀ row ∈ [cr_303_0, cr_303_1, cr_303_2, cr_303_3, cr_303_4, cr_303_5, cr_303_6, cr_303_7, cr_303_8, cr_303_9, cr_303_10, cr_303_11, cr_303_12, cr_303_13, cr_303_14, cr_303_15, cr_303_16, cr_303_17, cr_303_18, cr_303_19], cz_chkR prog_15_method_89_code row = true from List.forall_mem_cons.mpr ⟨vR_303_0, List.forall_mem_cons.mpr ⟨vR_303_1, List.forall_mem_cons.mpr ⟨vR_303_2, List.forall_mem_cons.mpr ⟨vR_303_3, List.forall_mem_cons.mpr ⟨vR_303_4, List.forall_mem_cons.mpr ⟨vR_303_5, List.forall_mem_cons.mpr ⟨vR_303_6, List.forall_mem_cons.mpr ⟨vR_303_7, List.forall_mem_cons.mpr ⟨vR_303_8, List.forall_mem_cons.mpr ⟨vR_303_9, List.forall_mem_cons.mpr ⟨vR_303_10, List.forall_mem_cons.mpr ⟨vR_303_11, List.forall_mem_cons.mpr ⟨vR_303_12, List.forall_mem_cons.mpr ⟨vR_303_13, List.forall_mem_cons.mpr ⟨vR_303_14, List.forall_mem_cons.mpr ⟨vR_303_15, List.forall_mem_cons.mpr ⟨vR_303_16, List.forall_mem_cons.mpr ⟨vR_303_17, List.forall_mem_cons.mpr ⟨vR_303_18, List.forall_mem_cons.mpr ⟨vR_303_19, fun _ w => (by cases w)⟩⟩⟩⟩⟩⟩⟩⟩⟩⟩⟩⟩⟩⟩⟩⟩⟩⟩⟩⟩)
set_option maxRecDepth 100000 in
theorem vK_303 : cz_chkK cm_303 [[7109], [7059], [7137], [7108], [8095], [0, 8004, 8006, 91], [7110], [7138], [0, 9212, 9214, 126], [0, 9233, 9235, 131], [0, 10166, 10168, 162], [10170], [10171]] = true := by decide +kernel
theorem vO_303 : cz_okM cm_303 := cz_chkM_ok cz_allY_ok cz_allC2_ok cz_asl_ok cz_okI0_ok vD_303 vK_303
set_option maxRecDepth 100000 in
theorem vR_304_0 : cz_chkR prog_15_method_2_code cr_304_0 = true := rws_ok (p := 0) (by decide +kernel)
theorem vD_304 : cz_chkD cm_304 = true := cz_chkD_of (show ∀ row ∈ [cr_304_0], cz_chkR prog_15_method_2_code row = true from List.forall_mem_cons.mpr ⟨vR_304_0, fun _ w => (by cases w)⟩)
set_option maxRecDepth 100000 in
theorem vK_304 : cz_chkK cm_304 [[7108]] = true := by decide +kernel
theorem vO_304 : cz_okM cm_304 := cz_chkM_ok cz_allY_ok cz_allC2_ok cz_asl_ok cz_okI0_ok vD_304 vK_304
set_option maxRecDepth 100000 in
theorem vR_305_0 : cz_chkR prog_15_method_58_code cr_305_0 = true := rws_ok (p := 0) (by decide +kernel)
set_option maxRecDepth 100000 in
theorem vR_305_1 : cz_chkR prog_15_method_58_code cr_305_1 = true := rws_ok (p := 16) (by decide +kernel)
set_option maxRecDepth 100000 in
theorem vR_305_2 : cz_chkR prog_15_method_58_code cr_305_2 = true := rws_ok (p := 32) (by decide +kernel)
set_option maxRecDepth 100000 in
theorem vR_305_3 : cz_chkR prog_15_method_58_code cr_305_3 = true := rws_ok (p := 49) (by decide +kernel)
set_option maxRecDepth 100000 in
theorem vR_305_4 : cz_chkR prog_15_method_58_code cr_305_4 = true := rws_ok (p := 66) (by decide +kernel)
set_option maxRecDepth 100000 in
theorem vR_305_5 : cz_chkR prog_15_method_58_code cr_305_5 = true := rws_ok (p := 80) (by decide +kernel)
theorem vD_305 : cz_chkD cm_305 = true := cz_chkD_of (show ∀ row ∈ [cr_305_0, cr_305_1, cr_305_2, cr_305_3, cr_305_4, cr_305_5], cz_chkR prog_15_method_58_code row = true from List.forall_mem_cons.mpr ⟨vR_305_0, List.forall_mem_cons.mpr ⟨vR_305_1, List.forall_mem_cons.mpr ⟨vR_305_2, List.forall_mem_cons.mpr ⟨vR_305_3, List.forall_mem_cons.mpr ⟨vR_305_4, List.forall_mem_cons.mpr ⟨vR_305_5, fun _ w => (by cases w)⟩⟩⟩⟩⟩⟩)
set_option maxRecDepth 100000 in
theorem vK_305 : cz_chkK cm_305 [[0, 9220, 9222, 128], [0, 10069, 10071, 147], [0, 10013, 10015, 133], [0, 10061, 10063, 145]] = true := by decide +kernel
theorem vO_305 : cz_okM cm_305 := cz_chkM_ok cz_allY_ok cz_allC2_ok cz_asl_ok cz_okI0_ok vD_305 vK_305
set_option maxRecDepth 100000 in
theorem vR_306_0 : cz_chkR prog_15_method_26_code cr_306_0 = true := rws_ok (p := 0) (by decide +kernel)
set_option maxRecDepth 100000 in
theorem vR_306_1 : cz_chkR prog_15_method_26_code cr_306_1 = true := rws_ok (p := 16) (by decide +kernel)
set_option maxRecDepth 100000 in
theorem vR_306_2 : cz_chkR prog_15_method_26_code cr_306_2 = true := rws_ok (p := 33) (by decide +kernel)
set_option maxRecDepth 100000 in
theorem vR_306_3 : cz_chkR prog_15_method_26_code cr_306_3 = true := rws_ok (p := 49) (by decide +kernel)
theorem vD_306 : cz_chkD cm_306 = true := cz_chkD_of (show ∀ row ∈ [cr_306_0, cr_306_1, cr_306_2, cr_306_3], cz_chkR prog_15_method_26_code row = true from List.forall_mem_cons.mpr ⟨vR_306_0, List.forall_mem_cons.mpr ⟨vR_306_1, List.forall_mem_cons.mpr ⟨vR_306_2, List.forall_mem_cons.mpr ⟨vR_306_3, fun _ w => (by cases w)⟩⟩⟩⟩)
set_option maxRecDepth 100000 in
theorem vK_306 : cz_chkK cm_306 [[7119], [8014], [8015], [8013], [7120]] = true := by decide +kernel
theorem vO_306 : cz_okM cm_306 := cz_chkM_ok cz_allY_ok cz_allC2_ok cz_asl_ok cz_okI0_ok vD_306 vK_306
set_option maxRecDepth 100000 in
theorem vR_307_0 : cz_chkR prog_15_method_82_code cr_307_0 = true := rws_ok (p := 0) (by decide +kernel)
set_option maxRecDepth 100000 in
theorem vR_307_1 : cz_chkR prog_15_method_82_code cr_307_1 = true := rws_ok (p := 16) (by decide +kernel)
set_option maxRecDepth 100000 in
theorem vR_307_2 : cz_chkR prog_15_method_82_code cr_307_2 = true := rws_ok (p := 34) (by decide +kernel)
set_option maxRecDepth 100000 in
theorem vR_307_3 : cz_chkR prog_15_method_82_code cr_307_3 = true := rws_ok (p := 49) (by decide +kernel)
set_option maxRecDepth 100000 in
theorem vR_307_4 : cz_chkR prog_15_method_82_code cr_307_4 = true := rws_ok (p := 65) (by decide +kernel)
set_option maxRecDepth 100000 in
theorem vR_307_5 : cz_chkR prog_15_method_82_code cr_307_5 = true := rws_ok (p := 80) (by decide +kernel)
theorem vD_307 : cz_chkD cm_307 = true := cz_chkD_of (show ∀ row ∈ [cr_307_0, cr_307_1, cr_307_2, cr_307_3, cr_307_4, cr_307_5], cz_chkR prog_15_method_82_code row = true from List.forall_mem_cons.mpr ⟨vR_307_0, List.forall_mem_cons.mpr ⟨vR_307_1, List.forall_mem_cons.mpr ⟨vR_307_2, List.forall_mem_cons.mpr ⟨vR_307_3, List.forall_mem_cons.mpr ⟨vR_307_4, List.forall_mem_cons.mpr ⟨vR_307_5, fun _ w => (by cases w)⟩⟩⟩⟩⟩⟩)
set_option maxRecDepth 100000 in
theorem vK_307 : cz_chkK cm_307 [[7148], [7149]] = true := by decide +kernel
theorem vO_307 : cz_okM cm_307 := cz_chkM_ok cz_allY_ok cz_allC2_ok cz_asl_ok cz_okI0_ok vD_307 vK_307
set_option maxRecDepth 100000 in
theorem vR_308_0 : cz_chkR prog_15_method_33_code cr_308_0 = true := rws_ok (p := 0) (by decide +kernel)
set_option maxRecDepth 100000 in
theorem vR_308_1 : cz_chkR prog_15_method_33_code cr_308_1 = true := rws_ok (p := 16) (by decide +kernel)
set_option maxRecDepth 100000 in
theorem vR_308_2 : cz_chkR prog_15_method_33_code cr_308_2 = true := rws_ok (p := 32) (by decide +kernel)
set_option maxRecDepth 100000 in
theorem vR_308_3 : cz_chkR prog_15_method_33_code cr_308_3 = true := rws_ok (p := 48) (by decide +kernel)
theorem vD_308 : cz_chkD cm_308 = true := cz_chkD_of (show ∀ row ∈ [cr_308_0, cr_308_1, cr_308_2, cr_308_3], cz_chkR prog_15_method_33_code row = true from List.forall_mem_cons.mpr ⟨vR_308_0, List.forall_mem_cons.mpr ⟨vR_308_1, List.forall_mem_cons.mpr ⟨vR_308_2, List.forall_mem_cons.mpr ⟨vR_308_3, fun _ w => (by cases w)⟩⟩⟩⟩)
set_option maxRecDepth 100000 in
theorem vK_308 : cz_chkK cm_308 [[7129], [7131]] = true := by decide +kernel
theorem vO_308 : cz_okM cm_308 := cz_chkM_ok cz_allY_ok cz_allC2_ok cz_asl_ok cz_okI0_ok vD_308 vK_308
set_option maxRecDepth 100000 in
theorem vR_309_0 : cz_chkR prog_15_method_17_code cr_309_0 = true := rws_ok (p := 0) (by decide +kernel)
set_option maxRecDepth 100000 in
theorem vR_309_1 : cz_chkR prog_15_method_17_code cr_309_1 = true := rws_ok (p := 16) (by decide +kernel)
set_option maxRecDepth 100000 in
theorem vR_309_2 : cz_chkR prog_15_method_17_code cr_309_2 = true := rws_ok (p := 32) (by decide +kernel)
set_option maxRecDepth 100000 in
theorem vR_309_3 : cz_chkR prog_15_method_17_code cr_309_3 = true := rws_ok (p := 50) (by decide +kernel)
theorem vD_309 : cz_chkD cm_309 = true := cz_chkD_of (show ∀ row ∈ [cr_309_0, cr_309_1, cr_309_2, cr_309_3], cz_chkR prog_15_method_17_code row = true from List.forall_mem_cons.mpr ⟨vR_309_0, List.forall_mem_cons.mpr ⟨vR_309_1, List.forall_mem_cons.mpr ⟨vR_309_2, List.forall_mem_cons.mpr ⟨vR_309_3, fun _ w => (by cases w)⟩⟩⟩⟩)
set_option maxRecDepth 100000 in
theorem vK_309 : cz_chkK cm_309 [[0, 8067, 8069, 94], [7125], [7126], [0, 8091, 8093, 100], [8124], [8126, 8127, 8128], [0, 8154, 8155, 8156], [0, 8223, 8224, 8225]] = true := by decide +kernel
theorem vO_309 : cz_okM cm_309 := cz_chkM_ok cz_allY_ok cz_allC2_ok cz_asl_ok cz_okI0_ok vD_309 vK_309
set_option maxRecDepth 100000 in
theorem vR_310_0 : cz_chkR prog_15_method_97_code cr_310_0 = true := rws_ok (p := 0) (by decide +kernel)
set_option maxRecDepth 100000 in
theorem vR_310_1 : cz_chkR prog_15_method_97_code cr_310_1 = true := rws_ok (p := 17) (by decide +kernel)
set_option maxRecDepth 100000 in
theorem vR_310_2 : cz_chkR prog_15_method_97_code cr_310_2 = true := rws_ok (p := 32) (by decide +kernel)
set_option maxRecDepth 100000 in
theorem vR_310_3 : cz_chkR prog_15_method_97_code cr_310_3 = true := rws_ok (p := 49) (by decide +kernel)
set_option maxRecDepth 100000 in
theorem vR_310_4 : cz_chkR prog_15_method_97_code cr_310_4 = true := rws_ok (p := 66) (by decide +kernel)
theorem vD_310 : cz_chkD cm_310 = true := cz_chkD_of (show ∀ row ∈ [cr_310_0, cr_310_1, cr_310_2, cr_310_3, cr_310_4], cz_chkR prog_15_method_97_code row = true from List.forall_mem_cons.mpr ⟨vR_310_0, List.forall_mem_cons.mpr ⟨vR_310_1, List.forall_mem_cons.mpr ⟨vR_310_2, List.forall_mem_cons.mpr ⟨vR_310_3, List.forall_mem_cons.mpr ⟨vR_310_4, fun _ w => (by cases w)⟩⟩⟩⟩⟩)
set_option maxRecDepth 100000 in
theorem vK_310 : cz_chkK cm_310 [[7111], [7108], [0, 8004, 8006, 91], [7112], [10204]] = true := by decide +kernel
theorem vO_310 : cz_okM cm_310 := cz_chkM_ok cz_allY_ok cz_allC2_ok cz_asl_ok cz_okI0_ok vD_310 vK_310
set_option maxRecDepth 100000 in
theorem vR_311_0 : cz_chkR prog_15_method_74_code cr_311_0 = true := rws_ok (p := 0) (by decide +kernel)
set_option maxRecDepth 100000 in
theorem vR_311_1 : cz_chkR prog_15_method_74_code cr_311_1 = true := rws_ok (p := 16) (by decide +kernel)
set_option maxRecDepth 100000 in
theorem vR_311_2 : cz_chkR prog_15_method_74_code cr_311_2 = true := rws_ok (p := 32) (by decide +kernel)
set_option maxRecDepth 100000 in
theorem vR_311_3 : cz_chkR prog_15_method_74_code cr_311_3 = true := rws_ok (p := 48) (by decide +kernel)
set_option maxRecDepth 100000 in
theorem vR_311_4 : cz_chkR prog_15_method_74_code cr_311_4 = true := rws_ok (p := 64) (by decide +kernel)
set_option maxRecDepth 100000 in
theorem vR_311_5 : cz_chkR prog_15_method_74_code cr_311_5 = true := rws_ok (p := 81) (by decide +kernel)
set_option maxRecDepth 100000 in
theorem vR_311_6 : cz_chkR prog_15_method_74_code cr_311_6 = true := rws_ok (p := 97) (by decide +kernel)
set_option maxRecDepth 100000 in
theorem vR_311_7 : cz_chkR prog_15_method_74_code cr_311_7 = true := rws_ok (p := 112) (by decide +kernel)
set_option maxRecDepth 100000 in
theorem vR_311_8 : cz_chkR prog_15_method_74_code cr_311_8 = true := rws_ok (p := 130) (by decide +kernel)
set_option maxRecDepth 100000 in
theorem vR_311_9 : cz_chkR prog_15_method_74_code cr_311_9 = true := rws_ok (p := 144) (by decide +kernel)
set_option maxRecDepth 100000 in
theorem vR_311_10 : cz_chkR prog_15_method_74_code cr_311_10 = true := rws_ok (p := 160) (by decide +kernel)
set_option maxRecDepth 100000 in
theorem vR_311_11 : cz_chkR prog_15_method_74_code cr_311_11 = true := rws_ok (p := 177) (by decide +kernel)
set_option maxRecDepth 100000 in
theorem vR_311_12 : cz_chkR prog_15_method_74_code cr_311_12 = true := rws_ok (p := 193) (by decide +kernel)
set_option maxRecDepth 100000 in
theorem vR_311_13 : cz_chkR prog_15_method_74_code cr_311_13 = true := rws_ok (p := 208) (by decide +kernel)
set_option maxRecDepth 100000 in
theorem vR_311_14 : cz_chkR prog_15_method_74_code cr_311_14 = true := rws_ok (p := 226) (by decide +kernel)
set_option maxRecDepth 100000 in
theorem vR_311_15 : cz_chkR prog_15_method_74_code cr_311_15 = true := rws_ok (p := 241) (by decide +kernel)
set_option maxRecDepth 100000 in
theorem vR_311_16 : cz_chkR prog_15_method_74_code cr_311_16 = true := rws_ok (p := 257) (by decide +kernel)
set_option maxRecDepth 100000 in
theorem vR_311_17 : cz_chkR prog_15_method_74_code cr_311_17 = true := rws_ok (p := 273) (by decide +kernel)
set_option maxRecDepth 100000 in
theorem vR_311_18 : cz_chkR prog_15_method_74_code cr_311_18 = true := rws_ok (p := 289) (by decide +kernel)
set_option maxRecDepth 100000 in
theorem vR_311_19 : cz_chkR prog_15_method_74_code cr_311_19 = true := rws_ok (p := 306) (by decide +kernel)
set_option maxRecDepth 100000 in
theorem vR_311_20 : cz_chkR prog_15_method_74_code cr_311_20 = true := rws_ok (p := 322) (by decide +kernel)
set_option maxRecDepth 100000 in
theorem vR_311_21 : cz_chkR prog_15_method_74_code cr_311_21 = true := rws_ok (p := 338) (by decide +kernel)
set_option maxRecDepth 100000 in
theorem vR_311_22 : cz_chkR prog_15_method_74_code cr_311_22 = true := rws_ok (p := 354) (by decide +kernel)
set_option maxRecDepth 100000 in
theorem vR_311_23 : cz_chkR prog_15_method_74_code cr_311_23 = true := rws_ok (p := 370) (by decide +kernel)
set_option maxRecDepth 100000 in
theorem vR_311_24 : cz_chkR prog_15_method_74_code cr_311_24 = true := rws_ok (p := 386) (by decide +kernel)
set_option maxRecDepth 100000 in
theorem vR_311_25 : cz_chkR prog_15_method_74_code cr_311_25 = true := rws_ok (p := 402) (by decide +kernel)
set_option maxRecDepth 100000 in
theorem vR_311_26 : cz_chkR prog_15_method_74_code cr_311_26 = true := rws_ok (p := 418) (by decide +kernel)
set_option maxRecDepth 100000 in
theorem vR_311_27 : cz_chkR prog_15_method_74_code cr_311_27 = true := rws_ok (p := 434) (by decide +kernel)
set_option maxRecDepth 100000 in
theorem vR_311_28 : cz_chkR prog_15_method_74_code cr_311_28 = true := rws_ok (p := 449) (by decide +kernel)
set_option maxRecDepth 100000 in
theorem vR_311_29 : cz_chkR prog_15_method_74_code cr_311_29 = true := rws_ok (p := 464) (by decide +kernel)
set_option maxRecDepth 100000 in
theorem vR_311_30 : cz_chkR prog_15_method_74_code cr_311_30 = true := rws_ok (p := 482) (by decide +kernel)
set_option maxRecDepth 100000 in
theorem vR_311_31 : cz_chkR prog_15_method_74_code cr_311_31 = true := rws_ok (p := 496) (by decide +kernel)
set_option maxRecDepth 100000 in
theorem vR_311_32 : cz_chkR prog_15_method_74_code cr_311_32 = true := rws_ok (p := 512) (by decide +kernel)
set_option maxRecDepth 100000 in
theorem vR_311_33 : cz_chkR prog_15_method_74_code cr_311_33 = true := rws_ok (p := 528) (by decide +kernel)
set_option maxRecDepth 100000 in
theorem vR_311_34 : cz_chkR prog_15_method_74_code cr_311_34 = true := rws_ok (p := 544) (by decide +kernel)
set_option maxRecDepth 100000 in
theorem vR_311_35 : cz_chkR prog_15_method_74_code cr_311_35 = true := rws_ok (p := 560) (by decide +kernel)
set_option maxRecDepth 100000 in
theorem vR_311_36 : cz_chkR prog_15_method_74_code cr_311_36 = true := rws_ok (p := 577) (by decide +kernel)
set_option maxRecDepth 100000 in
theorem vR_311_37 : cz_chkR prog_15_method_74_code cr_311_37 = true := rws_ok (p := 593) (by decide +kernel)
theorem vD_311 : cz_chkD cm_311 = true := cz_chkD_of (show ∀ row ∈ [cr_311_0, cr_311_1, cr_311_2, cr_311_3, cr_311_4, cr_311_5, cr_311_6, cr_311_7, cr_311_8, cr_311_9, cr_311_10, cr_311_11, cr_311_12, cr_311_13, cr_311_14, cr_311_15, cr_311_16, cr_311_17, cr_311_18, cr_311_19, cr_311_20, cr_311_21, cr_311_22, cr_311_23, cr_311_24, cr_311_25, cr_311_26, cr_311_27, cr_311_28, cr_311_29, cr_311_30, cr_311_31, cr_311_32, cr_311_33, cr_311_34, cr_311_35, cr_311_36, cr_311_37], cz_chkR prog_15_method_74_code row = true from List.forall_mem_cons.mpr ⟨vR_311_0, List.forall_mem_cons.mpr ⟨vR_311_1, List.forall_mem_cons.mpr ⟨vR_311_2, List.forall_mem_cons.mpr ⟨vR_311_3, List.forall_mem_cons.mpr ⟨vR_311_4, List.forall_mem_cons.mpr ⟨vR_311_5, List.forall_mem_cons.mpr ⟨vR_311_6, List.forall_mem_cons.mpr ⟨vR_311_7, List.forall_mem_cons.mpr ⟨vR_311_8, List.forall_mem_cons.mpr ⟨vR_311_9, List.forall_mem_cons.mpr ⟨vR_311_10, List.forall_mem_cons.mpr ⟨vR_311_11, List.forall_mem_cons.mpr ⟨vR_311_12, List.forall_mem_cons.mpr ⟨vR_311_13, List.forall_mem_cons.mpr ⟨vR_311_14, List.forall_mem_cons.mpr ⟨vR_311_15, List.forall_mem_cons.mpr ⟨vR_311_16, List.forall_mem_cons.mpr ⟨vR_311_17, List.forall_mem_cons.mpr ⟨vR_311_18, List.forall_mem_cons.mpr ⟨vR_311_19, List.forall_mem_cons.mpr ⟨vR_311_20, List.forall_mem_cons.mpr ⟨vR_311_21, List.forall_mem_cons.mpr ⟨vR_311_22, List.forall_mem_cons.mpr ⟨vR_311_23, List.forall_mem_cons.mpr ⟨vR_311_24, List.forall_mem_cons.mpr ⟨vR_311_25, List.forall_mem_cons.mpr ⟨vR_311_26, List.forall_mem_cons.mpr ⟨vR_311_27, List.forall_mem_cons.mpr ⟨vR_311_28, List.forall_mem_cons.mpr ⟨vR_311_29, List.forall_mem_cons.mpr ⟨vR_311_30, List.forall_mem_cons.mpr ⟨vR_311_31, List.forall_mem_cons.mpr ⟨vR_311_32, List.forall_mem_cons.mpr ⟨vR_311_33, List.forall_mem_cons.mpr ⟨vR_311_34, List.forall_mem_cons.mpr ⟨vR_311_35, List.forall_mem_cons.mpr ⟨vR_311_36, List.forall_mem_cons.mpr ⟨vR_311_37, fun _ w => (by cases w)⟩⟩⟩⟩⟩⟩⟩⟩⟩⟩⟩⟩⟩⟩⟩⟩⟩⟩⟩⟩⟩⟩⟩⟩⟩⟩⟩⟩⟩⟩⟩⟩⟩⟩⟩⟩⟩⟩)
set_option maxRecDepth 100000 in
theorem vK_311 : cz_chkK cm_311 [[0, 9187, 9189, 122], [0, 10021, 10023, 135], [0, 10033, 10035, 138], [0, 10029, 10031, 137], [0, 10037, 10039, 139], [0, 10045, 10047, 141], [0, 10049, 10051, 142], [0, 10053, 10055, 143], [0, 10057, 10059, 144]] = true := by decide +kernel
theorem vO_311 : cz_okM cm_311 := cz_chkM_ok cz_allY_ok cz_allC2_ok cz_asl_ok cz_okI0_ok vD_311 vK_311
set_option maxRecDepth 100000 in
theorem vR_312_0 : cz_chkR prog_15_method_71_code cr_312_0 = true := rws_ok (p := 0) (by decide +kernel)
set_option maxRecDepth 100000 in
theorem vR_312_1 : cz_chkR prog_15_method_71_code cr_312_1 = true := rws_ok (p := 16) (by decide +kernel)
theorem vD_312 : cz_chkD cm_312 = true := cz_chkD_of (show ∀ row ∈ [cr_312_0, cr_312_1], cz_chkR prog_15_method_71_code row = true from List.forall_mem_cons.mpr ⟨vR_312_0, List.forall_mem_cons.mpr ⟨vR_312_1, fun _ w => (by cases w)⟩⟩)
set_option maxRecDepth 100000 in
theorem vK_312 : cz_chkK cm_312 [[0, 10021, 10023, 135]] = true := by decide +kernel
theorem vO_312 : cz_okM cm_312 := cz_chkM_ok cz_allY_ok cz_allC2_ok cz_asl_ok cz_okI0_ok vD_312 vK_312
set_option maxRecDepth 100000 in
theorem vR_313_0 : cz_chkR prog_16_method_1_code cr_313_0 = true := rws_ok (p := 0) (by decide +kernel)
set_option maxRecDepth 100000 in
theorem vR_313_1 : cz_chkR prog_16_method_1_code cr_313_1 = true := rws_ok (p := 18) (by decide +kernel)
set_option maxRecDepth 100000 in
theorem vR_313_2 : cz_chkR prog_16_method_1_code cr_313_2 = true := rws_ok (p := 33) (by decide +kernel)
theorem vD_313 : cz_chkD cm_313 = true := cz_chkD_of (show ∀ row ∈ [cr_313_0, cr_313_1, cr_313_2], cz_chkR prog_16_method_1_code row = true from List.forall_mem_cons.mpr ⟨vR_313_0, List.forall_mem_cons.mpr ⟨vR_313_1, List.forall_mem_cons.mpr ⟨vR_313_2, fun _ w => (by cases w)⟩⟩⟩)
set_option maxRecDepth 100000 in
theorem vK_313 : cz_chkK cm_313 [[8012, 1041, 1042], [8020], [8022], [8024], [8026], [8028]] = true := by decide +kernel
theorem vO_313 : cz_okM cm_313 := cz_chkM_ok cz_allY_ok cz_allC2_ok cz_asl_ok cz_okI0_ok vD_313 vK_313
set_option maxRecDepth 100000 in
theorem vR_314_0 : cz_chkR prog_17_method_2_code cr_314_0 = true := rws_ok (p := 0) (by decide +kernel)
set_option maxRecDepth 100000 in
theorem vR_314_1 : cz_chkR prog_17_method_2_code cr_314_1 = true := rws_ok (p := 17) (by decide +kernel)
set_option maxRecDepth 100000 in
theorem vR_314_2 : cz_chkR prog_17_method_2_code cr_314_2 = true := rws_ok (p := 33) (by decide +kernel)
theorem vD_314 : cz_chkD cm_314 = true := cz_chkD_of (show ∀ row ∈ [cr_314_0, cr_314_1, cr_314_2], cz_chkR prog_17_method_2_code row = true from List.forall_mem_cons.mpr ⟨vR_314_0, List.forall_mem_cons.mpr ⟨vR_314_1, List.forall_mem_cons.mpr ⟨vR_314_2, fun _ w => (by cases w)⟩⟩⟩)
set_option maxRecDepth 100000 in
theorem vK_314 : cz_chkK cm_314 [[8132, 1041, 1042], [8141], [8133], [8142]] = true := by decide +kernel
theorem vO_314 : cz_okM cm_314 := cz_chkM_ok cz_allY_ok cz_allC2_ok cz_asl_ok cz_okI0_ok vD_314 vK_314
set_option maxRecDepth 100000 in
theorem vR_315_0 : cz_chkR prog_17_method_31_code cr_315_0 = true := rws_ok (p := 0) (by decide +kernel)
set_option maxRecDepth 100000 in
theorem vR_315_1 : cz_chkR prog_17_method_31_code cr_315_1 = true := rws_ok (p := 17) (by decide +kernel)
set_option maxRecDepth 100000 in
theorem vR_315_2 : cz_chkR prog_17_method_31_code cr_315_2 = true := rws_ok (p := 33) (by decide +kernel)
set_option maxRecDepth 100000 in
theorem vR_315_3 : cz_chkR prog_17_method_31_code cr_315_3 = true := rws_ok (p := 49) (by decide +kernel)
set_option maxRecDepth 100000 in
theorem vR_315_4 : cz_chkR prog_17_method_31_code cr_315_4 = true := rws_ok (p := 65) (by decide +kernel)
theorem vD_315 : cz_chkD cm_315 = true := cz_chkD_of (show ∀ row ∈ [cr_315_0, cr_315_1, cr_315_2, cr_315_3, cr_315_4], cz_chkR prog_17_method_31_code row = true from List.forall_mem_cons.mpr ⟨vR_315_0, List.forall_mem_cons.mpr ⟨vR_315_1, List.forall_mem_cons.mpr ⟨vR_315_2, List.forall_mem_cons.mpr ⟨vR_315_3, List.forall_mem_cons.mpr ⟨vR_315_4, fun _ w => (by cases w)⟩⟩⟩⟩⟩)
set_option maxRecDepth 100000 in
theorem vK_315 : cz_chkK cm_315 [[8141], [8144], [0, 8190, 8191, 8193], [2, 8161, 8163, 8162, 10211], [8195, 8196]] = true := by decide +kernel
theorem vO_315 : cz_okM cm_315 := cz_chkM_ok cz_allY_ok cz_allC2_ok cz_asl_ok cz_okI0_ok vD_315 vK_315
set_option maxRecDepth 100000 in
theorem vR_316_0 : cz_chkR prog_17_method_9_code cr_316_0 = true := rws_ok (p := 0) (by decide +kernel)
set_option maxRecDepth 100000 in
theorem vR_316_1 : cz_chkR prog_17_method_9_code cr_316_1 = true := rws_ok (p := 17) (by decide +kernel)
set_option maxRecDepth 100000 in
theorem vR_316_2 : cz_chkR prog_17_method_9_code cr_316_2 = true := rws_ok (p := 32) (by decide +kernel)
theorem vD_316 : cz_chkD cm_316 = true := cz_chkD_of (show ∀ row ∈ [cr_316_0, cr_316_1, cr_316_2], cz_chkR prog_17_method_9_code row = true from List.forall_mem_cons.mpr ⟨vR_316_0, List.forall_mem_cons.mpr ⟨vR_316_1, List.forall_mem_cons.mpr ⟨vR_316_2, fun _ w => (by cases w)⟩⟩⟩)
set_option maxRecDepth 100000 in
theorem vK_316 : cz_chkK cm_316 [[8141], [8142], [2, 8165, 8167, 8166, 10212], [8178, 8179]] = true := by decide +kernel
theorem vO_316 : cz_okM cm_316 := cz_chkM_ok cz_allY_ok cz_allC2_ok cz_asl_ok cz_okI0_ok vD_316 vK_316
set_option maxRecDepth 100000 in
theorem vR_317_0 : cz_chkR prog_17_method_64_code cr_317_0 = true := rws_ok (p := 0) (by decide +kernel)
theorem vD_317 : cz_chkD cm_317 = true := cz_chkD_of (show ∀ row ∈ [cr_317_0], cz_chkR prog_17_method_64_code row = true from List.forall_mem_cons.mpr ⟨vR_317_0, fun _ w => (by cases w)⟩)
set_option maxRecDepth 100000 in
theorem vK_317 : cz_chkK cm_317 [[8141]] = true := by decide +kernel
theorem vO_317 : cz_okM cm_317 := cz_chkM_ok cz_allY_ok cz_allC2_ok cz_asl_ok cz_okI0_ok vD_317 vK_317
set_option maxRecDepth 100000 in
theorem vR_318_0 : cz_chkR prog_17_method_68_code cr_318_0 = true := rws_ok (p := 0) (by decide +kernel)
set_option maxRecDepth 100000 in
theorem vR_318_1 : cz_chkR prog_17_method_68_code cr_318_1 = true := rws_ok (p := 17) (by decide +kernel)
theorem vD_318 : cz_chkD cm_318 = true := cz_chkD_of (show ∀ row ∈ [cr_318_0, cr_318_1], cz_chkR prog_17_method_68_code row = true from List.forall_mem_cons.mpr ⟨vR_318_0, List.forall_mem_cons.mpr ⟨vR_318_1, fun _ w => (by cases w)⟩⟩)
set_option maxRecDepth 100000 in
theorem vK_318 : cz_chkK cm_318 [[8133], [8142]] = true := by decide +kernel
theorem vO_318 : cz_okM cm_318 := cz_chkM_ok cz_allY_ok cz_allC2_ok cz_asl_ok cz_okI0_ok vD_318 vK_318
set_option maxRecDepth 100000 in
theorem vR_319_0 : cz_chkR prog_17_method_6_code cr_319_0 = true := rws_ok (p := 0) (by decide +kernel)
theorem vD_319 : cz_chkD cm_319 = true := cz_chkD_of (show ∀ row ∈ [cr_319_0], cz_chkR prog_17_method_6_code row = true from List.forall_mem_cons.mpr ⟨vR_319_0, fun _ w => (by cases w)⟩)
set_option maxRecDepth 100000 in
theorem vK_319 : cz_chkK cm_319 [[8144]] = true := by decide +kernel
theorem vO_319 : cz_okM cm_319 := cz_chkM_ok cz_allY_ok cz_allC2_ok cz_asl_ok cz_okI0_ok vD_319 vK_319
set_option maxRecDepth 100000 in
theorem vR_320_0 : cz_chkR prog_17_method_10_code cr_320_0 = true := rws_ok (p := 0) (by decide +kernel)
set_option maxRecDepth 100000 in
theorem vR_320_1 : cz_chkR prog_17_method_10_code cr_320_1 = true := rws_ok (p := 16) (by decide +kernel)
set_option maxRecDepth 100000 in
theorem vR_320_2 : cz_chkR prog_17_method_10_code cr_320_2 = true := rws_ok (p := 32) (by decide +kernel)
set_option maxRecDepth 100000 in
theorem vR_320_3 : cz_chkR prog_17_method_10_code cr_320_3 = true := rws_ok (p := 50) (by decide +kernel)
theorem vD_320 : cz_chkD cm_320 = true := cz_chkD_of (show ∀ row ∈ [cr_320_0, cr_320_1, cr_320_2, cr_320_3], cz_chkR prog_17_method_10_code row = true from List.forall_mem_cons.mpr ⟨vR_320_0, List.forall_mem_cons.mpr ⟨vR_320_1, List.forall_mem_cons.mpr ⟨vR_320_2, List.forall_mem_cons.mpr ⟨vR_320_3, fun _ w => (by cases w)⟩⟩⟩⟩)
set_option maxRecDepth 100000 in
theorem vK_320 : cz_chkK cm_320 [[8141], [8142], [8177], [8169, 8170]] = true := by decide +kernel
theorem vO_320 : cz_okM cm_320 := cz_chkM_ok cz_allY_ok cz_allC2_ok cz_asl_ok cz_okI0_ok vD_320 vK_320
set_option maxRecDepth 100000 in
theorem vR_321_0 : cz_chkR prog_25_method_65_code cr_321_0 = true := rws_ok (p := 0) (by decide +kernel)
theorem vD_321 : cz_chkD cm_321 = true := cz_chkD_of (show ∀ row ∈ [cr_321_0], cz_chkR prog_25_method_65_code row = true from List.forall_mem_cons.mpr ⟨vR_321_0, fun _ w => (by cases w)⟩)
set_option maxRecDepth 100000 in
theorem vK_321 : cz_chkK cm_321 [] = true := by decide +kernel
theorem vO_321 : cz_okM cm_321 := cz_chkM_ok cz_allY_ok cz_allC2_ok cz_asl_ok cz_okI0_ok vD_321 vK_321
set_option maxRecDepth 100000 in
theorem vR_322_0 : cz_chkR prog_25_method_69_code cr_322_0 = true := rws_ok (p := 0) (by decide +kernel)
theorem vD_322 : cz_chkD cm_322 = true := cz_chkD_of (show ∀ row ∈ [cr_322_0], cz_chkR prog_25_method_69_code row = true from List.forall_mem_cons.mpr ⟨vR_322_0, fun _ w => (by cases w)⟩)
set_option maxRecDepth 100000 in
theorem vK_322 : cz_chkK cm_322 [] = true := by decide +kernel
theorem vO_322 : cz_okM cm_322 := cz_chkM_ok cz_allY_ok cz_allC2_ok cz_asl_ok cz_okI0_ok vD_322 vK_322
set_option maxRecDepth 100000 in
theorem vR_323_0 : cz_chkR prog_27_method_150_code cr_323_0 = true := rws_ok (p := 0) (by decide +kernel)
set_option maxRecDepth 100000 in
theorem vR_323_1 : cz_chkR prog_27_method_150_code cr_323_1 = true := rws_ok (p := 16) (by decide +kernel)
set_option maxRecDepth 100000 in
theorem vR_323_2 : cz_chkR prog_27_method_150_code cr_323_2 = true := rws_ok (p := 32) (by decide +kernel)
set_option maxRecDepth 100000 in
theorem vR_323_3 : cz_chkR prog_27_method_150_code cr_323_3 = true := rws_ok (p := 48) (by decide +kernel)
set_option maxRecDepth 100000 in
theorem vR_323_4 : cz_chkR prog_27_method_150_code cr_323_4 = true := rws_ok (p := 65) (by decide +kernel)
set_option maxRecDepth 100000 in
theorem vR_323_5 : cz_chkR prog_27_method_150_code cr_323_5 = true := rws_ok (p := 80) (by decide +kernel)
set_option maxRecDepth 100000 in
theorem vR_323_6 : cz_chkR prog_27_method_150_code cr_323_6 = true := rws_ok (p := 97) (by decide +kernel)
theorem vD_323 : cz_chkD cm_323 = true := cz_chkD_of (show ∀ row ∈ [cr_323_0, cr_323_1, cr_323_2, cr_323_3, cr_323_4, cr_323_5, cr_323_6], cz_chkR prog_27_method_150_code row = true from List.forall_mem_cons.mpr ⟨vR_323_0, List.forall_mem_cons.mpr ⟨vR_323_1, List.forall_mem_cons.mpr ⟨vR_323_2, List.forall_mem_cons.mpr ⟨vR_323_3, List.forall_mem_cons.mpr ⟨vR_323_4, List.forall_mem_cons.mpr ⟨vR_323_5, List.forall_mem_cons.mpr ⟨vR_323_6, fun _ w => (by cases w)⟩⟩⟩⟩⟩⟩⟩)
set_option maxRecDepth 100000 in
theorem vK_323 : cz_chkK cm_323 [[8235, 1041, 1042], [9110], [9111], [4043], [9010, 9011], [1, 9001, 9005, 9002, 9003, 9004], [0, 8236, 8237, 8239], [0, 9009, 8191, 8193], [8143]] = true := by decide +kernel
theorem vO_323 : cz_okM cm_323 := cz_chkM_ok cz_allY_ok cz_allC2_ok cz_asl_ok cz_okI0_ok vD_323 vK_323
set_option maxRecDepth 100000 in
theorem vR_324_0 : cz_chkR prog_27_method_53_code cr_324_0 = true := rws_ok (p := 0) (by decide +kernel)
theorem vD_324 : cz_chkD cm_324 = true := cz_chkD_of (show ∀ row ∈ [cr_324_0], cz_chkR prog_27_method_53_code row = true from List.forall_mem_cons.mpr ⟨vR_324_0, fun _ w => (by cases w)⟩)
set_option maxRecDepth 100000 in
theorem vK_324 : cz_chkK cm_324 [[8232, 8233, 8234]] = true := by decide +kernel
theorem vO_324 : cz_okM cm_324 := cz_chkM_ok cz_allY_ok cz_allC2_ok cz_asl_ok cz_okI0_ok vD_324 vK_324
set_option maxRecDepth 100000 in
theorem vR_325_0 : cz_chkR prog_27_method_56_code cr_325_0 = true := rws_ok (p := 0) (by decide +kernel)
set_option maxRecDepth 100000 in
theorem vR_325_1 : cz_chkR prog_27_method_56_code cr_325_1 = true := rws_ok (p := 16) (by decide +kernel)
theorem vD_325 : cz_chkD cm_325 = true := cz_chkD_of (show ∀ row ∈ [cr_325_0, cr_325_1], cz_chkR prog_27_method_56_code row = true from List.forall_mem_cons.mpr ⟨vR_325_0, List.forall_mem_cons.mpr ⟨vR_325_1, fun _ w => (by cases w)⟩⟩)
set_option maxRecDepth 100000 in
theorem vK_325 : cz_chkK cm_325 [[9110], [0, 4049, 4050, 4051], [4053, 4054]] = true := by decide +kernel
theorem vO_325 : cz_okM cm_325 := cz_chkM_ok cz_allY_ok cz_allC2_ok cz_asl_ok cz_okI0_ok vD_325 vK_325
set_option maxRecDepth 100000 in
theorem vR_326_0 : cz_chkR prog_27_method_152_code cr_326_0 = true := rws_ok (p := 0) (by decide +kernel)
theorem vD_326 : cz_chkD cm_326 = true := cz_chkD_of (show ∀ row ∈ [cr_326_0], cz_chkR prog_27_method_152_code row = true from List.forall_mem_cons.mpr ⟨vR_326_0, fun _ w => (by cases w)⟩)
set_option maxRecDepth 100000 in
theorem vK_326 : cz_chkK cm_326 [[9111], [4043]] = true := by decide +kernel
theorem vO_326 : cz_okM cm_326 := cz_chkM_ok cz_allY_ok cz_allC2_ok cz_asl_ok cz_okI0_ok vD_326 vK_326
set_option maxRecDepth 100000 in
theorem vR_327_0 : cz_chkR prog_27_method_154_code cr_327_0 = true := rws_ok (p := 0) (by decide +kernel)
set_option maxRecDepth 100000 in
theorem vR_327_1 : cz_chkR prog_27_method_154_code cr_327_1 = true := rws_ok (p := 17) (by decide +kernel)
theorem vD_327 : cz_chkD cm_327 = true := cz_chkD_of (show ∀ row ∈ [cr_327_0, cr_327_1], cz_chkR prog_27_method_154_code row = true from List.forall_mem_cons.mpr ⟨vR_327_0, List.forall_mem_cons.mpr ⟨vR_327_1, fun _ w => (by cases w)⟩⟩)
set_option maxRecDepth 100000 in
theorem vK_327 : cz_chkK cm_327 [[9111], [4043]] = true := by decide +kernel
theorem vO_327 : cz_okM cm_327 := cz_chkM_ok cz_allY_ok cz_allC2_ok cz_asl_ok cz_okI0_ok vD_327 vK_327
set_option maxRecDepth 100000 in
theorem vR_328_0 : cz_chkR prog_27_method_54_code cr_328_0 = true := rws_ok (p := 0) (by decide +kernel)
theorem vD_328 : cz_chkD cm_328 = true := cz_chkD_of (show ∀ row ∈ [cr_328_0], cz_chkR prog_27_method_54_code row = true from List.forall_mem_cons.mpr ⟨vR_328_0, fun _ w => (by cases w)⟩)
set_option maxRecDepth 100000 in
theorem vK_328 : cz_chkK cm_328 [[9110], [0, 4039, 4040, 4041]] = true := by decide +kernel
theorem vO_328 : cz_okM cm_328 := cz_chkM_ok cz_allY_ok cz_allC2_ok cz_asl_ok cz_okI0_ok vD_328 vK_328
set_option maxRecDepth 100000 in
theorem vR_329_0 : cz_chkR prog_28_method_1_code cr_329_0 = true := rws_ok (p := 0) (by decide +kernel)
theorem vD_329 : cz_chkD cm_329 = true := cz_chkD_of (show ∀ row ∈ [cr_329_0], cz_chkR prog_28_method_1_code row = true from List.forall_mem_cons.mpr ⟨vR_329_0, fun _ w => (by cases w)⟩)
set_option maxRecDepth 100000 in
theorem vK_329 : cz_chkK cm_329 [[8129, 8130, 8131]] = true := by decide +kernel
theorem vO_329 : cz_okM cm_329 := cz_chkM_ok cz_allY_ok cz_allC2_ok cz_asl_ok cz_okI0_ok vD_329 vK_329
set_option maxRecDepth 100000 in
theorem vR_330_0 : cz_chkR prog_28_method_14_code cr_330_0 = true := rws_ok (p := 0) (by decide +kernel)
theorem vD_330 : cz_chkD cm_330 = true := cz_chkD_of (show ∀ row ∈ [cr_330_0], cz_chkR prog_28_method_14_code row = true from List.forall_mem_cons.mpr ⟨vR_330_0, fun _ w => (by cases w)⟩)
set_option maxRecDepth 100000 in
theorem vK_330 : cz_chkK cm_330 [[8158, 8159, 10210, 8153]] = true := by decide +kernel
theorem vO_330 : cz_okM cm_330 := cz_chkM_ok cz_allY_ok cz_allC2_ok cz_asl_ok cz_okI0_ok vD_330 vK_330
set_option maxRecDepth 100000 in
theorem vR_331_0 : cz_chkR prog_28_method_93_code cr_331_0 = true := rws_ok (p := 0) (by decide +kernel)
theorem vD_331 : cz_chkD cm_331 = true := cz_chkD_of (show ∀ row ∈ [cr_331_0], cz_chkR prog_28_method_93_code row = true from List.forall_mem_cons.mpr ⟨vR_331_0, fun _ w => (by cases w)⟩)
set_option maxRecDepth 100000 in
theorem vK_331 : cz_chkK cm_331 [[9007, 9002, 9003, 8153]] = true := by decide +kernel
theorem vO_331 : cz_okM cm_331 := cz_chkM_ok cz_allY_ok cz_allC2_ok cz_asl_ok cz_okI0_ok vD_331 vK_331
set_option maxRecDepth 100000 in
theorem vR_332_0 : cz_chkR prog_28_method_42_code cr_332_0 = true := rws_ok (p := 0) (by decide +kernel)
theorem vD_332 : cz_chkD cm_332 = true := cz_chkD_of (show ∀ row ∈ [cr_332_0], cz_chkR prog_28_method_42_code row = true from List.forall_mem_cons.mpr ⟨vR_332_0, fun _ w => (by cases w)⟩)
set_option maxRecDepth 100000 in
theorem vK_332 : cz_chkK cm_332 [[8227], [8229, 8230, 8231]] = true := by decide +kernel
theorem vO_332 : cz_okM cm_332 := cz_chkM_ok cz_allY_ok cz_allC2_ok cz_asl_ok cz_okI0_ok vD_332 vK_332
set_option maxRecDepth 100000 in
theorem vR_333_0 : cz_chkR prog_29_method_3_code cr_333_0 = true := rws_ok (p := 0) (by decide +kernel)
theorem vD_333 : cz_chkD cm_333 = true := cz_chkD_of (show ∀ row ∈ [cr_333_0], cz_chkR prog_29_method_3_code row = true from List.forall_mem_cons.mpr ⟨vR_333_0, fun _ w => (by cases w)⟩)
set_option maxRecDepth 100000 in
theorem vK_333 : cz_chkK cm_333 [] = true := by decide +kernel
theorem vO_333 : cz_okM cm_333 := cz_chkM_ok cz_allY_ok cz_allC2_ok cz_asl_ok cz_okI0_ok vD_333 vK_333
set_option maxRecDepth 100000 in
theorem vR_334_0 : cz_chkR prog_29_method_2_code cr_334_0 = true := rws_ok (p := 0) (by decide +kernel)
theorem vD_334 : cz_chkD cm_334 = true := cz_chkD_of (show ∀ row ∈ [cr_334_0], cz_chkR prog_29_method_2_code row = true from List.forall_mem_cons.mpr ⟨vR_334_0, fun _ w => (by cases w)⟩)
set_option maxRecDepth 100000 in
theorem vK_334 : cz_chkK cm_334 [[4056]] = true := by decide +kernel
theorem vO_334 : cz_okM cm_334 := cz_chkM_ok cz_allY_ok cz_allC2_ok cz_asl_ok cz_okI0_ok vD_334 vK_334
set_option maxRecDepth 100000 in
theorem vR_335_0 : cz_chkR prog_34_method_131_code cr_335_0 = true := rws_ok (p := 0) (by decide +kernel)
set_option maxRecDepth 100000 in
theorem vR_335_1 : cz_chkR prog_34_method_131_code cr_335_1 = true := rws_ok (p := 16) (by decide +kernel)
set_option maxRecDepth 100000 in
theorem vR_335_2 : cz_chkR prog_34_method_131_code cr_335_2 = true := rws_ok (p := 33) (by decide +kernel)
theorem vD_335 : cz_chkD cm_335 = true := cz_chkD_of (show ∀ row ∈ [cr_335_0, cr_335_1, cr_335_2], cz_chkR prog_34_method_131_code row = true from List.forall_mem_cons.mpr ⟨vR_335_0, List.forall_mem_cons.mpr ⟨vR_335_1, List.forall_mem_cons.mpr ⟨vR_335_2, fun _ w => (by cases w)⟩⟩⟩)
set_option maxRecDepth 100000 in
theorem vK_335 : cz_chkK cm_335 [[9019], [9020], [9021, 8127, 8128], [0, 9087, 8224, 8225]] = true := by decide +kernel
theorem vO_335 : cz_okM cm_335 := cz_chkM_ok cz_allY_ok cz_allC2_ok cz_asl_ok cz_okI0_ok vD_335 vK_335
set_option maxRecDepth 100000 in
theorem vR_336_0 : cz_chkR prog_34_method_121_code cr_336_0 = true := rws_ok (p := 0) (by decide +kernel)
set_option maxRecDepth 100000 in
theorem vR_336_1 : cz_chkR prog_34_method_121_code cr_336_1 = true := rws_ok (p := 17) (by decide +kernel)
set_option maxRecDepth 100000 in
theorem vR_336_2 : cz_chkR prog_34_method_121_code cr_336_2 = true := rws_ok (p := 32) (by decide +kernel)
theorem vD_336 : cz_chkD cm_336 = true := cz_chkD_of (show ∀ row ∈ [cr_336_0, cr_336_1, cr_336_2], cz_chkR prog_34_method_121_code row = true from List.forall_mem_cons.mpr ⟨vR_336_0, List.forall_mem_cons.mpr ⟨vR_336_1, List.forall_mem_cons.mpr ⟨vR_336_2, fun _ w => (by cases w)⟩⟩⟩)
set_option maxRecDepth 100000 in
theorem vK_336 : cz_chkK cm_336 [[8189, 5105, 5104, 1032], [8188, 5165], [8181, 8182, 8183, 8184, 8185, 8186], [8187]] = true := by decide +kernel
theorem vO_336 : cz_okM cm_336 := cz_chkM_ok cz_allY_ok cz_allC2_ok cz_asl_ok cz_okI0_ok vD_336 vK_336
set_option maxRecDepth 100000 in
theorem vR_337_0 : cz_chkR prog_34_method_132_code cr_337_0 = true := rws_ok (p := 0) (by decide +kernel)
set_option maxRecDepth 100000 in
theorem vR_337_1 : cz_chkR prog_34_method_132_code cr_337_1 = true := rws_ok (p := 16) (by decide +kernel)
theorem vD_337 : cz_chkD cm_337 = true := cz_chkD_of (show ∀ row ∈ [cr_337_0, cr_337_1], cz_chkR prog_34_method_132_code row = true from List.forall_mem_cons.mpr ⟨vR_337_0, List.forall_mem_cons.mpr ⟨vR_337_1, fun _ w => (by cases w)⟩⟩)
set_option maxRecDepth 100000 in
theorem vK_337 : cz_chkK cm_337 [[8181, 8182, 8183, 8184, 8185, 8186], [8187], [9013, 9014]] = true := by decide +kernel
theorem vO_337 : cz_okM cm_337 := cz_chkM_ok cz_allY_ok cz_allC2_ok cz_asl_ok cz_okI0_ok vD_337 vK_337
set_option maxRecDepth 100000 in
theorem vR_338_0 : cz_chkR prog_34_method_133_code cr_338_0 = true := rws_ok (p := 0) (by decide +kernel)
set_option maxRecDepth 100000 in
theorem vR_338_1 : cz_chkR prog_34_method_133_code cr_338_1 = true := rws_ok (p := 16) (by decide +kernel)
set_option maxRecDepth 100000 in
theorem vR_338_2 : cz_chkR prog_34_method_133_code cr_338_2 = true := rws_ok (p := 32) (by decide +kernel)
theorem vD_338 : cz_chkD cm_338 = true := cz_chkD_of (show ∀ row ∈ [cr_338_0, cr_338_1, cr_338_2], cz_chkR prog_34_method_133_code row = true from List.forall_mem_cons.mpr ⟨vR_338_0, List.forall_mem_cons.mpr ⟨vR_338_1, List.forall_mem_cons.mpr ⟨vR_338_2, fun _ w => (by cases w)⟩⟩⟩)
set_option maxRecDepth 100000 in
theorem vK_338 : cz_chkK cm_338 [[8189, 5105, 5104, 1032], [8188, 5165], [9016, 9017]] = true := by decide +kernel
theorem vO_338 : cz_okM cm_338 := cz_chkM_ok cz_allY_ok cz_allC2_ok cz_asl_ok cz_okI0_ok vD_338 vK_338
set_option maxRecDepth 100000 in
theorem vR_339_0 : cz_chkR prog_35_method_27_code cr_339_0 = true := rws_ok (p := 0) (by decide +kernel)
set_option maxRecDepth 100000 in
theorem vR_339_1 : cz_chkR prog_35_method_27_code cr_339_1 = true := rws_ok (p := 16) (by decide +kernel)
theorem vD_339 : cz_chkD cm_339 = true := cz_chkD_of (show ∀ row ∈ [cr_339_0, cr_339_1], cz_chkR prog_35_method_27_code row = true from List.forall_mem_cons.mpr ⟨vR_339_0, List.forall_mem_cons.mpr ⟨vR_339_1, fun _ w => (by cases w)⟩⟩)
set_option maxRecDepth 100000 in
theorem vK_339 : cz_chkK cm_339 [[8172, 5189], [8173]] = true := by decide +kernel
theorem vO_339 : cz_okM cm_339 := cz_chkM_ok cz_allY_ok cz_allC2_ok cz_asl_ok cz_okI0_ok vD_339 vK_339
