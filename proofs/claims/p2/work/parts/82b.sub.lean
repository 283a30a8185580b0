/-! L3, part 4: fewer locals known: what ends so, ends so with more. -/
def ez_nd (L : List (Nat × cz_V)) : Prop := (L.map (fun q => q.1)).Nodup
def ez_sub (L L' : List (Nat × cz_V)) : Prop := ∀ j v, cz_find j L = some v → cz_find j L' = some v
theorem ez_find_nd {j : Nat} {v : cz_V} : ∀ {L : List (Nat × cz_V)}, ez_nd L → (j, v) ∈ L → cz_find j L = some v
  | [], _, h => by cases h
  | q :: r, hn, h => by
    have hn : (q.1 :: r.map (fun q => q.1)).Nodup := hn
    rw [List.nodup_cons] at hn
    rw [cz_find_cons]
    rcases List.mem_cons.mp h with e | h
    · rw [← e]
      show (bif Nat.beq j j then some v else _) = some v
      rw [Nat.beq_refl]
      rfl
    · have hne : q.1 ≠ j := fun e => hn.1 (by rw [e]; exact List.mem_map.mpr ⟨(j, v), h, rfl⟩)
      rw [dz_beq_ne hne]
      exact ez_find_nd hn.2 h
theorem ez_fil_mem {f : Nat × cz_V → Bool} {q : Nat × cz_V} {L : List (Nat × cz_V)} (h : q ∈ cz_fil f L) : q ∈ L ∧ f q = true := by
  rw [cz_fil_eq, List.mem_filter] at h
  exact h
theorem ez_nd_fil {f : Nat × cz_V → Bool} {L : List (Nat × cz_V)} (h : ez_nd L) : ez_nd (cz_fil f L) := by
  unfold ez_nd at h ⊢
  rw [cz_fil_eq]
  exact h.sublist (List.filter_sublist.map _)
theorem ez_nd_sto {L : List (Nat × cz_V)} {i : Nat} {v : cz_V} (h : ez_nd L) : ez_nd (cz_sto L i v) := by
  show (i :: (cz_fil _ L).map (fun q => q.1)).Nodup
  rw [List.nodup_cons]
  refine ⟨fun w => ?_, ez_nd_fil h⟩
  obtain ⟨q, hq, e⟩ := List.mem_map.mp w
  have := (ez_fil_mem hq).2
  have e : q.1 = i := e
  rw [e] at this
  simp only [Nat.beq_refl, cond_true] at this
  cases this
theorem ez_nd_sto2 {L : List (Nat × cz_V)} {i : Nat} {v : cz_V} (h : ez_nd L) : ez_nd (cz_sto2 L i v) := by
  show (i :: (cz_fil _ L).map (fun q => q.1)).Nodup
  rw [List.nodup_cons]
  refine ⟨fun w => ?_, ez_nd_fil h⟩
  obtain ⟨q, hq, e⟩ := List.mem_map.mp w
  have := (ez_fil_mem hq).2
  have e : q.1 = i := e
  rw [e] at this
  simp only [Nat.beq_refl, cond_true] at this
  cases this
theorem ez_sub_sto {L L' : List (Nat × cz_V)} {i : Nat} {v : cz_V} (hn : ez_nd L) (h : ez_sub L L') : ez_sub (cz_sto L i v) (cz_sto L' i v) := by
  intro j w hw
  have hm := cz_find_mem hw
  rcases List.mem_cons.mp hm with e | hm
  · cases e
    exact cz_find_sto_self _ _ _
  · obtain ⟨m1, m2⟩ := ez_fil_mem hm
    have hne : j ≠ i := fun e => by
      rw [e] at m2
      simp only [Nat.beq_refl, cond_true] at m2
      cases m2
    refine cz_find_sto hne (fun e => ?_) (h j w (ez_find_nd hn m1))
    have m2 : (bif Nat.beq j i then false else bif Nat.beq (Nat.succ j) i then !(cz_lg w) else true) = true := m2
    rw [dz_beq_ne hne, show Nat.succ j = i from e, Nat.beq_refl] at m2
    simpa using m2
theorem ez_sub_sto2 {L L' : List (Nat × cz_V)} {i : Nat} {v : cz_V} (hn : ez_nd L) (h : ez_sub L L') : ez_sub (cz_sto2 L i v) (cz_sto2 L' i v) := by
  intro j w hw
  have hm := cz_find_mem hw
  rcases List.mem_cons.mp hm with e | hm
  · cases e
    exact cz_find_sto2_self _ _ _
  · obtain ⟨m1, m2⟩ := ez_fil_mem hm
    have m2 : (bif Nat.beq j i then false else bif Nat.beq j (Nat.succ i) then false else bif Nat.beq (Nat.succ j) i then !(cz_lg w) else true) = true := m2
    have hne : j ≠ i := fun e => by
      rw [e, Nat.beq_refl] at m2
      cases m2
    rw [dz_beq_ne hne] at m2
    have hne2 : j ≠ i + 1 := fun e => by
      rw [show Nat.succ i = j from e.symm, Nat.beq_refl] at m2
      cases m2
    refine cz_find_sto2 hne hne2 (fun e => ?_) (h j w (ez_find_nd hn m1))
    rw [dz_beq_ne (show j ≠ Nat.succ i from hne2), show Nat.succ j = i from e, Nat.beq_refl] at m2
    simpa using m2
/-- the frame alone: either L isn't asked, or with more known the same happens -/
theorem ez_sub_ld {L L' : List (Nat × cz_V)} {k : Nat} {f : cz_V → Bool} {v : cz_V} (h : ez_sub L L') (hl : cz_ld L k f = some v) : cz_ld L' k f = some v := by
  obtain ⟨h1, h2⟩ := cz_ld_inv hl
  unfold cz_ld
  rw [h k v h1]
  dsimp only
  rw [h2]
  rfl
def ez_pp (i : Instr) (nL : Nat) (L L' : List (Nat × cz_V)) (st : List cz_V) : Prop := ∀ q, cz_pure i nL L st = some q → ∃ q', cz_pure i nL L' st = some q' ∧ q'.2 = q.2 ∧ ez_nd q.1 ∧ ez_sub q.1 q'.1
theorem ez_pp_map {L L' : List (Nat × cz_V)} {o : Option (List cz_V)} (hn : ez_nd L) (h : ez_sub L L') : ∀ q, o.map (fun s => (L, s)) = some q → ∃ q', o.map (fun s => (L', s)) = some q' ∧ q'.2 = q.2 ∧ ez_nd q.1 ∧ ez_sub q.1 q'.1 := by
  intro q hq
  cases o with
  | none => cases hq
  | some s => cases hq; exact ⟨_, rfl, rfl, hn, h⟩
theorem ez_pp_ld {L L' : List (Nat × cz_V)} {st : List cz_V} {k : Nat} {f : cz_V → Bool} (hn : ez_nd L) (h : ez_sub L L') : ∀ q, (cz_ld L k f).map (fun v => (L, v :: st)) = some q → ∃ q', (cz_ld L' k f).map (fun v => (L', v :: st)) = some q' ∧ q'.2 = q.2 ∧ ez_nd q.1 ∧ ez_sub q.1 q'.1 := by
  intro q hq
  cases hl : cz_ld L k f with
  | none => rw [hl] at hq; cases hq
  | some v =>
    rw [hl] at hq
    cases hq
    rw [ez_sub_ld h hl]
    exact ⟨_, rfl, rfl, hn, h⟩
theorem ez_pp_b {L L' : List (Nat × cz_V)} {b : Bool} {q : List (Nat × cz_V) × List cz_V} {q' : List (Nat × cz_V) × List cz_V} (he : q'.2 = q.2) (hn : ez_nd q.1) (hs : ez_sub q.1 q'.1) : ∀ r, (bif b then some q else none) = some r → ∃ r', (bif b then some q' else none) = some r' ∧ r'.2 = r.2 ∧ ez_nd r.1 ∧ ez_sub r.1 r'.1 := by
  intro r hr
  cases b with
  | false => cases hr
  | true => cases hr; exact ⟨_, rfl, he, hn, hs⟩
theorem ez_pp_n {L L' : List (Nat × cz_V)} {b : Bool} {s : List cz_V} (hn : ez_nd L) (h : ez_sub L L') : ∀ r, (bif b then none else some (L, s)) = some r → ∃ r', (bif b then none else some (L', s)) = some r' ∧ r'.2 = r.2 ∧ ez_nd r.1 ∧ ez_sub r.1 r'.1 := by
  intro r hr
  cases b with
  | true => cases hr
  | false => cases hr; exact ⟨_, rfl, rfl, hn, h⟩
set_option maxHeartbeats 1000000 in
theorem ez_pp_all {i : Instr} {nL : Nat} {L L' : List (Nat × cz_V)} {st : List cz_V} (hn : ez_nd L) (h : ez_sub L L') : ez_pp i nL L L' st := by
  unfold ez_pp
  cases i
  case iload_n k => exact ez_pp_ld hn h
  case iload k => exact ez_pp_ld hn h
  case lload_n k => exact ez_pp_ld hn h
  case lload k => exact ez_pp_ld hn h
  case aload_n k => exact ez_pp_ld hn h
  case aload k => exact ez_pp_ld hn h
  case istore_n k =>
    match st with
    | .inl a :: r => exact ez_pp_b (L := L) (L' := L') rfl (ez_nd_sto hn) (ez_sub_sto hn h)
    | .inr (.inl a) :: r => intro q hq; cases hq
    | .inr (.inr a) :: r => intro q hq; cases hq
    | [] => intro q hq; cases hq
  case istore k =>
    match st with
    | .inl a :: r => exact ez_pp_b (L := L) (L' := L') rfl (ez_nd_sto hn) (ez_sub_sto hn h)
    | .inr (.inl a) :: r => intro q hq; cases hq
    | .inr (.inr a) :: r => intro q hq; cases hq
    | [] => intro q hq; cases hq
  case astore_n k =>
    match st with
    | .inr (.inr a) :: r => exact ez_pp_b (L := L) (L' := L') rfl (ez_nd_sto hn) (ez_sub_sto hn h)
    | .inr (.inl a) :: r => intro q hq; cases hq
    | .inl a :: r => intro q hq; cases hq
    | [] => intro q hq; cases hq
  case astore k =>
    match st with
    | .inr (.inr a) :: r => exact ez_pp_b (L := L) (L' := L') rfl (ez_nd_sto hn) (ez_sub_sto hn h)
    | .inr (.inl a) :: r => intro q hq; cases hq
    | .inl a :: r => intro q hq; cases hq
    | [] => intro q hq; cases hq
  case lstore_n k =>
    match st with
    | .inr (.inl a) :: r => exact ez_pp_b (L := L) (L' := L') rfl (ez_nd_sto2 hn) (ez_sub_sto2 hn h)
    | .inr (.inr a) :: r => intro q hq; cases hq
    | .inl a :: r => intro q hq; cases hq
    | [] => intro q hq; cases hq
  case lstore k =>
    match st with
    | .inr (.inl a) :: r => exact ez_pp_b (L := L) (L' := L') rfl (ez_nd_sto2 hn) (ez_sub_sto2 hn h)
    | .inr (.inr a) :: r => intro q hq; cases hq
    | .inl a :: r => intro q hq; cases hq
    | [] => intro q hq; cases hq
  case iinc k n =>
    intro q hq
    unfold cz_pure at hq ⊢
    dsimp only at hq ⊢
    split at hq
    · rename_i a ha
      rw [h k _ ha]
      exact ez_pp_b (L := L) (L' := L') (q := (cz_sto L k (.inl (a + Int32.ofInt n)), st)) (q' := (cz_sto L' k (.inl (a + Int32.ofInt n)), st)) rfl (ez_nd_sto hn) (ez_sub_sto hn h) q hq
    · cases hq
  all_goals
    intro q hq
    first
      | (cases hq; exact ⟨_, rfl, rfl, hn, h⟩)
      | (cases hq)
      | exact ez_pp_map hn h q hq
      | (unfold cz_pure at hq ⊢; dsimp only at hq ⊢; split at hq <;> first | (cases hq; exact ⟨_, rfl, rfl, hn, h⟩) | (cases hq) | exact ez_pp_n hn h q hq)
/-- instructions of the frame alone -/
def ez_isp (i : Instr) : Bool := match i with
  | .iconst _ | .bipush _ | .sipush _ | .lconst _ | .aconst_null | .iload_n _ | .iload _ | .lload_n _ | .lload _ | .aload_n _ | .aload _ | .istore_n _ | .istore _ | .astore_n _ | .astore _ | .lstore_n _ | .lstore _ | .iinc _ _ | .iadd | .isub | .imul | .iand | .ior | .ixor | .ishl | .ishr | .iushr | .i2b | .i2c | .ineg | .ladd | .lsub | .lmul | .land | .lor | .lxor | .lshl | .lushr | .idiv | .irem | .i2l | .l2i | .lcmp | .dup | .pop | .dup2 | .dup_x1 => true
  | _ => false
theorem ez_isp0 {i : Instr} (hi : ez_isp i = false) (nL : Nat) (L : List (Nat × cz_V)) (st : List cz_V) : cz_pure i nL L st = none := by
  cases i <;> first | rfl | cases hi
theorem ez_isp1 {P : cz_P} {ih : cz_Ih} {d : Nat} {M : cz_M} {pc : Nat} {L : List (Nat × cz_V)} {st : List cz_V} {h : cz_H} {i : Instr} {len : Nat} (hi : ez_isp i = true) (hp : cz_pure i M.2.1.2.1 L st = none) : cz_s P ih d M pc L st h i len = none := by
  unfold cz_s
  rw [hp]
  dsimp only
  cases hl : Nat.beq len (cz_len i) with
  | false => cases i <;> first | rfl | cases hi
  | true => cases i <;> first | rfl | cases hi
theorem ez_sub_x (P : cz_P) : ∀ (n d : Nat) (M : cz_M) (pc : Nat) (L L' : List (Nat × cz_V)) (st : List cz_V) (h : cz_H) (F : cz_F), ez_nd L → ez_sub L L' → cz_x P n d M pc L st h = some F → cz_x P n d M pc L' st h = some F
  | 0, d, M, pc, L, L', st, h, F, _, _, hx => by cases hx
  | n + 1, d, M, pc, L, L', st, h, F, hn, hs, hx => by
    have ih := ez_sub_x P n
    unfold cz_x at hx ⊢
    split at hx
    · rename_i i len hc
      cases hi : ez_isp i with
      | true =>
        cases hp : cz_pure i M.2.1.2.1 L st with
        | none => rw [ez_isp1 hi hp] at hx; cases hx
        | some q =>
          obtain ⟨q', p1, p2, p3, p4⟩ := ez_pp_all (nL := M.2.1.2.1) (st := st) hn hs q hp
          unfold cz_s at hx ⊢
          rw [hp] at hx
          rw [p1]
          dsimp only at hx ⊢
          cases hb : Nat.beq len (cz_len i) with
          | false => rw [hb] at hx; cases hx
          | true =>
            rw [hb] at hx
            rw [p2]
            exact ih _ _ _ _ _ _ _ _ p3 p4 hx
      | false =>
        have e1 := ez_isp0 hi M.2.1.2.1 L st
        have e2 := ez_isp0 hi M.2.1.2.1 L' st
        unfold cz_s at hx ⊢
        rw [e1] at hx
        rw [e2]
        dsimp only at hx ⊢
        cases hbr : cz_br i pc st with
        | some q =>
          rw [hbr] at hx
          dsimp only at hx ⊢
          cases hb : (Nat.beq len (cz_len i) || cz_isw i) with
          | false => rw [hb] at hx; cases hx
          | true => rw [hb] at hx; exact ih _ _ _ _ _ _ _ _ hn hs hx
        | none =>
          rw [hbr] at hx
          dsimp only at hx ⊢
          cases hb : Nat.beq len (cz_len i) with
          | false => rw [hb] at hx; cases hx
          | true =>
            rw [hb] at hx
            dsimp only [cond_true] at hx ⊢
            cases hrt : cz_ret i M.2.1.2.2.1 st with
            | some v => rw [hrt] at hx; exact hx
            | none =>
              rw [hrt] at hx
              dsimp only at hx ⊢
              cases hth : cz_throw M pc i with
              | some k => rw [hth] at hx; exact hx
              | none =>
                rw [hth] at hx
                dsimp only at hx ⊢
                cases hhp : cz_hp P M d pc st h i with
                | some q => rw [hhp] at hx; exact ih _ _ _ _ _ _ _ _ hn hs hx
                | none =>
                  rw [hhp] at hx
                  dsimp only at hx ⊢
                  unfold cz_sC at hx ⊢
                  split at hx
                  · rename_i y as rest hcall
                    split at hx
                    · rename_i M' hM
                      cases hb2 : ((Nat.blt 0 d && cz_room h 0 0) && Nat.ble (cz_cat2 rest + (M'.2.1.2.1 + 11)) 100 && Nat.ble (cz_cat2 as) M'.2.1.2.1) with
                      | false => rw [hb2] at hx; cases hx
                      | true =>
                        rw [hb2] at hx
                        dsimp only [cond_true] at hx ⊢
                        split at hx
                        · rename_i q hq
                          unfold cz_sK at hx ⊢
                          split at hx
                          · exact ih _ _ _ _ _ _ _ _ hn hs hx
                          · exact ih _ _ _ _ _ _ _ _ hn hs hx
                          · split at hx
                            · rename_i k he
                              split at hx
                              · rename_i t ht
                                exact ih _ _ _ _ _ _ _ _ hn hs hx
                              · exact hx
                              · cases hx
                            · cases hx
                        · cases hx
                    · cases hx
                  · cases hx
    · cases hx
theorem ez_sub_ok {L L' : List (Nat × ez_V)} (h : ∀ q ∈ L, ez_find q.1 L' = some q.2) : ez_sub (ez_L L) (ez_L L') := by
  intro j v hv
  obtain ⟨q, hq, e⟩ := List.mem_map.mp (cz_find_mem hv)
  cases e
  rw [ez_find_eq, h q hq]
  rfl
def ez_ndB : List (Nat × ez_V) → Bool
  | [] => true
  | q :: r => (r.all (fun p => !(Nat.beq p.1 q.1))) && ez_ndB r
theorem ez_ndB_ok : ∀ {L : List (Nat × ez_V)}, ez_ndB L = true → (L.map (fun q => q.1)).Nodup
  | [], _ => List.nodup_nil
  | q :: r, h => by
    have h : ((r.all (fun p => !(Nat.beq p.1 q.1))) && ez_ndB r) = true := h
    rw [Bool.and_eq_true, List.all_eq_true] at h
    show (q.1 :: r.map (fun q => q.1)).Nodup
    rw [List.nodup_cons]
    refine ⟨fun w => ?_, ez_ndB_ok h.2⟩
    obtain ⟨p, hp, e⟩ := List.mem_map.mp w
    have := h.1 p hp
    have e : p.1 = q.1 := e
    rw [e, Nat.beq_refl] at this
    cases this
def ez_fnd (L' : List (Nat × ez_V)) : List (Nat × ez_V) → Prop
  | [] => True
  | q :: r => ez_find q.1 L' = some q.2 ∧ ez_fnd L' r
theorem ez_fnd_ok {L' : List (Nat × ez_V)} : ∀ {L : List (Nat × ez_V)}, ez_fnd L' L → ∀ q ∈ L, ez_find q.1 L' = some q.2
  | [], _ => fun q hq => by cases hq
  | p :: r, h => fun q hq => by
    rcases List.mem_cons.mp hq with e | hq
    · rw [e]; exact h.1
    · exact ez_fnd_ok h.2 q hq
/-- fewer locals, in any order -/
theorem ez_less {d : Nat} {M : cz_M} {pc : Nat} (L : List (Nat × ez_V)) {L' : List (Nat × ez_V)} {st : List ez_V} {h : cz_H} {Q : cz_F → Prop} (hn : ez_ndB L = true) (hs : ez_fnd L' L) (k : ez_W d M pc L st h Q) : ez_W d M pc L' st h Q := by
  obtain ⟨n, F, h1, h2⟩ := k
  refine ⟨n, F, ez_sub_x _ n _ _ _ _ _ _ _ _ ?_ (ez_sub_ok (ez_fnd_ok hs)) h1, h2⟩
  unfold ez_nd ez_L
  rw [List.map_map]
  exact ez_ndB_ok hn
