/-! Soundness, part 4: arrays read and written, constants, Object's constructor, a copy of nothing. -/
section CzArr
variable {p : Program} {l : Launch} {e : Env} {R : Room} {s : State} {m : MethodId} {args : Array Value} {below : List Frame} {meth : Method} {c : Code} {H : Heap} {locs : List Loc} {cells slots : Nat} {Q : State → Prop}
variable {K : cz_K} {E : cz_E} {M : cz_M} {d C0 S0 pc : Nat} {ls : Array Slot} {h : cz_H} {st : List cz_V} {S : cz_N}
theorem cz_ial_ok (X : cz_Cx p e R s m meth c K E M d C0 S0) (hd : decode M.2.1.1 pc = .ok (.iaload, 1)) (hf : cz_hal (fun t => Nat.beq t 1) pc st h = some S)
    (hP : cz_HP cz_cl K E h H) (hL : ∀ y ∈ locs, E.2 ≤ y.base) (hc : C0 + cells = h.1) (hs : S0 + slots = h.2.1) (k : cz_Go p l e R s m args below meth c Q K E C0 S0 ls S) :
    W p l e R s m args below meth c H locs cells slots Q (F0 m pc ls (st.map (cz_v E))) := by
  have X' := X
  obtain ⟨hx, -, hb, -, -, -, hnm, hown, -, hW, hRc, hRs, -⟩ := X
  unfold cz_hal at hf
  split at hf
  · rename_i a r rest
    refine cz_aload_ok X' rfl hf hP hL hc hs (fun q hq hok h3 i1 kk => ?_) k
    have hlt : a.toNatClampNeg < q.2.1 := Nat.not_le.mp fun w => i1 (Or.inr w)
    have ht : cz_ty[q.1]? = some .int := by rw [Nat.eq_of_beq_eq_true hok]; rfl
    obtain ⟨cell, g1, g2, g3, g4, g5⟩ := h3
    exact W.iald hx hb g1 (g2 _ ht) g3 (by rw [g4]; exact i1) (g5 _ hlt) rfl rfl hd kk
  · cases hf
theorem cz_lal_ok (X : cz_Cx p e R s m meth c K E M d C0 S0) (hd : decode M.2.1.1 pc = .ok (.laload, 1)) (hf : cz_hal (fun t => Nat.beq t 2) pc st h = some S)
    (hP : cz_HP cz_cl K E h H) (hL : ∀ y ∈ locs, E.2 ≤ y.base) (hc : C0 + cells = h.1) (hs : S0 + slots = h.2.1) (k : cz_Go p l e R s m args below meth c Q K E C0 S0 ls S) :
    W p l e R s m args below meth c H locs cells slots Q (F0 m pc ls (st.map (cz_v E))) := by
  have X' := X
  obtain ⟨hx, -, hb, -, -, -, hnm, hown, -, hW, hRc, hRs, -⟩ := X
  unfold cz_hal at hf
  split at hf
  · rename_i a r rest
    refine cz_aload_ok X' rfl hf hP hL hc hs (fun q hq hok h3 i1 kk => ?_) k
    have hlt : a.toNatClampNeg < q.2.1 := Nat.not_le.mp fun w => i1 (Or.inr w)
    have ht : cz_ty[q.1]? = some .long := by rw [Nat.eq_of_beq_eq_true hok]; rfl
    obtain ⟨cell, g1, g2, g3, g4, g5⟩ := h3
    exact W.lald hx hb g1 (g2 _ ht) g3 (by rw [g4]; exact i1) (g5 _ hlt) rfl rfl hd kk
  · cases hf
theorem cz_bal_ok (X : cz_Cx p e R s m meth c K E M d C0 S0) (hd : decode M.2.1.1 pc = .ok (.baload, 1)) (hf : cz_hal (fun t => Nat.beq t 0 || Nat.beq t 3) pc st h = some S)
    (hP : cz_HP cz_cl K E h H) (hL : ∀ y ∈ locs, E.2 ≤ y.base) (hc : C0 + cells = h.1) (hs : S0 + slots = h.2.1) (k : cz_Go p l e R s m args below meth c Q K E C0 S0 ls S) :
    W p l e R s m args below meth c H locs cells slots Q (F0 m pc ls (st.map (cz_v E))) := by
  have X' := X
  obtain ⟨hx, -, hb, -, -, -, hnm, hown, -, hW, hRc, hRs, -⟩ := X
  unfold cz_hal at hf
  split at hf
  · rename_i a r rest
    refine cz_aload_ok X' rfl hf hP hL hc hs (fun q hq hok h3 i1 kk => ?_) k
    have hlt : a.toNatClampNeg < q.2.1 := Nat.not_le.mp fun w => i1 (Or.inr w)
    simp only [Bool.or_eq_true] at hok
    rcases hok with hok | hok
    · have ht : cz_ty[q.1]? = some .byte := by rw [Nat.eq_of_beq_eq_true hok]; rfl
      obtain ⟨cell, g1, g2, g3, g4, g5⟩ := h3
      exact W.bald hx hb g1 (g2 _ ht) g3 (by rw [g4]; exact i1) (g5 _ hlt) rfl rfl hd kk
    · have ht : cz_ty[q.1]? = some .boolean := by rw [Nat.eq_of_beq_eq_true hok]; rfl
      obtain ⟨cell, g1, g2, g3, g4, g5⟩ := h3
      exact W.zald hx hb g1 (g2 _ ht) g3 (by rw [g4]; exact i1) (g5 _ hlt) rfl rfl hd kk
  · cases hf
theorem cz_ist_ok (X : cz_Cx p e R s m meth c K E M d C0 S0) (hd : decode M.2.1.1 pc = .ok (.iastore, 1)) (hf : cz_hst cz_pg 1 pc st h = some S)
    (hP : cz_HP cz_cl K E h H) (hL : ∀ y ∈ locs, E.2 ≤ y.base) (hc : C0 + cells = h.1) (hs : S0 + slots = h.2.1) (k : cz_Go p l e R s m args below meth c Q K E C0 S0 ls S) :
    W p l e R s m args below meth c H locs cells slots Q (F0 m pc ls (st.map (cz_v E))) := by
  have X' := X
  obtain ⟨hx, -, hb, -, -, -, hnm, hown, -, hW, hRc, hRs, -⟩ := X
  unfold cz_hst at hf
  split at hf
  · rename_i v a r rest
    obtain w | w | w := v
    · refine cz_astore_ok X' rfl hf hP hL hc hs (fun q hq hok h3 i1 kk => ?_) k
      have ht : cz_ty[q.1]? = some .int := by rw [Nat.eq_of_beq_eq_true hok]; rfl
      exact W.iast hx hb h3 ((hW.2.2.1 q.1 _ ht).1 _ _) (fun w => by cases w) (by rw [arrV_size]; exact i1) rfl rfl hd kk
    · cases hf
    · cases hf
  · cases hf
theorem cz_lst_ok (X : cz_Cx p e R s m meth c K E M d C0 S0) (hd : decode M.2.1.1 pc = .ok (.lastore, 1)) (hf : cz_hst cz_pg 2 pc st h = some S)
    (hP : cz_HP cz_cl K E h H) (hL : ∀ y ∈ locs, E.2 ≤ y.base) (hc : C0 + cells = h.1) (hs : S0 + slots = h.2.1) (k : cz_Go p l e R s m args below meth c Q K E C0 S0 ls S) :
    W p l e R s m args below meth c H locs cells slots Q (F0 m pc ls (st.map (cz_v E))) := by
  have X' := X
  obtain ⟨hx, -, hb, -, -, -, hnm, hown, -, hW, hRc, hRs, -⟩ := X
  unfold cz_hst at hf
  split at hf
  · rename_i v a r rest
    obtain w | w | w := v
    · cases hf
    · refine cz_astore_ok X' rfl hf hP hL hc hs (fun q hq hok h3 i1 kk => ?_) k
      have ht : cz_ty[q.1]? = some .long := by rw [Nat.eq_of_beq_eq_true hok]; rfl
      exact W.last hx hb h3 ((hW.2.2.1 q.1 _ ht).1 _ _) (fun w => by cases w) (by rw [arrV_size]; exact i1) rfl rfl hd kk
    · cases hf
  · cases hf
theorem cz_bst_ok (X : cz_Cx p e R s m meth c K E M d C0 S0) (hd : decode M.2.1.1 pc = .ok (.bastore, 1)) (hf : cz_hst cz_pg 0 pc st h = some S)
    (hP : cz_HP cz_cl K E h H) (hL : ∀ y ∈ locs, E.2 ≤ y.base) (hc : C0 + cells = h.1) (hs : S0 + slots = h.2.1) (k : cz_Go p l e R s m args below meth c Q K E C0 S0 ls S) :
    W p l e R s m args below meth c H locs cells slots Q (F0 m pc ls (st.map (cz_v E))) := by
  have X' := X
  obtain ⟨hx, -, hb, -, -, -, hnm, hown, -, hW, hRc, hRs, -⟩ := X
  unfold cz_hst at hf
  split at hf
  · rename_i v a r rest
    obtain w | w | w := v
    · simp only [] at hf
      split at hf
      · rename_i c0 hc0
        cases h0 : Nat.beq c0.1 0 with
        | true =>
          rw [h0] at hf
          simp only [cond_true] at hf
          refine cz_astore_ok X' rfl hf hP hL hc hs (fun q hq hok h3 i1 kk => ?_) k
          have ht : cz_ty[q.1]? = some .byte := by rw [Nat.eq_of_beq_eq_true hok]; rfl
          exact W.bast hx hb h3 ((hW.2.2.1 q.1 _ ht).1 _ _) (fun w => by cases w) (by rw [arrV_size]; exact i1) rfl rfl hd kk
        | false =>
          rw [h0] at hf
          cases hw : (decide (w = 0) || decide (w = 1)) with
          | false => rw [hw] at hf; cases hf
          | true =>
            rw [hw] at hf
            simp only [cond_true, cond_false] at hf
            refine cz_astore_ok X' rfl hf hP hL hc hs (fun q hq hok h3 i1 kk => ?_) k
            have ht : cz_ty[q.1]? = some .boolean := by rw [Nat.eq_of_beq_eq_true hok]; rfl
            have hn : narrow .boolean (.int w) = .int w := by
              simp only [Bool.or_eq_true, decide_eq_true_eq] at hw
              rcases hw with rfl | rfl <;> rfl
            exact W.zast hx hb h3 ((hW.2.2.1 q.1 _ ht).1 _ _) (fun w => by cases w) (by rw [arrV_size]; exact i1) rfl rfl hd (fun H' f1 f2 f3 => kk H' (by rw [f1, hn]; rfl) f2 f3)
      · cases hf
    · cases hf
    · cases hf
  · cases hf
theorem cz_ty_ref {t : Nat} (h : 4 ≤ t) (h1 : t < 11) : ∃ ty : FieldType, cz_ty[t]? = some ty ∧ ty.isReference = true := by
  have : t = 4 ∨ t = 5 ∨ t = 6 ∨ t = 7 ∨ t = 8 ∨ t = 9 ∨ t = 10 := by omega
  rcases this with rfl | rfl | rfl | rfl | rfl | rfl | rfl <;> exact ⟨_, rfl, rfl⟩
theorem cz_aal_ok (X : cz_Cx p e R s m meth c K E M d C0 S0) (hd : decode M.2.1.1 pc = .ok (.aaload, 1)) (hf : cz_hal (fun t => Nat.ble 4 t) pc st h = some S)
    (hP : cz_HP cz_cl K E h H) (hL : ∀ y ∈ locs, E.2 ≤ y.base) (hc : C0 + cells = h.1) (hs : S0 + slots = h.2.1) (k : cz_Go p l e R s m args below meth c Q K E C0 S0 ls S) :
    W p l e R s m args below meth c H locs cells slots Q (F0 m pc ls (st.map (cz_v E))) := by
  have X' := X
  obtain ⟨hx, -, hb, -, -, -, hnm, hown, -, hW, hRc, hRs, -⟩ := X
  unfold cz_hal at hf
  split at hf
  · rename_i a r rest
    refine cz_aload_ok X' rfl hf hP hL hc hs (fun q hq hok h3 i1 kk => ?_) k
    have hlt : a.toNatClampNeg < q.2.1 := Nat.not_le.mp fun w => i1 (Or.inr w)
    obtain ⟨ty, ht, hr⟩ := cz_ty_ref (Nat.ble_eq.mp hok) (cz_arr_ok hW hP hq).2.1
    obtain ⟨cell, g1, g2, g3, g4, g5⟩ := h3
    exact W.aald hx hb g1 (g2 _ ht) hr g3 (by rw [g4]; exact i1) (g5 _ hlt) rfl rfl hd kk
  · cases hf
theorem cz_td_ok {t : Nat} {k : Nat × Nat} (h : cz_td[t]? = some k) (hk : k.2 < 17) : ∃ (C : String) (T : u_T) (N : Nat), cz_cl[k.2]? = some (C, T, N) ∧ cz_ty[t]? = some (.object C) := by
  have hlt : t < 11 := (List.getElem?_eq_some_iff.mp h).1
  have : t = 0 ∨ t = 1 ∨ t = 2 ∨ t = 3 ∨ t = 4 ∨ t = 5 ∨ t = 6 ∨ t = 7 ∨ t = 8 ∨ t = 9 ∨ t = 10 := by omega
  rcases this with rfl | rfl | rfl | rfl | rfl | rfl | rfl | rfl | rfl | rfl | rfl <;>
    (cases h
     first | exact ⟨_, _, _, rfl, rfl⟩ | exact absurd hk (by decide))
theorem cz_ast_ok (X : cz_Cx p e R s m meth c K E M d C0 S0) (hd : decode M.2.1.1 pc = .ok (.aastore, 1)) (hf : cz_hst cz_pg 3 pc st h = some S)
    (hP : cz_HP cz_cl K E h H) (hL : ∀ y ∈ locs, E.2 ≤ y.base) (hc : C0 + cells = h.1) (hs : S0 + slots = h.2.1) (k : cz_Go p l e R s m args below meth c Q K E C0 S0 ls S) :
    W p l e R s m args below meth c H locs cells slots Q (F0 m pc ls (st.map (cz_v E))) := by
  have X' := X
  obtain ⟨hx, -, hb, -, -, -, hnm, hown, -, hW, hRc, hRs, -⟩ := X
  unfold cz_hst at hf
  split at hf
  · rename_i v a r rest
    obtain w | w | w := v
    · cases hf
    · cases hf
    · refine cz_astore_ok X' rfl hf hP hL hc hs (fun q hq hok h3 i1 kk => ?_) k
      have hlt : a.toNatClampNeg < q.2.1 := Nat.not_le.mp fun w => i1 (Or.inr w)
      have h0 : ¬ a < 0 := fun w => i1 (Or.inl w)
      cases w with
      | none => cases hok
      | some w =>
        unfold cz_elem at hok
        simp only [] at hok
        split at hok
        · rename_i kd hkd
          split at hok
          · rename_i o ho
            have hk2 := Nat.eq_of_beq_eq_true hok
            obtain ⟨o1, ⟨r', g1, cell, q1, q2, q3, q4⟩, -⟩ := cz_obj_ok hP ho
            have hlt13 : kd.2 < 17 := by rw [hk2]; exact (List.getElem?_eq_some_iff.mp g1).1
            obtain ⟨C, T, N, b1, ht⟩ := cz_td_ok hkd hlt13
            have hKn := hW.2.1.1 kd.2 _ b1
            have hfc := hKn.2.1
            obtain ⟨kA, comp, k1, k2, k3, -⟩ := (hW.2.2.1 q.1 _ ht).2
            have hcomp : comp = K.1.1 kd.2 := Option.some.inj (k3.symm.trans hfc)
            subst hcomp
            obtain ⟨kc, hkc⟩ : ∃ kc, s.vm.classes[K.1.1 kd.2]? = some kc := Vm.classAt_of_findClass hfc
            have hcls : cell.cls = K.1.1 kd.2 := by rw [q2, hk2]
            exact W.aast hx hb h3 (fun z w => by cases w) (fun w => by cases w) k1 k2 rfl hkc ⟨h0, by rw [arrV_size]; exact hlt⟩ q1 (fun z w => by have q3 := q3.1; rw [w] at q3; cases q3) (by rw [hcls]; exact hkc) (by rw [hcls]; exact va_asg _ _) rfl rfl hd kk
          · cases hok
        · cases hok
  · cases hf
theorem cz_ldc_ok (X : cz_Cx p e R s m meth c K E M d C0 S0) (hM : cz_okM M) {x : Nat} (hd : decode M.2.1.1 pc = .ok (.ldc x, 2)) (hf : cz_hldc 2 M x pc st h = some S)
    (hP : cz_HP cz_cl K E h H) (hL : ∀ y ∈ locs, E.2 ≤ y.base) (hc : C0 + cells = h.1) (hs : S0 + slots = h.2.1) (k : cz_Go p l e R s m args below meth c Q K E C0 S0 ls S) :
    W p l e R s m args below meth c H locs cells slots Q (F0 m pc ls (st.map (cz_v E))) := by
  obtain ⟨hx, -, hb, -, -, -, hnm, hown, -, hW, hRc, hRs, -⟩ := X
  unfold cz_hldc at hf
  cases hq : cz_lk M x with
  | none => rw [hq] at hf; cases hf
  | some q =>
    rw [hq] at hf
    have hl := hM.2 x q hq
    obtain ⟨tag, v, kf, c3⟩ := q
    cases ht : Nat.beq tag 11 with
    | true =>
      have := Nat.eq_of_beq_eq_true ht
      subst this
      simp only [ht, cond_true] at hf
      cases hf
      have kk := k H locs cells slots hP hL hc hs
      exact lv_ldc hx hb hown (hW.1 _ hl args) hd kk
    | false =>
      cases ht2 : Nat.beq tag 12 with
      | false => simp only [ht, ht2, cond_false] at hf; cases hf
      | true =>
        have := Nat.eq_of_beq_eq_true ht2
        subst this
        simp only [ht, ht2, cond_true, cond_false] at hf
        cases hf
        obtain ⟨a1, a2, t, a3⟩ := hl
        have a1 : 1 ≤ v := a1
        have a2 : v < 64 := a2
        have a3 : cz_str[v - 1]? = some (M.1.cls, x, t) := a3
        have kk := k H locs cells slots hP hL hc hs
        have h9 := hW.2.2.2.2.2.1 (v - 1) _ a3
        have e0 : cz_ad E v = E.1 (v - 1 + 1) := by
          unfold cz_ad
          rw [if_pos (by omega), Nat.sub_add_cancel a1]
        have kk : W p l e R s m args below meth c H locs cells slots Q (F0 m (pc + 2) ls (.ref (cz_ad E v) :: st.map (cz_v E))) := kk
        rw [e0] at kk
        exact va_ldcS hx hb hown h9 hd kk
theorem cz_ldcw_ok (X : cz_Cx p e R s m meth c K E M d C0 S0) (hM : cz_okM M) {x : Nat} (hd : decode M.2.1.1 pc = .ok (.ldc_w x, 3)) (hf : cz_hldcw M x pc st h = some S)
    (hP : cz_HP cz_cl K E h H) (hL : ∀ y ∈ locs, E.2 ≤ y.base) (hc : C0 + cells = h.1) (hs : S0 + slots = h.2.1) (k : cz_Go p l e R s m args below meth c Q K E C0 S0 ls S) :
    W p l e R s m args below meth c H locs cells slots Q (F0 m pc ls (st.map (cz_v E))) := by
  obtain ⟨hx, -, hb, -, -, -, hnm, hown, -, hW, hRc, hRs, -⟩ := X
  unfold cz_hldcw at hf
  cases hq : cz_lk M x with
  | none => rw [hq] at hf; cases hf
  | some q =>
    rw [hq] at hf
    have hl := hM.2 x q hq
    obtain ⟨tag, v, kf, c3⟩ := q
    cases ht : Nat.beq tag 11 with
    | false => simp only [ht, cond_false] at hf; cases hf
    | true =>
      have := Nat.eq_of_beq_eq_true ht
      subst this
      simp only [ht, cond_true] at hf
      cases hf
      have kk := k H locs cells slots hP hL hc hs
      exact lv_ldcw hx hb hown (hW.1 _ hl args) hd kk
theorem cz_ldc2_ok (X : cz_Cx p e R s m meth c K E M d C0 S0) (hM : cz_okM M) {x : Nat} (hd : decode M.2.1.1 pc = .ok (.ldc2_w x, 3)) (hf : cz_hldc2 M x pc st h = some S)
    (hP : cz_HP cz_cl K E h H) (hL : ∀ y ∈ locs, E.2 ≤ y.base) (hc : C0 + cells = h.1) (hs : S0 + slots = h.2.1) (k : cz_Go p l e R s m args below meth c Q K E C0 S0 ls S) :
    W p l e R s m args below meth c H locs cells slots Q (F0 m pc ls (st.map (cz_v E))) := by
  obtain ⟨hx, -, hb, -, -, -, hnm, hown, -, hW, hRc, hRs, -⟩ := X
  unfold cz_hldc2 at hf
  cases hq : cz_lk M x with
  | none => rw [hq] at hf; cases hf
  | some q =>
    rw [hq] at hf
    have hl := hM.2 x q hq
    obtain ⟨tag, v, kf, c3⟩ := q
    cases ht : Nat.beq tag 15 with
    | false => simp only [ht, cond_false] at hf; cases hf
    | true =>
      have := Nat.eq_of_beq_eq_true ht
      subst this
      simp only [ht, cond_true] at hf
      cases hf
      have kk := k H locs cells slots hP hL hc hs
      exact lv_ldc2 hx hb hown (hW.1 _ hl args) hd kk
theorem cz_cat2_ok (E : cz_E) (st : List cz_V) : ((st.map (cz_v E)).map fun v => v.category).sum = cz_cat2 st := by
  unfold cz_cat2
  rw [List.map_map]
  congr 1
  apply List.map_congr_left
  intro v _
  obtain a | a | a := v
  · rfl
  · rfl
  · cases a <;> rfl
theorem cz_cat2_le (st : List cz_V) : cz_cat2 st ≤ 2 * st.length := by
  induction st with
  | nil => exact Nat.le_refl _
  | cons v r ih =>
    have h1 : cz_cat2 (v :: r) ≤ 2 + cz_cat2 r := by
      unfold cz_cat2
      rw [List.map_cons, List.sum_cons]
      obtain a | a | a := v
      · exact Nat.add_le_add_right (by decide : 1 ≤ 2) _
      · exact Nat.le_refl _
      · exact Nat.add_le_add_right (by decide : 1 ≤ 2) _
    rw [List.length_cons]
    omega
theorem cz_obj0_ok (X : cz_Cx p e R s m meth c K E M d C0 S0) (hM : cz_okM M) {x : Nat} (hsz : ls.size = M.2.1.2.1) (hd : decode M.2.1.1 pc = .ok (.invokespecial x, 3)) (hf : cz_hobj M d x pc st h = some S)
    (hP : cz_HP cz_cl K E h H) (hL : ∀ y ∈ locs, E.2 ≤ y.base) (hc : C0 + cells = h.1) (hs : S0 + slots = h.2.1) (k : cz_Go p l e R s m args below meth c Q K E C0 S0 ls S) :
    W p l e R s m args below meth c H locs cells slots Q (F0 m pc ls (st.map (cz_v E))) := by
  obtain ⟨hx, -, hb, hml, -, -, hnm, hown, -, hW, hRc, hRs, hRf, hRl, -⟩ := X
  unfold cz_hobj at hf
  split at hf
  · rename_i r rest
    cases hq : cz_lk M x with
    | none => rw [hq] at hf; cases hf
    | some q =>
      rw [hq] at hf
      have hl := hM.2 x q hq
      obtain ⟨tag, v, kf, c3⟩ := q
      cases ht : (Nat.beq tag 6 && (Nat.blt 0 d && Nat.ble rest.length 20)) with
      | false => simp only [ht, cond_false] at hf; cases hf
      | true =>
        simp only [ht, cond_true] at hf
        cases hf
        simp only [Bool.and_eq_true, Nat.blt_eq, Nat.ble_eq] at ht
        have := Nat.eq_of_beq_eq_true ht.1
        subst this
        obtain ⟨a1, a2, a3⟩ := hl
        have kk := k H locs cells slots hP hL hc hs
        refine W.objInit hx hb hown (hW.1 _ a1 args) (hW.1 _ a2 args) (hW.1 _ a3 args) rfl (hsz.trans hml.symm) rfl hd (by omega) ?_ kk
        show 2 * 0 + _ + 12 ≤ _
        rw [cz_cat2_ok]
        have := cz_cat2_le rest
        have : d * 100 ≥ 100 := Nat.mul_le_mul_right 100 ht.2.1
        omega
  · cases hf
end CzArr
/-! L1's soundness: arraycopy. -/
section CzCpy
variable {p : Program} {l : Launch} {e : Env} {R : Room} {s : State} {m : MethodId} {args : Array Value} {below : List Frame} {meth : Method} {c : Code} {H : Heap} {locs : List Loc} {cells slots : Nat} {Q : State → Prop}
variable {K : cz_K} {E : cz_E} {M : cz_M} {d C0 S0 pc : Nat} {ls : Array Slot} {h : cz_H} {st : List cz_V} {S : cz_N}
theorem cz_cpy_ok (X : cz_Cx p e R s m meth c K E M d C0 S0) (hM : cz_okM M) {x : Nat} (hsz : ls.size = M.2.1.2.1) (hd : decode M.2.1.1 pc = .ok (.invokestatic x, 3)) (hf : cz_hcpy M d x pc st h = some S)
    (hP : cz_HP cz_cl K E h H) (hL : ∀ y ∈ locs, E.2 ≤ y.base) (hc : C0 + cells = h.1) (hs : S0 + slots = h.2.1) (k : cz_Go p l e R s m args below meth c Q K E C0 S0 ls S) :
    W p l e R s m args below meth c H locs cells slots Q (F0 m pc ls (st.map (cz_v E))) := by
  obtain ⟨hx, -, hb, hml, -, -, hnm, hown, -, hW, hRc, hRs, hRf, hRl, -⟩ := X
  unfold cz_hcpy at hf
  split at hf
  · rename_i n dp r2 sp r1 rest
    cases hq : cz_lk M x with
    | none => rw [hq] at hf; cases hf
    | some q =>
      rw [hq] at hf
      have hl := hM.2 x q hq
      obtain ⟨tag, v, kf, c3⟩ := q
      cases ht : (Nat.beq tag 13 && (Nat.blt 0 d && Nat.ble rest.length 20)) with
      | false => simp only [ht, cond_false] at hf; cases hf
      | true =>
        simp only [ht, cond_true] at hf
        simp only [Bool.and_eq_true, Nat.blt_eq, Nat.ble_eq] at ht
        obtain ⟨ht, hd0, hlen⟩ := ht
        have := Nat.eq_of_beq_eq_true ht
        subst this
        obtain ⟨a1, a2, a3, a4⟩ := hl
        split at hf
        · rename_i c1 c2 hc1 hc2
          cases hz : ((Nat.beq c1.1 c2.1 && Nat.ble c1.1 1 && Nat.ble 192 r2) && (decide (0 ≤ n.toInt) && decide (0 ≤ dp.toInt) && decide (0 ≤ sp.toInt)) && (Nat.ble (sp.toNatClampNeg + n.toNatClampNeg) c1.2.1 && Nat.ble (dp.toNatClampNeg + n.toNatClampNeg) c2.2.1) && (List.range n.toNatClampNeg).all (fun i => cz_fitc (bif Nat.beq c1.1 0 then 4 else 0) (c1.2.2 (sp.toNatClampNeg + i)))) with
          | false => rw [hz] at hf; cases hf
          | true =>
            rw [hz] at hf
            cases hf
            simp only [Bool.and_eq_true, decide_eq_true_eq, Nat.ble_eq] at hz
            obtain ⟨⟨⟨⟨⟨z1, z2⟩, z3⟩, ⟨z4, z5⟩, z6⟩, z7, z8⟩, z9⟩ := hz
            have z1 := Nat.eq_of_beq_eq_true z1
            obtain ⟨u1, u2, ⟨sc, u3, v2, v3, v4, v5⟩, -⟩ := cz_arr_ok hW hP hc1
            obtain ⟨w1, w2, -, w3⟩ := cz_arr_ok hW hP hc2
            have w3 := w3 z3
            have hty : ∃ ty : FieldType, cz_ty[c1.1]? = some ty ∧ cz_tcode ty = (bif Nat.beq c1.1 0 then 4 else 0) ∧ ((refKind ty != refKind ty) || (!refKind ty && ty != ty)) = false := by
              have h01 : c1.1 = 0 ∨ c1.1 = 1 := by omega
              rcases h01 with h01 | h01
              · exact ⟨.byte, by rw [h01]; rfl, by rw [h01]; rfl, by decide⟩
              · exact ⟨.int, by rw [h01]; rfl, by rw [h01]; rfl, by decide⟩
            obtain ⟨ty, t1, tc, tr⟩ := hty
            have t2 : cz_ty[c2.1]? = some ty := by rw [← z1]; exact t1
            have nn : ∀ z : Int32, 0 ≤ z.toInt → z.toInt = (z.toNatClampNeg : Int) := fun z hz => by
              show z.toInt = ((z.toInt.toNat : Nat) : Int)
              omega
            have n0 : ∀ z : Int32, 0 ≤ z.toInt → ¬ z < 0 := fun z hz => by
              rw [Int32.lt_iff_toInt_lt]
              show ¬ z.toInt < 0
              omega
            intro T hT X0
            obtain ⟨v6, k0, hk0, cm0, hkk0⟩ := v2 ty t1
            obtain ⟨-, k1, hk1, cm1, hkk1⟩ := (hW.2.2.1 c2.1 _ t2).1 c2.2.1 (fun j => cz_v E (c2.2.2 j))
            obtain ⟨vm', X', step⟩ := X0.arraycopy hx hown (hW.1 _ a1 args) (hW.1 _ a2 args) (hW.1 _ a3 args) (hW.1 _ a4 args) (src := cz_ad E r1) (dst := cz_ad E r2) (srcPos := sp) (destPos := dp) (n := n) (by rw [hT]; exact u3) (by rw [hT]; exact w3)
              v6 (fun _ h => by cases h) v3 (fun h => by cases h) hk0 hk1 hkk0 hkk1 tr (n0 sp z6) (n0 dp z5) (n0 n z4)
              (by rw [nn sp z6, nn n z4, v4]; omega) (by rw [nn dp z5, nn n z4, arrV_size]; omega)
              (fun vm₁ _ i hi => by
                have e1 : sc.slots.getD (sp.toNatClampNeg + i) .null = cz_v E (c1.2.2 (sp.toNatClampNeg + i)) := by
                  rw [Array.getD_eq_getD_getElem?, v5 _ (by omega)]
                  rfl
                have e2 := List.all_eq_true.mp z9 i (List.mem_range.mpr hi)
                rw [← tc] at e2
                refine ⟨?_, ?_⟩
                · rw [e1]; exact (cz_fit_ok E e2).2
                · rw [e1]
                  have h01 : ty = .byte ∨ ty = .int := by
                    have h01 : c1.1 = 0 ∨ c1.1 = 1 := by omega
                    rcases h01 with h01 | h01
                    · exact Or.inl (Option.some.inj (t1.symm.trans (by rw [h01]; rfl)))
                    · exact Or.inr (Option.some.inj (t1.symm.trans (by rw [h01]; rfl)))
                  rcases h01 with rfl | rfl
                  all_goals
                    cases hv : c1.2.2 (sp.toNatClampNeg + i) with
                    | inl a => exact trivial
                    | inr a => rw [hv] at e2; cases a <;> cases e2)
              (g := F0 m pc ls ((.inl n :: .inl dp :: .inr (.inr (some r2)) :: .inl sp :: .inr (.inr (some r1)) :: rest : List cz_V).map (cz_v E))) rfl (hsz.trans hml.symm) (rest := rest.map (cz_v E)) rfl (by rw [hb]; exact hd) (by omega)
              (by show 2 * 0 + _ + _ ≤ _
                  rw [cz_cat2_ok]
                  have := cz_cat2_le rest
                  have : d * 100 ≥ 100 := Nat.mul_le_mul_right 100 hd0
                  have : nativeFrameWords "java/lang/System" "arraycopy" 5 + 11 ≤ 50 := by decide
                  omega)
            have e1 : copied sc (arrV (K.2.1 c2.1) c2.2.1 (fun j => cz_v E (c2.2.2 j))) sp dp n = arrV (K.2.1 c2.1) c2.2.1 (fun j => cz_v E (va_cpy c1.2.2 c2.2.2 sp.toNatClampNeg dp.toNatClampNeg n.toNatClampNeg j)) :=
              va_copiedX (fun z : cz_V => cz_v E z) sc (K.2.1 c2.1) c1.2.2 c2.2.2 v5 z7
            rw [e1] at X' step
            have hlt : cz_ad E r2 < H.size := (Array.getElem?_eq_some_iff.mp w3).1
            have hheap : ((T.setVm vm').setCell (cz_ad E r2) (arrV (K.2.1 c2.1) c2.2.1 (fun j => cz_v E (va_cpy c1.2.2 c2.2.2 sp.toNatClampNeg dp.toNatClampNeg n.toNatClampNeg j)))).heap = H.setIfInBounds (cz_ad E r2) (arrV (K.2.1 c2.1) c2.2.1 (fun j => cz_v E (va_cpy c1.2.2 c2.2.2 sp.toNatClampNeg dp.toNatClampNeg n.toNatClampNeg j))) := by
              rw [← hT]; rfl
            have hP' : cz_HP cz_cl K E (cz_setc h r2 (.inl (c2.1, c2.2.1, va_cpy c1.2.2 c2.2.2 sp.toNatClampNeg dp.toNatClampNeg n.toNatClampNeg))) (H.setIfInBounds (cz_ad E r2) (arrV (K.2.1 c2.1) c2.2.1 (fun j => cz_v E (va_cpy c1.2.2 c2.2.2 sp.toNatClampNeg dp.toNatClampNeg n.toNatClampNeg j)))) := by
              refine hP.set z3 w1.1 ?_ (Array.size_setIfInBounds ..) (fun q hq => ?_)
              · show (H.setIfInBounds _ _)[cz_ad E r2]? = _
                rw [Array.getElem?_setIfInBounds, if_pos rfl, if_pos hlt]
              · rw [Array.getElem?_setIfInBounds, if_neg (fun w => hq w.symm)]
            obtain ⟨t, a1, b1⟩ := k _ _ cells slots hP' (by
              intro y hy
              rcases List.mem_append.mp hy with hy | hy
              · exact hL y hy
              · obtain ⟨z, -, rfl⟩ := List.mem_map.mp hy
                show E.2 ≤ cz_ad E r2
                rw [cz_ad_new E z3]; omega) hc hs _ hheap X'
            exact ⟨t, step t a1, b1⟩
        · cases hf
  · cases hf
end CzCpy
/-! L1's soundness: how a method ends, how one goes into a callee and comes back. (Written by wip/p2/mk10.py.) -/
def cz_outc (E : cz_E) (r : Option cz_V ⊕ Nat) (o : Outcome) : Prop := match r with
  | .inl v => o = .returned (v.map (cz_v E))
  | .inr x => o = .threw (cz_ad E x)
def cz_Q (K : cz_K) (E : cz_E) (C0 S0 : Nat) (s : State) (below : List Frame) (q : cz_F) : State → Prop := fun t => ∃ (o : Outcome) (L : List Loc) (k n : Nat),
  t.status = .running ∧ Ended t below o ∧ s.WarmedH t.vm ∧ s.sameButNew ({ t with vm := s.vm } : State) L k n ∧ (∀ y ∈ L, E.2 ≤ y.base) ∧ C0 + k = q.2.1 ∧ S0 + n = q.2.2.1 ∧ cz_HP cz_cl K E q.2 t.heap ∧ cz_outc E q.1 o
theorem cz_wk {tb : Tables} {e : Env} {f : Frame} {below : List Frame} {a b : State} (h : Steps tb e (f :: below) a b) : Steps tb e below a b := by
  obtain ⟨n, h1, h2⟩ := h
  exact ⟨n, h1, fun k hk => Within.weaken (mid := [f]) (h2 k hk)⟩
section CzEnds
variable {p : Program} {l : Launch} {e : Env} {R : Room} {s : State} {m : MethodId} {args : Array Value} {below : List Frame} {meth : Method} {c : Code} {H : Heap} {locs : List Loc} {cells slots : Nat} {Q Q' : State → Prop}
variable {K : cz_K} {E : cz_E} {M : cz_M} {d C0 S0 pc : Nat} {ls : Array Slot} {h : cz_H} {st : List cz_V}
theorem cz_Wmono {g : JFrame} (hq : ∀ t, Q t → Q' t) (k : W p l e R s m args below meth c H locs cells slots Q g) : W p l e R s m args below meth c H locs cells slots Q' g := by
  intro T hT X
  obtain ⟨t, a, b⟩ := k T hT X
  exact ⟨t, a, hq t b⟩
theorem cz_ofMQ {o : Outcome} {v : Option cz_V} (ho : o = .returned (v.map (cz_v E))) (hP : cz_HP cz_cl K E h H) (hL : ∀ y ∈ locs, E.2 ≤ y.base) (hc : C0 + cells = h.1) (hs : S0 + slots = h.2.1) {free : Addr → Prop} (hfree : ∀ q, free q → E.2 ≤ q) {t : State}
    (hq : MQ below (fun _ _ o' t => t.heap = H ∧ o' = o) args s cells slots free t) : cz_Q K E C0 S0 s below (.inl v, h) t := by
  obtain ⟨o', h1, h2, ⟨h3, h4⟩, L, ⟨-, h5, h6⟩, h7⟩ := hq
  subst h4
  exact ⟨o', L, cells, slots, h1, h2, h5, h6, fun y hy => hfree _ (h7 y hy), hc, hs, by rw [h3]; exact hP, ho⟩
theorem cz_ret_ok (X : cz_Cx p e R s m meth c K E M d C0 S0) {i : Instr} (hd : decode M.2.1.1 pc = .ok (i, cz_len i)) {v : Option cz_V} (hf : cz_ret i M.2.1.2.2.1 st = some v)
    (hP : cz_HP cz_cl K E h H) (hL : ∀ y ∈ locs, E.2 ≤ y.base) (hc : C0 + cells = h.1) (hs : S0 + slots = h.2.1) :
    W p l e R s m args below meth c H locs cells slots (cz_Q K E C0 S0 s below (.inl v, h)) (F0 m pc ls (st.map (cz_v E))) := by
  obtain ⟨hx, -, hb, hml, hr, hlk, -⟩ := X
  unfold cz_ret at hf
  split at hf
  · split at hf
    · rename_i ht
      cases hf
      rw [ht] at hr
      exact cz_Wmono (fun t ht => cz_ofMQ (v := none) rfl hP hL hc hs (fun _ h => h) ht) (W.vret (Qc := fun _ _ o' t => t.heap = H ∧ o' = .returned none) (free := fun q => E.2 ≤ q) hx hb hr (fun t ht _ => ⟨ht, rfl⟩) hL hd hlk)
    · cases hf
  · rename_i a
    have small : ∀ ty : FieldType, M.2.1.2.2.1 = some ty → narrow ty (.int a) = .int a → W p l e R s m args below meth c H locs cells slots (cz_Q K E C0 S0 s below (.inl (some (.inl a)), h)) (F0 m pc ls [.int a]) := fun ty ht hn => by
      rw [ht] at hr
      exact cz_Wmono (fun t ht => cz_ofMQ (v := some (.inl a)) rfl hP hL hc hs (fun _ h => h) ht) (W.zret (v := a) (ty := ty) (Qc := fun _ _ o' t => t.heap = H ∧ o' = .returned (some (.int a))) (free := fun q => E.2 ≤ q) hx hb hr hn (fun t ht _ => ⟨ht, rfl⟩) hL hd hlk)
    split at hf
    · rename_i ht
      cases hf
      rw [ht] at hr
      exact cz_Wmono (fun t ht => cz_ofMQ (v := some (.inl a)) rfl hP hL hc hs (fun _ h => h) ht) (W.iret (v := a) (Qc := fun _ _ o' t => t.heap = H ∧ o' = .returned (some (.int a))) (free := fun q => E.2 ≤ q) hx hb hr (fun t ht _ => ⟨ht, rfl⟩) hL hd hlk)
    · rename_i ht
      cases hn : (decide (a = 0) || decide (a = 1)) with
      | false => rw [hn] at hf; cases hf
      | true =>
        rw [hn] at hf
        cases hf
        exact small .boolean ht (cz_fit_ok (t := .boolean) (v := .inl a) E hn).1
    · rename_i ht
      cases hn : decide (a.toInt8.toInt32 = a) with
      | false => rw [hn] at hf; cases hf
      | true =>
        rw [hn] at hf
        cases hf
        exact small .byte ht (cz_fit_ok (t := .byte) (v := .inl a) E hn).1
    · rename_i ht
      cases hn : decide (a.toUInt32.toUInt16.toUInt32.toInt32 = a) with
      | false => rw [hn] at hf; cases hf
      | true =>
        rw [hn] at hf
        cases hf
        exact small .char ht (by show Value.int _ = Value.int a; rw [of_decide_eq_true hn])
    · cases hf
  · rename_i a
    split at hf
    · rename_i ht
      cases hf
      rw [ht] at hr
      exact cz_Wmono (fun t ht => cz_ofMQ (v := some (.inr (.inl a))) rfl hP hL hc hs (fun _ h => h) ht) (W.lret (v := a) (Qc := fun _ _ o' t => t.heap = H ∧ o' = .returned (some (.long a))) (free := fun q => E.2 ≤ q) hx hb hr (fun t ht _ => ⟨ht, rfl⟩) hL hd hlk)
    · cases hf
  · rename_i a
    have hv : cz_v E (.inr (.inr a)) = .null ∨ ∃ b, cz_v E (.inr (.inr a)) = .ref b := by
      cases a with
      | none => exact Or.inl rfl
      | some r => exact Or.inr ⟨_, rfl⟩
    have big : ∀ ty : FieldType, M.2.1.2.2.1 = some ty → ((∃ n, ty = .object n) ∨ ∃ t, ty = .array t) → W p l e R s m args below meth c H locs cells slots (cz_Q K E C0 S0 s below (.inl (some (.inr (.inr a))), h)) (F0 m pc ls [cz_v E (.inr (.inr a))]) := fun ty ht hn => by
      rw [ht] at hr
      exact cz_Wmono (fun t ht => cz_ofMQ (v := some (.inr (.inr a))) rfl hP hL hc hs (fun _ h => h) ht) (W.aret (v := cz_v E (.inr (.inr a))) (Qc := fun _ _ o' t => t.heap = H ∧ o' = .returned (some (cz_v E (.inr (.inr a))))) (free := fun q => E.2 ≤ q) hx hb hr hn hv (fun t ht _ => ⟨ht, rfl⟩) hL hd hlk)
    split at hf
    · rename_i n ht
      cases hf
      exact big _ ht (Or.inl ⟨n, rfl⟩)
    · rename_i n ht
      cases hf
      exact big _ ht (Or.inr ⟨n, rfl⟩)
    · cases hf
  · cases hf
/-- into a callee: what its walk comes to, the caller's walk comes to -/
theorem cz_enter {T : State} (X : Stand p l e R s m args below meth c T locs cells slots) {g : JFrame} (hg : g.method = m) (hsize : g.locals.size = c.maxLocals) {ig : Instr} (hdg : decode c.code g.pc = .ok (ig, 3))
    {mk : MethodId} {methk : Method} {ck : Code} (a : List Value) {R' : Room} (hmk : T.vm.method? mk = some methk) (hck : methk.code = some ck) (hlk : methk.locks = false) (hpk : T.plainMethod mk)
    (hframes : R'.frames + 1 ≤ R.frames) (hlocals : 2 * g.monitorRoom + (g.stack.map fun v => v.category).sum + (ck.maxLocals + 11) + R'.locals ≤ R.locals) (hcells : cells + R'.cells ≤ R.cells) (hslots : slots + R'.slots ≤ R.slots)
    (hW : W p l e R' (T.calling g mk a.toArray) mk a.toArray (.java g :: below) methk ck T.heap [] 0 0 Q (entryFrame mk a.toArray ck.maxLocals)) :
    ∃ t, Steps p.tables e below (doInvoke e (T.setTop g) [] mk a.toArray).1 t ∧ Q t := by
  obtain ⟨X2, hdo⟩ := X.into hg hsize hdg a.toArray hmk hck hlk hpk hframes hlocals hcells hslots
  obtain ⟨t, h1, h2⟩ := hW ((T.setTop g).pushFrame (.java (entryFrame mk a.toArray ck.maxLocals))) (by simp [State.pushFrame, State.setFrames, State.setTop, State.modifyTopJava]) X2
  exact ⟨t, by rw [hdo []]; exact cz_wk h1, h2⟩
end CzEnds
