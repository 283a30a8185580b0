/-! Soundness, part 4: arrays read and written, constants, Object's constructor, a copy of nothing. -/
section CzArr
variable {p : Program} {l : Launch} {e : Env} {R : Room} {s : State} {m : MethodId} {args : Array Value} {below : List Frame} {meth : Method} {c : Code} {H : Heap} {locs : List Loc} {cells slots : Nat} {Q : State → Prop}
variable {K : cz_K} {E : cz_E} {M : cz_M} {d C0 S0 pc : Nat} {ls : Array Slot} {h : cz_H} {st : List cz_V} {S : cz_N}
theorem cz_ial_ok (X : cz_Cx p e R s m meth c K E M d C0 S0) (hd : decode M.2.1.1 pc = .ok (.iaload, 1)) (hf : cz_hal (fun t => Nat.beq t 1) pc st h = some S)
    (hP : cz_HP cz_cl K E h H) (hL : ∀ y ∈ locs, E.2 ≤ y.base) (hc : C0 + cells = h.1) (hs : S0 + slots = h.2.1) (k : cz_Go p l e R s m args below meth c Q K E C0 S0 ls S) :
    W p l e R s m args below meth c H locs cells slots Q (F0 m pc ls (st.map (cz_v E))) := by
  have X' := X
  obtain ⟨hx, -, hb, -, -, -, hnm, hown, -, hW, hRc, hRs, -⟩ := X
  unfold cz_hal at hf
  split at hf
  · rename_i a r rest
    refine cz_aload_ok X' rfl hf hP hL hc hs (fun q hq hok h3 i1 kk => ?_) k
    have hlt : a.toNatClampNeg < q.2.1 := Nat.not_le.mp fun w => i1 (Or.inr w)
    have ht : cz_ty[q.1]? = some .int := by rw [Nat.eq_of_beq_eq_true hok]; rfl
    obtain ⟨cell, g1, g2, g3, g4, g5⟩ := h3
    exact W.iald hx hb g1 (g2 _ ht) g3 (by rw [g4]; exact i1) (g5 _ hlt) rfl rfl hd kk
  · cases hf
theorem cz_lal_ok (X : cz_Cx p e R s m meth c K E M d C0 S0) (hd : decode M.2.1.1 pc = .ok (.laload, 1)) (hf : cz_hal (fun t => Nat.beq t 2) pc st h = some S)
    (hP : cz_HP cz_cl K E h H) (hL : ∀ y ∈ locs, E.2 ≤ y.base) (hc : C0 + cells = h.1) (hs : S0 + slots = h.2.1) (k : cz_Go p l e R s m args below meth c Q K E C0 S0 ls S) :
    W p l e R s m args below meth c H locs cells slots Q (F0 m pc ls (st.map (cz_v E))) := by
  have X' := X
  obtain ⟨hx, -, hb, -, -, -, hnm, hown, -, hW, hRc, hRs, -⟩ := X
  unfold cz_hal at hf
  split at hf
  · rename_i a r rest
    refine cz_aload_ok X' rfl hf hP hL hc hs (fun q hq hok h3 i1 kk => ?_) k
    have hlt : a.toNatClampNeg < q.2.1 := Nat.not_le.mp fun w => i1 (Or.inr w)
    have ht : cz_ty[q.1]? = some .long := by rw [Nat.eq_of_beq_eq_true hok]; rfl
    obtain ⟨cell, g1, g2, g3, g4, g5⟩ := h3
    exact W.lald hx hb g1 (g2 _ ht) g3 (by rw [g4]; exact i1) (g5 _ hlt) rfl rfl hd kk
  · cases hf
theorem cz_bal_ok (X : cz_Cx p e R s m meth c K E M d C0 S0) (hd : decode M.2.1.1 pc = .ok (.baload, 1)) (hf : cz_hal (fun t => Nat.beq t 0 || Nat.beq t 3) pc st h = some S)
    (hP : cz_HP cz_cl K E h H) (hL : ∀ y ∈ locs, E.2 ≤ y.base) (hc : C0 + cells = h.1) (hs : S0 + slots = h.2.1) (k : cz_Go p l e R s m args below meth c Q K E C0 S0 ls S) :
    W p l e R s m args below meth c H locs cells slots Q (F0 m pc ls (st.map (cz_v E))) := by
  have X' := X
  obtain ⟨hx, -, hb, -, -, -, hnm, hown, -, hW, hRc, hRs, -⟩ := X
  unfold cz_hal at hf
  split at hf
  · rename_i a r rest
    refine cz_aload_ok X' rfl hf hP hL hc hs (fun q hq hok h3 i1 kk => ?_) k
    have hlt : a.toNatClampNeg < q.2.1 := Nat.not_le.mp fun w => i1 (Or.inr w)
    simp only [Bool.or_eq_true] at hok
    rcases hok with hok | hok
    · have ht : cz_ty[q.1]? = some .byte := by rw [Nat.eq_of_beq_eq_true hok]; rfl
      obtain ⟨cell, g1, g2, g3, g4, g5⟩ := h3
      exact W.bald hx hb g1 (g2 _ ht) g3 (by rw [g4]; exact i1) (g5 _ hlt) rfl rfl hd kk
    · have ht : cz_ty[q.1]? = some .boolean := by rw [Nat.eq_of_beq_eq_true hok]; rfl
      obtain ⟨cell, g1, g2, g3, g4, g5⟩ := h3
      exact W.zald hx hb g1 (g2 _ ht) g3 (by rw [g4]; exact i1) (g5 _ hlt) rfl rfl hd kk
  · cases hf
theorem cz_ist_ok (X : cz_Cx p e R s m meth c K E M d C0 S0) (hd : decode M.2.1.1 pc = .ok (.iastore, 1)) (hf : cz_hst cz_pg 1 pc st h = some S)
    (hP : cz_HP cz_cl K E h H) (hL : ∀ y ∈ locs, E.2 ≤ y.base) (hc : C0 + cells = h.1) (hs : S0 + slots = h.2.1) (k : cz_Go p l e R s m args below meth c Q K E C0 S0 ls S) :
    W p l e R s m args below meth c H locs cells slots Q (F0 m pc ls (st.map (cz_v E))) := by
  have X' := X
  obtain ⟨hx, -, hb, -, -, -, hnm, hown, -, hW, hRc, hRs, -⟩ := X
  unfold cz_hst at hf
  split at hf
  · rename_i v a r rest
    obtain w | w | w := v
    · refine cz_astore_ok X' rfl hf hP hL hc hs (fun q hq hok h3 i1 kk => ?_) k
      have ht : cz_ty[q.1]? = some .int := by rw [Nat.eq_of_beq_eq_true hok]; rfl
      exact W.iast hx hb h3 ((hW.2.2.1 q.1 _ ht).1 _ _) (fun w => by cases w) (by rw [arrV_size]; exact i1) rfl rfl hd kk
    · cases hf
    · cases hf
  · cases hf
theorem cz_lst_ok (X : cz_Cx p e R s m meth c K E M d C0 S0) (hd : decode M.2.1.1 pc = .ok (.lastore, 1)) (hf : cz_hst cz_pg 2 pc st h = some S)
    (hP : cz_HP cz_cl K E h H) (hL : ∀ y ∈ locs, E.2 ≤ y.base) (hc : C0 + cells = h.1) (hs : S0 + slots = h.2.1) (k : cz_Go p l e R s m args below meth c Q K E C0 S0 ls S) :
    W p l e R s m args below meth c H locs cells slots Q (F0 m pc ls (st.map (cz_v E))) := by
  have X' := X
  obtain ⟨hx, -, hb, -, -, -, hnm, hown, -, hW, hRc, hRs, -⟩ := X
  unfold cz_hst at hf
  split at hf
  · rename_i v a r rest
    obtain w | w | w := v
    · cases hf
    · refine cz_astore_ok X' rfl hf hP hL hc hs (fun q hq hok h3 i1 kk => ?_) k
      have ht : cz_ty[q.1]? = some .long := by rw [Nat.eq_of_beq_eq_true hok]; rfl
      exact W.last hx hb h3 ((hW.2.2.1 q.1 _ ht).1 _ _) (fun w => by cases w) (by rw [arrV_size]; exact i1) rfl rfl hd kk
    · cases hf
  · cases hf
theorem cz_bst_ok (X : cz_Cx p e R s m meth c K E M d C0 S0) (hd : decode M.2.1.1 pc = .ok (.bastore, 1)) (hf : cz_hst cz_pg 0 pc st h = some S)
    (hP : cz_HP cz_cl K E h H) (hL : ∀ y ∈ locs, E.2 ≤ y.base) (hc : C0 + cells = h.1) (hs : S0 + slots = h.2.1) (k : cz_Go p l e R s m args below meth c Q K E C0 S0 ls S) :
    W p l e R s m args below meth c H locs cells slots Q (F0 m pc ls (st.map (cz_v E))) := by
  have X' := X
  obtain ⟨hx, -, hb, -, -, -, hnm, hown, -, hW, hRc, hRs, -⟩ := X
  unfold cz_hst at hf
  split at hf
  · rename_i v a r rest
    obtain w | w | w := v
    · simp only [] at hf
      split at hf
      · rename_i c0 hc0
        cases h0 : Nat.beq c0.1 0 with
        | true =>
          rw [h0] at hf
          simp only [cond_true] at hf
          refine cz_astore_ok X' rfl hf hP hL hc hs (fun q hq hok h3 i1 kk => ?_) k
          have ht : cz_ty[q.1]? = some .byte := by rw [Nat.eq_of_beq_eq_true hok]; rfl
          exact W.bast hx hb h3 ((hW.2.2.1 q.1 _ ht).1 _ _) (fun w => by cases w) (by rw [arrV_size]; exact i1) rfl rfl hd kk
        | false =>
          rw [h0] at hf
          cases hw : (decide (w = 0) || decide (w = 1)) with
          | false => rw [hw] at hf; cases hf
          | true =>
            rw [hw] at hf
            simp only [cond_true, cond_false] at hf
            refine cz_astore_ok X' rfl hf hP hL hc hs (fun q hq hok h3 i1 kk => ?_) k
            have ht : cz_ty[q.1]? = some .boolean := by rw [Nat.eq_of_beq_eq_true hok]; rfl
            have hn : narrow .boolean (.int w) = .int w := by
              simp only [Bool.or_eq_true, decide_eq_true_eq] at hw
              rcases hw with rfl | rfl <;> rfl
            exact W.zast hx hb h3 ((hW.2.2.1 q.1 _ ht).1 _ _) (fun w => by cases w) (by rw [arrV_size]; exact i1) rfl rfl hd (fun H' f1 f2 f3 => kk H' (by rw [f1, hn]; rfl) f2 f3)
      · cases hf
    · cases hf
    · cases hf
  · cases hf
theorem cz_ty_ref {t : Nat} (h : 4 ≤ t) (h1 : t < 11) : ∃ ty : FieldType, cz_ty[t]? = some ty ∧ ty.isReference = true := by
  have : t = 4 ∨ t = 5 ∨ t = 6 ∨ t = 7 ∨ t = 8 ∨ t = 9 ∨ t = 10 := by omega
  rcases this with rfl | rfl | rfl | rfl | rfl | rfl | rfl <;> exact ⟨_, rfl, rfl⟩
theorem cz_aal_ok (X : cz_Cx p e R s m meth c K E M d C0 S0) (hd : decode M.2.1.1 pc = .ok (.aaload, 1)) (hf : cz_hal (fun t => Nat.ble 4 t) pc st h = some S)
    (hP : cz_HP cz_cl K E h H) (hL : ∀ y ∈ locs, E.2 ≤ y.base) (hc : C0 + cells = h.1) (hs : S0 + slots = h.2.1) (k : cz_Go p l e R s m args below meth c Q K E C0 S0 ls S) :
    W p l e R s m args below meth c H locs cells slots Q (F0 m pc ls (st.map (cz_v E))) := by
  have X' := X
  obtain ⟨hx, -, hb, -, -, -, hnm, hown, -, hW, hRc, hRs, -⟩ := X
  unfold cz_hal at hf
  split at hf
  · rename_i a r rest
    refine cz_aload_ok X' rfl hf hP hL hc hs (fun q hq hok h3 i1 kk => ?_) k
    have hlt : a.toNatClampNeg < q.2.1 := Nat.not_le.mp fun w => i1 (Or.inr w)
    obtain ⟨ty, ht, hr⟩ := cz_ty_ref (Nat.ble_eq.mp hok) (cz_arr_ok hW hP hq).2.1
    obtain ⟨cell, g1, g2, g3, g4, g5⟩ := h3
    exact W.aald hx hb g1 (g2 _ ht) hr g3 (by rw [g4]; exact i1) (g5 _ hlt) rfl rfl hd kk
  · cases hf
theorem cz_td_ok {t : Nat} {k : Nat × Nat} (h : cz_td[t]? = some k) (hk : k.2 < 17) : ∃ (C : String) (T : u_T) (N : Nat), cz_cl[k.2]? = some (C, T, N) ∧ cz_ty[t]? = some (.object C) := by
  have hlt : t < 11 := (List.getElem?_eq_some_iff.mp h).1
  have : t = 0 ∨ t = 1 ∨ t = 2 ∨ t = 3 ∨ t = 4 ∨ t = 5 ∨ t = 6 ∨ t = 7 ∨ t = 8 ∨ t = 9 ∨ t = 10 := by omega
  rcases this with rfl | rfl | rfl | rfl | rfl | rfl | rfl | rfl | rfl | rfl | rfl <;>
    (cases h
     first | exact ⟨_, _, _, rfl, rfl⟩ | exact absurd hk (by decide))
theorem cz_ast_ok (X : cz_Cx p e R s m meth c K E M d C0 S0) (hd : decode M.2.1.1 pc = .ok (.aastore, 1)) (hf : cz_hst cz_pg 3 pc st h = some S)
    (hP : cz_HP cz_cl K E h H) (hL : ∀ y ∈ locs, E.2 ≤ y.base) (hc : C0 + cells = h.1) (hs : S0 + slots = h.2.1) (k : cz_Go p l e R s m args below meth c Q K E C0 S0 ls S) :
    W p l e R s m args below meth c H locs cells slots Q (F0 m pc ls (st.map (cz_v E))) := by
  have X' := X
  obtain ⟨hx, -, hb, -, -, -, hnm, hown, -, hW, hRc, hRs, -⟩ := X
  unfold cz_hst at hf
  split at hf
  · rename_i v a r rest
    obtain w | w | w := v
    · cases hf
    · cases hf
    · refine cz_astore_ok X' rfl hf hP hL hc hs (fun q hq hok h3 i1 kk => ?_) k
      have hlt : a.toNatClampNeg < q.2.1 := Nat.not_le.mp fun w => i1 (Or.inr w)
      have h0 : ¬ a < 0 := fun w => i1 (Or.inl w)
      cases w with
      | none => cases hok
      | some w =>
        unfold cz_elem at hok
        simp only [] at hok
        split at hok
        · rename_i kd hkd
          split at hok
          · rename_i o ho
            have hk2 := Nat.eq_of_beq_eq_true hok
            obtain ⟨o1, ⟨r', g1, cell, q1, q2, q3, q4⟩, -⟩ := cz_obj_ok hP ho
            have hlt13 : kd.2 < 17 := by rw [hk2]; exact (List.getElem?_eq_some_iff.mp g1).1
            obtain ⟨C, T, N, b1, ht⟩ := cz_td_ok hkd hlt13
            have hKn := hW.2.1.1 kd.2 _ b1
            have hfc := hKn.2.1
            obtain ⟨kA, comp, k1, k2, k3, -⟩ := (hW.2.2.1 q.1 _ ht).2
            have hcomp : comp = K.1.1 kd.2 := Option.some.inj (k3.symm.trans hfc)
            subst hcomp
            obtain ⟨kc, hkc⟩ : ∃ kc, s.vm.classes[K.1.1 kd.2]? = some kc := Vm.classAt_of_findClass hfc
            have hcls : cell.cls = K.1.1 kd.2 := by rw [q2, hk2]
            exact W.aast hx hb h3 (fun z w => by cases w) (fun w => by cases w) k1 k2 rfl hkc ⟨h0, by rw [arrV_size]; exact hlt⟩ q1 (fun z w => by have q3 := q3.1; rw [w] at q3; cases q3) (by rw [hcls]; exact hkc) (by rw [hcls]; exact va_asg _ _) rfl rfl hd kk
          · cases hok
        · cases hok
  · cases hf
theorem cz_ldc_ok (X : cz_Cx p e R s m meth c K E M d C0 S0) (hM : cz_okM M) {x : Nat} (hd : decode M.2.1.1 pc = .ok (.ldc x, 2)) (hf : cz_hldc 2 M x pc st h = some S)
    (hP : cz_HP cz_cl K E h H) (hL : ∀ y ∈ locs, E.2 ≤ y.base) (hc : C0 + cells = h.1) (hs : S0 + slots = h.2.1) (k : cz_Go p l e R s m args below meth c Q K E C0 S0 ls S) :
    W p l e R s m args below meth c H locs cells slots Q (F0 m pc ls (st.map (cz_v E))) := by
  obtain ⟨hx, -, hb, -, -, -, hnm, hown, -, hW, hRc, hRs, -⟩ := X
  unfold cz_hldc at hf
  cases hq : cz_lk M x with
  | none => rw [hq] at hf; cases hf
  | some q =>
    rw [hq] at hf
    have hl := hM.2 x q hq
    obtain ⟨tag, v, kf, c3⟩ := q
    cases ht : Nat.beq tag 11 with
    | true =>
      have := Nat.eq_of_beq_eq_true ht
      subst this
      simp only [ht, cond_true] at hf
      cases hf
      have kk := k H locs cells slots hP hL hc hs
      exact lv_ldc hx hb hown (hW.1 _ hl args) hd kk
    | false =>
      cases ht2 : Nat.beq tag 12 with
      | false => simp only [ht, ht2, cond_false] at hf; cases hf
      | true =>
        have := Nat.eq_of_beq_eq_true ht2
        subst this
        simp only [ht, ht2, cond_true, cond_false] at hf
        cases hf
        obtain ⟨a1, a2, t, a3⟩ := hl
        have a1 : 1 ≤ v := a1
        have a2 : v < 64 := a2
        have a3 : cz_str[v - 1]? = some (M.1.cls, x, t) := a3
        have kk := k H locs cells slots hP hL hc hs
        have h9 := hW.2.2.2.2.2.1 (v - 1) _ a3
        have e0 : cz_ad E v = E.1 (v - 1 + 1) := by
          unfold cz_ad
          rw [if_pos (by omega), Nat.sub_add_cancel a1]
        have kk : W p l e R s m args below meth c H locs cells slots Q (F0 m (pc + 2) ls (.ref (cz_ad E v) :: st.map (cz_v E))) := kk
        rw [e0] at kk
        exact va_ldcS hx hb hown h9 hd kk
theorem cz_ldcw_ok (X : cz_Cx p e R s m meth c K E M d C0 S0) (hM : cz_okM M) {x : Nat} (hd : decode M.2.1.1 pc = .ok (.ldc_w x, 3)) (hf : cz_hldcw M x pc st h = some S)
    (hP : cz_HP cz_cl K E h H) (hL : ∀ y ∈ locs, E.2 ≤ y.base) (hc : C0 + cells = h.1) (hs : S0 + slots = h.2.1) (k : cz_Go p l e R s m args below meth c Q K E C0 S0 ls S) :
    W p l e R s m args below meth c H locs cells slots Q (F0 m pc ls (st.map (cz_v E))) := by
  obtain ⟨hx, -, hb, -, -, -, hnm, hown, -, hW, hRc, hRs, -⟩ := X
  unfold cz_hldcw at hf
  cases hq : cz_lk M x with
  | none => rw [hq] at hf; cases hf
  | some q =>
    rw [hq] at hf
    have hl := hM.2 x q hq
    obtain ⟨tag, v, kf, c3⟩ := q
    cases ht : Nat.beq tag 11 with
    | false => simp only [ht, cond_false] at hf; cases hf
    | true =>
      have := Nat.eq_of_beq_eq_true ht
      subst this
      simp only [ht, cond_true] at hf
      cases hf
      have kk := k H locs cells slots hP hL hc hs
      exact lv_ldcw hx hb hown (hW.1 _ hl args) hd kk
theorem cz_ldc2_ok (X : cz_Cx p e R s m meth c K E M d C0 S0) (hM : cz_okM M) {x : Nat} (hd : decode M.2.1.1 pc = .ok (.ldc2_w x, 3)) (hf : cz_hldc2 M x pc st h = some S)
    (hP : cz_HP cz_cl K E h H) (hL : ∀ y ∈ locs, E.2 ≤ y.base) (hc : C0 + cells = h.1) (hs : S0 + slots = h.2.1) (k : cz_Go p l e R s m args below meth c Q K E C0 S0 ls S) :
    W p l e R s m args below meth c H locs cells slots Q (F0 m pc ls (st.map (cz_v E))) := by
  obtain ⟨hx, -, hb, -, -, -, hnm, hown, -, hW, hRc, hRs, -⟩ := X
  unfold cz_hldc2 at hf
  cases hq : cz_lk M x with
  | none => rw [hq] at hf; cases hf
  | some q =>
    rw [hq] at hf
    have hl := hM.2 x q hq
    obtain ⟨tag, v, kf, c3⟩ := q
    cases ht : Nat.beq tag 15 with
    | false => simp only [ht, cond_false] at hf; cases hf
    | true =>
      have := Nat.eq_of_beq_eq_true ht
      subst this
      simp only [ht, cond_true] at hf
      cases hf
      have kk := k H locs cells slots hP hL hc hs
      exact lv_ldc2 hx hb hown (hW.1 _ hl args) hd kk
theorem cz_cat2_ok (E : cz_E) (st : List cz_V) : ((st.map (cz_v E)).map fun v => v.category).sum = cz_cat2 st := by
  unfold cz_cat2
  rw [List.map_map]
  congr 1
  apply List.map_congr_left
  intro v _
  obtain a | a | a := v
  · rfl
  · rfl
  · cases a <;> rfl
theorem cz_cat2_le (st : List cz_V) : cz_cat2 st ≤ 2 * st.length := by
  induction st with
  | nil => exact Nat.le_refl _
  | cons v r ih =>
    have h1 : cz_cat2 (v :: r) ≤ 2 + cz_cat2 r := by
      unfold cz_cat2
      rw [List.map_cons, List.sum_cons]
      obtain a | a | a := v
      · exact Nat.add_le_add_right (by decide : 1 ≤ 2) _
      · exact Nat.le_refl _
      · exact Nat.add_le_add_right (by decide : 1 ≤ 2) _
    rw [List.length_cons]
    omega
theorem cz_obj0_ok (X : cz_Cx p e R s m meth c K E M d C0 S0) (hM : cz_okM M) {x : Nat} (hsz : ls.size = M.2.1.2.1) (hd : decode M.2.1.1 pc = .ok (.invokespecial x, 3)) (hf : cz_hobj M d x pc st h = some S)
    (hP : cz_HP cz_cl K E h H) (hL : ∀ y ∈ locs, E.2 ≤ y.base) (hc : C0 + cells = h.1) (hs : S0 + slots = h.2.1) (k : cz_Go p l e R s m args below meth c Q K E C0 S0 ls S) :
    W p l e R s m args below meth c H locs cells slots Q (F0 m pc ls (st.map (cz_v E))) := by
  obtain ⟨hx, -, hb, hml, -, -, hnm, hown, -, hW, hRc, hRs, hRf, hRl, -⟩ := X
  unfold cz_hobj at hf
  split at hf
  · rename_i r rest
    cases hq : cz_lk M x with
    | none => rw [hq] at hf; cases hf
    | some q =>
      rw [hq] at hf
      have hl := hM.2 x q hq
      obtain ⟨tag, v, kf, c3⟩ := q
      cases ht : (Nat.beq tag 6 && (Nat.blt 0 d && Nat.ble rest.length 20)) with
      | false => simp only [ht, cond_false] at hf; cases hf
      | true =>
        simp only [ht, cond_true] at hf
        cases hf
        simp only [Bool.and_eq_true, Nat.blt_eq, Nat.ble_eq] at ht
        have := Nat.eq_of_beq_eq_true ht.1
        subst this
        obtain ⟨a1, a2, a3⟩ := hl
        have kk := k H locs cells slots hP hL hc hs
        refine W.objInit hx hb hown (hW.1 _ a1 args) (hW.1 _ a2 args) (hW.1 _ a3 args) rfl (hsz.trans hml.symm) rfl hd (by omega) ?_ kk
        show 2 * 0 + _ + 12 ≤ _
        rw [cz_cat2_ok]
        have := cz_cat2_le rest
        have : d * 100 ≥ 100 := Nat.mul_le_mul_right 100 ht.2.1
        omega
  · cases hf
end CzArr
