/-! Soundness, part 4: arrays read and written, constants, Object's constructor, a copy of nothing. -/
section PxArr
variable {p : Program} {l : Launch} {e : Env} {R : Room} {s : State} {m : MethodId} {args : Array Value} {below : List Frame} {meth : Method} {c : Code} {H : Heap} {locs : List Loc} {cells slots : Nat} {Q : State → Prop}
variable {K : px_K} {E : px_E} {M : px_M} {d C0 S0 pc : Nat} {ls : Array Slot} {h : px_H} {g : px_G} {st : List px_V} {S : px_N}
theorem px_ial_ok (X : px_Cx p e R s m meth c K E M d C0 S0) (hd : decode M.2.1.1 pc = .ok (.iaload, 1)) (hf : px_hial pc st h g = some S)
    (hP : px_HP px_cl K E h H) (hG : px_Gok E.1 g) (hL : ∀ y ∈ locs, E.2.2 ≤ y.base) (hc : C0 + cells = h.1) (hs : S0 + slots = h.2.1) (k : px_Go p l e R s m args below meth c Q K E C0 S0 ls S) :
    W p l e R s m args below meth c H locs cells slots Q (F0 m pc ls (st.map (px_v E))) := by
  have X' := X
  obtain ⟨hx, -, hb, -, -, -, hnm, hown, -, hW, hRc, hRs, -⟩ := X
  unfold px_hial at hf
  split at hf
  · rename_i a rest
    split at hf
    · rename_i n hk
      split at hf
      · rename_i l7 hk7
        cases hn : (px_ile 0 n && px_ilt n l7 && px_ilt n 6) with
        | false => rw [hn] at hf; cases hf
        | true =>
          rw [hn] at hf
          cases hf
          simp only [Bool.and_eq_true, px_ile_eq, px_ilt_eq, decide_eq_true_eq] at hn
          obtain ⟨e1, e2⟩ := px_know_ok hG hk
          obtain ⟨e3, e4⟩ := px_know_ok hG hk7
          obtain ⟨L, h1, h2, h3, h4⟩ := hW.2.2.2.2.2.2.2.2.2.1
          obtain ⟨scr, g1, g2, g3, g4, g5⟩ := h1
          have e4 : (E.1 7).toInt = l7 := e4
          obtain ⟨i1, i2⟩ := px_ix (N := L) hn.1.1 (by omega) _ e2
          have kk := k _ (List.mem_singleton.mpr rfl) H locs cells slots hP hG hL hc hs
          exact W.iald (v := .int (E.1 n.toNat)) hx hb (a := E.2.1 0) (by rw [px_low_ok hP h4]; exact g1) g2 g3 (by rw [g4]; exact i1) (by rw [i2]; exact g5 _ (by omega)) rfl rfl hd kk
      · cases hf
    · cases hf
  · rename_i a r rest
    refine px_aload_ok X' rfl hf hP hG hL hc hs (fun q j hq hok h3 i1 kk => ?_) k
    have hlt : j.toNatClampNeg < q.2.1 := Nat.not_le.mp fun w => i1 (Or.inr w)
    have ht : px_ty[q.1]? = some .int := by rw [Nat.eq_of_beq_eq_true hok]; rfl
    exact W.iald hx hb h3 ((hW.2.2.1 q.1 _ ht).1 _ _) (fun w => by cases w) (by rw [arrV_size]; exact i1) (arrV_read _ _ hlt) rfl rfl hd kk
  · cases hf
theorem px_lal_ok (X : px_Cx p e R s m meth c K E M d C0 S0) (hd : decode M.2.1.1 pc = .ok (.laload, 1)) (hf : px_hal (fun t => Nat.beq t 2) pc st h g = some S)
    (hP : px_HP px_cl K E h H) (hG : px_Gok E.1 g) (hL : ∀ y ∈ locs, E.2.2 ≤ y.base) (hc : C0 + cells = h.1) (hs : S0 + slots = h.2.1) (k : px_Go p l e R s m args below meth c Q K E C0 S0 ls S) :
    W p l e R s m args below meth c H locs cells slots Q (F0 m pc ls (st.map (px_v E))) := by
  have X' := X
  obtain ⟨hx, -, hb, -, -, -, hnm, hown, -, hW, hRc, hRs, -⟩ := X
  unfold px_hal at hf
  split at hf
  · rename_i a r rest
    refine px_aload_ok X' rfl hf hP hG hL hc hs (fun q j hq hok h3 i1 kk => ?_) k
    have hlt : j.toNatClampNeg < q.2.1 := Nat.not_le.mp fun w => i1 (Or.inr w)
    have ht : px_ty[q.1]? = some .long := by rw [Nat.eq_of_beq_eq_true hok]; rfl
    exact W.lald hx hb h3 ((hW.2.2.1 q.1 _ ht).1 _ _) (fun w => by cases w) (by rw [arrV_size]; exact i1) (arrV_read _ _ hlt) rfl rfl hd kk
  · cases hf
theorem px_ty_ref {t : Nat} (h : 4 ≤ t) (h1 : t < 11) : ∃ ty : FieldType, px_ty[t]? = some ty ∧ ty.isReference = true := by
  have : t = 4 ∨ t = 5 ∨ t = 6 ∨ t = 7 ∨ t = 8 ∨ t = 9 ∨ t = 10 := by omega
  rcases this with rfl | rfl | rfl | rfl | rfl | rfl | rfl <;> exact ⟨_, rfl, rfl⟩
theorem px_aal_ok (X : px_Cx p e R s m meth c K E M d C0 S0) (hd : decode M.2.1.1 pc = .ok (.aaload, 1)) (hf : px_hal (fun t => Nat.ble 4 t) pc st h g = some S)
    (hP : px_HP px_cl K E h H) (hG : px_Gok E.1 g) (hL : ∀ y ∈ locs, E.2.2 ≤ y.base) (hc : C0 + cells = h.1) (hs : S0 + slots = h.2.1) (k : px_Go p l e R s m args below meth c Q K E C0 S0 ls S) :
    W p l e R s m args below meth c H locs cells slots Q (F0 m pc ls (st.map (px_v E))) := by
  have X' := X
  obtain ⟨hx, -, hb, -, -, -, hnm, hown, -, hW, hRc, hRs, -⟩ := X
  unfold px_hal at hf
  split at hf
  · rename_i a r rest
    refine px_aload_ok X' rfl hf hP hG hL hc hs (fun q j hq hok h3 i1 kk => ?_) k
    have hlt : j.toNatClampNeg < q.2.1 := Nat.not_le.mp fun w => i1 (Or.inr w)
    obtain ⟨ty, ht, hr⟩ := px_ty_ref (Nat.ble_eq.mp hok) (px_arr_ok hP hq).2.2.1
    exact W.aald hx hb h3 ((hW.2.2.1 q.1 _ ht).1 _ _) hr (fun w => by cases w) (by rw [arrV_size]; exact i1) (arrV_read _ _ hlt) rfl rfl hd kk
  · cases hf
theorem px_td_ok {t : Nat} {k : Nat × Nat} (h : px_td[t]? = some k) : (k.2 < 13 → ∃ (C : String) (T : u_T) (N : Nat), px_cl[k.2]? = some (C, T, N) ∧ px_ty[t]? = some (.object C)) ∧ (k.2 = 99 → px_ty[t]? = some (.object "java/lang/String")) := by
  have hlt : t < 11 := (List.getElem?_eq_some_iff.mp h).1
  have : t = 0 ∨ t = 1 ∨ t = 2 ∨ t = 3 ∨ t = 4 ∨ t = 5 ∨ t = 6 ∨ t = 7 ∨ t = 8 ∨ t = 9 ∨ t = 10 := by omega
  rcases this with rfl | rfl | rfl | rfl | rfl | rfl | rfl | rfl | rfl | rfl | rfl <;>
    (cases h
     refine ⟨fun w => ?_, fun w => ?_⟩
     · first | exact ⟨_, _, _, rfl, rfl⟩ | exact absurd w (by decide)
     · first | rfl | exact absurd w (by decide))
theorem px_hst_ok (hC : px_allC) (X : px_Cx p e R s m meth c K E M d C0 S0) {i : Instr} {t : Nat} (hi : (i = .iastore ∧ t = 1) ∨ (i = .bastore ∧ t = 0) ∨ (i = .lastore ∧ t = 2) ∨ (i = .aastore ∧ t = 3)) (hd : decode M.2.1.1 pc = .ok (i, 1)) (hf : px_hst px_pg t pc st h g = some S)
    (hP : px_HP px_cl K E h H) (hG : px_Gok E.1 g) (hL : ∀ y ∈ locs, E.2.2 ≤ y.base) (hc : C0 + cells = h.1) (hs : S0 + slots = h.2.1) (k : px_Go p l e R s m args below meth c Q K E C0 S0 ls S) :
    W p l e R s m args below meth c H locs cells slots Q (F0 m pc ls (st.map (px_v E))) := by
  have X' := X
  obtain ⟨hx, -, hb, -, -, -, hnm, hown, -, hW, hRc, hRs, -⟩ := X
  unfold px_hst at hf
  split at hf
  · rename_i v a r rest
    split at hf
    · rename_i w
      have hi : i = .iastore := by rcases hi with h | h | h | h <;> first | exact h.1 | (exact absurd h.2 (by decide))
      subst hi
      refine px_astore_ok X' rfl hf hP hG hL hc hs (fun q j hq hok h3 i1 kk => ?_) k
      have ht : px_ty[q.1]? = some .int := by rw [Nat.eq_of_beq_eq_true hok]; rfl
      exact W.iast hx hb h3 ((hW.2.2.1 q.1 _ ht).1 _ _) (fun w => by cases w) (by rw [arrV_size]; exact i1) rfl rfl hd kk
    · rename_i w
      have hi : i = .bastore := by rcases hi with h | h | h | h <;> first | exact h.1 | (exact absurd h.2 (by decide))
      subst hi
      refine px_astore_ok X' rfl hf hP hG hL hc hs (fun q j hq hok h3 i1 kk => ?_) k
      have ht : px_ty[q.1]? = some .byte := by rw [Nat.eq_of_beq_eq_true hok]; rfl
      exact W.bast hx hb h3 ((hW.2.2.1 q.1 _ ht).1 _ _) (fun w => by cases w) (by rw [arrV_size]; exact i1) rfl rfl hd (fun H' f1 f2 f3 => kk H' (by rw [f1]; congr 2; show narrow .byte (.int (px_i E.1 w)) = .int (px_i E.1 (px_b1 _ w)); rw [px_b1_ok]; rfl) f2 f3)
    · rename_i w
      have hi : i = .lastore := by rcases hi with h | h | h | h <;> first | exact h.1 | (exact absurd h.2 (by decide))
      subst hi
      refine px_astore_ok X' rfl hf hP hG hL hc hs (fun q j hq hok h3 i1 kk => ?_) k
      have ht : px_ty[q.1]? = some .long := by rw [Nat.eq_of_beq_eq_true hok]; rfl
      exact W.last hx hb h3 ((hW.2.2.1 q.1 _ ht).1 _ _) (fun w => by cases w) (by rw [arrV_size]; exact i1) rfl rfl hd kk
    · rename_i w
      have hi : i = .aastore := by rcases hi with h | h | h | h <;> first | exact h.1 | (exact absurd h.2 (by decide))
      subst hi
      refine px_astore_ok X' rfl hf hP hG hL hc hs (fun q j hq hok h3 i1 kk => ?_) k
      have hlt : j.toNatClampNeg < q.2.1 := Nat.not_le.mp fun w => i1 (Or.inr w)
      have h0 : ¬ j < 0 := fun w => i1 (Or.inl w)
      have fin : ∀ (C : String) (cv : Cell) (cC : ClassId), px_ty[q.1]? = some (.object C) → s.vm.findClass C = some cC → H[px_ad E w]? = some cv → (∀ z, cv.vm ≠ .statics z) → cv.cls = cC → W p l e R s m args below meth c H locs cells slots Q (F0 m pc ls (.ref (px_ad E w) :: .int j :: .ref (px_ad E r) :: rest.map (px_v E))) := by
        intro C cv cC ht hfc hv hobj hcls
        obtain ⟨kA, comp, k1, k2, k3, -⟩ := (hW.2.2.1 q.1 _ ht).2
        have hcomp : comp = cC := Option.some.inj (k3.symm.trans hfc)
        subst hcomp
        obtain ⟨kc, hkc⟩ : ∃ kc, s.vm.classes[comp]? = some kc := Vm.classAt_of_findClass hfc
        refine W.aast hx hb h3 (fun z w => by cases w) (fun w => by cases w) k1 k2 rfl hkc ⟨h0, by rw [arrV_size]; exact hlt⟩ hv hobj (by rw [hcls]; exact hkc) (by rw [hcls]; exact va_asg _ _) rfl rfl hd kk
      unfold px_elem at hok
      split at hok
      · rename_i kd hkd
        rw [px_nth_eq] at hkd
        obtain ⟨t1, t2⟩ := px_td_ok hkd
        cases hb64 : Nat.ble 64 w with
        | true =>
          rw [hb64] at hok
          simp only [cond_true] at hok
          split at hok
          · rename_i o ho
            have hk2 := Nat.eq_of_beq_eq_true hok
            obtain ⟨o1, o2, r', g1, cell, q1, q2, q3, q4⟩ := px_obj_ok hP ho
            have hlt13 : kd.2 < 13 := by rw [hk2]; exact (List.getElem?_eq_some_iff.mp g1).1
            obtain ⟨C, T, N, b1, b2⟩ := t1 hlt13
            have hKn := hW.2.1.1 kd.2 _ b1
            exact fin C cell _ b2 hKn.2.1 q1 (fun z w => by rw [q3] at w; cases w) (by rw [q2, hk2])
          · cases hok
        | false =>
          rw [hb64] at hok
          simp only [cond_false, Bool.and_eq_true, Nat.ble_eq] at hok
          have h99 := Nat.eq_of_beq_eq_true hok.2
          have hw1 : w - 1 < 42 := by omega
          obtain ⟨-, cell, q1, q2, q3, q4⟩ := hW.2.2.2.2.2.1 (w - 1) _ (List.getElem?_eq_getElem (l := px_str) hw1)
          have e0 : px_ad E w = E.2.1 (w - 1 + 1) := by
            unfold px_ad
            rw [if_pos (by omega), Nat.sub_add_cancel (by omega)]
          have hlow : E.2.1 (w - 1 + 1) < E.2.2 := Nat.not_le.mp q4
          exact fin "java/lang/String" cell _ (t2 h99) q3 (by rw [e0, px_low_ok hP hlow]; exact q1) (fun z w => by rw [w] at q2; cases q2) rfl
      · cases hok
    · cases hf
  · cases hf
theorem px_ldc_ok (X : px_Cx p e R s m meth c K E M d C0 S0) (hM : px_okM M) {x : Nat} (hd : decode M.2.1.1 pc = .ok (.ldc x, 2)) (hf : px_hldc M x pc st h g = some S)
    (hP : px_HP px_cl K E h H) (hG : px_Gok E.1 g) (hL : ∀ y ∈ locs, E.2.2 ≤ y.base) (hc : C0 + cells = h.1) (hs : S0 + slots = h.2.1) (k : px_Go p l e R s m args below meth c Q K E C0 S0 ls S) :
    W p l e R s m args below meth c H locs cells slots Q (F0 m pc ls (st.map (px_v E))) := by
  obtain ⟨hx, -, hb, -, -, -, hnm, hown, -, hW, hRc, hRs, -⟩ := X
  unfold px_hldc at hf
  cases hq : px_lk M x with
  | none => rw [hq] at hf; cases hf
  | some q =>
    rw [hq] at hf
    have hl := hM.2 x q hq
    obtain ⟨tag, v, kf, c3⟩ := q
    cases ht : Nat.beq tag 11 with
    | true =>
      have := Nat.eq_of_beq_eq_true ht
      subst this
      simp only [ht, cond_true] at hf
      cases hf
      have kk := k _ (List.mem_singleton.mpr rfl) H locs cells slots hP hG hL hc hs
      exact lv_ldc hx hb hown (hW.1 _ hl args) hd kk
    | false =>
      cases ht2 : Nat.beq tag 12 with
      | false => simp only [ht, ht2, cond_false] at hf; cases hf
      | true =>
        have := Nat.eq_of_beq_eq_true ht2
        subst this
        simp only [ht, ht2, cond_true, cond_false] at hf
        cases hf
        obtain ⟨a1, a2, t, a3⟩ := hl
        have a1 : 1 ≤ v := a1
        have a2 : v < 64 := a2
        have a3 : px_str[v - 1]? = some (M.1.cls, x, t) := a3
        have kk := k _ (List.mem_singleton.mpr rfl) H locs cells slots hP hG hL hc hs
        have h9 := (hW.2.2.2.2.2.1 (v - 1) _ a3).1
        have e0 : px_ad E v = E.2.1 (v - 1 + 1) := by
          unfold px_ad
          rw [if_pos a2, Nat.sub_add_cancel a1]
        have kk : W p l e R s m args below meth c H locs cells slots Q (F0 m (pc + 2) ls (.ref (px_ad E v) :: st.map (px_v E))) := kk
        rw [e0] at kk
        exact va_ldcS hx hb hown h9 hd kk
theorem px_cat2_ok (E : px_E) (st : List px_V) : ((st.map (px_v E)).map fun v => v.category).sum = px_cat2 st := by
  induction st with
  | nil => rfl
  | cons v r ih =>
    have h1 := px_cat E v
    show (px_v E v).category + ((r.map (px_v E)).map fun v => v.category).sum = (bif px_lg v then 2 else 1) + px_cat2 r
    rw [ih]
    cases hv : px_lg v with
    | true => rw [hv] at h1; simp only [beq_iff_eq] at h1; rw [h1]; rfl
    | false => rw [px_cat1 hv]; rfl
theorem px_cat2_le (st : List px_V) : px_cat2 st ≤ 2 * st.length := by
  induction st with
  | nil => exact Nat.le_refl _
  | cons v r ih =>
    show (bif px_lg v then 2 else 1) + px_cat2 r ≤ 2 * (r.length + 1)
    cases px_lg v <;> simp only [cond_true, cond_false] <;> omega
theorem px_obj0_ok (X : px_Cx p e R s m meth c K E M d C0 S0) (hM : px_okM M) {x : Nat} (hsz : ls.size = M.2.1.2.1) (hd : decode M.2.1.1 pc = .ok (.invokespecial x, 3)) (hf : px_hobj M d x pc st h g = some S)
    (hP : px_HP px_cl K E h H) (hG : px_Gok E.1 g) (hL : ∀ y ∈ locs, E.2.2 ≤ y.base) (hc : C0 + cells = h.1) (hs : S0 + slots = h.2.1) (k : px_Go p l e R s m args below meth c Q K E C0 S0 ls S) :
    W p l e R s m args below meth c H locs cells slots Q (F0 m pc ls (st.map (px_v E))) := by
  obtain ⟨hx, -, hb, hml, -, -, hnm, hown, -, hW, hRc, hRs, hRf, hRl, -⟩ := X
  unfold px_hobj at hf
  split at hf
  · rename_i r rest
    cases hq : px_lk M x with
    | none => rw [hq] at hf; cases hf
    | some q =>
      rw [hq] at hf
      have hl := hM.2 x q hq
      obtain ⟨tag, v, kf, c3⟩ := q
      cases ht : (Nat.beq tag 6 && (Nat.blt 0 d && Nat.ble rest.length 20)) with
      | false => simp only [ht, cond_false] at hf; cases hf
      | true =>
        simp only [ht, cond_true] at hf
        cases hf
        simp only [Bool.and_eq_true, Nat.blt_eq, Nat.ble_eq] at ht
        have := Nat.eq_of_beq_eq_true ht.1
        subst this
        obtain ⟨a1, a2, a3⟩ := hl
        have kk := k _ (List.mem_singleton.mpr rfl) H locs cells slots hP hG hL hc hs
        refine W.objInit hx hb hown (hW.1 _ a1 args) (hW.1 _ a2 args) (hW.1 _ a3 args) rfl (hsz.trans hml.symm) rfl hd (by omega) ?_ kk
        show 2 * 0 + _ + 12 ≤ _
        rw [px_cat2_ok]
        have := px_cat2_le rest
        have : d * 100 ≥ 100 := Nat.mul_le_mul_right 100 ht.2.1
        omega
  · cases hf
theorem px_cpy_ok (X : px_Cx p e R s m meth c K E M d C0 S0) (hM : px_okM M) {x : Nat} (hsz : ls.size = M.2.1.2.1) (hd : decode M.2.1.1 pc = .ok (.invokestatic x, 3)) (hf : px_hcpy M d x pc st h g = some S)
    (hP : px_HP px_cl K E h H) (hG : px_Gok E.1 g) (hL : ∀ y ∈ locs, E.2.2 ≤ y.base) (hc : C0 + cells = h.1) (hs : S0 + slots = h.2.1) (k : px_Go p l e R s m args below meth c Q K E C0 S0 ls S) :
    W p l e R s m args below meth c H locs cells slots Q (F0 m pc ls (st.map (px_v E))) := by
  obtain ⟨hx, -, hb, hml, -, -, hnm, hown, -, hW, hRc, hRs, hRf, hRl, -⟩ := X
  unfold px_hcpy at hf
  split at hf
  · rename_i n dp r2 sp r1 rest
    cases hq : px_lk M x with
    | none => rw [hq] at hf; cases hf
    | some q =>
      rw [hq] at hf
      have hl := hM.2 x q hq
      obtain ⟨tag, v, kf, c3⟩ := q
      cases ht : (Nat.beq tag 13 && (Nat.blt 0 d && Nat.ble rest.length 20 && px_ieq n 0 && px_ieq dp 0 && px_ieq sp 0)) with
      | false => simp only [ht, cond_false] at hf; cases hf
      | true =>
        simp only [ht, cond_true] at hf
        simp only [Bool.and_eq_true, Nat.blt_eq, Nat.ble_eq, px_ieq_eq, decide_eq_true_eq] at ht
        obtain ⟨ht, ⟨⟨⟨hd0, hlen⟩, rfl⟩, rfl⟩, rfl⟩ := ht
        have := Nat.eq_of_beq_eq_true ht
        subst this
        obtain ⟨a1, a2, a3, a4⟩ := hl
        split at hf
        · rename_i c1 hc1
          split at hf
          · rename_i c2 hc2
            cases hz : (Nat.beq c1.1 1 && Nat.beq c2.1 1) with
            | false => rw [hz] at hf; cases hf
            | true =>
              rw [hz] at hf
              cases hf
              simp only [Bool.and_eq_true] at hz
              obtain ⟨u1, u2, -, u3⟩ := px_arr_ok hP hc1
              obtain ⟨w1, w2, -, w3⟩ := px_arr_ok hP hc2
              have t1 : px_ty[c1.1]? = some .int := by rw [Nat.eq_of_beq_eq_true hz.1]; rfl
              have t2 : px_ty[c2.1]? = some .int := by rw [Nat.eq_of_beq_eq_true hz.2]; rfl
              intro T hT X0
              obtain ⟨-, k0, hk0, cm0, hkk0⟩ := (hW.2.2.1 c1.1 _ t1).1 c1.2.1 (fun j => px_v E (px_at c1.2.2.1 j c1.2.2.2))
              obtain ⟨-, k1, hk1, cm1, hkk1⟩ := (hW.2.2.1 c2.1 _ t2).1 c2.2.1 (fun j => px_v E (px_at c2.2.2.1 j c2.2.2.2))
              have z0 : px_i E.1 (.inl 0) = 0 := rfl
              obtain ⟨vm', X', step⟩ := X0.arraycopy hx hown (hW.1 _ a1 args) (hW.1 _ a2 args) (hW.1 _ a3 args) (hW.1 _ a4 args) (src := px_ad E r1) (dst := px_ad E r2) (srcPos := 0) (destPos := 0) (n := 0) (by rw [hT]; exact u3) (by rw [hT]; exact w3)
                (fun _ h => by cases h) (fun _ h => by cases h) (fun h => by cases h) (fun h => by cases h) hk0 hk1 hkk0 hkk1 (by decide) (by decide) (by decide) (by decide)
                (by rw [arrV_size]; show ¬ ((0 : Int) + 0 > (c1.2.1 : Int)); omega) (by rw [arrV_size]; show ¬ ((0 : Int) + 0 > (c2.2.1 : Int)); omega)
                (fun vm₁ _ i hi => absurd hi (by show ¬ i < 0; omega))
                (g := F0 m pc ls ((.inl (.inl 0) :: .inl (.inl 0) :: .inr (.inr (some r2)) :: .inl (.inl 0) :: .inr (.inr (some r1)) :: rest : List px_V).map (px_v E))) rfl (hsz.trans hml.symm) (rest := rest.map (px_v E)) rfl (by rw [hb]; exact hd) (by omega)
                (by show 2 * 0 + _ + _ ≤ _
                    rw [px_cat2_ok]
                    have := px_cat2_le rest
                    have : d * 100 ≥ 100 := Nat.mul_le_mul_right 100 hd0
                    have : nativeFrameWords "java/lang/System" "arraycopy" 5 + 11 ≤ 50 := by decide
                    omega)
              have e1 : copied (arrV (K.2.1 c1.1) c1.2.1 (fun j => px_v E (px_at c1.2.2.1 j c1.2.2.2))) (arrV (K.2.1 c2.1) c2.2.1 (fun j => px_v E (px_at c2.2.2.1 j c2.2.2.2))) (0 : Int32) (0 : Int32) (0 : Int32) = arrV (K.2.1 c2.1) c2.2.1 (fun j => px_v E (px_at c2.2.2.1 j c2.2.2.2)) := by
                refine (va_copied (sp := 0) (dp := 0) (n := 0) (fun z : Value => z) (K.2.1 c1.1) (K.2.1 c2.1) (fun j => px_v E (px_at c1.2.2.1 j c1.2.2.2)) (fun j => px_v E (px_at c2.2.2.1 j c2.2.2.2)) (n0 := c1.2.1) (n1 := c2.2.1) (Nat.zero_le _)).trans ?_
                congr 1
              rw [e1] at X' step
              have hheap : ((T.setVm vm').setCell (px_ad E r2) (arrV (K.2.1 c2.1) c2.2.1 (fun j => px_v E (px_at c2.2.2.1 j c2.2.2.2)))).heap = H := by
                show T.heap.setIfInBounds _ _ = H
                rw [hT]
                apply Array.ext
                · simp
                · intro i h1 h2
                  rw [Array.getElem_setIfInBounds (by simpa using h2)]
                  split
                  · rename_i he
                    subst he
                    exact (Option.some.inj ((Array.getElem?_eq_getElem h2).symm.trans w3)).symm
                  · rfl
              obtain ⟨t, a1, b1⟩ := k _ (List.mem_singleton.mpr rfl) H _ cells slots hP hG (by
                intro y hy
                rcases List.mem_append.mp hy with hy | hy
                · exact hL y hy
                · obtain ⟨z, -, rfl⟩ := List.mem_map.mp hy
                  show E.2.2 ≤ px_ad E r2
                  rw [px_ad_new E w1]; omega) hc hs _ hheap X'
              exact ⟨t, step t a1, b1⟩
          · cases hf
        · cases hf
  · cases hf
end PxArr
