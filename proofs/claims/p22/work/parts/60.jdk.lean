/-! L1's soundness: wide constants, a static of the JDK's, a copy of an array of bytes, a cast. -/
section CzJdk
variable {p : Program} {l : Launch} {e : Env} {R : Room} {s : State} {m : MethodId} {args : Array Value} {below : List Frame} {meth : Method} {c : Code} {H : Heap} {locs : List Loc} {cells slots : Nat} {Q : State → Prop}
variable {K : cz_K} {E : cz_E} {M : cz_M} {d C0 S0 pc : Nat} {ls : Array Slot} {h : cz_H} {st : List cz_V} {S : cz_N}
theorem cz_ldcSW {cc : ByteArray} {rest : List Value} (hexec : p.tables.exec = Jvm.exec) (hb : c.code = cc) {own tx : String} {index q : Nat} (hown : s.vm.findClass own = some m.cls) (hZ : vk_R own index tx q s) (hdg : decode cc pc = .ok (.ldc_w index, 3))
    (k : W p l e R s m args below meth c H locs cells slots Q (F0 m (pc + 3) ls (.ref q :: rest))) : W p l e R s m args below meth c H locs cells slots Q (F0 m pc ls rest) := by
  intro T hT X
  obtain ⟨t, a1, b1⟩ := k T hT X
  exact ⟨t, X.ldcStringW hexec hown (text := tx) (a := q) hZ.1 hZ.2 (g := F0 m pc ls rest) rfl (by rw [hb]; exact hdg) t a1, b1⟩
theorem cz_ldcW_ok (X : cz_Cx p e R s m meth c K E M d C0 S0) (hM : cz_okM M) {x : Nat} (hd : decode M.2.1.1 pc = .ok (.ldc_w x, 3)) (hf : cz_hldc 3 M x pc st h = some S)
    (hP : cz_HP cz_cl K E h H) (hL : ∀ y ∈ locs, E.2 ≤ y.base) (hc : C0 + cells = h.1) (hs : S0 + slots = h.2.1) (k : cz_Go p l e R s m args below meth c Q K E C0 S0 ls S) :
    W p l e R s m args below meth c H locs cells slots Q (F0 m pc ls (st.map (cz_v E))) := by
  obtain ⟨hx, -, hb, -, -, -, hnm, hown, -, hW, hRc, hRs, -⟩ := X
  unfold cz_hldc at hf
  cases hq : cz_lk M x with
  | none => rw [hq] at hf; cases hf
  | some q =>
    rw [hq] at hf
    have hl := hM.2 x q hq
    obtain ⟨tag, v, kf, c3⟩ := q
    cases ht : Nat.beq tag 11 with
    | true =>
      have := Nat.eq_of_beq_eq_true ht
      subst this
      simp only [ht, cond_true] at hf
      cases hf
      have kk := k H locs cells slots hP hL hc hs
      exact lv_ldcw hx hb hown (hW.1 _ hl args) hd kk
    | false =>
      cases ht2 : Nat.beq tag 12 with
      | false => simp only [ht, ht2, cond_false] at hf; cases hf
      | true =>
        have := Nat.eq_of_beq_eq_true ht2
        subst this
        simp only [ht, ht2, cond_true, cond_false] at hf
        cases hf
        obtain ⟨a1, a2, t, a3⟩ := hl
        have a1 : 1 ≤ v := a1
        have a2 : v < 64 := a2
        have a3 : cz_str[v - 1]? = some (M.1.cls, x, t) := a3
        have kk := k H locs cells slots hP hL hc hs
        have h9 := hW.2.2.2.2.2.1 (v - 1) _ a3
        have e0 : cz_ad E v = E.1 (v - 1 + 1) := by
          unfold cz_ad
          rw [if_pos (by omega), Nat.sub_add_cancel a1]
        have kk : W p l e R s m args below meth c H locs cells slots Q (F0 m (pc + 3) ls (.ref (cz_ad E v) :: st.map (cz_v E))) := kk
        rw [e0] at kk
        exact cz_ldcSW hx hb hown h9 hd kk
/-- what lies below the start stays -/
theorem cz_low (hP : cz_HP cz_cl K E h H) (hz : E.2 = K.2.2.2.size) : ∀ a : Nat, a < K.2.2.2.size → ¬ cz_A E a → H[a]? = K.2.2.2[a]? := fun a ha _ => hP.2.2.2.1 a (by omega)
theorem cz_gs_ok (X : cz_Cx p e R s m meth c K E M d C0 S0) (hM : cz_okM M) {x : Nat} (hd : decode M.2.1.1 pc = .ok (.getstatic x, 3)) (hf : cz_hgs M x pc st h = some S)
    (hP : cz_HP cz_cl K E h H) (hL : ∀ y ∈ locs, E.2 ≤ y.base) (hc : C0 + cells = h.1) (hs : S0 + slots = h.2.1) (k : cz_Go p l e R s m args below meth c Q K E C0 S0 ls S) :
    W p l e R s m args below meth c H locs cells slots Q (F0 m pc ls (st.map (cz_v E))) := by
  obtain ⟨hx, -, hb, -, -, -, hnm, hown, -, hW, hRc, hRs, -⟩ := X
  unfold cz_hgs at hf
  cases hq : cz_lk M x with
  | none => rw [hq] at hf; cases hf
  | some q =>
    rw [hq] at hf
    have hl := hM.2 x q hq
    obtain ⟨tag, v, kf, c3⟩ := q
    cases ht : Nat.beq tag 16 with
    | false => simp only [ht, cond_false] at hf; cases hf
    | true =>
      have := Nat.eq_of_beq_eq_true ht
      subst this
      simp only [ht, cond_true] at hf
      cases hf
      obtain ⟨a1, a2⟩ := hl
      have a1 : v = 1 := a1
      subst a1
      have kk := k H locs cells slots hP hL hc hs
      have hZ := hW.2.2.2.2.2.2.2.2.2.2.1.kept (cz_low hP hW.2.2.2.2.2.2.2.2.2.1)
      obtain ⟨cf, kf', fi, f, a, cell, h1, h2, h3, h4, h5, h6, h7, h8⟩ := hZ
      exact W.gets hx hb hown (hW.1 _ a2 args) h1 h2 h3 h4 h5 (fun e => by rw [e] at h6; cases h6) h7 rfl hd kk
theorem cz_hcc_ok (X : cz_Cx p e R s m meth c K E M d C0 S0) (hM : cz_okM M) {x : Nat} (hd : decode M.2.1.1 pc = .ok (.checkcast x, 3)) (hf : cz_hcc M x pc st h = some S)
    (hP : cz_HP cz_cl K E h H) (hL : ∀ y ∈ locs, E.2 ≤ y.base) (hc : C0 + cells = h.1) (hs : S0 + slots = h.2.1) (k : cz_Go p l e R s m args below meth c Q K E C0 S0 ls S) :
    W p l e R s m args below meth c H locs cells slots Q (F0 m pc ls (st.map (cz_v E))) := by
  obtain ⟨hx, -, hb, -, -, -, hnm, hown, -, hW, hRc, hRs, -⟩ := X
  unfold cz_hcc at hf
  split at hf
  · rename_i r rest
    cases hq : cz_lk M x with
    | none => rw [hq] at hf; cases hf
    | some q =>
      rw [hq] at hf
      have hl := hM.2 x q hq
      obtain ⟨tag, v, kf, c3⟩ := q
      cases ht : Nat.beq tag 17 with
      | false => simp only [ht, cond_false] at hf; cases hf
      | true =>
        have := Nat.eq_of_beq_eq_true ht
        subst this
        simp only [ht, cond_true] at hf
        split at hf
        · rename_i c1 hc1
          cases hz : (Nat.beq c1.1 0 && Nat.ble 192 r) with
          | false => rw [hz] at hf; cases hf
          | true =>
            rw [hz] at hf
            cases hf
            simp only [Bool.and_eq_true] at hz
            obtain ⟨hz, h192⟩ := hz
            have hz := Nat.eq_of_beq_eq_true hz
            obtain ⟨u1, u2, -, u3⟩ := cz_arr_ok hW hP hc1
            have u3 := u3 (Nat.ble_eq.mp h192)
            have u3 : H[cz_ad E r]? = some (arrV (K.2.1 c1.1) c1.2.1 (fun j => cz_v E (c1.2.2 j))) := u3
            have kk := k H locs cells slots hP hL hc hs
            have hB : s.vm.findClass "[B" = some (K.2.1 0) := (hW.2.2.1 0 .byte rfl).2
            exact va_castE hx hb hown (hW.1 _ hl args) ⟨_, u3, rfl, by rw [hz]; exact hB⟩ hd kk
        · cases hf
  · cases hf
theorem cz_setc_push (h : cz_H) (n : Nat) (z c : cz_C) : cz_setc (cz_push h n z) h.1 c = cz_push h n c := by
  unfold cz_setc cz_push
  refine Prod.ext rfl (Prod.ext rfl ?_)
  funext q
  show (if q = h.1 then c else if q = h.1 then z else h.2.2 q) = if q = h.1 then c else h.2.2 q
  by_cases e : q = h.1
  · rw [if_pos e, if_pos e]
  · rw [if_neg e, if_neg e, if_neg e]
theorem cz_hcl_ok (X : cz_Cx p e R s m meth c K E M d C0 S0) (hM : cz_okM M) {x : Nat} (hsz : ls.size = M.2.1.2.1) (hd : decode M.2.1.1 pc = .ok (.invokevirtual x, 3)) (hf : cz_hcl M d x pc st h = some S)
    (hP : cz_HP cz_cl K E h H) (hL : ∀ y ∈ locs, E.2 ≤ y.base) (hc : C0 + cells = h.1) (hs : S0 + slots = h.2.1) (k : cz_Go p l e R s m args below meth c Q K E C0 S0 ls S) :
    W p l e R s m args below meth c H locs cells slots Q (F0 m pc ls (st.map (cz_v E))) := by
  obtain ⟨hx, -, hb, hml, -, -, hnm, hown, -, hW, hRc, hRs, hRf, hRl, -⟩ := X
  unfold cz_hcl at hf
  split at hf
  · rename_i r rest
    cases hq : cz_lk M x with
    | none => rw [hq] at hf; cases hf
    | some q =>
      rw [hq] at hf
      have hl := hM.2 x q hq
      obtain ⟨tag, v, kf, c3⟩ := q
      cases ht : (Nat.beq tag 19 && (Nat.blt 0 d && Nat.ble rest.length 20)) with
      | false => simp only [ht, cond_false] at hf; cases hf
      | true =>
        simp only [ht, cond_true] at hf
        simp only [Bool.and_eq_true, Nat.blt_eq, Nat.ble_eq] at ht
        obtain ⟨ht, hd0, hlen⟩ := ht
        have := Nat.eq_of_beq_eq_true ht
        subst this
        obtain ⟨a1, a2, a3, a4, a5, a6⟩ := hl
        split at hf
        · rename_i c1 hc1
          cases hz : ((Nat.beq c1.1 0 && Nat.ble 192 r) && cz_room h 1 c1.2.1 && (List.range c1.2.1).all (fun i => cz_fitc 4 (c1.2.2 i))) with
          | false => rw [hz] at hf; cases hf
          | true =>
            rw [hz] at hf
            cases hf
            simp only [Bool.and_eq_true] at hz
            obtain ⟨⟨⟨z1, h192⟩, z2⟩, z3⟩ := hz
            have z1 := Nat.eq_of_beq_eq_true z1
            obtain ⟨r1, r2⟩ := cz_room_ok z2
            obtain ⟨u1, u2, -, u3⟩ := cz_arr_ok hW hP hc1
            have u3 := u3 (Nat.ble_eq.mp h192)
            have u3 : H[cz_ad E r]? = some (arrV (K.2.1 c1.1) c1.2.1 (fun j => cz_v E (c1.2.2 j))) := u3
            rw [z1] at u3
            have hB : s.vm.findClass "[B" = some (K.2.1 0) := (hW.2.2.1 0 .byte rfl).2
            obtain ⟨cB, cC, f1, f2, f3⟩ := Cond.castable_spec (args := #[]) (first := s) (o := none) (idx := []) (hW.1 _ a6 #[])
            cases f1.symm.trans hB
            obtain ⟨-, k0, hk0, cm0, hkk0⟩ := (hW.2.2.1 0 .byte rfl).1 c1.2.1 (fun j => cz_v E (c1.2.2 j))
            have hk0 : s.vm.classes[K.2.1 0]? = some k0 := hk0
            intro T hT X0
            have hfit : ∀ i v, (arrV (K.2.1 0) c1.2.1 (fun j => cz_v E (c1.2.2 j))).slots[i]? = some v → T.fitsSlot (K.2.1 0) .none i v = true := by
              intro i v hv
              have hi : i < c1.2.1 := by
                have := (Array.getElem?_eq_some_iff.mp hv).1
                rwa [arrV_size] at this
              rw [arrV_read _ _ hi] at hv
              cases hv
              obtain ⟨kA', hkA', hek⟩ := X0.warmed.alike.2.2 _ _ hk0
              have hkind' : kA'.kind = .array cm0 .byte := by rw [hek]; exact hkk0
              have e2 := List.all_eq_true.mp z3 i (List.mem_range.mpr hi)
              simp only [State.fitsSlot, State.slotType?, hkA']
              simp only [Option.bind_eq_bind, Option.bind_some, hkind']
              exact (cz_fit_ok E (t := .byte) e2).2
            obtain ⟨vm', X', step⟩ := X0.cloneArray hx (ad := "[B") hown (hW.1 _ a1 args) (hW.1 _ a2 args) (hW.1 _ a3 args) (hW.1 _ a4 args) (hW.1 _ a5 args) (a := cz_ad E r) (cell := arrV (K.2.1 0) c1.2.1 (fun j => cz_v E (c1.2.2 j))) (cC := cC) (by rw [hT]; exact u3) (fun _ h => by cases h) (fun h => by cases h) hB f2 f3 hfit
              (g := F0 m pc ls ((.inr (.inr (some r)) :: rest : List cz_V).map (cz_v E))) rfl (hsz.trans hml.symm) (rest := rest.map (cz_v E)) rfl (by rw [hb]; exact hd) (by omega)
              (by show 2 * 0 + _ + _ ≤ _
                  rw [cz_cat2_ok]
                  have := cz_cat2_le rest
                  have : d * 100 ≥ 100 := Nat.mul_le_mul_right 100 hd0
                  omega) (by omega) (by rw [arrV_size]; omega) (Vm.clonesLoader_of_array hk0 hkk0)
            rw [arrV_size] at X'
            have hH1 : ((T.setVm vm').pushCell { cls := (arrV (K.2.1 0) c1.2.1 (fun j => cz_v E (c1.2.2 j))).cls, slots := (arrV (K.2.1 0) c1.2.1 (fun j => cz_v E (c1.2.2 j))).slots }).heap = H.push (arrV (K.2.1 0) c1.2.1 (fun j => cz_v E (c1.2.2 j))) := by
              rw [← hT]; rfl
            have hat : cz_cell cz_cl K E (.inl (0, c1.2.1, c1.2.2)) H.size (H.push (arrV (K.2.1 0) c1.2.1 (fun j => cz_v E (c1.2.2 j)))) := by
              show (H.push _)[H.size]? = _
              rw [Array.getElem?_push_size]
            obtain ⟨hP', hz⟩ := hP.push c1.2.1 hat (Array.size_push ..) (fun q hq => by rw [Array.getElem?_push_lt hq, Array.getElem?_eq_getElem hq])
            rw [cz_setc_push] at k
            obtain ⟨t, b1, b2⟩ := k _ locs (cells + 1) (slots + c1.2.1) hP' hL (by rw [cz_push_1]; omega) (by rw [cz_push_2]; omega) _ hH1 X'
            refine ⟨t, step t ?_, b2⟩
            have hTs : T.heap.size = cz_ad E h.1 := by rw [hT]; exact hz
            rw [hTs]
            exact b1
        · cases hf
  · cases hf
end CzJdk
