/-! Soundness, part 3: making cells, and arrays. -/
section CzMade
variable {p : Program} {l : Launch} {e : Env} {R : Room} {s : State} {m : MethodId} {args : Array Value} {below : List Frame} {meth : Method} {c : Code} {H : Heap} {locs : List Loc} {cells slots : Nat} {Q : State → Prop}
variable {K : cz_K} {E : cz_E} {M : cz_M} {d C0 S0 pc : Nat} {ls : Array Slot} {h : cz_H} {st : List cz_V} {S : cz_N}
theorem cz_room_ok {k n : Nat} (q : cz_room h k n = true) : h.1 + k ≤ 600192 ∧ h.2.1 + n ≤ 7302232 := by
  simp only [cz_room, Bool.and_eq_true, Nat.ble_eq] at q
  exact q
theorem cz_push_1 (h : cz_H) (n : Nat) (x : cz_C) : (cz_push h n x).1 = h.1 + 1 := rfl
theorem cz_push_2 (h : cz_H) (n : Nat) (x : cz_C) : (cz_push h n x).2.1 = h.2.1 + n := rfl
theorem cz_new_ok (hC : cz_allC) (X : cz_Cx p e R s m meth c K E M d C0 S0) (hM : cz_okM M) {x : Nat} (hd : decode M.2.1.1 pc = .ok (.new x, 3)) (hf : cz_hnew cz_pg M x pc st h = some S)
    (hP : cz_HP cz_cl K E h H) (hL : ∀ y ∈ locs, E.2 ≤ y.base) (hc : C0 + cells = h.1) (hs : S0 + slots = h.2.1) (k : cz_Go p l e R s m args below meth c Q K E C0 S0 ls S) :
    W p l e R s m args below meth c H locs cells slots Q (F0 m pc ls (st.map (cz_v E))) := by
  obtain ⟨hx, -, hb, -, -, -, hnm, hown, -, hW, hRc, hRs, -⟩ := X
  unfold cz_hnew at hf
  cases hq : cz_lk M x with
  | none => rw [hq] at hf; cases hf
  | some q =>
    rw [hq] at hf
    have hl := hM.2 x q hq
    obtain ⟨tag, ci, kf, c3⟩ := q
    cases ht : Nat.beq tag 8 with
    | false => simp only [ht, cond_false] at hf; cases hf
    | true =>
      have := Nat.eq_of_beq_eq_true ht
      subst this
      simp only [ht, cond_true] at hf
      split at hf
      · rename_i ks hks
        have hks : cz_tl[ci]? = some ks := hks
        cases hr : cz_room h 1 ks.length with
        | false => rw [hr] at hf; cases hf
        | true =>
          rw [hr] at hf
          have hf : some (pc + 3, .inr (.inr (some h.1)) :: st, cz_push h ks.length (.inr (.inl (ci, ks.map cz_dflt)))) = some S := hf
          cases hf
          obtain ⟨r1, r2⟩ := cz_room_ok hr
          obtain ⟨C, T, N, a1, a3⟩ := hl
          have a1 : cz_cl[ci]? = some (C, T, N) := a1
          obtain ⟨b1, b2, b3, b4, b5, ks', e1, e2, e3⟩ := hC ci C T N a1
          cases hks.symm.trans e1
          have hts : ∀ w ∈ u_ws C T N, w.before args s = true := fun w hw => hW.1 w (b1 w hw) args
          have hKn := hW.2.1.1 ci _ a1
          refine W.newcK hx hb hown (hW.1 _ a3 args) (hW.1 _ b2 args) (hW.1 _ b3 args) rfl hd (by omega) (by omega) hKn.2.1 rfl fun H1 kC hkC f1 f2 f3 => ?_
          have hob := u_born (fun z => (parseFieldDescriptor (T z).2.2.1).getD .int) hts (fun _ hw => hw) hKn hkC f1 (fun z hz => by obtain ⟨ty, w1, -⟩ := e3 z hz; rw [w1]; rfl)
          have hat : cz_cell cz_cl K E (.inr (.inl (ci, ks.map cz_dflt))) H.size H1 := by
            refine ⟨(C, T, N), a1, hob.to (fun z hz => ?_)⟩
            obtain ⟨ty, w1, w2, w3⟩ := e3 z hz
            show defaultValue ((parseFieldDescriptor (T z).2.2.1).getD .int) = vp_V ((ks.map cz_dflt).map (cz_v E)) z
            rw [w1]
            have : ((ks.map cz_dflt).map (cz_v E))[z]? = some (defaultValue ty) := by
              rw [List.getElem?_map, List.getElem?_map, w2]
              exact congrArg some (cz_dflt_ok E w3)
            unfold vp_V
            rw [List.getD_eq_getElem?_getD, this]
            rfl
          obtain ⟨hP', hz⟩ := hP.push ks.length hat f2 f3
          have kk := k H1 locs (cells + 1) (slots + ks.length) hP' hL (by rw [cz_push_1]; omega) (by rw [cz_push_2]; omega)
          rw [hz]
          rw [e2] at kk
          exact kk
      · cases hf
theorem cz_tyk {t : ArrayType} {n : Nat} (h : cz_atn t = some n) : cz_ty[n]? = some (newarray.typeOf t) ∧ componentBytes (newarray.typeOf t) ≤ 8 ∧ ∃ y, cz_td[n]? = some y ∧ ∀ E : cz_E, cz_v E (cz_dflt y.1) = defaultValue (newarray.typeOf t) := by
  cases t <;> first | (cases h; exact ⟨rfl, by decide, _, rfl, fun _ => rfl⟩) | cases h
theorem cz_na_ok (X : cz_Cx p e R s m meth c K E M d C0 S0) {t : ArrayType} (harr : px_in (.arrayClass (newarray.typeOf t))) (hd : decode M.2.1.1 pc = .ok (.newarray t, 2)) (hf : cz_hna cz_pg t pc st h = some S)
    (hP : cz_HP cz_cl K E h H) (hL : ∀ y ∈ locs, E.2 ≤ y.base) (hc : C0 + cells = h.1) (hs : S0 + slots = h.2.1) (k : cz_Go p l e R s m args below meth c Q K E C0 S0 ls S) :
    W p l e R s m args below meth c H locs cells slots Q (F0 m pc ls (st.map (cz_v E))) := by
  obtain ⟨hx, -, hb, -, -, -, hnm, hown, -, hW, hRc, hRs, -⟩ := X
  unfold cz_hna at hf
  split at hf
  · rename_i n rest
    split at hf
    · rename_i tn htn
      obtain ⟨t1, t2, y0, t3, t4⟩ := cz_tyk htn
      cases hr : (decide (0 ≤ n.toInt) && cz_room h 1 n.toInt.toNat && Nat.ble (n.toInt.toNat * 8) 536870912) with
      | false => rw [hr] at hf; cases hf
      | true =>
        rw [hr] at hf
        simp only [Bool.and_eq_true, decide_eq_true_eq, Nat.ble_eq] at hr
        obtain ⟨⟨n0, hr⟩, hby⟩ := hr
        obtain ⟨r1, r2⟩ := cz_room_ok hr
        simp only [cond_true] at hf
        split at hf
        · rename_i y hy
          cases Option.some.inj (hy.symm.trans t3)
          have hf : some (pc + 2, .inr (.inr (some h.1)) :: rest, cz_push h n.toInt.toNat (.inl (tn, n.toInt.toNat, fun _ => cz_dflt y0.1))) = some S := hf
          cases hf
          have hn0 : ¬ n < 0 := by rw [Int32.lt_iff_toInt_lt]; show ¬ n.toInt < 0; omega
          have hcl : n.toNatClampNeg = n.toInt.toNat := rfl
          refine va_newaK hx hb (hW.1 _ harr args) rfl hd rfl hn0 hcl (by have := Nat.mul_le_mul_left n.toInt.toNat t2; omega) (by omega) (by omega) rfl fun H1 cA e1 z1 o1 hAr hNm => ?_
          have hcA : cA = K.2.1 tn := by
            have h9 := (hW.2.2.1 tn _ t1).2
            have : s.vm.findClass ("[" ++ (newarray.typeOf t).toString) = some (K.2.1 tn) := by
              cases t <;> exact h9
            exact Option.some.inj (hNm.symm.trans this)
          subst hcA
          have hat : cz_cell cz_cl K E (.inl (tn, n.toInt.toNat, fun _ => cz_dflt y0.1)) H.size H1 := by
            show H1[H.size]? = some (arrV (K.2.1 tn) n.toInt.toNat (fun j => cz_v E (cz_dflt y0.1)))
            rw [e1]
            congr 2
            funext j
            exact (t4 E).symm
          obtain ⟨hP', hz⟩ := hP.push n.toInt.toNat hat z1 o1
          have kk := k H1 locs (cells + 1) (slots + n.toInt.toNat) hP' hL (by rw [cz_push_1]; omega) (by rw [cz_push_2]; omega)
          rw [hz]
          exact kk
        · cases hf
    · cases hf
  · cases hf
theorem cz_nq_ok (X : cz_Cx p e R s m meth c K E M d C0 S0) (hM : cz_okM M) {x : Nat} (hd : decode M.2.1.1 pc = .ok (.anewarray x, 3)) (hf : cz_hnq M x pc st h = some S)
    (hP : cz_HP cz_cl K E h H) (hL : ∀ y ∈ locs, E.2 ≤ y.base) (hc : C0 + cells = h.1) (hs : S0 + slots = h.2.1) (k : cz_Go p l e R s m args below meth c Q K E C0 S0 ls S) :
    W p l e R s m args below meth c H locs cells slots Q (F0 m pc ls (st.map (cz_v E))) := by
  obtain ⟨hx, -, hb, -, -, -, hnm, hown, -, hW, hRc, hRs, -⟩ := X
  unfold cz_hnq at hf
  split at hf
  · rename_i n rest
    cases hq : cz_lk M (x + 65536) with
    | none => rw [hq] at hf; cases hf
    | some q =>
      rw [hq] at hf
      have hl := hM.2 _ q hq
      obtain ⟨tag, tn, kf, c3⟩ := q
      cases hr : (Nat.beq tag 10 && (decide (0 ≤ n.toInt) && cz_room h 1 n.toInt.toNat && Nat.ble (n.toInt.toNat * 8) 536870912)) with
      | false => simp only [hr, cond_false] at hf; cases hf
      | true =>
        simp only [hr, cond_true] at hf
        simp only [Bool.and_eq_true, decide_eq_true_eq, Nat.ble_eq] at hr
        obtain ⟨ht, ⟨n0, hr⟩, hby⟩ := hr
        have := Nat.eq_of_beq_eq_true ht
        subst this
        obtain ⟨r1, r2⟩ := cz_room_ok hr
        have hf : some (pc + 3, .inr (.inr (some h.1)) :: rest, cz_push h n.toInt.toNat (.inl (tn, n.toInt.toNat, fun _ => .inr (.inr none)))) = some S := hf
        cases hf
        obtain ⟨-, C, a1, a2, a3⟩ := hl
        have a1 : cz_ty[tn]? = some (.object C) := a1
        have a2 : px_in (.classLink M.1.cls x C) := by rw [Nat.add_sub_cancel] at a2; exact a2
        have hn0 : ¬ n < 0 := by rw [Int32.lt_iff_toInt_lt]; show ¬ n.toInt < 0; omega
        have hcl : n.toNatClampNeg = n.toInt.toNat := rfl
        refine W.anew hx hb hown (hW.1 _ a2 args) (hW.1 _ a3 args) rfl hd rfl hn0 (by rw [hcl]; omega) (by omega) (by rw [hcl]; omega) fun cA kA comp f1 f2 f3 f4 => ?_
        rw [hcl]
        generalize hH1 : H.push ({ cls := cA, slots := Array.replicate n.toInt.toNat .null, vm := .none } : Cell) = H1
        have z1 : H1.size = H.size + 1 := by rw [← hH1, Array.size_push]
        have e1 : H1[H.size]? = some (arrV cA n.toInt.toNat (fun _ => .null)) := by rw [← hH1, Array.getElem?_push_size, ← arrV_new]
        have o1 : ∀ q : Nat, q < H.size → H1[q]? = H[q]? := fun q hq => by rw [← hH1, Array.getElem?_push, if_neg (Nat.ne_of_lt hq)]
        have hcA : cA = K.2.1 tn := by
          obtain ⟨kA', comp', g1, g2, g3, g4⟩ := (hW.2.2.1 tn _ a1).2
          exact Option.some.inj (f1.symm.trans g4)
        subst hcA
        have hat : cz_cell cz_cl K E (.inl (tn, n.toInt.toNat, fun _ => .inr (.inr none))) H.size H1 := e1
        obtain ⟨hP', hz⟩ := hP.push n.toInt.toNat hat z1 o1
        have kk := k H1 locs (cells + 1) (slots + n.toInt.toNat) hP' hL (by rw [cz_push_1]; omega) (by rw [cz_push_2]; omega)
        rw [hz]
        exact kk
  · cases hf
theorem cz_ty_at {t : Nat} (h : t < 11) : ∃ ty : FieldType, cz_ty[t]? = some ty := ⟨cz_ty[t]'h, List.getElem?_eq_getElem h⟩
theorem cz_len_ok (X : cz_Cx p e R s m meth c K E M d C0 S0) (hd : decode M.2.1.1 pc = .ok (.arraylength, 1)) (hf : cz_hlen pc st h = some S)
    (hP : cz_HP cz_cl K E h H) (hL : ∀ y ∈ locs, E.2 ≤ y.base) (hc : C0 + cells = h.1) (hs : S0 + slots = h.2.1) (k : cz_Go p l e R s m args below meth c Q K E C0 S0 ls S) :
    W p l e R s m args below meth c H locs cells slots Q (F0 m pc ls (st.map (cz_v E))) := by
  obtain ⟨hx, -, hb, -, -, -, hnm, hown, -, hW, hRc, hRs, -⟩ := X
  unfold cz_hlen at hf
  split at hf
  · rename_i r rest
    split at hf
    · rename_i q hq
      cases hf
      obtain ⟨h1, h2', ⟨cell, g1, g2, g3, g4, g5⟩, -⟩ := cz_arr_ok hW hP hq
      obtain ⟨ty, ht⟩ := cz_ty_at h2'
      have kk := k H locs cells slots hP hL hc hs
      refine W.alen (n := Int32.ofNat q.2.1) hx hb g1 (g2 ty ht) ?_ rfl rfl hd kk
      rw [g4]
    · cases hf
  · cases hf
theorem cz_ix_ok {a : Int32} {N : Nat} (h : cz_ix a N = true) : ¬ (a < 0 ∨ N ≤ a.toNatClampNeg) ∧ a.toNatClampNeg = a.toInt.toNat := by
  simp only [cz_ix, Bool.and_eq_true, decide_eq_true_eq, Nat.blt_eq] at h
  refine ⟨?_, rfl⟩
  rw [Int32.lt_iff_toInt_lt]
  show ¬ (a.toInt < 0 ∨ N ≤ a.toInt.toNat)
  omega
/-- reading an array: the machine's row is given -/
theorem cz_aload_ok (X : cz_Cx p e R s m meth c K E M d C0 S0) {a : Int32} {r : Nat} {rest : List cz_V} {ok : Nat → Bool} (hst : st = .inl a :: .inr (.inr (some r)) :: rest) (hf : cz_aload pc rest h a r ok = some S)
    (hP : cz_HP cz_cl K E h H) (hL : ∀ y ∈ locs, E.2 ≤ y.base) (hc : C0 + cells = h.1) (hs : S0 + slots = h.2.1)
    (row : ∀ (q : Nat × Nat × (Nat → cz_V)), cz_arr h r = some q → ok q.1 = true → cz_ar K E r q s H → ¬ (a < 0 ∨ q.2.1 ≤ a.toNatClampNeg) →
      W p l e R s m args below meth c H locs cells slots Q (F0 m (pc + 1) ls (cz_v E (q.2.2 a.toNatClampNeg) :: rest.map (cz_v E))) → W p l e R s m args below meth c H locs cells slots Q (F0 m pc ls (.int a :: .ref (cz_ad E r) :: rest.map (cz_v E))))
    (k : cz_Go p l e R s m args below meth c Q K E C0 S0 ls S) : W p l e R s m args below meth c H locs cells slots Q (F0 m pc ls (st.map (cz_v E))) := by
  subst hst
  unfold cz_aload at hf
  split at hf
  · rename_i q hq
    cases hn : (cz_ix a q.2.1 && ok q.1) with
    | false => rw [hn] at hf; cases hf
    | true =>
      rw [hn] at hf
      cases hf
      simp only [Bool.and_eq_true] at hn
      obtain ⟨h1, h2', h3, -⟩ := cz_arr_ok X.2.2.2.2.2.2.2.2.2.1 hP hq
      obtain ⟨i1, i2⟩ := cz_ix_ok hn.1
      have kk := k H locs cells slots hP hL hc hs
      exact row q hq hn.2 h3 i1 kk
  · cases hf
theorem cz_astore_ok (X : cz_Cx p e R s m meth c K E M d C0 S0) {a : Int32} {r : Nat} {rest : List cz_V} {v w : cz_V} {ok : Nat → Bool} (hst : st = w :: .inl a :: .inr (.inr (some r)) :: rest) (hf : cz_astore pc rest h a r v ok = some S)
    (hP : cz_HP cz_cl K E h H) (hL : ∀ y ∈ locs, E.2 ≤ y.base) (hc : C0 + cells = h.1) (hs : S0 + slots = h.2.1)
    (row : ∀ (q : Nat × Nat × (Nat → cz_V)), cz_arr h r = some q → ok q.1 = true → H[cz_ad E r]? = some (arrV (K.2.1 q.1) q.2.1 (fun j => cz_v E (q.2.2 j))) → ¬ (a < 0 ∨ q.2.1 ≤ a.toNatClampNeg) →
      (∀ H' : Heap, H'[cz_ad E r]? = some ((arrV (K.2.1 q.1) q.2.1 (fun j => cz_v E (q.2.2 j))).setSlot a.toNatClampNeg (cz_v E v)) → H'.size = H.size → (∀ z, z ≠ cz_ad E r → H'[z]? = H[z]?) → W p l e R s m args below meth c H' (locs ++ [⟨cz_ad E r, a.toNatClampNeg⟩]) cells slots Q (F0 m (pc + 1) ls (rest.map (cz_v E)))) →
      W p l e R s m args below meth c H locs cells slots Q (F0 m pc ls (cz_v E w :: .int a :: .ref (cz_ad E r) :: rest.map (cz_v E))))
    (k : cz_Go p l e R s m args below meth c Q K E C0 S0 ls S) : W p l e R s m args below meth c H locs cells slots Q (F0 m pc ls (st.map (cz_v E))) := by
  subst hst
  unfold cz_astore at hf
  split at hf
  · rename_i q hq
    cases hn : (Nat.ble 192 r && cz_ix a q.2.1 && ok q.1) with
    | false => rw [hn] at hf; cases hf
    | true =>
      rw [hn] at hf
      cases hf
      simp only [Bool.and_eq_true, Nat.ble_eq] at hn
      obtain ⟨h1, h2', -, h3⟩ := cz_arr_ok X.2.2.2.2.2.2.2.2.2.1 hP hq
      have h3 := h3 hn.1.1
      obtain ⟨i1, i2⟩ := cz_ix_ok hn.1.2
      refine row q hq hn.2 h3 i1 fun H' f1 f2 f3 => ?_
      have hP' : cz_HP cz_cl K E (cz_setc h r (.inl (q.1, q.2.1, fun j => if j = a.toInt.toNat then v else q.2.2 j))) H' := by
        refine hP.set hn.1.1 h1.1 ?_ f2 f3
        show H'[cz_ad E r]? = some (arrV (K.2.1 q.1) q.2.1 (fun j => cz_v E (if j = a.toInt.toNat then v else q.2.2 j)))
        rw [f1, arrV_store]
        congr 2
        funext j
        unfold updV
        rw [i2]
        split <;> rfl
      exact k H' _ cells slots hP' (fun y hy => by
        rcases List.mem_append.mp hy with hy | hy
        · exact hL y hy
        · rw [List.mem_singleton.mp hy]; show E.2 ≤ cz_ad E r; rw [cz_ad_new E hn.1.1]; omega) hc hs
  · cases hf
end CzMade
