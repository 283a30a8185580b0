/-! Soundness, part 3: making cells, and arrays. -/
section PxMade
variable {p : Program} {l : Launch} {e : Env} {R : Room} {s : State} {m : MethodId} {args : Array Value} {below : List Frame} {meth : Method} {c : Code} {H : Heap} {locs : List Loc} {cells slots : Nat} {Q : State → Prop}
variable {K : px_K} {E : px_E} {M : px_M} {d C0 S0 pc : Nat} {ls : Array Slot} {h : px_H} {g : px_G} {st : List px_V} {S : px_N}
theorem px_room_ok {k n : Nat} (q : px_room h k n = true) : h.1 + k ≤ 1024 ∧ h.2.1 + n ≤ 7302232 := by
  simp only [px_room, Bool.and_eq_true, Nat.ble_eq] at q
  exact q
theorem px_push_1 (h : px_H) (n : Nat) (x : px_C) : (px_push h n x).1 = h.1 + 1 := rfl
theorem px_push_2 (h : px_H) (n : Nat) (x : px_C) : (px_push h n x).2.1 = h.2.1 + n := rfl
theorem px_new_ok (hC : px_allC) (X : px_Cx p e R s m meth c K E M d C0 S0) (hM : px_okM M) {x : Nat} (hd : decode M.2.1.1 pc = .ok (.new x, 3)) (hf : px_hnew px_pg M x pc st h g = some S)
    (hP : px_HP px_cl K E h H) (hG : px_Gok E.1 g) (hL : ∀ y ∈ locs, E.2.2 ≤ y.base) (hc : C0 + cells = h.1) (hs : S0 + slots = h.2.1) (k : px_Go p l e R s m args below meth c Q K E C0 S0 ls S) :
    W p l e R s m args below meth c H locs cells slots Q (F0 m pc ls (st.map (px_v E))) := by
  obtain ⟨hx, -, hb, -, -, -, hnm, hown, -, hW, hRc, hRs, -⟩ := X
  unfold px_hnew at hf
  cases hq : px_lk M x with
  | none => rw [hq] at hf; cases hf
  | some q =>
    rw [hq] at hf
    have hl := hM.2 x q hq
    obtain ⟨tag, ci, kf, c3⟩ := q
    cases ht : Nat.beq tag 8 with
    | false => simp only [ht, cond_false] at hf; cases hf
    | true =>
      have := Nat.eq_of_beq_eq_true ht
      subst this
      simp only [ht, cond_true] at hf
      split at hf
      · rename_i ks hks
        rw [px_nth_eq] at hks
        have hks : px_tl[ci]? = some ks := hks
        cases hr : px_room h 1 ks.length with
        | false => rw [hr] at hf; cases hf
        | true =>
          rw [hr] at hf
          have hf : some [(pc + 3, .inr (.inr (some h.1)) :: st, px_push h ks.length (.inr (.inl (ci, ks.map px_dflt))), g)] = some S := hf
          cases hf
          obtain ⟨r1, r2⟩ := px_room_ok hr
          obtain ⟨C, T, N, a1, a3⟩ := hl
          have a1 : px_cl[ci]? = some (C, T, N) := a1
          obtain ⟨b1, b2, b3, b4, b5, ks', e1, e2, e3⟩ := hC ci C T N a1
          cases hks.symm.trans e1
          have hts : ∀ w ∈ u_ws C T N, w.before args s = true := fun w hw => hW.1 w (b1 w hw) args
          have hKn := hW.2.1.1 ci _ a1
          refine W.newcK hx hb hown (hW.1 _ a3 args) (hW.1 _ b2 args) (hW.1 _ b3 args) rfl hd (by omega) (by omega) hKn.2.1 rfl fun H1 kC hkC f1 f2 f3 => ?_
          have hob := u_born (fun z => (parseFieldDescriptor (T z).2.2.1).getD .int) hts (fun _ hw => hw) hKn hkC f1 (fun z hz => by obtain ⟨ty, w1, -⟩ := e3 z hz; rw [w1]; rfl)
          have hat : px_cell px_cl K E (.inr (.inl (ci, ks.map px_dflt))) H.size H1 := by
            refine ⟨(C, T, N), a1, hob.to (fun z hz => ?_)⟩
            obtain ⟨ty, w1, w2, w3⟩ := e3 z hz
            show defaultValue ((parseFieldDescriptor (T z).2.2.1).getD .int) = vp_V ((ks.map px_dflt).map (px_v E)) z
            rw [w1]
            have : ((ks.map px_dflt).map (px_v E))[z]? = some (defaultValue ty) := by
              rw [List.getElem?_map, List.getElem?_map, w2]
              exact congrArg some (px_dflt_ok E w3)
            unfold vp_V
            rw [List.getD_eq_getElem?_getD, this]
            rfl
          obtain ⟨hP', hz⟩ := hP.push (by omega) ks.length hat f2 f3
          have kk := k _ (List.mem_singleton.mpr rfl) H1 locs (cells + 1) (slots + ks.length) hP' hG hL (by rw [px_push_1]; omega) (by rw [px_push_2]; omega)
          rw [hz]
          rw [e2] at kk
          exact kk
      · cases hf
theorem px_tyk {t : ArrayType} {n : Nat} (h : px_atn t = some n) : px_ty[n]? = some (newarray.typeOf t) ∧ componentBytes (newarray.typeOf t) ≤ 8 ∧ ∃ y, px_td[n]? = some y ∧ ∀ E : px_E, px_v E (px_dflt y.1) = defaultValue (newarray.typeOf t) := by
  cases t <;> first | (cases h; exact ⟨rfl, by decide, _, rfl, fun _ => rfl⟩) | cases h
theorem px_na_ok (X : px_Cx p e R s m meth c K E M d C0 S0) {t : ArrayType} (harr : px_in (.arrayClass (newarray.typeOf t))) (hd : decode M.2.1.1 pc = .ok (.newarray t, 2)) (hf : px_hna px_pg t pc st h g = some S)
    (hP : px_HP px_cl K E h H) (hG : px_Gok E.1 g) (hL : ∀ y ∈ locs, E.2.2 ≤ y.base) (hc : C0 + cells = h.1) (hs : S0 + slots = h.2.1) (k : px_Go p l e R s m args below meth c Q K E C0 S0 ls S) :
    W p l e R s m args below meth c H locs cells slots Q (F0 m pc ls (st.map (px_v E))) := by
  obtain ⟨hx, -, hb, -, -, -, hnm, hown, -, hW, hRc, hRs, -⟩ := X
  unfold px_hna at hf
  split at hf
  · rename_i n rest
    split at hf
    · rename_i tn htn
      obtain ⟨t1, t2, y0, t3, t4⟩ := px_tyk htn
      cases hr : (px_ile 0 n && px_room h 1 n.toNat && Nat.ble (n.toNat * 8) 536870912) with
      | false => rw [hr] at hf; cases hf
      | true =>
        rw [hr] at hf
        simp only [Bool.and_eq_true, px_ile_eq, decide_eq_true_eq, Nat.ble_eq] at hr
        obtain ⟨⟨n0, hr⟩, hby⟩ := hr
        obtain ⟨r1, r2⟩ := px_room_ok hr
        simp only [cond_true] at hf
        split at hf
        · rename_i y hy
          rw [px_nth_eq] at hy
          cases Option.some.inj (hy.symm.trans t3)
          have hf : some [(pc + 2, .inr (.inr (some h.1)) :: rest, px_push h n.toNat (.inl (tn, n.toNat, px_dflt y0.1, [])), g)] = some S := hf
          cases hf
          have nb : (Int32.ofInt n).toInt = n := by
            rw [Int32.toInt_ofInt_of_le] <;> omega
          have hn0 : ¬ Int32.ofInt n < 0 := by rw [Int32.lt_iff_toInt_lt, nb]; show ¬ n < 0; omega
          have hcl : (Int32.ofInt n).toNatClampNeg = n.toNat := by unfold Int32.toNatClampNeg; rw [nb]
          refine va_newaK hx hb (hW.1 _ harr args) rfl hd rfl hn0 hcl (by have := Nat.mul_le_mul_left n.toNat t2; omega) (by omega) (by omega) rfl fun H1 cA e1 z1 o1 hAr hNm => ?_
          have hcA : cA = K.2.1 tn := by
            have h9 := (hW.2.2.1 tn _ t1).2
            have : s.vm.findClass ("[" ++ (newarray.typeOf t).toString) = some (K.2.1 tn) := by
              cases t <;> exact h9
            exact Option.some.inj (hNm.symm.trans this)
          subst hcA
          have hat : px_cell px_cl K E (.inl (tn, n.toNat, px_dflt y0.1, [])) H.size H1 := by
            show H1[H.size]? = some (arrV (K.2.1 tn) n.toNat (fun j => px_v E (px_at (px_dflt y0.1) j [])))
            rw [e1]
            congr 2
            funext j
            exact (t4 E).symm
          obtain ⟨hP', hz⟩ := hP.push (by omega) n.toNat hat z1 o1
          have kk := k _ (List.mem_singleton.mpr rfl) H1 locs (cells + 1) (slots + n.toNat) hP' hG hL (by rw [px_push_1]; omega) (by rw [px_push_2]; omega)
          rw [hz]
          exact kk
        · cases hf
    · cases hf
  · cases hf
theorem px_nq_ok (X : px_Cx p e R s m meth c K E M d C0 S0) (hM : px_okM M) {x : Nat} (hd : decode M.2.1.1 pc = .ok (.anewarray x, 3)) (hf : px_hnq M x pc st h g = some S)
    (hP : px_HP px_cl K E h H) (hG : px_Gok E.1 g) (hL : ∀ y ∈ locs, E.2.2 ≤ y.base) (hc : C0 + cells = h.1) (hs : S0 + slots = h.2.1) (k : px_Go p l e R s m args below meth c Q K E C0 S0 ls S) :
    W p l e R s m args below meth c H locs cells slots Q (F0 m pc ls (st.map (px_v E))) := by
  obtain ⟨hx, -, hb, -, -, -, hnm, hown, -, hW, hRc, hRs, -⟩ := X
  unfold px_hnq at hf
  split at hf
  · rename_i n rest
    cases hq : px_lk M (x + 65536) with
    | none => rw [hq] at hf; cases hf
    | some q =>
      rw [hq] at hf
      have hl := hM.2 _ q hq
      obtain ⟨tag, tn, kf, c3⟩ := q
      cases hr : (Nat.beq tag 10 && (px_ile 0 n && px_room h 1 n.toNat && Nat.ble (n.toNat * 8) 536870912)) with
      | false => simp only [hr, cond_false] at hf; cases hf
      | true =>
        simp only [hr, cond_true] at hf
        simp only [Bool.and_eq_true, px_ile_eq, decide_eq_true_eq, Nat.ble_eq] at hr
        obtain ⟨ht, ⟨n0, hr⟩, hby⟩ := hr
        have := Nat.eq_of_beq_eq_true ht
        subst this
        obtain ⟨r1, r2⟩ := px_room_ok hr
        have hf : some [(pc + 3, .inr (.inr (some h.1)) :: rest, px_push h n.toNat (.inl (tn, n.toNat, .inr (.inr none), [])), g)] = some S := hf
        cases hf
        obtain ⟨-, C, a1, a2, a3⟩ := hl
        have a1 : px_ty[tn]? = some (.object C) := a1
        have a2 : px_in (.classLink M.1.cls x C) := by rw [Nat.add_sub_cancel] at a2; exact a2
        have nb : (Int32.ofInt n).toInt = n := by
          rw [Int32.toInt_ofInt_of_le] <;> omega
        have hn0 : ¬ Int32.ofInt n < 0 := by rw [Int32.lt_iff_toInt_lt, nb]; show ¬ n < 0; omega
        have hcl : (px_i E.1 (.inl n)).toNatClampNeg = n.toNat := by show (Int32.ofInt n).toNatClampNeg = _; unfold Int32.toNatClampNeg; rw [nb]
        refine W.anew hx hb hown (hW.1 _ a2 args) (hW.1 _ a3 args) rfl hd rfl hn0 (by rw [hcl]; omega) (by omega) (by rw [hcl]; omega) fun cA kA comp f1 f2 f3 f4 => ?_
        rw [hcl]
        generalize hH1 : H.push ({ cls := cA, slots := Array.replicate n.toNat .null, vm := .none } : Cell) = H1
        have z1 : H1.size = H.size + 1 := by rw [← hH1, Array.size_push]
        have e1 : H1[H.size]? = some (arrV cA n.toNat (fun _ => .null)) := by rw [← hH1, Array.getElem?_push_size, ← arrV_new]
        have o1 : ∀ q : Nat, q < H.size → H1[q]? = H[q]? := fun q hq => by rw [← hH1, Array.getElem?_push, if_neg (Nat.ne_of_lt hq)]
        have hcA : cA = K.2.1 tn := by
          obtain ⟨kA', comp', g1, g2, g3, g4⟩ := (hW.2.2.1 tn _ a1).2
          exact Option.some.inj (f1.symm.trans g4)
        subst hcA
        have hat : px_cell px_cl K E (.inl (tn, n.toNat, .inr (.inr none), [])) H.size H1 := e1
        obtain ⟨hP', hz⟩ := hP.push (by omega) n.toNat hat z1 o1
        have kk := k _ (List.mem_singleton.mpr rfl) H1 locs (cells + 1) (slots + n.toNat) hP' hG hL (by rw [px_push_1]; omega) (by rw [px_push_2]; omega)
        rw [hz]
        exact kk
  · cases hf
theorem px_ty_at {t : Nat} (h : t < 11) : ∃ ty : FieldType, px_ty[t]? = some ty := ⟨px_ty[t]'h, List.getElem?_eq_getElem h⟩
theorem px_stay_ok (gs : List px_G) (hg : ∃ q ∈ gs, px_Gok E.1 q) (hP : px_HP px_cl K E h H) (hL : ∀ y ∈ locs, E.2.2 ≤ y.base) (hc : C0 + cells = h.1) (hs : S0 + slots = h.2.1)
    (k : px_Go p l e R s m args below meth c Q K E C0 S0 ls (px_stay pc st h gs)) : W p l e R s m args below meth c H locs cells slots Q (F0 m pc ls (st.map (px_v E))) := by
  obtain ⟨q, h1, h2⟩ := hg
  exact k _ (List.mem_map.mpr ⟨q, h1, rfl⟩) H locs cells slots hP h2 hL hc hs
theorem px_low_ok {q : Nat} (hP : px_HP px_cl K E h H) (hq : q < E.2.2) : H[q]? = K.2.2.2[q]? := hP.2.2.2.2 q hq
theorem px_len_ok (X : px_Cx p e R s m meth c K E M d C0 S0) (hd : decode M.2.1.1 pc = .ok (.arraylength, 1)) (hf : px_hlen pc st h g = some S)
    (hP : px_HP px_cl K E h H) (hG : px_Gok E.1 g) (hL : ∀ y ∈ locs, E.2.2 ≤ y.base) (hc : C0 + cells = h.1) (hs : S0 + slots = h.2.1) (k : px_Go p l e R s m args below meth c Q K E C0 S0 ls S) :
    W p l e R s m args below meth c H locs cells slots Q (F0 m pc ls (st.map (px_v E))) := by
  obtain ⟨hx, -, hb, -, -, -, hnm, hown, -, hW, hRc, hRs, -⟩ := X
  unfold px_hlen at hf
  split at hf
  · rename_i rest
    split at hf
    · rename_i gs hk
      cases hf
      exact px_stay_ok gs (px_know_ok hG hk) hP hL hc hs k
    · rename_i n hk
      cases hf
      obtain ⟨e1, e2⟩ := px_know_ok hG hk
      obtain ⟨L, h1, h2, h3, h4⟩ := hW.2.2.2.2.2.2.2.2.2.1
      have kk := k _ (List.mem_singleton.mpr rfl) H locs cells slots hP hG hL hc hs
      obtain ⟨scr, g1, g2, g3, g4, g5⟩ := h1
      refine W.alen (n := Int32.ofInt n) hx hb (a := E.2.1 0) (by rw [px_low_ok hP h4]; exact g1) g2 ?_ rfl rfl hd kk
      rw [g4]
      apply Int32.toInt_inj.mp
      rw [← e1]
      show _ = (E.1 7).toInt
      rw [h2]
      exact nI_toInt (by omega)
    · cases hf
  · rename_i r rest
    split at hf
    · rename_i q hq
      cases hf
      obtain ⟨h1, h2, h2', h3⟩ := px_arr_ok hP hq
      obtain ⟨ty, ht⟩ := px_ty_at h2'
      have kk := k _ (List.mem_singleton.mpr rfl) H locs cells slots hP hG hL hc hs
      refine W.alen (n := Int32.ofInt (q.2.1 : Nat)) hx hb h3 ((hW.2.2.1 q.1 ty ht).1 _ _) ?_ rfl rfl hd kk
      rw [arrV_size]
      rfl
    · cases hf
  · cases hf
theorem px_ix {n : Int} {N : Nat} (h0 : 0 ≤ n) (h1 : n.toNat < N) (a : Int32) (ha : a.toInt = n) : ¬ (a < 0 ∨ N ≤ a.toNatClampNeg) ∧ a.toNatClampNeg = n.toNat := by
  have hcl : a.toNatClampNeg = n.toNat := by unfold Int32.toNatClampNeg; rw [ha]
  refine ⟨?_, hcl⟩
  rw [hcl, Int32.lt_iff_toInt_lt, ha]
  show ¬ (n < 0 ∨ _)
  omega
/-- reading an array: the machine's row is given -/
theorem px_aload_ok (X : px_Cx p e R s m meth c K E M d C0 S0) {a : px_I} {r : Nat} {rest : List px_V} {ok : Nat → Bool} (hst : st = .inl a :: .inr (.inr (some r)) :: rest) (hf : px_aload pc st rest h g a r ok = some S)
    (hP : px_HP px_cl K E h H) (hG : px_Gok E.1 g) (hL : ∀ y ∈ locs, E.2.2 ≤ y.base) (hc : C0 + cells = h.1) (hs : S0 + slots = h.2.1)
    (row : ∀ (q : Nat × Nat × px_V × List (Nat × px_V)) (j : Int32), px_arr h r = some q → ok q.1 = true → H[px_ad E r]? = some (arrV (K.2.1 q.1) q.2.1 (fun j => px_v E (px_at q.2.2.1 j q.2.2.2))) → ¬ (j < 0 ∨ q.2.1 ≤ j.toNatClampNeg) →
      W p l e R s m args below meth c H locs cells slots Q (F0 m (pc + 1) ls (px_v E (px_at q.2.2.1 j.toNatClampNeg q.2.2.2) :: rest.map (px_v E))) → W p l e R s m args below meth c H locs cells slots Q (F0 m pc ls (.int j :: .ref (px_ad E r) :: rest.map (px_v E))))
    (k : px_Go p l e R s m args below meth c Q K E C0 S0 ls S) : W p l e R s m args below meth c H locs cells slots Q (F0 m pc ls (st.map (px_v E))) := by
  subst hst
  unfold px_aload at hf
  split at hf
  · rename_i gs hk
    cases hf
    exact px_stay_ok gs (px_know_ok hG hk) hP hL hc hs k
  · rename_i n hk
    split at hf
    · rename_i q hq
      cases hn : (px_ile 0 n && Nat.blt n.toNat q.2.1 && ok q.1) with
      | false => rw [hn] at hf; cases hf
      | true =>
        rw [hn] at hf
        cases hf
        simp only [Bool.and_eq_true, px_ile_eq, decide_eq_true_eq, Nat.blt_eq] at hn
        obtain ⟨h1, h2, h2', h3⟩ := px_arr_ok hP hq
        obtain ⟨e1, e2⟩ := px_know_ok hG hk
        obtain ⟨i1, i2⟩ := px_ix hn.1.1 hn.1.2 _ e2
        have kk := k _ (List.mem_singleton.mpr rfl) H locs cells slots hP hG hL hc hs
        exact row q _ hq hn.2 h3 i1 (by rw [i2]; exact kk)
    · cases hf
  · cases hf
theorem px_astore_ok (X : px_Cx p e R s m meth c K E M d C0 S0) {a : px_I} {r : Nat} {rest : List px_V} {v w : px_V} {ok : Nat → Bool} (hst : st = w :: .inl a :: .inr (.inr (some r)) :: rest) (hf : px_astore pc st rest h g a r v ok = some S)
    (hP : px_HP px_cl K E h H) (hG : px_Gok E.1 g) (hL : ∀ y ∈ locs, E.2.2 ≤ y.base) (hc : C0 + cells = h.1) (hs : S0 + slots = h.2.1)
    (row : ∀ (q : Nat × Nat × px_V × List (Nat × px_V)) (j : Int32), px_arr h r = some q → ok q.1 = true → H[px_ad E r]? = some (arrV (K.2.1 q.1) q.2.1 (fun j => px_v E (px_at q.2.2.1 j q.2.2.2))) → ¬ (j < 0 ∨ q.2.1 ≤ j.toNatClampNeg) →
      (∀ H' : Heap, H'[px_ad E r]? = some ((arrV (K.2.1 q.1) q.2.1 (fun j => px_v E (px_at q.2.2.1 j q.2.2.2))).setSlot j.toNatClampNeg (px_v E v)) → H'.size = H.size → (∀ z, z ≠ px_ad E r → H'[z]? = H[z]?) → W p l e R s m args below meth c H' (locs ++ [⟨px_ad E r, j.toNatClampNeg⟩]) cells slots Q (F0 m (pc + 1) ls (rest.map (px_v E)))) →
      W p l e R s m args below meth c H locs cells slots Q (F0 m pc ls (px_v E w :: .int j :: .ref (px_ad E r) :: rest.map (px_v E))))
    (k : px_Go p l e R s m args below meth c Q K E C0 S0 ls S) : W p l e R s m args below meth c H locs cells slots Q (F0 m pc ls (st.map (px_v E))) := by
  subst hst
  unfold px_astore at hf
  split at hf
  · rename_i gs hk
    cases hf
    exact px_stay_ok gs (px_know_ok hG hk) hP hL hc hs k
  · rename_i n hk
    split at hf
    · rename_i q hq
      cases hn : (px_ile 0 n && Nat.blt n.toNat q.2.1 && ok q.1) with
      | false => rw [hn] at hf; cases hf
      | true =>
        rw [hn] at hf
        cases hf
        simp only [Bool.and_eq_true, px_ile_eq, decide_eq_true_eq, Nat.blt_eq] at hn
        obtain ⟨h1, h2, h2', h3⟩ := px_arr_ok hP hq
        obtain ⟨e1, e2⟩ := px_know_ok hG hk
        obtain ⟨i1, i2⟩ := px_ix hn.1.1 hn.1.2 _ e2
        refine row q _ hq hn.2 h3 i1 fun H' f1 f2 f3 => ?_
        rw [i2] at f1 ⊢
        have hP' : px_HP px_cl K E (px_setc h r (.inl (q.1, q.2.1, q.2.2.1, (n.toNat, v) :: q.2.2.2))) H' := by
          refine hP.set h1 h2 ?_ f2 f3
          show H'[px_ad E r]? = some (arrV (K.2.1 q.1) q.2.1 (fun j => px_v E (px_at q.2.2.1 j ((n.toNat, v) :: q.2.2.2))))
          rw [f1, arrV_store]
          congr 2
          funext j
          rw [px_at_cons]
          unfold updV
          split <;> rfl
        exact k _ (List.mem_singleton.mpr rfl) H' _ cells slots hP' hG (fun y hy => by
          rcases List.mem_append.mp hy with hy | hy
          · exact hL y hy
          · rw [List.mem_singleton.mp hy]; show E.2.2 ≤ px_ad E r; rw [px_ad_new E h1]; omega) hc hs
    · cases hf
  · cases hf
end PxMade
