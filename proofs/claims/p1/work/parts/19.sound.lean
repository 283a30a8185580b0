/-! Soundness, part 11: the three calls, and the theorem: what the run says, the machine does. -/
section PxSound
variable {p : Program} {l : Launch} {e : Env} {R : Room} {s : State} {m : MethodId} {args : Array Value} {below : List Frame} {meth : Method} {c : Code} {H : Heap} {locs : List Loc} {cells slots : Nat}
variable {K : px_K} {E : px_E} {M : px_M} {d C0 S0 pc : Nat} {ls : Array Slot} {h : px_H} {g : px_G} {st : List px_V}
theorem px_named {M' : px_M} (hY : px_okY M') {s : State} (ht : px_tb s) : ∃ (mk : MethodId) (methM : Method), s.methodNamed? M'.1 = some mk ∧ s.vm.method? mk = some methM ∧ parseMethodDescriptor M'.1.desc = some methM.sig := by
  rcases hY.1 with ⟨h0, hcode⟩ | hcode
  · obtain ⟨mk, hn⟩ := Cond.code_named (ht _ hcode #[])
    obtain ⟨methM, cM, h1, -, -, -, -, -, -, h2⟩ := Cond.code_spec hn (ht _ hcode #[])
    exact ⟨mk, methM, hn, h1, h2⟩
  · obtain ⟨mk, methM, cM, hn, h1, -, -, -, -, -, -, h2⟩ := Cond.codeWith_spec (ht _ hcode #[])
    exact ⟨mk, methM, hn, h1, h2⟩
theorem px_nargs {M' : px_M} {n : Nat} (hN : px_okN M' n) {sig : MethodDescriptor} (h : parseMethodDescriptor M'.1.desc = some sig) : n = sig.parameters.length := by
  unfold px_okN at hN
  rw [h] at hN
  exact (Option.some.inj hN).symm
/-- from the call's own step on -/
theorem px_goes {n : Nat} (hn : px_IH n) (hAll : px_allM) (X : px_Cx p e R s m meth c K E M d C0 S0) (hM : px_okM M) {L : List (Nat × px_V)} (hl : lv_has ls M.2.1.2.1 (px_lc E L)) {ig : Instr} (hdg : decode M.2.1.1 pc = .ok (ig, 3)) {y : Nat} {M' : px_M} (hy : px_ms[y]? = some M') (hY : px_okY M') {as rest : List px_V} {lv : List px_F}
    (hf : px_sC px_pg (px_x px_pg n) d M pc L h g (some (y, as, rest)) = some lv) (hP : px_HP px_cl K E h H) (hG : px_Gok E.1 g) (hL : ∀ y ∈ locs, E.2.2 ≤ y.base) (hc : C0 + cells = h.1) (hs : S0 + slots = h.2.1)
    {T : State} (X1 : Stand p l e R s m args below meth c T locs cells slots) (hT : T.heap = H) {mk : MethodId} (hmk : s.methodNamed? M'.1 = some mk) :
    ∃ t, Steps p.tables e below (doInvoke e (T.setTop (F0 m pc ls (rest.map (px_v E)))) [] mk (as.map (px_v E)).toArray).1 t ∧ px_Q K E C0 S0 s below lv t := by
  have hf' : (match px_nth px_ms y with
    | some M' => bif (Nat.blt 0 d && Nat.ble h.2.1 7302232) && Nat.ble (Nat.add (px_cat2 rest) (Nat.add M'.2.1.2.1 11)) 100 && Nat.ble (px_cat2 as) M'.2.1.2.1 then (match px_x px_pg n (Nat.pred d) M' 0 (px_argl 0 as) [] h g with
      | some ls => px_alln (px_sK (px_x px_pg n) d M pc L rest) ls
      | none => none) else none
    | none => none) = some lv := hf
  rw [px_nth_eq, hy] at hf'
  cases hz : ((Nat.blt 0 d && Nat.ble h.2.1 7302232) && Nat.ble (Nat.add (px_cat2 rest) (Nat.add M'.2.1.2.1 11)) 100 && Nat.ble (px_cat2 as) M'.2.1.2.1) with
  | false => simp only [hz, cond_false] at hf'; cases hf'
  | true =>
    simp only [hz, cond_true] at hf'
    simp only [Bool.and_eq_true, Nat.blt_eq, Nat.ble_eq] at hz
    obtain ⟨⟨⟨hd0, hsl⟩, hroom⟩, hargs⟩ := hz
    split at hf'
    · rename_i lv' hlv'
      obtain ⟨d', rfl⟩ : ∃ d', d = d' + 1 := ⟨d - 1, by omega⟩
      obtain ⟨t, h1, q, hq, o, L', k, nn, b1, b2, b3, b4, b5, b6, b7, b8, b9, b10⟩ := px_begin hn hAll X hy hY (rest := rest) (as := as) hdg hl.1 X1 hT hc hs hP hG (X1.named hmk) hroom hargs hlv' hsl
      obtain ⟨lq, hlq, hsub⟩ := px_alln_ok hf' q hq
      obtain ⟨t', h2, h3⟩ := px_after hn X hM hl hdg X1 hT hL hc hs hlq b1 b2 b3 b4 b5 b6 b7 b8 b9 b10
      exact ⟨t', h1.trans h2, h3.mono hsub⟩
    · cases hf'
theorem px_call_ok {n : Nat} (hn : px_IH n) (hAll : px_allM) (X : px_Cx p e R s m meth c K E M d C0 S0) (hM : px_okM M) {L : List (Nat × px_V)} (hl : lv_has ls M.2.1.2.1 (px_lc E L)) {i : Instr} (hd : decode M.2.1.1 pc = .ok (i, 3)) {f : px_M → List px_V → px_H → Option (Nat × List px_V × List px_V)} (hi : px_callB i = some f) {lv : List px_F}
    (hf : px_sC px_pg (px_x px_pg n) d M pc L h g (f M st h) = some lv) (hP : px_HP px_cl K E h H) (hG : px_Gok E.1 g) (hL : ∀ y ∈ locs, E.2.2 ≤ y.base) (hc : C0 + cells = h.1) (hs : S0 + slots = h.2.1) :
    W p l e R s m args below meth c H locs cells slots (px_Q K E C0 S0 s below lv) (F0 m pc ls (st.map (px_v E))) := by
  have Xc := X
  obtain ⟨hx, htr, hb, hml, hr, hlk, hnm, hown, hrows, hW, hRc, hRs, hRf, hRl, hE⟩ := X
  cases i
  case invokestatic x =>
    cases hi
    dsimp only at hf
    cases hcs : px_cS x M st with
    | none => rw [hcs] at hf; cases hf
    | some v =>
      rw [hcs] at hf
      unfold px_cS at hcs
      cases hq : px_lk M x with
      | none => rw [hq] at hcs; cases hcs
      | some q =>
        rw [hq] at hcs
        have hl2 := hM.2 x q hq
        obtain ⟨tag, y, na, c3⟩ := q
        cases ht : Nat.beq tag 2 with
        | false => simp only [ht, cond_false] at hcs; cases hcs
        | true =>
          have := Nat.eq_of_beq_eq_true ht
          subst this
          simp only [ht, cond_true] at hcs
          split at hcs
          · rename_i w hw
            cases hcs
            obtain ⟨e1, e2⟩ := px_take_ok hw
            obtain ⟨M', hy, hY, hN, w1, w2⟩ := hl2
            have hy : px_ms[y]? = some M' := hy
            have hN : px_okN M' na := hN
            obtain ⟨mk, methM, n1, n2, n3⟩ := px_named hY hW.1
            intro T hT X0
            have hstatic : methM.isStatic = true := Cond.static_spec n1 n2 (hW.1 _ w2 #[])
            obtain ⟨kP, hkP, -⟩ := className_of_methodNamed n1
            have hinitP : kP.init = .initialized := Cond.initialized_spec (findClass_of_methodNamed n1) hkP (hW.1 _ hY.2.1 #[])
            obtain ⟨vm₁, X₁, hstep₁⟩ := X0.invokestatic hx hown (hW.1 _ w1 args) n1 n2 hstatic hkP hinitP hY.2.2.2 (g := F0 m pc ls (st.map (px_v E))) rfl (argsL := w.1.reverse.map (px_v E)) (rest := w.2.map (px_v E)) (by rw [List.length_map, List.length_reverse, e2]; exact px_nargs hN n3) (by show st.map (px_v E) = _; rw [e1, List.map_append, List.map_reverse, List.reverse_reverse]) (by rw [hb]; exact hd)
            obtain ⟨t, h1, h2⟩ := px_goes hn hAll Xc hM hl hd hy hY hf hP hG hL hc hs X₁ hT n1
            exact ⟨t, hstep₁ _ fun acts => by rw [doInvoke_state]; exact h1, h2⟩
          · cases hcs
  case invokevirtual x =>
    cases hi
    dsimp only at hf
    cases hcs : px_cV x M st h with
    | none => rw [hcs] at hf; cases hf
    | some v =>
      rw [hcs] at hf
      unfold px_cV at hcs
      cases hq : px_lk M x with
      | none => rw [hq] at hcs; cases hcs
      | some q =>
        rw [hq] at hcs
        have hl2 := hM.2 x q hq
        obtain ⟨tag, y, na, ci⟩ := q
        cases ht : Nat.beq tag 3 with
        | false => simp only [ht, cond_false] at hcs; cases hcs
        | true =>
          have := Nat.eq_of_beq_eq_true ht
          subst this
          simp only [ht, cond_true] at hcs
          split at hcs
          · rename_i w hw
            split at hcs
            · rename_i r rest hw2
              split at hcs
              · rename_i o ho
                cases hz : Nat.beq o.1 ci with
                | false => rw [hz] at hcs; cases hcs
                | true =>
                  rw [hz] at hcs
                  have hoc := Nat.eq_of_beq_eq_true hz
                  cases hcs
                  obtain ⟨e1, e2⟩ := px_take_ok hw
                  rw [hw2] at e1
                  obtain ⟨M', T0, N0, hy, hY, hN, a0, w1, w2, w3⟩ := hl2
                  have hy : px_ms[y]? = some M' := hy
                  have hN : px_okN M' na := hN
                  have a0 : px_cl[ci]? = some (M'.1.cls, T0, N0) := a0
                  obtain ⟨o1, o2, r', g1, cell, q1, q2, q3, q4⟩ := px_obj_ok hP ho
                  intro T hT X0
                  obtain ⟨mk, methM, hnamed, hmethM, hstM, habM⟩ := Cond.instanceMethod_spec (args := #[]) (first := s) (o := none) (idx := []) (hW.1 _ w2 #[])
                  obtain ⟨mk', methM', n1, n2, n3⟩ := px_named hY hW.1
                  cases hnamed.symm.trans n1
                  cases hmethM.symm.trans n2
                  obtain ⟨c2, r2, m2, p1, p2, p3, p4, kP, hkP, hkPi⟩ := Cond.selects_spec (args := #[]) (first := s) (o := none) (idx := []) (hW.1 _ w3 #[])
                  have hfc := (hW.2.1.1 ci _ a0).2.1
                  have hcls : cell.cls = c2 := by rw [q2, hoc]; exact Option.some.inj (hfc.symm.trans p1)
                  cases (State.methodFound?_of_named hnamed hY.2.2.2).symm.trans p2
                  cases hnamed.symm.trans p3
                  have hselP : selectMethod e.platform s.vm cell.cls mk = .method mk := by rw [Launch.admits_selectMethod X0.admits, hcls]; exact p4
                  obtain ⟨vm₁, X₁, hstep₁⟩ := X0.invokevirtual hx hown (hW.1 _ w1 args) hnamed hmethM hstM hkP hkPi hY.2.2.2 (a := px_ad E r) (cell := cell) (by rw [hT]; exact q1)
                    (fun z hz => by rw [q3] at hz; cases hz) hselP hmethM habM hkP hkPi (g := F0 m pc ls (st.map (px_v E))) rfl (argsL := w.1.reverse.map (px_v E)) (rest := rest.map (px_v E)) (by rw [List.length_map, List.length_reverse, e2]; exact px_nargs hN n3) (by show st.map (px_v E) = _; rw [e1, List.map_append, List.map_reverse, List.reverse_reverse]; rfl) (by rw [hb]; exact hd)
                  obtain ⟨t, h1, h2⟩ := px_goes hn hAll Xc hM hl hd hy hY hf hP hG hL hc hs X₁ hT hnamed
                  exact ⟨t, hstep₁ _ fun acts => by rw [doInvoke_state]; exact h1, h2⟩
              · cases hcs
            · cases hcs
          · cases hcs
  case invokespecial x =>
    cases hi
    dsimp only at hf
    cases hcs : px_cI x M st with
    | none => rw [hcs] at hf; cases hf
    | some v =>
      rw [hcs] at hf
      unfold px_cI at hcs
      cases hq : px_lk M x with
      | none => rw [hq] at hcs; cases hcs
      | some q =>
        rw [hq] at hcs
        have hl2 := hM.2 x q hq
        obtain ⟨tag, y, na, c3⟩ := q
        cases ht : (Nat.beq tag 4 || Nat.beq tag 5) with
        | false => simp only [ht, cond_false] at hcs; cases hcs
        | true =>
          simp only [ht, cond_true] at hcs
          split at hcs
          · rename_i w hw
            split at hcs
            · rename_i r rest hw2
              cases hcs
              obtain ⟨e1, e2⟩ := px_take_ok hw
              rw [hw2] at e1
              have hstk : (F0 m pc ls (st.map (px_v E))).stack = (w.1.reverse.map (px_v E)).reverse ++ .ref (px_ad E r) :: rest.map (px_v E) := by show st.map (px_v E) = _; rw [e1, List.map_append, List.map_reverse, List.reverse_reverse]; rfl
              simp only [Bool.or_eq_true] at ht
              rcases ht with ht | ht
              · have := Nat.eq_of_beq_eq_true ht
                subst this
                obtain ⟨M', hy, hY, hN, k1, k2, k3, k4, w1, w2⟩ := hl2
                have hy : px_ms[y]? = some M' := hy
                have hN : px_okN M' na := hN
                intro T hT X0
                have hpl : e.platform.magicAccessors = ({} : Platform).magicAccessors := by rw [X0.admits.platform]
                obtain ⟨mk, methM, cM, kP, vm₁, hnamed, hmethM, hcodeM, -, hlocalsM, -, hkP, -, hW₁, hstep₁⟩ := Steps.initColdArgs (e := e) X0.here hx X0.warmed hpl hown k1 hY.2.2.2 (hW.1 _ w1 args) (hW.1 _ w2 args) (hW.1 _ k4 args) (f := F0 m pc ls (st.map (px_v E))) rfl (argsL := w.1.reverse.map (px_v E)) (fun sig hsig => by rw [List.length_map, List.length_reverse, e2]; exact px_nargs hN hsig) hstk (by rw [hb]; exact hd)
                have X₁ := X0.noted hW₁
                obtain ⟨t, h1, h2⟩ := px_goes hn hAll Xc hM hl hd hy hY hf hP hG hL hc hs X₁ hT hnamed
                exact ⟨t, hstep₁ _ fun acts => by rw [doInvoke_state]; exact h1, h2⟩
              · have := Nat.eq_of_beq_eq_true ht
                subst this
                obtain ⟨M', host, hy, hY, hN, k1, k2, k3, k4, w1, w2⟩ := hl2
                have hy : px_ms[y]? = some M' := hy
                have hN : px_okN M' na := hN
                intro T hT X0
                have hpl : e.platform.magicAccessors = ({} : Platform).magicAccessors := by rw [X0.admits.platform]
                obtain ⟨mk, methM, cM, kP, vm₁, hnamed, hmethM, hcodeM, -, hlocalsM, -, hkP, -, hW₁, hstep₁⟩ := Steps.initColdArgsNest (e := e) X0.here hx X0.warmed hpl hown k1 hY.2.2.2 (hW.1 _ w1 args) (hW.1 _ w2 args) (hW.1 _ k4 args) (f := F0 m pc ls (st.map (px_v E))) rfl (argsL := w.1.reverse.map (px_v E)) (fun sig hsig => by rw [List.length_map, List.length_reverse, e2]; exact px_nargs hN hsig) hstk (by rw [hb]; exact hd)
                have X₁ := X0.noted hW₁
                obtain ⟨t, h1, h2⟩ := px_goes hn hAll Xc hM hl hd hy hY hf hP hG hL hc hs X₁ hT hnamed
                exact ⟨t, hstep₁ _ fun acts => by rw [doInvoke_state]; exact h1, h2⟩
            · cases hcs
          · cases hcs
  all_goals (exact absurd hi (by simp [px_callB]))
end PxSound
