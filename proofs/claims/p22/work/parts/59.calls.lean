/-! Soundness, part 10: calls. -/
/-- what the run says with n steps left, the machine does -/
def cz_IH (n : Nat) : Prop := ∀ (d : Nat) (M : cz_M) (pc : Nat) (L : List (Nat × cz_V)) (st : List cz_V) (h : cz_H) (lv : cz_F), cz_x cz_pg n d M pc L st h = some lv → cz_okM M →
  ∀ (p : Program) (l : Launch) (e : Env) (R : Room) (s : State) (m : MethodId) (args : Array Value) (below : List Frame) (meth : Method) (c : Code) (H : Heap) (locs : List Loc) (cells slots : Nat) (ls : Array Slot) (K : cz_K) (E : cz_E) (C0 S0 : Nat),
    cz_Cx p e R s m meth c K E M d C0 S0 → lv_has ls M.2.1.2.1 (cz_lc E L) → cz_HP cz_cl K E h H → (∀ y ∈ locs, E.2 ≤ y.base) → C0 + cells = h.1 → S0 + slots = h.2.1 →
    W p l e R s m args below meth c H locs cells slots (cz_Q K E C0 S0 s below lv) (F0 m pc ls (st.map (cz_v E)))
def cz_allM : Prop := ∀ (y : Nat) (M : cz_M), cz_ms[y]? = some M → cz_okM M
section CzCalls
variable {p : Program} {l : Launch} {e : Env} {R : Room} {s : State} {m : MethodId} {args : Array Value} {below : List Frame} {meth : Method} {c : Code} {H : Heap} {locs : List Loc} {cells slots : Nat}
variable {K : cz_K} {E : cz_E} {M : cz_M} {d C0 S0 pc : Nat} {ls : Array Slot} {h : cz_H} {st : List cz_V}
/-- back from a callee: its end t, and on -/
theorem cz_after {n : Nat} (hn : cz_IH n) (X : cz_Cx p e R s m meth c K E M d C0 S0) (hM : cz_okM M) {L : List (Nat × cz_V)} (hl : lv_has ls M.2.1.2.1 (cz_lc E L)) {rest : List cz_V} {ig : Instr} (hdg : decode M.2.1.1 pc = .ok (ig, 3))
    {T : State} (X1 : Stand p l e R s m args below meth c T locs cells slots) (hT : T.heap = H) (hL : ∀ y ∈ locs, E.2 ≤ y.base) (hc : C0 + cells = h.1) (hs : S0 + slots = h.2.1) {mk : MethodId} {a : Array Value} {q : cz_F} {lv : cz_F} (hq : cz_sK (cz_x cz_pg n) d M pc L rest q = some lv) {t : State} {o : Outcome} {L' : List Loc} {k nn : Nat}
    (hrun : t.status = .running) (hend : Ended t (.java (F0 m pc ls (rest.map (cz_v E))) :: below) o) (hWm : (T.calling (F0 m pc ls (rest.map (cz_v E))) mk a).WarmedH t.vm)
    (hsame : (T.calling (F0 m pc ls (rest.map (cz_v E))) mk a).sameButNew ({ t with vm := (T.calling (F0 m pc ls (rest.map (cz_v E))) mk a).vm } : State) L' k nn) (hL' : ∀ y ∈ L', E.2 ≤ y.base) (hk : h.1 + k = q.2.1) (hnn : h.2.1 + nn = q.2.2.1) (hP : cz_HP cz_cl K E q.2 t.heap) (ho : cz_outc E q.1 o) :
    ∃ t', Steps p.tables e below t t' ∧ cz_Q K E C0 S0 s below lv t' := by
  have Xc := X
  obtain ⟨hx, htr, hb, hml, hr, hlk, hnm, hown, hrows, hW, hRc, hRs, hRf, hRl, hE⟩ := X
  have hLL : ∀ y ∈ locs ++ L', E.2 ≤ y.base := fun y hy => (List.mem_append.mp hy).elim (hL y) (hL' y)
  obtain ⟨q2, q3⟩ := q
  have hdg' : decode c.code pc = .ok (ig, 3) := by rw [hb]; exact hdg
  cases q2 with
  | inl v =>
    have ho : o = .returned (v.map (cz_v E)) := ho
    subst ho
    obtain ⟨T', X2, -, -, ht⟩ := X1.outOf (g := F0 m pc ls (rest.map (cz_v E))) rfl hdg' hend hWm hsame
    have hT' : T'.heap = t.heap := by rw [ht]; simp [State.setTop, State.modifyTopJava, State.setFrames]
    have key : ∀ w : List cz_V, (v.map (cz_v E)).toList ++ rest.map (cz_v E) = w.map (cz_v E) → cz_x cz_pg n d M (pc + 3) L w q3 = some lv → ∃ t', Steps p.tables e below t t' ∧ cz_Q K E C0 S0 s below lv t' := by
      intro w hw hx'
      obtain ⟨t', a1, b1⟩ := hn d M (pc + 3) L w q3 lv hx' hM p l e R s m args below meth c t.heap (locs ++ L') (cells + k) (slots + nn) ls K E C0 S0 Xc hl hP hLL (by show C0 + (cells + k) = q3.1; have : h.1 + k = q3.1 := hk; omega) (by show S0 + (slots + nn) = q3.2.1; have : h.2.1 + nn = q3.2.1 := hnn; omega) T' hT' X2
      refine ⟨t', ?_, b1⟩
      rw [ht]
      rw [← hw] at a1
      exact a1
    cases v with
    | none => exact key rest rfl hq
    | some w => exact key (w :: rest) rfl hq
  | inr r =>
    have ho : o = .threw (cz_ad E r) := ho
    subst ho
    obtain ⟨T', X2, -, -, ht⟩ := X1.outOfThrown (g := F0 m pc ls (rest.map (cz_v E))) rfl hend hWm hsame
    have hT' : T'.heap = t.heap := by rw [ht, Stand.throwing_heap]
    have hq' : (match cz_exc q3 r with
      | some k => (match cz_catch M pc k M.2.1.2.2.2 with
        | some (some t) => cz_x cz_pg n d M t L [.inr (.inr (some r))] q3
        | some none => bif M.2.1.2.2.2.isEmpty then some (.inr r, q3) else none
        | none => none)
      | none => none) = some lv := hq
    split at hq'
    · rename_i kx hkx
      have hkx' := hkx
      obtain ⟨r1, r3, cell, g1, g2, g3⟩ := cz_exc_ok hP hkx
      split at hq'
      · rename_i tp htp
        obtain ⟨vm', X3, st3⟩ := cz_caught X2 hown hW hM hrows (f := F0 m pc ls (rest.map (cz_v E))) rfl (a := cz_ad E r) (cell := cell) (k := kx) (t := tp) (by rw [hT']; exact g1) g3 g2 (by
          rw [g2]
          exact Vm.classAt_of_findClass (hW.2.2.2.1 kx _ (List.getElem?_eq_getElem (l := cz_ex) r3))) htp
        obtain ⟨t', a1, b1⟩ := hn d M tp L [.inr (.inr (some r))] q3 lv hq' hM p l e R s m args below meth c t.heap (locs ++ L') (cells + k) (slots + nn) ls K E C0 S0 Xc hl hP hLL (by show C0 + (cells + k) = q3.1; have : h.1 + k = q3.1 := hk; omega) (by show S0 + (slots + nn) = q3.2.1; have : h.2.1 + nn = q3.2.1 := hnn; omega) (T'.setVm vm') hT' X3
        exact ⟨t', by rw [ht]; exact st3 _ a1, b1⟩
      · cases hz : M.2.1.2.2.2.isEmpty with
        | false => rw [hz] at hq'; cases hq'
        | true =>
          rw [hz] at hq'
          cases hq'
          have hnone : c.exceptionTable.toList = [] := by
            have h5 := hrows
            rw [List.isEmpty_iff.mp hz] at h5
            exact List.map_eq_nil_iff.mp h5
          obtain ⟨hwalk, hrun', hended, hWU, hsame'⟩ := X2.leaveThrown (cz_ad E r) (g := F0 m pc ls (rest.map (cz_v E))) rfl rfl rfl (fun z hz => by rw [hnone] at hz; cases hz) hlk
          refine ⟨_, by rw [ht]; exact hwalk, _, _, cells + k, slots + nn, hrun', hended, hWU, hsame', hLL, by show C0 + (cells + k) = q3.1; have : h.1 + k = q3.1 := hk; omega, by show S0 + (slots + nn) = q3.2.1; have : h.2.1 + nn = q3.2.1 := hnn; omega, ?_, rfl⟩
          show cz_HP cz_cl K E q3 T'.heap
          rw [hT']; exact hP
      · cases hq'
    · cases hq'
/-- what a callee's walk begins with -/
theorem cz_begin {n : Nat} (hn : cz_IH n) (hAll : cz_allM) (X : cz_Cx p e R s m meth c K E M (d + 1) C0 S0) {y : Nat} {M' : cz_M} (hy : cz_ms[y]? = some M') (hY : cz_okY M') {rest as : List cz_V} {ig : Instr} (hdg : decode M.2.1.1 pc = .ok (ig, 3)) (hsz : ls.size = M.2.1.2.1)
    {T : State} (X1 : Stand p l e R s m args below meth c T locs cells slots) (hT : T.heap = H) (hc : C0 + cells = h.1) (hs : S0 + slots = h.2.1) (hP : cz_HP cz_cl K E h H) {mk : MethodId} (hmk : T.methodNamed? M'.1 = some mk)
    (hroom : cz_cat2 rest + (M'.2.1.2.1 + 11) ≤ 100) (hargs : cz_cat2 as ≤ M'.2.1.2.1) {lv : cz_F} (hx' : cz_x cz_pg n d M' 0 (cz_argl 0 as) [] h = some lv) (hsl : h.2.1 ≤ 7302232) (h1024 : h.1 ≤ 600192) :
    ∃ t, Steps p.tables e below (doInvoke e (T.setTop (F0 m pc ls (rest.map (cz_v E)))) [] mk (as.map (cz_v E)).toArray).1 t ∧ cz_Q K E h.1 h.2.1 (T.calling (F0 m pc ls (rest.map (cz_v E))) mk (as.map (cz_v E)).toArray) (.java (F0 m pc ls (rest.map (cz_v E))) :: below) lv t := by
  obtain ⟨hx, htr, hb, hml, hr, hlk, hnm, hown, hrows, hW, hRc, hRs, hRf, hRl, hE⟩ := X
  obtain ⟨hcode, hini, hplain, -⟩ := hY
  have hWT : cz_Wd K E T := hW.warm X1.warmed
  have key : ∃ (methk : Method) (ck : Code), T.vm.method? mk = some methk ∧ methk.code = some ck ∧ ck.code = M'.2.1.1 ∧ ck.maxLocals = M'.2.1.2.1 ∧ ck.exceptionTable.toList.map cz_row = M'.2.1.2.2.2 ∧ methk.sig.returnType = M'.2.1.2.2.1 ∧ methk.locks = false := by
    rcases hcode with ⟨h0, hcode⟩ | hcode
    · obtain ⟨methk, ck, a1, a2, a3, a4, a5, a6, a7, -⟩ := Cond.code_spec hmk (hWT.1 _ hcode #[])
      refine ⟨methk, ck, a1, a2, a3, a4, ?_, a5, a6⟩
      rw [h0, List.map_eq_nil_iff]
      exact Array.toList_eq_nil_iff.mpr (Array.isEmpty_iff.mp a7)
    · obtain ⟨mk', methk, ck, a0, a1, a2, a3, a4, a5, a6, a7, -⟩ := Cond.codeWith_spec (hWT.1 _ hcode #[])
      cases hmk.symm.trans a0
      exact ⟨methk, ck, a1, a2, a3, a4, a5, a6, a7⟩
  obtain ⟨methk, ck, a1, a2, a3, a4, a5, a6, a7⟩ := key
  have hEH : H.size = E.2 + (h.1 - 192) := hP.2.1
  have hl0 : lv_has (lg_sl (as.map (cz_v E)) ++ List.replicate (M'.2.1.2.1 - (lg_sl (as.map (cz_v E))).length) Slot.unset).toArray M'.2.1.2.1 (cz_lc E (cz_argl 0 as)) := by
    rw [← cz_argl_ok]
    exact lv_entry (as.map (cz_v E)) (by rw [cz_sl_len]; exact hargs)
  refine cz_enter X1 (g := F0 m pc ls (rest.map (cz_v E))) rfl (hsz.trans hml.symm) (ig := ig) (by rw [hb]; exact hdg) (as.map (cz_v E)) (R' := { frames := d, cells := 600192 - h.1, slots := 7302232 - h.2.1, locals := d * 100 }) a1 a2 a7 (State.plainMethod.of_named hplain hmk a1) (by show d + 1 ≤ _; omega) ?_ (by show cells + (600192 - h.1) ≤ _; omega) (by show slots + (7302232 - h.2.1) ≤ _; omega) ?_
  · show 2 * 0 + ((rest.map (cz_v E)).map fun v => v.category).sum + (ck.maxLocals + 11) + d * 100 ≤ R.locals
    rw [cz_cat2_ok, a4]
    have : (d + 1) * 100 = d * 100 + 100 := Nat.succ_mul d 100
    omega
  · rw [a4, lg_entry_eq, hT]
    have hvm : (T.calling (F0 m pc ls (rest.map (cz_v E))) mk (as.map (cz_v E)).toArray).vm = T.vm := by simp [State.calling, State.pushFrame, State.setFrames, State.setTop, State.modifyTopJava]
    have hhp : (T.calling (F0 m pc ls (rest.map (cz_v E))) mk (as.map (cz_v E)).toArray).heap = T.heap := by simp [State.calling, State.pushFrame, State.setFrames, State.setTop, State.modifyTopJava]
    exact hn d M' 0 (cz_argl 0 as) [] h lv hx' (hAll y M' hy) p l e _ _ mk _ _ methk ck H [] 0 0 _ K E h.1 h.2.1
      ⟨hx, htr, a3, a4, a6, a7, (name_of_methodNamed hmk a1).1, by rw [hvm]; exact findClass_of_methodNamed hmk, a5, hW.warm (by rw [hvm]; exact X1.warmed), by show 600192 ≤ (600192 - h.1) + h.1; omega, by show 7302232 ≤ (7302232 - h.2.1) + h.2.1; omega, Nat.le_refl _, Nat.le_refl _, by rw [hhp, hT, hEH]; omega⟩
      hl0 hP (fun y hy => by cases hy) rfl rfl
end CzCalls
/-! Soundness, part 11: the three calls, and the theorem: what the run says, the machine does. -/
section CzSound
variable {p : Program} {l : Launch} {e : Env} {R : Room} {s : State} {m : MethodId} {args : Array Value} {below : List Frame} {meth : Method} {c : Code} {H : Heap} {locs : List Loc} {cells slots : Nat}
variable {K : cz_K} {E : cz_E} {M : cz_M} {d C0 S0 pc : Nat} {ls : Array Slot} {h : cz_H} {st : List cz_V}
theorem cz_named {M' : cz_M} (hY : cz_okY M') {s : State} (ht : px_tb s) : ∃ (mk : MethodId) (methM : Method), s.methodNamed? M'.1 = some mk ∧ s.vm.method? mk = some methM ∧ parseMethodDescriptor M'.1.desc = some methM.sig := by
  rcases hY.1 with ⟨h0, hcode⟩ | hcode
  · obtain ⟨mk, hn⟩ := Cond.code_named (ht _ hcode #[])
    obtain ⟨methM, cM, h1, -, -, -, -, -, -, h2⟩ := Cond.code_spec hn (ht _ hcode #[])
    exact ⟨mk, methM, hn, h1, h2⟩
  · obtain ⟨mk, methM, cM, hn, h1, -, -, -, -, -, -, h2⟩ := Cond.codeWith_spec (ht _ hcode #[])
    exact ⟨mk, methM, hn, h1, h2⟩
theorem cz_nargs {M' : cz_M} {n : Nat} (hN : cz_okN M' n) {sig : MethodDescriptor} (h : parseMethodDescriptor M'.1.desc = some sig) : n = sig.parameters.length := by
  unfold cz_okN at hN
  rw [h] at hN
  exact (Option.some.inj hN).symm
/-- from the call's own step on -/
theorem cz_goes {n : Nat} (hn : cz_IH n) (hAll : cz_allM) (X : cz_Cx p e R s m meth c K E M d C0 S0) (hM : cz_okM M) {L : List (Nat × cz_V)} (hl : lv_has ls M.2.1.2.1 (cz_lc E L)) {ig : Instr} (hdg : decode M.2.1.1 pc = .ok (ig, 3)) {y : Nat} {M' : cz_M} (hy : cz_ms[y]? = some M') (hY : cz_okY M') {as rest : List cz_V} {lv : cz_F}
    (hf : cz_sC cz_pg (cz_x cz_pg n) d M pc L h (some (y, as, rest)) = some lv) (hP : cz_HP cz_cl K E h H) (hL : ∀ y ∈ locs, E.2 ≤ y.base) (hc : C0 + cells = h.1) (hs : S0 + slots = h.2.1)
    {T : State} (X1 : Stand p l e R s m args below meth c T locs cells slots) (hT : T.heap = H) {mk : MethodId} (hmk : s.methodNamed? M'.1 = some mk) :
    ∃ t, Steps p.tables e below (doInvoke e (T.setTop (F0 m pc ls (rest.map (cz_v E)))) [] mk (as.map (cz_v E)).toArray).1 t ∧ cz_Q K E C0 S0 s below lv t := by
  have hf' : (match cz_ms[y]? with
    | some M' => bif (Nat.blt 0 d && cz_room h 0 0) && Nat.ble (cz_cat2 rest + (M'.2.1.2.1 + 11)) 100 && Nat.ble (cz_cat2 as) M'.2.1.2.1 then (match cz_x cz_pg n (d - 1) M' 0 (cz_argl 0 as) [] h with
      | some q => cz_sK (cz_x cz_pg n) d M pc L rest q
      | none => none) else none
    | none => none) = some lv := hf
  rw [hy] at hf'
  cases hz : ((Nat.blt 0 d && cz_room h 0 0) && Nat.ble (cz_cat2 rest + (M'.2.1.2.1 + 11)) 100 && Nat.ble (cz_cat2 as) M'.2.1.2.1) with
  | false => simp only [hz, cond_false] at hf'; cases hf'
  | true =>
    simp only [hz, cond_true] at hf'
    simp only [Bool.and_eq_true, Nat.blt_eq, Nat.ble_eq] at hz
    obtain ⟨⟨⟨hd0, hsl⟩, hroom⟩, hargs⟩ := hz
    obtain ⟨r1, r2⟩ := cz_room_ok hsl
    split at hf'
    · rename_i q hlv'
      obtain ⟨d', rfl⟩ : ∃ d', d = d' + 1 := ⟨d - 1, by omega⟩
      obtain ⟨t, h1, o, L', k, nn, b1, b2, b3, b4, b5, b6, b7, b9, b10⟩ := cz_begin hn hAll X hy hY (rest := rest) (as := as) hdg hl.1 X1 hT hc hs hP (X1.named hmk) hroom hargs hlv' (by omega) (by omega)
      obtain ⟨t', h2, h3⟩ := cz_after hn X hM hl hdg X1 hT hL hc hs hf' b1 b2 b3 b4 b5 b6 b7 b9 b10
      exact ⟨t', h1.trans h2, h3⟩
    · cases hf'
theorem cz_call_ok {n : Nat} (hn : cz_IH n) (hAll : cz_allM) (X : cz_Cx p e R s m meth c K E M d C0 S0) (hM : cz_okM M) {L : List (Nat × cz_V)} (hl : lv_has ls M.2.1.2.1 (cz_lc E L)) {i : Instr} (hd : decode M.2.1.1 pc = .ok (i, 3)) {lv : cz_F}
    (hf : cz_sC cz_pg (cz_x cz_pg n) d M pc L h (cz_call i M st h) = some lv) (hP : cz_HP cz_cl K E h H) (hL : ∀ y ∈ locs, E.2 ≤ y.base) (hc : C0 + cells = h.1) (hs : S0 + slots = h.2.1) :
    W p l e R s m args below meth c H locs cells slots (cz_Q K E C0 S0 s below lv) (F0 m pc ls (st.map (cz_v E))) := by
  have Xc := X
  obtain ⟨hx, htr, hb, hml, hr, hlk, hnm, hown, hrows, hW, hRc, hRs, hRf, hRl, hE⟩ := X
  cases i
  case invokestatic x =>
    simp only [cz_call] at hf
    cases hcs : cz_cS x M st with
    | none => rw [hcs] at hf; cases hf
    | some v =>
      rw [hcs] at hf
      unfold cz_cS at hcs
      cases hq : cz_lk M x with
      | none => rw [hq] at hcs; cases hcs
      | some q =>
        rw [hq] at hcs
        have hl2 := hM.2 x q hq
        obtain ⟨tag, y, na, c3⟩ := q
        cases ht : Nat.beq tag 2 with
        | false => simp only [ht, cond_false] at hcs; cases hcs
        | true =>
          have := Nat.eq_of_beq_eq_true ht
          subst this
          simp only [ht, cond_true] at hcs
          split at hcs
          · rename_i w hw
            cases hcs
            obtain ⟨e1, e2⟩ := cz_take_ok hw
            obtain ⟨M', hy, hY, hN, w1, w2⟩ := hl2
            have hy : cz_ms[y]? = some M' := hy
            have hN : cz_okN M' na := hN
            obtain ⟨mk, methM, n1, n2, n3⟩ := cz_named hY hW.1
            intro T hT X0
            have hstatic : methM.isStatic = true := Cond.static_spec n1 n2 (hW.1 _ w2 #[])
            obtain ⟨kP, hkP, -⟩ := className_of_methodNamed n1
            have hinitP : kP.init = .initialized := Cond.initialized_spec (findClass_of_methodNamed n1) hkP (hW.1 _ hY.2.1 #[])
            have fin : (∃ vm₁, Stand p l e R s m args below meth c (T.setVm vm₁) locs cells slots ∧ ∀ target, (∀ acts, Steps p.tables e below (doInvoke e ((T.setVm vm₁).setTop { F0 m pc ls (st.map (cz_v E)) with stack := w.2.map (cz_v E) }) acts mk (w.1.reverse.map (cz_v E)).toArray).1 target) → Steps p.tables e below (T.setTop (F0 m pc ls (st.map (cz_v E)))) target) → ∃ t, Steps p.tables e below (T.setTop (F0 m pc ls (st.map (cz_v E)))) t ∧ cz_Q K E C0 S0 s below lv t := by
              rintro ⟨vm₁, X₁, hstep₁⟩
              obtain ⟨t, h1, h2⟩ := cz_goes hn hAll Xc hM hl hd hy hY hf hP hL hc hs X₁ hT n1
              exact ⟨t, hstep₁ _ fun acts => by rw [doInvoke_state]; exact h1, h2⟩
            apply fin
            rcases w1 with w1 | ⟨host, w1⟩
            · exact X0.invokestatic hx hown (hW.1 _ w1 args) n1 n2 hstatic hkP hinitP hY.2.2.2 (g := F0 m pc ls (st.map (cz_v E))) rfl (argsL := w.1.reverse.map (cz_v E)) (rest := w.2.map (cz_v E)) (by rw [List.length_map, List.length_reverse, e2]; exact cz_nargs hN n3) (by show st.map (cz_v E) = _; rw [e1, List.map_append, List.map_reverse, List.reverse_reverse]) (by rw [hb]; exact hd)
            · exact X0.invokestaticNest hx hown (hW.1 _ w1 args) n1 n2 hstatic hkP hinitP hY.2.2.2 (g := F0 m pc ls (st.map (cz_v E))) rfl (argsL := w.1.reverse.map (cz_v E)) (rest := w.2.map (cz_v E)) (by rw [List.length_map, List.length_reverse, e2]; exact cz_nargs hN n3) (by show st.map (cz_v E) = _; rw [e1, List.map_append, List.map_reverse, List.reverse_reverse]) (by rw [hb]; exact hd)
          · cases hcs
  case invokevirtual x =>
    simp only [cz_call] at hf
    cases hcs : cz_cV x M st h with
    | none => rw [hcs] at hf; cases hf
    | some v =>
      rw [hcs] at hf
      unfold cz_cV at hcs
      cases hq : cz_lk M x with
      | none => rw [hq] at hcs; cases hcs
      | some q =>
        rw [hq] at hcs
        have hl2 := hM.2 x q hq
        obtain ⟨tag, y, na, ci⟩ := q
        cases ht : Nat.beq tag 3 with
        | false => simp only [ht, cond_false] at hcs; cases hcs
        | true =>
          have := Nat.eq_of_beq_eq_true ht
          subst this
          simp only [ht, cond_true] at hcs
          split at hcs
          · rename_i w hw
            split at hcs
            · rename_i r rest hw2
              split at hcs
              · rename_i o ho
                cases hz : Nat.beq o.1 ci with
                | false => rw [hz] at hcs; cases hcs
                | true =>
                  rw [hz] at hcs
                  have hoc := Nat.eq_of_beq_eq_true hz
                  cases hcs
                  obtain ⟨e1, e2⟩ := cz_take_ok hw
                  rw [hw2] at e1
                  obtain ⟨M', CC, T0, N0, hy, hY, hN, a0, w2, hV⟩ := hl2
                  have hy : cz_ms[y]? = some M' := hy
                  have hN : cz_okN M' na := hN
                  have a0 : cz_cl[ci]? = some (CC, T0, N0) := a0
                  have hV : cz_okV M x na CC M' := hV
                  obtain ⟨o1, ⟨r', g1, cell, q1, q2, q3, q4⟩, -⟩ := cz_obj_ok hP ho
                  intro T hT X0
                  obtain ⟨mk, methM, hnamed, hmethM, hstM, habM⟩ := Cond.instanceMethod_spec (args := #[]) (first := s) (o := none) (idx := []) (hW.1 _ w2 #[])
                  obtain ⟨mk', methM', n1, n2, n3⟩ := cz_named hY hW.1
                  cases hnamed.symm.trans n1
                  cases hmethM.symm.trans n2
                  have hfc := (hW.2.1.1 ci _ a0).2.1
                  have hstk : (F0 m pc ls (st.map (cz_v E))).stack = (w.1.reverse.map (cz_v E)).reverse ++ .ref (cz_ad E r) :: rest.map (cz_v E) := by show st.map (cz_v E) = _; rw [e1, List.map_append, List.map_reverse, List.reverse_reverse]; rfl
                  have hcl : T.heap[cz_ad E r]? = some cell := by rw [hT]; exact q1
                  have hob : ∀ z, cell.vm ≠ .statics z := fun z hz => by have q3 := q3.1; rw [hz] at q3; cases q3
                  have fin : (∃ vm₁, Stand p l e R s m args below meth c (T.setVm vm₁) locs cells slots ∧ ∀ target, (∀ acts, Steps p.tables e below (doInvoke e ((T.setVm vm₁).setTop { F0 m pc ls (st.map (cz_v E)) with stack := rest.map (cz_v E) }) acts mk (.ref (cz_ad E r) :: w.1.reverse.map (cz_v E)).toArray).1 target) → Steps p.tables e below (T.setTop (F0 m pc ls (st.map (cz_v E)))) target) → ∃ t, Steps p.tables e below (T.setTop (F0 m pc ls (st.map (cz_v E)))) t ∧ cz_Q K E C0 S0 s below lv t := by
                    rintro ⟨vm₁, X₁, hstep₁⟩
                    obtain ⟨t, h1, h2⟩ := cz_goes hn hAll Xc hM hl hd hy hY hf hP hL hc hs X₁ hT hnamed
                    exact ⟨t, hstep₁ _ fun acts => by rw [doInvoke_state]; exact h1, h2⟩
                  apply fin
                  rcases hV with ⟨w1, w3⟩ | ⟨w1, w4, w5⟩ | ⟨M0, hY0, hN0, w1, w6, w7, w3⟩
                  · obtain ⟨c2, r2, m2, p1, p2, p3, p4, kP, hkP, hkPi⟩ := Cond.selects_spec (args := #[]) (first := s) (o := none) (idx := []) (hW.1 _ w3 #[])
                    have hcls : cell.cls = c2 := by rw [q2, hoc]; exact Option.some.inj (hfc.symm.trans p1)
                    cases (State.methodFound?_of_named hnamed hY.2.2.2).symm.trans p2
                    cases hnamed.symm.trans p3
                    have hselP : selectMethod e.platform s.vm cell.cls mk = .method mk := by rw [Launch.admits_selectMethod X0.admits, hcls]; exact p4
                    exact X0.invokevirtual hx hown (hW.1 _ w1 args) hnamed hmethM hstM hkP hkPi hY.2.2.2 (a := cz_ad E r) (cell := cell) hcl hob hselP hmethM habM hkP hkPi (g := F0 m pc ls (st.map (cz_v E))) rfl (argsL := w.1.reverse.map (cz_v E)) (rest := rest.map (cz_v E)) (by rw [List.length_map, List.length_reverse, e2]; exact cz_nargs hN n3) hstk (by rw [hb]; exact hd)
                  · obtain ⟨cn, ck, r1, hcn, hck, hni, hff, hn1⟩ := Cond.sameMethod_found (args := #[]) (hW.1 _ w5 #[])
                    have hcn2 := findClass_of_methodNamed hnamed
                    cases hcn.symm.trans hcn2
                    have hpriv : s.PrivateAt M'.1 := Cond.privateMethod_at (hW.1 _ w4 #[])
                    have hselP : selectMethod e.platform s.vm cell.cls mk = .method mk := selectMethod_private hmethM (hpriv mk methM hnamed hmethM)
                    exact X0.invokevirtual hx hown (hW.1 _ w1 args) hnamed hmethM hstM hck hni hY.2.2.2 (a := cz_ad E r) (cell := cell) hcl hob hselP hmethM habM hck hni (g := F0 m pc ls (st.map (cz_v E))) rfl (argsL := w.1.reverse.map (cz_v E)) (rest := rest.map (cz_v E)) (by rw [List.length_map, List.length_reverse, e2]; exact cz_nargs hN n3) hstk (by rw [hb]; exact hd)
                  · obtain ⟨mk0, methM0, hnamed0, hmethM0, hstM0, habM0⟩ := Cond.instanceMethod_spec (args := #[]) (first := s) (o := none) (idx := []) (hW.1 _ w6 #[])
                    obtain ⟨mk0', methM0', z1, z2, z3⟩ := cz_named hY0 hW.1
                    cases hnamed0.symm.trans z1
                    cases hmethM0.symm.trans z2
                    obtain ⟨cn, ck, r1, hcn, hck, hni, hff, hn1⟩ := Cond.sameMethod_found (args := #[]) (hW.1 _ w7 #[])
                    have hcn2 := findClass_of_methodNamed hnamed0
                    cases hcn.symm.trans hcn2
                    obtain ⟨c2, r2, m2, p1, p2, p3, p4, kP, hkP, hkPi⟩ := Cond.selects_spec (args := #[]) (first := s) (o := none) (idx := []) (hW.1 _ w3 #[])
                    have hcls : cell.cls = c2 := by rw [q2, hoc]; exact Option.some.inj (hfc.symm.trans p1)
                    cases (State.methodFound?_of_named hnamed0 hY0.2.2.2).symm.trans p2
                    cases hnamed.symm.trans p3
                    have hselP : selectMethod e.platform s.vm cell.cls mk0 = .method mk := by rw [Launch.admits_selectMethod X0.admits, hcls]; exact p4
                    exact X0.invokevirtual hx hown (hW.1 _ w1 args) hnamed0 hmethM0 hstM0 hck hni hY0.2.2.2 (a := cz_ad E r) (cell := cell) hcl hob hselP hmethM habM hkP hkPi (g := F0 m pc ls (st.map (cz_v E))) rfl (argsL := w.1.reverse.map (cz_v E)) (rest := rest.map (cz_v E)) (by rw [List.length_map, List.length_reverse, e2]; exact cz_nargs hN0 z3) hstk (by rw [hb]; exact hd)
              · cases hcs
            · cases hcs
          · cases hcs
  case invokespecial x =>
    simp only [cz_call] at hf
    cases hcs : cz_cI x M st with
    | none =>
      rw [hcs] at hf
      simp only at hf
      cases hcu : cz_cU x M st h with
      | none => rw [hcu] at hf; cases hf
      | some v =>
        rw [hcu] at hf
        unfold cz_cU at hcu
        cases hq : cz_lk M x with
        | none => rw [hq] at hcu; cases hcu
        | some q =>
          rw [hq] at hcu
          have hl2 := hM.2 x q hq
          obtain ⟨tag, y, na, ci⟩ := q
          cases ht : Nat.beq tag 20 with
          | false => simp only [ht, cond_false] at hcu; cases hcu
          | true =>
            have := Nat.eq_of_beq_eq_true ht
            subst this
            simp only [ht, cond_true] at hcu
            split at hcu
            · rename_i w hw
              split at hcu
              · rename_i r rest hw2
                split at hcu
                · rename_i o ho
                  cases hz : Nat.beq o.1 ci with
                  | false => rw [hz] at hcu; cases hcu
                  | true =>
                    rw [hz] at hcu
                    have hoc := Nat.eq_of_beq_eq_true hz
                    cases hcu
                    obtain ⟨e1, e2⟩ := cz_take_ok hw
                    rw [hw2] at e1
                    obtain ⟨M', CC, T0, N0, hy, hY, hN, a0, k1, w1, w2, w3, w4⟩ := hl2
                    have hy : cz_ms[y]? = some M' := hy
                    have hN : cz_okN M' na := hN
                    have a0 : cz_cl[ci]? = some (CC, T0, N0) := a0
                    obtain ⟨o1, ⟨r', g1, cell, q1, q2, q3, q4⟩, -⟩ := cz_obj_ok hP ho
                    intro T hT X0
                    obtain ⟨mk, methM, hnamed, hmethM, hstM, habM⟩ := Cond.instanceMethod_spec (args := #[]) (first := s) (o := none) (idx := []) (hW.1 _ w2 #[])
                    obtain ⟨mk', methM', n1, n2, n3⟩ := cz_named hY hW.1
                    cases hnamed.symm.trans n1
                    cases hmethM.symm.trans n2
                    obtain ⟨pp, kk, kp, s1, s2, s3, s4, s5, s6, s7⟩ := Cond.superclass_spec (args := #[]) (first := s) (o := none) (idx := []) hown (hW.1 _ w4 #[])
                    have hmc := findClass_of_methodNamed hnamed
                    cases s1.symm.trans hmc
                    obtain ⟨hS, hfc, kC, hkC, hkind⟩ := hW.2.1.1 ci _ a0
                    have hstk : (F0 m pc ls (st.map (cz_v E))).stack = (w.1.reverse.map (cz_v E)).reverse ++ .ref (cz_ad E r) :: rest.map (cz_v E) := by show st.map (cz_v E) = _; rw [e1, List.map_append, List.map_reverse, List.reverse_reverse]; rfl
                    obtain ⟨vm₁, X₁, hstep₁⟩ := X0.invokespecialUp hx hown (owner := M'.1.cls) (x := M'.1) (hW.1 _ w1 args) (hW.1 _ w3 args) hnamed hmethM hstM habM k1 s2 s7 s1 s4 (Jvm.Free.SB.SBLen.isSubclass_self _ _ _ s3) (a := cz_ad E r) (cell := cell) (kcell := kC) (by rw [hT]; exact q1) (fun z hz => by have q3 := q3.1; rw [hz] at q3; cases q3) (by rw [q2, hoc]; exact hkC)
                      (g := F0 m pc ls (st.map (cz_v E))) rfl (argsL := w.1.reverse.map (cz_v E)) (rest := rest.map (cz_v E)) (by rw [List.length_map, List.length_reverse, e2]; exact cz_nargs hN n3) hstk (by rw [hb]; exact hd)
                    obtain ⟨t, h1, h2⟩ := cz_goes hn hAll Xc hM hl hd hy hY hf hP hL hc hs X₁ hT hnamed
                    exact ⟨t, hstep₁ _ (by rw [doInvoke_state]; exact h1), h2⟩
                · cases hcu
              · cases hcu
            · cases hcu
    | some v =>
      rw [hcs] at hf
      simp only at hf
      unfold cz_cI at hcs
      cases hq : cz_lk M x with
      | none => rw [hq] at hcs; cases hcs
      | some q =>
        rw [hq] at hcs
        have hl2 := hM.2 x q hq
        obtain ⟨tag, y, na, c3⟩ := q
        cases ht : (Nat.beq tag 4 || Nat.beq tag 5) with
        | false => simp only [ht, cond_false] at hcs; cases hcs
        | true =>
          simp only [ht, cond_true] at hcs
          split at hcs
          · rename_i w hw
            split at hcs
            · rename_i r rest hw2
              cases hcs
              obtain ⟨e1, e2⟩ := cz_take_ok hw
              rw [hw2] at e1
              have hstk : (F0 m pc ls (st.map (cz_v E))).stack = (w.1.reverse.map (cz_v E)).reverse ++ .ref (cz_ad E r) :: rest.map (cz_v E) := by show st.map (cz_v E) = _; rw [e1, List.map_append, List.map_reverse, List.reverse_reverse]; rfl
              simp only [Bool.or_eq_true] at ht
              rcases ht with ht | ht
              · have := Nat.eq_of_beq_eq_true ht
                subst this
                obtain ⟨M', hy, hY, hN, k1, k2, k3, k4, w1, w2⟩ := hl2
                have hy : cz_ms[y]? = some M' := hy
                have hN : cz_okN M' na := hN
                intro T hT X0
                have hpl : e.platform.magicAccessors = ({} : Platform).magicAccessors := by rw [X0.admits.platform]
                obtain ⟨mk, methM, cM, kP, vm₁, hnamed, hmethM, hcodeM, -, hlocalsM, -, hkP, -, hW₁, hstep₁⟩ := Steps.initColdArgs (e := e) X0.here hx X0.warmed hpl hown k1 hY.2.2.2 (hW.1 _ w1 args) (hW.1 _ w2 args) (hW.1 _ k4 args) (f := F0 m pc ls (st.map (cz_v E))) rfl (argsL := w.1.reverse.map (cz_v E)) (fun sig hsig => by rw [List.length_map, List.length_reverse, e2]; exact cz_nargs hN hsig) hstk (by rw [hb]; exact hd)
                have X₁ := X0.noted hW₁
                obtain ⟨t, h1, h2⟩ := cz_goes hn hAll Xc hM hl hd hy hY hf hP hL hc hs X₁ hT hnamed
                exact ⟨t, hstep₁ _ fun acts => by rw [doInvoke_state]; exact h1, h2⟩
              · have := Nat.eq_of_beq_eq_true ht
                subst this
                obtain ⟨M', host, hy, hY, hN, k1, k2, k3, k4, w1, w2⟩ := hl2
                have hy : cz_ms[y]? = some M' := hy
                have hN : cz_okN M' na := hN
                intro T hT X0
                have hpl : e.platform.magicAccessors = ({} : Platform).magicAccessors := by rw [X0.admits.platform]
                obtain ⟨mk, methM, cM, kP, vm₁, hnamed, hmethM, hcodeM, -, hlocalsM, -, hkP, -, hW₁, hstep₁⟩ := Steps.initColdArgsNest (e := e) X0.here hx X0.warmed hpl hown k1 hY.2.2.2 (hW.1 _ w1 args) (hW.1 _ w2 args) (hW.1 _ k4 args) (f := F0 m pc ls (st.map (cz_v E))) rfl (argsL := w.1.reverse.map (cz_v E)) (fun sig hsig => by rw [List.length_map, List.length_reverse, e2]; exact cz_nargs hN hsig) hstk (by rw [hb]; exact hd)
                have X₁ := X0.noted hW₁
                obtain ⟨t, h1, h2⟩ := cz_goes hn hAll Xc hM hl hd hy hY hf hP hL hc hs X₁ hT hnamed
                exact ⟨t, hstep₁ _ fun acts => by rw [doInvoke_state]; exact h1, h2⟩
            · cases hcs
          · cases hcs
  all_goals (exact absurd hf (by simp [cz_call, cz_sC]))
end CzSound
