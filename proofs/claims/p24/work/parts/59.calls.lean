/-! Soundness, part 10: calls. -/
/-- what the run says with n steps left, the machine does -/
def cz_IH (n : Nat) : Prop := ∀ (d : Nat) (M : cz_M) (pc : Nat) (L : List (Nat × cz_V)) (st : List cz_V) (h : cz_H) (lv : cz_F), cz_x cz_pg n d M pc L st h = some lv → cz_okM M →
  ∀ (p : Program) (l : Launch) (e : Env) (R : Room) (s : State) (m : MethodId) (args : Array Value) (below : List Frame) (meth : Method) (c : Code) (H : Heap) (locs : List Loc) (cells slots : Nat) (ls : Array Slot) (K : cz_K) (E : cz_E) (C0 S0 : Nat),
    cz_Cx p e R s m meth c K E M d C0 S0 → lv_has ls M.2.1.2.1 (cz_lc E L) → cz_HP cz_cl K E h H → (∀ y ∈ locs, E.2 ≤ y.base) → C0 + cells = h.1 → S0 + slots = h.2.1 →
    W p l e R s m args below meth c H locs cells slots (cz_Q K E C0 S0 s below lv) (F0 m pc ls (st.map (cz_v E)))
def cz_allM : Prop := ∀ (y : Nat) (M : cz_M), cz_ms[y]? = some M → cz_okM M
section CzCalls
variable {p : Program} {l : Launch} {e : Env} {R : Room} {s : State} {m : MethodId} {args : Array Value} {below : List Frame} {meth : Method} {c : Code} {H : Heap} {locs : List Loc} {cells slots : Nat}
variable {K : cz_K} {E : cz_E} {M : cz_M} {d C0 S0 pc : Nat} {ls : Array Slot} {h : cz_H} {st : List cz_V}
/-- back from a callee: its end t, and on -/
theorem cz_after {n : Nat} (hn : cz_IH n) (X : cz_Cx p e R s m meth c K E M d C0 S0) (hM : cz_okM M) {L : List (Nat × cz_V)} (hl : lv_has ls M.2.1.2.1 (cz_lc E L)) {rest : List cz_V} {ig : Instr} (hdg : decode M.2.1.1 pc = .ok (ig, 3))
    {T : State} (X1 : Stand p l e R s m args below meth c T locs cells slots) (hT : T.heap = H) (hL : ∀ y ∈ locs, E.2 ≤ y.base) (hc : C0 + cells = h.1) (hs : S0 + slots = h.2.1) {mk : MethodId} {a : Array Value} {q : cz_F} {lv : cz_F} (hq : cz_sK (cz_x cz_pg n) d M pc L rest q = some lv) {t : State} {o : Outcome} {L' : List Loc} {k nn : Nat}
    (hrun : t.status = .running) (hend : Ended t (.java (F0 m pc ls (rest.map (cz_v E))) :: below) o) (hWm : (T.calling (F0 m pc ls (rest.map (cz_v E))) mk a).WarmedH t.vm)
    (hsame : (T.calling (F0 m pc ls (rest.map (cz_v E))) mk a).sameButNew ({ t with vm := (T.calling (F0 m pc ls (rest.map (cz_v E))) mk a).vm } : State) L' k nn) (hL' : ∀ y ∈ L', E.2 ≤ y.base) (hk : h.1 + k = q.2.1) (hnn : h.2.1 + nn = q.2.2.1) (hP : cz_HP cz_cl K E q.2 t.heap) (ho : cz_outc E q.1 o) :
    ∃ t', Steps p.tables e below t t' ∧ cz_Q K E C0 S0 s below lv t' := by
  have Xc := X
  obtain ⟨hx, htr, hb, hml, hr, hlk, hnm, hown, hrows, hW, hRc, hRs, hRf, hRl, hE⟩ := X
  have hLL : ∀ y ∈ locs ++ L', E.2 ≤ y.base := fun y hy => (List.mem_append.mp hy).elim (hL y) (hL' y)
  obtain ⟨q2, q3⟩ := q
  have hdg' : decode c.code pc = .ok (ig, 3) := by rw [hb]; exact hdg
  cases q2 with
  | inl v =>
    have ho : o = .returned (v.map (cz_v E)) := ho
    subst ho
    obtain ⟨T', X2, -, -, ht⟩ := X1.outOf (g := F0 m pc ls (rest.map (cz_v E))) rfl hdg' hend hWm hsame
    have hT' : T'.heap = t.heap := by rw [ht]; simp [State.setTop, State.modifyTopJava, State.setFrames]
    have key : ∀ w : List cz_V, (v.map (cz_v E)).toList ++ rest.map (cz_v E) = w.map (cz_v E) → cz_x cz_pg n d M (pc + 3) L w q3 = some lv → ∃ t', Steps p.tables e below t t' ∧ cz_Q K E C0 S0 s below lv t' := by
      intro w hw hx'
      obtain ⟨t', a1, b1⟩ := hn d M (pc + 3) L w q3 lv hx' hM p l e R s m args below meth c t.heap (locs ++ L') (cells + k) (slots + nn) ls K E C0 S0 Xc hl hP hLL (by show C0 + (cells + k) = q3.1; have : h.1 + k = q3.1 := hk; omega) (by show S0 + (slots + nn) = q3.2.1; have : h.2.1 + nn = q3.2.1 := hnn; omega) T' hT' X2
      refine ⟨t', ?_, b1⟩
      rw [ht]
      rw [← hw] at a1
      exact a1
    cases v with
    | none => exact key rest rfl hq
    | some w => exact key (w :: rest) rfl hq
  | inr r =>
    have ho : o = .threw (cz_ad E r) := ho
    subst ho
    obtain ⟨T', X2, -, -, ht⟩ := X1.outOfThrown (g := F0 m pc ls (rest.map (cz_v E))) rfl hend hWm hsame
    have hT' : T'.heap = t.heap := by rw [ht, Stand.throwing_heap]
    have hq' : (match cz_exc q3 r with
      | some k => (match cz_catch M pc k M.2.1.2.2.2 with
        | some (some t) => cz_x cz_pg n d M t L [.inr (.inr (some r))] q3
        | some none => bif M.2.1.2.2.2.isEmpty then some (.inr r, q3) else none
        | none => none)
      | none => none) = some lv := hq
    split at hq'
    · rename_i kx hkx
      have hkx' := hkx
      obtain ⟨r1, r3, cell, g1, g2, g3⟩ := cz_exc_ok hP hkx
      split at hq'
      · rename_i tp htp
        obtain ⟨vm', X3, st3⟩ := cz_caught X2 hown hW hM hrows (f := F0 m pc ls (rest.map (cz_v E))) rfl (a := cz_ad E r) (cell := cell) (k := kx) (t := tp) (by rw [hT']; exact g1) g3 g2 (by
          rw [g2]
          exact Vm.classAt_of_findClass (hW.2.2.2.1 kx _ (List.getElem?_eq_getElem (l := cz_ex) r3))) htp
        obtain ⟨t', a1, b1⟩ := hn d M tp L [.inr (.inr (some r))] q3 lv hq' hM p l e R s m args below meth c t.heap (locs ++ L') (cells + k) (slots + nn) ls K E C0 S0 Xc hl hP hLL (by show C0 + (cells + k) = q3.1; have : h.1 + k = q3.1 := hk; omega) (by show S0 + (slots + nn) = q3.2.1; have : h.2.1 + nn = q3.2.1 := hnn; omega) (T'.setVm vm') hT' X3
        exact ⟨t', by rw [ht]; exact st3 _ a1, b1⟩
      · cases hz : M.2.1.2.2.2.isEmpty with
        | false => rw [hz] at hq'; cases hq'
        | true =>
          rw [hz] at hq'
          cases hq'
          have hnone : c.exceptionTable.toList = [] := by
            have h5 := hrows
            rw [List.isEmpty_iff.mp hz] at h5
            exact List.map_eq_nil_iff.mp h5
          obtain ⟨hwalk, hrun', hended, hWU, hsame'⟩ := X2.leaveThrown (cz_ad E r) (g := F0 m pc ls (rest.map (cz_v E))) rfl rfl rfl (fun z hz => by rw [hnone] at hz; cases hz) hlk
          refine ⟨_, by rw [ht]; exact hwalk, _, _, cells + k, slots + nn, hrun', hended, hWU, hsame', hLL, by show C0 + (cells + k) = q3.1; have : h.1 + k = q3.1 := hk; omega, by show S0 + (slots + nn) = q3.2.1; have : h.2.1 + nn = q3.2.1 := hnn; omega, ?_, rfl⟩
          show cz_HP cz_cl K E q3 T'.heap
          rw [hT']; exact hP
      · cases hq'
    · cases hq'
/-- what a callee's walk begins with -/
theorem cz_begin {n : Nat} (hn : cz_IH n) (hAll : cz_allM) (X : cz_Cx p e R s m meth c K E M (d + 1) C0 S0) {y : Nat} {M' : cz_M} (hy : cz_ms[y]? = some M') (hY : cz_okY M') {rest as : List cz_V} {ig : Instr} (hdg : decode M.2.1.1 pc = .ok (ig, 3)) (hsz : ls.size = M.2.1.2.1)
    {T : State} (X1 : Stand p l e R s m args below meth c T locs cells slots) (hT : T.heap = H) (hc : C0 + cells = h.1) (hs : S0 + slots = h.2.1) (hP : cz_HP cz_cl K E h H) {mk : MethodId} (hmk : T.methodNamed? M'.1 = some mk)
    (hroom : cz_cat2 rest + (M'.2.1.2.1 + 11) ≤ 100) (hargs : cz_cat2 as ≤ M'.2.1.2.1) {lv : cz_F} (hx' : cz_x cz_pg n d M' 0 (cz_argl 0 as) [] h = some lv) (hsl : h.2.1 ≤ 7302232) (h1024 : h.1 ≤ 600192) :
    ∃ t, Steps p.tables e below (doInvoke e (T.setTop (F0 m pc ls (rest.map (cz_v E)))) [] mk (as.map (cz_v E)).toArray).1 t ∧ cz_Q K E h.1 h.2.1 (T.calling (F0 m pc ls (rest.map (cz_v E))) mk (as.map (cz_v E)).toArray) (.java (F0 m pc ls (rest.map (cz_v E))) :: below) lv t := by
  obtain ⟨hx, htr, hb, hml, hr, hlk, hnm, hown, hrows, hW, hRc, hRs, hRf, hRl, hE⟩ := X
  obtain ⟨hcode, hini, hplain, -⟩ := hY
  have hWT : cz_Wd K E T := hW.warm X1.warmed
  have key : ∃ (methk : Method) (ck : Code), T.vm.method? mk = some methk ∧ methk.code = some ck ∧ ck.code = M'.2.1.1 ∧ ck.maxLocals = M'.2.1.2.1 ∧ ck.exceptionTable.toList.map cz_row = M'.2.1.2.2.2 ∧ methk.sig.returnType = M'.2.1.2.2.1 ∧ methk.locks = false := by
    rcases hcode with ⟨h0, hcode⟩ | hcode
    · obtain ⟨methk, ck, a1, a2, a3, a4, a5, a6, a7, -⟩ := Cond.code_spec hmk (hWT.1 _ hcode #[])
      refine ⟨methk, ck, a1, a2, a3, a4, ?_, a5, a6⟩
      rw [h0, List.map_eq_nil_iff]
      exact Array.toList_eq_nil_iff.mpr (Array.isEmpty_iff.mp a7)
    · obtain ⟨mk', methk, ck, a0, a1, a2, a3, a4, a5, a6, a7, -⟩ := Cond.codeWith_spec (hWT.1 _ hcode #[])
      cases hmk.symm.trans a0
      exact ⟨methk, ck, a1, a2, a3, a4, a5, a6, a7⟩
  obtain ⟨methk, ck, a1, a2, a3, a4, a5, a6, a7⟩ := key
  have hEH : H.size = E.2 + (h.1 - 192) := hP.2.1
  have hl0 : lv_has (lg_sl (as.map (cz_v E)) ++ List.replicate (M'.2.1.2.1 - (lg_sl (as.map (cz_v E))).length) Slot.unset).toArray M'.2.1.2.1 (cz_lc E (cz_argl 0 as)) := by
    rw [← cz_argl_ok]
    exact lv_entry (as.map (cz_v E)) (by rw [cz_sl_len]; exact hargs)
  refine cz_enter X1 (g := F0 m pc ls (rest.map (cz_v E))) rfl (hsz.trans hml.symm) (ig := ig) (by rw [hb]; exact hdg) (as.map (cz_v E)) (R' := { frames := d, cells := 600192 - h.1, slots := 7302232 - h.2.1, locals := d * 100 }) a1 a2 a7 (State.plainMethod.of_named hplain hmk a1) (by show d + 1 ≤ _; omega) ?_ (by show cells + (600192 - h.1) ≤ _; omega) (by show slots + (7302232 - h.2.1) ≤ _; omega) ?_
  · show 2 * 0 + ((rest.map (cz_v E)).map fun v => v.category).sum + (ck.maxLocals + 11) + d * 100 ≤ R.locals
    rw [cz_cat2_ok, a4]
    have : (d + 1) * 100 = d * 100 + 100 := Nat.succ_mul d 100
    omega
  · rw [a4, lg_entry_eq, hT]
    have hvm : (T.calling (F0 m pc ls (rest.map (cz_v E))) mk (as.map (cz_v E)).toArray).vm = T.vm := by simp [State.calling, State.pushFrame, State.setFrames, State.setTop, State.modifyTopJava]
    have hhp : (T.calling (F0 m pc ls (rest.map (cz_v E))) mk (as.map (cz_v E)).toArray).heap = T.heap := by simp [State.calling, State.pushFrame, State.setFrames, State.setTop, State.modifyTopJava]
    exact hn d M' 0 (cz_argl 0 as) [] h lv hx' (hAll y M' hy) p l e _ _ mk _ _ methk ck H [] 0 0 _ K E h.1 h.2.1
      ⟨hx, htr, a3, a4, a6, a7, (name_of_methodNamed hmk a1).1, by rw [hvm]; exact findClass_of_methodNamed hmk, a5, hW.warm (by rw [hvm]; exact X1.warmed), by show 600192 ≤ (600192 - h.1) + h.1; omega, by show 7302232 ≤ (7302232 - h.2.1) + h.2.1; omega, Nat.le_refl _, Nat.le_refl _, by rw [hhp, hT, hEH]; omega⟩
      hl0 hP (fun y hy => by cases hy) rfl rfl
end CzCalls
