/-! L1's soundness: String.checkIndex, where the index is good. -/
section CzIndex
variable {p : Program} {l : Launch} {e : Env} {R : Room} {s : State} {m : MethodId} {args : Array Value} {below : List Frame} {meth : Method} {c : Code} {H : Heap} {locs : List Loc} {cells slots : Nat} {Q : State → Prop}
variable {K : cz_K} {E : cz_E} {M : cz_M} {d C0 S0 pc : Nat} {ls : Array Slot} {h : cz_H} {st : List cz_V}
/-- a callee of which one knows how it ends -/
abbrev cz_runs (p : Program) (l : Launch) (e : Env) (K : cz_K) (E : cz_E) (M' : cz_M) (d : Nat) (as : List cz_V) (h : cz_H) (H : Heap) (lv : cz_F) : Prop := ∀ (R : Room) (s : State) (m : MethodId) (args : Array Value) (below : List Frame) (meth : Method) (c : Code) (ls : Array Slot),
  cz_Cx p e R s m meth c K E M' d h.1 h.2.1 → lv_has ls M'.2.1.2.1 (cz_lc E (cz_argl 0 as)) → W p l e R s m args below meth c H [] 0 0 (cz_Q K E h.1 h.2.1 s below lv) (F0 m 0 ls [])
theorem cz_beginW (X : cz_Cx p e R s m meth c K E M (d + 1) C0 S0) {M' : cz_M} (hY : cz_okY M') {rest as : List cz_V} {ig : Instr} (hdg : decode M.2.1.1 pc = .ok (ig, 3)) (hsz : ls.size = M.2.1.2.1)
    {T : State} (X1 : Stand p l e R s m args below meth c T locs cells slots) (hT : T.heap = H) (hc : C0 + cells = h.1) (hs : S0 + slots = h.2.1) (hP : cz_HP cz_cl K E h H) {mk : MethodId} (hmk : T.methodNamed? M'.1 = some mk)
    (hroom : cz_cat2 rest + (M'.2.1.2.1 + 11) ≤ 100) (hargs : cz_cat2 as ≤ M'.2.1.2.1) {lv : cz_F} (hk : cz_runs p l e K E M' d as h H lv) (hsl : h.2.1 ≤ 7302232) (h1024 : h.1 ≤ 600192) :
    ∃ t, Steps p.tables e below (doInvoke e (T.setTop (F0 m pc ls (rest.map (cz_v E)))) [] mk (as.map (cz_v E)).toArray).1 t ∧ cz_Q K E h.1 h.2.1 (T.calling (F0 m pc ls (rest.map (cz_v E))) mk (as.map (cz_v E)).toArray) (.java (F0 m pc ls (rest.map (cz_v E))) :: below) lv t := by
  obtain ⟨hx, htr, hb, hml, hr, hlk, hnm, hown, hrows, hW, hRc, hRs, hRf, hRl, hE⟩ := X
  obtain ⟨hcode, hini, hplain, -⟩ := hY
  have hWT : cz_Wd K E T := hW.warm X1.warmed
  have key : ∃ (methk : Method) (ck : Code), T.vm.method? mk = some methk ∧ methk.code = some ck ∧ ck.code = M'.2.1.1 ∧ ck.maxLocals = M'.2.1.2.1 ∧ ck.exceptionTable.toList.map cz_row = M'.2.1.2.2.2 ∧ methk.sig.returnType = M'.2.1.2.2.1 ∧ methk.locks = false := by
    rcases hcode with ⟨h0, hcode⟩ | hcode
    · obtain ⟨methk, ck, a1, a2, a3, a4, a5, a6, a7, -⟩ := Cond.code_spec hmk (hWT.1 _ hcode #[])
      refine ⟨methk, ck, a1, a2, a3, a4, ?_, a5, a6⟩
      rw [h0, List.map_eq_nil_iff]
      exact Array.toList_eq_nil_iff.mpr (Array.isEmpty_iff.mp a7)
    · obtain ⟨mk', methk, ck, a0, a1, a2, a3, a4, a5, a6, a7, -⟩ := Cond.codeWith_spec (hWT.1 _ hcode #[])
      cases hmk.symm.trans a0
      exact ⟨methk, ck, a1, a2, a3, a4, a5, a6, a7⟩
  obtain ⟨methk, ck, a1, a2, a3, a4, a5, a6, a7⟩ := key
  have hEH : H.size = E.2 + (h.1 - 192) := hP.2.1
  have hl0 : lv_has (lg_sl (as.map (cz_v E)) ++ List.replicate (M'.2.1.2.1 - (lg_sl (as.map (cz_v E))).length) Slot.unset).toArray M'.2.1.2.1 (cz_lc E (cz_argl 0 as)) := by
    rw [← cz_argl_ok]
    exact lv_entry (as.map (cz_v E)) (by rw [cz_sl_len]; exact hargs)
  refine cz_enter X1 (g := F0 m pc ls (rest.map (cz_v E))) rfl (hsz.trans hml.symm) (ig := ig) (by rw [hb]; exact hdg) (as.map (cz_v E)) (R' := { frames := d, cells := 600192 - h.1, slots := 7302232 - h.2.1, locals := d * 100 }) a1 a2 a7 (State.plainMethod.of_named hplain hmk a1) (by show d + 1 ≤ _; omega) ?_ (by show cells + (600192 - h.1) ≤ _; omega) (by show slots + (7302232 - h.2.1) ≤ _; omega) ?_
  · show 2 * 0 + ((rest.map (cz_v E)).map fun v => v.category).sum + (ck.maxLocals + 11) + d * 100 ≤ R.locals
    rw [cz_cat2_ok, a4]
    have : (d + 1) * 100 = d * 100 + 100 := Nat.succ_mul d 100
    omega
  · rw [a4, lg_entry_eq, hT]
    have hvm : (T.calling (F0 m pc ls (rest.map (cz_v E))) mk (as.map (cz_v E)).toArray).vm = T.vm := by simp [State.calling, State.pushFrame, State.setFrames, State.setTop, State.modifyTopJava]
    have hhp : (T.calling (F0 m pc ls (rest.map (cz_v E))) mk (as.map (cz_v E)).toArray).heap = T.heap := by simp [State.calling, State.pushFrame, State.setFrames, State.setTop, State.modifyTopJava]
    exact hk _ _ mk _ _ methk ck _
      ⟨hx, htr, a3, a4, a6, a7, (name_of_methodNamed hmk a1).1, by rw [hvm]; exact findClass_of_methodNamed hmk, a5, hW.warm (by rw [hvm]; exact X1.warmed), by show 600192 ≤ (600192 - h.1) + h.1; omega, by show 7302232 ≤ (7302232 - h.2.1) + h.2.1; omega, Nat.le_refl _, Nat.le_refl _, by rw [hhp, hT, hEH]; omega⟩
      hl0
/-- a static method that returns and leaves the cells as they were -/
theorem cz_callS (X : cz_Cx p e R s m meth c K E M (d + 1) C0 S0) {x : Nat} (hdg : decode M.2.1.1 pc = .ok (.invokestatic x, 3)) (hsz : ls.size = M.2.1.2.1) {M' : cz_M} (hY : cz_okY M') {n : Nat} (hN : cz_okN M' n) (w1 : px_in (.methodLink M.1.cls x M'.1)) (w2 : px_in (.static M'.1))
    {as rest : List cz_V} (hn : as.length = n) (hroom : cz_cat2 rest + (M'.2.1.2.1 + 11) ≤ 100) (hargs : cz_cat2 as ≤ M'.2.1.2.1) (hP : cz_HP cz_cl K E h H) (hL : ∀ y ∈ locs, E.2 ≤ y.base) (hc : C0 + cells = h.1) (hs : S0 + slots = h.2.1) (hsl : h.2.1 ≤ 7302232) (h1024 : h.1 ≤ 600192)
    {v : Option cz_V} (hk : cz_runs p l e K E M' d as h H (.inl v, h)) (k : cz_Go p l e R s m args below meth c Q K E C0 S0 ls (pc + 3, v.toList ++ rest, h)) :
    W p l e R s m args below meth c H locs cells slots Q (F0 m pc ls ((as.reverse ++ rest).map (cz_v E))) := by
  have Xc := X
  obtain ⟨hx, htr, hb, hml, hr, hlk, hnm, hown, hrows, hW, hRc, hRs, hRf, hRl, hE⟩ := X
  obtain ⟨mk, methM, n1, n2, n3⟩ := cz_named hY hW.1
  intro T hT X0
  have hstatic : methM.isStatic = true := Cond.static_spec n1 n2 (hW.1 _ w2 #[])
  obtain ⟨kP, hkP, -⟩ := className_of_methodNamed n1
  have hinitP : kP.init = .initialized := Cond.initialized_spec (findClass_of_methodNamed n1) hkP (hW.1 _ hY.2.1 #[])
  obtain ⟨vm₁, X₁, hstep₁⟩ := X0.invokestatic hx hown (hW.1 _ w1 args) n1 n2 hstatic hkP hinitP hY.2.2.2 (g := F0 m pc ls ((as.reverse ++ rest).map (cz_v E))) rfl (argsL := as.map (cz_v E)) (rest := rest.map (cz_v E)) (by rw [List.length_map, hn]; exact cz_nargs hN n3) (by show (as.reverse ++ rest).map (cz_v E) = _; rw [List.map_append, List.map_reverse]) (by rw [hb]; exact hdg)
  obtain ⟨t, h1, o, L', kk, nn, b1, b2, b3, b4, b5, b6, b7, b9, b10⟩ := cz_beginW Xc hY (rest := rest) (as := as) hdg hsz X₁ hT hc hs hP (X₁.named n1) hroom hargs hk hsl h1024
  have ho : o = .returned (v.map (cz_v E)) := b10
  subst ho
  have hdg' : decode c.code pc = .ok (.invokestatic x, 3) := by rw [hb]; exact hdg
  obtain ⟨T', X2, -, -, ht⟩ := X₁.outOf (g := F0 m pc ls (rest.map (cz_v E))) rfl hdg' b2 b3 b4
  have hT' : T'.heap = t.heap := by rw [ht]; simp [State.setTop, State.modifyTopJava, State.setFrames]
  have b6 : h.1 + kk = h.1 := b6
  have b7 : h.2.1 + nn = h.2.1 := b7
  obtain ⟨t', a1, c1⟩ := k t.heap (locs ++ L') (cells + kk) (slots + nn) b9 (fun y hy => (List.mem_append.mp hy).elim (hL y) (b5 y)) (by show C0 + (cells + kk) = h.1; omega) (by show S0 + (slots + nn) = h.2.1; omega) T' hT' X2
  refine ⟨t', (hstep₁ _ fun acts => by rw [doInvoke_state]; exact h1).trans ?_, c1⟩
  rw [ht]
  have hw : (v.map (cz_v E)).toList ++ rest.map (cz_v E) = (v.toList ++ rest).map (cz_v E) := by cases v <;> simp
  rw [← hw] at a1
  exact a1
theorem cz_i2_runs {d : Nat} {i n : Int32} {w : Option Nat} (h0 : 0 ≤ i.toInt) (h1 : i.toInt < n.toInt) (hP : cz_HP cz_cl K E h H) : cz_runs p l e K E cz_i2 d [.inl i, .inl n, .inr (.inr w)] h H (.inl (some (.inl i)), h) := by
  intro R s m args below meth c ls X hl
  have hx := X.1
  have hb : c.code = prog_36_method_11_code := X.2.2.1
  have hl : lv_has ls 3 (cz_lc E [(0, .inl i), (1, .inl n), (2, .inr (.inr w))]) := hl
  refine cz_pure_ok (st := []) (L' := [(0, .inl i), (1, .inl n), (2, .inr (.inr w))]) (st' := [.inl i]) hx hb (i := .iload_n 0) (pc := 0) (by decide +kernel) hl rfl fun ls1 hl1 => ?_
  refine cz_br_ok (st := [.inl i]) (st' := []) (pc' := 4) hx hb (i := .ifCond .lt 8) (pc := 1) (len := 3) (by decide +kernel) (Or.inl rfl) ?_ ?_
  · have e0 : cz_cd .lt i 0 = false := decide_eq_false (by rw [Int32.lt_iff_toInt_lt]; show ¬ i.toInt < 0; omega)
    show some (bif cz_cd .lt i 0 then 9 else 4, []) = _
    rw [e0]
    rfl
  refine cz_pure_ok (st := []) (L' := [(0, .inl i), (1, .inl n), (2, .inr (.inr w))]) (st' := [.inl i]) hx hb (i := .iload_n 0) (pc := 4) (by decide +kernel) hl1 rfl fun ls2 hl2 => ?_
  refine cz_pure_ok (st := [.inl i]) (L' := [(0, .inl i), (1, .inl n), (2, .inr (.inr w))]) (st' := [.inl n, .inl i]) hx hb (i := .iload_n 1) (pc := 5) (by decide +kernel) hl2 rfl fun ls3 hl3 => ?_
  refine cz_br_ok (st := [.inl n, .inl i]) (st' := []) (pc' := 16) hx hb (i := .if_icmp .lt 10) (pc := 6) (len := 3) (by decide +kernel) (Or.inl rfl) ?_ ?_
  · have e0 : cz_cd .lt i n = true := decide_eq_true (by rw [Int32.lt_iff_toInt_lt]; exact h1)
    show some (bif cz_cd .lt i n then 16 else 9, []) = _
    rw [e0]
    rfl
  refine cz_pure_ok (st := []) (L' := [(0, .inl i), (1, .inl n), (2, .inr (.inr w))]) (st' := [.inl i]) hx hb (i := .iload_n 0) (pc := 16) (by decide +kernel) hl3 rfl fun ls4 hl4 => ?_
  exact cz_ret_ok X (i := .ireturn) (pc := 17) (st := [.inl i]) (by decide +kernel) rfl hP (fun y hy => by cases hy) rfl rfl
theorem cz_i1_runs {d : Nat} {i n : Int32} (hI : cz_okI0) (h0 : 0 ≤ i.toInt) (h1 : i.toInt < n.toInt) (hP : cz_HP cz_cl K E h H) (hsl : h.2.1 ≤ 7302232) (h1024 : h.1 ≤ 600192) : cz_runs p l e K E cz_i1 (d + 1) [.inl i, .inl n] h H (.inl none, h) := by
  intro R s m args below meth c ls X hl
  obtain ⟨-, -, g3, g4, g5, g6⟩ := hI
  have hx := X.1
  have hb : c.code = prog_27_method_155_code := X.2.2.1
  have hown : s.vm.findClass "java/lang/String" = some m.cls := X.2.2.2.2.2.2.2.1
  have hW : cz_Wd K E s := X.2.2.2.2.2.2.2.2.2.1
  have hl : lv_has ls 2 (cz_lc E [(0, .inl i), (1, .inl n)]) := hl
  refine cz_pure_ok (st := []) (L' := [(0, .inl i), (1, .inl n)]) (st' := [.inl i]) hx hb (i := .iload_n 0) (pc := 0) (by decide +kernel) hl rfl fun ls1 hl1 => ?_
  refine cz_pure_ok (st := [.inl i]) (L' := [(0, .inl i), (1, .inl n)]) (st' := [.inl n, .inl i]) hx hb (i := .iload_n 1) (pc := 1) (by decide +kernel) hl1 rfl fun ls2 hl2 => ?_
  obtain ⟨w, hZ⟩ := hW.2.2.2.2.2.2.2.2.2.2.2.1
  obtain ⟨cf, kf', fi, f, a, cell, z1, z2, z3, z4, z5, z6, z7, z8⟩ := hZ.kept (cz_low hP hW.2.2.2.2.2.2.2.2.2.1)
  refine W.gets hx hb hown (hW.1 _ g3 args) z1 z2 z3 z4 z5 (fun e => by rw [e] at z6; cases z6) z7 rfl (show decode prog_27_method_155_code 2 = .ok (.getstatic 1053, 3) by decide +kernel) ?_
  refine cz_callS X (x := 1059) (pc := 5) (M' := cz_i2) (n := 3) (as := [.inl i, .inl n, .inr (.inr w)]) (rest := []) (v := some (.inl i)) (by decide +kernel) hl2.1 g4 (show (parseMethodDescriptor cz_i2.1.desc).map (fun s => s.parameters.length) = some 3 by decide +kernel) g5 g6 rfl (by decide) (show (3 : Nat) ≤ 3 from Nat.le_refl 3) hP (fun y hy => by cases hy) rfl rfl hsl h1024 (cz_i2_runs h0 h1 hP) ?_
  intro H' locs' cells' slots' hP' hL' hc' hs'
  refine cz_pure_ok (st := [.inl i]) (L' := [(0, .inl i), (1, .inl n)]) (st' := []) hx hb (i := .pop) (pc := 8) (by decide +kernel) hl2 rfl fun ls3 hl3 => ?_
  exact cz_ret_ok X (i := .return_) (pc := 9) (st := []) (by decide +kernel) rfl hP' hL' hc' hs'
theorem cz_okI_ok : cz_okI := by
  intro p l e R s m args below meth c H locs cells slots Q K E M d C0 S0 pc ls h st S X hM x hsz hd hf hP hL hc hs k
  unfold cz_hci at hf
  split at hf
  · rename_i n i rest
    cases hq : cz_lk M x with
    | none => rw [hq] at hf; cases hf
    | some q =>
      rw [hq] at hf
      have hl := hM.2 x q hq
      obtain ⟨tag, v, kf, c3⟩ := q
      cases ht : (((Nat.beq tag 18 && cz_room h 0 0) && (Nat.blt 1 d && Nat.ble rest.length 20)) && (decide (0 ≤ i.toInt) && decide (i.toInt < n.toInt))) with
      | false => simp only [ht, cond_false] at hf; cases hf
      | true =>
        simp only [ht, cond_true] at hf
        simp only [Bool.and_eq_true, Nat.blt_eq, Nat.ble_eq, decide_eq_true_eq] at ht
        obtain ⟨⟨⟨ht, hrm⟩, hd0, hlen⟩, h0, h1⟩ := ht
        obtain ⟨r1, r2⟩ := cz_room_ok hrm
        have := Nat.eq_of_beq_eq_true ht
        subst this
        cases hf
        obtain ⟨w1, hI⟩ := hl
        obtain ⟨d', rfl⟩ : ∃ d', d = d' + 1 + 1 := ⟨d - 2, by omega⟩
        have hcat := cz_cat2_le rest
        exact cz_callS X (M' := cz_i1) (n := 2) (as := [.inl i, .inl n]) (rest := rest) (v := none) hd hsz hI.1 (show (parseMethodDescriptor cz_i1.1.desc).map (fun s => s.parameters.length) = some 2 by decide +kernel) w1 hI.2.1 rfl (by show cz_cat2 rest + (2 + 11) ≤ 100; omega) (show (2 : Nat) ≤ 2 from Nat.le_refl 2) hP hL hc hs r2 r1 (cz_i1_runs hI h0 h1 hP r2 r1) k
  · cases hf
end CzIndex
