/-! L1's soundness: arguments off the stack, catching. (Written by wip/p2/mk11.py.) -/
theorem cz_argl_ok (E : cz_E) : ∀ (as : List cz_V) (j : Nat), lv_args j (as.map (cz_v E)) = cz_lc E (cz_argl j as)
  | [], j => rfl
  | v :: r, j => by
    obtain a | a | a := v
    · show (j, cz_v E (.inl a)) :: lv_args (j + 1) (r.map (cz_v E)) = (j, cz_v E (.inl a)) :: cz_lc E (cz_argl (j + 1) r)
      rw [← cz_argl_ok E r]
    · show (j, cz_v E (.inr (.inl a))) :: lv_args (j + 2) (r.map (cz_v E)) = (j, cz_v E (.inr (.inl a))) :: cz_lc E (cz_argl (j + 2) r)
      rw [← cz_argl_ok E r]
    · cases a with
      | none =>
        show (j, cz_v E (.inr (.inr none))) :: lv_args (j + 1) (r.map (cz_v E)) = (j, cz_v E (.inr (.inr none))) :: cz_lc E (cz_argl (j + 1) r)
        rw [← cz_argl_ok E r]
      | some q =>
        show (j, cz_v E (.inr (.inr (some q)))) :: lv_args (j + 1) (r.map (cz_v E)) = (j, cz_v E (.inr (.inr (some q)))) :: cz_lc E (cz_argl (j + 1) r)
        rw [← cz_argl_ok E r]
theorem cz_sl_len (E : cz_E) (as : List cz_V) : (lg_sl (as.map (cz_v E))).length = cz_cat2 as := by
  induction as with
  | nil => rfl
  | cons v r ih =>
    have h2 : cz_cat2 (v :: r) = (bif cz_lg v then 2 else 1) + cz_cat2 r := by
      unfold cz_cat2
      rw [List.map_cons, List.sum_cons]
      obtain a | a | a := v <;> rfl
    have h1 := cz_cat E v
    rw [h2, ← ih]
    show (lg_sl (cz_v E v :: r.map (cz_v E))).length = _
    unfold lg_sl
    rw [List.flatMap_cons, List.length_append]
    cases hv : cz_lg v with
    | true => rw [hv] at h1; simp only [beq_iff_eq] at h1; rw [if_pos h1]; rfl
    | false => rw [cz_cat1 hv]; rfl
theorem cz_take_ok : ∀ {n : Nat} {st : List cz_V} {w : List cz_V × List cz_V}, cz_take n st = some w → st = w.1 ++ w.2 ∧ w.1.length = n
  | 0, st, w, h => by cases h; exact ⟨rfl, rfl⟩
  | n + 1, [], w, h => by cases h
  | n + 1, v :: r, w, h => by
    have h' : (match cz_take n r with
      | some q => some (v :: q.1, q.2)
      | none => none) = some w := h
    split at h'
    · rename_i q hq
      cases h'
      obtain ⟨h1, h2⟩ := cz_take_ok hq
      exact ⟨by rw [h1]; rfl, by show q.1.length + 1 = n + 1; rw [h2]⟩
    · cases h'
/-! Soundness, part 7: an exception that comes out of a callee, and the method's own handlers. -/
section CzCatch
theorem cz_fh_yes {Q : Handler → Pre} {B : CtlPost} {e : Env} {d : Bool} {acts : List Action} {s : State} {f : JFrame} {a : Addr} {x : ExceptionTableEntry} {t : List ExceptionTableEntry} {c : ClassId} {cell : Cell} (hx : covers x f.pc = true) (h0 : x.catchType ≠ 0)
    (hl : s.vm.ClassLinks e.platform f.method.cls x.catchType c) (hcell : s.heap[a]? = some cell) (hobj : ∀ k, cell.vm ≠ .statics k)
    (hk : ∃ k, s.vm.classes[cell.cls]? = some k) (hc : ∃ k, s.vm.classes[c]? = some k) (hfit : s.vm.assignable cell.cls c = true) :
    wp (findHandler.go f a (x :: t)) Q B e d acts s ↔ Q (.found x.handlerPc) d acts (s.setVm (s.vm.noted f.method.cls x.catchType (.cls c))) := by
  simp only [covers] at hx
  obtain ⟨ha, ht⟩ := (resolveClass_links e.toSetting hl).op (op := VmOp.resolveClass f.method.cls x.catchType) rfl
  have hal : s.vm.Alike (s.vm.noted f.method.cls x.catchType (.cls c)) := (Vm.Alike.refl s.vm).noted _ _ _
  obtain ⟨k1, hk1⟩ := hk
  obtain ⟨k2, hk2⟩ := hc
  obtain ⟨k1', hk1', -⟩ := hal.2.2 _ _ hk1
  obtain ⟨k2', hk2', -⟩ := hal.2.2 _ _ hk2
  have hfit' : (s.vm.noted f.method.cls x.catchType (.cls c)).assignable cell.cls c = true := by rw [hal.assignable]; exact hfit
  simp [findHandler.go, hx, h0, ha, ht, hcell, hobj, hk1', hk2', hfit', VmOp.dirties, VmOp.acts]
theorem cz_fh_no {Q : Handler → Pre} {B : CtlPost} {e : Env} {d : Bool} {acts : List Action} {s : State} {f : JFrame} {a : Addr} {x : ExceptionTableEntry} {t : List ExceptionTableEntry} {c : ClassId} {cell : Cell} (hx : covers x f.pc = true) (h0 : x.catchType ≠ 0)
    (hl : s.vm.ClassLinks e.platform f.method.cls x.catchType c) (hcell : s.heap[a]? = some cell) (hobj : ∀ k, cell.vm ≠ .statics k)
    (hk : ∃ k, s.vm.classes[cell.cls]? = some k) (hc : ∃ k, s.vm.classes[c]? = some k) (hno : s.vm.assignable cell.cls c = false) :
    wp (findHandler.go f a (x :: t)) Q B e d acts s ↔ wp (findHandler.go f a t) Q B e d acts (s.setVm (s.vm.noted f.method.cls x.catchType (.cls c))) := by
  simp only [covers] at hx
  obtain ⟨ha, ht⟩ := (resolveClass_links e.toSetting hl).op (op := VmOp.resolveClass f.method.cls x.catchType) rfl
  have hal : s.vm.Alike (s.vm.noted f.method.cls x.catchType (.cls c)) := (Vm.Alike.refl s.vm).noted _ _ _
  obtain ⟨k1, hk1⟩ := hk
  obtain ⟨k2, hk2⟩ := hc
  obtain ⟨k1', hk1', -⟩ := hal.2.2 _ _ hk1
  obtain ⟨k2', hk2', -⟩ := hal.2.2 _ _ hk2
  have hno' : (s.vm.noted f.method.cls x.catchType (.cls c)).assignable cell.cls c = false := by rw [hal.assignable]; exact hno
  simp [findHandler.go, hx, h0, ha, ht, hcell, hobj, hk1', hk2', hno', VmOp.dirties, VmOp.acts]
abbrev cz_row (h : ExceptionTableEntry) : Nat × Nat × Nat × Nat := (h.startPc, h.endPc, h.handlerPc, h.catchType)
theorem cz_covers {x : ExceptionTableEntry} {pc : Nat} : covers x pc = (Nat.ble (cz_row x).1 pc && Nat.blt pc (cz_row x).2.1) := by
  rw [Bool.eq_iff_iff]
  simp [covers, Nat.ble_eq, Nat.blt_eq]
theorem cz_asn_ok {k j : Nat} (h : cz_asn k j = true) : (k, j, false) ∈ px_asg := by
  simp only [cz_asn, Bool.or_eq_true, Bool.and_eq_true] at h
  rcases h with (⟨h1, (h2 | h2) | h2⟩ | ⟨h1, (h2 | h2) | h2⟩) | ⟨h1, h2⟩ <;> rw [Nat.eq_of_beq_eq_true h1, Nat.eq_of_beq_eq_true h2] <;> decide
theorem cz_asy_ok {k : Nat} (h : k ≤ 4) : (k, k, true) ∈ px_asg := by
  have : k = 0 ∨ k = 1 ∨ k = 2 ∨ k = 3 ∨ k = 4 := by omega
  rcases this with rfl | rfl | rfl | rfl | rfl <;> decide
/-- the search over the method's rows -/
theorem cz_fh {e : Env} {s : State} {m : MethodId} {M : cz_M} {K : cz_K} {E : cz_E} (hpl : e.platform.magicAccessors = ({} : Platform).magicAccessors) (hown : s.vm.findClass M.1.cls = some m.cls) (hW : cz_Wd K E s) (hM : cz_okM M) {f : JFrame} (hfm : f.method = m) {a : Addr} {cell : Cell} {k t : Nat}
    (hobj : ∀ z, cell.vm ≠ .statics z) (hcls : cell.cls = K.2.2.1 k) (hk0 : ∃ z, s.vm.classes[cell.cls]? = some z) :
    ∀ (es : List ExceptionTableEntry) (U : State), s.WarmedH U.vm → U.heap[a]? = some cell → cz_catch M f.pc k (es.map cz_row) = some (some t) →
      ∃ vm', s.WarmedH vm' ∧ ∀ (Q : Handler → Pre) (B : CtlPost) (d : Bool) (acts : List Action), wp (findHandler.go f a es) Q B e d acts U ↔ Q (.found t) d acts (U.setVm vm')
  | [], U, _, _, h => by cases h
  | x :: r, U, hU, hcell, h => by
    subst hfm
    have h' : (bif Nat.ble (cz_row x).1 f.pc && Nat.blt f.pc (cz_row x).2.1 then (match cz_lk M x.catchType with
      | some w => bif Nat.beq w.1 9 then (bif Nat.beq w.2.1 k && Nat.ble k 4 then some (some x.handlerPc) else bif cz_asn k w.2.1 then cz_catch M f.pc k (r.map cz_row) else none) else none
      | none => none) else cz_catch M f.pc k (r.map cz_row)) = some (some t) := h
    rw [← cz_covers] at h'
    obtain ⟨k0, hk0⟩ := hk0
    obtain ⟨k0', hk0', -⟩ := hU.alike.2.2 _ _ hk0
    cases hc : covers x f.pc with
    | false =>
      rw [hc] at h'
      obtain ⟨vm', h1, h2⟩ := cz_fh hpl hown hW hM rfl hobj hcls ⟨k0, hk0⟩ r U hU hcell h'
      exact ⟨vm', h1, fun Q B d acts => by rw [W.findHandler_go_skip hc]; exact h2 Q B d acts⟩
    | true =>
      rw [hc] at h'
      simp only [cond_true] at h'
      split at h'
      · rename_i w hw
        cases h9 : Nat.beq w.1 9 with
        | false => rw [h9] at h'; cases h'
        | true =>
          rw [h9] at h'
          simp only [cond_true] at h'
          have hl := hM.2 x.catchType w hw
          obtain ⟨tag, j, w3, w4⟩ := w
          have := Nat.eq_of_beq_eq_true h9
          subst this
          obtain ⟨h0, n, hn, hlink⟩ := hl
          have hn : cz_ex[j]? = some n := hn
          obtain ⟨c', hc', hcl⟩ := Cond.classLink_spec hown (hW.1 _ hlink #[]) e.platform hpl
          have hcj : c' = K.2.2.1 j := Option.some.inj (hc'.symm.trans (hW.2.2.2.1 j n hn))
          obtain ⟨dk, _, _, kt, hd, _, _, _, _, hkt, _, hopen⟩ := hcl.here
          obtain ⟨kt', hkt', -⟩ := hU.alike.2.2 _ _ hkt
          have hnoted := hU.noted hd hopen (State.rightAt_cls hcl)
          cases hy : (Nat.beq j k && Nat.ble k 4) with
          | true =>
            simp only [hy, cond_true] at h'
            cases h'
            simp only [Bool.and_eq_true, Nat.ble_eq] at hy
            have hjk := Nat.eq_of_beq_eq_true hy.1
            have hfit : s.vm.assignable cell.cls c' = true := by rw [hcls, hcj, hjk]; exact hW.2.2.2.2.1 _ (cz_asy_ok hy.2)
            exact ⟨_, hnoted, fun Q B d acts => cz_fh_yes hc h0 (hU.classLinks hcl) hcell hobj ⟨k0', hk0'⟩ ⟨kt', hkt'⟩ (by rw [hU.alike.assignable]; exact hfit)⟩
          | false =>
            simp only [hy, cond_false] at h'
            cases hz : cz_asn k j with
            | false => rw [hz] at h'; cases h'
            | true =>
              rw [hz] at h'
              have hno : s.vm.assignable cell.cls c' = false := by rw [hcls, hcj]; exact hW.2.2.2.2.1 _ (cz_asn_ok hz)
              obtain ⟨vm', h1, h2⟩ := cz_fh hpl hown hW hM rfl hobj hcls ⟨k0, hk0⟩ r (U.setVm (U.vm.noted f.method.cls x.catchType (.cls c'))) hnoted hcell h'
              exact ⟨vm', h1, fun Q B d acts => by
                rw [cz_fh_no hc h0 (hU.classLinks hcl) hcell hobj ⟨k0', hk0'⟩ ⟨kt', hkt'⟩ (by rw [hU.alike.assignable]; exact hno)]
                exact h2 Q B d acts⟩
      · cases h'
variable {p : Program} {l : Launch} {e : Env} {R : Room} {s : State} {m : MethodId} {args : Array Value} {below : List Frame} {meth : Method} {c : Code} {T : State} {locs : List Loc} {cells slots : Nat}
/-- caught: the handler's pc, the exception alone on the stack -/
theorem cz_caught (X : Stand p l e R s m args below meth c T locs cells slots) {M : cz_M} {K : cz_K} {E : cz_E} (hown : s.vm.findClass M.1.cls = some m.cls) (hW : cz_Wd K E s) (hM : cz_okM M) (hrows : c.exceptionTable.toList.map cz_row = M.2.1.2.2.2) {f : JFrame} (hfm : f.method = m) {a : Addr} {cell : Cell} {k t : Nat}
    (hcell : T.heap[a]? = some cell) (hobj : cell.vm.isStatics = false) (hcls : cell.cls = K.2.2.1 k) (hk0 : ∃ z, s.vm.classes[cell.cls]? = some z) (hcatch : cz_catch M f.pc k M.2.1.2.2.2 = some (some t)) :
    ∃ vm', Stand p l e R s m args below meth c (T.setVm vm') locs cells slots ∧ ∀ target, Steps p.tables e below ((T.setVm vm').setTop { f with pc := t, stack := [.ref a] }) target → Steps p.tables e below ((T.setTop f).pushFrame (.throwing a)) target := by
  have hpl : e.platform.magicAccessors = ({} : Platform).magicAccessors := by rw [X.admits.platform]
  rw [← hrows] at hcatch
  subst hfm
  obtain ⟨vm', h1, h2⟩ := cz_fh (e := e) hpl hown hW hM rfl (a := a) (cell := cell) (k := k) (t := t) (fun z w => by rw [w] at hobj; cases hobj) hcls hk0 c.exceptionTable.toList ((T.setTop f).pushFrame (.throwing a)) (by rw [Stand.throwing_vm]; exact X.warmed) (by rw [Stand.throwing_heap]; exact hcell) hcatch
  refine ⟨vm', X.noted h1, fun target hrest => ?_⟩
  have hfind : ∀ (Q : Handler → Pre) (B : CtlPost) (d : Bool) (acts : List Action), wp (findHandler f a) Q B e d acts ((T.setTop f).pushFrame (.throwing a)) ↔ Q (.found t) d acts (((T.setTop f).pushFrame (.throwing a)).setVm vm') := by
    intro Q B d acts
    rw [W.findHandler_eq (s := (T.setTop f).pushFrame (.throwing a)) (f := f) (meth := meth) (code := c) X.method' X.code]
    exact h2 Q B d acts
  have hstep : (stepThrowing e ((T.setTop f).pushFrame (.throwing a)) a (.java f :: T.frames.tail)).Is ((((T.setTop f).pushFrame (.throwing a)).setVm vm').setFrames (.java { f with pc := t, stack := [.ref a] } :: T.frames.tail)) [] := by
    simp only [stepThrowing, searchFrame, vmDo]
    generalize hr : Sem.go _ e false [] ((T.setTop f).pushFrame (.throwing a)) = res
    obtain ⟨as, rfl, ha⟩ := Sem.eq_ok_of hr (a := Handler.found t) (s' := ((T.setTop f).pushFrame (.throwing a)).setVm vm') (acts' := []) (by simp [hfind _ _ _ _])
    exact ⟨rfl, ha⟩
  obtain ⟨hgo, hw⟩ := X.here.throwing a (g := f)
  refine Steps.head hgo hw ?_
  rw [stepThread_throwing (frames_entered X.here.top _), hstep.1]
  obtain ⟨g₀, hg⟩ := Option.isSome_iff_exists.mp X.here.top
  obtain ⟨r, hr⟩ := State.topJava?_eq_some.mp hg
  have hr' : (T.setVm vm').frames = .java g₀ :: r := hr
  rw [State.setTop_of_frames _ hr'] at hrest
  have e1 : ∀ (u : State) (F G : List Frame), ((u.setFrames F).setVm vm').setFrames G = (u.setVm vm').setFrames G := fun u F G => by
    have h1 : (u.setFrames F).setVm vm' = (u.setVm vm').setFrames F := rfl
    rw [h1, State.setFrames_setFrames]
  rw [hr, List.tail_cons, State.pushFrame, e1, State.setTop_of_frames _ hr, e1]
  exact hrest
end CzCatch
/-! Soundness, part 8: an exception is made and thrown: new, dup, its constructor without arguments, athrow. -/
def px_chn : List String := ["java/lang/RuntimeException", "java/lang/Exception"]
/-- the words that the constructor of the exception called n stands on -/
def px_thA : List Cond := Bundle.throwableAtoms.filter (fun w => w.onTables)
theorem px_thA_or : ∀ x ∈ Bundle.throwableAtoms, x.onTables = true ∨ x = .laysStatic px_tN "UNASSIGNED_STACK" Bundle.steD ∨ x = .laysStatic px_tN "SUPPRESSED_SENTINEL" Bundle.listD := by decide +kernel
def px_thw (n : String) : List Cond := px_thA ++ Bundle.chain0Atoms n px_chn ++
  [.instantiable n 6, .selects n Bundle.tFill0 Bundle.tFill0, .selects n Bundle.tFill Bundle.tFill, .lays n px_tN "cause" "Ljava/lang/Throwable;", .lays n px_tN "stackTrace" Bundle.steD, .lays n px_tN "suppressedExceptions" Bundle.listD,
   .fieldLink px_tN 198 px_tN "backtrace" "Ljava/lang/Object;", .lays px_tN px_tN "backtrace" "Ljava/lang/Object;", .lays n px_tN "backtrace" "Ljava/lang/Object;"]
def px_allX : Prop := ∀ (k : Nat) (n : String), cz_ex[k]? = some n → (∀ w ∈ px_thw n, px_in w) ∧ px_in (.initialized n) ∧ Bundle.fit n = true
theorem px_zref {C n d : String} {A : Nat → Prop} {s : State} {H : Heap} (h : va_Zq C n d A s H) : ∃ u : RefV, va_Z C n d u.v A s H := by
  rcases h with h | ⟨t, h⟩
  · exact ⟨⟨.null, rfl⟩, h⟩
  · exact ⟨⟨.ref t, rfl⟩, h⟩
section PxThrow
variable {p : Program} {l : Launch} {e : Env} {R : Room} {s : State} {m : MethodId} {args : Array Value} {below : List Frame} {meth : Method} {c : Code} {V : State} {locs : List Loc} {cells slots : Nat}
set_option maxHeartbeats 2000000 in
theorem px_ctor (X : Stand p l e R s m args below meth c V locs cells slots) (hexec : p.tables.exec = Jvm.exec) (htr : e.platform.stackTraces = false) {own cls : String} {ic : Nat}
    (hown : s.vm.findClass own = some m.cls) (hcls : Bundle.fit cls = true) (h : ∀ a ∈ px_thw cls, a.before args s = true) (hlk : (Cond.methodLink own ic (Bundle.init0 cls)).before args s = true)
    {A : Nat → Prop} (hZ1 : px_Zq px_tN "UNASSIGNED_STACK" Bundle.steD A s V.heap) (hZ2 : px_Zq px_tN "SUPPRESSED_SENTINEL" Bundle.listD A s V.heap)
    {a : Addr} {cX : ClassId} {kX : Class} (hfoundX : s.vm.findClass cls = some cX) (hkX : s.vm.classes[cX]? = some kX) (hcell : V.heap[a]? = some (freshCell cX kX)) (hA : A a)
    {g : JFrame} (hg : g.method = m) (hsize : g.locals.size = c.maxLocals) {rest : List Value} (hstack : g.stack = .ref a :: .ref a :: rest)
    (hd6 : decode c.code g.pc = .ok (.invokespecial ic, 3)) (hRframes : 5 < R.frames) (hRlocals : 2 * g.monitorRoom + ((Value.ref a :: rest).map fun v => v.category).sum + 80 ≤ R.locals) :
    ∃ (vm' : Vm) (ce : Cell) (is : List Nat), ce.cls = cX ∧ ce.vm = .none ∧ Stand p l e R s m args below meth c ((V.setVm vm').setCell a ce) (locs ++ is.map (fun i => ⟨a, i⟩)) cells slots ∧
      ∀ target, Steps p.tables e below (((V.setVm vm').setCell a ce).setTop { g with stack := .ref a :: rest, pc := g.pc + 3 }) target → Steps p.tables e below (V.setTop g) target := by
  have howns : e.platform.frameOwnsMonitors = true := by rw [X.admits.platform]
  have hfin : e.platform.finalization = false := by rw [X.admits.platform]
  have hpl : e.platform.magicAccessors = ({} : Platform).magicAccessors := by rw [X.admits.platform]
  have a' : ∀ x, x ∈ px_thw cls → x.holds args s none s [] = true := fun x hx => h x hx
  obtain ⟨T, Z, L', LZ, Y'⟩ := ThrowableC.of_atoms (args := args) (s := { s with heap := V.heap }) howns hfin hpl (fun x hx => by
    rcases px_thA_or x hx with h1 | rfl | rfl
    · exact (Cond.onTables_vm (A := args) (A' := args) (U := { s with heap := V.heap }) (U' := s) s.vm x h1).trans (h x (by simp [px_thw, px_thA, hx, h1]))
    · exact hZ1.2.at
    · exact hZ2.2.at)
  have L : T.Links e.platform s := { owns := L'.owns, noFinalization := L'.noFinalization, cls := L'.cls, name := L'.name, boot := L'.boot, notInterface := L'.notInterface, initialized := L'.initialized, statics := L'.statics, fillAt := L'.fillAt, fillCode := L'.fillCode, fillBytes := L'.fillBytes, fillLocals := L'.fillLocals, fillLocks := L'.fillLocks, fillStatic := L'.fillStatic, fillAbstract := L'.fillAbstract, fillReturns := L'.fillReturns, fillParams := L'.fillParams, fill0At := L'.fill0At, fill0Name := L'.fill0Name, fill0Desc := L'.fill0Desc, fill0Params := L'.fill0Params, fill0Static := L'.fill0Static, fill0Native := L'.fill0Native, fill0Code := L'.fill0Code, fill0Locks := L'.fill0Locks, fill0Abstract := L'.fill0Abstract, stackInstance := L'.stackInstance, stackNotFinal := L'.stackNotFinal, unassignedStatic := L'.unassignedStatic, objClass := L'.objClass, objClassName := L'.objClassName, objMethod := L'.objMethod, objName := L'.objName, objStatic := L'.objStatic, objAbstract := L'.objAbstract, objFound := L'.objFound, objParams := L'.objParams, objCode := L'.objCode, objBytes := L'.objBytes, objLocks := L'.objLocks, causeInstance := L'.causeInstance, causeNotFinal := L'.causeNotFinal, sentinelStatic := L'.sentinelStatic, suppInstance := L'.suppInstance, suppNotFinal := L'.suppNotFinal, msgInstance := L'.msgInstance, msgNotFinal := L'.msgNotFinal, stackApartSupp := L'.stackApartSupp, file := L'.file, mlink1 := L'.mlink1, mright1 := L'.mright1, pool1 := L'.pool1, mlink27 := L'.mlink27, mright27 := L'.mright27, pool27 := L'.pool27, mlink202 := L'.mlink202, mright202 := L'.mright202, pool202 := L'.pool202, link7 := L'.link7, right7 := L'.right7, at7 := L'.at7, link13 := L'.link13, right13 := L'.right13, at13 := L'.at13, link17 := L'.link17, right17 := L'.right17, at17 := L'.at17, link20 := L'.link20, right20 := L'.right20, at20 := L'.at20, link24 := L'.link24, right24 := L'.right24, at24 := L'.at24 }
  have y_cause : s.fieldFound? Bundle.tN "cause" "Ljava/lang/Throwable;" = some (T.cT, T.kT, T.i7, T.fCause) := Y'.cause
  have y_causeName : T.fCause.name = "cause" := Y'.causeName
  have y_causeType : T.fCause.type = .object Bundle.tN := Y'.causeType
  have y_fill : s.methodNamed? Bundle.tFill = some T.fill := Y'.fill
  have y_fill0 : s.methodNamed? Bundle.tFill0 = some T.fill0 := Y'.fill0
  have y_found : s.vm.findClass Bundle.tN = some T.cT := Y'.found
  have y_init0 : s.methodNamed? Bundle.tInit0 = some (Z.m T.toThrowableT) := Y'.init0
  have y_objLocals : T.codeObj.maxLocals = 1 := Y'.objLocals
  have y_sentinel : s.fieldFound? Bundle.tN "SUPPRESSED_SENTINEL" Bundle.listD = some (T.cT, T.kT, T.i20, T.fSentinel) := Y'.sentinel
  have y_stack : s.fieldFound? Bundle.tN "stackTrace" Bundle.steD = some (T.cT, T.kT, T.i17, T.fStack) := Y'.stack
  have y_stackName : T.fStack.name = "stackTrace" := Y'.stackName
  have y_stackType : T.fStack.type = .array (.object "java/lang/StackTraceElement") := Y'.stackType
  have y_supp : s.fieldFound? Bundle.tN "suppressedExceptions" Bundle.listD = some (T.cT, T.kT, T.i24, T.fSupp) := Y'.supp
  have y_suppName : T.fSupp.name = "suppressedExceptions" := Y'.suppName
  have y_suppType : T.fSupp.type = .object "java/util/List" := Y'.suppType
  have y_unassigned : s.fieldFound? Bundle.tN "UNASSIGNED_STACK" Bundle.steD = some (T.cT, T.kT, T.i13, T.fUnassigned) := Y'.unassigned
  obtain ⟨P1, Ps, hlen, L1, hL, hP1m, hlink1, hlink⟩ := Bundle.chain0 (args := args) hpl y_init0 px_chn cls hcls (by decide) (fun x hx => h x (by simp [px_thw, hx]))
  have hfound : s.vm.findClass cls = some P1.m.cls := findClass_of_methodNamed hP1m
  cases Option.some.inj (hfoundX.symm.trans hfound)
  obtain ⟨c1, kX', hc1, hk, hord, -, -, hn6⟩ := Cond.instantiable_spec (a' (.instantiable cls 6) (by simp [px_thw]))
  cases Option.some.inj (hc1.symm.trans hfound)
  cases Option.some.inj (hkX.symm.trans hk)
  have hsel0 : selectMethod e.platform s.vm P1.m.cls T.fill0 = .method T.fill0 := by
    obtain ⟨c2, r2, m2, q1, q2, q3, q4, -⟩ := Cond.selects_spec (a' (.selects cls Bundle.tFill0 Bundle.tFill0) (by simp [px_thw]))
    cases Option.some.inj (q1.symm.trans hfound)
    cases Option.some.inj (q2.symm.trans (State.methodFound?_of_named y_fill0 (by decide)))
    cases Option.some.inj (q3.symm.trans y_fill0)
    rw [Launch.admits_selectMethod X.admits]; exact q4
  have hselF : selectMethod e.platform s.vm P1.m.cls T.fill = .method T.fill := by
    obtain ⟨c2, r2, m2, q1, q2, q3, q4, -⟩ := Cond.selects_spec (a' (.selects cls Bundle.tFill Bundle.tFill) (by simp [px_thw]))
    cases Option.some.inj (q1.symm.trans hfound)
    cases Option.some.inj (q2.symm.trans (State.methodFound?_of_named y_fill (by decide)))
    cases Option.some.inj (q3.symm.trans y_fill)
    rw [Launch.admits_selectMethod X.admits]; exact q4
  obtain ⟨u0, cf1, kf1, fi1, f1, as1, cellS, z1, z2, z3, z4, z5, z6, z7, z8⟩ := px_zref hZ1.1
  obtain ⟨sen, cf2, kf2, fi2, f2, as2, cellS2, y1, y2, y3, y4, y5, y6, y7, y8⟩ := px_zref hZ2.1
  cases Option.some.inj (z1.symm.trans y_unassigned)
  cases Option.some.inj (y1.symm.trans y_sentinel)
  cases Option.some.inj (z4.symm.trans L.statics)
  cases Option.some.inj (y4.symm.trans L.statics)
  cases Option.some.inj (y5.symm.trans z5)
  obtain ⟨ci198, i198, fB, hk198, hg198, ha198, hsB, -, hnB, htB, hffB⟩ := Cond.ownField (t := .object "java/lang/Object") y_found L.cls (by decide +kernel) (a' (.fieldLink px_tN 198 px_tN "backtrace" "Ljava/lang/Object;") (by simp [px_thw])) (a' (.lays px_tN px_tN "backtrace" "Ljava/lang/Object;") (by simp [px_thw])) e.platform hpl
  have hknownS : cellS.vm ≠ .unknown := fun hu => by rw [hu] at z6; cases z6
  have hneS : T.aS ≠ a := fun w => z8 (by rw [w]; exact hA)
  obtain ⟨tyC, dC, hdC, hdnC⟩ := Cond.laysAt hfound hk y_cause (a' (.lays cls px_tN "cause" "Ljava/lang/Throwable;") (by simp [px_thw]))
  obtain ⟨tyS, dS, hdS, hdnS⟩ := Cond.laysAt hfound hk y_stack (a' (.lays cls px_tN "stackTrace" Bundle.steD) (by simp [px_thw]))
  obtain ⟨tyP, dP, hdP, hdnP⟩ := Cond.laysAt hfound hk y_supp (a' (.lays cls px_tN "suppressedExceptions" Bundle.listD) (by simp [px_thw]))
  obtain ⟨tyB, dB, hdB, hdnB⟩ := Cond.laysAt hfound hk hffB (a' (.lays cls px_tN "backtrace" "Ljava/lang/Object;") (by simp [px_thw]))
  have bC := Cond.laysApart hdB hdC hdnB hdnC (by rw [hnB, y_causeName]; decide)
  have bS := Cond.laysApart hdB hdS hdnB hdnS (by rw [hnB, y_stackName]; decide)
  have bP := Cond.laysApart hdB hdP hdnB hdnP (by rw [hnB, y_suppName]; decide)
  have hskip : SkipFacts T e.platform s (fun u => u) u0 ((preparedCellV T.toThrowableT (freshCell P1.m.cls kX) a u0 sen).withEntry V.cur) :=
    ⟨{ ci198 := ci198, i198 := i198, fBack := fB }, ⟨hk198, hg198, ha198, hsB⟩, by
      have := fresh_default (c := P1.m.cls) tyB
      rw [htB] at this
      simpa [preparedCellV, Cell.setSlot, Cell.withEntry, Array.getElem?_setIfInBounds, bC, bS, bP, bC.symm, bS.symm, bP.symm, defaultValue] using this, fun _ _ => rfl⟩
  obtain ⟨tm, methC, cdC, kC, vm₁, hnC, -, -, -, -, -, -, -, hW₁, st1⟩ := Steps.initCold (tb := p.tables) (e := e) (below := below) (s := s) (U := V) X.here hexec X.warmed hpl hown (t := Bundle.init0 cls) rfl rfl (Bundle.fit_spec hcls).2
    hlk (h (.instanceMethod (Bundle.init0 cls)) (by simp [px_thw, px_chn, Bundle.chain0Atoms, Bundle.passAtoms])) (bytes := Bundle.five) (maxL := 1) (h (.code (Bundle.init0 cls) Bundle.five 1 none) (by simp [px_thw, px_chn, Bundle.chain0Atoms, Bundle.passAtoms]))
    (f := g) hg (a := a) (rest := .ref a :: rest) hstack hd6
  cases Option.some.inj (hnC.symm.trans hP1m)
  have X₁ := X.noted hW₁
  have hps : Ps.length = 2 := hlen
  obtain ⟨vm₂, X₂, st2⟩ := X₁.ctorPlainOffV hexec (g := { g with stack := .ref a :: rest }) hg hsize T L Z LZ (P1 :: Ps)
    (fun P hP => by rcases List.mem_cons.mp hP with rfl | hP; exact L1; exact hL P hP) ⟨hlink1, hlink⟩ (u0 := u0) (sen := sen) (self := a) (cell := freshCell P1.m.cls kX) (cellS := cellS)
    hcell (fun _ => by simp) (by simp) rfl rfl hsel0 hselF z5 hneS hknownS z7 y7
    (Takes.of_laid hk hord tyC (by rw [y_causeType]; rfl)) (Takes.of_laid hk hord tyS (by rw [y_stackType]; exact fits_refV_array _ u0)) (Takes.of_laid hk hord tyP (by rw [y_suppType]; exact fits_refV_object _ sen)) y_objLocals hskip htr [] hd6
    (by simp only [List.length_cons, hps]; omega) (by simp only [List.length_cons, hps]; exact hRlocals)
  refine ⟨vm₂, _, [T.fCause.slot, T.fStack.slot, T.fSupp.slot, T.fStack.slot], ?_, ?_, X₂, fun target ht => st1 _ (fun acts => by rw [doInvoke_state]; exact st2 _ ht)⟩
  · rfl
  · rfl
end PxThrow
/-! L1's soundness: an exception is made and thrown. (Written by wip/p2/mk13.py; px_ctor, px_thw, px_allX: p1's part 16, to be taken over.) -/
section CzThrow
variable {p : Program} {l : Launch} {e : Env} {R : Room} {s : State} {m : MethodId} {args : Array Value} {below : List Frame} {meth : Method} {c : Code} {locs : List Loc} {cells slots : Nat}
theorem cz_throw_inv {M : cz_M} {pc k : Nat} {i : Instr} (h : cz_throw M pc i = some k) : ∃ x y b c b' c' : Nat, i = .new x ∧ cz_lk M x = some (9, k, b, c) ∧ cz_code M (pc + 3) = some (.dup, 1) ∧ cz_code M (pc + 4) = some (.invokespecial y, 3) ∧ cz_code M (pc + 7) = some (.athrow, 1) ∧ cz_lk M y = some (7, k, b', c') ∧ M.2.1.2.2.2 = [] := by
  unfold cz_throw at h
  split at h
  · rename_i x
    split at h
    · rename_i q y h1 h2 h3 h4
      split at h
      · rename_i w h5
        cases hz : (Nat.beq q.1 9 && Nat.beq w.1 7 && Nat.beq q.2.1 w.2.1 && M.2.1.2.2.2.isEmpty) with
        | false => rw [hz] at h; cases h
        | true =>
          rw [hz] at h
          have hk : q.2.1 = k := Option.some.inj h
          simp only [Bool.and_eq_true] at hz
          obtain ⟨q1, q2, q3, q4⟩ := q
          obtain ⟨w1, w2, w3, w4⟩ := w
          have e1 : q1 = 9 := Nat.eq_of_beq_eq_true hz.1.1.1
          have e2 : w1 = 7 := Nat.eq_of_beq_eq_true hz.1.1.2
          have e3 : q2 = w2 := Nat.eq_of_beq_eq_true hz.1.2
          have hk : q2 = k := hk
          subst e1 e2 e3 hk
          exact ⟨x, y, q3, q4, w3, w4, rfl, h1, h2, h3, h4, h5, List.isEmpty_iff.mp hz.2⟩
      · cases h
    · cases h
  · cases h
theorem cz_throw_ok (hXs : px_allX) {K : cz_K} {E : cz_E} {M : cz_M} {d C0 S0 pc : Nat} {ls : Array Slot} {H : Heap} {h : cz_H} {st : List cz_V} (X : cz_Cx p e R s m meth c K E M d C0 S0) (hM : cz_okM M) (hsz : ls.size = M.2.1.2.1) {k : Nat} {i : Instr} (hd : decode M.2.1.1 pc = .ok (i, cz_len i)) (hi : cz_throw M pc i = some k) (hroom : (cz_room h 1 6 && Nat.ble 6 d && Nat.ble (cz_cat2 st) 20) = true)
    (hP : cz_HP cz_cl K E h H) (hL : ∀ y ∈ locs, E.2 ≤ y.base) (hc : C0 + cells = h.1) (hs : S0 + slots = h.2.1) :
    W p l e R s m args below meth c H locs cells slots (cz_Q K E C0 S0 s below (.inr h.1, cz_push h 6 (.inr (.inr k)))) (F0 m pc ls (st.map (cz_v E))) := by
  obtain ⟨hx, htr, hb, hml, hr, hlk, hnm, hown, hrows, hW, hRc, hRs, hRf, hRl, hE⟩ := X
  obtain ⟨x, y, b1, b2, b3, b4, rfl, l1, d3, d4, d7, l2, hnoh⟩ := cz_throw_inv hi
  have d3 := hM.1 _ _ d3
  have d4 := hM.1 _ _ d4
  have d7 := hM.1 _ _ d7
  obtain ⟨-, n, n1, n2⟩ := hM.2 x _ l1
  have n1 : cz_ex[k]? = some n := n1
  obtain ⟨n', n1', n3⟩ := hM.2 y _ l2
  have n1' : cz_ex[k]? = some n' := n1'
  cases n1.symm.trans n1'
  obtain ⟨w1, w2, w3⟩ := hXs k n n1
  simp only [Bool.and_eq_true, Nat.ble_eq] at hroom
  obtain ⟨⟨hroom, hd6⟩, hcat⟩ := hroom
  obtain ⟨r1, r2⟩ := cz_room_ok hroom
  have hfc : s.vm.findClass n = some (K.2.2.1 k) := hW.2.2.2.1 k n n1
  refine W.newcK hx hb hown (hW.1 _ n2 args) (hW.1 _ (w1 (.instantiable n 6) (by simp [px_thw])) args) (hW.1 _ w2 args) rfl hd (by omega) (by omega) hfc rfl fun H1 kC hkC f1 f2 f3 => ?_
  refine lv_dup hx hb d3 rfl ?_
  intro T hT X0
  have hEH : E.2 ≤ H.size := by rw [hP.2.1]; omega
  have hkeep : ∀ z : Nat, z < K.2.2.2.size → ¬ cz_A E z → T.heap[z]? = K.2.2.2[z]? := fun z hz hn => by
    have hlt : z < E.2 := Nat.not_le.mp hn
    rw [hT, f3 z (by omega)]
    exact hP.2.2.2.1 z hlt
  have hd100 : d * 100 ≥ 600 := Nat.mul_le_mul_right 100 hd6
  obtain ⟨vm', ce, is, c1, c2, X1, st1⟩ := px_ctor X0 hx htr hown w3 (fun w hw => hW.1 w (w1 w hw) args) (hW.1 _ n3 args) (hW.2.2.2.2.2.2.2.1.kept hkeep) (hW.2.2.2.2.2.2.2.2.1.kept hkeep) hfc hkC (a := H.size) (by rw [hT]; exact f1) hEH
    (g := F0 m (pc + 4) ls (.ref H.size :: .ref H.size :: st.map (cz_v E))) rfl (hsz.trans hml.symm) rfl (by rw [hb]; exact d4) (by omega) (by
      show 2 * 0 + ((cz_v E (.inr (.inr none))).category + ((st.map (cz_v E)).map fun v => v.category).sum) + 80 ≤ _
      rw [cz_cat2_ok]
      show 2 * 0 + (1 + _) + 80 ≤ _
      omega)
  have hnone : c.exceptionTable.toList = [] := by
    have h5 := hrows
    rw [hnoh] at h5
    exact List.map_eq_nil_iff.mp h5
  obtain ⟨hwalk, hrun, hended, hWU, hsame⟩ := X1.athrowLeaves hx (g := F0 m (pc + 7) ls (.ref H.size :: st.map (cz_v E))) rfl rfl rfl (fun z hz => by rw [hnone] at hz; cases hz) (a := H.size) (rest := st.map (cz_v E)) rfl (by rw [hb]; exact d7) hlk
  refine ⟨_, st1 _ hwalk, .threw H.size, _, cells + 1, slots + 6, hrun, hended, hWU, hsame, fun z hz => ?_, by rw [cz_push_1]; omega, by rw [cz_push_2]; omega, ?_, ?_⟩
  · rcases List.mem_append.mp hz with hz | hz
    · exact hL z hz
    · obtain ⟨j, -, rfl⟩ := List.mem_map.mp hz
      exact hEH
  · have hlt : H.size < H1.size := by omega
    have hheap : (((T.setVm vm').setCell H.size ce).setFrames (.throwing H.size :: below)).heap = H1.setIfInBounds H.size ce := by rw [← hT]; rfl
    show cz_HP cz_cl K E (cz_push h 6 (.inr (.inr k))) (((T.setVm vm').setCell H.size ce).setFrames (.throwing H.size :: below)).heap
    rw [hheap]
    refine (hP.push (H1 := H1.setIfInBounds H.size ce) (c := .inr (.inr k)) 6 ⟨ce, by simp [Array.getElem?_setIfInBounds, hlt], c1, by rw [c2]; rfl⟩ (by rw [Array.size_setIfInBounds]; exact f2) (fun q hq => ?_)).1
    rw [Array.getElem?_setIfInBounds, if_neg (by omega)]
    exact f3 q hq
  · show Outcome.threw H.size = Outcome.threw (cz_ad E h.1)
    rw [hP.2.1, cz_ad_new E hP.1]
end CzThrow
