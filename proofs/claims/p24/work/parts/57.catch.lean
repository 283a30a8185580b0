/-! Soundness, part 7: an exception that comes out of a callee, and the method's own handlers. -/
section CzCatch
theorem cz_fh_yes {Q : Handler → Pre} {B : CtlPost} {e : Env} {d : Bool} {acts : List Action} {s : State} {f : JFrame} {a : Addr} {x : ExceptionTableEntry} {t : List ExceptionTableEntry} {c : ClassId} {cell : Cell} (hx : covers x f.pc = true) (h0 : x.catchType ≠ 0)
    (hl : s.vm.ClassLinks e.platform f.method.cls x.catchType c) (hcell : s.heap[a]? = some cell) (hobj : ∀ k, cell.vm ≠ .statics k)
    (hk : ∃ k, s.vm.classes[cell.cls]? = some k) (hc : ∃ k, s.vm.classes[c]? = some k) (hfit : s.vm.assignable cell.cls c = true) :
    wp (findHandler.go f a (x :: t)) Q B e d acts s ↔ Q (.found x.handlerPc) d acts (s.setVm (s.vm.noted f.method.cls x.catchType (.cls c))) := by
  simp only [covers] at hx
  obtain ⟨ha, ht⟩ := (resolveClass_links e.toSetting hl).op (op := VmOp.resolveClass f.method.cls x.catchType) rfl
  have hal : s.vm.Alike (s.vm.noted f.method.cls x.catchType (.cls c)) := (Vm.Alike.refl s.vm).noted _ _ _
  obtain ⟨k1, hk1⟩ := hk
  obtain ⟨k2, hk2⟩ := hc
  obtain ⟨k1', hk1', -⟩ := hal.2.2 _ _ hk1
  obtain ⟨k2', hk2', -⟩ := hal.2.2 _ _ hk2
  have hfit' : (s.vm.noted f.method.cls x.catchType (.cls c)).assignable cell.cls c = true := by rw [hal.assignable]; exact hfit
  simp [findHandler.go, hx, h0, ha, ht, hcell, hobj, hk1', hk2', hfit', VmOp.dirties, VmOp.acts]
theorem cz_fh_no {Q : Handler → Pre} {B : CtlPost} {e : Env} {d : Bool} {acts : List Action} {s : State} {f : JFrame} {a : Addr} {x : ExceptionTableEntry} {t : List ExceptionTableEntry} {c : ClassId} {cell : Cell} (hx : covers x f.pc = true) (h0 : x.catchType ≠ 0)
    (hl : s.vm.ClassLinks e.platform f.method.cls x.catchType c) (hcell : s.heap[a]? = some cell) (hobj : ∀ k, cell.vm ≠ .statics k)
    (hk : ∃ k, s.vm.classes[cell.cls]? = some k) (hc : ∃ k, s.vm.classes[c]? = some k) (hno : s.vm.assignable cell.cls c = false) :
    wp (findHandler.go f a (x :: t)) Q B e d acts s ↔ wp (findHandler.go f a t) Q B e d acts (s.setVm (s.vm.noted f.method.cls x.catchType (.cls c))) := by
  simp only [covers] at hx
  obtain ⟨ha, ht⟩ := (resolveClass_links e.toSetting hl).op (op := VmOp.resolveClass f.method.cls x.catchType) rfl
  have hal : s.vm.Alike (s.vm.noted f.method.cls x.catchType (.cls c)) := (Vm.Alike.refl s.vm).noted _ _ _
  obtain ⟨k1, hk1⟩ := hk
  obtain ⟨k2, hk2⟩ := hc
  obtain ⟨k1', hk1', -⟩ := hal.2.2 _ _ hk1
  obtain ⟨k2', hk2', -⟩ := hal.2.2 _ _ hk2
  have hno' : (s.vm.noted f.method.cls x.catchType (.cls c)).assignable cell.cls c = false := by rw [hal.assignable]; exact hno
  simp [findHandler.go, hx, h0, ha, ht, hcell, hobj, hk1', hk2', hno', VmOp.dirties, VmOp.acts]
abbrev cz_row (h : ExceptionTableEntry) : Nat × Nat × Nat × Nat := (h.startPc, h.endPc, h.handlerPc, h.catchType)
theorem cz_covers {x : ExceptionTableEntry} {pc : Nat} : covers x pc = (Nat.ble (cz_row x).1 pc && Nat.blt pc (cz_row x).2.1) := by
  rw [Bool.eq_iff_iff]
  simp [covers, Nat.ble_eq, Nat.blt_eq]
theorem cz_asn_ok {k j : Nat} (h : cz_asn k j = true) : (k, j, false) ∈ px_asg := by
  simp only [cz_asn, Bool.or_eq_true, Bool.and_eq_true] at h
  rcases h with (⟨h1, (h2 | h2) | h2⟩ | ⟨h1, (h2 | h2) | h2⟩) | ⟨h1, h2⟩ <;> rw [Nat.eq_of_beq_eq_true h1, Nat.eq_of_beq_eq_true h2] <;> decide
theorem cz_asy_ok {k : Nat} (h : k ≤ 4) : (k, k, true) ∈ px_asg := by
  have : k = 0 ∨ k = 1 ∨ k = 2 ∨ k = 3 ∨ k = 4 := by omega
  rcases this with rfl | rfl | rfl | rfl | rfl <;> decide
/-- the search over the method's rows -/
theorem cz_fh {e : Env} {s : State} {m : MethodId} {M : cz_M} {K : cz_K} {E : cz_E} (hpl : e.platform.magicAccessors = ({} : Platform).magicAccessors) (hown : s.vm.findClass M.1.cls = some m.cls) (hW : cz_Wd K E s) (hM : cz_okM M) {f : JFrame} (hfm : f.method = m) {a : Addr} {cell : Cell} {k t : Nat}
    (hobj : ∀ z, cell.vm ≠ .statics z) (hcls : cell.cls = K.2.2.1 k) (hk0 : ∃ z, s.vm.classes[cell.cls]? = some z) :
    ∀ (es : List ExceptionTableEntry) (U : State), s.WarmedH U.vm → U.heap[a]? = some cell → cz_catch M f.pc k (es.map cz_row) = some (some t) →
      ∃ vm', s.WarmedH vm' ∧ ∀ (Q : Handler → Pre) (B : CtlPost) (d : Bool) (acts : List Action), wp (findHandler.go f a es) Q B e d acts U ↔ Q (.found t) d acts (U.setVm vm')
  | [], U, _, _, h => by cases h
  | x :: r, U, hU, hcell, h => by
    subst hfm
    have h' : (bif Nat.ble (cz_row x).1 f.pc && Nat.blt f.pc (cz_row x).2.1 then (match cz_lk M x.catchType with
      | some w => bif Nat.beq w.1 9 then (bif Nat.beq w.2.1 k && Nat.ble k 4 then some (some x.handlerPc) else bif cz_asn k w.2.1 then cz_catch M f.pc k (r.map cz_row) else none) else none
      | none => none) else cz_catch M f.pc k (r.map cz_row)) = some (some t) := h
    rw [← cz_covers] at h'
    obtain ⟨k0, hk0⟩ := hk0
    obtain ⟨k0', hk0', -⟩ := hU.alike.2.2 _ _ hk0
    cases hc : covers x f.pc with
    | false =>
      rw [hc] at h'
      obtain ⟨vm', h1, h2⟩ := cz_fh hpl hown hW hM rfl hobj hcls ⟨k0, hk0⟩ r U hU hcell h'
      exact ⟨vm', h1, fun Q B d acts => by rw [W.findHandler_go_skip hc]; exact h2 Q B d acts⟩
    | true =>
      rw [hc] at h'
      simp only [cond_true] at h'
      split at h'
      · rename_i w hw
        cases h9 : Nat.beq w.1 9 with
        | false => rw [h9] at h'; cases h'
        | true =>
          rw [h9] at h'
          simp only [cond_true] at h'
          have hl := hM.2 x.catchType w hw
          obtain ⟨tag, j, w3, w4⟩ := w
          have := Nat.eq_of_beq_eq_true h9
          subst this
          obtain ⟨h0, n, hn, hlink⟩ := hl
          have hn : cz_ex[j]? = some n := hn
          obtain ⟨c', hc', hcl⟩ := Cond.classLink_spec hown (hW.1 _ hlink #[]) e.platform hpl
          have hcj : c' = K.2.2.1 j := Option.some.inj (hc'.symm.trans (hW.2.2.2.1 j n hn))
          obtain ⟨dk, _, _, kt, hd, _, _, _, _, hkt, _, hopen⟩ := hcl.here
          obtain ⟨kt', hkt', -⟩ := hU.alike.2.2 _ _ hkt
          have hnoted := hU.noted hd hopen (State.rightAt_cls hcl)
          cases hy : (Nat.beq j k && Nat.ble k 4) with
          | true =>
            simp only [hy, cond_true] at h'
            cases h'
            simp only [Bool.and_eq_true, Nat.ble_eq] at hy
            have hjk := Nat.eq_of_beq_eq_true hy.1
            have hfit : s.vm.assignable cell.cls c' = true := by rw [hcls, hcj, hjk]; exact hW.2.2.2.2.1 _ (cz_asy_ok hy.2)
            exact ⟨_, hnoted, fun Q B d acts => cz_fh_yes hc h0 (hU.classLinks hcl) hcell hobj ⟨k0', hk0'⟩ ⟨kt', hkt'⟩ (by rw [hU.alike.assignable]; exact hfit)⟩
          | false =>
            simp only [hy, cond_false] at h'
            cases hz : cz_asn k j with
            | false => rw [hz] at h'; cases h'
            | true =>
              rw [hz] at h'
              have hno : s.vm.assignable cell.cls c' = false := by rw [hcls, hcj]; exact hW.2.2.2.2.1 _ (cz_asn_ok hz)
              obtain ⟨vm', h1, h2⟩ := cz_fh hpl hown hW hM rfl hobj hcls ⟨k0, hk0⟩ r (U.setVm (U.vm.noted f.method.cls x.catchType (.cls c'))) hnoted hcell h'
              exact ⟨vm', h1, fun Q B d acts => by
                rw [cz_fh_no hc h0 (hU.classLinks hcl) hcell hobj ⟨k0', hk0'⟩ ⟨kt', hkt'⟩ (by rw [hU.alike.assignable]; exact hno)]
                exact h2 Q B d acts⟩
      · cases h'
variable {p : Program} {l : Launch} {e : Env} {R : Room} {s : State} {m : MethodId} {args : Array Value} {below : List Frame} {meth : Method} {c : Code} {T : State} {locs : List Loc} {cells slots : Nat}
/-- caught: the handler's pc, the exception alone on the stack -/
theorem cz_caught (X : Stand p l e R s m args below meth c T locs cells slots) {M : cz_M} {K : cz_K} {E : cz_E} (hown : s.vm.findClass M.1.cls = some m.cls) (hW : cz_Wd K E s) (hM : cz_okM M) (hrows : c.exceptionTable.toList.map cz_row = M.2.1.2.2.2) {f : JFrame} (hfm : f.method = m) {a : Addr} {cell : Cell} {k t : Nat}
    (hcell : T.heap[a]? = some cell) (hobj : cell.vm.isStatics = false) (hcls : cell.cls = K.2.2.1 k) (hk0 : ∃ z, s.vm.classes[cell.cls]? = some z) (hcatch : cz_catch M f.pc k M.2.1.2.2.2 = some (some t)) :
    ∃ vm', Stand p l e R s m args below meth c (T.setVm vm') locs cells slots ∧ ∀ target, Steps p.tables e below ((T.setVm vm').setTop { f with pc := t, stack := [.ref a] }) target → Steps p.tables e below ((T.setTop f).pushFrame (.throwing a)) target := by
  have hpl : e.platform.magicAccessors = ({} : Platform).magicAccessors := by rw [X.admits.platform]
  rw [← hrows] at hcatch
  subst hfm
  obtain ⟨vm', h1, h2⟩ := cz_fh (e := e) hpl hown hW hM rfl (a := a) (cell := cell) (k := k) (t := t) (fun z w => by rw [w] at hobj; cases hobj) hcls hk0 c.exceptionTable.toList ((T.setTop f).pushFrame (.throwing a)) (by rw [Stand.throwing_vm]; exact X.warmed) (by rw [Stand.throwing_heap]; exact hcell) hcatch
  refine ⟨vm', X.noted h1, fun target hrest => ?_⟩
  have hfind : ∀ (Q : Handler → Pre) (B : CtlPost) (d : Bool) (acts : List Action), wp (findHandler f a) Q B e d acts ((T.setTop f).pushFrame (.throwing a)) ↔ Q (.found t) d acts (((T.setTop f).pushFrame (.throwing a)).setVm vm') := by
    intro Q B d acts
    rw [W.findHandler_eq (s := (T.setTop f).pushFrame (.throwing a)) (f := f) (meth := meth) (code := c) X.method' X.code]
    exact h2 Q B d acts
  have hstep : (stepThrowing e ((T.setTop f).pushFrame (.throwing a)) a (.java f :: T.frames.tail)).Is ((((T.setTop f).pushFrame (.throwing a)).setVm vm').setFrames (.java { f with pc := t, stack := [.ref a] } :: T.frames.tail)) [] := by
    simp only [stepThrowing, searchFrame, vmDo]
    generalize hr : Sem.go _ e false [] ((T.setTop f).pushFrame (.throwing a)) = res
    obtain ⟨as, rfl, ha⟩ := Sem.eq_ok_of hr (a := Handler.found t) (s' := ((T.setTop f).pushFrame (.throwing a)).setVm vm') (acts' := []) (by simp [hfind _ _ _ _])
    exact ⟨rfl, ha⟩
  obtain ⟨hgo, hw⟩ := X.here.throwing a (g := f)
  refine Steps.head hgo hw ?_
  rw [stepThread_throwing (frames_entered X.here.top _), hstep.1]
  obtain ⟨g₀, hg⟩ := Option.isSome_iff_exists.mp X.here.top
  obtain ⟨r, hr⟩ := State.topJava?_eq_some.mp hg
  have hr' : (T.setVm vm').frames = .java g₀ :: r := hr
  rw [State.setTop_of_frames _ hr'] at hrest
  have e1 : ∀ (u : State) (F G : List Frame), ((u.setFrames F).setVm vm').setFrames G = (u.setVm vm').setFrames G := fun u F G => by
    have h1 : (u.setFrames F).setVm vm' = (u.setVm vm').setFrames F := rfl
    rw [h1, State.setFrames_setFrames]
  rw [hr, List.tail_cons, State.pushFrame, e1, State.setTop_of_frames _ hr, e1]
  exact hrest
end CzCatch
