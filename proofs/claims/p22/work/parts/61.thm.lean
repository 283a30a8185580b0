/-! L1's soundness, the theorem: what the run says, the machine does. -/
def cz_allA : Prop := ∀ t : ArrayType, ∀ n : Nat, cz_atn t = some n → px_in (.arrayClass (newarray.typeOf t))
/-- String.checkIndex does nothing where the index is good -/
def cz_okI : Prop := ∀ {p : Program} {l : Launch} {e : Env} {R : Room} {s : State} {m : MethodId} {args : Array Value} {below : List Frame} {meth : Method} {c : Code} {H : Heap} {locs : List Loc} {cells slots : Nat} {Q : State → Prop}
  {K : cz_K} {E : cz_E} {M : cz_M} {d C0 S0 pc : Nat} {ls : Array Slot} {h : cz_H} {st : List cz_V} {S : cz_N} (_ : cz_Cx p e R s m meth c K E M d C0 S0) (_ : cz_okM M) {x : Nat} (_ : ls.size = M.2.1.2.1) (_ : decode M.2.1.1 pc = .ok (.invokestatic x, 3)) (_ : cz_hci M d x pc st h = some S)
  (_ : cz_HP cz_cl K E h H) (_ : ∀ y ∈ locs, E.2 ≤ y.base) (_ : C0 + cells = h.1) (_ : S0 + slots = h.2.1) (_ : cz_Go p l e R s m args below meth c Q K E C0 S0 ls S),
  W p l e R s m args below meth c H locs cells slots Q (F0 m pc ls (st.map (cz_v E)))
/-! A grid of ints is made: the outer array, then row by row a row and its place. -/
section CzGrid
variable {p : Program} {l : Launch} {e : Env} {R : Room} {s : State} {m : MethodId} {args : Array Value} {below : List Frame} {meth : Method} {c : Code} {H : Heap} {locs : List Loc} {cells slots : Nat} {Q : State → Prop}
variable {K : cz_K} {E : cz_E} {M : cz_M} {d C0 S0 pc : Nat} {ls : Array Slot} {h : cz_H} {st : List cz_V} {S : cz_N}
/-- a row: an array of 2000 ints -/
theorem cz_row_wp {e : Env} {U : State} {cI comp : ClassId} {kI : Class} (hk : U.vm.classes[cI]? = some kI) (hkind : kI.kind = .array comp .int) (hlimit : ¬ (2000 : Nat) > e.platform.arrayLengthLimit) (hheap : ¬ 2000 * componentBytes .int > e.platform.maxHeapBytes)
    (hcells : U.heap.size < e.platform.maxCells) (hslots : U.slotsUsed + 2000 ≤ e.platform.maxSlots) {Q : Addr → Pre} {B : CtlPost} {dd : Bool} {acts : List Action} (hq : ∀ acts', Q U.heap.size dd acts' (U.pushCell { cls := cI, slots := Array.replicate 2000 (.int 0) })) :
    wp (multianewarray.make cI [2000]) Q B e dd acts U := by
  have h0 : ¬ (2000 : Int32) < 0 := by decide
  have h1 : (2000 : Int32).toNatClampNeg = 2000 := by decide
  simp only [multianewarray.make, wp_bind', W.ite, h0, if_false, wp_pure', W.theClass, hk, Option.some.injEq, exists_eq_left', hkind, h1]
  exact W.newArray_of hk hkind hlimit hheap hcells hslots rfl hq
theorem cz_gr_ok {cI : ClassId} (hcI : cI = K.2.1 1) (hW : cz_Wd K E s) {f : Nat → PUnit → Sem (ForInStep PUnit)} {r : Nat} (hf : ∀ i u, f i u = (do let a ← multianewarray.make cI [2000]; Jvm.writeLoc (cz_ad E r) i (.ref a); Pure.pure (ForInStep.yield PUnit.unit))) (fr : JFrame) :
    ∀ (is : List Nat) (ws : Nat → cz_V) (h : cz_H) (T : State) (locs : List Loc) (cells slots : Nat), Stand p l e R s m args below meth c T locs cells slots → cz_HP cz_cl K E h T.heap → 192 ≤ r → r < h.1 → h.2.2 r = .inl (10, 8, ws) → (∀ i ∈ is, i < 8) →
      cells + is.length ≤ R.cells → slots + 2000 * is.length ≤ R.slots →
      ∃ (T' : State) (locs' : List Loc), Stand p l e R s m args below meth c T' locs' (cells + is.length) (slots + 2000 * is.length) ∧ cz_HP cz_cl K E (cz_gr r is ws h) T'.heap ∧ (∀ y ∈ locs', y ∈ locs ∨ y.base = cz_ad E r) ∧
        ∀ (Q : PUnit → Pre) (B : CtlPost) (dd : Bool) (acts : List Action), (∀ d' acts', Q PUnit.unit d' acts' (T'.setTop fr)) → wp (forIn is PUnit.unit f) Q B e dd acts (T.setTop fr)
  | [], ws, h, T, locs, cells, slots, X, hP, _, _, _, _, _, _ => ⟨T, locs, X, hP, fun y hy => Or.inl hy, fun Q B dd acts hq => by simp only [List.forIn_nil, wp_pure']; exact hq dd acts⟩
  | i :: is, ws, h, T, locs, cells, slots, X, hP, r1, r2, hr, hi, hRc, hRs => by
    have hlen : (i :: is).length = is.length + 1 := rfl
    rw [hlen] at hRc hRs
    have hb1 : cells + 1 ≤ R.cells := by omega
    have hb3 : cells + 1 + is.length ≤ R.cells := by omega
    have hb4 : slots + 2000 + 2000 * is.length ≤ R.slots := by omega
    have hb2 : slots + 2000 ≤ R.slots := Nat.le_trans (Nat.le_add_right (slots + 2000) (2000 * is.length)) hb4
    have e1 : cells + (i :: is).length = cells + 1 + is.length := by rw [hlen]; omega
    have e2 : slots + 2000 * (i :: is).length = slots + 2000 + 2000 * is.length := by rw [hlen]; omega
    have hb8 : r < h.1 + 1 := by omega
    have hne : r ≠ h.1 := by omega
    have ho := (hP.2.2.1 r ⟨r2, Or.inl r1⟩).new r1
    rw [hr] at ho
    have ho : T.heap[cz_ad E r]? = some (arrV (K.2.1 10) 8 (fun j => cz_v E (ws j))) := ho
    obtain ⟨kA, hkA, hkindA⟩ := hW.2.2.2.2.2.2.1
    obtain ⟨-, kI, hkI, compI, hkindI⟩ := (hW.2.2.1 1 .int rfl).1 0 (fun _ => .null)
    have hkI : s.vm.classes[K.2.1 1]? = some kI := hkI
    have hal := X.warmed.alike
    obtain ⟨kA', hkA', heA⟩ := hal.2.2 _ _ hkA
    obtain ⟨kI', hkI', heI⟩ := hal.2.2 _ _ hkI
    have X1 := X.pushed { cls := cI, slots := Array.replicate 2000 (.int 0) }
    have hsz1 : (T.pushCell { cls := cI, slots := Array.replicate 2000 (.int 0) }).heap.size = T.heap.size + 1 := size_pushCell _ _
    have hold : ∀ q, q < T.heap.size → (T.pushCell { cls := cI, slots := Array.replicate 2000 (.int 0) }).heap[q]? = T.heap[q]? := fun q hq => by
      show (T.heap.push _)[q]? = _
      rw [Array.getElem?_push, if_neg (Nat.ne_of_lt hq)]
    have hnew : cz_cell cz_cl K E (.inl (1, 2000, fun _ => .inl 0)) T.heap.size (T.pushCell { cls := cI, slots := Array.replicate 2000 (.int 0) }).heap := by
      show (T.heap.push _)[T.heap.size]? = some (arrV (K.2.1 1) 2000 (fun _ => .int 0))
      rw [Array.getElem?_push_size, hcI]
      exact congrArg some (arrV_new (K.2.1 1) 2000 (.int 0))
    obtain ⟨hP1, hz⟩ := hP.push (c := .inl (1, 2000, fun _ => .inl 0)) 2000 hnew hsz1 hold
    have hlt : cz_ad E r < T.heap.size := (Array.getElem?_eq_some_iff.mp ho).1
    have ho1 : (T.pushCell { cls := cI, slots := Array.replicate 2000 (.int 0) }).heap[cz_ad E r]? = some (arrV (K.2.1 10) 8 (fun j => cz_v E (ws j))) := (hold _ hlt).trans ho
    have hlt1 : cz_ad E r < (T.pushCell { cls := cI, slots := Array.replicate 2000 (.int 0) }).heap.size := by rw [hsz1]; exact Nat.lt_succ_of_lt hlt
    have X2 := X1.stored ho1 i (.ref T.heap.size)
    have hP2 : cz_HP cz_cl K E (cz_setc (cz_push h 2000 (.inl (1, 2000, fun _ => .inl 0))) r (.inl (10, 8, fun j => if j = i then .inr (.inr (some h.1)) else ws j))) ((T.pushCell { cls := cI, slots := Array.replicate 2000 (.int 0) }).setCell (cz_ad E r) ((arrV (K.2.1 10) 8 (fun j => cz_v E (ws j))).setSlot i (.ref T.heap.size))).heap := by
      refine hP1.set r1 hb8 ?_ (size_setCell _ _ _) (fun q hq => heapAt_setCell_ne _ (Ne.symm hq))
      show _ = some (arrV (K.2.1 10) 8 (fun j => cz_v E (if j = i then .inr (.inr (some h.1)) else ws j)))
      rw [heapAt_setCell_self _ hlt1, arrV_store]
      congr 2
      funext j
      unfold updV
      by_cases e : j = i
      · rw [if_pos e, if_pos e, hz]; rfl
      · rw [if_neg e, if_neg e]
    obtain ⟨T', locs', Y1, Y2, Y3, Y4⟩ := cz_gr_ok hcI hW hf fr is (fun j => if j = i then .inr (.inr (some h.1)) else ws j) _ _ _ (cells + 1) (slots + 2000) (by simpa using X2) hP2 r1 hb8 (by
        show (if r = r then _ else _) = _
        rw [if_pos rfl]) (fun z hz => hi z (List.mem_cons_of_mem _ hz)) hb3 hb4
    refine ⟨T', locs', ?_, Y2, fun y hy => ?_, fun Q B dd acts hq => ?_⟩
    · rw [e1, e2]
      exact Y1
    · rcases Y3 y hy with hy | hy
      · rcases List.mem_append.mp hy with hy | hy
        · exact Or.inl hy
        · exact Or.inr (by rw [List.mem_singleton.mp hy])
      · exact Or.inr hy
    · obtain ⟨q1, q2⟩ := X.roomAbove (a := 1) (b := 2000) hb1 hb2
      simp only [List.forIn_cons, hf, wp_bind']
      refine cz_row_wp (U := T.setTop fr) (by rw [hcI]; exact hkI') (by rw [heI]; exact hkindI) (by rw [Launch.admits_arrayLengthLimit X.admits]; decide) (by rw [Launch.admits_maxHeapBytes X.admits]; decide) q1 q2 (fun acts' => ?_)
      simp only [wp_bind', W.writeLoc, wp_pure']
      refine ⟨arrV (K.2.1 10) 8 (fun j => cz_v E (ws j)), ho1, (fun w => by cases w), by rw [arrV_size]; exact hi i List.mem_cons_self, ?_, ?_⟩
      · show State.fitsSlot _ (K.2.1 10) .none i (.ref _) = true
        have : kA'.kind = .array (K.2.1 1) (.array .int) := by rw [heA]; exact hkindA
        simp [State.fitsSlot, State.slotType?, hkA', this, fits]
      · exact Y4 Q B _ _ hq
theorem cz_mul_wp {e : Env} {U : State} {fr : JFrame} {x : Nat} {cA cI : ClassId} {kA : Class} {rest : List Value} (hs : U.topJava?.isSome) (hr : U.vm.classReady fr.method.cls x cA) (hk : U.vm.classes[cA]? = some kA) (hkind : kA.kind = .array cI (.array .int)) (hstack : fr.stack = .int 2000 :: .int 8 :: rest)
    (hlimit : ¬ (8 : Nat) > e.platform.arrayLengthLimit) (hheap : ¬ 8 * componentBytes (.array .int) > e.platform.maxHeapBytes) (hcells : U.heap.size < e.platform.maxCells) (hslots : U.slotsUsed + 8 ≤ e.platform.maxSlots) {Q : Unit → Pre} {B : CtlPost} {dd : Bool} {acts : List Action} {V : State} (hV : V.topJava?.isSome)
    (hloop : ∀ (f : Nat → PUnit → Sem (ForInStep PUnit)) (Q' : PUnit → Pre) (d' : Bool) (acts' : List Action), (∀ i u, f i u = (do let a ← multianewarray.make cI [2000]; Jvm.writeLoc U.heap.size i (.ref a); Pure.pure (ForInStep.yield PUnit.unit))) → (∀ d'' acts'', Q' PUnit.unit d'' acts'' (V.setTop { fr with stack := rest })) →
      wp (forIn [0, 1, 2, 3, 4, 5, 6, 7] PUnit.unit f) Q' B e d' acts' ((U.pushCell { cls := cA, slots := Array.replicate 8 .null }).setTop { fr with stack := rest }))
    (hq : ∀ d' acts', Q () d' acts' (V.setTop { fr with stack := .ref U.heap.size :: rest })) :
    wp (multianewarray.sem x 2) Q B e dd acts (U.setTop fr) := by
  have h0 : ¬ (8 : Int32) < 0 := by decide
  have h1 : (8 : Int32).toNatClampNeg = 8 := by decide
  have h2 : ((8 : Int32) == 0) = false := by decide
  simp only [multianewarray.sem, wp_bind', W.resolveClassAt_ready (State.method?_setTop fr hs) hr]
  simp [popN, hstack, State.topJava?_setTop' _ hs]
  unfold multianewarray.make
  simp only [wp_bind', W.ite, h0, if_false, wp_pure', W.theClass, State.vm_setTop, hk, Option.some.injEq, exists_eq_left', hkind, h1]
  refine W.newArray_of (s := U.setTop { fr with stack := rest }) hk hkind hlimit hheap hcells hslots rfl (fun acts' => ?_)
  rw [if_neg (by decide)]
  simp only [wp_bind']
  rw [Std.Legacy.Range.forIn_eq_forIn_range']
  refine hloop _ _ _ _ (fun _ _ => rfl) (fun d'' acts'' => ?_)
  simp [State.topJava?_setTop' _ hV]
  exact hq _ _
theorem cz_gr_n (r : Nat) : ∀ (is : List Nat) (ws : Nat → cz_V) (h : cz_H), (cz_gr r is ws h).1 = h.1 + is.length ∧ (cz_gr r is ws h).2.1 = h.2.1 + 2000 * is.length
  | [], ws, h => ⟨rfl, rfl⟩
  | i :: is, ws, h => by
    obtain ⟨h1, h2⟩ := cz_gr_n r is (fun j => if j = i then .inr (.inr (some h.1)) else ws j) (cz_setc (cz_push h 2000 (.inl (1, 2000, fun _ => .inl 0))) r (.inl (10, 8, fun j => if j = i then .inr (.inr (some h.1)) else ws j)))
    have h1 : (cz_gr r (i :: is) ws h).1 = h.1 + 1 + is.length := h1
    have h2 : (cz_gr r (i :: is) ws h).2.1 = h.2.1 + 2000 + 2000 * is.length := h2
    have hlen : (i :: is).length = is.length + 1 := rfl
    rw [h1, h2, hlen]
    omega
theorem cz_mul_cold {e : Env} {U : State} {fr : JFrame} {x cA : Nat} {vm' : Vm} (hs : U.topJava?.isSome) (hg : (Jvm.resolveClass fr.method.cls x).Gives e.toSetting U.vm (.ok cA) vm') (hr : vm'.classReady fr.method.cls x cA) {Q : Unit → Pre} {B : CtlPost} {dd : Bool} {acts : List Action}
    (hsz : vm'.classes.size ≤ U.vm.classes.size) : wp (multianewarray.sem x 2) Q B e dd acts (U.setTop fr) ↔ wp (multianewarray.sem x 2) Q B e dd acts ((U.setVm vm').setTop fr) := by
  simp only [multianewarray.sem, wp_bind']
  exact W.resolveClassAt_transfer (s := U.setTop fr) (State.method?_setTop fr hs) hg hr hsz
set_option maxRecDepth 100000 in
theorem cz_mul_ok (X : cz_Cx p e R s m meth c K E M d C0 S0) (hM : cz_okM M) {x y : Nat} (hd : decode M.2.1.1 pc = .ok (.multianewarray x y, 4)) (hf : cz_hmul M x y pc st h = some S)
    (hP : cz_HP cz_cl K E h H) (hL : ∀ y ∈ locs, E.2 ≤ y.base) (hc : C0 + cells = h.1) (hs : S0 + slots = h.2.1) (k : cz_Go p l e R s m args below meth c Q K E C0 S0 ls S) :
    W p l e R s m args below meth c H locs cells slots Q (F0 m pc ls (st.map (cz_v E))) := by
  obtain ⟨hx, -, hb, -, -, -, hnm, hown, -, hW, hRc, hRs, -⟩ := X
  unfold cz_hmul at hf
  split at hf
  · rename_i kk n rest
    cases hq : cz_lk M x with
    | none => rw [hq] at hf; cases hf
    | some q =>
      rw [hq] at hf
      have hl := hM.2 x q hq
      obtain ⟨tag, tn, kf, c3⟩ := q
      cases ht : (Nat.beq tag 14 && Nat.beq y 2 && (decide (n = 8) && decide (kk = 2000) && cz_room h 9 16008)) with
      | false => simp only [ht, cond_false] at hf; cases hf
      | true =>
        simp only [ht, cond_true] at hf
        have hf : some (pc + 4, .inr (.inr (some h.1)) :: rest, cz_gr h.1 [0, 1, 2, 3, 4, 5, 6, 7] (fun _ => .inr (.inr none)) (cz_push h 8 (.inl (10, 8, fun _ => .inr (.inr none))))) = some S := hf
        cases hf
        simp only [Bool.and_eq_true, decide_eq_true_eq] at ht
        obtain ⟨⟨t1, t2⟩, ⟨rfl, rfl⟩, hroom⟩ := ht
        have := Nat.eq_of_beq_eq_true t1
        subst this
        have := Nat.eq_of_beq_eq_true t2
        subst this
        obtain ⟨r1, r2⟩ := cz_room_ok hroom
        obtain ⟨-, a1⟩ := hl
        have b1 : cells + 1 + 8 ≤ R.cells := by omega
        have b2 : slots + 8 + 16000 ≤ R.slots := by omega
        have b5 : h.1 < h.1 + 1 := by omega
        have b6 : cells + 1 ≤ R.cells := by omega
        have b7 : slots + 8 ≤ R.slots := by omega
        have b8 : 192 ≤ h.1 := hP.1
        have b9 : C0 + (cells + 1 + 8) = h.1 + 1 + 8 := by omega
        have b10 : S0 + (slots + 8 + 16000) = h.2.1 + 8 + 16000 := by omega
        intro T hT X0
        have hpl : e.platform.magicAccessors = ({} : Platform).magicAccessors := by rw [X0.admits.platform]
        obtain ⟨c', hc', hcl⟩ := Cond.classLink_spec hown (hW.1 _ a1 args) e.platform hpl
        have hcA : c' = K.2.1 10 := Option.some.inj (hc'.symm.trans (hW.2.2.1 10 (.array .int) rfl).2)
        subst hcA
        obtain ⟨hg₁, hwarm₁, hready₁⟩ := State.classEntry (e := e) X0.warmed hcl
        have X₁ := X0.noted hwarm₁
        have hsz : (T.vm.noted m.cls x (.cls (K.2.1 10))).classes.size ≤ T.vm.classes.size := by no_record
        generalize T.vm.noted m.cls x (.cls (K.2.1 10)) = vm₁ at hg₁ hwarm₁ hready₁ X₁ hsz
        have X₂ := X₁.pushed { cls := K.2.1 10, slots := Array.replicate 8 .null }
        obtain ⟨kA, hkA, hkindA⟩ := hW.2.2.2.2.2.2.1
        obtain ⟨kA', hkA', heA⟩ := hwarm₁.alike.2.2 _ _ hkA
        have hnew : cz_cell cz_cl K E (.inl (10, 8, fun _ => .inr (.inr none))) H.size ((T.setVm vm₁).pushCell { cls := K.2.1 10, slots := Array.replicate 8 .null }).heap := by
          show (T.heap.push _)[H.size]? = some (arrV (K.2.1 10) 8 (fun _ => .null))
          rw [hT, Array.getElem?_push_size]
          exact congrArg some (arrV_new (K.2.1 10) 8 .null)
        have hsz1 : ((T.setVm vm₁).pushCell { cls := K.2.1 10, slots := Array.replicate 8 .null }).heap.size = H.size + 1 := by rw [size_pushCell]; show T.heap.size + 1 = _; rw [hT]
        have hold : ∀ q, q < H.size → ((T.setVm vm₁).pushCell { cls := K.2.1 10, slots := Array.replicate 8 .null }).heap[q]? = H[q]? := fun q hq => by
          show (T.heap.push _)[q]? = _
          rw [hT, Array.getElem?_push, if_neg (Nat.ne_of_lt hq)]
        obtain ⟨hP1, hz⟩ := hP.push (c := .inl (10, 8, fun _ => .inr (.inr none))) 8 hnew hsz1 hold
        obtain ⟨T', locs', Y1, Y2, Y3, Y4⟩ := cz_gr_ok (cI := K.2.1 1) rfl hW (r := h.1) (f := fun i _ => (do let a ← multianewarray.make (K.2.1 1) [2000]; Jvm.writeLoc (cz_ad E h.1) i (.ref a); Pure.pure (ForInStep.yield PUnit.unit))) (fun _ _ => rfl) (F0 m pc ls (rest.map (cz_v E)))
          [0, 1, 2, 3, 4, 5, 6, 7] (fun _ => .inr (.inr none)) (cz_push h 8 (.inl (10, 8, fun _ => .inr (.inr none)))) _ locs (cells + 1) (slots + 8) (by simpa using X₂) hP1 b8 b5 (by
            show (if h.1 = h.1 then _ else _) = _
            rw [if_pos rfl]) (by decide) b1 b2
        obtain ⟨n1, n2⟩ := cz_gr_n h.1 [0, 1, 2, 3, 4, 5, 6, 7] (fun _ => .inr (.inr none)) (cz_push h 8 (.inl (10, 8, fun _ => .inr (.inr none))))
        obtain ⟨t, s1, s2⟩ := k T'.heap locs' (cells + 1 + 8) (slots + 8 + 16000) Y2 (fun z hz => by
          rcases Y3 z hz with hz | hz
          · exact hL z hz
          · rw [hz, cz_ad_new E b8]; exact Nat.le_add_right _ _) (b9.trans n1.symm) (b10.trans n2.symm) T' rfl Y1
        refine ⟨t, ?_, s2⟩
        obtain ⟨q1, q2⟩ := X₁.roomAbove (a := 1) (b := 8) b6 b7
        have hTz : T.heap.size = cz_ad E h.1 := by rw [hT]; exact hz
        jvm_step X0.here [hx, hb, hd]
        refine (cz_mul_cold (fr := F0 m pc ls ((.inl 2000 :: .inl 8 :: rest : List cz_V).map (cz_v E))) X0.here.top hg₁ hready₁ hsz).mpr ?_
        refine cz_mul_wp (U := T.setVm vm₁) (fr := F0 m pc ls ((.inl 2000 :: .inl 8 :: rest : List cz_V).map (cz_v E))) (V := T') (cI := K.2.1 1) (rest := rest.map (cz_v E)) X0.here.top hready₁ hkA' (by rw [heA]; exact hkindA) rfl (by rw [Launch.admits_arrayLengthLimit X0.admits]; decide) (by rw [Launch.admits_maxHeapBytes X0.admits]; decide) q1 q2 Y1.here.top (fun f Q' d' acts' hf' hq' => ?_) (fun d' acts' => ?_)
        · have hff : f = fun i _ => (do let a ← multianewarray.make (K.2.1 1) [2000]; Jvm.writeLoc (cz_ad E h.1) i (.ref a); Pure.pure (ForInStep.yield PUnit.unit)) := by
            funext i u
            rw [hf' i u]
            show (do let a ← multianewarray.make (K.2.1 1) [2000]; Jvm.writeLoc T.heap.size i (.ref a); Pure.pure (ForInStep.yield PUnit.unit)) = _
            rw [hTz]
          rw [hff]
          exact Y4 Q' _ d' acts' hq'
        · intro acts
          rw [afterInstr_ok]
          show Steps _ _ _ (T'.setTop { F0 m pc ls (rest.map (cz_v E)) with pc := pc + 4, stack := .ref T.heap.size :: rest.map (cz_v E) }) t
          rw [hTz]
          exact s1
  · cases hf
end CzGrid
section CzThm
variable {p : Program} {l : Launch} {e : Env} {R : Room} {s : State} {m : MethodId} {args : Array Value} {below : List Frame} {meth : Method} {c : Code} {H : Heap} {locs : List Loc} {cells slots : Nat} {Q : State → Prop}
variable {K : cz_K} {E : cz_E} {M : cz_M} {d C0 S0 pc : Nat} {ls : Array Slot} {h : cz_H} {st : List cz_V} {S : cz_N}
theorem cz_hp_ok (hI : cz_okI) (hC : cz_allC) (hA : cz_allA) (X : cz_Cx p e R s m meth c K E M d C0 S0) (hM : cz_okM M) (hsz : ls.size = M.2.1.2.1) {i : Instr} (hd : decode M.2.1.1 pc = .ok (i, cz_len i)) (hf : cz_hp cz_pg M d pc st h i = some S)
    (hP : cz_HP cz_cl K E h H) (hL : ∀ y ∈ locs, E.2 ≤ y.base) (hc : C0 + cells = h.1) (hs : S0 + slots = h.2.1) (k : cz_Go p l e R s m args below meth c Q K E C0 S0 ls S) :
    W p l e R s m args below meth c H locs cells slots Q (F0 m pc ls (st.map (cz_v E))) := by
  cases i
  case getfield x => exact cz_get_ok hC X hM hd hf hP hL hc hs k
  case putfield x => exact cz_put_ok hC X hM hd hf hP hL hc hs k
  case new x => exact cz_new_ok hC X hM hd hf hP hL hc hs k
  case newarray t =>
    refine cz_na_ok X ?_ hd hf hP hL hc hs k
    cases ht : cz_atn t with
    | some n => exact hA t n ht
    | none =>
      exfalso
      have hf : cz_hna cz_pg t pc st h = some S := hf
      unfold cz_hna at hf
      split at hf
      · rw [ht] at hf; cases hf
      · cases hf
  case anewarray x => exact cz_nq_ok X hM hd hf hP hL hc hs k
  case arraylength => exact cz_len_ok X hd hf hP hL hc hs k
  case iaload => exact cz_ial_ok X hd hf hP hL hc hs k
  case baload => exact cz_bal_ok X hd hf hP hL hc hs k
  case laload => exact cz_lal_ok X hd hf hP hL hc hs k
  case aaload => exact cz_aal_ok X hd hf hP hL hc hs k
  case iastore => exact cz_ist_ok X hd hf hP hL hc hs k
  case bastore => exact cz_bst_ok X hd hf hP hL hc hs k
  case lastore => exact cz_lst_ok X hd hf hP hL hc hs k
  case aastore => exact cz_ast_ok X hd hf hP hL hc hs k
  case ldc x => exact cz_ldc_ok X hM hd hf hP hL hc hs k
  case ldc_w x => exact cz_ldcW_ok X hM hd hf hP hL hc hs k
  case ldc2_w x => exact cz_ldc2_ok X hM hd hf hP hL hc hs k
  case getstatic x => exact cz_gs_ok X hM hd hf hP hL hc hs k
  case invokespecial x => exact cz_obj0_ok X hM hsz hd hf hP hL hc hs k
  case invokestatic x =>
    have hf : (match cz_hcpy M d x pc st h with
      | some q => some q
      | none => cz_hci M d x pc st h) = some S := hf
    cases h1 : cz_hcpy M d x pc st h with
    | some q =>
      rw [h1] at hf
      cases hf
      exact cz_cpy_ok X hM hsz hd h1 hP hL hc hs k
    | none =>
      rw [h1] at hf
      exact hI X hM hsz hd hf hP hL hc hs k
  case invokevirtual x => exact cz_hcl_ok X hM hsz hd hf hP hL hc hs k
  case checkcast x => exact cz_hcc_ok X hM hd hf hP hL hc hs k
  case multianewarray x y => exact cz_mul_ok X hM hd hf hP hL hc hs k
  all_goals (exact absurd hf (by simp [cz_hp]))
theorem cz_call_len {i : Instr} {h : cz_H} {q : Nat × List cz_V × List cz_V} (h : cz_call i M st h = some q) : cz_len i = 3 := by
  cases i <;> first | rfl | (exact absurd h (by simp [cz_call]))
theorem cz_isw_ok {i : Instr} (h : cz_isw i = true) : (∃ a b c d, i = .tableswitch a b c d) ∨ ∃ a b, i = .lookupswitch a b := by
  cases i <;> first | (exact Or.inl ⟨_, _, _, _, rfl⟩) | (exact Or.inr ⟨_, _, rfl⟩) | (exact absurd h (by simp [cz_isw]))
theorem cz_sound (hI : cz_okI) (hC : cz_allC) (hA : cz_allA) (hX : px_allX) (hAll : cz_allM) : ∀ n, cz_IH n
  | 0 => fun d M pc L st h lv hx => by cases hx
  | n + 1 => by
    intro d M pc L st h lv hx hM p l e R s m args below meth c H locs cells slots ls K E C0 S0 X hl hP hL hc hs
    have hn := cz_sound hI hC hA hX hAll n
    have hx1 : (match cz_code M pc with
      | some (i, len) => cz_s cz_pg (cz_x cz_pg n) d M pc L st h i len
      | none => none) = some lv := hx
    split at hx1
    · rename_i i len hcode
      have hd : decode M.2.1.1 pc = .ok (i, len) := hM.1 pc _ hcode
      have hb : c.code = M.2.1.1 := X.2.2.1
      unfold cz_s at hx1
      split at hx1
      · rename_i q hp
        cases hlen : Nat.beq len (cz_len i) with
        | false => rw [hlen] at hx1; cases hx1
        | true =>
          rw [hlen] at hx1
          have hlen := Nat.eq_of_beq_eq_true hlen
          subst hlen
          exact cz_pure_ok X.1 hb hd hl hp (fun ls' hl' => hn d M (pc + cz_len i) q.1 q.2 h lv hx1 hM p l e R s m args below meth c H locs cells slots ls' K E C0 S0 X hl' hP hL hc hs)
      · split at hx1
        · rename_i q hS
          cases hlen : (Nat.beq len (cz_len i) || cz_isw i) with
          | false => rw [hlen] at hx1; cases hx1
          | true =>
            rw [hlen] at hx1
            refine cz_br_ok X.1 hb hd ?_ hS (hn d M q.1 L q.2 h lv hx1 hM p l e R s m args below meth c H locs cells slots ls K E C0 S0 X hl hP hL hc hs)
            simp only [Bool.or_eq_true] at hlen
            rcases hlen with hlen | hlen
            · exact Or.inl (Nat.eq_of_beq_eq_true hlen).symm
            · exact Or.inr (cz_isw_ok hlen)
        · cases hlen : Nat.beq len (cz_len i) with
          | false => rw [hlen] at hx1; cases hx1
          | true =>
            rw [hlen] at hx1
            have hlen := Nat.eq_of_beq_eq_true hlen
            subst hlen
            simp only [cond_true] at hx1
            split at hx1
            · rename_i v hv
              cases hx1
              exact cz_ret_ok X hd hv hP hL hc hs
            · split at hx1
              · rename_i kx hk
                cases hroom : (cz_room h 1 6 && Nat.ble 6 d && Nat.ble (cz_cat2 st) 20) with
                | false => rw [hroom] at hx1; cases hx1
                | true =>
                  rw [hroom] at hx1
                  have hx4 : some (.inr h.1, cz_push h 6 (.inr (.inr kx))) = some lv := hx1
                  cases hx4
                  exact cz_throw_ok hX X hM hl.1 hd hk hroom hP hL hc hs
              · split at hx1
                · rename_i q hS
                  exact cz_hp_ok hI hC hA X hM hl.1 hd hS hP hL hc hs (fun H' locs' cells' slots' hP' hL' hc' hs' => hn d M q.1 L q.2.1 q.2.2 lv hx1 hM p l e R s m args below meth c H' locs' cells' slots' ls K E C0 S0 X hl hP' hL' hc' hs')
                · cases hcall : cz_call i M st h with
                  | none => rw [hcall] at hx1; cases hx1
                  | some q =>
                    have h3 := cz_call_len hcall
                    rw [h3] at hd
                    exact cz_call_ok hn hAll X hM hl hd hx1 hP hL hc hs
    · cases hx1
end CzThm
