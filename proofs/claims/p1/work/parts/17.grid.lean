/-! Soundness, part 9: a grid of ints is made: the outer array, then row by row a row and its place. -/
section PxGrid
variable {p : Program} {l : Launch} {e : Env} {R : Room} {s : State} {m : MethodId} {args : Array Value} {below : List Frame} {meth : Method} {c : Code} {H : Heap} {locs : List Loc} {cells slots : Nat} {Q : State → Prop}
variable {K : px_K} {E : px_E} {M : px_M} {d C0 S0 pc : Nat} {ls : Array Slot} {h : px_H} {g : px_G} {st : List px_V} {S : px_N}
/-- a row: an array of 2000 ints -/
theorem px_row_wp {e : Env} {U : State} {cI comp : ClassId} {kI : Class} (hk : U.vm.classes[cI]? = some kI) (hkind : kI.kind = .array comp .int) (hlimit : ¬ (2000 : Nat) > e.platform.arrayLengthLimit) (hheap : ¬ 2000 * componentBytes .int > e.platform.maxHeapBytes)
    (hcells : U.heap.size < e.platform.maxCells) (hslots : U.slotsUsed + 2000 ≤ e.platform.maxSlots) {Q : Addr → Pre} {B : CtlPost} {dd : Bool} {acts : List Action} (hq : ∀ acts', Q U.heap.size dd acts' (U.pushCell { cls := cI, slots := Array.replicate 2000 (.int 0) })) :
    wp (multianewarray.make cI [2000]) Q B e dd acts U := by
  have h0 : ¬ (2000 : Int32) < 0 := by decide
  have h1 : (2000 : Int32).toNatClampNeg = 2000 := by decide
  simp only [multianewarray.make, wp_bind', W.ite, h0, if_false, wp_pure', W.theClass, hk, Option.some.injEq, exists_eq_left', hkind, h1]
  exact W.newArray_of hk hkind hlimit hheap hcells hslots rfl hq
theorem px_gr_ok {cI : ClassId} (hcI : cI = K.2.1 1) (hW : px_Wd K E s) {f : Nat → PUnit → Sem (ForInStep PUnit)} {r : Nat} (hf : ∀ i u, f i u = (do let a ← multianewarray.make cI [2000]; Jvm.writeLoc (px_ad E r) i (.ref a); Pure.pure (ForInStep.yield PUnit.unit))) (fr : JFrame) :
    ∀ (is : List Nat) (ws : List (Nat × px_V)) (h : px_H) (T : State) (locs : List Loc) (cells slots : Nat), Stand p l e R s m args below meth c T locs cells slots → px_HP px_cl K E h T.heap → 64 ≤ r → r < h.1 → px_tg 10 h.2.2 r = .inl (10, 8, .inr (.inr none), ws) → (∀ i ∈ is, i < 8) →
      h.1 + is.length ≤ 1024 → cells + is.length ≤ R.cells → slots + 2000 * is.length ≤ R.slots →
      ∃ (T' : State) (locs' : List Loc), Stand p l e R s m args below meth c T' locs' (cells + is.length) (slots + 2000 * is.length) ∧ px_HP px_cl K E (px_gr r is ws h) T'.heap ∧ (∀ y ∈ locs', y ∈ locs ∨ y.base = px_ad E r) ∧
        ∀ (Q : PUnit → Pre) (B : CtlPost) (dd : Bool) (acts : List Action), (∀ d' acts', Q PUnit.unit d' acts' (T'.setTop fr)) → wp (forIn is PUnit.unit f) Q B e dd acts (T.setTop fr)
  | [], ws, h, T, locs, cells, slots, X, hP, _, _, _, _, _, _, _ => ⟨T, locs, X, hP, fun y hy => Or.inl hy, fun Q B dd acts hq => by simp only [List.forIn_nil, wp_pure']; exact hq dd acts⟩
  | i :: is, ws, h, T, locs, cells, slots, X, hP, r1, r2, hr, hi, hn, hRc, hRs => by
    have hlen : (i :: is).length = is.length + 1 := rfl
    rw [hlen] at hn hRc hRs
    have hb1 : cells + 1 ≤ R.cells := by omega
    have hb3 : cells + 1 + is.length ≤ R.cells := by omega
    have hb4 : slots + 2000 + 2000 * is.length ≤ R.slots := by omega
    have hb2 : slots + 2000 ≤ R.slots := Nat.le_trans (Nat.le_add_right (slots + 2000) (2000 * is.length)) hb4
    have hb5 : h.1 + 1 + is.length ≤ 1024 := by omega
    have hb6 : h.1 < 1024 := by omega
    have e1 : cells + (i :: is).length = cells + 1 + is.length := by rw [hlen]; omega
    have e2 : slots + 2000 * (i :: is).length = slots + 2000 + 2000 * is.length := by rw [hlen]; omega
    have hb7 : r < 1024 := by omega
    have hb8 : r < h.1 + 1 := by omega
    have ho := hP.2.2.2.1 r r1 r2
    rw [hr] at ho
    have ho : T.heap[px_ad E r]? = some (arrV (K.2.1 10) 8 (fun j => px_v E (px_at (.inr (.inr none)) j ws))) := ho
    obtain ⟨kA, hkA, hkindA⟩ := hW.2.2.2.2.2.2.1
    obtain ⟨-, kI, hkI, compI, hkindI⟩ := (hW.2.2.1 1 .int rfl).1 0 (fun _ => .null)
    have hkI : s.vm.classes[K.2.1 1]? = some kI := hkI
    have hal := X.warmed.alike
    obtain ⟨kA', hkA', heA⟩ := hal.2.2 _ _ hkA
    obtain ⟨kI', hkI', heI⟩ := hal.2.2 _ _ hkI
    have X1 := X.pushed { cls := cI, slots := Array.replicate 2000 (.int 0) }
    have hsz1 : (T.pushCell { cls := cI, slots := Array.replicate 2000 (.int 0) }).heap.size = T.heap.size + 1 := size_pushCell _ _
    have hold : ∀ q, q < T.heap.size → (T.pushCell { cls := cI, slots := Array.replicate 2000 (.int 0) }).heap[q]? = T.heap[q]? := fun q hq => by
      show (T.heap.push _)[q]? = _
      rw [Array.getElem?_push, if_neg (Nat.ne_of_lt hq)]
    have hnew : (T.pushCell { cls := cI, slots := Array.replicate 2000 (.int 0) }).heap[T.heap.size]? = some (arrV (K.2.1 1) 2000 (fun j => px_v E (px_at (.inl (.inl 0)) j []))) := by
      show (T.heap.push _)[T.heap.size]? = _
      rw [Array.getElem?_push_size, hcI]
      exact congrArg some (arrV_new (K.2.1 1) 2000 (.int 0))
    obtain ⟨hP1, hz⟩ := hP.push (c := .inl (1, 2000, .inl (.inl 0), [])) hb6 2000 hnew hsz1 hold
    have hlt : px_ad E r < T.heap.size := (Array.getElem?_eq_some_iff.mp ho).1
    have ho1 : (T.pushCell { cls := cI, slots := Array.replicate 2000 (.int 0) }).heap[px_ad E r]? = some (arrV (K.2.1 10) 8 (fun j => px_v E (px_at (.inr (.inr none)) j ws))) := (hold _ hlt).trans ho
    have hlt1 : px_ad E r < (T.pushCell { cls := cI, slots := Array.replicate 2000 (.int 0) }).heap.size := by rw [hsz1]; exact Nat.lt_succ_of_lt hlt
    have X2 := X1.stored ho1 i (.ref T.heap.size)
    have hP2 : px_HP px_cl K E (px_setc (px_push h 2000 (.inl (1, 2000, .inl (.inl 0), []))) r (.inl (10, 8, .inr (.inr none), (i, .inr (.inr (some h.1))) :: ws))) ((T.pushCell { cls := cI, slots := Array.replicate 2000 (.int 0) }).setCell (px_ad E r) ((arrV (K.2.1 10) 8 (fun j => px_v E (px_at (.inr (.inr none)) j ws))).setSlot i (.ref T.heap.size))).heap := by
      refine hP1.set r1 hb8 ?_ (size_setCell _ _ _) (fun q hq => heapAt_setCell_ne _ (Ne.symm hq))
      show _ = some (arrV (K.2.1 10) 8 (fun j => px_v E (px_at (.inr (.inr none)) j ((i, .inr (.inr (some h.1))) :: ws))))
      rw [heapAt_setCell_self _ hlt1, arrV_store]
      congr 2
      funext j
      rw [px_at_cons]
      unfold updV
      split
      · rw [hz]; rfl
      · rfl
    obtain ⟨T', locs', Y1, Y2, Y3, Y4⟩ := px_gr_ok hcI hW hf fr is ((i, .inr (.inr (some h.1))) :: ws) _ _ _ (cells + 1) (slots + 2000) (by simpa using X2) hP2 r1 hb8 (by
        show px_tg 10 (px_ts 10 _ r _) r = _
        rw [px_tg_ts 10 _ _ _ _ hb7 hb7, if_pos rfl]) (fun z hz => hi z (List.mem_cons_of_mem _ hz)) hb5 hb3 hb4
    refine ⟨T', locs', ?_, Y2, fun y hy => ?_, fun Q B dd acts hq => ?_⟩
    · rw [e1, e2]
      exact Y1
    · rcases Y3 y hy with hy | hy
      · rcases List.mem_append.mp hy with hy | hy
        · exact Or.inl hy
        · exact Or.inr (by rw [List.mem_singleton.mp hy])
      · exact Or.inr hy
    · obtain ⟨q1, q2⟩ := X.roomAbove (a := 1) (b := 2000) hb1 hb2
      simp only [List.forIn_cons, hf, wp_bind']
      refine px_row_wp (U := T.setTop fr) (by rw [hcI]; exact hkI') (by rw [heI]; exact hkindI) (by rw [Launch.admits_arrayLengthLimit X.admits]; decide) (by rw [Launch.admits_maxHeapBytes X.admits]; decide) q1 q2 (fun acts' => ?_)
      simp only [wp_bind', W.writeLoc, wp_pure']
      refine ⟨arrV (K.2.1 10) 8 (fun j => px_v E (px_at (.inr (.inr none)) j ws)), ho1, (fun w => by cases w), by rw [arrV_size]; exact hi i List.mem_cons_self, ?_, ?_⟩
      · show State.fitsSlot _ (K.2.1 10) .none i (.ref _) = true
        have : kA'.kind = .array (K.2.1 1) (.array .int) := by rw [heA]; exact hkindA
        simp [State.fitsSlot, State.slotType?, hkA', this, fits]
      · exact Y4 Q B _ _ hq
theorem px_mul_wp {e : Env} {U : State} {fr : JFrame} {x : Nat} {cA cI : ClassId} {kA : Class} {rest : List Value} (hs : U.topJava?.isSome) (hr : U.vm.classReady fr.method.cls x cA) (hk : U.vm.classes[cA]? = some kA) (hkind : kA.kind = .array cI (.array .int)) (hstack : fr.stack = .int 2000 :: .int 8 :: rest)
    (hlimit : ¬ (8 : Nat) > e.platform.arrayLengthLimit) (hheap : ¬ 8 * componentBytes (.array .int) > e.platform.maxHeapBytes) (hcells : U.heap.size < e.platform.maxCells) (hslots : U.slotsUsed + 8 ≤ e.platform.maxSlots) {Q : Unit → Pre} {B : CtlPost} {dd : Bool} {acts : List Action} {V : State} (hV : V.topJava?.isSome)
    (hloop : ∀ (f : Nat → PUnit → Sem (ForInStep PUnit)) (Q' : PUnit → Pre) (d' : Bool) (acts' : List Action), (∀ i u, f i u = (do let a ← multianewarray.make cI [2000]; Jvm.writeLoc U.heap.size i (.ref a); Pure.pure (ForInStep.yield PUnit.unit))) → (∀ d'' acts'', Q' PUnit.unit d'' acts'' (V.setTop { fr with stack := rest })) →
      wp (forIn [0, 1, 2, 3, 4, 5, 6, 7] PUnit.unit f) Q' B e d' acts' ((U.pushCell { cls := cA, slots := Array.replicate 8 .null }).setTop { fr with stack := rest }))
    (hq : ∀ d' acts', Q () d' acts' (V.setTop { fr with stack := .ref U.heap.size :: rest })) :
    wp (multianewarray.sem x 2) Q B e dd acts (U.setTop fr) := by
  have h0 : ¬ (8 : Int32) < 0 := by decide
  have h1 : (8 : Int32).toNatClampNeg = 8 := by decide
  have h2 : ((8 : Int32) == 0) = false := by decide
  simp only [multianewarray.sem, wp_bind', W.resolveClassAt_ready (State.method?_setTop fr hs) hr]
  simp [popN, hstack, State.topJava?_setTop' _ hs]
  unfold multianewarray.make
  simp only [wp_bind', W.ite, h0, if_false, wp_pure', W.theClass, State.vm_setTop, hk, Option.some.injEq, exists_eq_left', hkind, h1]
  refine W.newArray_of (s := U.setTop { fr with stack := rest }) hk hkind hlimit hheap hcells hslots rfl (fun acts' => ?_)
  rw [if_neg (by decide)]
  simp only [wp_bind']
  rw [Std.Legacy.Range.forIn_eq_forIn_range']
  refine hloop _ _ _ _ (fun _ _ => rfl) (fun d'' acts'' => ?_)
  simp [State.topJava?_setTop' _ hV]
  exact hq _ _
theorem px_gr_n (r : Nat) : ∀ (is : List Nat) (ws : List (Nat × px_V)) (h : px_H), (px_gr r is ws h).1 = h.1 + is.length ∧ (px_gr r is ws h).2.1 = h.2.1 + 2000 * is.length
  | [], ws, h => ⟨rfl, rfl⟩
  | i :: is, ws, h => by
    obtain ⟨h1, h2⟩ := px_gr_n r is ((i, .inr (.inr (some h.1))) :: ws) (px_setc (px_push h 2000 (.inl (1, 2000, .inl (.inl 0), []))) r (.inl (10, 8, .inr (.inr none), (i, .inr (.inr (some h.1))) :: ws)))
    have h1 : (px_gr r (i :: is) ws h).1 = h.1 + 1 + is.length := h1
    have h2 : (px_gr r (i :: is) ws h).2.1 = h.2.1 + 2000 + 2000 * is.length := h2
    have hlen : (i :: is).length = is.length + 1 := rfl
    rw [h1, h2, hlen]
    omega
theorem px_mul_cold {e : Env} {U : State} {fr : JFrame} {x cA : Nat} {vm' : Vm} (hs : U.topJava?.isSome) (hg : (Jvm.resolveClass fr.method.cls x).Gives e.toSetting U.vm (.ok cA) vm') (hr : vm'.classReady fr.method.cls x cA) {Q : Unit → Pre} {B : CtlPost} {dd : Bool} {acts : List Action}
    (hsz : vm'.classes.size ≤ U.vm.classes.size) : wp (multianewarray.sem x 2) Q B e dd acts (U.setTop fr) ↔ wp (multianewarray.sem x 2) Q B e dd acts ((U.setVm vm').setTop fr) := by
  simp only [multianewarray.sem, wp_bind']
  exact W.resolveClassAt_transfer (s := U.setTop fr) (State.method?_setTop fr hs) hg hr hsz
set_option maxRecDepth 100000 in
theorem px_mul_ok (X : px_Cx p e R s m meth c K E M d C0 S0) (hM : px_okM M) {x y : Nat} (hd : decode M.2.1.1 pc = .ok (.multianewarray x y, 4)) (hf : px_hmul M x y pc st h g = some S)
    (hP : px_HP px_cl K E h H) (hG : px_Gok E.1 g) (hL : ∀ y ∈ locs, E.2.2 ≤ y.base) (hc : C0 + cells = h.1) (hs : S0 + slots = h.2.1) (k : px_Go p l e R s m args below meth c Q K E C0 S0 ls S) :
    W p l e R s m args below meth c H locs cells slots Q (F0 m pc ls (st.map (px_v E))) := by
  obtain ⟨hx, -, hb, -, -, -, hnm, hown, -, hW, hRc, hRs, -⟩ := X
  unfold px_hmul at hf
  split at hf
  · rename_i kk n rest
    cases hq : px_lk M x with
    | none => rw [hq] at hf; cases hf
    | some q =>
      rw [hq] at hf
      have hl := hM.2 x q hq
      obtain ⟨tag, tn, kf, c3⟩ := q
      cases ht : (Nat.beq tag 14 && Nat.beq y 2 && (px_ieq n 8 && px_ieq kk 2000 && px_room h 9 16008)) with
      | false => simp only [ht, cond_false] at hf; cases hf
      | true =>
        simp only [ht, cond_true] at hf
        have hf : some [(pc + 4, .inr (.inr (some h.1)) :: rest, px_gr h.1 [0, 1, 2, 3, 4, 5, 6, 7] [] (px_push h 8 (.inl (10, 8, .inr (.inr none), []))), g)] = some S := hf
        cases hf
        simp only [Bool.and_eq_true, px_ieq_eq, decide_eq_true_eq] at ht
        obtain ⟨⟨t1, t2⟩, ⟨rfl, rfl⟩, hroom⟩ := ht
        have := Nat.eq_of_beq_eq_true t1
        subst this
        have := Nat.eq_of_beq_eq_true t2
        subst this
        obtain ⟨r1, r2⟩ := px_room_ok hroom
        obtain ⟨-, a1⟩ := hl
        have b1 : cells + 1 + 8 ≤ R.cells := by omega
        have b2 : slots + 8 + 16000 ≤ R.slots := by omega
        have b3 : h.1 < 1024 := by omega
        have b4 : h.1 + 1 + 8 ≤ 1024 := by omega
        have b5 : h.1 < h.1 + 1 := by omega
        have b6 : cells + 1 ≤ R.cells := by omega
        have b7 : slots + 8 ≤ R.slots := by omega
        have b8 : 64 ≤ h.1 := hP.1
        have b9 : C0 + (cells + 1 + 8) = h.1 + 1 + 8 := by omega
        have b10 : S0 + (slots + 8 + 16000) = h.2.1 + 8 + 16000 := by omega
        intro T hT X0
        have hpl : e.platform.magicAccessors = ({} : Platform).magicAccessors := by rw [X0.admits.platform]
        obtain ⟨c', hc', hcl⟩ := Cond.classLink_spec hown (hW.1 _ a1 args) e.platform hpl
        have hcA : c' = K.2.1 10 := Option.some.inj (hc'.symm.trans (hW.2.2.1 10 (.array .int) rfl).2)
        subst hcA
        obtain ⟨hg₁, hwarm₁, hready₁⟩ := State.classEntry (e := e) X0.warmed hcl
        have X₁ := X0.noted hwarm₁
        have hsz : (T.vm.noted m.cls x (.cls (K.2.1 10))).classes.size ≤ T.vm.classes.size := by no_record
        generalize T.vm.noted m.cls x (.cls (K.2.1 10)) = vm₁ at hg₁ hwarm₁ hready₁ X₁ hsz
        have X₂ := X₁.pushed { cls := K.2.1 10, slots := Array.replicate 8 .null }
        obtain ⟨kA, hkA, hkindA⟩ := hW.2.2.2.2.2.2.1
        obtain ⟨kA', hkA', heA⟩ := hwarm₁.alike.2.2 _ _ hkA
        have hnew : ((T.setVm vm₁).pushCell { cls := K.2.1 10, slots := Array.replicate 8 .null }).heap[H.size]? = some (arrV (K.2.1 10) 8 (fun j => px_v E (px_at (.inr (.inr none)) j []))) := by
          show (T.heap.push _)[H.size]? = _
          rw [hT, Array.getElem?_push_size]
          exact congrArg some (arrV_new (K.2.1 10) 8 .null)
        have hsz1 : ((T.setVm vm₁).pushCell { cls := K.2.1 10, slots := Array.replicate 8 .null }).heap.size = H.size + 1 := by rw [size_pushCell]; show T.heap.size + 1 = _; rw [hT]
        have hold : ∀ q, q < H.size → ((T.setVm vm₁).pushCell { cls := K.2.1 10, slots := Array.replicate 8 .null }).heap[q]? = H[q]? := fun q hq => by
          show (T.heap.push _)[q]? = _
          rw [hT, Array.getElem?_push, if_neg (Nat.ne_of_lt hq)]
        obtain ⟨hP1, hz⟩ := hP.push (c := .inl (10, 8, .inr (.inr none), [])) b3 8 hnew hsz1 hold
        obtain ⟨T', locs', Y1, Y2, Y3, Y4⟩ := px_gr_ok (cI := K.2.1 1) rfl hW (r := h.1) (f := fun i _ => (do let a ← multianewarray.make (K.2.1 1) [2000]; Jvm.writeLoc (px_ad E h.1) i (.ref a); Pure.pure (ForInStep.yield PUnit.unit))) (fun _ _ => rfl) (F0 m pc ls (rest.map (px_v E)))
          [0, 1, 2, 3, 4, 5, 6, 7] [] (px_push h 8 (.inl (10, 8, .inr (.inr none), []))) _ locs (cells + 1) (slots + 8) (by simpa using X₂) hP1 b8 b5 (by
            show px_tg 10 (px_ts 10 _ h.1 _) h.1 = _
            rw [px_tg_ts 10 _ _ _ _ b3 b3, if_pos rfl]) (by decide) b4 b1 b2
        obtain ⟨n1, n2⟩ := px_gr_n h.1 [0, 1, 2, 3, 4, 5, 6, 7] [] (px_push h 8 (.inl (10, 8, .inr (.inr none), [])))
        obtain ⟨t, s1, s2⟩ := k _ (List.mem_singleton.mpr rfl) T'.heap locs' (cells + 1 + 8) (slots + 8 + 16000) Y2 hG (fun z hz => by
          rcases Y3 z hz with hz | hz
          · exact hL z hz
          · rw [hz, px_ad_new E b8]; exact Nat.le_add_right _ _) (b9.trans n1.symm) (b10.trans n2.symm) T' rfl Y1
        refine ⟨t, ?_, s2⟩
        obtain ⟨q1, q2⟩ := X₁.roomAbove (a := 1) (b := 8) b6 b7
        have hTz : T.heap.size = px_ad E h.1 := by rw [hT]; exact hz
        jvm_step X0.here [hx, hb, hd]
        refine (px_mul_cold (fr := F0 m pc ls ((.inl (.inl 2000) :: .inl (.inl 8) :: rest : List px_V).map (px_v E))) X0.here.top hg₁ hready₁ hsz).mpr ?_
        refine px_mul_wp (U := T.setVm vm₁) (fr := F0 m pc ls ((.inl (.inl 2000) :: .inl (.inl 8) :: rest : List px_V).map (px_v E))) (V := T') (cI := K.2.1 1) (rest := rest.map (px_v E)) X0.here.top hready₁ hkA' (by rw [heA]; exact hkindA) rfl (by rw [Launch.admits_arrayLengthLimit X0.admits]; decide) (by rw [Launch.admits_maxHeapBytes X0.admits]; decide) q1 q2 Y1.here.top (fun f Q' d' acts' hf' hq' => ?_) (fun d' acts' => ?_)
        · have hff : f = fun i _ => (do let a ← multianewarray.make (K.2.1 1) [2000]; Jvm.writeLoc (px_ad E h.1) i (.ref a); Pure.pure (ForInStep.yield PUnit.unit)) := by
            funext i u
            rw [hf' i u]
            show (do let a ← multianewarray.make (K.2.1 1) [2000]; Jvm.writeLoc T.heap.size i (.ref a); Pure.pure (ForInStep.yield PUnit.unit)) = _
            rw [hTz]
          rw [hff]
          exact Y4 Q' _ d' acts' hq'
        · intro acts
          rw [afterInstr_ok]
          show Steps _ _ _ (T'.setTop { F0 m pc ls (rest.map (px_v E)) with pc := pc + 4, stack := .ref T.heap.size :: rest.map (px_v E) }) t
          rw [hTz]
          exact s1
  · cases hf
end PxGrid
