/-! Soundness, part 9: a grid of ints is made: the outer array, then row by row a row and its place. -/
section PxGrid
variable {p : Program} {l : Launch} {e : Env} {R : Room} {s : State} {m : MethodId} {args : Array Value} {below : List Frame} {meth : Method} {c : Code} {H : Heap} {locs : List Loc} {cells slots : Nat} {Q : State → Prop}
variable {K : px_K} {E : px_E} {M : px_M} {d C0 S0 pc : Nat} {ls : Array Slot} {h : px_H} {g : px_G} {st : List px_V} {S : px_N}
/-- a row: an array of 2000 ints -/
theorem px_row_wp {e : Env} {U : State} {cI comp : ClassId} {kI : Class} (hk : U.vm.classes[cI]? = some kI) (hkind : kI.kind = .array comp .int) (hlimit : ¬ (2000 : Nat) > e.platform.arrayLengthLimit) (hheap : ¬ 2000 * componentBytes .int > e.platform.maxHeapBytes)
    (hcells : U.heap.size < e.platform.maxCells) (hslots : U.slotsUsed + 2000 ≤ e.platform.maxSlots) {Q : Addr → Pre} {B : CtlPost} {dd : Bool} {acts : List Action} (hq : ∀ acts', Q U.heap.size dd acts' (U.pushCell { cls := cI, slots := Array.replicate 2000 (.int 0) })) :
    wp (multianewarray.make cI [2000]) Q B e dd acts U := by
  have h0 : ¬ (2000 : Int32) < 0 := by decide
  have h1 : (2000 : Int32).toNatClampNeg = 2000 := by decide
  simp only [multianewarray.make, wp_bind', W.ite, h0, if_false, wp_pure', W.theClass, hk, Option.some.injEq, exists_eq_left', hkind, h1]
  exact W.newArray_of hk hkind hlimit hheap hcells hslots rfl hq
theorem px_gr_ok {cI : ClassId} (hcI : cI = K.2.1 1) (hW : px_Wd K E s) {f : Nat → PUnit → Sem (ForInStep PUnit)} {r : Nat} (hf : ∀ i u, f i u = (do let a ← multianewarray.make cI [2000]; Jvm.writeLoc (px_ad E r) i (.ref a); Pure.pure (ForInStep.yield PUnit.unit))) (fr : JFrame) :
    ∀ (is : List Nat) (ws : List (Nat × px_V)) (h : px_H) (T : State) (locs : List Loc) (cells slots : Nat), Stand p l e R s m args below meth c T locs cells slots → px_HP px_cl K E h T.heap → 64 ≤ r → r < h.1 → px_tg 10 h.2.2 r = .inl (10, 8, .inr (.inr none), ws) → (∀ i ∈ is, i < 8) →
      h.1 + is.length ≤ 1024 → cells + is.length ≤ R.cells → slots + 2000 * is.length ≤ R.slots →
      ∃ (T' : State) (locs' : List Loc), Stand p l e R s m args below meth c T' locs' (cells + is.length) (slots + 2000 * is.length) ∧ px_HP px_cl K E (px_gr r is ws h) T'.heap ∧ (∀ y ∈ locs', y ∈ locs ∨ y.base = px_ad E r) ∧
        ∀ (Q : PUnit → Pre) (B : CtlPost) (dd : Bool) (acts : List Action), (∀ d' acts', Q PUnit.unit d' acts' (T'.setTop fr)) → wp (forIn is PUnit.unit f) Q B e dd acts (T.setTop fr)
  | [], ws, h, T, locs, cells, slots, X, hP, _, _, _, _, _, _, _ => ⟨T, locs, X, hP, fun y hy => Or.inl hy, fun Q B dd acts hq => by simp only [List.forIn_nil, wp_pure']; exact hq dd acts⟩
  | i :: is, ws, h, T, locs, cells, slots, X, hP, r1, r2, hr, hi, hn, hRc, hRs => by
    have hlen : (i :: is).length = is.length + 1 := rfl
    rw [hlen] at hn hRc hRs
    have hb1 : cells + 1 ≤ R.cells := by omega
    have hb3 : cells + 1 + is.length ≤ R.cells := by omega
    have hb4 : slots + 2000 + 2000 * is.length ≤ R.slots := by omega
    have hb2 : slots + 2000 ≤ R.slots := Nat.le_trans (Nat.le_add_right (slots + 2000) (2000 * is.length)) hb4
    have hb5 : h.1 + 1 + is.length ≤ 1024 := by omega
    have hb6 : h.1 < 1024 := by omega
    have e1 : cells + (i :: is).length = cells + 1 + is.length := by rw [hlen]; omega
    have e2 : slots + 2000 * (i :: is).length = slots + 2000 + 2000 * is.length := by rw [hlen]; omega
    have hb7 : r < 1024 := by omega
    have hb8 : r < h.1 + 1 := by omega
    have ho := hP.2.2.2.1 r r1 r2
    rw [hr] at ho
    have ho : T.heap[px_ad E r]? = some (arrV (K.2.1 10) 8 (fun j => px_v E (px_at (.inr (.inr none)) j ws))) := ho
    obtain ⟨kA, hkA, hkindA⟩ := hW.2.2.2.2.2.2.1
    obtain ⟨-, kI, hkI, compI, hkindI⟩ := (hW.2.2.1 1 .int rfl).1 0 (fun _ => .null)
    have hkI : s.vm.classes[K.2.1 1]? = some kI := hkI
    have hal := X.warmed.alike
    obtain ⟨kA', hkA', heA⟩ := hal.2.2 _ _ hkA
    obtain ⟨kI', hkI', heI⟩ := hal.2.2 _ _ hkI
    have X1 := X.pushed { cls := cI, slots := Array.replicate 2000 (.int 0) }
    have hsz1 : (T.pushCell { cls := cI, slots := Array.replicate 2000 (.int 0) }).heap.size = T.heap.size + 1 := size_pushCell _ _
    have hold : ∀ q, q < T.heap.size → (T.pushCell { cls := cI, slots := Array.replicate 2000 (.int 0) }).heap[q]? = T.heap[q]? := fun q hq => by
      show (T.heap.push _)[q]? = _
      rw [Array.getElem?_push, if_neg (Nat.ne_of_lt hq)]
    have hnew : (T.pushCell { cls := cI, slots := Array.replicate 2000 (.int 0) }).heap[T.heap.size]? = some (arrV (K.2.1 1) 2000 (fun j => px_v E (px_at (.inl (.inl 0)) j []))) := by
      show (T.heap.push _)[T.heap.size]? = _
      rw [Array.getElem?_push_size, hcI]
      exact congrArg some (arrV_new (K.2.1 1) 2000 (.int 0))
    obtain ⟨hP1, hz⟩ := hP.push (c := .inl (1, 2000, .inl (.inl 0), [])) hb6 2000 hnew hsz1 hold
    have hlt : px_ad E r < T.heap.size := (Array.getElem?_eq_some_iff.mp ho).1
    have ho1 : (T.pushCell { cls := cI, slots := Array.replicate 2000 (.int 0) }).heap[px_ad E r]? = some (arrV (K.2.1 10) 8 (fun j => px_v E (px_at (.inr (.inr none)) j ws))) := (hold _ hlt).trans ho
    have hlt1 : px_ad E r < (T.pushCell { cls := cI, slots := Array.replicate 2000 (.int 0) }).heap.size := by rw [hsz1]; exact Nat.lt_succ_of_lt hlt
    have X2 := X1.stored ho1 i (.ref T.heap.size)
    have hP2 : px_HP px_cl K E (px_setc (px_push h 2000 (.inl (1, 2000, .inl (.inl 0), []))) r (.inl (10, 8, .inr (.inr none), (i, .inr (.inr (some h.1))) :: ws))) ((T.pushCell { cls := cI, slots := Array.replicate 2000 (.int 0) }).setCell (px_ad E r) ((arrV (K.2.1 10) 8 (fun j => px_v E (px_at (.inr (.inr none)) j ws))).setSlot i (.ref T.heap.size))).heap := by
      refine hP1.set r1 hb8 ?_ (size_setCell _ _ _) (fun q hq => heapAt_setCell_ne _ (Ne.symm hq))
      show _ = some (arrV (K.2.1 10) 8 (fun j => px_v E (px_at (.inr (.inr none)) j ((i, .inr (.inr (some h.1))) :: ws))))
      rw [heapAt_setCell_self _ hlt1, arrV_store]
      congr 2
      funext j
      rw [px_at_cons]
      unfold updV
      split
      · rw [hz]; rfl
      · rfl
    obtain ⟨T', locs', Y1, Y2, Y3, Y4⟩ := px_gr_ok hcI hW hf fr is ((i, .inr (.inr (some h.1))) :: ws) _ _ _ (cells + 1) (slots + 2000) (by simpa using X2) hP2 r1 hb8 (by
        show px_tg 10 (px_ts 10 _ r _) r = _
        rw [px_tg_ts 10 _ _ _ _ hb7 hb7, if_pos rfl]) (fun z hz => hi z (List.mem_cons_of_mem _ hz)) hb5 hb3 hb4
    refine ⟨T', locs', ?_, Y2, fun y hy => ?_, fun Q B dd acts hq => ?_⟩
    · rw [e1, e2]
      exact Y1
    · rcases Y3 y hy with hy | hy
      · rcases List.mem_append.mp hy with hy | hy
        · exact Or.inl hy
        · exact Or.inr (by rw [List.mem_singleton.mp hy])
      · exact Or.inr hy
    · obtain ⟨q1, q2⟩ := X.roomAbove (a := 1) (b := 2000) hb1 hb2
      simp only [List.forIn_cons, hf, wp_bind']
      refine px_row_wp (U := T.setTop fr) (by rw [hcI]; exact hkI') (by rw [heI]; exact hkindI) (by rw [Launch.admits_arrayLengthLimit X.admits]; decide) (by rw [Launch.admits_maxHeapBytes X.admits]; decide) q1 q2 (fun acts' => ?_)
      simp only [wp_bind', W.writeLoc, wp_pure']
      refine ⟨arrV (K.2.1 10) 8 (fun j => px_v E (px_at (.inr (.inr none)) j ws)), ho1, (fun w => by cases w), by rw [arrV_size]; exact hi i List.mem_cons_self, ?_, ?_⟩
      · show State.fitsSlot _ (K.2.1 10) .none i (.ref _) = true
        have : kA'.kind = .array (K.2.1 1) (.array .int) := by rw [heA]; exact hkindA
        simp [State.fitsSlot, State.slotType?, hkA', this, fits]
      · exact Y4 Q B _ _ hq
theorem px_mul_wp {e : Env} {U : State} {fr : JFrame} {x : Nat} {cA cI : ClassId} {kA : Class} {rest : List Value} (hs : U.topJava?.isSome) (hr : U.vm.classReady fr.method.cls x cA) (hk : U.vm.classes[cA]? = some kA) (hkind : kA.kind = .array cI (.array .int)) (hstack : fr.stack = .int 2000 :: .int 8 :: rest)
    (hlimit : ¬ (8 : Nat) > e.platform.arrayLengthLimit) (hheap : ¬ 8 * componentBytes (.array .int) > e.platform.maxHeapBytes) (hcells : U.heap.size < e.platform.maxCells) (hslots : U.slotsUsed + 8 ≤ e.platform.maxSlots) {Q : Unit → Pre} {B : CtlPost} {dd : Bool} {acts : List Action} {V : State} (hV : V.topJava?.isSome)
    (hloop : ∀ (f : Nat → PUnit → Sem (ForInStep PUnit)) (Q' : PUnit → Pre) (d' : Bool) (acts' : List Action), (∀ i u, f i u = (do let a ← multianewarray.make cI [2000]; Jvm.writeLoc U.heap.size i (.ref a); Pure.pure (ForInStep.yield PUnit.unit))) → (∀ d'' acts'', Q' PUnit.unit d'' acts'' (V.setTop { fr with stack := rest })) →
      wp (forIn [0, 1, 2, 3, 4, 5, 6, 7] PUnit.unit f) Q' B e d' acts' ((U.pushCell { cls := cA, slots := Array.replicate 8 .null }).setTop { fr with stack := rest }))
    (hq : ∀ d' acts', Q () d' acts' (V.setTop { fr with stack := .ref U.heap.size :: rest })) :
    wp (multianewarray.sem x 2) Q B e dd acts (U.setTop fr) := by
  have h0 : ¬ (8 : Int32) < 0 := by decide
  have h1 : (8 : Int32).toNatClampNeg = 8 := by decide
  have h2 : ((8 : Int32) == 0) = false := by decide
  simp only [multianewarray.sem, wp_bind', W.resolveClassAt_ready (State.method?_setTop fr hs) hr]
  simp [popN, hstack, State.topJava?_setTop' _ hs]
  unfold multianewarray.make
  simp only [wp_bind', W.ite, h0, if_false, wp_pure', W.theClass, State.vm_setTop, hk, Option.some.injEq, exists_eq_left', hkind, h1]
  refine W.newArray_of (s := U.setTop { fr with stack := rest }) hk hkind hlimit hheap hcells hslots rfl (fun acts' => ?_)
  rw [if_neg (by decide)]
  simp only [wp_bind']
  rw [Std.Legacy.Range.forIn_eq_forIn_range']
  refine hloop _ _ _ _ (fun _ _ => rfl) (fun d'' acts'' => ?_)
  simp [State.topJava?_setTop' _ hV]
  exact hq _ _
end PxGrid
