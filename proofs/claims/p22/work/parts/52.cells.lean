/-! Soundness, part 2: instructions on cells. -/
theorem px_va1 {D : va_G} {cl : List vw_C} {a : Nat} {x : va_E} {H : Heap} (h : va_at D cl (a, x) H) : va_P D cl [(a, x)] H := fun k q hk => by
  cases k with
  | zero => cases hk; exact h
  | succ k => cases hk
/-- a class of the table: its fields' words, its kinds of fields -/
def cz_okC (ci : Nat) (C : String) (T : u_T) (N : Nat) : Prop :=
  (∀ w ∈ u_ws C T N, px_in w) ∧ px_in (.instantiable C N) ∧ px_in (.initialized C) ∧ (∀ a, a < N → ∀ b, b < N → a ≠ b → (T a).2.1 ≠ (T b).2.1) ∧ True ∧
  ∃ ks : List Nat, cz_tl[ci]? = some ks ∧ ks.length = N ∧ ∀ k, k < N → ∃ ty : FieldType, parseFieldDescriptor (T k).2.2.1 = some ty ∧ ks[k]? = some (cz_tcode ty) ∧ cz_tcode ty < 5
def cz_allC : Prop := ∀ (ci : Nat) (C : String) (T : u_T) (N : Nat), cz_cl[ci]? = some (C, T, N) → cz_okC ci C T N
/-- a method that may be called -/
def cz_okY (M : cz_M) : Prop := ((M.2.1.2.2.2 = [] ∧ px_in (.code M.1 M.2.1.1 M.2.1.2.1 M.2.1.2.2.1)) ∨ px_in (.codeWith M.1 M.2.1.1 M.2.1.2.1 M.2.1.2.2.1 M.2.1.2.2.2)) ∧ px_in (.initialized M.1.cls) ∧ plainFor M.1 = true ∧ (M.1.cls ≠ "java/lang/invoke/MethodHandle" ∧ M.1.cls ≠ "java/lang/invoke/VarHandle")
def cz_okN (M : cz_M) (n : Nat) : Prop := (parseMethodDescriptor M.1.desc).map (fun s => s.parameters.length) = some n
/-- a method called on a receiver of the class C: named and chosen; private; or another one was named -/
def cz_okV (M : cz_M) (x na : Nat) (C : String) (M' : cz_M) : Prop :=
  (px_in (.methodLink M.1.cls x M'.1) ∧ px_in (.selects C M'.1 M'.1)) ∨
  (px_in (.methodLink M.1.cls x M'.1) ∧ px_in (.privateMethod M'.1) ∧ px_in (.sameMethod M'.1.cls M'.1.cls M'.1.name M'.1.desc)) ∨
  ∃ M0 : cz_M, cz_okY M0 ∧ cz_okN M0 na ∧ px_in (.methodLink M.1.cls x M0.1) ∧ px_in (.instanceMethod M0.1) ∧ px_in (.sameMethod M0.1.cls M0.1.cls M0.1.name M0.1.desc) ∧ px_in (.selects C M0.1 M'.1)
/-- String.checkIndex, and what it calls -/
def cz_i1 : cz_M := (⟨"java/lang/String", "checkIndex", "(II)V"⟩, (prog_27_method_155_code, 2, none, []), [], [])
def cz_i2 : cz_M := (⟨"jdk/internal/util/Preconditions", "checkIndex", "(IILjava/util/function/BiFunction;)I"⟩, (prog_36_method_11_code, 3, some .int, []), [], [])
def cz_okI0 : Prop := cz_okY cz_i1 ∧ px_in (.static cz_i1.1) ∧ px_in (.fieldLink "java/lang/String" 1053 "jdk/internal/util/Preconditions" "SIOOBE_FORMATTER" "Ljava/util/function/BiFunction;") ∧ cz_okY cz_i2 ∧ px_in (.methodLink "java/lang/String" 1059 cz_i2.1) ∧ px_in (.static cz_i2.1)
/-- what an entry of the pool means -/
def cz_okL (M : cz_M) (x : Nat) (q : Nat × Nat × Nat × Nat) : Prop := match q.1 with
  | 0 => ∃ (C : String) (T : u_T) (N : Nat), cz_cl[q.2.1]? = some (C, T, N) ∧ q.2.2.1 < N ∧ px_in (.fieldLink M.1.cls x (T q.2.2.1).1 (T q.2.2.1).2.1 (T q.2.2.1).2.2.1) ∧ (q.2.2.2 = 1 → (T q.2.2.1).2.2.2 = true → M.1.name = "<init>" ∧ (T q.2.2.1).1 = M.1.cls)
  | 1 => ∃ (C : String) (T : u_T) (N : Nat) (host : String), cz_cl[q.2.1]? = some (C, T, N) ∧ q.2.2.1 < N ∧ px_in (.fieldLinkNest M.1.cls x (T q.2.2.1).1 (T q.2.2.1).2.1 (T q.2.2.1).2.2.1 host) ∧ (q.2.2.2 = 1 → (T q.2.2.1).2.2.2 = false)
  | 2 => ∃ M' : cz_M, cz_ms[q.2.1]? = some M' ∧ cz_okY M' ∧ cz_okN M' q.2.2.1 ∧ (px_in (.methodLink M.1.cls x M'.1) ∨ ∃ host, px_in (.methodLinkNest M.1.cls x M'.1 host)) ∧ px_in (.static M'.1)
  | 3 => ∃ (M' : cz_M) (C : String) (T : u_T) (N : Nat), cz_ms[q.2.1]? = some M' ∧ cz_okY M' ∧ cz_okN M' q.2.2.1 ∧ cz_cl[q.2.2.2]? = some (C, T, N) ∧ px_in (.instanceMethod M'.1) ∧ cz_okV M x q.2.2.1 C M'
  | 4 => ∃ M' : cz_M, cz_ms[q.2.1]? = some M' ∧ cz_okY M' ∧ cz_okN M' q.2.2.1 ∧ M'.1.name = "<init>" ∧ M'.2.1.2.2.1 = none ∧ M'.2.1.2.2.2 = [] ∧ px_in (.code M'.1 M'.2.1.1 M'.2.1.2.1 none) ∧ px_in (.methodLink M.1.cls x M'.1) ∧ px_in (.instanceMethod M'.1)
  | 5 => ∃ (M' : cz_M) (host : String), cz_ms[q.2.1]? = some M' ∧ cz_okY M' ∧ cz_okN M' q.2.2.1 ∧ M'.1.name = "<init>" ∧ M'.2.1.2.2.1 = none ∧ M'.2.1.2.2.2 = [] ∧ px_in (.code M'.1 M'.2.1.1 M'.2.1.2.1 none) ∧ px_in (.methodLinkNest M.1.cls x M'.1 host) ∧ px_in (.instanceMethod M'.1)
  | 6 => px_in (.methodLink M.1.cls x Lib.objectInit) ∧ px_in (.instanceMethod Lib.objectInit) ∧ px_in (.code Lib.objectInit ⟨#[0xb1]⟩ 1 none)
  | 7 => ∃ n : String, cz_ex[q.2.1]? = some n ∧ px_in (.methodLink M.1.cls x ⟨n, "<init>", "()V"⟩)
  | 8 => ∃ (C : String) (T : u_T) (N : Nat), cz_cl[q.2.1]? = some (C, T, N) ∧ px_in (.classLink M.1.cls x C)
  | 9 => x ≠ 0 ∧ ∃ n : String, cz_ex[q.2.1]? = some n ∧ px_in (.classLink M.1.cls x n)
  | 10 => 65536 ≤ x ∧ ∃ C : String, cz_ty[q.2.1]? = some (.object C) ∧ px_in (.classLink M.1.cls (x - 65536) C) ∧ px_in (.arrayOver (.object C))
  | 11 => px_in (.constant M.1.cls x (Int32.ofInt ((q.2.1 : Int) - (q.2.2.1 : Int))))
  | 12 => 1 ≤ q.2.1 ∧ q.2.1 < 64 ∧ ∃ t : String, cz_str[q.2.1 - 1]? = some (M.1.cls, x, t)
  | 13 => px_in (.methodLink M.1.cls x arraycopyName) ∧ px_in (.native arraycopyName) ∧ px_in (.static arraycopyName) ∧ px_in (.initialized "java/lang/System")
  | 14 => q.2.1 = 10 ∧ px_in (.classLink M.1.cls x "[[I")
  | 15 => px_in (.constantLong M.1.cls x (Int64.ofInt ((q.2.1 : Int) - (q.2.2.1 : Int))))
  | 16 => q.2.1 = 1 ∧ px_in (.fieldLink M.1.cls x "java/lang/String" "COMPACT_STRINGS" "Z")
  | 17 => px_in (.classLink M.1.cls x "[B")
  | 18 => px_in (.methodLink M.1.cls x cz_i1.1) ∧ cz_okI0
  | 20 => ∃ (M' : cz_M) (C : String) (T : u_T) (N : Nat), cz_ms[q.2.1]? = some M' ∧ cz_okY M' ∧ cz_okN M' q.2.2.1 ∧ cz_cl[q.2.2.2]? = some (C, T, N) ∧ M'.1.name ≠ "<init>" ∧ px_in (.methodLink M.1.cls x M'.1) ∧ px_in (.instanceMethod M'.1) ∧ px_in (.sameMethod M'.1.cls M'.1.cls M'.1.name M'.1.desc) ∧ px_in (.superclass M.1.cls M'.1.cls)
  | 19 => px_in (.methodLink M.1.cls x ⟨"[B", "clone", "()Ljava/lang/Object;"⟩) ∧ px_in (.sameMethod "[B" "java/lang/Object" "clone" "()Ljava/lang/Object;") ∧ px_in (.native ⟨"java/lang/Object", "clone", "()Ljava/lang/Object;"⟩) ∧ px_in (.instanceMethod ⟨"java/lang/Object", "clone", "()Ljava/lang/Object;"⟩) ∧ px_in (.selects "[B" ⟨"[B", "clone", "()Ljava/lang/Object;"⟩ ⟨"java/lang/Object", "clone", "()Ljava/lang/Object;"⟩) ∧ px_in (.castable "[B" "java/lang/Cloneable")
  | _ => True
def cz_okM (M : cz_M) : Prop := (∀ (pc : Nat) (q : Instr × Nat), cz_code M pc = some q → decode M.2.1.1 pc = .ok q) ∧ ∀ (x : Nat) (q : Nat × Nat × Nat × Nat), cz_lk M x = some q → cz_okL M x q
/-- what a method's walk stands on: the machine, its code, its class, the world, its room (d frames; C0 cells and S0 slots were made before it) -/
def cz_Cx (p : Program) (e : Env) (R : Room) (s : State) (m : MethodId) (meth : Method) (c : Code) (K : cz_K) (E : cz_E) (M : cz_M) (d C0 S0 : Nat) : Prop :=
  p.tables.exec = Jvm.exec ∧ e.platform.stackTraces = false ∧ c.code = M.2.1.1 ∧ c.maxLocals = M.2.1.2.1 ∧ meth.sig.returnType = M.2.1.2.2.1 ∧ meth.locks = false ∧ meth.name = M.1.name ∧ s.vm.findClass M.1.cls = some m.cls ∧
  c.exceptionTable.toList.map (fun h => (h.startPc, h.endPc, h.handlerPc, h.catchType)) = M.2.1.2.2.2 ∧ cz_Wd K E s ∧ 600192 ≤ R.cells + C0 ∧ 7302232 ≤ R.slots + S0 ∧ d ≤ R.frames ∧ d * 100 ≤ R.locals ∧ E.2 ≤ s.heap.size
section PxCells
variable {p : Program} {l : Launch} {e : Env} {R : Room} {s : State} {m : MethodId} {args : Array Value} {below : List Frame} {meth : Method} {c : Code} {H : Heap} {locs : List Loc} {cells slots : Nat} {Q : State → Prop}
variable {K : cz_K} {E : cz_E} {M : cz_M} {d C0 S0 pc : Nat} {ls : Array Slot} {h : cz_H} {st : List cz_V} {S : cz_N}
/-- one may go on from the point -/
abbrev cz_Go (p : Program) (l : Launch) (e : Env) (R : Room) (s : State) (m : MethodId) (args : Array Value) (below : List Frame) (meth : Method) (c : Code) (Q : State → Prop) (K : cz_K) (E : cz_E) (C0 S0 : Nat) (ls : Array Slot) (S : cz_N) : Prop :=
  ∀ (H' : Heap) (locs' : List Loc) (cells' slots' : Nat), cz_HP cz_cl K E S.2.2 H' → (∀ y ∈ locs', E.2 ≤ y.base) → C0 + cells' = S.2.2.1 → S0 + slots' = S.2.2.2.1 →
    W p l e R s m args below meth c H' locs' cells' slots' Q (F0 m S.1 ls (S.2.1.map (cz_v E)))
theorem cz_get_ok (hC : cz_allC) (X : cz_Cx p e R s m meth c K E M d C0 S0) (hM : cz_okM M) {x : Nat} (hd : decode M.2.1.1 pc = .ok (.getfield x, 3)) (hf : cz_hget M x pc st h = some S)
    (hP : cz_HP cz_cl K E h H) (hL : ∀ y ∈ locs, E.2 ≤ y.base) (hc : C0 + cells = h.1) (hs : S0 + slots = h.2.1) (k : cz_Go p l e R s m args below meth c Q K E C0 S0 ls S) :
    W p l e R s m args below meth c H locs cells slots Q (F0 m pc ls (st.map (cz_v E))) := by
  obtain ⟨hx, -, hb, -, -, -, -, hown, -, hW, -⟩ := X
  unfold cz_hget at hf
  split at hf
  · rename_i r rest
    cases hq : cz_lk M x with
    | none => rw [hq] at hf; cases hf
    | some q =>
      rw [hq] at hf
      have hl := hM.2 x q hq
      obtain ⟨tag, ci, kf, c3⟩ := q
      cases ht : Nat.ble tag 1 with
      | false => simp only [ht, cond_false] at hf; cases hf
      | true =>
        simp only [ht, cond_true] at hf
        split at hf
        · rename_i o ho
          cases hci : Nat.beq o.1 ci with
          | false => rw [hci] at hf; cases hf
          | true =>
            rw [hci] at hf
            have hci := Nat.eq_of_beq_eq_true hci
            simp only [cond_true] at hf
            split at hf
            · rename_i v hv
              cases hf
              skip
              obtain ⟨⟨h2, h1⟩, ⟨r', g1, cell, q1, q2, q3, q4⟩, -⟩ := cz_obj_ok hP ho
              have kk := k H locs cells slots hP hL hc hs
              have hv' : (o.2.map (cz_v E))[kf]? = some (cz_v E v) := by rw [List.getElem?_map, hv]; rfl
              have htag : tag = 0 ∨ tag = 1 := by have := Nat.ble_eq.mp ht; omega
              rcases htag with rfl | rfl
              · obtain ⟨C, T, N, a1, a2, a3, -⟩ := hl
                have a1 : cz_cl[ci]? = some (C, T, N) := a1
                have a2 : kf < N := a2
                obtain ⟨b1, -, -, -, b5, -⟩ := hC ci C T N a1
                have hr : r' = (C, T, N) := Option.some.inj (g1.symm.trans (by rw [hci]; exact a1))
                subst hr
                have hts : ∀ w ∈ u_ws C T N, w.before args s = true := fun w hw => hW.1 w (b1 w hw) args
                obtain ⟨hS, hfc, kC, hkC, hkind⟩ := hW.2.1.1 o.1 _ (by rw [hci]; exact a1)
                obtain ⟨cf, kf', fi, f, hi, hsl⟩ := hS kf a2
                refine W.getf hx hb hown (hW.1 _ a3 args) hi (u_facts hfc hkC (u_lays hts (fun _ hw => hw) a2) hi).1 q1 q3.2 (v := cz_v E v) ?_ rfl rfl hd kk
                rw [hsl, q4 kf a2]
                simp [vp_V, hv']
              · obtain ⟨C, T, N, host, a1, a2, a3, -⟩ := hl
                have a1 : cz_cl[ci]? = some (C, T, N) := a1
                have a2 : kf < N := a2
                obtain ⟨b1, -, -, -, b5, -⟩ := hC ci C T N a1
                have hr : r' = (C, T, N) := Option.some.inj (g1.symm.trans (by rw [hci]; exact a1))
                subst hr
                have hts : ∀ w ∈ u_ws C T N, w.before args s = true := fun w hw => hW.1 w (b1 w hw) args
                obtain ⟨hS, hfc, kC, hkC, hkind⟩ := hW.2.1.1 o.1 _ (by rw [hci]; exact a1)
                obtain ⟨cf, kf', fi, f, hi, hsl⟩ := hS kf a2
                refine va_Wgetf hx hb hown (hW.1 _ a3 args) hi (u_facts hfc hkC (u_lays hts (fun _ hw => hw) a2) hi).1 q1 q3.2 (v := cz_v E v) ?_ rfl rfl hd kk
                rw [hsl, q4 kf a2]
                simp [vp_V, hv']
            · cases hf
        · cases hf
  · cases hf
theorem cz_put_ok (hC : cz_allC) (X : cz_Cx p e R s m meth c K E M d C0 S0) (hM : cz_okM M) {x : Nat} (hd : decode M.2.1.1 pc = .ok (.putfield x, 3)) (hf : cz_hput cz_pg M x pc st h = some S)
    (hP : cz_HP cz_cl K E h H) (hL : ∀ y ∈ locs, E.2 ≤ y.base) (hc : C0 + cells = h.1) (hs : S0 + slots = h.2.1) (k : cz_Go p l e R s m args below meth c Q K E C0 S0 ls S) :
    W p l e R s m args below meth c H locs cells slots Q (F0 m pc ls (st.map (cz_v E))) := by
  obtain ⟨hx, -, hb, -, -, -, hnm, hown, -, hW, -⟩ := X
  unfold cz_hput at hf
  split at hf
  · rename_i v r rest
    cases hq : cz_lk M x with
    | none => rw [hq] at hf; cases hf
    | some q =>
      rw [hq] at hf
      have hl := hM.2 x q hq
      obtain ⟨tag, ci, kf, c3⟩ := q
      cases ht1 : (Nat.ble tag 1 && Nat.beq c3 1 && Nat.ble 192 r) with
      | false => simp only [ht1, cond_false] at hf; cases hf
      | true =>
        simp only [ht1, cond_true] at hf
        simp only [Bool.and_eq_true] at ht1
        obtain ⟨⟨ht, hc3⟩, hr192⟩ := ht1
        have hr192 := Nat.ble_eq.mp hr192
        have hc3 := Nat.eq_of_beq_eq_true hc3
        split at hf
        · rename_i o ho
          split at hf
          · rename_i ks hks
            skip
            cases hci : (Nat.beq o.1 ci && (o.2[kf]?).isSome) with
            | false => rw [hci] at hf; cases hf
            | true =>
              rw [hci] at hf
              simp only [Bool.and_eq_true] at hci
              obtain ⟨hci, hsome⟩ := hci
              have hci := Nat.eq_of_beq_eq_true hci
              skip
              have hlen : kf < (o.2.map (cz_v E)).length := by
                rw [List.length_map]
                obtain ⟨z, hz⟩ := Option.isSome_iff_exists.mp hsome
                exact (List.getElem?_eq_some_iff.mp hz).1
              simp only [cond_true] at hf
              split at hf
              · rename_i kd hkd
                skip
                cases hfit : cz_fitc kd v with
                | false => rw [hfit] at hf; cases hf
                | true =>
                  rw [hfit] at hf
                  cases hf
                  obtain ⟨⟨h2, h1⟩, -, h3⟩ := cz_obj_ok hP ho
                  have h3 := h3 hr192
                  have key : ∀ (C : String) (T : u_T) (N : Nat), cz_cl[ci]? = some (C, T, N) → kf < N → ∃ ty : FieldType, parseFieldDescriptor (T kf).2.2.1 = some ty ∧ narrow ty (cz_v E v) = cz_v E v ∧ fits ty (cz_v E v) = true := by
                    intro C T N a1 a2
                    obtain ⟨-, -, -, -, -, ks', e1, e2, e3⟩ := hC ci C T N a1
                    have e1 : cz_tl[ci]? = some ks' := e1
                    have hks : cz_tl[ci]? = some ks := hks
                    cases hks.symm.trans e1
                    obtain ⟨ty, f1, f2, -⟩ := e3 kf a2
                    cases hkd.symm.trans f2
                    exact ⟨ty, f1, cz_fit_ok E hfit⟩
                  have fin : ∀ (C : String) (T : u_T) (N : Nat) (cell : Cell) (H' : Heap), cz_cl[ci]? = some (C, T, N) → kf < N → cell.cls = K.1.1 o.1 → cell.vm = .none → (∀ z, z < N → cell.slots[K.1.2 o.1 z]? = some (vp_V (o.2.map (cz_v E)) z)) → (∀ a b, a < N → b < N → a ≠ b → K.1.2 o.1 a ≠ K.1.2 o.1 b) →
                      H'[cz_ad E r]? = some (cell.setSlot (K.1.2 o.1 kf) (cz_v E v)) → H'.size = H.size → (∀ z, z ≠ cz_ad E r → H'[z]? = H[z]?) → cz_HP cz_cl K E (cz_setc h r (.inr (.inl (o.1, o.2.set kf v)))) H' := by
                    intro C T N cell H' a1 a2 q2 q3 q4 hap e1 e2 e3
                    refine hP.set hr192 h2 ?_ e2 e3
                    show va_at K.1 cz_cl (cz_ad E r, .inr (o.1, (o.2.set kf v).map (cz_v E))) H'
                    rw [List.map_set]
                    exact ⟨(C, T, N), by rw [hci]; exact a1, t_OB.to (V := updV (vp_V (o.2.map (cz_v E))) kf (cz_v E v)) ⟨_, e1, q2, q3, t_set q4 hap a2 (cz_v E v)⟩ (fun j _ => vp_updV_set hlen (cz_v E v) j)⟩
                  have kk : ∀ (H' : Heap) (i : Nat), cz_HP cz_cl K E (cz_setc h r (.inr (.inl (o.1, o.2.set kf v)))) H' → W p l e R s m args below meth c H' (locs ++ [⟨cz_ad E r, i⟩]) cells slots Q (F0 m (pc + 3) ls (rest.map (cz_v E))) := fun H' i hP' =>
                    k H' _ cells slots hP' (fun y hy => by
                      rcases List.mem_append.mp hy with hy | hy
                      · exact hL y hy
                      · rw [List.mem_singleton.mp hy]; show E.2 ≤ cz_ad E r; rw [cz_ad_new E hr192]; omega) hc hs
                  obtain ⟨r', g1, cell, q1, q2, q3, q4⟩ := h3
                  have htag : tag = 0 ∨ tag = 1 := by have := Nat.ble_eq.mp ht; omega
                  rcases htag with rfl | rfl
                  · obtain ⟨C, T, N, a1, a2, a3, a4⟩ := hl
                    have a1 : cz_cl[ci]? = some (C, T, N) := a1
                    have a2 : kf < N := a2
                    have a3 : px_in (.fieldLink M.1.cls x (T kf).1 (T kf).2.1 (T kf).2.2.1) := a3
                    have a4 : (T kf).2.2.2 = true → M.1.name = "<init>" ∧ (T kf).1 = M.1.cls := a4 hc3
                    obtain ⟨ty, f1, f2, f3⟩ := key C T N a1 a2
                    obtain ⟨b1, -, -, b4, b5, ks', e1, e2, e3⟩ := hC ci C T N a1
                    have hr' : r' = (C, T, N) := Option.some.inj (g1.symm.trans (by rw [hci]; exact a1))
                    subst hr'
                    have hts : ∀ w ∈ u_ws C T N, w.before args s = true := fun w hw => hW.1 w (b1 w hw) args
                    have hc' : cz_cl[o.1]? = some (C, T, N) := by rw [hci]; exact a1
                    have hap := va_apart (own := M.1.cls) (D := K.1) (tys := []) hts (fun _ hw => hw) (fun z => (parseFieldDescriptor (T z).2.2.1).getD .int) (fun z hz => by obtain ⟨ty, w1, -⟩ := e3 z hz; rw [w1]; rfl) b4 hW.2.1 hc'
                    obtain ⟨hS, hfc, kC, hkC, hkind⟩ := hW.2.1.1 o.1 _ hc'
                    obtain ⟨cf, kf', fi, f, hi, hsl⟩ := hS kf a2
                    have hst := (u_facts hfc hkC (u_lays hts (fun _ hw => hw) a2) hi).1
                    have hi' : s.fieldFound? (T kf).1 (T kf).2.1 (T kf).2.2.1 = some (cf, kf', fi, f) := hi
                    have hlay := hts _ (u_in_lay a2)
                    unfold u_lay at hlay
                    by_cases hfin : (T kf).2.2.2 = true
                    · rw [if_pos hfin] at hlay
                      obtain ⟨n1, n2⟩ := a4 hfin
                      have hcf : m.cls = cf := by
                        obtain ⟨_, _, c', _, _, _, -, -, hf', -, -, -, hown2, -⟩ := Cond.laysFinal_spec hlay
                        have e1 : c' = cf := by have := hi.symm.trans hf'; simp at this; exact this.1.symm
                        rw [n2] at hown2
                        rw [← e1]; exact Option.some.inj (hown.symm.trans hown2)
                      have h6 := u_fits hfc hkC hkind (Or.inr hlay) hi f1 f2 f3
                      exact W.putFinK hx hb hown (hW.1 _ a3 args) hi' hst hcf (hnm.trans n1) (by rw [q2]; exact h6) q1 q3 (by rw [hsl]; exact k2_hasslot (q4 kf a2)) rfl rfl hd fun H' e1 e2 e3 => by
                        rw [hsl] at e1 ⊢
                        exact kk H' _ (fin C T N cell H' a1 a2 q2 q3 q4 hap e1 e2 e3)
                    · rw [if_neg hfin] at hlay
                      have h6 := u_store hfc hkC hkind hlay hi f1 f2 f3
                      exact W.putK hx hb (f := f) ⟨hown, hW.1 _ a3 args, ⟨_, _, _, hi'⟩, hst⟩ (by rw [q2]; exact h6) q1 q3 (by rw [hsl]; exact k2_hasslot (q4 kf a2)) rfl rfl hd fun H' e1 e2 e3 => by
                        rw [hsl] at e1 ⊢
                        exact kk H' _ (fin C T N cell H' a1 a2 q2 q3 q4 hap e1 e2 e3)
                  · obtain ⟨C, T, N, host, a1, a2, a3, a4⟩ := hl
                    have a1 : cz_cl[ci]? = some (C, T, N) := a1
                    have a2 : kf < N := a2
                    have a3 : px_in (.fieldLinkNest M.1.cls x (T kf).1 (T kf).2.1 (T kf).2.2.1 host) := a3
                    have a4 : (T kf).2.2.2 = false := a4 hc3
                    obtain ⟨ty, f1, f2, f3⟩ := key C T N a1 a2
                    obtain ⟨b1, -, -, b4, b5, ks', e1, e2, e3⟩ := hC ci C T N a1
                    have hr' : r' = (C, T, N) := Option.some.inj (g1.symm.trans (by rw [hci]; exact a1))
                    subst hr'
                    have hts : ∀ w ∈ u_ws C T N, w.before args s = true := fun w hw => hW.1 w (b1 w hw) args
                    have hc' : cz_cl[o.1]? = some (C, T, N) := by rw [hci]; exact a1
                    have hap := va_apart (own := M.1.cls) (D := K.1) (tys := []) hts (fun _ hw => hw) (fun z => (parseFieldDescriptor (T z).2.2.1).getD .int) (fun z hz => by obtain ⟨ty, w1, -⟩ := e3 z hz; rw [w1]; rfl) b4 hW.2.1 hc'
                    obtain ⟨hS, hfc, kC, hkC, hkind⟩ := hW.2.1.1 o.1 _ hc'
                    obtain ⟨cf, kf', fi, f, hi, hsl⟩ := hS kf a2
                    have hst := (u_facts hfc hkC (u_lays hts (fun _ hw => hw) a2) hi).1
                    have hi' : s.fieldFound? (T kf).1 (T kf).2.1 (T kf).2.2.1 = some (cf, kf', fi, f) := hi
                    have hlay := hts _ (u_in_lay a2)
                    unfold u_lay at hlay
                    rw [if_neg (by rw [a4]; decide)] at hlay
                    have h6 := u_store hfc hkC hkind hlay hi f1 f2 f3
                    exact va_WputK hx hb (f := f) hown (hW.1 _ a3 args) hi' hst (by rw [q2]; exact h6) q1 q3 (by rw [hsl]; exact k2_hasslot (q4 kf a2)) rfl rfl hd fun H' e1 e2 e3 => by
                      rw [hsl] at e1 ⊢
                      exact kk H' _ (fin C T N cell H' a1 a2 q2 q3 q4 hap e1 e2 e3)
              · cases hf
          · cases hf
        · cases hf
  · cases hf
end PxCells
