/-! L1's soundness: how a method ends, how one goes into a callee and comes back. (Written by wip/p2/mk10.py.) -/
def cz_outc (E : cz_E) (r : Option cz_V ⊕ Nat) (o : Outcome) : Prop := match r with
  | .inl v => o = .returned (v.map (cz_v E))
  | .inr x => o = .threw (cz_ad E x)
def cz_Q (K : cz_K) (E : cz_E) (C0 S0 : Nat) (s : State) (below : List Frame) (q : cz_F) : State → Prop := fun t => ∃ (o : Outcome) (L : List Loc) (k n : Nat),
  t.status = .running ∧ Ended t below o ∧ s.WarmedH t.vm ∧ s.sameButNew ({ t with vm := s.vm } : State) L k n ∧ (∀ y ∈ L, E.2 ≤ y.base) ∧ C0 + k = q.2.1 ∧ S0 + n = q.2.2.1 ∧ cz_HP cz_cl K E q.2 t.heap ∧ cz_outc E q.1 o
theorem cz_wk {tb : Tables} {e : Env} {f : Frame} {below : List Frame} {a b : State} (h : Steps tb e (f :: below) a b) : Steps tb e below a b := by
  obtain ⟨n, h1, h2⟩ := h
  exact ⟨n, h1, fun k hk => Within.weaken (mid := [f]) (h2 k hk)⟩
section CzEnds
variable {p : Program} {l : Launch} {e : Env} {R : Room} {s : State} {m : MethodId} {args : Array Value} {below : List Frame} {meth : Method} {c : Code} {H : Heap} {locs : List Loc} {cells slots : Nat} {Q Q' : State → Prop}
variable {K : cz_K} {E : cz_E} {M : cz_M} {d C0 S0 pc : Nat} {ls : Array Slot} {h : cz_H} {st : List cz_V}
theorem cz_Wmono {g : JFrame} (hq : ∀ t, Q t → Q' t) (k : W p l e R s m args below meth c H locs cells slots Q g) : W p l e R s m args below meth c H locs cells slots Q' g := by
  intro T hT X
  obtain ⟨t, a, b⟩ := k T hT X
  exact ⟨t, a, hq t b⟩
theorem cz_ofMQ {o : Outcome} {v : Option cz_V} (ho : o = .returned (v.map (cz_v E))) (hP : cz_HP cz_cl K E h H) (hL : ∀ y ∈ locs, E.2 ≤ y.base) (hc : C0 + cells = h.1) (hs : S0 + slots = h.2.1) {free : Addr → Prop} (hfree : ∀ q, free q → E.2 ≤ q) {t : State}
    (hq : MQ below (fun _ _ o' t => t.heap = H ∧ o' = o) args s cells slots free t) : cz_Q K E C0 S0 s below (.inl v, h) t := by
  obtain ⟨o', h1, h2, ⟨h3, h4⟩, L, ⟨-, h5, h6⟩, h7⟩ := hq
  subst h4
  exact ⟨o', L, cells, slots, h1, h2, h5, h6, fun y hy => hfree _ (h7 y hy), hc, hs, by rw [h3]; exact hP, ho⟩
theorem cz_ret_ok (X : cz_Cx p e R s m meth c K E M d C0 S0) {i : Instr} (hd : decode M.2.1.1 pc = .ok (i, cz_len i)) {v : Option cz_V} (hf : cz_ret i M.2.1.2.2.1 st = some v)
    (hP : cz_HP cz_cl K E h H) (hL : ∀ y ∈ locs, E.2 ≤ y.base) (hc : C0 + cells = h.1) (hs : S0 + slots = h.2.1) :
    W p l e R s m args below meth c H locs cells slots (cz_Q K E C0 S0 s below (.inl v, h)) (F0 m pc ls (st.map (cz_v E))) := by
  obtain ⟨hx, -, hb, hml, hr, hlk, -⟩ := X
  unfold cz_ret at hf
  split at hf
  · split at hf
    · rename_i ht
      cases hf
      rw [ht] at hr
      exact cz_Wmono (fun t ht => cz_ofMQ (v := none) rfl hP hL hc hs (fun _ h => h) ht) (W.vret (Qc := fun _ _ o' t => t.heap = H ∧ o' = .returned none) (free := fun q => E.2 ≤ q) hx hb hr (fun t ht _ => ⟨ht, rfl⟩) hL hd hlk)
    · cases hf
  · rename_i a
    have small : ∀ ty : FieldType, M.2.1.2.2.1 = some ty → narrow ty (.int a) = .int a → W p l e R s m args below meth c H locs cells slots (cz_Q K E C0 S0 s below (.inl (some (.inl a)), h)) (F0 m pc ls [.int a]) := fun ty ht hn => by
      rw [ht] at hr
      exact cz_Wmono (fun t ht => cz_ofMQ (v := some (.inl a)) rfl hP hL hc hs (fun _ h => h) ht) (W.zret (v := a) (ty := ty) (Qc := fun _ _ o' t => t.heap = H ∧ o' = .returned (some (.int a))) (free := fun q => E.2 ≤ q) hx hb hr hn (fun t ht _ => ⟨ht, rfl⟩) hL hd hlk)
    split at hf
    · rename_i ht
      cases hf
      rw [ht] at hr
      exact cz_Wmono (fun t ht => cz_ofMQ (v := some (.inl a)) rfl hP hL hc hs (fun _ h => h) ht) (W.iret (v := a) (Qc := fun _ _ o' t => t.heap = H ∧ o' = .returned (some (.int a))) (free := fun q => E.2 ≤ q) hx hb hr (fun t ht _ => ⟨ht, rfl⟩) hL hd hlk)
    · rename_i ht
      cases hn : (decide (a = 0) || decide (a = 1)) with
      | false => rw [hn] at hf; cases hf
      | true =>
        rw [hn] at hf
        cases hf
        exact small .boolean ht (cz_fit_ok (t := .boolean) (v := .inl a) E hn).1
    · rename_i ht
      cases hn : decide (a.toInt8.toInt32 = a) with
      | false => rw [hn] at hf; cases hf
      | true =>
        rw [hn] at hf
        cases hf
        exact small .byte ht (cz_fit_ok (t := .byte) (v := .inl a) E hn).1
    · rename_i ht
      cases hn : decide (a.toUInt32.toUInt16.toUInt32.toInt32 = a) with
      | false => rw [hn] at hf; cases hf
      | true =>
        rw [hn] at hf
        cases hf
        exact small .char ht (by show Value.int _ = Value.int a; rw [of_decide_eq_true hn])
    · cases hf
  · rename_i a
    split at hf
    · rename_i ht
      cases hf
      rw [ht] at hr
      exact cz_Wmono (fun t ht => cz_ofMQ (v := some (.inr (.inl a))) rfl hP hL hc hs (fun _ h => h) ht) (W.lret (v := a) (Qc := fun _ _ o' t => t.heap = H ∧ o' = .returned (some (.long a))) (free := fun q => E.2 ≤ q) hx hb hr (fun t ht _ => ⟨ht, rfl⟩) hL hd hlk)
    · cases hf
  · rename_i a
    have hv : cz_v E (.inr (.inr a)) = .null ∨ ∃ b, cz_v E (.inr (.inr a)) = .ref b := by
      cases a with
      | none => exact Or.inl rfl
      | some r => exact Or.inr ⟨_, rfl⟩
    have big : ∀ ty : FieldType, M.2.1.2.2.1 = some ty → ((∃ n, ty = .object n) ∨ ∃ t, ty = .array t) → W p l e R s m args below meth c H locs cells slots (cz_Q K E C0 S0 s below (.inl (some (.inr (.inr a))), h)) (F0 m pc ls [cz_v E (.inr (.inr a))]) := fun ty ht hn => by
      rw [ht] at hr
      exact cz_Wmono (fun t ht => cz_ofMQ (v := some (.inr (.inr a))) rfl hP hL hc hs (fun _ h => h) ht) (W.aret (v := cz_v E (.inr (.inr a))) (Qc := fun _ _ o' t => t.heap = H ∧ o' = .returned (some (cz_v E (.inr (.inr a))))) (free := fun q => E.2 ≤ q) hx hb hr hn hv (fun t ht _ => ⟨ht, rfl⟩) hL hd hlk)
    split at hf
    · rename_i n ht
      cases hf
      exact big _ ht (Or.inl ⟨n, rfl⟩)
    · rename_i n ht
      cases hf
      exact big _ ht (Or.inr ⟨n, rfl⟩)
    · cases hf
  · cases hf
/-- into a callee: what its walk comes to, the caller's walk comes to -/
theorem cz_enter {T : State} (X : Stand p l e R s m args below meth c T locs cells slots) {g : JFrame} (hg : g.method = m) (hsize : g.locals.size = c.maxLocals) {ig : Instr} (hdg : decode c.code g.pc = .ok (ig, 3))
    {mk : MethodId} {methk : Method} {ck : Code} (a : List Value) {R' : Room} (hmk : T.vm.method? mk = some methk) (hck : methk.code = some ck) (hlk : methk.locks = false) (hpk : T.plainMethod mk)
    (hframes : R'.frames + 1 ≤ R.frames) (hlocals : 2 * g.monitorRoom + (g.stack.map fun v => v.category).sum + (ck.maxLocals + 11) + R'.locals ≤ R.locals) (hcells : cells + R'.cells ≤ R.cells) (hslots : slots + R'.slots ≤ R.slots)
    (hW : W p l e R' (T.calling g mk a.toArray) mk a.toArray (.java g :: below) methk ck T.heap [] 0 0 Q (entryFrame mk a.toArray ck.maxLocals)) :
    ∃ t, Steps p.tables e below (doInvoke e (T.setTop g) [] mk a.toArray).1 t ∧ Q t := by
  obtain ⟨X2, hdo⟩ := X.into hg hsize hdg a.toArray hmk hck hlk hpk hframes hlocals hcells hslots
  obtain ⟨t, h1, h2⟩ := hW ((T.setTop g).pushFrame (.java (entryFrame mk a.toArray ck.maxLocals))) (by simp [State.pushFrame, State.setFrames, State.setTop, State.modifyTopJava]) X2
  exact ⟨t, by rw [hdo []]; exact cz_wk h1, h2⟩
end CzEnds
