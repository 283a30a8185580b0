/-! Soundness, part 5: how a method ends, how one goes into a callee and comes back. -/
def px_out (E : px_E) (r : Option px_V ⊕ Nat) (o : Outcome) : Prop := match r with
  | .inl v => o = .returned (v.map (px_v E))
  | .inr x => o = .threw (px_ad E x)
def px_Q (K : px_K) (E : px_E) (C0 S0 : Nat) (s : State) (below : List Frame) (lv : List px_F) : State → Prop := fun t => ∃ q ∈ lv, ∃ (o : Outcome) (L : List Loc) (k n : Nat),
  t.status = .running ∧ Ended t below o ∧ s.WarmedH t.vm ∧ s.sameButNew ({ t with vm := s.vm } : State) L k n ∧ (∀ y ∈ L, E.2.2 ≤ y.base) ∧ C0 + k = q.2.2.1 ∧ S0 + n = q.2.2.2.1 ∧ px_Gok E.1 q.1 ∧ px_HP px_cl K E q.2.2 t.heap ∧ px_out E q.2.1 o
theorem px_Q.mono {K : px_K} {E : px_E} {C0 S0 : Nat} {s : State} {below : List Frame} {lv lv' : List px_F} (h : ∀ q ∈ lv, q ∈ lv') {t : State} (hq : px_Q K E C0 S0 s below lv t) : px_Q K E C0 S0 s below lv' t := by
  obtain ⟨q, h1, h2⟩ := hq
  exact ⟨q, h q h1, h2⟩
theorem px_wk {tb : Tables} {e : Env} {f : Frame} {below : List Frame} {a b : State} (h : Steps tb e (f :: below) a b) : Steps tb e below a b := by
  obtain ⟨n, h1, h2⟩ := h
  exact ⟨n, h1, fun k hk => Within.weaken (mid := [f]) (h2 k hk)⟩
section PxEnds
variable {p : Program} {l : Launch} {e : Env} {R : Room} {s : State} {m : MethodId} {args : Array Value} {below : List Frame} {meth : Method} {c : Code} {H : Heap} {locs : List Loc} {cells slots : Nat} {Q Q' : State → Prop}
variable {K : px_K} {E : px_E} {M : px_M} {d C0 S0 pc : Nat} {ls : Array Slot} {h : px_H} {g : px_G} {st : List px_V}
theorem px_Wmono {g : JFrame} (hq : ∀ t, Q t → Q' t) (k : W p l e R s m args below meth c H locs cells slots Q g) : W p l e R s m args below meth c H locs cells slots Q' g := by
  intro T hT X
  obtain ⟨t, a, b⟩ := k T hT X
  exact ⟨t, a, hq t b⟩
theorem px_ofMQ {o : Outcome} {v : Option px_V} (ho : o = .returned (v.map (px_v E))) (hP : px_HP px_cl K E h H) (hG : px_Gok E.1 g) (hL : ∀ y ∈ locs, E.2.2 ≤ y.base) (hc : C0 + cells = h.1) (hs : S0 + slots = h.2.1) {free : Addr → Prop} (hfree : ∀ q, free q → E.2.2 ≤ q) {t : State}
    (hq : MQ below (fun _ _ o' t => t.heap = H ∧ o' = o) args s cells slots free t) : px_Q K E C0 S0 s below [(g, .inl v, h)] t := by
  obtain ⟨o', h1, h2, ⟨h3, h4⟩, L, ⟨-, h5, h6⟩, h7⟩ := hq
  subst h4
  exact ⟨_, List.mem_singleton.mpr rfl, o', L, cells, slots, h1, h2, h5, h6, fun y hy => hfree _ (h7 y hy), hc, hs, hG, by rw [h3]; exact hP, ho⟩
theorem px_ret_ok (X : px_Cx p e R s m meth c K E M d C0 S0) {i : Instr} (hd : decode M.2.1.1 pc = .ok (i, px_len i)) {f : Option FieldType → List px_V → Option (Option px_V)} (hi : px_retB i = some f) {v : Option px_V} (hf : f M.2.1.2.2.1 st = some v)
    (hP : px_HP px_cl K E h H) (hG : px_Gok E.1 g) (hL : ∀ y ∈ locs, E.2.2 ≤ y.base) (hc : C0 + cells = h.1) (hs : S0 + slots = h.2.1) :
    W p l e R s m args below meth c H locs cells slots (px_Q K E C0 S0 s below [(g, .inl v, h)]) (F0 m pc ls (st.map (px_v E))) := by
  obtain ⟨hx, -, hb, hml, hr, hlk, -⟩ := X
  cases i
  case return_ =>
    cases hi
    dsimp only at hf
    split at hf
    · split at hf
      · rename_i ht
        cases hf
        rw [ht] at hr
        exact px_Wmono (fun t ht => px_ofMQ (v := none) rfl hP hG hL hc hs (fun _ h => h) ht) (W.vret (Qc := fun _ _ o' t => t.heap = H ∧ o' = .returned none) (free := fun q => E.2.2 ≤ q) hx hb hr (fun t ht _ => ⟨ht, rfl⟩) hL hd hlk)
      · cases hf
    · cases hf
  case ireturn =>
    cases hi
    dsimp only at hf
    split at hf
    · rename_i a
      split at hf
      · rename_i ht
        cases hf
        rw [ht] at hr
        exact px_Wmono (fun t ht => px_ofMQ (v := some (.inl a)) rfl hP hG hL hc hs (fun _ h => h) ht) (W.iret (v := px_i E.1 a) (Qc := fun _ _ o' t => t.heap = H ∧ o' = .returned (some (.int (px_i E.1 a)))) (free := fun q => E.2.2 ≤ q) hx hb hr (fun t ht _ => ⟨ht, rfl⟩) hL hd hlk)
      · rename_i ht
        split at hf
        · rename_i n
          cases hn : (px_ieq n 0 || px_ieq n 1) with
          | false => rw [hn] at hf; cases hf
          | true =>
            rw [hn] at hf
            cases hf
            rw [ht] at hr
            have hb2 : narrow .boolean (.int (px_i E.1 (.inl n))) = .int (px_i E.1 (.inl n)) := (px_fit_ok (t := .boolean) (v := .inl (.inl n)) E (by show (decide (n = 0) || decide (n = 1)) = true; rw [← px_ieq_eq, ← px_ieq_eq]; exact hn)).1
            exact px_Wmono (fun t ht => px_ofMQ (v := some (.inl (.inl n))) rfl hP hG hL hc hs (fun _ h => h) ht) (W.zret (v := px_i E.1 (.inl n)) (ty := .boolean) (Qc := fun _ _ o' t => t.heap = H ∧ o' = .returned (some (.int (px_i E.1 (.inl n))))) (free := fun q => E.2.2 ≤ q) hx hb hr hb2 (fun t ht _ => ⟨ht, rfl⟩) hL hd hlk)
        · cases hf
      · cases hf
    · cases hf
  case lreturn =>
    cases hi
    dsimp only at hf
    split at hf
    · rename_i a
      split at hf
      · rename_i ht
        cases hf
        rw [ht] at hr
        exact px_Wmono (fun t ht => px_ofMQ (v := some (.inr (.inl a))) rfl hP hG hL hc hs (fun _ h => h) ht) (W.lret (v := px_l E.1 a) (Qc := fun _ _ o' t => t.heap = H ∧ o' = .returned (some (.long (px_l E.1 a)))) (free := fun q => E.2.2 ≤ q) hx hb hr (fun t ht _ => ⟨ht, rfl⟩) hL hd hlk)
      · cases hf
    · cases hf
  all_goals (exact absurd hi (by simp [px_retB]))
/-- into a callee: what its walk comes to, the caller's walk comes to -/
theorem px_enter {T : State} (X : Stand p l e R s m args below meth c T locs cells slots) {g : JFrame} (hg : g.method = m) (hsize : g.locals.size = c.maxLocals) {ig : Instr} (hdg : decode c.code g.pc = .ok (ig, 3))
    {mk : MethodId} {methk : Method} {ck : Code} (a : List Value) {R' : Room} (hmk : T.vm.method? mk = some methk) (hck : methk.code = some ck) (hlk : methk.locks = false) (hpk : T.plainMethod mk)
    (hframes : R'.frames + 1 ≤ R.frames) (hlocals : 2 * g.monitorRoom + (g.stack.map fun v => v.category).sum + (ck.maxLocals + 11) + R'.locals ≤ R.locals) (hcells : cells + R'.cells ≤ R.cells) (hslots : slots + R'.slots ≤ R.slots)
    (hW : W p l e R' (T.calling g mk a.toArray) mk a.toArray (.java g :: below) methk ck T.heap [] 0 0 Q (entryFrame mk a.toArray ck.maxLocals)) :
    ∃ t, Steps p.tables e below (doInvoke e (T.setTop g) [] mk a.toArray).1 t ∧ Q t := by
  obtain ⟨X2, hdo⟩ := X.into hg hsize hdg a.toArray hmk hck hlk hpk hframes hlocals hcells hslots
  obtain ⟨t, h1, h2⟩ := hW ((T.setTop g).pushFrame (.java (entryFrame mk a.toArray ck.maxLocals))) (by simp [State.pushFrame, State.setFrames, State.setTop, State.modifyTopJava]) X2
  exact ⟨t, by rw [hdo []]; exact px_wk h1, h2⟩
end PxEnds
