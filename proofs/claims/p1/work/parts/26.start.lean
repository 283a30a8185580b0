/-! The world at the law's start, and the claim. -/
section PxStart
variable {s : State} {b : Nat}
theorem px_tb0 (hts : ∀ w ∈ lw_tbl, w.before #[Value.ref b] s = true) : px_tb s := fun w hw args => px_kw_warm hw.2 (State.WarmedH.refl s) (hts w hw.1)
theorem px_D0 (ht : px_tb s) : ∃ D : va_G, va_K D px_cl [] s := by
  have h0 : ∀ ci : Nat, ∃ q : ClassId × (Nat → Nat), ∀ (C : String) (T : u_T) (N : Nat), px_cl[ci]? = some (C, T, N) → u_Kn s C T N q.1 q.2 := by
    intro ci
    cases h : px_cl[ci]? with
    | none => exact ⟨(0, fun _ => 0), fun C T N hq => by cases hq⟩
    | some r =>
      obtain ⟨C, T, N⟩ := r
      obtain ⟨b1, b2, -⟩ := px_allC_ok ci C T N h
      obtain ⟨cC, iS, hK⟩ := u_known (ws := u_ws C T N) (args := #[]) (fun w hw => ht w (b1 w hw) #[]) (fun _ hw => hw) (ht _ b2 #[])
      exact ⟨(cC, iS), fun C' T' N' hq => by cases hq; exact hK⟩
  obtain ⟨f, hf⟩ := Classical.axiomOfChoice h0
  exact ⟨(fun c => (f c).1, fun c => (f c).2), fun c q hq => hf c q.1 q.2.1 q.2.2 hq, fun k q hk => by cases hk⟩
theorem px_T0 (hts : ∀ w ∈ lw_tbl, w.before #[Value.ref b] s = true) (ht : px_tb s) : ∃ tc : Nat → ClassId, (∀ (t : Nat) (ty : FieldType), px_ty[t]? = some ty → ArrOfT s (tc t) ty ∧ va_RA s (tc t) ty) ∧ ∃ kA : Class, s.vm.classes[tc 10]? = some kA ∧ kA.kind = .array (tc 1) (.array .int) := by
  have hprim : ∀ ty : FieldType, px_in (.arrayClass ty) → (∀ C, ty ≠ .object C) → ∃ cA : ClassId, s.vm.findClass ("[" ++ ty.toString) = some cA ∧ ArrOfT s cA ty ∧ va_RA s cA ty := by
    intro ty h hno
    obtain ⟨cA, kA, comp, h1, h2, h3⟩ := Cond.arrayClass_spec (ht _ h #[])
    refine ⟨cA, h1, fun n z => ⟨fun k h => (by cases h), kA, h2, comp, h3⟩, ?_⟩
    cases ty <;> first | exact h1 | exact absurd rfl (hno _)
  have hobj : ∀ C : String, (Cond.arrayOver (.object C)) ∈ lw_tbl → ∃ cA : ClassId, ArrOfT s cA (.object C) ∧ va_RA s cA (.object C) := by
    intro C h
    obtain ⟨comp, c, k, h1, h2, h3, h4, h5⟩ := Cond.arrayOver_spec (hts _ h)
    exact ⟨c, fun n z => ⟨fun k h => (by cases h), k, h3, comp, h4⟩, k, comp, h3, h4, h1, h5⟩
  obtain ⟨c0, -, h0⟩ := hprim .byte pA_byte (fun C h => by cases h)
  obtain ⟨c1, n1, h1⟩ := hprim .int pA_int (fun C h => by cases h)
  obtain ⟨c2, -, h2⟩ := hprim .long pA_long (fun C h => by cases h)
  obtain ⟨c3, -, h3⟩ := hprim .boolean pA_boolean (fun C h => by cases h)
  obtain ⟨c4, h4⟩ := hobj _ pf_o4
  obtain ⟨c5, h5⟩ := hobj _ pf_o5
  obtain ⟨c6, h6⟩ := hobj _ pf_o6
  obtain ⟨c7, h7⟩ := hobj _ pf_o7
  obtain ⟨c8, h8⟩ := hobj _ pf_o8
  obtain ⟨c9, h9⟩ := hobj _ pf_o9
  obtain ⟨comp, c10, k10, g1, g2, g3, g4, g5⟩ := arrayOverA_spec (hts _ pf_o10)
  have hcomp : comp = c1 := Option.some.inj (g1.symm.trans n1)
  subst hcomp
  refine ⟨fun t => [c0, comp, c2, c3, c4, c5, c6, c7, c8, c9, c10].getD t 0, fun t ty hty => ?_, k10, g3, g4⟩
  have hlt : t < 11 := (List.getElem?_eq_some_iff.mp hty).1
  have hs : t = 0 ∨ t = 1 ∨ t = 2 ∨ t = 3 ∨ t = 4 ∨ t = 5 ∨ t = 6 ∨ t = 7 ∨ t = 8 ∨ t = 9 ∨ t = 10 := by omega
  rcases hs with rfl | rfl | rfl | rfl | rfl | rfl | rfl | rfl | rfl | rfl | rfl
  · cases hty; exact h0
  · cases hty; exact h1
  · cases hty; exact h2
  · cases hty; exact h3
  · cases hty; exact h4
  · cases hty; exact h5
  · cases hty; exact h6
  · cases hty; exact h7
  · cases hty; exact h8
  · cases hty; exact h9
  · cases hty; exact ⟨fun n z => ⟨fun k h => (by cases h), k10, g3, comp, g4⟩, g5⟩
theorem px_X0 (ht : px_tb s) : ∃ xc : Nat → ClassId, ∀ (k : Nat) (n : String), px_ex[k]? = some n → s.vm.findClass n = some (xc k) := by
  have h0 : ∀ k : Nat, ∃ c : ClassId, ∀ n : String, px_ex[k]? = some n → s.vm.findClass n = some c := by
    intro k
    cases h : px_ex[k]? with
    | none => exact ⟨0, fun n hn => by cases hn⟩
    | some n =>
      obtain ⟨w1, -⟩ := px_allX_ok k n h
      obtain ⟨c, kc, hc, -⟩ := Cond.instantiable_spec (args := #[]) (first := s) (o := none) (idx := []) (ht _ (w1 (.instantiable n 6) (by simp [px_thw])) #[])
      exact ⟨c, fun n' hn => by cases hn; exact hc⟩
  obtain ⟨f, hf⟩ := Classical.axiomOfChoice h0
  exact ⟨f, hf⟩
theorem px_yes {A B : String} {a c : ClassId} (h : (Cond.castable A B).before #[Value.ref b] s = true) (ha : s.vm.findClass A = some a) (hc : s.vm.findClass B = some c) : s.vm.assignable a c = true := by
  obtain ⟨c3, c4, h3, h4, h5⟩ := Cond.castable_spec h
  cases h3.symm.trans ha
  cases h4.symm.trans hc
  exact h5
theorem px_no {A B : String} {a c : ClassId} (h : (Cond.not (.castable A B)).before #[Value.ref b] s = true) (ha : s.vm.findClass A = some a) (hc : s.vm.findClass B = some c) : s.vm.assignable a c = false := by
  have hv := Cond.holds_not_iff.mp h
  simp only [Cond.value, ha, hc] at hv
  exact Option.some.inj hv
theorem px_S0 (hts : ∀ w ∈ lw_tbl, w.before #[Value.ref b] s = true) (hg : (Jvm.Cond.and given_1 narrow_1).before #[Value.ref b] s = true) : ∃ ex : Nat → Nat, ∀ (r : Nat) (q : String × Nat × String), px_str[r]? = some q → vk_R q.1 q.2.1 q.2.2 (ex r) s ∧ va_O "java/lang/String" (ex r) (fun a => s.heap.size ≤ a) s s.heap := by
  have h0 : ∀ r : Nat, ∃ a : Nat, ∀ q : String × Nat × String, px_str[r]? = some q → vk_R q.1 q.2.1 q.2.2 a s ∧ va_O "java/lang/String" a (fun a => s.heap.size ≤ a) s s.heap := by
    intro r
    cases h : px_str[r]? with
    | none => exact ⟨0, fun q hq => by cases hq⟩
    | some q =>
      have hlt : r < px_spl.length := (List.getElem?_eq_some_iff.mp h).1
      have h3 : (q, px_spl[r]) ∈ px_str.zip px_spl := by
        refine List.mem_of_getElem? (i := r) ?_
        rw [List.getElem?_zip_eq_some]
        exact ⟨h, List.getElem?_eq_getElem hlt⟩
      have h4 := List.all_eq_true.mp pf_str _ h3
      simp only [Bool.and_eq_true] at h4
      have e1 := px_f_ok h4.1 hg
      have e2 := hts _ (px_t_ok h4.2)
      obtain ⟨a, c, cell, k, q1, q2, q3, q4, q5, q6, -⟩ := Cond.exactly_spec (args := #[Value.ref b]) (first := s) (o := none) (s := s) (idx := []) e1
      refine ⟨a, fun q' hq' => ?_⟩
      cases hq'
      exact ⟨vk_R.of e2 q1, cell, q3, q5, by rw [q6]; exact q2, Nat.not_le.mpr (Array.getElem?_eq_some_iff.mp q3).1⟩
  obtain ⟨f, hf⟩ := Classical.axiomOfChoice h0
  exact ⟨f, hf⟩
end PxStart
def R_law : String := "TextAtlasLaw"
def lw_P (b : Addr) (xs : List Int32) (args : Array Value) (s : State) : Prop := args = #[.ref b] ∧ s.IntsAt b xs ∧ xs.length ≤ 6 ∧ (Jvm.Cond.and given_1 narrow_1).before args s = true
def lw_Q (_ : Array Value) (s : State) (o : Outcome) (t : State) : Prop := o = .returned (some (.int 1)) ∧ Framed s o t [] 600002 7302232
def lw_Z (below : List Frame) (a : Array Value) (s : State) : State → Prop := fun t => ∃ o, t.status = .running ∧ Ended t below o ∧ lw_Q a s o t
def lw_At (p : Program) (s : State) (m : MethodId) (meth : Method) (c : Code) (b L : Nat) (xs : Nat → Int32) : Prop :=
  p.tables.exec = Jvm.exec ∧ c.code = code ∧ meth.sig.returnType = ret ∧ c.maxLocals = 8 ∧ s.vm.findClass R_law = some m.cls ∧ (∀ w ∈ lw_tbl, w.before #[Value.ref b] s = true) ∧ va_X b L xs s s.heap ∧ b < s.heap.size ∧ meth.locks = false ∧ (Jvm.Cond.and given_1 narrow_1).before #[Value.ref b] s = true ∧ meth.name = "law" ∧ c.exceptionTable.isEmpty = true
theorem px_traces {l : Launch} {e : Env} (hfl : l.flags = flags0) (h : l.admits e) : e.platform.stackTraces = false := by
  rw [h.platform]
  show l.stackTraces = false
  unfold Launch.stackTraces
  rw [hfl]
  decide +kernel
set_option maxHeartbeats 4000000 in
theorem whole_start {p : Program} {e : Env} {s : State} {m : MethodId} {below : List Frame} {meth : Method} {c : Code} (l : Launch) (hfl : l.flags = flags0) {b L : Nat} {xs : Nat → Int32} (hL : L ≤ 6) (C0 : lw_At p s m meth c b L xs) : W p l e room_1 s m #[Value.ref b] below meth c s.heap [] 0 0 (lw_Z below #[Value.ref b] s) (entryFrame m ([Value.ref b] : List Value).toArray 8) := by
  obtain ⟨hx, hb, hr, hml, hown, hts, hX, hbl, hlk, hgv, hnm, hnoh⟩ := C0
  intro T hT X
  have htr := px_traces hfl X.admits
  have ht := px_tb0 hts
  obtain ⟨D, hD⟩ := px_D0 ht
  obtain ⟨tc, hTc, hgrid⟩ := px_T0 hts ht
  obtain ⟨xc, hxc⟩ := px_X0 ht
  obtain ⟨ex, hex⟩ := px_S0 hts hgv
  have hsA : ∀ a : Nat, a < s.heap.size → ¬ (fun a => s.heap.size ≤ a) a := fun a h w => absurd w (Nat.not_le.mpr h)
  generalize hE : (((fun j => if j = 6 then xs 0 &&& 31 else if j = 7 then Int32.ofNat L else xs j), (fun r => match r with | 0 => b | r + 1 => ex r), s.heap.size) : px_E) = E
  have e6 : E.1 6 = xs 0 &&& 31 := by rw [← hE]; rfl
  have e7 : E.1 7 = Int32.ofNat L := by rw [← hE]; rfl
  have ej : ∀ j, j < 6 → E.1 j = xs j := fun j hj => by rw [← hE]; show (if j = 6 then _ else if j = 7 then _ else xs j) = xs j; rw [if_neg (by omega), if_neg (by omega)]
  have eb : E.2.2 = s.heap.size := by rw [← hE]
  have ex0 : E.2.1 0 = b := by rw [← hE]
  have exr : ∀ r, E.2.1 (r + 1) = ex r := fun r => by rw [← hE]
  have hA : px_A E = fun a => s.heap.size ≤ a := by unfold px_A; rw [eb]
  have t7 : (E.1 7).toInt = (L : Int) := by rw [e7]; exact nI_toInt (by omega)
  have hWd : px_Wd (D, tc, xc, s.heap) E s := by
    refine ⟨ht, hD, hTc, hxc, ?_, fun r q hq => ?_, hgrid, ?_, ?_, ⟨L, ?_, t7, hL, by rw [ex0, eb]; exact hbl⟩, eb, by rw [e6, ej 0 (by omega)]⟩
    · intro q hq
      have c0 : s.vm.findClass "java/lang/IndexOutOfBoundsException" = some (xc 0) := hxc 0 _ rfl
      have c1 : s.vm.findClass "java/lang/IllegalArgumentException" = some (xc 1) := hxc 1 _ rfl
      have c2 : s.vm.findClass "java/lang/IllegalStateException" = some (xc 2) := hxc 2 _ rfl
      have c3 : s.vm.findClass "java/lang/UnsupportedOperationException" = some (xc 3) := hxc 3 _ rfl
      simp only [px_asg, List.mem_cons, List.not_mem_nil, or_false] at hq
      rcases hq with rfl | rfl | rfl | rfl | rfl | rfl | rfl | rfl
      · exact px_yes (hts _ pf_y0) c0 c0
      · exact px_yes (hts _ pf_y1) c1 c1
      · exact px_yes (hts _ pf_y2) c2 c2
      · exact px_yes (hts _ pf_y3) c3 c3
      · exact px_no (px_f_ok pf_n01 hgv) c0 c1
      · exact px_no (px_f_ok pf_n21 hgv) c2 c1
      · exact px_no (px_f_ok pf_n31 hgv) c3 c1
      · exact px_no (px_f_ok pf_n32 hgv) c3 c2
    · rw [exr, hA]
      exact hex r q hq
    · rw [hA]
      exact ⟨va_Zqof (hts _ pf_sU) (hts _ pf_iT) (px_f_ok pf_U hgv) hsA, px_LSof (hts _ pf_sU) hsA⟩
    · rw [hA]
      exact ⟨va_Zqof (hts _ pf_sS) (hts _ pf_iT) (px_f_ok pf_S hgv) hsA, px_LSof (hts _ pf_sS) hsA⟩
    · rw [ex0]
      obtain ⟨scr, g1, g2, g3, g4, g5⟩ := hX
      exact ⟨scr, g1, g2, g3, g4, fun j hj => by rw [ej j (by omega)]; exact g5 j hj⟩
  have hG : px_Gok E.1 [px_full, px_full, px_full, px_full, px_full, px_full, (0, 31), (0, 6)] := by
    intro i q hq
    have hlt : i < 8 := (List.getElem?_eq_some_iff.mp hq).1
    have hs : i = 0 ∨ i = 1 ∨ i = 2 ∨ i = 3 ∨ i = 4 ∨ i = 5 ∨ i = 6 ∨ i = 7 := by omega
    rcases hs with rfl | rfl | rfl | rfl | rfl | rfl | rfl | rfl
    · cases hq; exact px_any _
    · cases hq; exact px_any _
    · cases hq; exact px_any _
    · cases hq; exact px_any _
    · cases hq; exact px_any _
    · cases hq; exact px_any _
    · cases hq
      obtain ⟨j, j1, j2⟩ := pk_andE (xs 0) (m := 31) 5 (by decide)
      rw [e6, j2, nI_toInt (by omega)]
      exact ⟨by show (0 : Int) ≤ _; omega, by show (_ : Int) ≤ 31; omega⟩
    · cases hq
      rw [t7]
      exact ⟨by show (0 : Int) ≤ _; omega, by show (_ : Int) ≤ 6; omega⟩
  have hrun := px_run
  cases hlv : px_x px_pg 20000 12 pm_0 0 [(0, .inr (.inr (some 0)))] [] px_h0 [px_full, px_full, px_full, px_full, px_full, px_full, (0, 31), (0, 6)] with
  | none => rw [hlv] at hrun; cases hrun
  | some lv =>
    rw [hlv] at hrun
    have hall : ∀ q ∈ lv, px_end q.2.1 = true ∧ q.2.2.2.1 ≤ 7302232 := fun q hq => by
      have h1 := List.all_eq_true.mp hrun q hq
      simp only [Bool.and_eq_true, Nat.ble_eq] at h1
      exact h1
    have hP : px_HP px_cl (D, tc, xc, s.heap) E px_h0 s.heap := ⟨Nat.le_refl _, by decide, by rw [eb]; rfl, fun r h1 h2 => absurd h2 (Nat.not_lt.mpr h1), fun _ _ => rfl⟩
    have hl := lv_entry ([.ref b]) (n := 8) (Nat.le_of_ble_eq_true rfl)
    have hl' : lv_has ((lg_sl [Value.ref b] ++ List.replicate (8 - (lg_sl [Value.ref b]).length) Slot.unset).toArray) 8 (px_lc E [(0, .inr (.inr (some 0)))]) := by
      have : px_lc E [(0, .inr (.inr (some 0)))] = lv_args 0 [Value.ref b] := by
        show [(0, Value.ref (E.2.1 0))] = [(0, Value.ref b)]
        rw [ex0]
      rw [this]
      exact hl
    have key := px_sound px_allC_ok px_allA_ok px_allX_ok px_allM_ok 20000 12 pm_0 0 [(0, .inr (.inr (some 0)))] [] px_h0 _ lv hlv (px_allM_ok 0 pm_0 rfl) p l e room_1 s m #[Value.ref b] below meth c s.heap [] 0 0 _ (D, tc, xc, s.heap) E 64 0
      ⟨hx, htr, hb, hml, hr, hlk, hnm, hown, by rw [Array.toList_eq_nil_iff.mpr (Array.isEmpty_iff.mp hnoh)]; rfl, hWd, by decide, by decide, by decide, by decide, by rw [eb]; exact Nat.le_refl _⟩ hl' hP hG (fun y hy => by cases hy) rfl rfl
    rw [lg_entry_eq]
    obtain ⟨t, h1, q, hq, o, L', k, n, b1, b2, b3, b4, b5, b6, b7, b8, b9, b10⟩ := key T hT X
    obtain ⟨hend, hsl⟩ := hall q hq
    have ho : o = .returned (some (.int 1)) := by
      obtain ⟨q1, q2, q3⟩ := q
      unfold px_end at hend
      split at hend
      · rename_i z hz
        have hz' : q2 = .inl (some (.inl (.inl z))) := hz
        have h9 := of_decide_eq_true hend
        subst h9
        subst hz'
        exact b10
      · cases hend
    refine ⟨t, h1, o, b1, b2, ho, ⟨some (.int 1), ho⟩, b3, b4.weaken (fun y hy hlt => ?_) ?_ ?_⟩
    · exfalso
      have h9 := b5 y hy
      rw [eb] at h9
      exact absurd h9 (Nat.not_le.mpr hlt)
    · have := b9.2.1
      omega
    · omega
set_option maxHeartbeats 4000000 in
theorem lw_walk (l : Launch) (hfl : l.flags = flags0) (b : Addr) (xs : List Int32) : MetFree l x (headSpec (Jvm.Cond.code x code maxLocals ret :: tables_1) room_1) (lw_P b xs) (fun _ _ _ _ _ => True) lw_Q := by
  refine MetFree.of_bodyS (code := code) (maxLocals := maxLocals) (ret := ret) (by decide) ?_ ?_
  · intro args s m h hn
    obtain ⟨meth, c, h1, h2, h3, h4, h5, h6, -, -⟩ := Cond.code_spec hn (atoms_spec (ws := Jvm.Cond.code x code maxLocals ret :: tables_1) h _ List.mem_cons_self)
    exact ⟨meth, c, h1, h2, h3, h4, h5, h6⟩
  · intro p e s m args below meth c s₁ B hml0 hP _
    obtain ⟨rfl, hx, hbd, hgv⟩ := hP
    obtain ⟨scr, harrAt, hlist, hof, hsmall⟩ := hx
    obtain ⟨hcb, hkn, -, -⟩ := State.arrayAt?_spec harrAt
    have hown : s.vm.findClass R_law = some m.cls := findClass_of_methodNamed B.named
    have hts0 : ∀ c ∈ (Jvm.Cond.code x code maxLocals ret :: tables_1), c.before #[Value.ref b] s = true := atoms_spec (ws := Jvm.Cond.code x code maxLocals ret :: tables_1) B.pre
    have hts : ∀ w ∈ lw_tbl, w.before #[Value.ref b] s = true := k2_hts_sels lw_privs (fun w hw => hts0 w (List.mem_cons_of_mem _ hw)) lw_privs_ok
    have hml : c.maxLocals = 8 := B.maxLocals_eq (hts0 _ List.mem_cons_self)
    have X₀ : Stand p l e room_1 s m #[Value.ref b] below meth c s₁ [] 0 0 := Stand.of_body B
    have hh0 : s₁.heap = s.heap := by rw [B.state]; rfl
    have hsz : scr.slots.size = xs.length := by rw [← Array.length_toList, hlist, List.length_map]
    have hval : ∀ j : Nat, j < xs.length → scr.slots[j]? = some (.int (xs.getD j 0)) := fun j hj => by
      rw [← Array.getElem?_toList, hlist]
      simp [hj]
    have hbl : b < s.heap.size := (Array.getElem?_eq_some_iff.mp hcb).1
    have hX : va_X b xs.length (fun j => xs.getD j 0) s s.heap := ⟨scr, hcb, hof, hkn, hsz, hval⟩
    have K : W p l e room_1 s m #[Value.ref b] below meth c s₁.heap [] 0 0 (lw_Z below #[Value.ref b] s) (entryFrame m ([Value.ref b] : List Value).toArray 8) := by
      rw [hh0]
      exact whole_start l hfl hbd ⟨B.exec, B.bytes, B.returns, hml, hown, hts, hX, hbl, B.notSynchronized, hgv, (name_of_methodNamed B.named B.method).1, B.noHandlers (hts0 _ List.mem_cons_self)⟩
    obtain ⟨t, a1, o, b1, b2, b3⟩ := K s₁ rfl X₀
    exact ⟨t, o, a1, b1, b2, b3⟩
theorem lw_pre_spec {args : Array Value} {s : State} (h : (Jvm.Cond.and given_1 narrow_1).before args s = true) (hr : rest_1_c.before args s = true) : ∃ (b : Addr) (xs : List Int32), lw_P b xs args s := by
  have hs := flat_of_before _ h
  have hq := flat_of_before _ hr
  have hc : (Cond.count 1).before args s = true := hs _ (by decide +kernel)
  have harr : (Cond.arrayOf (.arg 0) .int).before args s = true := hs _ (by decide +kernel)
  have hle : (Cond.le (.length (.arg 0)) (.int 6)).before args s = true := hs _ (by decide +kernel)
  have hlen : (Cond.isInt (.length (.arg 0))).before args s = true := hq _ (by decide +kernel)
  have hall : (Cond.all (.arg 0) (.isInt (.elem (.arg 0) (.index 0)))).before args s = true := hq _ (by decide +kernel)
  obtain ⟨b, xs, hb, hx⟩ := State.ints_of_pre rfl harr hlen hall
  have hsm : xs.length < 2 ^ 31 := hx.choose_spec.2.2.2
  have hev : (Term.length (.arg 0)).eval args s none [] s = some (.int xs.length.toInt32) := hx.length_eval hb
  have hv := Cond.le_ints hev (show (Term.int 6).eval args s none [] s = some (.int 6) from rfl)
  have hd : xs.length.toInt32 ≤ 6 := by
    simpa [Cond.before, Cond.holds, hv] using hle
  have hN : xs.length ≤ 6 := (Int32.ofNat_le_ofNat hsm (by decide)).mp (show Int32.ofNat xs.length ≤ Int32.ofNat 6 from hd)
  exact ⟨b, xs, Cond.one_arg hc (show args[0]? = some (.ref b) from hb), hx, hN, h⟩
theorem lw_comes (l : Launch) (hfl : l.flags = flags0) : Comes l x (Jvm.Cond.code x code maxLocals ret :: tables_1) room_1 (fun tb e args s => Calls_1 tb e args s ∧ rest_1 tb e args s ∧ Pre_1 tb e args s)
    (fun _ _ args s o t => lw_Q args s o t) := by
  intro p e ha hc hk s m args below hf hfit hheap happ hpre
  obtain ⟨b, xs, hP⟩ := lw_pre_spec hpre.2.2 hpre.2.1
  obtain ⟨k, o, h1, h2, h3, hQ⟩ := lw_walk l hfl b xs p e ha hc hk s m args below hf ((Spec.applies_iff_loose hf).mp happ).1 hP trivial
  exact ⟨k, o, h1, h2, h3, hQ⟩
theorem lw_frame {s t : State} {o : Outcome} {args : Array Value} (h : Framed s o t [] 600002 7302232) :
    Framed s o t (fieldLocs frame_1_writes args s ++ arrayLocs frame_1_arrays args s ++ staticLocs frame_1_statics s) 600002 7302232 := h
theorem lw_limb (L : Cond) (hL : ∀ (args : Array Value) (s t : State), L.after args s (.returned (some (.int 1))) t = true) :
    ArmFor flags0 classFile x code maxLocals ret World_1 tables_1 room_1 Calls_1 rest_1 Pre_1
      (fun tb e a s o t => postC L tb e a s o t ∧ Framed s o t (fieldLocs frame_1_writes a s ++ arrayLocs frame_1_arrays a s ++ staticLocs frame_1_statics s) 600002 7302232) := by
  intro l hfl _ _ p e ha hc hk s m args below hf hfit hheap happ hpre
  obtain ⟨k, o, h1, h2, h3, rfl, hF⟩ := lw_comes l hfl p e ha hc hk s m args below hf hfit hheap happ hpre
  exact ⟨k, _, h1, h2, h3, hL args s _, lw_frame hF⟩
theorem i_vc : Claimed_1_1 ∧ Claimed_1_2 := ⟨lw_limb limb_1_1 (fun args s t => by simp [limb_1_1, Cond.after, Cond.holds, Cond.value]), lw_limb limb_1_2 (fun args s t => Cond.after_iff.mpr (by
  first | (rw [show limb_1_2 = Cond.eq .result (.int 1) from rfl, Cond.eq_ints (x := 1) (y := 1) rfl rfl]; simp; done) | (simp [limb_1_2, Cond.value, Term.eval]; done)))⟩
