/-! The world at the law's start, and the claim. -/
section PxStart
variable {s : State} {b : Nat}
theorem px_tb0 (hts : ∀ w ∈ lw_tbl, w.before #[Value.ref b] s = true) : px_tb s := fun w hw args => px_kw_warm hw.2 (State.WarmedH.refl s) (hts w hw.1)
theorem px_D0 (ht : px_tb s) : ∃ D : va_G, va_K D cz_cl [] s := by
  have h0 : ∀ ci : Nat, ∃ q : ClassId × (Nat → Nat), ∀ (C : String) (T : u_T) (N : Nat), cz_cl[ci]? = some (C, T, N) → u_Kn s C T N q.1 q.2 := by
    intro ci
    cases h : cz_cl[ci]? with
    | none => exact ⟨(0, fun _ => 0), fun C T N hq => by cases hq⟩
    | some r =>
      obtain ⟨C, T, N⟩ := r
      obtain ⟨b1, b2, -⟩ := cz_allC_ok ci C T N h
      obtain ⟨cC, iS, hK⟩ := u_known (ws := u_ws C T N) (args := #[]) (fun w hw => ht w (b1 w hw) #[]) (fun _ hw => hw) (ht _ b2 #[])
      exact ⟨(cC, iS), fun C' T' N' hq => by cases hq; exact hK⟩
  obtain ⟨f, hf⟩ := Classical.axiomOfChoice h0
  exact ⟨(fun c => (f c).1, fun c => (f c).2), fun c q hq => hf c q.1 q.2.1 q.2.2 hq, fun k q hk => by cases hk⟩
theorem px_T0 (hts : ∀ w ∈ lw_tbl, w.before #[Value.ref b] s = true) (ht : px_tb s) : ∃ tc : Nat → ClassId, (∀ (t : Nat) (ty : FieldType), cz_ty[t]? = some ty → ArrOfT s (tc t) ty ∧ va_RA s (tc t) ty) ∧ ∃ kA : Class, s.vm.classes[tc 10]? = some kA ∧ kA.kind = .array (tc 1) (.array .int) := by
  have hprim : ∀ ty : FieldType, px_in (.arrayClass ty) → (∀ C, ty ≠ .object C) → ∃ cA : ClassId, s.vm.findClass ("[" ++ ty.toString) = some cA ∧ ArrOfT s cA ty ∧ va_RA s cA ty := by
    intro ty h hno
    obtain ⟨cA, kA, comp, h1, h2, h3⟩ := Cond.arrayClass_spec (ht _ h #[])
    refine ⟨cA, h1, fun n z => ⟨fun k h => (by cases h), kA, h2, comp, h3⟩, ?_⟩
    cases ty <;> first | exact h1 | exact absurd rfl (hno _)
  have hobj : ∀ C : String, px_in (.arrayOver (.object C)) → ∃ cA : ClassId, ArrOfT s cA (.object C) ∧ va_RA s cA (.object C) := by
    intro C h
    obtain ⟨comp, c, k, h1, h2, h3, h4, h5⟩ := Cond.arrayOver_spec (hts _ h.1)
    exact ⟨c, fun n z => ⟨fun k h => (by cases h), k, h3, comp, h4⟩, k, comp, h3, h4, h1, h5⟩
  obtain ⟨c0, -, h0⟩ := hprim .byte vA_byte (fun C h => by cases h)
  obtain ⟨c1, n1, h1⟩ := hprim .int vA_int (fun C h => by cases h)
  obtain ⟨c2, -, h2⟩ := hprim .long vA_long (fun C h => by cases h)
  obtain ⟨c3, -, h3⟩ := hprim .boolean vA_boolean (fun C h => by cases h)
  obtain ⟨c4, h4⟩ := hobj _ pf_o4
  obtain ⟨c5, h5⟩ := hobj _ pf_o5
  obtain ⟨c6, h6⟩ := hobj _ pf_o6
  obtain ⟨c7, h7⟩ := hobj _ pf_o7
  obtain ⟨c8, h8⟩ := hobj _ pf_o8
  obtain ⟨c9, h9⟩ := hobj _ pf_o9
  obtain ⟨comp, c10, k10, g1, g2, g3, g4, g5⟩ := arrayOverA_spec (hts _ pf_o10)
  have hcomp : comp = c1 := Option.some.inj (g1.symm.trans n1)
  subst hcomp
  refine ⟨fun t => [c0, comp, c2, c3, c4, c5, c6, c7, c8, c9, c10].getD t 0, fun t ty hty => ?_, k10, g3, g4⟩
  have hlt : t < 11 := (List.getElem?_eq_some_iff.mp hty).1
  have hs : t = 0 ∨ t = 1 ∨ t = 2 ∨ t = 3 ∨ t = 4 ∨ t = 5 ∨ t = 6 ∨ t = 7 ∨ t = 8 ∨ t = 9 ∨ t = 10 := by omega
  rcases hs with rfl | rfl | rfl | rfl | rfl | rfl | rfl | rfl | rfl | rfl | rfl
  · cases hty; exact h0
  · cases hty; exact h1
  · cases hty; exact h2
  · cases hty; exact h3
  · cases hty; exact h4
  · cases hty; exact h5
  · cases hty; exact h6
  · cases hty; exact h7
  · cases hty; exact h8
  · cases hty; exact h9
  · cases hty; exact ⟨fun n z => ⟨fun k h => (by cases h), k10, g3, comp, g4⟩, g5⟩
theorem px_X0 (ht : px_tb s) : ∃ xc : Nat → ClassId, ∀ (k : Nat) (n : String), cz_ex[k]? = some n → s.vm.findClass n = some (xc k) := by
  have h0 : ∀ k : Nat, ∃ c : ClassId, ∀ n : String, cz_ex[k]? = some n → s.vm.findClass n = some c := by
    intro k
    cases h : cz_ex[k]? with
    | none => exact ⟨0, fun n hn => by cases hn⟩
    | some n =>
      obtain ⟨w1, -⟩ := px_allX_ok k n h
      obtain ⟨c, kc, hc, -⟩ := Cond.instantiable_spec (args := #[]) (first := s) (o := none) (idx := []) (ht _ (w1 (.instantiable n 6) (by simp [px_thw])) #[])
      exact ⟨c, fun n' hn => by cases hn; exact hc⟩
  obtain ⟨f, hf⟩ := Classical.axiomOfChoice h0
  exact ⟨f, hf⟩
theorem px_yes {A B : String} {a c : ClassId} {args : Array Value} (h : (Cond.castable A B).before args s = true) (ha : s.vm.findClass A = some a) (hc : s.vm.findClass B = some c) : s.vm.assignable a c = true := by
  obtain ⟨c3, c4, h3, h4, h5⟩ := Cond.castable_spec h
  cases h3.symm.trans ha
  cases h4.symm.trans hc
  exact h5
theorem px_no {A B : String} {a c : ClassId} {args : Array Value} (h : (Cond.not (.castable A B)).before args s = true) (ha : s.vm.findClass A = some a) (hc : s.vm.findClass B = some c) : s.vm.assignable a c = false := by
  have hv := Cond.holds_not_iff.mp h
  simp only [Cond.value, ha, hc] at hv
  exact Option.some.inj hv
/-- what fits a field of an object that lay there -/
theorem px_fit (hf : heapFits s = true) {a : Nat} {cell : Cell} (hc : s.heap[a]? = some cell) {i : Nat} {v : Value} (hv : cell.slots[i]? = some v) : s.fitsSlot cell.cls cell.vm i v = true := by
  obtain ⟨ha, rfl⟩ := Array.getElem?_eq_some_iff.mp hc
  have h1 := (Array.all_eq_true_iff_forall_mem.mp hf) _ (Array.getElem_mem ha)
  have hi : i < (s.heap[a]).slots.size := (Array.getElem?_eq_some_iff.mp hv).1
  have h2 := (List.all_eq_true.mp h1) i (List.mem_range.mpr hi)
  simpa [hv] using h2
/-- what is known of a string's object -/
def px_O (D : va_G) (aK aV : Nat) (hh hz : Int32) (s : State) : Prop := ∃ cell : Cell, s.heap[aK]? = some cell ∧ cell.cls = D.1 15 ∧ (cell.vm.isStatics = false ∧ cell.vm ≠ .unknown) ∧ cell.slots[D.2 15 0]? = some (.ref aV) ∧ cell.slots[D.2 15 1]? = some (.int 0) ∧ cell.slots[D.2 15 2]? = some (.int hh) ∧ cell.slots[D.2 15 3]? = some (.int hz)
/-- and of its bytes -/
def px_B (aV : Nat) (l : List Int) (s : State) : Prop := ∃ cell : Cell, s.heap[aV]? = some cell ∧ s.isArrayOf cell .byte ∧ cell.vm ≠ .unknown ∧ cell.slots.size = l.length ∧ ∀ j, j < l.length → cell.slots[j]? = some (.int (Int32.ofInt (l.getD j 0)))
theorem px_len {tm : Term} {args : Array Value} {v : Value} {a : Nat} {cell : Cell} (hv : (Term.length tm).eval args s none [] s = some v) (ht : tm.eval args s none [] s = some (.ref a)) (harr : s.arrayAt? a = some cell) : cell.slots.size < 2 ^ 31 := by
  simp only [Term.eval, ht, harr, Option.bind_eq_bind, Option.bind_some] at hv
  by_cases hlt : cell.slots.size < 2147483648
  · exact hlt
  · simp [hlt] at hv
theorem px_S1 (ht : px_tb s) (hfit : heapFits s = true) {D : va_G} (hD : va_K D cz_cl [] s) {o : String} {k : Nat} {l : List Int} (hl : l.length ≤ 200) {args : Array Value} (hw : ∀ w ∈ px_sw o k l, w.before args s = true) :
    ∃ (aK aV : Nat) (hh hz : Int32), (Term.string o k).eval args s none [] s = some (.ref aK) ∧ (hz = 0 ∨ hz = 1) ∧ px_O D aK aV hh hz s ∧ px_B aV l s := by
  have w0 := hw _ (List.mem_append_left _ List.mem_cons_self)
  have w1 := va_eqt (hw _ (List.mem_append_left _ (List.mem_cons_of_mem _ List.mem_cons_self)))
  have w2 := hw _ (List.mem_append_left _ (List.mem_cons_of_mem _ (List.mem_cons_of_mem _ List.mem_cons_self)))
  have w3 := va_eqt (hw _ (List.mem_append_left _ (List.mem_cons_of_mem _ (List.mem_cons_of_mem _ (List.mem_cons_of_mem _ List.mem_cons_self)))))
  have w4 : ∀ j, j < l.length → (Term.elem (.field (.string o k) "java/lang/String" "value" "[B") (.int (Int32.ofNat j))).eval args s none [] s = some (.int (Int32.ofInt (l.getD j 0))) := fun j hj => va_eqt (hw _ (List.mem_append_right _ (List.mem_map.mpr ⟨j, List.mem_range.mpr hj, rfl⟩)))
  obtain ⟨hS, hfc, kC, hkC, hkind⟩ := hD.1 15 ("java/lang/String", cT_15, 4) rfl
  obtain ⟨b1, -⟩ := cz_allC_ok 15 "java/lang/String" cT_15 4 rfl
  have hts : ∀ w ∈ u_ws "java/lang/String" cT_15 4, w.before args s = true := fun w hw => ht w (b1 w hw) args
  obtain ⟨aK, c, cell, kk, q1, q2, q3, q4, q5, q6, q7⟩ := Cond.exactly_spec (args := args) (first := s) (o := none) (s := s) (idx := []) w0
  have q2 : s.vm.findClass "java/lang/String" = some c := q2
  have hcc : c = D.1 15 := Option.some.inj (q2.symm.trans hfc)
  subst hcc
  have hkk : kk = kC := Option.some.inj (q4.symm.trans hkC)
  subst hkk
  have hsize := q7 hkind
  obtain ⟨cf0, kf0, fi0, f0, i0, e0⟩ := hS 0 (by decide)
  obtain ⟨cf1, kf1, fi1, f1, i1, e1⟩ := hS 1 (by decide)
  obtain ⟨cf2, kf2, fi2, f2, i2, e2⟩ := hS 2 (by decide)
  obtain ⟨cf3, kf3, fi3, f3, i3, e3⟩ := hS 3 (by decide)
  obtain ⟨-, cell1, c1, c2, -, -, c5⟩ := Term.field_spec (args := args) (first := s) (o := none) (idx := []) i1 q1 w1
  cases q3.symm.trans c1
  obtain ⟨aV, cv, v1, v2, v3⟩ := Term.length_spec w3
  obtain ⟨-, cell2, d1, d2, -, -, d5⟩ := Term.field_spec (args := args) (first := s) (o := none) (idx := []) i0 q1 v1
  cases q3.symm.trans d1
  have typ : ∀ {cf fi : Nat} {kf : Class} {f : Field} {z : Nat} {ty : FieldType}, z < 4 → s.fieldFound? (cT_15 z).1 (cT_15 z).2.1 (cT_15 z).2.2.1 = some (cf, kf, fi, f) → parseFieldDescriptor (cT_15 z).2.2.1 = some ty → ∃ v, cell.slots[f.slot]? = some v ∧ fits ty v = true := by
    intro cf fi kf f z ty hz hi hp
    obtain ⟨-, -, h3⟩ := u_facts q2 hkC (u_lays hts (fun _ hw => hw) hz) hi
    have hlt : f.slot < cell.slots.size := by rw [hsize]; exact (Array.getElem?_eq_some_iff.mp h3).1
    have hv : cell.slots[f.slot]? = some (cell.slots[f.slot]'hlt) := Array.getElem?_eq_getElem hlt
    refine ⟨_, hv, ?_⟩
    have h4 := px_fit hfit q3 hv
    have hty : f.type = ty := (State.fieldFound?_type hi hp).2
    have hst : s.slotType? cell.cls cell.vm f.slot = some ty := by
      unfold State.slotType?
      rw [q6, hkC]
      simp only [Option.bind_eq_bind, Option.bind_some]
      cases hvm : cell.vm <;> first | (rw [hvm] at q5; cases q5; done) | (simp only [hkind]; rw [h3, hty])
    unfold State.fitsSlot at h4
    rw [hst] at h4
    exact h4
  obtain ⟨z2, y2, y3⟩ := typ (z := 2) (by decide) i2 (ty := .int) (by decide +kernel)
  obtain ⟨z3, y4, y5⟩ := typ (z := 3) (by decide) i3 (ty := .boolean) (by decide +kernel)
  have x2 : ∃ n, z2 = .int n := by cases z2 <;> first | exact ⟨_, rfl⟩ | cases y3
  have x3 : ∃ n, z3 = .int n ∧ (n = 0 ∨ n = 1) := by
    cases z3 <;> first | cases y5 | skip
    rename_i n
    refine ⟨n, rfl, ?_⟩
    have y5 : (n == 0 || n == 1) = true := y5
    simpa using y5
  obtain ⟨hh, rfl⟩ := x2
  obtain ⟨hz, rfl, h01⟩ := x3
  refine ⟨aK, aV, hh, hz, q1, h01, ⟨cell, q3, q6, ⟨q5, c2⟩, by rw [← e0]; exact d5, by rw [← e1]; exact c5, by rw [← e2]; exact y2, by rw [← e3]; exact y4⟩, ?_⟩
  obtain ⟨hcell, hkn, -, -⟩ := State.arrayAt?_spec v2
  obtain ⟨hof, -⟩ := Cond.arrayOf_spec (args := args) (first := s) (o := none) (idx := []) w2 v1 hcell
  have hsz : cv.slots.size < 2 ^ 31 := px_len w3 v1 v2
  have hlen : cv.slots.size = l.length := by
    have h9 : Int32.ofNat l.length = cv.slots.size.toInt32 := by injection v3
    have h8 : (Int32.ofNat l.length).toInt = (cv.slots.size.toInt32).toInt := by rw [h9]
    rw [show cv.slots.size.toInt32 = Int32.ofNat cv.slots.size from rfl, Int32.toInt_ofNat_of_lt (by omega), Int32.toInt_ofNat_of_lt (by omega)] at h8
    omega
  refine ⟨cv, hcell, hof, hkn, hlen, fun j hj => ?_⟩
  obtain ⟨a9, i9, cell9, g1, g2, g3, g4, g5⟩ := Term.elem_spec (w4 j hj)
  cases v1.symm.trans g1
  cases v2.symm.trans g3
  have hi : i9 = Int32.ofNat j := by
    have e : (Term.int (Int32.ofNat j)).eval args s none [] s = some (.int (Int32.ofNat j)) := rfl
    cases g2.symm.trans e
    rfl
  have hc : i9.toNatClampNeg = j := by rw [hi]; exact Int32.toNatClampNeg_ofNat_of_lt (by omega)
  rw [hc] at g5
  exact g5
theorem px_S0 (hts : ∀ w ∈ lw_tbl, w.before #[Value.ref b] s = true) (hfit : heapFits s = true) {D : va_G} (hD : va_K D cz_cl [] s) (hg : (Jvm.Cond.and given_1 narrow_1).before #[Value.ref b] s = true) :
    ∃ (aK aV : Nat → Nat) (hh hz : Nat → Int32), (∀ r, hz r = 0 ∨ hz r = 1) ∧ (∀ (r : Nat) (q : String × Nat × String), cz_str[r]? = some q → vk_R q.1 q.2.1 q.2.2 (aK r) s) ∧ ∀ r, r < 50 → px_O D (aK r) (aV r) (hh r) (hz r) s ∧ px_B (aV r) (yl (64 + r)) s := by
  have ht := px_tb0 hts
  have h0 : ∀ r : Nat, ∃ q : Nat × Nat × Int32 × Int32, (q.2.2.2 = 0 ∨ q.2.2.2 = 1) ∧ (∀ z : String × Nat × String, cz_str[r]? = some z → vk_R z.1 z.2.1 z.2.2 q.1 s) ∧ (r < 50 → px_O D q.1 q.2.1 q.2.2.1 q.2.2.2 s ∧ px_B q.2.1 (yl (64 + r)) s) := by
    intro r
    cases h : cz_str[r]? with
    | none =>
      refine ⟨(0, 0, 0, 0), Or.inl rfl, fun z hz => (by cases hz), fun hr => ?_⟩
      exfalso
      have := List.getElem?_eq_none_iff.mp h
      have hlen : cz_str.length = 50 := by decide
      omega
    | some z =>
      obtain ⟨h1, n, h2⟩ := pS_all r z h
      have hl : (yl (64 + r)).length ≤ 200 := (yl_ok (64 + r)).2
      obtain ⟨a1, a2, a3, a4, e1, e2, e3, e4⟩ := px_S1 ht hfit hD hl (px_sv_ok h2 hg)
      exact ⟨(a1, a2, a3, a4), e2, fun z' hz' => by cases hz'; exact vk_R.of (hts _ h1) e1, fun _ => ⟨e3, e4⟩⟩
  obtain ⟨f, hf⟩ := Classical.axiomOfChoice h0
  exact ⟨fun r => (f r).1, fun r => (f r).2.1, fun r => (f r).2.2.1, fun r => (f r).2.2.2, fun r => (hf r).1, fun r q hq => (hf r).2.1 q hq, fun r hr => (hf r).2.2 hr⟩
end PxStart
def R_law : String := "TextAtlasLaw"
def lw_P (b : Addr) (xs : List Int32) (args : Array Value) (s : State) : Prop := args = #[.ref b] ∧ s.IntsAt b xs ∧ xs.length ≤ 3072 ∧ heapFits s = true ∧ (Jvm.Cond.and given_1 narrow_1).before args s = true
def lw_Q (_ : Array Value) (s : State) (o : Outcome) (t : State) : Prop := o = .returned (some (.int 1)) ∧ Framed s o t [] 601024 7293033
def lw_Z (below : List Frame) (a : Array Value) (s : State) : State → Prop := fun t => ∃ o, t.status = .running ∧ Ended t below o ∧ lw_Q a s o t
def lw_At (p : Program) (s : State) (m : MethodId) (meth : Method) (c : Code) (b L : Nat) (xs : Nat → Int32) : Prop :=
  p.tables.exec = Jvm.exec ∧ c.code = code ∧ meth.sig.returnType = ret ∧ c.maxLocals = 8 ∧ s.vm.findClass R_law = some m.cls ∧ (∀ w ∈ lw_tbl, w.before #[Value.ref b] s = true) ∧ va_X b L xs s s.heap ∧ b < s.heap.size ∧ meth.locks = false ∧ (Jvm.Cond.and given_1 narrow_1).before #[Value.ref b] s = true ∧ meth.name = "law" ∧ c.exceptionTable.isEmpty = true ∧ heapFits s = true
theorem px_traces {l : Launch} {e : Env} (hfl : l.flags = flags0) (h : l.admits e) : e.platform.stackTraces = false := by
  rw [h.platform]
  show l.stackTraces = false
  unfold Launch.stackTraces
  rw [hfl]
  decide +kernel
/-- where the places below 192 lie -/
def lw_ad (b a0 : Nat) (aK aV : Nat → Nat) (r : Nat) : Nat := if r = 0 then b else if r ≤ 50 then aK (r - 1) else if r = 51 then aK 49 else if r = 60 then a0 else if r ≤ 113 then aV (r - 64) else aV 49
def lw_hs (f : Nat → Int32) (r : Nat) : Int32 := if r ≤ 50 then f (r - 1) else f 49
theorem lw_ad_s {b a0 : Nat} {aK aV : Nat → Nat} {hh hz : Nat → Int32} {r : Nat} (h1 : 1 ≤ r) (h2 : r ≤ 51) : ∃ i, i < 50 ∧ lw_ad b a0 aK aV r = aK i ∧ lw_ad b a0 aK aV (yp r) = aV i ∧ lw_hs hh r = hh i ∧ lw_hs hz r = hz i ∧ yp r < 192 := by
  by_cases e : r ≤ 50
  · refine ⟨r - 1, by omega, ?_, ?_, ?_, ?_, ?_⟩
    · unfold lw_ad; rw [if_neg (by omega), if_pos e]
    · unfold yp lw_ad; rw [if_pos e, if_neg (by omega), if_neg (by omega), if_neg (by omega), if_neg (by omega), if_pos (by omega)]; congr 1; omega
    · unfold lw_hs; rw [if_pos e]
    · unfold lw_hs; rw [if_pos e]
    · unfold yp; rw [if_pos e]; omega
  · have h3 : r = 51 := by omega
    subst h3
    exact ⟨49, by omega, rfl, rfl, rfl, rfl, by decide⟩
theorem lw_ad_b {b a0 : Nat} {aK aV : Nat → Nat} {r : Nat} (h1 : 64 ≤ r) (h2 : r ≤ 114) : ∃ i, i < 50 ∧ lw_ad b a0 aK aV r = aV i ∧ yl r = yl (64 + i) := by
  by_cases e : r ≤ 113
  · refine ⟨r - 64, by omega, ?_, ?_⟩
    · unfold lw_ad; rw [if_neg (by omega), if_neg (by omega), if_neg (by omega), if_neg (by omega), if_pos e]
    · congr 1; omega
  · have h3 : r = 114 := by omega
    subst h3
    exact ⟨49, by omega, rfl, rfl⟩
theorem px_arrT {s : State} {cell : Cell} {ty : FieldType} (h : s.isArrayOf cell ty) : ArrOfT s cell.cls ty := fun n z => ⟨fun k h => (by cases h), h.2⟩
theorem px_nst {v : VmData} (h : ∀ k, v ≠ .statics k) : v.isStatics = false := by
  cases v <;> first | rfl | exact absurd rfl (h _)
set_option maxRecDepth 20000 in
theorem px_HP0 {s : State} {b a0 L : Nat} {xs : Nat → Int32} {D : va_G} {tc xc : Nat → ClassId} {aK aV : Nat → Nat} {hh hz : Nat → Int32} (hX : va_X b L xs s s.heap) (hstr : ∀ r, r < 50 → px_O D (aK r) (aV r) (hh r) (hz r) s ∧ px_B (aV r) (yl (64 + r)) s)
    (htc : ∀ r cell, s.heap[lw_ad b a0 aK aV r]? = some cell → tc (64 + r) = cell.cls) : cz_HP cz_cl (D, tc, xc, s.heap) (lw_ad b a0 aK aV, s.heap.size) (yz_b (ym L xs (lw_hs hh) (lw_hs hz)) yz_0) s.heap := by
  have hlt : ∀ r, r < 192 → cz_ext r = true → cz_old cz_cl (D, tc, xc, s.heap) (lw_ad b a0 aK aV, s.heap.size) (ym L xs (lw_hs hh) (lw_hs hz) r) r s.heap := by
    intro r hr hx
    simp only [cz_ext, Bool.or_eq_true, Bool.and_eq_true, Nat.ble_eq] at hx
    by_cases e0 : r = 0
    · subst e0
      obtain ⟨scr, g1, g2, g3, g4, g5⟩ := hX
      refine ⟨Or.inl ⟨rfl, rfl⟩, scr, g1, (htc 0 scr g1).symm, px_nst g2.1, g3, g4, fun j hj => g5 j hj⟩
    · by_cases e1 : r ≤ 51
      · obtain ⟨i, i1, i2, i3, i4, i5, i6⟩ := lw_ad_s (b := b) (a0 := a0) (aK := aK) (aV := aV) (hh := hh) (hz := hz) (r := r) (by omega) e1
        obtain ⟨⟨cell, o1, o2, o3, o4, o5, o6, o7⟩, -⟩ := hstr i i1
        have em : ym L xs (lw_hs hh) (lw_hs hz) r = .inr (.inl (15, [.inr (.inr (some (yp r))), .inl 0, .inl (lw_hs hh r), .inl (lw_hs hz r)])) := by
          unfold ym
          rw [if_neg e0, if_pos e1]
        rw [em, i4, i5]
        have ea : cz_ad (lw_ad b a0 aK aV, s.heap.size) (yp r) = aV i := by rw [cz_ad_old _ i6]; exact i3
        refine ⟨("java/lang/String", cT_15, 4), rfl, cell, by show s.heap[lw_ad b a0 aK aV r]? = _; rw [i2]; exact o1, o2, o3, fun k hk => ?_⟩
        have hk4 : k = 0 ∨ k = 1 ∨ k = 2 ∨ k = 3 := by have : k < 4 := hk; omega
        rcases hk4 with rfl | rfl | rfl | rfl
        · show cell.slots[D.2 15 0]? = some (.ref (cz_ad (lw_ad b a0 aK aV, s.heap.size) (yp r)))
          rw [ea]; exact o4
        · exact o5
        · exact o6
        · exact o7
      · have e2 : 64 ≤ r ∧ r ≤ 114 := by omega
        obtain ⟨i, i1, i2, i3⟩ := lw_ad_b (b := b) (a0 := a0) (aK := aK) (aV := aV) e2.1 e2.2
        obtain ⟨-, cell, o1, o2, o3, o4, o5⟩ := hstr i i1
        have em : ym L xs (lw_hs hh) (lw_hs hz) r = .inl (0, (yl r).length, fun j => .inl (Int32.ofInt ((yl r).getD j 0))) := by
          unfold ym
          rw [if_neg e0, if_neg e1, if_pos e2]
        rw [em]
        have oa : s.heap[lw_ad b a0 aK aV r]? = some cell := by rw [i2]; exact o1
        refine ⟨Or.inr ⟨e2.1, rfl⟩, cell, oa, (htc r cell oa).symm, px_nst o2.1, o3, by rw [o4, i3], fun j hj => ?_⟩
        show cell.slots[j]? = some (.int (Int32.ofInt ((yl r).getD j 0)))
        rw [i3]
        exact o5 j (by rw [← i3]; exact hj)
  refine ⟨Nat.le_refl _, rfl, fun r hr => ?_, fun _ _ => rfl, fun r h1 h2 => (hlt r h1 h2).lt⟩
  have hr1 : r < 192 := hr.1
  unfold cz_celr
  rw [if_neg (by omega), yb_low hr1]
  exact hlt r hr1 (by rcases hr.2 with w | w; omega; exact w)
set_option maxHeartbeats 4000000 in
theorem whole_start {p : Program} {e : Env} {s : State} {m : MethodId} {below : List Frame} {meth : Method} {c : Code} (l : Launch) (hfl : l.flags = flags0) {b L : Nat} {xs : Nat → Int32} (hL : L ≤ 3072) (C0 : lw_At p s m meth c b L xs) : W p l e room_1 s m #[Value.ref b] below meth c s.heap [] 0 0 (lw_Z below #[Value.ref b] s) (entryFrame m ([Value.ref b] : List Value).toArray 8) := by
  obtain ⟨hx, hb, hr, hml, hown, hts, hX, hbl, hlk, hgv, hnm, hnoh, hfit⟩ := C0
  intro T hT X
  have htr := px_traces hfl X.admits
  have ht := px_tb0 hts
  obtain ⟨D, hD⟩ := px_D0 ht
  obtain ⟨tc, hTc, hgrid⟩ := px_T0 hts ht
  obtain ⟨xc, hxc⟩ := px_X0 ht
  obtain ⟨aK, aV, hh, hz, h01, hvk, hstr⟩ := px_S0 hts hfit hD hgv
  have hsA : ∀ a : Nat, a < s.heap.size → ¬ (fun a => s.heap.size ≤ a) a := fun a h w => absurd w (Nat.not_le.mpr h)
  obtain ⟨v0, hv0, hv1⟩ := Cond.isRef_spec (args := #[Value.ref b]) (first := s) (o := none) (idx := []) (px_f_ok pf_SF hgv)
  obtain ⟨a0, w0, hw0⟩ : ∃ (a0 : Nat) (w0 : Option Nat), v0 = cz_v (lw_ad b a0 aK aV, s.heap.size) (.inr (.inr w0)) := by
    cases v0 <;> first | exact ⟨0, none, rfl⟩ | exact ⟨_, some 60, rfl⟩ | (exact absurd hv1 (by decide)) | cases hv1
  generalize htF : (fun t => if t < 11 then tc t else ((s.heap[lw_ad b a0 aK aV (t - 64)]?).map (fun c => c.cls)).getD 0 : Nat → ClassId) = tF
  have tF1 : ∀ t, t < 11 → tF t = tc t := fun t h => by rw [← htF]; exact if_pos h
  have tF2 : ∀ r cell, s.heap[lw_ad b a0 aK aV r]? = some cell → tF (64 + r) = cell.cls := fun r cell h => by
    rw [← htF]
    show (if 64 + r < 11 then _ else _) = _
    rw [if_neg (by omega), show 64 + r - 64 = r by omega, h]
    rfl
  have hP := px_HP0 (a0 := a0) (tc := tF) (xc := xc) hX hstr tF2
  have hWd : cz_Wd (D, tF, xc, s.heap) (lw_ad b a0 aK aV, s.heap.size) s := by
    refine ⟨ht, hD, fun t ty h => ?_, hxc, ?_, fun r q hq => ?_, ?_, ?_, ?_, rfl, ?_, ⟨w0, ?_⟩, ?_, fun r h1 h2 => ?_⟩
    · have hlt : t < 11 := (List.getElem?_eq_some_iff.mp h).1
      show ArrOfT s (tF t) ty ∧ va_RA s (tF t) ty
      rw [tF1 t hlt]
      exact hTc t ty h
    · intro q hq
      have c0 : s.vm.findClass "java/lang/IndexOutOfBoundsException" = some (xc 0) := hxc 0 _ rfl
      have c1 : s.vm.findClass "java/lang/IllegalArgumentException" = some (xc 1) := hxc 1 _ rfl
      have c2 : s.vm.findClass "java/lang/IllegalStateException" = some (xc 2) := hxc 2 _ rfl
      have c3 : s.vm.findClass "java/lang/UnsupportedOperationException" = some (xc 3) := hxc 3 _ rfl
      have c4 : s.vm.findClass "java/lang/ArithmeticException" = some (xc 4) := hxc 4 _ rfl
      simp only [px_asg, List.mem_cons, List.not_mem_nil, or_false] at hq
      rcases hq with rfl | rfl | rfl | rfl | rfl | rfl | rfl | rfl | rfl | rfl | rfl | rfl
      · exact px_yes (ht _ pf_y0 #[]) c0 c0
      · exact px_yes (ht _ pf_y1 #[]) c1 c1
      · exact px_yes (ht _ pf_y2 #[]) c2 c2
      · exact px_yes (ht _ pf_y3 #[]) c3 c3
      · exact px_no (px_f_ok pf_n01 hgv) c0 c1
      · exact px_no (px_f_ok pf_n21 hgv) c2 c1
      · exact px_no (px_f_ok pf_n31 hgv) c3 c1
      · exact px_no (px_f_ok pf_n32 hgv) c3 c2
      · exact px_yes (ht _ pf_y4 #[]) c4 c4
      · exact px_no (px_f_ok pf_n02 hgv) c0 c2
      · exact px_no (px_f_ok pf_n42 hgv) c4 c2
      · exact px_no (px_f_ok pf_n03 hgv) c0 c3
    · have hlt : r < 50 := (List.getElem?_eq_some_iff.mp hq).1
      show vk_R q.1 q.2.1 q.2.2 (lw_ad b a0 aK aV (r + 1)) s
      have : lw_ad b a0 aK aV (r + 1) = aK r := by unfold lw_ad; rw [if_neg (by omega), if_pos (by omega)]; rfl
      rw [this]
      exact hvk r q hq
    · obtain ⟨kA, g1, g2⟩ := hgrid
      exact ⟨kA, by show s.vm.classes[tF 10]? = _; rw [tF1 10 (by omega)]; exact g1, by show kA.kind = .array (tF 1) _; rw [tF1 1 (by omega)]; exact g2⟩
    · exact ⟨va_Zqof (hts _ pf_sU) (hts _ pf_iT) (px_f_ok pf_U hgv) hsA, px_LSof (hts _ pf_sU) hsA⟩
    · exact ⟨va_Zqof (hts _ pf_sS) (hts _ pf_iT) (px_f_ok pf_S hgv) hsA, px_LSof (hts _ pf_sS) hsA⟩
    · exact va_Zof (hts _ pf_sC) (hts _ pf_iC) (va_eqt (px_f_ok pf_CS hgv)) hsA
    · rw [← hw0]
      exact va_Zof (hts _ pf_sF) (hts _ pf_iF) hv0 hsA
    · obtain ⟨scr, g1, g2, -⟩ := hX
      show ArrOfT s (tF (64 + 0)) .int
      rw [tF2 0 scr g1]
      exact px_arrT g2
    · obtain ⟨i, i1, i2, -⟩ := lw_ad_b (b := b) (a0 := a0) (aK := aK) (aV := aV) h1 h2
      obtain ⟨-, cell, o1, o2, -⟩ := hstr i i1
      show ArrOfT s (tF (64 + r)) .byte
      rw [tF2 r cell (by rw [i2]; exact o1)]
      exact px_arrT o2
  obtain ⟨n, F, hF, hF1, hF2⟩ := yz_law (L := L) (xs := xs) (hs := lw_hs hh) (hz := lw_hs hz) hL (fun r => by unfold lw_hs; split <;> exact h01 _)
  have hl := lv_entry ([.ref b]) (n := 8) (Nat.le_of_ble_eq_true rfl)
  have hl' : lv_has ((lg_sl [Value.ref b] ++ List.replicate (8 - (lg_sl [Value.ref b]).length) Slot.unset).toArray) 8 (cz_lc (lw_ad b a0 aK aV, s.heap.size) [(0, .inr (.inr (some 0)))]) := hl
  have key := cz_sound cz_okI_ok cz_allC_ok cz_allA_ok px_allX_ok cz_allM_ok n 18 cm_0 0 [(0, .inr (.inr (some 0)))] [] _ F hF (cz_allM_ok 0 cm_0 rfl) p l e room_1 s m #[Value.ref b] below meth c s.heap [] 0 0 _ (D, tF, xc, s.heap) (lw_ad b a0 aK aV, s.heap.size) 192 9199
    ⟨hx, htr, hb, hml, hr, hlk, hnm, hown, by rw [Array.toList_eq_nil_iff.mpr (Array.isEmpty_iff.mp hnoh)]; rfl, hWd, by decide, by decide, by decide, by decide, Nat.le_refl _⟩ hl' hP (fun y hy => by cases hy) rfl rfl
  rw [lg_entry_eq]
  obtain ⟨t, h1, o, L', k, n', b1, b2, b3, b4, b5, b6, b7, b8, b9⟩ := key T hT X
  have ho : o = .returned (some (.int 1)) := by
    rw [hF1] at b9
    exact b9
  obtain ⟨r1, r2⟩ := cz_room_ok hF2
  refine ⟨t, h1, o, b1, b2, ho, ⟨some (.int 1), ho⟩, b3, b4.weaken (fun y hy hlt => ?_) ?_ ?_⟩
  · exfalso
    have h9 := b5 y hy
    exact absurd h9 (Nat.not_le.mpr hlt)
  · omega
  · omega
set_option maxHeartbeats 4000000 in
theorem lw_walk (l : Launch) (hfl : l.flags = flags0) (b : Addr) (xs : List Int32) : MetFree l x (headSpec (Jvm.Cond.code x code maxLocals ret :: tables_1) room_1) (lw_P b xs) (fun _ _ _ _ _ => True) lw_Q := by
  refine MetFree.of_bodyS (code := code) (maxLocals := maxLocals) (ret := ret) (by decide) ?_ ?_
  · intro args s m h hn
    obtain ⟨meth, c, h1, h2, h3, h4, h5, h6, -, -⟩ := Cond.code_spec hn (atoms_spec (ws := Jvm.Cond.code x code maxLocals ret :: tables_1) h _ List.mem_cons_self)
    exact ⟨meth, c, h1, h2, h3, h4, h5, h6⟩
  · intro p e s m args below meth c s₁ B hml0 hP _
    obtain ⟨rfl, hx, hbd, hfit, hgv⟩ := hP
    obtain ⟨scr, harrAt, hlist, hof, hsmall⟩ := hx
    obtain ⟨hcb, hkn, -, -⟩ := State.arrayAt?_spec harrAt
    have hown : s.vm.findClass R_law = some m.cls := findClass_of_methodNamed B.named
    have hts0 : ∀ c ∈ (Jvm.Cond.code x code maxLocals ret :: tables_1), c.before #[Value.ref b] s = true := atoms_spec (ws := Jvm.Cond.code x code maxLocals ret :: tables_1) B.pre
    have hts : ∀ w ∈ lw_tbl, w.before #[Value.ref b] s = true := k2_hts_sels lw_privs (fun w hw => hts0 w (List.mem_cons_of_mem _ hw)) lw_privs_ok
    have hml : c.maxLocals = 8 := B.maxLocals_eq (hts0 _ List.mem_cons_self)
    have X₀ : Stand p l e room_1 s m #[Value.ref b] below meth c s₁ [] 0 0 := Stand.of_body B
    have hh0 : s₁.heap = s.heap := by rw [B.state]; rfl
    have hsz : scr.slots.size = xs.length := by rw [← Array.length_toList, hlist, List.length_map]
    have hval : ∀ j : Nat, j < xs.length → scr.slots[j]? = some (.int (xs.getD j 0)) := fun j hj => by
      rw [← Array.getElem?_toList, hlist]
      simp [hj]
    have hbl : b < s.heap.size := (Array.getElem?_eq_some_iff.mp hcb).1
    have hX : va_X b xs.length (fun j => xs.getD j 0) s s.heap := ⟨scr, hcb, hof, hkn, hsz, hval⟩
    have K : W p l e room_1 s m #[Value.ref b] below meth c s₁.heap [] 0 0 (lw_Z below #[Value.ref b] s) (entryFrame m ([Value.ref b] : List Value).toArray 8) := by
      rw [hh0]
      exact whole_start l hfl hbd ⟨B.exec, B.bytes, B.returns, hml, hown, hts, hX, hbl, B.notSynchronized, hgv, (name_of_methodNamed B.named B.method).1, B.noHandlers (hts0 _ List.mem_cons_self), hfit⟩
    obtain ⟨t, a1, o, b1, b2, b3⟩ := K s₁ rfl X₀
    exact ⟨t, o, a1, b1, b2, b3⟩
theorem lw_pre_spec {args : Array Value} {s : State} (hfit : heapFits s = true) (h : (Jvm.Cond.and given_1 narrow_1).before args s = true) (hr : rest_1_c.before args s = true) : ∃ (b : Addr) (xs : List Int32), lw_P b xs args s := by
  have hs := flat_of_before _ h
  have hq := flat_of_before _ hr
  have hc : (Cond.count 1).before args s = true := hs _ (by decide +kernel)
  have harr : (Cond.arrayOf (.arg 0) .int).before args s = true := hs _ (by decide +kernel)
  have hle : (Cond.le (.length (.arg 0)) (.int 3072)).before args s = true := hs _ (by decide +kernel)
  have hlen : (Cond.isInt (.length (.arg 0))).before args s = true := hq _ (by decide +kernel)
  have hall : (Cond.all (.arg 0) (.isInt (.elem (.arg 0) (.index 0)))).before args s = true := hq _ (by decide +kernel)
  obtain ⟨b, xs, hb, hx⟩ := State.ints_of_pre rfl harr hlen hall
  have hsm : xs.length < 2 ^ 31 := hx.choose_spec.2.2.2
  have hev : (Term.length (.arg 0)).eval args s none [] s = some (.int xs.length.toInt32) := hx.length_eval hb
  have hv := Cond.le_ints hev (show (Term.int 3072).eval args s none [] s = some (.int 3072) from rfl)
  have hd : xs.length.toInt32 ≤ 3072 := by
    simpa [Cond.before, Cond.holds, hv] using hle
  have hN : xs.length ≤ 3072 := (Int32.ofNat_le_ofNat hsm (by decide)).mp (show Int32.ofNat xs.length ≤ Int32.ofNat 3072 from hd)
  exact ⟨b, xs, Cond.one_arg hc (show args[0]? = some (.ref b) from hb), hx, hN, hfit, h⟩
theorem lw_comes (l : Launch) (hfl : l.flags = flags0) : Comes l x (Jvm.Cond.code x code maxLocals ret :: tables_1) room_1 (fun tb e args s => Calls_1 tb e args s ∧ rest_1 tb e args s ∧ Pre_1 tb e args s)
    (fun _ _ args s o t => lw_Q args s o t) := by
  intro p e ha hc hk s m args below hf hfit hheap happ hpre
  obtain ⟨b, xs, hP⟩ := lw_pre_spec hheap hpre.2.2 hpre.2.1
  obtain ⟨k, o, h1, h2, h3, hQ⟩ := lw_walk l hfl b xs p e ha hc hk s m args below hf ((Spec.applies_iff_loose hf).mp happ).1 hP trivial
  exact ⟨k, o, h1, h2, h3, hQ⟩
theorem lw_frame {s t : State} {o : Outcome} {args : Array Value} (h : Framed s o t [] 601024 7293033) :
    Framed s o t (fieldLocs frame_1_writes args s ++ arrayLocs frame_1_arrays args s ++ staticLocs frame_1_statics s) 601024 7293033 := h
theorem lw_limb (L : Cond) (hL : ∀ (args : Array Value) (s t : State), L.after args s (.returned (some (.int 1))) t = true) :
    ArmFor flags0 classFile x code maxLocals ret World_1 tables_1 room_1 Calls_1 rest_1 Pre_1
      (fun tb e a s o t => postC L tb e a s o t ∧ Framed s o t (fieldLocs frame_1_writes a s ++ arrayLocs frame_1_arrays a s ++ staticLocs frame_1_statics s) 601024 7293033) := by
  intro l hfl _ _ p e ha hc hk s m args below hf hfit hheap happ hpre
  obtain ⟨k, o, h1, h2, h3, rfl, hF⟩ := lw_comes l hfl p e ha hc hk s m args below hf hfit hheap happ hpre
  exact ⟨k, _, h1, h2, h3, hL args s _, lw_frame hF⟩
theorem i_vc : Claimed_1_1 ∧ Claimed_1_2 := ⟨lw_limb limb_1_1 (fun args s t => by simp [limb_1_1, Cond.after, Cond.holds, Cond.value]), lw_limb limb_1_2 (fun args s t => Cond.after_iff.mpr (by
  first | (rw [show limb_1_2 = Cond.eq .result (.int 1) from rfl, Cond.eq_ints (x := 1) (y := 1) rfl rfl]; simp; done) | (simp [limb_1_2, Cond.value, Term.eval]; done)))⟩
