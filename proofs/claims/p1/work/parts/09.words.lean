/-! Soundness, part 1: the words of the tables that stay, and the world that a method finds. -/
def px_kw (w : Cond) : Bool := match w with
  | .arrayClass _ => true
  | .methodLinkNest _ _ _ _ => true
  | .fieldLinkNest _ _ _ _ _ _ => true
  | .arrayOver (.object _) => true
  | .declares _ => true
  | w => w.onTables && w.keeps
theorem px_kw_warm {w : Cond} (h : px_kw w = true) {s U : State} (hW : s.WarmedH U.vm) {args args' : Array Value} (hb : w.before args s = true) : w.before args' U = true := by
  by_cases h1 : (w.onTables && w.keeps) = true
  · exact word_at hW (Or.inl h1) hb
  · cases w
    case declares y => exact (Cond.onTables_vm (A := args') (A' := args) (U := U) (U' := s) U.vm (.declares y) rfl).trans ((Cond.declares_setVm (args := args) hW.alike y).trans hb)
    case arrayClass ty => exact word_at hW (Or.inr ⟨ty, rfl⟩) hb
    case methodLinkNest a i x o => exact va_Nw.use rfl (va_Nw.warmM hW (va_Nw.of rfl hb))
    case fieldLinkNest a i b n d o => exact va_Nw.use rfl (va_Nw.warmF hW (va_Nw.of rfl hb))
    case arrayOver ty =>
      cases ty
      case object C => exact va_AO.use (va_AO.moved hW.alike (va_AO.of hb))
      all_goals exact absurd h h1
    all_goals exact absurd h h1
def px_in (w : Cond) : Prop := w ∈ lw_tbl ∧ px_kw w = true
def px_tb (s : State) : Prop := ∀ w, px_in w → ∀ args : Array Value, w.before args s = true
theorem px_tb.warm {s U : State} (h : px_tb s) (hW : s.WarmedH U.vm) : px_tb U := fun w hw args => px_kw_warm hw.2 hW (h w hw #[])
/-- pairs of exceptions: is an object of the first one of the second -/
def px_asg : List (Nat × Nat × Bool) := [(0, 0, true), (1, 1, true), (2, 2, true), (3, 3, true), (0, 1, false), (2, 1, false), (3, 1, false), (3, 2, false)]
def px_tN : String := "java/lang/Throwable"
def px_A (E : px_E) : Nat → Prop := fun a => E.2.2 ≤ a
/-- the statics' cell of a class lies as its word says, outside A -/
def px_LS (C n d : String) (A : Nat → Prop) (U : State) (H : Heap) : Prop := ∃ (c : ClassId) (k : Class) (i : Nat) (f : Field) (a : Nat) (cell : Cell), U.vm.findClass C = some c ∧ U.fieldFound? C n d = some (c, k, i, f) ∧ f.isStatic = true ∧ k.statics = some a ∧ H[a]? = some cell ∧ cell.vm.isStatics = true ∧ cell.cls = c ∧ f.slot < cell.slots.size ∧ k.staticTypes[f.slot]? = some f.type ∧ ¬ A a
theorem px_LS.moved {C n d : String} {A : Nat → Prop} {u U : State} {H : Heap} (hvm : u.vm.Alike U.vm) (h : px_LS C n d A u H) : px_LS C n d A U H := by
  obtain ⟨c, k, i, f, a, cell, h0, h1, h2, h3, h4, h5, h6, h7, h8, h9⟩ := h
  obtain ⟨k', hi', he⟩ := State.fieldFound?_setVm hvm h1
  exact ⟨c, k', i, f, a, cell, by rw [hvm.findClass]; exact h0, hi', h2, by rw [he]; exact h3, h4, h5, h6, h7, by rw [he]; exact h8, h9⟩
theorem px_LS.kept {C n d : String} {A : Nat → Prop} {U : State} {H H1 : Heap} (h : px_LS C n d A U H) (hq : ∀ a : Nat, a < H.size → ¬ A a → H1[a]? = H[a]?) : px_LS C n d A U H1 := by
  obtain ⟨c, k, i, f, a, cell, h0, h1, h2, h3, h4, h5, h6, h7, h8, h9⟩ := h
  exact ⟨c, k, i, f, a, cell, h0, h1, h2, h3, by rw [hq a (Array.getElem?_eq_some_iff.mp h4).1 h9]; exact h4, h5, h6, h7, h8, h9⟩
theorem px_LS.at {C n d : String} {A : Nat → Prop} {U : State} {H : Heap} (h : px_LS C n d A U H) {args : Array Value} : (Cond.laysStatic C n d).before args { U with heap := H } = true := by
  obtain ⟨c, k, i, f, a, cell, h0, h1, h2, h3, h4, h5, h6, h7, h8, h9⟩ := h
  exact Cond.laysStatic_of (s := { U with heap := H }) h0 h1 h2 h3 h4 h5 h6 h7 h8
theorem px_LSof {args : Array Value} {s : State} {C n d : String} {A : Nat → Prop} (hl : (Cond.laysStatic C n d).before args s = true) (hA : ∀ a : Nat, a < s.heap.size → ¬ A a) : px_LS C n d A s s.heap := by
  obtain ⟨c, k, i, f, a, cell, hc, hi, hst, ha, hcell, hs, hcls, hlt, hty⟩ := Cond.laysStatic_spec hl
  exact ⟨c, k, i, f, a, cell, hc, hi, hst, ha, hcell, hs, hcls, hlt, hty, hA a (Array.getElem?_eq_some_iff.mp hcell).1⟩
def px_Zq (C n d : String) (A : Nat → Prop) (U : State) (H : Heap) : Prop := va_Zq C n d A U H ∧ px_LS C n d A U H
theorem px_Zq.moved {C n d : String} {A : Nat → Prop} {u U : State} {H : Heap} (hvm : u.vm.Alike U.vm) (h : px_Zq C n d A u H) : px_Zq C n d A U H := ⟨h.1.moved hvm, h.2.moved hvm⟩
theorem px_Zq.kept {C n d : String} {A : Nat → Prop} {U : State} {H H1 : Heap} (h : px_Zq C n d A U H) (hq : ∀ a : Nat, a < H.size → ¬ A a → H1[a]? = H[a]?) : px_Zq C n d A U H1 := ⟨h.1.kept hq, h.2.kept hq⟩
def px_Wd (K : px_K) (E : px_E) (s : State) : Prop :=
  px_tb s ∧ va_K K.1 px_cl [] s ∧ (∀ (t : Nat) (ty : FieldType), px_ty[t]? = some ty → ArrOfT s (K.2.1 t) ty ∧ va_RA s (K.2.1 t) ty) ∧
  (∀ (k : Nat) (n : String), px_ex[k]? = some n → s.vm.findClass n = some (K.2.2.1 k)) ∧
  (∀ q ∈ px_asg, s.vm.assignable (K.2.2.1 q.1) (K.2.2.1 q.2.1) = q.2.2) ∧
  (∀ (r : Nat) (q : String × Nat × String), px_str[r]? = some q → vk_R q.1 q.2.1 q.2.2 (E.2.1 (r + 1)) s ∧ va_O "java/lang/String" (E.2.1 (r + 1)) (px_A E) s K.2.2.2) ∧
  (∃ kA : Class, s.vm.classes[K.2.1 10]? = some kA ∧ kA.kind = .array (K.2.1 1) (.array .int)) ∧
  px_Zq px_tN "UNASSIGNED_STACK" "[Ljava/lang/StackTraceElement;" (px_A E) s K.2.2.2 ∧ px_Zq px_tN "SUPPRESSED_SENTINEL" "Ljava/util/List;" (px_A E) s K.2.2.2 ∧
  (∃ L : Nat, va_X (E.2.1 0) L E.1 s K.2.2.2 ∧ (E.1 7).toInt = (L : Int) ∧ L ≤ 6 ∧ E.2.1 0 < E.2.2) ∧ E.2.2 = K.2.2.2.size ∧ E.1 6 = E.1 0 &&& 31
theorem px_Wd.warm {K : px_K} {E : px_E} {s U : State} (h : px_Wd K E s) (hW : s.WarmedH U.vm) : px_Wd K E U := by
  obtain ⟨h1, h2, h3, h4, h5, h6, ⟨kA, h7, h8⟩, h9, h10, ⟨L, h11, h12⟩, h13, h14⟩ := h
  have al := hW.alike
  refine ⟨h1.warm hW, h2.moved al, fun t ty ht => ⟨arrOfT_moved al (h3 t ty ht).1, (h3 t ty ht).2.moved al⟩, fun k n hk => by rw [al.findClass]; exact h4 k n hk, fun q hq => by rw [al.assignable]; exact h5 q hq,
    fun r q hr => ⟨(h6 r q hr).1.warm hW, va_O.moved al (h6 r q hr).2⟩, ?_, h9.moved al, h10.moved al, ⟨L, h11.moved al, h12⟩, h13, h14⟩
  obtain ⟨k', hk', he⟩ := al.2.2 _ _ h7
  exact ⟨k', hk', by rw [he]; exact h8⟩
