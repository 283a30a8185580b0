/-! Soundness, part 1: the words of the tables that stay, and the world that a method finds. -/
def px_kw (w : Cond) : Bool := match w with
  | .arrayClass _ => true
  | .methodLinkNest _ _ _ _ => true
  | .fieldLinkNest _ _ _ _ _ _ => true
  | .arrayOver (.object _) => true
  | .declares _ => true
  | .privateMethod _ => true
  | .castable _ _ => true
  | w => w.onTables && w.keeps
theorem px_kw_warm {w : Cond} (h : px_kw w = true) {s U : State} (hW : s.WarmedH U.vm) {args args' : Array Value} (hb : w.before args s = true) : w.before args' U = true := by
  by_cases h1 : (w.onTables && w.keeps) = true
  · exact word_at hW (Or.inl h1) hb
  · cases w
    case declares y => exact (Cond.onTables_vm (A := args') (A' := args) (U := U) (U' := s) U.vm (.declares y) rfl).trans ((Cond.declares_setVm (args := args) hW.alike y).trans hb)
    case privateMethod y => exact (Cond.onTables_vm (A := args') (A' := args) (U := U) (U' := s) U.vm (.privateMethod y) rfl).trans ((Cond.privateMethod_setVm (args := args) hW.alike y).trans hb)
    case castable y z => exact (Cond.onTables_vm (A := args') (A' := args) (U := U) (U' := s) U.vm (.castable y z) rfl).trans ((Cond.castable_setVm (args := args) hW.alike y z).trans hb)
    case arrayClass ty => exact word_at hW (Or.inr ⟨ty, rfl⟩) hb
    case methodLinkNest a i x o => exact va_Nw.use rfl (va_Nw.warmM hW (va_Nw.of rfl hb))
    case fieldLinkNest a i b n d o => exact va_Nw.use rfl (va_Nw.warmF hW (va_Nw.of rfl hb))
    case arrayOver ty =>
      cases ty
      case object C => exact va_AO.use (va_AO.moved hW.alike (va_AO.of hb))
      all_goals exact absurd h h1
    all_goals exact absurd h h1
def px_in (w : Cond) : Prop := w ∈ lw_tbl ∧ px_kw w = true
def px_tb (s : State) : Prop := ∀ w, px_in w → ∀ args : Array Value, w.before args s = true
theorem px_tb.warm {s U : State} (h : px_tb s) (hW : s.WarmedH U.vm) : px_tb U := fun w hw args => px_kw_warm hw.2 hW (h w hw #[])
/-- pairs of exceptions: is an object of the first one of the second -/
def px_asg : List (Nat × Nat × Bool) := [(0, 0, true), (1, 1, true), (2, 2, true), (3, 3, true), (0, 1, false), (2, 1, false), (3, 1, false), (3, 2, false), (4, 4, true), (0, 2, false), (4, 2, false), (0, 3, false)]
def px_tN : String := "java/lang/Throwable"
/-- the statics' cell of a class lies as its word says, outside A -/
def px_LS (C n d : String) (A : Nat → Prop) (U : State) (H : Heap) : Prop := ∃ (c : ClassId) (k : Class) (i : Nat) (f : Field) (a : Nat) (cell : Cell), U.vm.findClass C = some c ∧ U.fieldFound? C n d = some (c, k, i, f) ∧ f.isStatic = true ∧ k.statics = some a ∧ H[a]? = some cell ∧ cell.vm.isStatics = true ∧ cell.cls = c ∧ f.slot < cell.slots.size ∧ k.staticTypes[f.slot]? = some f.type ∧ ¬ A a
theorem px_LS.moved {C n d : String} {A : Nat → Prop} {u U : State} {H : Heap} (hvm : u.vm.Alike U.vm) (h : px_LS C n d A u H) : px_LS C n d A U H := by
  obtain ⟨c, k, i, f, a, cell, h0, h1, h2, h3, h4, h5, h6, h7, h8, h9⟩ := h
  obtain ⟨k', hi', he⟩ := State.fieldFound?_setVm hvm h1
  exact ⟨c, k', i, f, a, cell, by rw [hvm.findClass]; exact h0, hi', h2, by rw [he]; exact h3, h4, h5, h6, h7, by rw [he]; exact h8, h9⟩
theorem px_LS.kept {C n d : String} {A : Nat → Prop} {U : State} {H H1 : Heap} (h : px_LS C n d A U H) (hq : ∀ a : Nat, a < H.size → ¬ A a → H1[a]? = H[a]?) : px_LS C n d A U H1 := by
  obtain ⟨c, k, i, f, a, cell, h0, h1, h2, h3, h4, h5, h6, h7, h8, h9⟩ := h
  exact ⟨c, k, i, f, a, cell, h0, h1, h2, h3, by rw [hq a (Array.getElem?_eq_some_iff.mp h4).1 h9]; exact h4, h5, h6, h7, h8, h9⟩
theorem px_LS.at {C n d : String} {A : Nat → Prop} {U : State} {H : Heap} (h : px_LS C n d A U H) {args : Array Value} : (Cond.laysStatic C n d).before args { U with heap := H } = true := by
  obtain ⟨c, k, i, f, a, cell, h0, h1, h2, h3, h4, h5, h6, h7, h8, h9⟩ := h
  exact Cond.laysStatic_of (s := { U with heap := H }) h0 h1 h2 h3 h4 h5 h6 h7 h8
theorem px_LSof {args : Array Value} {s : State} {C n d : String} {A : Nat → Prop} (hl : (Cond.laysStatic C n d).before args s = true) (hA : ∀ a : Nat, a < s.heap.size → ¬ A a) : px_LS C n d A s s.heap := by
  obtain ⟨c, k, i, f, a, cell, hc, hi, hst, ha, hcell, hs, hcls, hlt, hty⟩ := Cond.laysStatic_spec hl
  exact ⟨c, k, i, f, a, cell, hc, hi, hst, ha, hcell, hs, hcls, hlt, hty, hA a (Array.getElem?_eq_some_iff.mp hcell).1⟩
def px_Zq (C n d : String) (A : Nat → Prop) (U : State) (H : Heap) : Prop := va_Zq C n d A U H ∧ px_LS C n d A U H
theorem px_Zq.moved {C n d : String} {A : Nat → Prop} {u U : State} {H : Heap} (hvm : u.vm.Alike U.vm) (h : px_Zq C n d A u H) : px_Zq C n d A U H := ⟨h.1.moved hvm, h.2.moved hvm⟩
theorem px_Zq.kept {C n d : String} {A : Nat → Prop} {U : State} {H H1 : Heap} (h : px_Zq C n d A U H) (hq : ∀ a : Nat, a < H.size → ¬ A a → H1[a]? = H[a]?) : px_Zq C n d A U H1 := ⟨h.1.kept hq, h.2.kept hq⟩
/-! L1's world: what stays as the run goes on. (px_in, px_tb, px_asg, px_Zq, px_tN: p1's part 09, to be taken over.) -/
def cz_A (E : cz_E) : Nat → Prop := fun a => E.2 ≤ a
def cz_Wd (K : cz_K) (E : cz_E) (s : State) : Prop :=
  px_tb s ∧ va_K K.1 cz_cl [] s ∧ (∀ (t : Nat) (ty : FieldType), cz_ty[t]? = some ty → ArrOfT s (K.2.1 t) ty ∧ va_RA s (K.2.1 t) ty) ∧
  (∀ (k : Nat) (n : String), cz_ex[k]? = some n → s.vm.findClass n = some (K.2.2.1 k)) ∧
  (∀ q ∈ px_asg, s.vm.assignable (K.2.2.1 q.1) (K.2.2.1 q.2.1) = q.2.2) ∧
  (∀ (r : Nat) (q : String × Nat × String), cz_str[r]? = some q → vk_R q.1 q.2.1 q.2.2 (E.1 (r + 1)) s) ∧
  (∃ kA : Class, s.vm.classes[K.2.1 10]? = some kA ∧ kA.kind = .array (K.2.1 1) (.array .int)) ∧
  px_Zq px_tN "UNASSIGNED_STACK" "[Ljava/lang/StackTraceElement;" (cz_A E) s K.2.2.2 ∧ px_Zq px_tN "SUPPRESSED_SENTINEL" "Ljava/util/List;" (cz_A E) s K.2.2.2 ∧
  E.2 = K.2.2.2.size ∧ va_Z "java/lang/String" "COMPACT_STRINGS" "Z" (.int 1) (cz_A E) s K.2.2.2 ∧ (∃ w : Option Nat, va_Z "jdk/internal/util/Preconditions" "SIOOBE_FORMATTER" "Ljava/util/function/BiFunction;" (cz_v E (.inr (.inr w))) (cz_A E) s K.2.2.2) ∧
  ArrOfT s (K.2.1 64) .int ∧ ∀ r, 64 ≤ r → r ≤ 114 → ArrOfT s (K.2.1 (64 + r)) .byte
theorem cz_Wd.warm {K : cz_K} {E : cz_E} {s U : State} (h : cz_Wd K E s) (hW : s.WarmedH U.vm) : cz_Wd K E U := by
  obtain ⟨h1, h2, h3, h4, h5, h6, ⟨kA, h7, h8⟩, h9, h10, h13, h14, h15, h16⟩ := h
  have al := hW.alike
  refine ⟨h1.warm hW, h2.moved al, fun t ty ht => ⟨arrOfT_moved al (h3 t ty ht).1, (h3 t ty ht).2.moved al⟩, fun k n hk => by rw [al.findClass]; exact h4 k n hk, fun q hq => by rw [al.assignable]; exact h5 q hq,
    fun r q hr => (h6 r q hr).warm hW, ?_, h9.moved al, h10.moved al, h13, h14.moved al, h15.imp fun _ q => q.moved al, arrOfT_moved al h16.1, fun r hr hr' => arrOfT_moved al (h16.2 r hr hr')⟩
  obtain ⟨k', hk', he⟩ := al.2.2 _ _ h7
  exact ⟨k', hk', by rw [he]; exact h8⟩
/-- what is known of an object, old or new -/
def cz_ob (K : cz_K) (E : cz_E) (r : Nat) (q : Nat × List cz_V) (H : Heap) : Prop := ∃ w : vw_C, cz_cl[q.1]? = some w ∧ ∃ cell, H[cz_ad E r]? = some cell ∧ cell.cls = K.1.1 q.1 ∧ (cell.vm.isStatics = false ∧ cell.vm ≠ .unknown) ∧ ∀ k, k < w.2.2 → cell.slots[K.1.2 q.1 k]? = some (vp_V (q.2.map (cz_v E)) k)
theorem cz_obj_ok {K : cz_K} {E : cz_E} {h : cz_H} {H : Heap} (hP : cz_HP cz_cl K E h H) {r : Nat} {q : Nat × List cz_V} (ho : cz_obj h r = some q) : cz_here h r ∧ cz_ob K E r q H ∧ (192 ≤ r → va_at K.1 cz_cl (cz_ad E r, .inr (q.1, q.2.map (cz_v E))) H) := by
  unfold cz_obj at ho
  cases hh : cz_hereB h r with
  | false => rw [hh] at ho; cases ho
  | true =>
    rw [hh] at ho
    have h1 : cz_here h r := by simpa [cz_hereB, cz_here] using hh
    have h3 := hP.2.2.1 r h1
    simp only [cond_true] at ho
    split at ho
    · rename_i q' hq
      cases ho
      rw [hq] at h3
      by_cases e : 192 ≤ r
      · have h4 := h3.new e
        refine ⟨h1, ?_, fun _ => h4⟩
        obtain ⟨w, g1, cell, q1, q2, q3, q4⟩ := h4
        exact ⟨w, g1, cell, q1, q2, ⟨by rw [q3]; rfl, by rw [q3]; exact fun z => by cases z⟩, q4⟩
      · refine ⟨h1, ?_, fun w => absurd w e⟩
        have h4 := h3.old e
        unfold cz_ob
        rw [cz_ad_old E (by omega)]
        exact h4
    · cases ho
/-- what is known of an array, old or new -/
def cz_ar (K : cz_K) (E : cz_E) (r : Nat) (q : Nat × Nat × (Nat → cz_V)) (s : State) (H : Heap) : Prop := ∃ cell, H[cz_ad E r]? = some cell ∧ (∀ ty, cz_ty[q.1]? = some ty → s.isArrayOf cell ty) ∧ cell.vm ≠ .unknown ∧ cell.slots.size = q.2.1 ∧ ∀ j, j < q.2.1 → cell.slots[j]? = some (cz_v E (q.2.2 j))
theorem cz_arr_ok {K : cz_K} {E : cz_E} {h : cz_H} {H : Heap} {s : State} (hW : cz_Wd K E s) (hP : cz_HP cz_cl K E h H) {r : Nat} {q : Nat × Nat × (Nat → cz_V)} (ho : cz_arr h r = some q) : cz_here h r ∧ q.1 < 11 ∧ cz_ar K E r q s H ∧ (192 ≤ r → H[cz_ad E r]? = some (arrV (K.2.1 q.1) q.2.1 (fun j => cz_v E (q.2.2 j)))) := by
  unfold cz_arr at ho
  cases hh : cz_hereB h r with
  | false => rw [hh] at ho; cases ho
  | true =>
    rw [hh] at ho
    have h1 : cz_here h r := by simpa [cz_hereB, cz_here] using hh
    have h3 := hP.2.2.1 r h1
    simp only [cond_true] at ho
    split at ho
    · rename_i q' hq
      cases hz : Nat.blt q'.1 11 with
      | false => rw [hz] at ho; cases ho
      | true =>
        rw [hz] at ho
        cases ho
        rw [hq] at h3
        refine ⟨h1, Nat.blt_eq.mp hz, ?_, fun e => h3.new e⟩
        by_cases e : 192 ≤ r
        · exact ⟨_, h3.new e, fun ty ht => (hW.2.2.1 _ ty ht).1 _ _, (fun w => by cases w), arrV_size .., fun j hj => arrV_read _ _ hj⟩
        · obtain ⟨h0, cell, g1, g2, g3, g4, g5, g6⟩ := h3.old e
          have hx : cz_ext r = true := by rcases h1.2 with w | w; exact absurd w e; exact w
          have hA := hW.2.2.2.2.2.2.2.2.2.2.2.2
          have key : ∀ ty, ArrOfT s (K.2.1 (64 + r)) ty → s.isArrayOf cell ty := fun ty w => by
            obtain ⟨-, k, k1, k2⟩ := w 0 (fun _ => .null)
            exact ⟨fun z hz => (by rw [hz] at g3; cases g3), k, by rw [g2]; exact k1, k2⟩
          refine ⟨cell, by rw [cz_ad_old E (by omega)]; exact g1, fun ty ht => ?_, g4, g5, g6⟩
          rcases h0 with ⟨h0, h5⟩ | ⟨h0, h5⟩
          · rw [h5] at ht
            cases ht
            subst h0
            exact key _ hA.1
          · rw [h5] at ht
            cases ht
            refine key _ (hA.2 r h0 ?_)
            simp only [cz_ext, Bool.or_eq_true, Bool.and_eq_true, Nat.ble_eq] at hx
            omega
    · cases ho
theorem cz_exc_ok {cl : List vw_C} {K : cz_K} {E : cz_E} {h : cz_H} {H : Heap} (hP : cz_HP cl K E h H) {r : Nat} {k : Nat} (ho : cz_exc h r = some k) : cz_here h r ∧ k < 5 ∧ ∃ cell, H[cz_ad E r]? = some cell ∧ cell.cls = K.2.2.1 k ∧ cell.vm.isStatics = false := by
  unfold cz_exc at ho
  cases hh : cz_hereB h r with
  | false => rw [hh] at ho; cases ho
  | true =>
    rw [hh] at ho
    have h1 : cz_here h r := by simpa [cz_hereB, cz_here] using hh
    have h3 := hP.2.2.1 r h1
    simp only [cond_true] at ho
    split at ho
    · rename_i q' hq
      cases hz : Nat.blt q' 5 with
      | false => rw [hz] at ho; cases ho
      | true =>
        rw [hz] at ho
        cases ho
        rw [hq] at h3
        by_cases e : 192 ≤ r
        · exact ⟨h1, Nat.blt_eq.mp hz, h3.new e⟩
        · exact (h3.old e).elim
    · cases ho
/-- the kind of a type: int, boolean, long, a reference, byte -/
def cz_tcode (t : FieldType) : Nat := match t with
  | .int => 0
  | .boolean => 1
  | .long => 2
  | .object _ => 3
  | .array _ => 3
  | .byte => 4
  | _ => 9
theorem cz_fit_ok (E : cz_E) {t : FieldType} {v : cz_V} (h : cz_fitc (cz_tcode t) v = true) : narrow t (cz_v E v) = cz_v E v ∧ fits t (cz_v E v) = true := by
  cases t
  case int =>
    obtain a | a | a := v
    · exact ⟨rfl, rfl⟩
    · cases h
    · cases h
  case boolean =>
    obtain n | a | a := v
    · simp only [cz_tcode, cz_fitc, Bool.or_eq_true, decide_eq_true_eq] at h
      rcases h with rfl | rfl
      · exact ⟨narrow_b0, by show fits .boolean (.int 0) = true; decide⟩
      · exact ⟨narrow_b1, by show fits .boolean (.int 1) = true; decide⟩
    · cases h
    · cases h
  case long =>
    obtain a | a | a := v
    · cases h
    · exact ⟨rfl, rfl⟩
    · cases h
  case object n =>
    obtain a | a | a := v
    · cases h
    · cases h
    · cases a <;> exact ⟨rfl, rfl⟩
  case array n =>
    obtain a | a | a := v
    · cases h
    · cases h
    · cases a <;> exact ⟨rfl, rfl⟩
  case byte =>
    obtain n | a | a := v
    · simp only [cz_tcode, cz_fitc, decide_eq_true_eq] at h
      have hb := Int8.le_toInt n.toInt8
      have hb2 := Int8.toInt_lt n.toInt8
      have e : n.toInt = n.toInt8.toInt := by rw [← Int8.toInt_toInt32, h]
      refine ⟨?_, ?_⟩
      · show Value.int n.toInt8.toInt32 = Value.int n
        rw [h]
      · show (decide (-128 ≤ n) && decide (n ≤ 127)) = true
        simp only [Bool.and_eq_true, decide_eq_true_eq, Int32.le_iff_toInt_le]
        exact ⟨by show (-128 : Int) ≤ _; omega, by show _ ≤ (127 : Int); omega⟩
    · cases h
    · cases h
  all_goals
    obtain a | a | a := v <;> cases h
theorem cz_dflt_ok (E : cz_E) {t : FieldType} (h : cz_tcode t < 5) : cz_v E (cz_dflt (cz_tcode t)) = defaultValue t := by
  cases t <;> first | rfl | (simp [cz_tcode] at h)
