/-! Symbolic runs, part 3: branches and switches. Where the bounds leave a condition open both ways are gone. -/
noncomputable def px_to (pc : Nat) (off : Int) : Option Nat := bif px_ile 0 (Int.add (.ofNat pc) off) then some (Int.add (.ofNat pc) off).toNat else none
theorem px_to_ok {pc : Nat} {off : Int} {t : Nat} (h : px_to pc off = some t) : (pc : Int) + off = (t : Int) := by
  have h : (bif px_ile 0 ((pc : Int) + off) then some ((pc : Int) + off).toNat else none) = some t := h
  rw [px_ile_eq] at h
  by_cases hq : 0 ≤ (pc : Int) + off
  · rw [decide_eq_true hq] at h
    simp only [cond_true, Option.some.injEq] at h
    subst h
    exact (Int.toNat_of_nonneg hq).symm
  · rw [decide_eq_false hq] at h
    cases h
noncomputable def px_ltd (g : px_G) (a b : px_I) : List (Bool × px_G) :=
  bif px_ilt (px_rg g a).2 (px_rg g b).1 then [(true, g)]
  else bif px_ile (px_rg g b).2 (px_rg g a).1 then [(false, g)]
  else [(true, px_tight (px_tight g a px_low ((px_rg g b).2 - 1)) b ((px_rg g a).1 + 1) px_hig), (false, px_tight (px_tight g a (px_rg g b).1 px_hig) b px_low (px_rg g a).2)]
noncomputable def px_eqd (g : px_G) (a b : px_I) : List (Bool × px_G) :=
  bif px_ilt (px_rg g a).2 (px_rg g b).1 || px_ilt (px_rg g b).2 (px_rg g a).1 then [(false, g)]
  else bif px_ieq (px_rg g a).1 (px_rg g a).2 && px_ieq (px_rg g b).1 (px_rg g b).2 then [(true, g)]
  else [(true, px_tight (px_tight g a (px_rg g b).1 (px_rg g b).2) b (px_rg g a).1 (px_rg g a).2), (false, g)]
theorem px_ltd_ok {x : px_X} {g : px_G} (h : px_Gok x g) (a b : px_I) : ∃ q ∈ px_ltd g a b, (q.1 = true ↔ px_i x a < px_i x b) ∧ px_Gok x q.2 := by
  have ha := px_rg_ok h a
  have hb := px_rg_ok h b
  have aa := px_any (px_i x a)
  have ab := px_any (px_i x b)
  simp only [Int32.lt_iff_toInt_lt]
  unfold px_ltd
  rw [px_ilt_eq, px_ile_eq]
  by_cases h1 : (px_rg g a).2 < (px_rg g b).1
  · rw [decide_eq_true h1]
    exact ⟨_, List.mem_singleton.mpr rfl, by simp only [true_iff]; omega, h⟩
  · rw [decide_eq_false h1]
    by_cases h2 : (px_rg g b).2 ≤ (px_rg g a).1
    · rw [decide_eq_true h2]
      exact ⟨_, List.mem_singleton.mpr rfl, by simp only [Bool.false_eq_true, false_iff]; omega, h⟩
    · rw [decide_eq_false h2]
      by_cases h3 : (px_i x a).toInt < (px_i x b).toInt
      · exact ⟨_, List.mem_cons_self, by simp only [h3], px_tight_ok (px_tight_ok h a aa.1 (by omega)) b (by omega) ab.2⟩
      · exact ⟨_, List.mem_cons_of_mem _ (List.mem_singleton.mpr rfl), by simp only [h3, Bool.false_eq_true], px_tight_ok (px_tight_ok h a (by omega) aa.2) b ab.1 (by omega)⟩
theorem px_eqd_ok {x : px_X} {g : px_G} (h : px_Gok x g) (a b : px_I) : ∃ q ∈ px_eqd g a b, (q.1 = true ↔ px_i x a = px_i x b) ∧ px_Gok x q.2 := by
  have ha := px_rg_ok h a
  have hb := px_rg_ok h b
  simp only [← Int32.toInt_inj]
  unfold px_eqd
  rw [px_ilt_eq, px_ilt_eq, px_ieq_eq, px_ieq_eq]
  by_cases h1 : (px_rg g a).2 < (px_rg g b).1 ∨ (px_rg g b).2 < (px_rg g a).1
  · rw [show (decide ((px_rg g a).2 < (px_rg g b).1) || decide ((px_rg g b).2 < (px_rg g a).1)) = true by simpa using h1]
    exact ⟨_, List.mem_singleton.mpr rfl, by simp only [Bool.false_eq_true, false_iff]; omega, h⟩
  · rw [show (decide ((px_rg g a).2 < (px_rg g b).1) || decide ((px_rg g b).2 < (px_rg g a).1)) = false by simpa using h1]
    by_cases h2 : (px_rg g a).1 = (px_rg g a).2 ∧ (px_rg g b).1 = (px_rg g b).2
    · rw [show (decide ((px_rg g a).1 = (px_rg g a).2) && decide ((px_rg g b).1 = (px_rg g b).2)) = true by simpa using h2]
      exact ⟨_, List.mem_singleton.mpr rfl, by simp only [true_iff]; omega, h⟩
    · rw [show (decide ((px_rg g a).1 = (px_rg g a).2) && decide ((px_rg g b).1 = (px_rg g b).2)) = false by
        rw [Bool.eq_false_iff]; intro q; simp only [Bool.and_eq_true, decide_eq_true_eq] at q; exact h2 q]
      by_cases h3 : (px_i x a).toInt = (px_i x b).toInt
      · exact ⟨_, List.mem_cons_self, by simp only [h3], px_tight_ok (px_tight_ok h a (by omega) (by omega)) b (by omega) (by omega)⟩
      · exact ⟨_, List.mem_cons_of_mem _ (List.mem_singleton.mpr rfl), by simp only [h3, Bool.false_eq_true], h⟩
noncomputable def px_neg (l : List (Bool × px_G)) : List (Bool × px_G) := l.map (fun q => (!q.1, q.2))
noncomputable def px_cd (c : ClassFile.Cond) (g : px_G) (a b : px_I) : List (Bool × px_G) := match c with
  | .eq => px_eqd g a b
  | .ne => px_neg (px_eqd g a b)
  | .lt => px_ltd g a b
  | .ge => px_neg (px_ltd g a b)
  | .gt => px_ltd g b a
  | .le => px_neg (px_ltd g b a)
theorem px_neg_ok {x : px_X} {l : List (Bool × px_G)} {P : Prop} (h : ∃ q ∈ l, (q.1 = true ↔ P) ∧ px_Gok x q.2) : ∃ q ∈ px_neg l, (q.1 = true ↔ ¬ P) ∧ px_Gok x q.2 := by
  obtain ⟨q, h1, h2, h3⟩ := h
  refine ⟨(!q.1, q.2), List.mem_map.mpr ⟨q, h1, rfl⟩, ?_, h3⟩
  rw [← h2]
  cases q.1 <;> simp
/-- a variable with more than one number left: its bounds in two halves -/
noncomputable def px_half (g : px_G) (a : px_I) : List px_G := [px_tight g a px_low (((px_rg g a).1 + (px_rg g a).2) / 2), px_tight g a (((px_rg g a).1 + (px_rg g a).2) / 2 + 1) px_hig]
theorem px_half_ok {x : px_X} {g : px_G} (h : px_Gok x g) (a : px_I) : ∃ q ∈ px_half g a, px_Gok x q := by
  have aa := px_any (px_i x a)
  by_cases h3 : (px_i x a).toInt ≤ ((px_rg g a).1 + (px_rg g a).2) / 2
  · exact ⟨_, List.mem_cons_self, px_tight_ok h a aa.1 h3⟩
  · exact ⟨_, List.mem_cons_of_mem _ (List.mem_singleton.mpr rfl), px_tight_ok h a (by omega) aa.2⟩
/-- what an int is, where it must be known: the number, or the halves -/
noncomputable def px_know (g : px_G) (a : px_I) : Option (Int ⊕ List px_G) := match px_nrm g a with
  | .inl n => bif px_inr n then some (.inl n) else none
  | .inr (.inl i) => some (.inr (px_half g (.inr (.inl i))))
  | _ => none
theorem px_know_ok {x : px_X} {g : px_G} (h : px_Gok x g) {a : px_I} {y : Int ⊕ List px_G} (hy : px_know g a = some y) : match y with
    | .inl n => px_i x a = Int32.ofInt n ∧ (px_i x a).toInt = n
    | .inr l => ∃ q ∈ l, px_Gok x q := by
  unfold px_know at hy
  split at hy
  · rename_i n hn
    rw [px_inr_eq] at hy
    cases hq : decide (px_low ≤ n) && decide (n ≤ px_hig) with
    | false => rw [hq] at hy; cases hy
    | true =>
      rw [hq] at hy
      simp only [cond_true, Option.some.injEq] at hy
      subst hy
      simp only [Bool.and_eq_true, decide_eq_true_eq] at hq
      have := px_nrm_ok h a
      rw [hn] at this
      refine ⟨this.symm, ?_⟩
      rw [← this]
      exact px_ofInt hq.1 hq.2
  · rename_i i hi
    simp only [Option.some.injEq] at hy
    subst hy
    exact px_half_ok h _
  · cases hy
abbrev px_S : Type := List (Nat × List px_V × px_G)
noncomputable def px_sw (pc : Nat) (st r : List px_V) (g : px_G) (a : px_I) (f : Int → Option Int) : Option px_S := match px_know g a with
  | some (.inl n) => match f n with
    | some off => match px_to pc off with
      | some t => some [(t, r, g)]
      | none => none
    | none => none
  | some (.inr gs) => some (gs.map (fun q => (pc, st, q)))
  | none => none
noncomputable def px_tab (dflt lo hi : Int) (offs : Array Int) (n : Int) : Option Int := bif decide (n < lo) || decide (hi < n) then some dflt else offs[(n - lo).toNat]?
noncomputable def px_lookup (dflt : Int) (ps : Array (Int × Int)) (n : Int) : Option Int := bif (ps.toList.zip (ps.toList.drop 1)).all (fun (a, next) => a.1 < next.1) then some (Op.lookupswitch.offset ps.toList dflt n) else none
noncomputable def px_br (i : Instr) (pc : Nat) (st : List px_V) (g : px_G) : Option px_S := match i with
  | .ifCond c off => match st with
    | .inl a :: r => match px_to pc off with
      | some t => some ((px_cd c g a (.inl 0)).map (fun q => (bif q.1 then t else pc + 3, r, q.2)))
      | none => none
    | _ => none
  | .if_icmp c off => match st with
    | .inl b :: .inl a :: r => match px_to pc off with
      | some t => some ((px_cd c g a b).map (fun q => (bif q.1 then t else pc + 3, r, q.2)))
      | none => none
    | _ => none
  | .goto off => match px_to pc off with
    | some t => some [(t, st, g)]
    | none => none
  | .ifnull off => match st with
    | .inr (.inr none) :: r => match px_to pc off with
      | some t => some [(t, r, g)]
      | none => none
    | .inr (.inr (some _)) :: r => some [(pc + 3, r, g)]
    | _ => none
  | .ifnonnull off => match st with
    | .inr (.inr (some _)) :: r => match px_to pc off with
      | some t => some [(t, r, g)]
      | none => none
    | .inr (.inr none) :: r => some [(pc + 3, r, g)]
    | _ => none
  | .tableswitch dflt lo hi offs => match st with
    | .inl a :: r => px_sw pc st r g a (px_tab dflt lo hi offs)
    | _ => none
  | .lookupswitch dflt ps => match st with
    | .inl a :: r => px_sw pc st r g a (px_lookup dflt ps)
    | _ => none
  | _ => none
noncomputable def px_brB (i : Instr) : Option (Nat → List px_V → px_G → Option px_S) := match i with
  | .ifCond c off => some (fun pc st g => match st with
    | .inl a :: r => match px_to pc off with
      | some t => some ((px_cd c g a (.inl 0)).map (fun q => (bif q.1 then t else pc + 3, r, q.2)))
      | none => none
    | _ => none)
  | .if_icmp c off => some (fun pc st g => match st with
    | .inl b :: .inl a :: r => match px_to pc off with
      | some t => some ((px_cd c g a b).map (fun q => (bif q.1 then t else pc + 3, r, q.2)))
      | none => none
    | _ => none)
  | .goto off => some (fun pc st g => match px_to pc off with
    | some t => some [(t, st, g)]
    | none => none)
  | .ifnull off => some (fun pc st g => match st with
    | .inr (.inr none) :: r => match px_to pc off with
      | some t => some [(t, r, g)]
      | none => none
    | .inr (.inr (some _)) :: r => some [(pc + 3, r, g)]
    | _ => none)
  | .ifnonnull off => some (fun pc st g => match st with
    | .inr (.inr (some _)) :: r => match px_to pc off with
      | some t => some [(t, r, g)]
      | none => none
    | .inr (.inr none) :: r => some [(pc + 3, r, g)]
    | _ => none)
  | .tableswitch dflt lo hi offs => some (fun pc st g => match st with
    | .inl a :: r => px_sw pc st r g a (px_tab dflt lo hi offs)
    | _ => none)
  | .lookupswitch dflt ps => some (fun pc st g => match st with
    | .inl a :: r => px_sw pc st r g a (px_lookup dflt ps)
    | _ => none)
  | _ => none
theorem px_brB_ok (i : Instr) {f : Nat → List px_V → px_G → Option px_S} (h : px_brB i = some f) (pc : Nat) (st : List px_V) (g : px_G) : f pc st g = px_br i pc st g := by
  cases i <;> first | (cases h; rfl) | (exact absurd h (by simp [px_brB]))
section PxBr
variable {p : Program} {l : Launch} {e : Env} {R : Room} {s : State} {m : MethodId} {args : Array Value} {below : List Frame} {meth : Method} {c : Code} {H : Heap} {locs : List Loc} {cells slots : Nat} {Q : State → Prop}
variable {cc : ByteArray} {pc : Nat} {ls : Array Slot} {E : px_E} {g : px_G} {st : List px_V} {S : px_S}
theorem px_two {P : Prop} {t f : Nat} {r : List px_V} {l0 : List (Bool × px_G)} {Wt : Nat → Prop} (hl : ∃ q ∈ l0, (q.1 = true ↔ P) ∧ px_Gok E.1 q.2)
    (k : ∀ q ∈ l0.map (fun q => ((bif q.1 then t else f), r, q.2)), px_Gok E.1 q.2.2 → Wt q.1) : (P → Wt t) ∧ (¬ P → Wt f) := by
  obtain ⟨q, h1, h2, h3⟩ := hl
  have h4 := k _ (List.mem_map.mpr ⟨q, h1, rfl⟩) h3
  cases hq : q.1 with
  | true =>
    rw [hq] at h4
    exact ⟨fun _ => h4, fun n => absurd (h2.mp hq) n⟩
  | false =>
    rw [hq] at h4
    exact ⟨fun y => absurd (hq.symm.trans (h2.mpr y)) (by decide), fun _ => h4⟩
theorem px_two' {P : Prop} {t f : Nat} {r : List px_V} {l0 : List (Bool × px_G)} {Wt : Nat → List px_V → Prop} (hl : ∃ q ∈ l0, (q.1 = true ↔ P) ∧ px_Gok E.1 q.2)
    (k : ∀ q ∈ l0.map (fun q => ((bif q.1 then t else f), r, q.2)), px_Gok E.1 q.2.2 → Wt q.1 q.2.1) : (P → Wt t r) ∧ (¬ P → Wt f r) :=
  px_two (Wt := fun n => Wt n r) hl (fun q hq hg => by
    have h5 : q.2.1 = r := by obtain ⟨_, _, rfl⟩ := List.mem_map.mp hq; rfl
    rw [← h5]; exact k q hq hg)
theorem px_sw_inv {r : List px_V} {a : px_I} {f : Int → Option Int} (h : px_sw pc st r g a f = some S) (hG : px_Gok E.1 g) :
    (∃ (n off : Int) (t : Nat), px_i E.1 a = Int32.ofInt n ∧ (px_i E.1 a).toInt = n ∧ f n = some off ∧ (pc : Int) + off = (t : Int) ∧ S = [(t, r, g)]) ∨ ∃ q, (pc, st, q) ∈ S ∧ px_Gok E.1 q := by
  unfold px_sw at h
  split at h
  · rename_i n hn
    split at h
    · rename_i off ho
      split at h
      · rename_i t ht
        have hk := px_know_ok hG hn
        exact Or.inl ⟨n, off, t, hk.1, hk.2, ho, px_to_ok ht, (Option.some.inj h).symm⟩
      · cases h
    · cases h
  · rename_i gs hn
    obtain ⟨q, h1, h2⟩ := px_know_ok hG hn
    cases h
    exact Or.inr ⟨q, List.mem_map.mpr ⟨q, h1, rfl⟩, h2⟩
  · cases h
theorem px_not_lt {x y : Int32} : ¬ x < y ↔ y ≤ x := by
  rw [Int32.lt_iff_toInt_lt, Int32.le_iff_toInt_le]; omega
set_option maxHeartbeats 4000000 in
theorem px_br_ok (hx : p.tables.exec = Jvm.exec) (hb : c.code = cc) {i : Instr} {len : Nat} (hd : decode cc pc = .ok (i, len)) (hlen : px_len i = len ∨ (∃ a b c d, i = .tableswitch a b c d) ∨ ∃ a b, i = .lookupswitch a b) (hG : px_Gok E.1 g) (hp : px_br i pc st g = some S)
    (k : ∀ q ∈ S, px_Gok E.1 q.2.2 → W p l e R s m args below meth c H locs cells slots Q (F0 m q.1 ls (q.2.1.map (px_v E)))) : W p l e R s m args below meth c H locs cells slots Q (F0 m pc ls (st.map (px_v E))) := by
  cases i
  case ifCond cd off =>
    have hlen : (3 : Nat) = len := by rcases hlen with h | ⟨_, _, _, _, h⟩ | ⟨_, _, h⟩ <;> first | exact h | cases h
    subst hlen
    simp only [px_br] at hp
    split at hp
    · rename_i a r
      split at hp
      · rename_i t ht
        cases hp
        have ht := px_to_ok ht
        have e0 : px_i E.1 (.inl 0) = 0 := rfl
        cases cd
        · have h5 := px_two' (Wt := fun n y => W p l e R s m args below meth c H locs cells slots Q (F0 m n ls (y.map (px_v E)))) (px_eqd_ok hG a (.inl 0)) k
          rw [e0] at h5
          exact lv_if_eq hx hb hd ht h5.1 h5.2
        · have h5 := px_two' (Wt := fun n y => W p l e R s m args below meth c H locs cells slots Q (F0 m n ls (y.map (px_v E)))) (px_neg_ok (px_eqd_ok hG a (.inl 0))) k
          rw [e0] at h5
          exact lv_if_ne hx hb hd ht h5.1 (fun q => h5.2 (fun n => n q))
        · have h5 := px_two' (Wt := fun n y => W p l e R s m args below meth c H locs cells slots Q (F0 m n ls (y.map (px_v E)))) (px_ltd_ok hG a (.inl 0)) k
          rw [e0] at h5
          exact lv_if_lt hx hb hd ht h5.1 h5.2
        · have h5 := px_two' (Wt := fun n y => W p l e R s m args below meth c H locs cells slots Q (F0 m n ls (y.map (px_v E)))) (px_neg_ok (px_ltd_ok hG a (.inl 0))) k
          rw [e0, px_not_lt] at h5
          exact lv_if_ge hx hb hd ht h5.1 h5.2
        · have h5 := px_two' (Wt := fun n y => W p l e R s m args below meth c H locs cells slots Q (F0 m n ls (y.map (px_v E)))) (px_ltd_ok hG (.inl 0) a) k
          rw [e0] at h5
          exact lv_if_gt hx hb hd ht h5.1 h5.2
        · have h5 := px_two' (Wt := fun n y => W p l e R s m args below meth c H locs cells slots Q (F0 m n ls (y.map (px_v E)))) (px_neg_ok (px_ltd_ok hG (.inl 0) a)) k
          rw [e0, px_not_lt] at h5
          exact lv_if_le hx hb hd ht h5.1 h5.2
      · cases hp
    · cases hp
  case if_icmp cd off =>
    have hlen : (3 : Nat) = len := by rcases hlen with h | ⟨_, _, _, _, h⟩ | ⟨_, _, h⟩ <;> first | exact h | cases h
    subst hlen
    simp only [px_br] at hp
    split at hp
    · rename_i b a r
      split at hp
      · rename_i t ht
        cases hp
        have ht := px_to_ok ht
        cases cd
        · have h5 := px_two' (Wt := fun n y => W p l e R s m args below meth c H locs cells slots Q (F0 m n ls (y.map (px_v E)))) (px_eqd_ok hG a b) k
          exact lv_icmp_eq hx hb hd ht h5.1 h5.2
        · have h5 := px_two' (Wt := fun n y => W p l e R s m args below meth c H locs cells slots Q (F0 m n ls (y.map (px_v E)))) (px_neg_ok (px_eqd_ok hG a b)) k
          exact lv_icmp_ne hx hb hd ht h5.1 (fun q => h5.2 (fun n => n q))
        · have h5 := px_two' (Wt := fun n y => W p l e R s m args below meth c H locs cells slots Q (F0 m n ls (y.map (px_v E)))) (px_ltd_ok hG a b) k
          exact lv_icmp_lt hx hb hd ht h5.1 h5.2
        · have h5 := px_two' (Wt := fun n y => W p l e R s m args below meth c H locs cells slots Q (F0 m n ls (y.map (px_v E)))) (px_neg_ok (px_ltd_ok hG a b)) k
          rw [px_not_lt] at h5
          exact lv_icmp_ge hx hb hd ht h5.1 h5.2
        · have h5 := px_two' (Wt := fun n y => W p l e R s m args below meth c H locs cells slots Q (F0 m n ls (y.map (px_v E)))) (px_ltd_ok hG b a) k
          exact lv_icmp_gt hx hb hd ht h5.1 h5.2
        · have h5 := px_two' (Wt := fun n y => W p l e R s m args below meth c H locs cells slots Q (F0 m n ls (y.map (px_v E)))) (px_neg_ok (px_ltd_ok hG b a)) k
          rw [px_not_lt] at h5
          exact lv_icmp_le hx hb hd ht h5.1 h5.2
      · cases hp
    · cases hp
  case goto off =>
    have hlen : (3 : Nat) = len := by rcases hlen with h | ⟨_, _, _, _, h⟩ | ⟨_, _, h⟩ <;> first | exact h | cases h
    subst hlen
    simp only [px_br] at hp
    split at hp
    · rename_i t ht
      cases hp
      exact lv_goto hx hb hd (px_to_ok ht) (k _ (List.mem_singleton.mpr rfl) hG)
    · cases hp
  case ifnull off =>
    have hlen : (3 : Nat) = len := by rcases hlen with h | ⟨_, _, _, _, h⟩ | ⟨_, _, h⟩ <;> first | exact h | cases h
    subst hlen
    simp only [px_br] at hp
    split at hp
    · split at hp
      · rename_i t ht
        cases hp
        exact lv_ifnullN hx hb hd (px_to_ok ht) (k _ (List.mem_singleton.mpr rfl) hG)
      · cases hp
    · cases hp
      exact lv_ifnull hx hb hd (k _ (List.mem_singleton.mpr rfl) hG)
    · cases hp
  case ifnonnull off =>
    have hlen : (3 : Nat) = len := by rcases hlen with h | ⟨_, _, _, _, h⟩ | ⟨_, _, h⟩ <;> first | exact h | cases h
    subst hlen
    simp only [px_br] at hp
    split at hp
    · split at hp
      · rename_i t ht
        cases hp
        exact lv_ifnonnull hx hb hd (px_to_ok ht) (k _ (List.mem_singleton.mpr rfl) hG)
      · cases hp
    · cases hp
      exact lv_ifnonnullN hx hb hd (k _ (List.mem_singleton.mpr rfl) hG)
    · cases hp
  case tableswitch dflt lo hi offs =>
    simp only [px_br] at hp
    split at hp
    · rename_i a r
      rcases px_sw_inv (E := E) hp hG with ⟨n, off, t, h1, h2, h3, h4, rfl⟩ | ⟨q, h1, h2⟩
      · have hk := k _ (List.mem_singleton.mpr rfl) hG
        unfold px_tab at h3
        by_cases h7 : n < lo ∨ hi < n
        · rw [show (decide (n < lo) || decide (hi < n)) = true by simpa using h7] at h3
          simp only [cond_true, Option.some.injEq] at h3
          subst h3
          exact lv_tableOut hx hb hd (by rw [h2]; exact h7) h4 hk
        · rw [show (decide (n < lo) || decide (hi < n)) = false by rw [Bool.eq_false_iff]; intro q; simp only [Bool.or_eq_true, decide_eq_true_eq] at q; exact h7 q] at h3
          exact lv_tableIn hx hb hd (by rw [h2]; omega) (by rw [h2]; omega) (by rw [h2]; exact h3) h4 hk
      · exact k _ h1 h2
    · cases hp
  case lookupswitch dflt ps =>
    simp only [px_br] at hp
    split at hp
    · rename_i a r
      rcases px_sw_inv (E := E) hp hG with ⟨n, off, t, h1, h2, h3, h4, rfl⟩ | ⟨q, h1, h2⟩
      · have hk := k _ (List.mem_singleton.mpr rfl) hG
        unfold px_lookup at h3
        cases h7 : (ps.toList.zip (ps.toList.drop 1)).all (fun (a, next) => a.1 < next.1) with
        | false => rw [h7] at h3; cases h3
        | true =>
          rw [h7] at h3
          simp only [cond_true, Option.some.injEq] at h3
          exact lv_lookup hx hb hd h7 (by rw [h2]; exact h3) h4 hk
      · exact k _ h1 h2
    · cases hp
  all_goals (exact absurd hp (by simp [px_br]))
end PxBr
