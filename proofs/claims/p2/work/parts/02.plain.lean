/-! A machine of plain values, part 1: the values, and instructions that touch the frame alone. (Written by wip/p2/mk02.py.) -/
abbrev cz_V : Type := Int32 ⊕ (Int64 ⊕ Option Nat)
/-- addresses of what was there before (places below 192); the first address of what was made since -/
abbrev cz_E : Type := (Nat → Nat) × Nat
def cz_ad (E : cz_E) (r : Nat) : Nat := if r < 192 then E.1 r else E.2 + (r - 192)
def cz_v (E : cz_E) (v : cz_V) : Value := match v with
  | .inl a => .int a
  | .inr (.inl a) => .long a
  | .inr (.inr none) => .null
  | .inr (.inr (some r)) => .ref (cz_ad E r)
noncomputable def cz_find (j : Nat) (l : List (Nat × cz_V)) : Option cz_V := List.rec none (fun q _ ih => bif Nat.beq q.1 j then some q.2 else ih) l
noncomputable def cz_fil {α : Type} (f : α → Bool) (l : List α) : List α := List.rec [] (fun q _ ih => bif f q then q :: ih else ih) l
theorem cz_fil_eq {α : Type} (f : α → Bool) (l : List α) : cz_fil f l = l.filter f := by
  induction l with
  | nil => rfl
  | cons a r ih =>
    rw [List.filter_cons]
    show (bif f a then a :: cz_fil f r else cz_fil f r) = _
    rw [ih]
    cases f a <;> rfl
noncomputable def cz_isI (v : cz_V) : Bool := match v with | .inl _ => true | _ => false
noncomputable def cz_lg (v : cz_V) : Bool := match v with | .inr (.inl _) => true | _ => false
noncomputable def cz_isR (v : cz_V) : Bool := match v with | .inr (.inr _) => true | _ => false
noncomputable def cz_lc (E : cz_E) (L : List (Nat × cz_V)) : List (Nat × Value) := L.map (fun q => (q.1, cz_v E q.2))
noncomputable def cz_sto (L : List (Nat × cz_V)) (i : Nat) (v : cz_V) : List (Nat × cz_V) := (i, v) :: cz_fil (fun q => bif Nat.beq q.1 i then false else bif Nat.beq (Nat.succ q.1) i then !(cz_lg q.2) else true) L
noncomputable def cz_sto2 (L : List (Nat × cz_V)) (i : Nat) (v : cz_V) : List (Nat × cz_V) := (i, v) :: cz_fil (fun q => bif Nat.beq q.1 i then false else bif Nat.beq q.1 (Nat.succ i) then false else bif Nat.beq (Nat.succ q.1) i then !(cz_lg q.2) else true) L
theorem cz_cat (E : cz_E) (v : cz_V) : ((cz_v E v).category == 2) = cz_lg v := by
  obtain a | a | a := v
  · rfl
  · rfl
  · cases a <;> rfl
theorem cz_cat1 {E : cz_E} {v : cz_V} (h : cz_lg v = false) : (cz_v E v).category = 1 := by
  obtain a | a | a := v
  · rfl
  · cases h
  · cases a <;> rfl
theorem cz_sto_ok (E : cz_E) (L : List (Nat × cz_V)) (i : Nat) (v : cz_V) : (i, cz_v E v) :: (cz_lc E L).filter (fun q => !(q.1 == i) && !(q.1 + 1 == i && q.2.category == 2)) = cz_lc E (cz_sto L i v) := by
  simp only [cz_lc, cz_sto, List.map_cons, List.filter_map, cz_fil_eq]
  congr 2
  apply List.filter_congr
  intro q _
  simp only [Function.comp, cz_cat]
  rw [Bool.eq_iff_iff]
  by_cases h1 : q.1 = i
  · simp [h1]
  · have e1 : Nat.beq q.1 i = false := Bool.eq_false_iff.mpr (fun w => h1 (Nat.beq_eq.mp w))
    by_cases h2 : q.1 + 1 = i
    · have e2 : Nat.beq (Nat.succ q.1) i = true := Nat.beq_eq.mpr h2
      simp only [e1, e2, cond_false, cond_true]
      simp [h1, h2]
    · have e2 : Nat.beq (Nat.succ q.1) i = false := Bool.eq_false_iff.mpr (fun w => h2 (Nat.beq_eq.mp w))
      simp only [e1, e2, cond_false]
      simp [h1, h2]
theorem cz_sto2_ok (E : cz_E) (L : List (Nat × cz_V)) (i : Nat) (v : cz_V) : (i, cz_v E v) :: (cz_lc E L).filter (fun q => !(q.1 == i) && (!(q.1 == i + 1) && !(q.1 + 1 == i && q.2.category == 2))) = cz_lc E (cz_sto2 L i v) := by
  simp only [cz_lc, cz_sto2, List.map_cons, List.filter_map, cz_fil_eq]
  congr 2
  apply List.filter_congr
  intro q _
  simp only [Function.comp, cz_cat]
  rw [Bool.eq_iff_iff]
  by_cases h1 : q.1 = i
  · simp [h1]
  · have e1 : Nat.beq q.1 i = false := Bool.eq_false_iff.mpr (fun w => h1 (Nat.beq_eq.mp w))
    by_cases h3 : q.1 = i + 1
    · have e3 : Nat.beq q.1 (Nat.succ i) = true := Nat.beq_eq.mpr h3
      simp only [e1, e3, cond_false, cond_true]
      simp [h3]
    · have e3 : Nat.beq q.1 (Nat.succ i) = false := Bool.eq_false_iff.mpr (fun w => h3 (Nat.beq_eq.mp w))
      by_cases h2 : q.1 + 1 = i
      · have e2 : Nat.beq (Nat.succ q.1) i = true := Nat.beq_eq.mpr h2
        simp only [e1, e2, e3, cond_false, cond_true]
        simp [h1, h2, h3]
      · have e2 : Nat.beq (Nat.succ q.1) i = false := Bool.eq_false_iff.mpr (fun w => h2 (Nat.beq_eq.mp w))
        simp only [e1, e2, e3, cond_false]
        simp [h1, h2, h3]
theorem cz_find_mem {j : Nat} {v : cz_V} : ∀ {L : List (Nat × cz_V)}, cz_find j L = some v → (j, v) ∈ L
  | [], h => by cases h
  | q :: r, h => by
    have h' : (bif Nat.beq q.1 j then some q.2 else cz_find j r) = some v := h
    cases hq : Nat.beq q.1 j with
    | true =>
      rw [hq] at h'
      have h1 : q.2 = v := Option.some.inj h'
      have h2 := Nat.eq_of_beq_eq_true hq
      rw [← h1, ← h2]
      exact List.mem_cons_self
    | false =>
      rw [hq] at h'
      exact List.mem_cons_of_mem _ (cz_find_mem h')
theorem cz_find_ok {E : cz_E} {ls : Array Slot} {nL j : Nat} {v : cz_V} {L : List (Nat × cz_V)} (h : lv_has ls nL (cz_lc E L)) (hf : cz_find j L = some v) : ls[j]? = some (.val (cz_v E v)) :=
  h.2.2 (j, cz_v E v) (List.mem_map.mpr ⟨(j, v), cz_find_mem hf, rfl⟩)
theorem cz_find_pos {E : cz_E} {j : Nat} {v : cz_V} {L : List (Nat × cz_V)} (hf : cz_find j L = some v) : ∃ k : Nat, (cz_lc E L)[k]? = some (j, cz_v E v) :=
  List.getElem?_of_mem (List.mem_map.mpr ⟨(j, v), cz_find_mem hf, rfl⟩)
noncomputable def cz_ld (L : List (Nat × cz_V)) (j : Nat) (kind : cz_V → Bool) : Option cz_V := match cz_find j L with
  | some v => bif kind v then some v else none
  | none => none
theorem cz_ld_inv {L : List (Nat × cz_V)} {j : Nat} {kind : cz_V → Bool} {v : cz_V} (h : cz_ld L j kind = some v) : cz_find j L = some v ∧ kind v = true := by
  unfold cz_ld at h
  split at h
  · rename_i w hw
    cases hk : kind w with
    | true => rw [hk] at h; simp only [cond_true, Option.some.injEq] at h; subst h; exact ⟨hw, hk⟩
    | false => rw [hk] at h; cases h
  · cases h
noncomputable def cz_bin (op : Int32 → Int32 → Int32) (st : List cz_V) : Option (List cz_V) := match st with
  | .inl b :: .inl a :: r => some (.inl (op a b) :: r)
  | _ => none
theorem cz_bin_inv {op : Int32 → Int32 → Int32} {st st' : List cz_V} (h : cz_bin op st = some st') : ∃ a b r, st = .inl b :: .inl a :: r ∧ st' = .inl (op a b) :: r := by
  unfold cz_bin at h
  split at h
  · rename_i b a r
    exact ⟨a, b, r, rfl, (Option.some.inj h).symm⟩
  · cases h
noncomputable def cz_una (op : Int32 → Int32) (st : List cz_V) : Option (List cz_V) := match st with
  | .inl a :: r => some (.inl (op a) :: r)
  | _ => none
theorem cz_una_inv {op : Int32 → Int32} {st st' : List cz_V} (h : cz_una op st = some st') : ∃ a r, st = .inl a :: r ∧ st' = .inl (op a) :: r := by
  unfold cz_una at h
  split at h
  · rename_i a r
    exact ⟨a, r, rfl, (Option.some.inj h).symm⟩
  · cases h
noncomputable def cz_lbin (op : Int64 → Int64 → Int64) (st : List cz_V) : Option (List cz_V) := match st with
  | .inr (.inl b) :: .inr (.inl a) :: r => some (.inr (.inl (op a b)) :: r)
  | _ => none
theorem cz_lbin_inv {op : Int64 → Int64 → Int64} {st st' : List cz_V} (h : cz_lbin op st = some st') : ∃ a b r, st = .inr (.inl b) :: .inr (.inl a) :: r ∧ st' = .inr (.inl (op a b)) :: r := by
  unfold cz_lbin at h
  split at h
  · rename_i b a r
    exact ⟨a, b, r, rfl, (Option.some.inj h).symm⟩
  · cases h
noncomputable def cz_lsh (op : Int64 → Int32 → Int64) (st : List cz_V) : Option (List cz_V) := match st with
  | .inl b :: .inr (.inl a) :: r => some (.inr (.inl (op a b)) :: r)
  | _ => none
theorem cz_lsh_inv {op : Int64 → Int32 → Int64} {st st' : List cz_V} (h : cz_lsh op st = some st') : ∃ a b r, st = .inl b :: .inr (.inl a) :: r ∧ st' = .inr (.inl (op a b)) :: r := by
  unfold cz_lsh at h
  split at h
  · rename_i b a r
    exact ⟨a, b, r, rfl, (Option.some.inj h).symm⟩
  · cases h
/-- the length of an instruction -/
noncomputable def cz_len (i : Instr) : Nat := match i with
  | .bipush _ | .iload _ | .lload _ | .aload _ | .istore _ | .lstore _ | .astore _ | .newarray _ | .ldc _ => 2
  | .sipush _ | .iinc _ _ | .goto _ | .ifCond _ _ | .if_icmp _ _ | .if_acmp _ _ | .ifnull _ | .ifnonnull _ | .getfield _ | .putfield _ | .getstatic _ | .putstatic _ | .new _ | .anewarray _ | .invokevirtual _ | .invokespecial _ | .invokestatic _ | .ldc_w _ | .ldc2_w _ | .checkcast _ | .instanceof _ => 3
  | .multianewarray _ _ => 4
  | _ => 1
noncomputable def cz_pure (i : Instr) (nL : Nat) (L : List (Nat × cz_V)) (st : List cz_V) : Option (List (Nat × cz_V) × List cz_V) := match i with
  | .iconst n => some (L, .inl (Int32.ofInt n) :: st)
  | .bipush n => some (L, .inl (Int8.ofInt n).toInt32 :: st)
  | .sipush n => some (L, .inl (Int16.ofInt n).toInt32 :: st)
  | .lconst n => some (L, .inr (.inl (Int64.ofInt (n.val : Nat))) :: st)
  | .aconst_null => some (L, .inr (.inr none) :: st)
  | .iload_n k => (cz_ld L k cz_isI).map (fun v => (L, v :: st))
  | .iload k => (cz_ld L k cz_isI).map (fun v => (L, v :: st))
  | .lload_n k => (cz_ld L k cz_lg).map (fun v => (L, v :: st))
  | .lload k => (cz_ld L k cz_lg).map (fun v => (L, v :: st))
  | .aload_n k => (cz_ld L k cz_isR).map (fun v => (L, v :: st))
  | .aload k => (cz_ld L k cz_isR).map (fun v => (L, v :: st))
  | .istore_n k => match st with
    | .inl a :: r => bif Nat.blt k nL then some (cz_sto L k (.inl a), r) else none
    | _ => none
  | .astore_n k => match st with
    | .inr (.inr a) :: r => bif Nat.blt k nL then some (cz_sto L k (.inr (.inr a)), r) else none
    | _ => none
  | .lstore_n k => match st with
    | .inr (.inl a) :: r => bif Nat.blt (k + 1) nL then some (cz_sto2 L k (.inr (.inl a)), r) else none
    | _ => none
  | .istore k => match st with
    | .inl a :: r => bif Nat.blt k nL then some (cz_sto L k (.inl a), r) else none
    | _ => none
  | .astore k => match st with
    | .inr (.inr a) :: r => bif Nat.blt k nL then some (cz_sto L k (.inr (.inr a)), r) else none
    | _ => none
  | .lstore k => match st with
    | .inr (.inl a) :: r => bif Nat.blt (k + 1) nL then some (cz_sto2 L k (.inr (.inl a)), r) else none
    | _ => none
  | .iinc k n => match cz_find k L with
    | some (.inl a) => bif Nat.blt k nL then some (cz_sto L k (.inl (a + Int32.ofInt n)), st) else none
    | _ => none
  | .iadd => (cz_bin (· + ·) st).map (fun s => (L, s))
  | .isub => (cz_bin (· - ·) st).map (fun s => (L, s))
  | .imul => (cz_bin (· * ·) st).map (fun s => (L, s))
  | .iand => (cz_bin (· &&& ·) st).map (fun s => (L, s))
  | .ior => (cz_bin (· ||| ·) st).map (fun s => (L, s))
  | .ixor => (cz_bin (· ^^^ ·) st).map (fun s => (L, s))
  | .ishl => (cz_bin (fun x y => x <<< (y &&& 31)) st).map (fun s => (L, s))
  | .ishr => (cz_bin (fun x y => x >>> (y &&& 31)) st).map (fun s => (L, s))
  | .iushr => (cz_bin (fun x y => (x.toUInt32 >>> (y.toUInt32 &&& Int32.toUInt32 31)).toInt32) st).map (fun s => (L, s))
  | .i2b => (cz_una (fun x => x.toInt8.toInt32) st).map (fun s => (L, s))
  | .i2c => (cz_una (fun x => (x.toUInt32 % 65536).toInt32) st).map (fun s => (L, s))
  | .ineg => (cz_una (fun x => -x) st).map (fun s => (L, s))
  | .ladd => (cz_lbin (· + ·) st).map (fun s => (L, s))
  | .lsub => (cz_lbin (· - ·) st).map (fun s => (L, s))
  | .lmul => (cz_lbin (· * ·) st).map (fun s => (L, s))
  | .land => (cz_lbin (· &&& ·) st).map (fun s => (L, s))
  | .lor => (cz_lbin (· ||| ·) st).map (fun s => (L, s))
  | .lxor => (cz_lbin (· ^^^ ·) st).map (fun s => (L, s))
  | .lshl => (cz_lsh (fun x y => x <<< (y.toInt64 &&& 63)) st).map (fun s => (L, s))
  | .lushr => (cz_lsh (fun x y => (x.toUInt64 >>> (y.toInt64.toUInt64 &&& Int64.toUInt64 63)).toInt64) st).map (fun s => (L, s))
  | .idiv => match st with
    | .inl b :: .inl a :: r => bif decide (b = 0) then none else some (L, .inl (a / b) :: r)
    | _ => none
  | .irem => match st with
    | .inl b :: .inl a :: r => bif decide (b = 0) then none else some (L, .inl (a - a / b * b) :: r)
    | _ => none
  | .i2l => match st with
    | .inl a :: r => some (L, .inr (.inl a.toInt64) :: r)
    | _ => none
  | .l2i => match st with
    | .inr (.inl a) :: r => some (L, .inl a.toInt32 :: r)
    | _ => none
  | .lcmp => match st with
    | .inr (.inl b) :: .inr (.inl a) :: r => some (L, .inl (lg_cmp a b) :: r)
    | _ => none
  | .dup => match st with
    | v :: r => bif cz_lg v then none else some (L, v :: v :: r)
    | _ => none
  | .pop => match st with
    | v :: r => bif cz_lg v then none else some (L, r)
    | _ => none
  | .dup2 => match st with
    | a :: b :: r => bif cz_lg a || cz_lg b then none else some (L, a :: b :: a :: b :: r)
    | _ => none
  | .dup_x1 => match st with
    | a :: b :: r => bif cz_lg a || cz_lg b then none else some (L, a :: b :: a :: r)
    | _ => none
  | _ => none
section CzPure
variable {p : Program} {l : Launch} {e : Env} {R : Room} {s : State} {m : MethodId} {args : Array Value} {below : List Frame} {meth : Method} {c : Code} {H : Heap} {locs : List Loc} {cells slots : Nat} {Q : State → Prop}
variable {cc : ByteArray} {pc nL : Nat} {ls : Array Slot} {E : cz_E} {L L' : List (Nat × cz_V)} {st st' : List cz_V}
set_option maxHeartbeats 4000000 in
theorem cz_pure_ok (hx : p.tables.exec = Jvm.exec) (hb : c.code = cc) {i : Instr} (hd : decode cc pc = .ok (i, cz_len i)) (hl : lv_has ls nL (cz_lc E L)) (hp : cz_pure i nL L st = some (L', st'))
    (k : ∀ ls' : Array Slot, lv_has ls' nL (cz_lc E L') → W p l e R s m args below meth c H locs cells slots Q (F0 m (pc + cz_len i) ls' (st'.map (cz_v E)))) : W p l e R s m args below meth c H locs cells slots Q (F0 m pc ls (st.map (cz_v E))) := by
  cases i
  case iconst n => cases hp; exact lv_iconst hx hb hd rfl (k ls hl)
  case bipush n => cases hp; exact lv_bipush hx hb hd rfl (k ls hl)
  case sipush n => cases hp; exact lv_sipush hx hb hd rfl (k ls hl)
  case lconst n => cases hp; exact lv_lconst hx hb hd rfl (k ls hl)
  case aconst_null => cases hp; exact lv_null hx hb hd (k ls hl)
  case iload_n j =>
    obtain ⟨v, hv, hq⟩ := Option.map_eq_some_iff.mp hp
    cases hq
    obtain ⟨hf, hk⟩ := cz_ld_inv hv
    obtain a | a | a := v
    · exact lv_iload_n hx hb hd rfl (cz_find_ok hl hf) (k ls hl)
    · cases hk
    · cases hk
  case iload j =>
    obtain ⟨v, hv, hq⟩ := Option.map_eq_some_iff.mp hp
    cases hq
    obtain ⟨hf, hk⟩ := cz_ld_inv hv
    obtain a | a | a := v
    · exact lv_iload hx hb hd (cz_find_ok hl hf) (k ls hl)
    · cases hk
    · cases hk
  case lload_n j =>
    obtain ⟨v, hv, hq⟩ := Option.map_eq_some_iff.mp hp
    cases hq
    obtain ⟨hf, hk⟩ := cz_ld_inv hv
    obtain a | a | a := v
    · cases hk
    · exact lv_lload_n hx hb hd rfl (cz_find_ok hl hf) (k ls hl)
    · cases hk
  case lload j =>
    obtain ⟨v, hv, hq⟩ := Option.map_eq_some_iff.mp hp
    cases hq
    obtain ⟨hf, hk⟩ := cz_ld_inv hv
    obtain a | a | a := v
    · cases hk
    · exact lv_lload hx hb hd (cz_find_ok hl hf) (k ls hl)
    · cases hk
  case aload_n j =>
    obtain ⟨v, hv, hq⟩ := Option.map_eq_some_iff.mp hp
    cases hq
    obtain ⟨hf, hk⟩ := cz_ld_inv hv
    obtain a | a | a := v
    · cases hk
    · cases hk
    · cases a with
      | none => exact lv_aload_nN hx hb hd rfl (cz_find_ok hl hf) (k ls hl)
      | some r => exact lv_aload_n hx hb hd rfl (cz_find_ok hl hf) (k ls hl)
  case aload j =>
    obtain ⟨v, hv, hq⟩ := Option.map_eq_some_iff.mp hp
    cases hq
    obtain ⟨hf, hk⟩ := cz_ld_inv hv
    obtain a | a | a := v
    · cases hk
    · cases hk
    · cases a with
      | none => exact lv_aloadN hx hb hd (cz_find_ok hl hf) (k ls hl)
      | some r => exact lv_aload hx hb hd (cz_find_ok hl hf) (k ls hl)
  case istore_n j =>
    simp only [cz_pure] at hp
    split at hp
    · rename_i a r
      cases hn : Nat.blt (j) nL with
      | false => rw [hn] at hp; cases hp
      | true =>
        rw [hn] at hp
        cases hp
        exact lv_istore_n hx hb hd rfl hl (Nat.blt_eq.mp hn) (cz_sto_ok E L j (.inl a)) k
    · cases hp
  case istore j =>
    simp only [cz_pure] at hp
    split at hp
    · rename_i a r
      cases hn : Nat.blt (j) nL with
      | false => rw [hn] at hp; cases hp
      | true =>
        rw [hn] at hp
        cases hp
        exact lv_istore hx hb hd hl (Nat.blt_eq.mp hn) (cz_sto_ok E L j (.inl a)) k
    · cases hp
  case astore_n j =>
    simp only [cz_pure] at hp
    split at hp
    · rename_i a r
      cases hn : Nat.blt (j) nL with
      | false => rw [hn] at hp; cases hp
      | true =>
        rw [hn] at hp
        cases hp
        cases a with
        | none => exact lv_astore_nN hx hb hd rfl hl (Nat.blt_eq.mp hn) (cz_sto_ok E L j (.inr (.inr none))) k
        | some a => exact lv_astore_n hx hb hd rfl hl (Nat.blt_eq.mp hn) (cz_sto_ok E L j (.inr (.inr (some a)))) k
    · cases hp
  case astore j =>
    simp only [cz_pure] at hp
    split at hp
    · rename_i a r
      cases hn : Nat.blt (j) nL with
      | false => rw [hn] at hp; cases hp
      | true =>
        rw [hn] at hp
        cases hp
        cases a with
        | none => exact lv_astoreN hx hb hd hl (Nat.blt_eq.mp hn) (cz_sto_ok E L j (.inr (.inr none))) k
        | some a => exact lv_astore hx hb hd hl (Nat.blt_eq.mp hn) (cz_sto_ok E L j (.inr (.inr (some a)))) k
    · cases hp
  case lstore_n j =>
    simp only [cz_pure] at hp
    split at hp
    · rename_i a r
      cases hn : Nat.blt (j + 1) nL with
      | false => rw [hn] at hp; cases hp
      | true =>
        rw [hn] at hp
        cases hp
        exact lv_lstore_n hx hb hd rfl hl (Nat.blt_eq.mp hn) (cz_sto2_ok E L j (.inr (.inl a))) k
    · cases hp
  case lstore j =>
    simp only [cz_pure] at hp
    split at hp
    · rename_i a r
      cases hn : Nat.blt (j + 1) nL with
      | false => rw [hn] at hp; cases hp
      | true =>
        rw [hn] at hp
        cases hp
        exact lv_lstore hx hb hd hl (Nat.blt_eq.mp hn) (cz_sto2_ok E L j (.inr (.inl a))) k
    · cases hp
  case iinc j n =>
    simp only [cz_pure] at hp
    split at hp
    · rename_i a hf
      cases hn : Nat.blt j nL with
      | false => rw [hn] at hp; cases hp
      | true =>
        rw [hn] at hp
        cases hp
        obtain ⟨kk, hkk⟩ := cz_find_pos (E := E) hf
        exact lv_iinc (v := a + Int32.ofInt n) hx hb hd hl hkk rfl (Nat.blt_eq.mp hn) (cz_sto_ok E L j (.inl (a + Int32.ofInt n))) k
    · cases hp
  case iadd =>
    obtain ⟨w, hw, hq⟩ := Option.map_eq_some_iff.mp hp
    cases hq
    obtain ⟨a, b, r, rfl, rfl⟩ := cz_bin_inv hw
    exact lv_iadd hx hb hd (k ls hl)
  case isub =>
    obtain ⟨w, hw, hq⟩ := Option.map_eq_some_iff.mp hp
    cases hq
    obtain ⟨a, b, r, rfl, rfl⟩ := cz_bin_inv hw
    exact lv_isub hx hb hd (k ls hl)
  case imul =>
    obtain ⟨w, hw, hq⟩ := Option.map_eq_some_iff.mp hp
    cases hq
    obtain ⟨a, b, r, rfl, rfl⟩ := cz_bin_inv hw
    exact lv_imul hx hb hd (k ls hl)
  case iand =>
    obtain ⟨w, hw, hq⟩ := Option.map_eq_some_iff.mp hp
    cases hq
    obtain ⟨a, b, r, rfl, rfl⟩ := cz_bin_inv hw
    exact lv_iand hx hb hd (k ls hl)
  case ior =>
    obtain ⟨w, hw, hq⟩ := Option.map_eq_some_iff.mp hp
    cases hq
    obtain ⟨a, b, r, rfl, rfl⟩ := cz_bin_inv hw
    exact lv_ior hx hb hd (k ls hl)
  case ixor =>
    obtain ⟨w, hw, hq⟩ := Option.map_eq_some_iff.mp hp
    cases hq
    obtain ⟨a, b, r, rfl, rfl⟩ := cz_bin_inv hw
    exact lv_ixor hx hb hd (k ls hl)
  case ishl =>
    obtain ⟨w, hw, hq⟩ := Option.map_eq_some_iff.mp hp
    cases hq
    obtain ⟨a, b, r, rfl, rfl⟩ := cz_bin_inv hw
    exact lv_ishl hx hb hd (k ls hl)
  case ishr =>
    obtain ⟨w, hw, hq⟩ := Option.map_eq_some_iff.mp hp
    cases hq
    obtain ⟨a, b, r, rfl, rfl⟩ := cz_bin_inv hw
    exact lv_ishr hx hb hd (k ls hl)
  case iushr =>
    obtain ⟨w, hw, hq⟩ := Option.map_eq_some_iff.mp hp
    cases hq
    obtain ⟨a, b, r, rfl, rfl⟩ := cz_bin_inv hw
    exact lv_iushr hx hb hd rfl (k ls hl)
  case i2b =>
    obtain ⟨w, hw, hq⟩ := Option.map_eq_some_iff.mp hp
    cases hq
    obtain ⟨a, r, rfl, rfl⟩ := cz_una_inv hw
    exact lv_i2b hx hb hd rfl (k ls hl)
  case i2c =>
    obtain ⟨w, hw, hq⟩ := Option.map_eq_some_iff.mp hp
    cases hq
    obtain ⟨a, r, rfl, rfl⟩ := cz_una_inv hw
    exact lv_i2c hx hb hd rfl (k ls hl)
  case ineg =>
    obtain ⟨w, hw, hq⟩ := Option.map_eq_some_iff.mp hp
    cases hq
    obtain ⟨a, r, rfl, rfl⟩ := cz_una_inv hw
    exact lv_ineg hx hb hd (k ls hl)
  case ladd =>
    obtain ⟨w, hw, hq⟩ := Option.map_eq_some_iff.mp hp
    cases hq
    obtain ⟨a, b, r, rfl, rfl⟩ := cz_lbin_inv hw
    exact lv_ladd hx hb hd (k ls hl)
  case lsub =>
    obtain ⟨w, hw, hq⟩ := Option.map_eq_some_iff.mp hp
    cases hq
    obtain ⟨a, b, r, rfl, rfl⟩ := cz_lbin_inv hw
    exact lv_lsub hx hb hd (k ls hl)
  case lmul =>
    obtain ⟨w, hw, hq⟩ := Option.map_eq_some_iff.mp hp
    cases hq
    obtain ⟨a, b, r, rfl, rfl⟩ := cz_lbin_inv hw
    exact lv_lmul hx hb hd (k ls hl)
  case land =>
    obtain ⟨w, hw, hq⟩ := Option.map_eq_some_iff.mp hp
    cases hq
    obtain ⟨a, b, r, rfl, rfl⟩ := cz_lbin_inv hw
    exact lv_land hx hb hd (k ls hl)
  case lor =>
    obtain ⟨w, hw, hq⟩ := Option.map_eq_some_iff.mp hp
    cases hq
    obtain ⟨a, b, r, rfl, rfl⟩ := cz_lbin_inv hw
    exact lv_lor hx hb hd (k ls hl)
  case lxor =>
    obtain ⟨w, hw, hq⟩ := Option.map_eq_some_iff.mp hp
    cases hq
    obtain ⟨a, b, r, rfl, rfl⟩ := cz_lbin_inv hw
    exact lv_lxor hx hb hd (k ls hl)
  case lshl =>
    obtain ⟨w, hw, hq⟩ := Option.map_eq_some_iff.mp hp
    cases hq
    obtain ⟨a, b, r, rfl, rfl⟩ := cz_lsh_inv hw
    exact lv_lshl hx hb hd rfl (k ls hl)
  case lushr =>
    obtain ⟨w, hw, hq⟩ := Option.map_eq_some_iff.mp hp
    cases hq
    obtain ⟨a, b, r, rfl, rfl⟩ := cz_lsh_inv hw
    exact lv_lushr hx hb hd rfl (k ls hl)
  case idiv =>
    simp only [cz_pure] at hp
    split at hp
    · rename_i b a r
      cases hn : decide (b = 0) with
      | true => rw [hn] at hp; cases hp
      | false =>
        rw [hn] at hp
        cases hp
        exact lv_idiv hx hb hd (of_decide_eq_false hn) (k ls hl)
    · cases hp
  case irem =>
    simp only [cz_pure] at hp
    split at hp
    · rename_i b a r
      cases hn : decide (b = 0) with
      | true => rw [hn] at hp; cases hp
      | false =>
        rw [hn] at hp
        cases hp
        exact lv_irem hx hb hd (of_decide_eq_false hn) (k ls hl)
    · cases hp
  case i2l =>
    simp only [cz_pure] at hp
    split at hp
    · cases hp
      exact lv_i2l hx hb hd rfl (k ls hl)
    · cases hp
  case l2i =>
    simp only [cz_pure] at hp
    split at hp
    · cases hp
      exact lv_l2i hx hb hd rfl (k ls hl)
    · cases hp
  case lcmp =>
    simp only [cz_pure] at hp
    split at hp
    · cases hp
      exact W.lcmp hx hb hd (k ls hl)
    · cases hp
  case dup =>
    simp only [cz_pure] at hp
    split at hp
    · rename_i v r
      cases hn : cz_lg v with
      | true => rw [hn] at hp; cases hp
      | false =>
        rw [hn] at hp
        cases hp
        exact lv_dup hx hb hd (cz_cat1 hn) (k ls hl)
    · cases hp
  case pop =>
    simp only [cz_pure] at hp
    split at hp
    · rename_i v r
      cases hn : cz_lg v with
      | true => rw [hn] at hp; cases hp
      | false =>
        rw [hn] at hp
        cases hp
        exact lv_pop hx hb hd (cz_cat1 hn) (k ls hl)
    · cases hp
  case dup2 =>
    simp only [cz_pure] at hp
    split at hp
    · rename_i v w r
      cases hn : cz_lg v || cz_lg w with
      | true => rw [hn] at hp; cases hp
      | false =>
        rw [hn] at hp
        cases hp
        simp only [Bool.or_eq_false_iff] at hn
        exact lv_dup2_11 hx hb hd (cz_cat1 hn.1) (cz_cat1 hn.2) (k ls hl)
    · cases hp
  case dup_x1 =>
    simp only [cz_pure] at hp
    split at hp
    · rename_i v w r
      cases hn : cz_lg v || cz_lg w with
      | true => rw [hn] at hp; cases hp
      | false =>
        rw [hn] at hp
        cases hp
        simp only [Bool.or_eq_false_iff] at hn
        exact lv_dup_x1 hx hb hd (cz_cat1 hn.1) (cz_cat1 hn.2) (k ls hl)
    · cases hp
  all_goals (exact absurd hp (by simp [cz_pure]))
end CzPure
