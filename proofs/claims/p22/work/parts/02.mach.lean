/-! A machine of plain values, part 1: the values, and instructions that touch the frame alone. (Written by wip/p2/mk02.py.) -/
abbrev cz_V : Type := Int32 ⊕ (Int64 ⊕ Option Nat)
/-- addresses of what was there before (places below 192); the first address of what was made since -/
abbrev cz_E : Type := (Nat → Nat) × Nat
def cz_ad (E : cz_E) (r : Nat) : Nat := if r < 192 then E.1 r else E.2 + (r - 192)
def cz_v (E : cz_E) (v : cz_V) : Value := match v with
  | .inl a => .int a
  | .inr (.inl a) => .long a
  | .inr (.inr none) => .null
  | .inr (.inr (some r)) => .ref (cz_ad E r)
noncomputable def cz_find (j : Nat) (l : List (Nat × cz_V)) : Option cz_V := List.rec none (fun q _ ih => bif Nat.beq q.1 j then some q.2 else ih) l
noncomputable def cz_fil {α : Type} (f : α → Bool) (l : List α) : List α := List.rec [] (fun q _ ih => bif f q then q :: ih else ih) l
theorem cz_fil_eq {α : Type} (f : α → Bool) (l : List α) : cz_fil f l = l.filter f := by
  induction l with
  | nil => rfl
  | cons a r ih =>
    rw [List.filter_cons]
    show (bif f a then a :: cz_fil f r else cz_fil f r) = _
    rw [ih]
    cases f a <;> rfl
noncomputable def cz_isI (v : cz_V) : Bool := match v with | .inl _ => true | _ => false
noncomputable def cz_lg (v : cz_V) : Bool := match v with | .inr (.inl _) => true | _ => false
noncomputable def cz_isR (v : cz_V) : Bool := match v with | .inr (.inr _) => true | _ => false
noncomputable def cz_lc (E : cz_E) (L : List (Nat × cz_V)) : List (Nat × Value) := L.map (fun q => (q.1, cz_v E q.2))
noncomputable def cz_sto (L : List (Nat × cz_V)) (i : Nat) (v : cz_V) : List (Nat × cz_V) := (i, v) :: cz_fil (fun q => bif Nat.beq q.1 i then false else bif Nat.beq (Nat.succ q.1) i then !(cz_lg q.2) else true) L
noncomputable def cz_sto2 (L : List (Nat × cz_V)) (i : Nat) (v : cz_V) : List (Nat × cz_V) := (i, v) :: cz_fil (fun q => bif Nat.beq q.1 i then false else bif Nat.beq q.1 (Nat.succ i) then false else bif Nat.beq (Nat.succ q.1) i then !(cz_lg q.2) else true) L
theorem cz_cat (E : cz_E) (v : cz_V) : ((cz_v E v).category == 2) = cz_lg v := by
  obtain a | a | a := v
  · rfl
  · rfl
  · cases a <;> rfl
theorem cz_cat1 {E : cz_E} {v : cz_V} (h : cz_lg v = false) : (cz_v E v).category = 1 := by
  obtain a | a | a := v
  · rfl
  · cases h
  · cases a <;> rfl
theorem cz_sto_ok (E : cz_E) (L : List (Nat × cz_V)) (i : Nat) (v : cz_V) : (i, cz_v E v) :: (cz_lc E L).filter (fun q => !(q.1 == i) && !(q.1 + 1 == i && q.2.category == 2)) = cz_lc E (cz_sto L i v) := by
  simp only [cz_lc, cz_sto, List.map_cons, List.filter_map, cz_fil_eq]
  congr 2
  apply List.filter_congr
  intro q _
  simp only [Function.comp, cz_cat]
  rw [Bool.eq_iff_iff]
  by_cases h1 : q.1 = i
  · simp [h1]
  · have e1 : Nat.beq q.1 i = false := Bool.eq_false_iff.mpr (fun w => h1 (Nat.beq_eq.mp w))
    by_cases h2 : q.1 + 1 = i
    · have e2 : Nat.beq (Nat.succ q.1) i = true := Nat.beq_eq.mpr h2
      simp only [e1, e2, cond_false, cond_true]
      simp [h1, h2]
    · have e2 : Nat.beq (Nat.succ q.1) i = false := Bool.eq_false_iff.mpr (fun w => h2 (Nat.beq_eq.mp w))
      simp only [e1, e2, cond_false]
      simp [h1, h2]
theorem cz_sto2_ok (E : cz_E) (L : List (Nat × cz_V)) (i : Nat) (v : cz_V) : (i, cz_v E v) :: (cz_lc E L).filter (fun q => !(q.1 == i) && (!(q.1 == i + 1) && !(q.1 + 1 == i && q.2.category == 2))) = cz_lc E (cz_sto2 L i v) := by
  simp only [cz_lc, cz_sto2, List.map_cons, List.filter_map, cz_fil_eq]
  congr 2
  apply List.filter_congr
  intro q _
  simp only [Function.comp, cz_cat]
  rw [Bool.eq_iff_iff]
  by_cases h1 : q.1 = i
  · simp [h1]
  · have e1 : Nat.beq q.1 i = false := Bool.eq_false_iff.mpr (fun w => h1 (Nat.beq_eq.mp w))
    by_cases h3 : q.1 = i + 1
    · have e3 : Nat.beq q.1 (Nat.succ i) = true := Nat.beq_eq.mpr h3
      simp only [e1, e3, cond_false, cond_true]
      simp [h3]
    · have e3 : Nat.beq q.1 (Nat.succ i) = false := Bool.eq_false_iff.mpr (fun w => h3 (Nat.beq_eq.mp w))
      by_cases h2 : q.1 + 1 = i
      · have e2 : Nat.beq (Nat.succ q.1) i = true := Nat.beq_eq.mpr h2
        simp only [e1, e2, e3, cond_false, cond_true]
        simp [h1, h2, h3]
      · have e2 : Nat.beq (Nat.succ q.1) i = false := Bool.eq_false_iff.mpr (fun w => h2 (Nat.beq_eq.mp w))
        simp only [e1, e2, e3, cond_false]
        simp [h1, h2, h3]
theorem cz_find_mem {j : Nat} {v : cz_V} : ∀ {L : List (Nat × cz_V)}, cz_find j L = some v → (j, v) ∈ L
  | [], h => by cases h
  | q :: r, h => by
    have h' : (bif Nat.beq q.1 j then some q.2 else cz_find j r) = some v := h
    cases hq : Nat.beq q.1 j with
    | true =>
      rw [hq] at h'
      have h1 : q.2 = v := Option.some.inj h'
      have h2 := Nat.eq_of_beq_eq_true hq
      rw [← h1, ← h2]
      exact List.mem_cons_self
    | false =>
      rw [hq] at h'
      exact List.mem_cons_of_mem _ (cz_find_mem h')
theorem cz_find_ok {E : cz_E} {ls : Array Slot} {nL j : Nat} {v : cz_V} {L : List (Nat × cz_V)} (h : lv_has ls nL (cz_lc E L)) (hf : cz_find j L = some v) : ls[j]? = some (.val (cz_v E v)) :=
  h.2.2 (j, cz_v E v) (List.mem_map.mpr ⟨(j, v), cz_find_mem hf, rfl⟩)
theorem cz_find_pos {E : cz_E} {j : Nat} {v : cz_V} {L : List (Nat × cz_V)} (hf : cz_find j L = some v) : ∃ k : Nat, (cz_lc E L)[k]? = some (j, cz_v E v) :=
  List.getElem?_of_mem (List.mem_map.mpr ⟨(j, v), cz_find_mem hf, rfl⟩)
noncomputable def cz_ld (L : List (Nat × cz_V)) (j : Nat) (kind : cz_V → Bool) : Option cz_V := match cz_find j L with
  | some v => bif kind v then some v else none
  | none => none
theorem cz_ld_inv {L : List (Nat × cz_V)} {j : Nat} {kind : cz_V → Bool} {v : cz_V} (h : cz_ld L j kind = some v) : cz_find j L = some v ∧ kind v = true := by
  unfold cz_ld at h
  split at h
  · rename_i w hw
    cases hk : kind w with
    | true => rw [hk] at h; simp only [cond_true, Option.some.injEq] at h; subst h; exact ⟨hw, hk⟩
    | false => rw [hk] at h; cases h
  · cases h
noncomputable def cz_bin (op : Int32 → Int32 → Int32) (st : List cz_V) : Option (List cz_V) := match st with
  | .inl b :: .inl a :: r => some (.inl (op a b) :: r)
  | _ => none
theorem cz_bin_inv {op : Int32 → Int32 → Int32} {st st' : List cz_V} (h : cz_bin op st = some st') : ∃ a b r, st = .inl b :: .inl a :: r ∧ st' = .inl (op a b) :: r := by
  unfold cz_bin at h
  split at h
  · rename_i b a r
    exact ⟨a, b, r, rfl, (Option.some.inj h).symm⟩
  · cases h
noncomputable def cz_una (op : Int32 → Int32) (st : List cz_V) : Option (List cz_V) := match st with
  | .inl a :: r => some (.inl (op a) :: r)
  | _ => none
theorem cz_una_inv {op : Int32 → Int32} {st st' : List cz_V} (h : cz_una op st = some st') : ∃ a r, st = .inl a :: r ∧ st' = .inl (op a) :: r := by
  unfold cz_una at h
  split at h
  · rename_i a r
    exact ⟨a, r, rfl, (Option.some.inj h).symm⟩
  · cases h
noncomputable def cz_lbin (op : Int64 → Int64 → Int64) (st : List cz_V) : Option (List cz_V) := match st with
  | .inr (.inl b) :: .inr (.inl a) :: r => some (.inr (.inl (op a b)) :: r)
  | _ => none
theorem cz_lbin_inv {op : Int64 → Int64 → Int64} {st st' : List cz_V} (h : cz_lbin op st = some st') : ∃ a b r, st = .inr (.inl b) :: .inr (.inl a) :: r ∧ st' = .inr (.inl (op a b)) :: r := by
  unfold cz_lbin at h
  split at h
  · rename_i b a r
    exact ⟨a, b, r, rfl, (Option.some.inj h).symm⟩
  · cases h
noncomputable def cz_lsh (op : Int64 → Int32 → Int64) (st : List cz_V) : Option (List cz_V) := match st with
  | .inl b :: .inr (.inl a) :: r => some (.inr (.inl (op a b)) :: r)
  | _ => none
theorem cz_lsh_inv {op : Int64 → Int32 → Int64} {st st' : List cz_V} (h : cz_lsh op st = some st') : ∃ a b r, st = .inl b :: .inr (.inl a) :: r ∧ st' = .inr (.inl (op a b)) :: r := by
  unfold cz_lsh at h
  split at h
  · rename_i b a r
    exact ⟨a, b, r, rfl, (Option.some.inj h).symm⟩
  · cases h
/-- the length of an instruction -/
noncomputable def cz_len (i : Instr) : Nat := match i with
  | .bipush _ | .iload _ | .lload _ | .aload _ | .istore _ | .lstore _ | .astore _ | .newarray _ | .ldc _ => 2
  | .sipush _ | .iinc _ _ | .goto _ | .ifCond _ _ | .if_icmp _ _ | .if_acmp _ _ | .ifnull _ | .ifnonnull _ | .getfield _ | .putfield _ | .getstatic _ | .putstatic _ | .new _ | .anewarray _ | .invokevirtual _ | .invokespecial _ | .invokestatic _ | .ldc_w _ | .ldc2_w _ | .checkcast _ | .instanceof _ => 3
  | .multianewarray _ _ => 4
  | _ => 1
noncomputable def cz_pure (i : Instr) (nL : Nat) (L : List (Nat × cz_V)) (st : List cz_V) : Option (List (Nat × cz_V) × List cz_V) := match i with
  | .iconst n => some (L, .inl (Int32.ofInt n) :: st)
  | .bipush n => some (L, .inl (Int8.ofInt n).toInt32 :: st)
  | .sipush n => some (L, .inl (Int16.ofInt n).toInt32 :: st)
  | .lconst n => some (L, .inr (.inl (Int64.ofInt (n.val : Nat))) :: st)
  | .aconst_null => some (L, .inr (.inr none) :: st)
  | .iload_n k => (cz_ld L k cz_isI).map (fun v => (L, v :: st))
  | .iload k => (cz_ld L k cz_isI).map (fun v => (L, v :: st))
  | .lload_n k => (cz_ld L k cz_lg).map (fun v => (L, v :: st))
  | .lload k => (cz_ld L k cz_lg).map (fun v => (L, v :: st))
  | .aload_n k => (cz_ld L k cz_isR).map (fun v => (L, v :: st))
  | .aload k => (cz_ld L k cz_isR).map (fun v => (L, v :: st))
  | .istore_n k => match st with
    | .inl a :: r => bif Nat.blt k nL then some (cz_sto L k (.inl a), r) else none
    | _ => none
  | .astore_n k => match st with
    | .inr (.inr a) :: r => bif Nat.blt k nL then some (cz_sto L k (.inr (.inr a)), r) else none
    | _ => none
  | .lstore_n k => match st with
    | .inr (.inl a) :: r => bif Nat.blt (k + 1) nL then some (cz_sto2 L k (.inr (.inl a)), r) else none
    | _ => none
  | .istore k => match st with
    | .inl a :: r => bif Nat.blt k nL then some (cz_sto L k (.inl a), r) else none
    | _ => none
  | .astore k => match st with
    | .inr (.inr a) :: r => bif Nat.blt k nL then some (cz_sto L k (.inr (.inr a)), r) else none
    | _ => none
  | .lstore k => match st with
    | .inr (.inl a) :: r => bif Nat.blt (k + 1) nL then some (cz_sto2 L k (.inr (.inl a)), r) else none
    | _ => none
  | .iinc k n => match cz_find k L with
    | some (.inl a) => bif Nat.blt k nL then some (cz_sto L k (.inl (a + Int32.ofInt n)), st) else none
    | _ => none
  | .iadd => (cz_bin (· + ·) st).map (fun s => (L, s))
  | .isub => (cz_bin (· - ·) st).map (fun s => (L, s))
  | .imul => (cz_bin (· * ·) st).map (fun s => (L, s))
  | .iand => (cz_bin (· &&& ·) st).map (fun s => (L, s))
  | .ior => (cz_bin (· ||| ·) st).map (fun s => (L, s))
  | .ixor => (cz_bin (· ^^^ ·) st).map (fun s => (L, s))
  | .ishl => (cz_bin (fun x y => x <<< (y &&& 31)) st).map (fun s => (L, s))
  | .ishr => (cz_bin (fun x y => x >>> (y &&& 31)) st).map (fun s => (L, s))
  | .iushr => (cz_bin (fun x y => (x.toUInt32 >>> (y.toUInt32 &&& Int32.toUInt32 31)).toInt32) st).map (fun s => (L, s))
  | .i2b => (cz_una (fun x => x.toInt8.toInt32) st).map (fun s => (L, s))
  | .i2c => (cz_una (fun x => (x.toUInt32 % 65536).toInt32) st).map (fun s => (L, s))
  | .ineg => (cz_una (fun x => -x) st).map (fun s => (L, s))
  | .ladd => (cz_lbin (· + ·) st).map (fun s => (L, s))
  | .lsub => (cz_lbin (· - ·) st).map (fun s => (L, s))
  | .lmul => (cz_lbin (· * ·) st).map (fun s => (L, s))
  | .land => (cz_lbin (· &&& ·) st).map (fun s => (L, s))
  | .lor => (cz_lbin (· ||| ·) st).map (fun s => (L, s))
  | .lxor => (cz_lbin (· ^^^ ·) st).map (fun s => (L, s))
  | .lshl => (cz_lsh (fun x y => x <<< (y.toInt64 &&& 63)) st).map (fun s => (L, s))
  | .lushr => (cz_lsh (fun x y => (x.toUInt64 >>> (y.toInt64.toUInt64 &&& Int64.toUInt64 63)).toInt64) st).map (fun s => (L, s))
  | .idiv => match st with
    | .inl b :: .inl a :: r => bif decide (b = 0) then none else some (L, .inl (a / b) :: r)
    | _ => none
  | .irem => match st with
    | .inl b :: .inl a :: r => bif decide (b = 0) then none else some (L, .inl (a - a / b * b) :: r)
    | _ => none
  | .i2l => match st with
    | .inl a :: r => some (L, .inr (.inl a.toInt64) :: r)
    | _ => none
  | .l2i => match st with
    | .inr (.inl a) :: r => some (L, .inl a.toInt32 :: r)
    | _ => none
  | .lcmp => match st with
    | .inr (.inl b) :: .inr (.inl a) :: r => some (L, .inl (lg_cmp a b) :: r)
    | _ => none
  | .dup => match st with
    | v :: r => bif cz_lg v then none else some (L, v :: v :: r)
    | _ => none
  | .pop => match st with
    | v :: r => bif cz_lg v then none else some (L, r)
    | _ => none
  | .dup2 => match st with
    | a :: b :: r => bif cz_lg a || cz_lg b then none else some (L, a :: b :: a :: b :: r)
    | _ => none
  | .dup_x1 => match st with
    | a :: b :: r => bif cz_lg a || cz_lg b then none else some (L, a :: b :: a :: r)
    | _ => none
  | _ => none
section CzPure
variable {p : Program} {l : Launch} {e : Env} {R : Room} {s : State} {m : MethodId} {args : Array Value} {below : List Frame} {meth : Method} {c : Code} {H : Heap} {locs : List Loc} {cells slots : Nat} {Q : State → Prop}
variable {cc : ByteArray} {pc nL : Nat} {ls : Array Slot} {E : cz_E} {L L' : List (Nat × cz_V)} {st st' : List cz_V}
set_option maxHeartbeats 4000000 in
theorem cz_pure_ok (hx : p.tables.exec = Jvm.exec) (hb : c.code = cc) {i : Instr} (hd : decode cc pc = .ok (i, cz_len i)) (hl : lv_has ls nL (cz_lc E L)) (hp : cz_pure i nL L st = some (L', st'))
    (k : ∀ ls' : Array Slot, lv_has ls' nL (cz_lc E L') → W p l e R s m args below meth c H locs cells slots Q (F0 m (pc + cz_len i) ls' (st'.map (cz_v E)))) : W p l e R s m args below meth c H locs cells slots Q (F0 m pc ls (st.map (cz_v E))) := by
  cases i
  case iconst n => cases hp; exact lv_iconst hx hb hd rfl (k ls hl)
  case bipush n => cases hp; exact lv_bipush hx hb hd rfl (k ls hl)
  case sipush n => cases hp; exact lv_sipush hx hb hd rfl (k ls hl)
  case lconst n => cases hp; exact lv_lconst hx hb hd rfl (k ls hl)
  case aconst_null => cases hp; exact lv_null hx hb hd (k ls hl)
  case iload_n j =>
    obtain ⟨v, hv, hq⟩ := Option.map_eq_some_iff.mp hp
    cases hq
    obtain ⟨hf, hk⟩ := cz_ld_inv hv
    obtain a | a | a := v
    · exact lv_iload_n hx hb hd rfl (cz_find_ok hl hf) (k ls hl)
    · cases hk
    · cases hk
  case iload j =>
    obtain ⟨v, hv, hq⟩ := Option.map_eq_some_iff.mp hp
    cases hq
    obtain ⟨hf, hk⟩ := cz_ld_inv hv
    obtain a | a | a := v
    · exact lv_iload hx hb hd (cz_find_ok hl hf) (k ls hl)
    · cases hk
    · cases hk
  case lload_n j =>
    obtain ⟨v, hv, hq⟩ := Option.map_eq_some_iff.mp hp
    cases hq
    obtain ⟨hf, hk⟩ := cz_ld_inv hv
    obtain a | a | a := v
    · cases hk
    · exact lv_lload_n hx hb hd rfl (cz_find_ok hl hf) (k ls hl)
    · cases hk
  case lload j =>
    obtain ⟨v, hv, hq⟩ := Option.map_eq_some_iff.mp hp
    cases hq
    obtain ⟨hf, hk⟩ := cz_ld_inv hv
    obtain a | a | a := v
    · cases hk
    · exact lv_lload hx hb hd (cz_find_ok hl hf) (k ls hl)
    · cases hk
  case aload_n j =>
    obtain ⟨v, hv, hq⟩ := Option.map_eq_some_iff.mp hp
    cases hq
    obtain ⟨hf, hk⟩ := cz_ld_inv hv
    obtain a | a | a := v
    · cases hk
    · cases hk
    · cases a with
      | none => exact lv_aload_nN hx hb hd rfl (cz_find_ok hl hf) (k ls hl)
      | some r => exact lv_aload_n hx hb hd rfl (cz_find_ok hl hf) (k ls hl)
  case aload j =>
    obtain ⟨v, hv, hq⟩ := Option.map_eq_some_iff.mp hp
    cases hq
    obtain ⟨hf, hk⟩ := cz_ld_inv hv
    obtain a | a | a := v
    · cases hk
    · cases hk
    · cases a with
      | none => exact lv_aloadN hx hb hd (cz_find_ok hl hf) (k ls hl)
      | some r => exact lv_aload hx hb hd (cz_find_ok hl hf) (k ls hl)
  case istore_n j =>
    simp only [cz_pure] at hp
    split at hp
    · rename_i a r
      cases hn : Nat.blt (j) nL with
      | false => rw [hn] at hp; cases hp
      | true =>
        rw [hn] at hp
        cases hp
        exact lv_istore_n hx hb hd rfl hl (Nat.blt_eq.mp hn) (cz_sto_ok E L j (.inl a)) k
    · cases hp
  case istore j =>
    simp only [cz_pure] at hp
    split at hp
    · rename_i a r
      cases hn : Nat.blt (j) nL with
      | false => rw [hn] at hp; cases hp
      | true =>
        rw [hn] at hp
        cases hp
        exact lv_istore hx hb hd hl (Nat.blt_eq.mp hn) (cz_sto_ok E L j (.inl a)) k
    · cases hp
  case astore_n j =>
    simp only [cz_pure] at hp
    split at hp
    · rename_i a r
      cases hn : Nat.blt (j) nL with
      | false => rw [hn] at hp; cases hp
      | true =>
        rw [hn] at hp
        cases hp
        cases a with
        | none => exact lv_astore_nN hx hb hd rfl hl (Nat.blt_eq.mp hn) (cz_sto_ok E L j (.inr (.inr none))) k
        | some a => exact lv_astore_n hx hb hd rfl hl (Nat.blt_eq.mp hn) (cz_sto_ok E L j (.inr (.inr (some a)))) k
    · cases hp
  case astore j =>
    simp only [cz_pure] at hp
    split at hp
    · rename_i a r
      cases hn : Nat.blt (j) nL with
      | false => rw [hn] at hp; cases hp
      | true =>
        rw [hn] at hp
        cases hp
        cases a with
        | none => exact lv_astoreN hx hb hd hl (Nat.blt_eq.mp hn) (cz_sto_ok E L j (.inr (.inr none))) k
        | some a => exact lv_astore hx hb hd hl (Nat.blt_eq.mp hn) (cz_sto_ok E L j (.inr (.inr (some a)))) k
    · cases hp
  case lstore_n j =>
    simp only [cz_pure] at hp
    split at hp
    · rename_i a r
      cases hn : Nat.blt (j + 1) nL with
      | false => rw [hn] at hp; cases hp
      | true =>
        rw [hn] at hp
        cases hp
        exact lv_lstore_n hx hb hd rfl hl (Nat.blt_eq.mp hn) (cz_sto2_ok E L j (.inr (.inl a))) k
    · cases hp
  case lstore j =>
    simp only [cz_pure] at hp
    split at hp
    · rename_i a r
      cases hn : Nat.blt (j + 1) nL with
      | false => rw [hn] at hp; cases hp
      | true =>
        rw [hn] at hp
        cases hp
        exact lv_lstore hx hb hd hl (Nat.blt_eq.mp hn) (cz_sto2_ok E L j (.inr (.inl a))) k
    · cases hp
  case iinc j n =>
    simp only [cz_pure] at hp
    split at hp
    · rename_i a hf
      cases hn : Nat.blt j nL with
      | false => rw [hn] at hp; cases hp
      | true =>
        rw [hn] at hp
        cases hp
        obtain ⟨kk, hkk⟩ := cz_find_pos (E := E) hf
        exact lv_iinc (v := a + Int32.ofInt n) hx hb hd hl hkk rfl (Nat.blt_eq.mp hn) (cz_sto_ok E L j (.inl (a + Int32.ofInt n))) k
    · cases hp
  case iadd =>
    obtain ⟨w, hw, hq⟩ := Option.map_eq_some_iff.mp hp
    cases hq
    obtain ⟨a, b, r, rfl, rfl⟩ := cz_bin_inv hw
    exact lv_iadd hx hb hd (k ls hl)
  case isub =>
    obtain ⟨w, hw, hq⟩ := Option.map_eq_some_iff.mp hp
    cases hq
    obtain ⟨a, b, r, rfl, rfl⟩ := cz_bin_inv hw
    exact lv_isub hx hb hd (k ls hl)
  case imul =>
    obtain ⟨w, hw, hq⟩ := Option.map_eq_some_iff.mp hp
    cases hq
    obtain ⟨a, b, r, rfl, rfl⟩ := cz_bin_inv hw
    exact lv_imul hx hb hd (k ls hl)
  case iand =>
    obtain ⟨w, hw, hq⟩ := Option.map_eq_some_iff.mp hp
    cases hq
    obtain ⟨a, b, r, rfl, rfl⟩ := cz_bin_inv hw
    exact lv_iand hx hb hd (k ls hl)
  case ior =>
    obtain ⟨w, hw, hq⟩ := Option.map_eq_some_iff.mp hp
    cases hq
    obtain ⟨a, b, r, rfl, rfl⟩ := cz_bin_inv hw
    exact lv_ior hx hb hd (k ls hl)
  case ixor =>
    obtain ⟨w, hw, hq⟩ := Option.map_eq_some_iff.mp hp
    cases hq
    obtain ⟨a, b, r, rfl, rfl⟩ := cz_bin_inv hw
    exact lv_ixor hx hb hd (k ls hl)
  case ishl =>
    obtain ⟨w, hw, hq⟩ := Option.map_eq_some_iff.mp hp
    cases hq
    obtain ⟨a, b, r, rfl, rfl⟩ := cz_bin_inv hw
    exact lv_ishl hx hb hd (k ls hl)
  case ishr =>
    obtain ⟨w, hw, hq⟩ := Option.map_eq_some_iff.mp hp
    cases hq
    obtain ⟨a, b, r, rfl, rfl⟩ := cz_bin_inv hw
    exact lv_ishr hx hb hd (k ls hl)
  case iushr =>
    obtain ⟨w, hw, hq⟩ := Option.map_eq_some_iff.mp hp
    cases hq
    obtain ⟨a, b, r, rfl, rfl⟩ := cz_bin_inv hw
    exact lv_iushr hx hb hd rfl (k ls hl)
  case i2b =>
    obtain ⟨w, hw, hq⟩ := Option.map_eq_some_iff.mp hp
    cases hq
    obtain ⟨a, r, rfl, rfl⟩ := cz_una_inv hw
    exact lv_i2b hx hb hd rfl (k ls hl)
  case i2c =>
    obtain ⟨w, hw, hq⟩ := Option.map_eq_some_iff.mp hp
    cases hq
    obtain ⟨a, r, rfl, rfl⟩ := cz_una_inv hw
    exact lv_i2c hx hb hd rfl (k ls hl)
  case ineg =>
    obtain ⟨w, hw, hq⟩ := Option.map_eq_some_iff.mp hp
    cases hq
    obtain ⟨a, r, rfl, rfl⟩ := cz_una_inv hw
    exact lv_ineg hx hb hd (k ls hl)
  case ladd =>
    obtain ⟨w, hw, hq⟩ := Option.map_eq_some_iff.mp hp
    cases hq
    obtain ⟨a, b, r, rfl, rfl⟩ := cz_lbin_inv hw
    exact lv_ladd hx hb hd (k ls hl)
  case lsub =>
    obtain ⟨w, hw, hq⟩ := Option.map_eq_some_iff.mp hp
    cases hq
    obtain ⟨a, b, r, rfl, rfl⟩ := cz_lbin_inv hw
    exact lv_lsub hx hb hd (k ls hl)
  case lmul =>
    obtain ⟨w, hw, hq⟩ := Option.map_eq_some_iff.mp hp
    cases hq
    obtain ⟨a, b, r, rfl, rfl⟩ := cz_lbin_inv hw
    exact lv_lmul hx hb hd (k ls hl)
  case land =>
    obtain ⟨w, hw, hq⟩ := Option.map_eq_some_iff.mp hp
    cases hq
    obtain ⟨a, b, r, rfl, rfl⟩ := cz_lbin_inv hw
    exact lv_land hx hb hd (k ls hl)
  case lor =>
    obtain ⟨w, hw, hq⟩ := Option.map_eq_some_iff.mp hp
    cases hq
    obtain ⟨a, b, r, rfl, rfl⟩ := cz_lbin_inv hw
    exact lv_lor hx hb hd (k ls hl)
  case lxor =>
    obtain ⟨w, hw, hq⟩ := Option.map_eq_some_iff.mp hp
    cases hq
    obtain ⟨a, b, r, rfl, rfl⟩ := cz_lbin_inv hw
    exact lv_lxor hx hb hd (k ls hl)
  case lshl =>
    obtain ⟨w, hw, hq⟩ := Option.map_eq_some_iff.mp hp
    cases hq
    obtain ⟨a, b, r, rfl, rfl⟩ := cz_lsh_inv hw
    exact lv_lshl hx hb hd rfl (k ls hl)
  case lushr =>
    obtain ⟨w, hw, hq⟩ := Option.map_eq_some_iff.mp hp
    cases hq
    obtain ⟨a, b, r, rfl, rfl⟩ := cz_lsh_inv hw
    exact lv_lushr hx hb hd rfl (k ls hl)
  case idiv =>
    simp only [cz_pure] at hp
    split at hp
    · rename_i b a r
      cases hn : decide (b = 0) with
      | true => rw [hn] at hp; cases hp
      | false =>
        rw [hn] at hp
        cases hp
        exact lv_idiv hx hb hd (of_decide_eq_false hn) (k ls hl)
    · cases hp
  case irem =>
    simp only [cz_pure] at hp
    split at hp
    · rename_i b a r
      cases hn : decide (b = 0) with
      | true => rw [hn] at hp; cases hp
      | false =>
        rw [hn] at hp
        cases hp
        exact lv_irem hx hb hd (of_decide_eq_false hn) (k ls hl)
    · cases hp
  case i2l =>
    simp only [cz_pure] at hp
    split at hp
    · cases hp
      exact lv_i2l hx hb hd rfl (k ls hl)
    · cases hp
  case l2i =>
    simp only [cz_pure] at hp
    split at hp
    · cases hp
      exact lv_l2i hx hb hd rfl (k ls hl)
    · cases hp
  case lcmp =>
    simp only [cz_pure] at hp
    split at hp
    · cases hp
      exact W.lcmp hx hb hd (k ls hl)
    · cases hp
  case dup =>
    simp only [cz_pure] at hp
    split at hp
    · rename_i v r
      cases hn : cz_lg v with
      | true => rw [hn] at hp; cases hp
      | false =>
        rw [hn] at hp
        cases hp
        exact lv_dup hx hb hd (cz_cat1 hn) (k ls hl)
    · cases hp
  case pop =>
    simp only [cz_pure] at hp
    split at hp
    · rename_i v r
      cases hn : cz_lg v with
      | true => rw [hn] at hp; cases hp
      | false =>
        rw [hn] at hp
        cases hp
        exact lv_pop hx hb hd (cz_cat1 hn) (k ls hl)
    · cases hp
  case dup2 =>
    simp only [cz_pure] at hp
    split at hp
    · rename_i v w r
      cases hn : cz_lg v || cz_lg w with
      | true => rw [hn] at hp; cases hp
      | false =>
        rw [hn] at hp
        cases hp
        simp only [Bool.or_eq_false_iff] at hn
        exact lv_dup2_11 hx hb hd (cz_cat1 hn.1) (cz_cat1 hn.2) (k ls hl)
    · cases hp
  case dup_x1 =>
    simp only [cz_pure] at hp
    split at hp
    · rename_i v w r
      cases hn : cz_lg v || cz_lg w with
      | true => rw [hn] at hp; cases hp
      | false =>
        rw [hn] at hp
        cases hp
        simp only [Bool.or_eq_false_iff] at hn
        exact lv_dup_x1 hx hb hd (cz_cat1 hn.1) (cz_cat1 hn.2) (k ls hl)
    · cases hp
  all_goals (exact absurd hp (by simp [cz_pure]))
end CzPure
/-! A machine of plain values, part 2: branches and switches. -/
noncomputable def cz_to (pc : Nat) (off : Int) : Option Nat := bif decide (0 ≤ (pc : Int) + off) then some ((pc : Int) + off).toNat else none
theorem cz_to_ok {pc : Nat} {off : Int} {t : Nat} (h : cz_to pc off = some t) : (pc : Int) + off = (t : Int) := by
  unfold cz_to at h
  by_cases q : 0 ≤ (pc : Int) + off
  · rw [decide_eq_true q] at h
    have h1 : ((pc : Int) + off).toNat = t := Option.some.inj h
    omega
  · rw [decide_eq_false q] at h
    cases h
noncomputable def cz_cd (c : ClassFile.Cond) (a b : Int32) : Bool := match c with
  | .eq => decide (a = b)
  | .ne => !decide (a = b)
  | .lt => decide (a < b)
  | .ge => decide (b ≤ a)
  | .gt => decide (b < a)
  | .le => decide (a ≤ b)
/-- are two references one: told of made cells and null alone -/
noncomputable def cz_same (a b : Option Nat) : Option Bool := match a, b with
  | none, none => some true
  | none, some r => some false
  | some r, none => some false
  | some r, some q => bif Nat.ble 192 r && Nat.ble 192 q then some (Nat.beq r q) else none
noncomputable def cz_tab (dflt lo hi : Int) (offs : Array Int) (n : Int) : Option Int := bif decide (n < lo) || decide (hi < n) then some dflt else offs[(n - lo).toNat]?
noncomputable def cz_lookup (dflt : Int) (ps : Array (Int × Int)) (n : Int) : Option Int := bif (ps.toList.zip (ps.toList.drop 1)).all (fun (a, next) => a.1 < next.1) then some (Op.lookupswitch.offset ps.toList dflt n) else none
noncomputable def cz_br (i : Instr) (pc : Nat) (st : List cz_V) : Option (Nat × List cz_V) := match i with
  | .ifCond cd off => match st with
    | .inl a :: r => match cz_to pc off with
      | some t => some (bif cz_cd cd a 0 then t else pc + 3, r)
      | none => none
    | _ => none
  | .if_icmp cd off => match st with
    | .inl b :: .inl a :: r => match cz_to pc off with
      | some t => some (bif cz_cd cd a b then t else pc + 3, r)
      | none => none
    | _ => none
  | .if_acmp eq off => match st with
    | .inr (.inr b) :: .inr (.inr a) :: r => match cz_to pc off, cz_same a b with
      | some t, some y => match eq with
        | .eq => some (bif y then t else pc + 3, r)
        | .ne => some (bif y then pc + 3 else t, r)
      | _, _ => none
    | _ => none
  | .goto off => match cz_to pc off with
    | some t => some (t, st)
    | none => none
  | .ifnull off => match st with
    | .inr (.inr none) :: r => match cz_to pc off with
      | some t => some (t, r)
      | none => none
    | .inr (.inr (some _)) :: r => some (pc + 3, r)
    | _ => none
  | .ifnonnull off => match st with
    | .inr (.inr (some _)) :: r => match cz_to pc off with
      | some t => some (t, r)
      | none => none
    | .inr (.inr none) :: r => some (pc + 3, r)
    | _ => none
  | .tableswitch dflt lo hi offs => match st with
    | .inl a :: r => match cz_tab dflt lo hi offs a.toInt with
      | some off => match cz_to pc off with
        | some t => some (t, r)
        | none => none
      | none => none
    | _ => none
  | .lookupswitch dflt ps => match st with
    | .inl a :: r => match cz_lookup dflt ps a.toInt with
      | some off => match cz_to pc off with
        | some t => some (t, r)
        | none => none
      | none => none
    | _ => none
  | _ => none
theorem cz_ad_inj (E : cz_E) {r q : Nat} (h : 192 ≤ r) (h1 : 192 ≤ q) (e : cz_ad E r = cz_ad E q) : r = q := by
  unfold cz_ad at e
  rw [if_neg (by omega), if_neg (by omega)] at e
  omega
theorem cz_rf (E : cz_E) (a : Option Nat) : cz_v E (.inr (.inr a)) = va_rf (a.map (cz_ad E)) := by
  cases a <;> rfl
theorem cz_same_ok (E : cz_E) {a b : Option Nat} {y : Bool} (h : cz_same a b = some y) : (y = true ↔ a.map (cz_ad E) = b.map (cz_ad E)) := by
  cases a with
  | none => cases b with
    | none => cases h; simp
    | some r => cases h; simp
  | some r => cases b with
    | none => cases h; simp
    | some q =>
      cases hn : (Nat.ble 192 r && Nat.ble 192 q) with
      | false => simp only [cz_same, hn, cond_false] at h; cases h
      | true =>
        simp only [cz_same, hn, cond_true, Option.some.injEq] at h
        simp only [Bool.and_eq_true, Nat.ble_eq] at hn
        subst h
        rw [Nat.beq_eq]
        constructor
        · intro w; rw [w]
        · intro w; exact cz_ad_inj E hn.1 hn.2 (Option.some.inj w)
section CzBr
variable {p : Program} {l : Launch} {e : Env} {R : Room} {s : State} {m : MethodId} {args : Array Value} {below : List Frame} {meth : Method} {c : Code} {H : Heap} {locs : List Loc} {cells slots : Nat} {Q : State → Prop}
variable {cc : ByteArray} {pc pc' : Nat} {ls : Array Slot} {E : cz_E} {st st' : List cz_V}
set_option maxHeartbeats 4000000 in
theorem cz_br_ok (hx : p.tables.exec = Jvm.exec) (hb : c.code = cc) {i : Instr} {len : Nat} (hd : decode cc pc = .ok (i, len)) (hlen : cz_len i = len ∨ (∃ a b c d, i = .tableswitch a b c d) ∨ ∃ a b, i = .lookupswitch a b) (hp : cz_br i pc st = some (pc', st'))
    (k : W p l e R s m args below meth c H locs cells slots Q (F0 m pc' ls (st'.map (cz_v E)))) : W p l e R s m args below meth c H locs cells slots Q (F0 m pc ls (st.map (cz_v E))) := by
  cases i
  case ifCond cd off =>
    have hlen : (3 : Nat) = len := by rcases hlen with h | ⟨_, _, _, _, h⟩ | ⟨_, _, h⟩ <;> first | exact h | cases h
    subst hlen
    simp only [cz_br] at hp
    split at hp
    · rename_i a r
      split at hp
      · rename_i t ht
        have ht := cz_to_ok ht
        cases cd
        · refine lv_if_eq hx hb hd ht (fun q => ?_) (fun q => ?_)
          · rw [show cz_cd .eq a 0 = true from decide_eq_true q] at hp; cases hp; exact k
          · rw [show cz_cd .eq a 0 = false from decide_eq_false q] at hp; cases hp; exact k
        · refine lv_if_ne hx hb hd ht (fun q => ?_) (fun q => ?_)
          · rw [show cz_cd .ne a 0 = true by show (!decide (a = 0)) = true; rw [decide_eq_false q]; rfl] at hp; cases hp; exact k
          · rw [show cz_cd .ne a 0 = false by show (!decide (a = 0)) = false; rw [decide_eq_true q]; rfl] at hp; cases hp; exact k
        · refine lv_if_lt hx hb hd ht (fun q => ?_) (fun q => ?_)
          · rw [show cz_cd .lt a 0 = true from decide_eq_true q] at hp; cases hp; exact k
          · rw [show cz_cd .lt a 0 = false from decide_eq_false q] at hp; cases hp; exact k
        · refine lv_if_ge hx hb hd ht (fun q => ?_) (fun q => ?_)
          · rw [show cz_cd .ge a 0 = true from decide_eq_true q] at hp; cases hp; exact k
          · rw [show cz_cd .ge a 0 = false from decide_eq_false q] at hp; cases hp; exact k
        · refine lv_if_gt hx hb hd ht (fun q => ?_) (fun q => ?_)
          · rw [show cz_cd .gt a 0 = true from decide_eq_true q] at hp; cases hp; exact k
          · rw [show cz_cd .gt a 0 = false from decide_eq_false q] at hp; cases hp; exact k
        · refine lv_if_le hx hb hd ht (fun q => ?_) (fun q => ?_)
          · rw [show cz_cd .le a 0 = true from decide_eq_true q] at hp; cases hp; exact k
          · rw [show cz_cd .le a 0 = false from decide_eq_false q] at hp; cases hp; exact k
      · cases hp
    · cases hp
  case if_icmp cd off =>
    have hlen : (3 : Nat) = len := by rcases hlen with h | ⟨_, _, _, _, h⟩ | ⟨_, _, h⟩ <;> first | exact h | cases h
    subst hlen
    simp only [cz_br] at hp
    split at hp
    · rename_i b a r
      split at hp
      · rename_i t ht
        have ht := cz_to_ok ht
        cases cd
        · refine lv_icmp_eq hx hb hd ht (fun q => ?_) (fun q => ?_)
          · rw [show cz_cd .eq a b = true from decide_eq_true q] at hp; cases hp; exact k
          · rw [show cz_cd .eq a b = false from decide_eq_false q] at hp; cases hp; exact k
        · refine lv_icmp_ne hx hb hd ht (fun q => ?_) (fun q => ?_)
          · rw [show cz_cd .ne a b = true by show (!decide (a = b)) = true; rw [decide_eq_false q]; rfl] at hp; cases hp; exact k
          · rw [show cz_cd .ne a b = false by show (!decide (a = b)) = false; rw [decide_eq_true q]; rfl] at hp; cases hp; exact k
        · refine lv_icmp_lt hx hb hd ht (fun q => ?_) (fun q => ?_)
          · rw [show cz_cd .lt a b = true from decide_eq_true q] at hp; cases hp; exact k
          · rw [show cz_cd .lt a b = false from decide_eq_false q] at hp; cases hp; exact k
        · refine lv_icmp_ge hx hb hd ht (fun q => ?_) (fun q => ?_)
          · rw [show cz_cd .ge a b = true from decide_eq_true q] at hp; cases hp; exact k
          · rw [show cz_cd .ge a b = false from decide_eq_false q] at hp; cases hp; exact k
        · refine lv_icmp_gt hx hb hd ht (fun q => ?_) (fun q => ?_)
          · rw [show cz_cd .gt a b = true from decide_eq_true q] at hp; cases hp; exact k
          · rw [show cz_cd .gt a b = false from decide_eq_false q] at hp; cases hp; exact k
        · refine lv_icmp_le hx hb hd ht (fun q => ?_) (fun q => ?_)
          · rw [show cz_cd .le a b = true from decide_eq_true q] at hp; cases hp; exact k
          · rw [show cz_cd .le a b = false from decide_eq_false q] at hp; cases hp; exact k
      · cases hp
    · cases hp
  case if_acmp eq off =>
    have hlen : (3 : Nat) = len := by rcases hlen with h | ⟨_, _, _, _, h⟩ | ⟨_, _, h⟩ <;> first | exact h | cases h
    subst hlen
    simp only [cz_br] at hp
    split at hp
    · rename_i b a r
      split at hp
      · rename_i t y ht hy
        have ht := cz_to_ok ht
        have hs := cz_same_ok E hy
        simp only [List.map_cons, cz_rf]
        cases eq
        · refine lv_acmp_eq hx hb hd ht (fun q => ?_) (fun q => ?_)
          · rw [hs.mpr q] at hp; cases hp; exact k
          · rw [Bool.eq_false_iff.mpr (fun w => q (hs.mp w))] at hp; cases hp; exact k
        · refine lv_acmp_ne hx hb hd ht (fun q => ?_) (fun q => ?_)
          · rw [Bool.eq_false_iff.mpr (fun w => q (hs.mp w))] at hp; cases hp; exact k
          · rw [hs.mpr q] at hp; cases hp; exact k
      · cases hp
    · cases hp
  case goto off =>
    have hlen : (3 : Nat) = len := by rcases hlen with h | ⟨_, _, _, _, h⟩ | ⟨_, _, h⟩ <;> first | exact h | cases h
    subst hlen
    simp only [cz_br] at hp
    split at hp
    · rename_i t ht
      cases hp
      exact lv_goto hx hb hd (cz_to_ok ht) k
    · cases hp
  case ifnull off =>
    have hlen : (3 : Nat) = len := by rcases hlen with h | ⟨_, _, _, _, h⟩ | ⟨_, _, h⟩ <;> first | exact h | cases h
    subst hlen
    simp only [cz_br] at hp
    split at hp
    · split at hp
      · rename_i t ht
        cases hp
        exact lv_ifnullN hx hb hd (cz_to_ok ht) k
      · cases hp
    · cases hp
      exact lv_ifnull hx hb hd k
    · cases hp
  case ifnonnull off =>
    have hlen : (3 : Nat) = len := by rcases hlen with h | ⟨_, _, _, _, h⟩ | ⟨_, _, h⟩ <;> first | exact h | cases h
    subst hlen
    simp only [cz_br] at hp
    split at hp
    · split at hp
      · rename_i t ht
        cases hp
        exact lv_ifnonnull hx hb hd (cz_to_ok ht) k
      · cases hp
    · cases hp
      exact lv_ifnonnullN hx hb hd k
    · cases hp
  case tableswitch dflt lo hi offs =>
    simp only [cz_br] at hp
    split at hp
    · rename_i a r
      split at hp
      · rename_i off h3
        split at hp
        · rename_i t h4
          cases hp
          have h4 := cz_to_ok h4
          unfold cz_tab at h3
          by_cases h7 : a.toInt < lo ∨ hi < a.toInt
          · rw [show (decide (a.toInt < lo) || decide (hi < a.toInt)) = true by simpa using h7] at h3
            simp only [cond_true, Option.some.injEq] at h3
            subst h3
            exact lv_tableOut hx hb hd h7 h4 k
          · rw [show (decide (a.toInt < lo) || decide (hi < a.toInt)) = false by rw [Bool.eq_false_iff]; intro q; simp only [Bool.or_eq_true, decide_eq_true_eq] at q; exact h7 q] at h3
            exact lv_tableIn hx hb hd (by omega) (by omega) h3 h4 k
        · cases hp
      · cases hp
    · cases hp
  case lookupswitch dflt ps =>
    simp only [cz_br] at hp
    split at hp
    · rename_i a r
      split at hp
      · rename_i off h3
        split at hp
        · rename_i t h4
          cases hp
          have h4 := cz_to_ok h4
          unfold cz_lookup at h3
          cases h7 : (ps.toList.zip (ps.toList.drop 1)).all (fun (a, next) => a.1 < next.1) with
          | false => rw [h7] at h3; cases h3
          | true =>
            rw [h7] at h3
            simp only [cond_true, Option.some.injEq] at h3
            exact lv_lookup hx hb hd h7 h3 h4 k
        · cases hp
      · cases hp
    · cases hp
  all_goals (exact absurd hp (by simp [cz_br]))
end CzBr
/-! A machine of plain values, part 3: cells. Places below 192 were there before (the script, strings and their bytes) and are never written; place r from 192 on is the address b + (r - 192). -/
/-- an array: the number of its type, length, what lies in it; an object: the number of its class, fields; an exception: its kind -/
abbrev cz_C : Type := (Nat × Nat × (Nat → cz_V)) ⊕ ((Nat × List cz_V) ⊕ Nat)
/-- the next place, how many slots were made, the cells -/
abbrev cz_H : Type := Nat × Nat × (Nat → cz_C)
/-- which places below 192 are there: the script, strings, their bytes -/
def cz_ext (r : Nat) : Bool := Nat.ble r 51 || (Nat.ble 64 r && Nat.ble r 114)
/-- classes, array classes, exceptions by their numbers; the heap at the law's start -/
abbrev cz_K : Type := va_G × (Nat → ClassId) × (Nat → ClassId) × Heap
noncomputable def cz_cell (cl : List vw_C) (K : cz_K) (E : cz_E) (c : cz_C) (a : Nat) (H : Heap) : Prop := match c with
  | .inl q => H[a]? = some (arrV (K.2.1 q.1) q.2.1 (fun j => cz_v E (q.2.2 j)))
  | .inr (.inl q) => va_at K.1 cl (a, .inr (q.1, q.2.map (cz_v E))) H
  | .inr (.inr k) => ∃ cell, H[a]? = some cell ∧ cell.cls = K.2.2.1 k ∧ cell.vm.isStatics = false
theorem cz_cell.kept {cl : List vw_C} {K : cz_K} {E : cz_E} {c : cz_C} {a : Nat} {H H1 : Heap} (h : cz_cell cl K E c a H) (hq : H1[a]? = H[a]?) : cz_cell cl K E c a H1 := by
  obtain q | q | k := c
  · exact hq.trans h
  · exact va_at.kept (q := (a, .inr (q.1, q.2.map (cz_v E)))) h hq
  · obtain ⟨cell, h1, h2⟩ := h
    exact ⟨cell, hq.trans h1, h2⟩
theorem cz_cell.lt {cl : List vw_C} {K : cz_K} {E : cz_E} {c : cz_C} {a : Nat} {H : Heap} (h : cz_cell cl K E c a H) : a < H.size := by
  obtain q | q | k := c
  · exact (Array.getElem?_eq_some_iff.mp h).1
  · exact va_at.lt (q := (a, .inr (q.1, q.2.map (cz_v E)))) h
  · obtain ⟨cell, h1, h2⟩ := h
    exact (Array.getElem?_eq_some_iff.mp h1).1
/-- a cell that was there before: what is known of it -/
noncomputable def cz_old (cl : List vw_C) (K : cz_K) (E : cz_E) (c : cz_C) (r : Nat) (H : Heap) : Prop := match c with
  | .inl q => ((r = 0 ∧ q.1 = 1) ∨ (64 ≤ r ∧ q.1 = 0)) ∧ ∃ cell, H[E.1 r]? = some cell ∧ cell.cls = K.2.1 (64 + r) ∧ cell.vm.isStatics = false ∧ cell.vm ≠ .unknown ∧ cell.slots.size = q.2.1 ∧ ∀ j, j < q.2.1 → cell.slots[j]? = some (cz_v E (q.2.2 j))
  | .inr (.inl q) => ∃ w : vw_C, cl[q.1]? = some w ∧ ∃ cell, H[E.1 r]? = some cell ∧ cell.cls = K.1.1 q.1 ∧ (cell.vm.isStatics = false ∧ cell.vm ≠ .unknown) ∧ ∀ k, k < w.2.2 → cell.slots[K.1.2 q.1 k]? = some (vp_V (q.2.map (cz_v E)) k)
  | .inr (.inr _) => False
theorem cz_old.kept {cl : List vw_C} {K : cz_K} {E : cz_E} {c : cz_C} {r : Nat} {H H1 : Heap} (h : cz_old cl K E c r H) (hq : H1[E.1 r]? = H[E.1 r]?) : cz_old cl K E c r H1 := by
  obtain q | q | k := c
  · obtain ⟨h0, cell, h1, h2⟩ := h
    exact ⟨h0, cell, hq.trans h1, h2⟩
  · obtain ⟨w, h0, cell, h1, h2⟩ := h
    exact ⟨w, h0, cell, hq.trans h1, h2⟩
  · exact h
theorem cz_old.lt {cl : List vw_C} {K : cz_K} {E : cz_E} {c : cz_C} {r : Nat} {H : Heap} (h : cz_old cl K E c r H) : E.1 r < H.size := by
  obtain q | q | k := c
  · obtain ⟨h0, cell, h1, h2⟩ := h
    exact (Array.getElem?_eq_some_iff.mp h1).1
  · obtain ⟨w, h0, cell, h1, h2⟩ := h
    exact (Array.getElem?_eq_some_iff.mp h1).1
  · exact h.elim
/-- the cell of a place -/
noncomputable def cz_celr (cl : List vw_C) (K : cz_K) (E : cz_E) (c : cz_C) (r : Nat) (H : Heap) : Prop := if 192 ≤ r then cz_cell cl K E c (cz_ad E r) H else cz_old cl K E c r H
theorem cz_celr.new {cl : List vw_C} {K : cz_K} {E : cz_E} {c : cz_C} {r : Nat} {H : Heap} (h : cz_celr cl K E c r H) (hr : 192 ≤ r) : cz_cell cl K E c (cz_ad E r) H := by
  unfold cz_celr at h
  rw [if_pos hr] at h
  exact h
theorem cz_celr.old {cl : List vw_C} {K : cz_K} {E : cz_E} {c : cz_C} {r : Nat} {H : Heap} (h : cz_celr cl K E c r H) (hr : ¬ 192 ≤ r) : cz_old cl K E c r H := by
  unfold cz_celr at h
  rw [if_neg hr] at h
  exact h
theorem cz_celr.kept {cl : List vw_C} {K : cz_K} {E : cz_E} {c : cz_C} {r : Nat} {H H1 : Heap} (h : cz_celr cl K E c r H) (hq : H1[cz_ad E r]? = H[cz_ad E r]?) : cz_celr cl K E c r H1 := by
  unfold cz_celr at h ⊢
  by_cases e : 192 ≤ r
  · rw [if_pos e] at h ⊢
    exact h.kept hq
  · rw [if_neg e] at h ⊢
    have : cz_ad E r = E.1 r := by unfold cz_ad; rw [if_pos (by omega)]
    rw [this] at hq
    exact h.kept hq
theorem cz_celr.lt {cl : List vw_C} {K : cz_K} {E : cz_E} {c : cz_C} {r : Nat} {H : Heap} (h : cz_celr cl K E c r H) : cz_ad E r < H.size := by
  unfold cz_celr at h
  by_cases e : 192 ≤ r
  · rw [if_pos e] at h
    exact h.lt
  · rw [if_neg e] at h
    have : cz_ad E r = E.1 r := by unfold cz_ad; rw [if_pos (by omega)]
    rw [this]
    exact h.lt
/-- a place that is there -/
def cz_here (h : cz_H) (r : Nat) : Prop := r < h.1 ∧ (192 ≤ r ∨ cz_ext r = true)
noncomputable def cz_HP (cl : List vw_C) (K : cz_K) (E : cz_E) (h : cz_H) (H : Heap) : Prop :=
  192 ≤ h.1 ∧ H.size = E.2 + (h.1 - 192) ∧ (∀ r, cz_here h r → cz_celr cl K E (h.2.2 r) r H) ∧ (∀ q, q < E.2 → H[q]? = K.2.2.2[q]?) ∧ ∀ r, r < 192 → cz_ext r = true → E.1 r < E.2
theorem cz_ad_new (E : cz_E) {r : Nat} (h : 192 ≤ r) : cz_ad E r = E.2 + (r - 192) := by
  unfold cz_ad
  rw [if_neg (by omega)]
theorem cz_ad_old (E : cz_E) {r : Nat} (h : r < 192) : cz_ad E r = E.1 r := by
  unfold cz_ad
  rw [if_pos h]
def cz_setc (h : cz_H) (r : Nat) (c : cz_C) : cz_H := (h.1, h.2.1, fun q => if q = r then c else h.2.2 q)
def cz_push (h : cz_H) (n : Nat) (c : cz_C) : cz_H := (h.1 + 1, h.2.1 + n, fun q => if q = h.1 then c else h.2.2 q)
theorem cz_HP.ne {cl : List vw_C} {K : cz_K} {E : cz_E} {h : cz_H} {H : Heap} (hP : cz_HP cl K E h H) {r q : Nat} (h1 : 192 ≤ r) (hq : cz_here h q) (hn : q ≠ r) : cz_ad E q ≠ cz_ad E r := by
  obtain ⟨a1, a3, a4, a5, a6⟩ := hP
  intro e
  by_cases h2 : 192 ≤ q
  · exact hn (cz_ad_inj E h2 h1 e)
  · have hk : cz_ext q = true := by rcases hq.2 with w | w; exact absurd w h2; exact w
    have := a6 q (by omega) hk
    rw [cz_ad_old E (by omega), cz_ad_new E h1] at e
    omega
theorem cz_HP.set {cl : List vw_C} {K : cz_K} {E : cz_E} {h : cz_H} {H H1 : Heap} (hP : cz_HP cl K E h H) {r : Nat} (h1 : 192 ≤ r) (h2 : r < h.1) {c : cz_C} (hc : cz_cell cl K E c (cz_ad E r) H1) (hz : H1.size = H.size) (ho : ∀ q, q ≠ cz_ad E r → H1[q]? = H[q]?) : cz_HP cl K E (cz_setc h r c) H1 := by
  have hne := fun q => hP.ne (q := q) h1
  obtain ⟨a1, a3, a4, a5, a6⟩ := hP
  refine ⟨a1, hz.trans a3, fun q hq => ?_, fun q hq => (ho q ?_).trans (a5 q hq), a6⟩
  · show cz_celr cl K E (if q = r then c else h.2.2 q) q H1
    by_cases e : q = r
    · rw [if_pos e, e]; unfold cz_celr; rw [if_pos h1]; exact hc
    · rw [if_neg e]
      exact (a4 q hq).kept (ho _ (hne q hq e))
  · rw [cz_ad_new E h1]; omega
theorem cz_HP.push {cl : List vw_C} {K : cz_K} {E : cz_E} {h : cz_H} {H H1 : Heap} (hP : cz_HP cl K E h H) (n : Nat) {c : cz_C} (hc : cz_cell cl K E c H.size H1) (hz : H1.size = H.size + 1) (ho : ∀ q, q < H.size → H1[q]? = H[q]?) : cz_HP cl K E (cz_push h n c) H1 ∧ H.size = cz_ad E h.1 := by
  obtain ⟨a1, a3, a4, a5, a6⟩ := hP
  have e0 : H.size = cz_ad E h.1 := by rw [a3, cz_ad_new E a1]
  refine ⟨⟨by show 192 ≤ h.1 + 1; omega, by show H1.size = _ + (h.1 + 1 - 192); omega, fun q hq => ?_, fun q hq => (ho q (by omega)).trans (a5 q hq), a6⟩, e0⟩
  have hq2 : q < h.1 + 1 := hq.1
  show cz_celr cl K E (if q = h.1 then c else h.2.2 q) q H1
  by_cases e : q = h.1
  · rw [if_pos e, e]; unfold cz_celr; rw [if_pos a1, ← e0]; exact hc
  · rw [if_neg e]
    have h5 := a4 q ⟨by omega, hq.2⟩
    exact h5.kept (ho _ h5.lt)
/-! A machine of plain values, part 4: the run itself. A method: name; bytes, locals, result, handlers; its instructions by rows of sixteen bytes; what its pool's entries mean (index, kind, three numbers). -/
abbrev cz_M : Type := MethodName × (ByteArray × Nat × Option FieldType × List (Nat × Nat × Nat × Nat)) × List (List (Nat × Instr × Nat)) × List (Nat × Nat × Nat × Nat × Nat)
/-- methods; the kinds of the fields, class by class; of array types the kind of the elements and the class that they are of -/
abbrev cz_P : Type := List cz_M × List (List Nat) × List (Nat × Nat)
noncomputable def cz_cf (pc : Nat) (l : List (Nat × Instr × Nat)) : Option (Instr × Nat) := List.rec none (fun q _ ih => bif Nat.beq q.1 pc then some q.2 else ih) l
def cz_code (M : cz_M) (pc : Nat) : Option (Instr × Nat) := match M.2.2.1[pc / 16]? with
  | some row => (row.find? (fun q => Nat.beq q.1 pc)).map (fun q => q.2)
  | none => none
def cz_lk (M : cz_M) (idx : Nat) : Option (Nat × Nat × Nat × Nat) := (M.2.2.2.find? (fun q => Nat.beq q.1 idx)).map (fun q => q.2)
/-- where one goes on: pc, stack, cells -/
abbrev cz_N : Type := Nat × List cz_V × cz_H
def cz_room (h : cz_H) (k n : Nat) : Bool := Nat.ble (h.1 + k) 600192 && Nat.ble (h.2.1 + n) 7302232
def cz_hereB (h : cz_H) (r : Nat) : Bool := Nat.blt r h.1 && (Nat.ble 192 r || cz_ext r)
def cz_obj (h : cz_H) (r : Nat) : Option (Nat × List cz_V) := bif cz_hereB h r then (match h.2.2 r with
  | .inr (.inl q) => some q
  | _ => none) else none
def cz_arr (h : cz_H) (r : Nat) : Option (Nat × Nat × (Nat → cz_V)) := bif cz_hereB h r then (match h.2.2 r with
  | .inl q => bif Nat.blt q.1 11 then some q else none
  | _ => none) else none
def cz_exc (h : cz_H) (r : Nat) : Option Nat := bif cz_hereB h r then (match h.2.2 r with
  | .inr (.inr k) => bif Nat.blt k 5 then some k else none
  | _ => none) else none
def cz_fitc (c : Nat) (v : cz_V) : Bool := match c, v with
  | 0, .inl _ => true
  | 1, .inl n => decide (n = 0) || decide (n = 1)
  | 2, .inr (.inl _) => true
  | 3, .inr (.inr _) => true
  | 4, .inl n => decide (n.toInt8.toInt32 = n)
  | _, _ => false
def cz_dflt (c : Nat) : cz_V := match c with
  | 2 => .inr (.inl 0)
  | 3 => .inr (.inr none)
  | _ => .inl 0
def cz_atn (t : ArrayType) : Option Nat := match t with
  | .byte => some 0
  | .int => some 1
  | .long => some 2
  | .boolean => some 3
  | _ => none
/-- an index within a length -/
def cz_ix (a : Int32) (n : Nat) : Bool := decide (0 ≤ a.toInt) && Nat.blt a.toInt.toNat n
def cz_aload (pc : Nat) (r : List cz_V) (h : cz_H) (a : Int32) (q : Nat) (ok : Nat → Bool) : Option cz_N := match cz_arr h q with
  | some c => bif cz_ix a c.2.1 && ok c.1 then some (pc + 1, c.2.2 a.toInt.toNat :: r, h) else none
  | none => none
def cz_astore (pc : Nat) (r : List cz_V) (h : cz_H) (a : Int32) (q : Nat) (v : cz_V) (ok : Nat → Bool) : Option cz_N := match cz_arr h q with
  | some c => bif Nat.ble 192 q && cz_ix a c.2.1 && ok c.1 then some (pc + 1, r, cz_setc h q (.inl (c.1, c.2.1, fun j => if j = a.toInt.toNat then v else c.2.2 j))) else none
  | none => none
/-- what may lie in an array of references: an object of its class -/
def cz_elem (P : cz_P) (h : cz_H) (v : Option Nat) (t : Nat) : Bool := match v with
  | none => false
  | some v => match P.2.2[t]? with
    | some k => (match cz_obj h v with
      | some o => Nat.beq k.2 o.1
      | none => false)
    | none => false
def cz_hget (M : cz_M) (x pc : Nat) (st : List cz_V) (h : cz_H) : Option cz_N := match st with
  | .inr (.inr (some r)) :: rest => match cz_lk M x with
    | some q => bif Nat.ble q.1 1 then (match cz_obj h r with
      | some o => bif Nat.beq o.1 q.2.1 then (match o.2[q.2.2.1]? with
        | some v => some (pc + 3, v :: rest, h)
        | none => none) else none
      | none => none) else none
    | none => none
  | _ => none
def cz_hput (P : cz_P) (M : cz_M) (x pc : Nat) (st : List cz_V) (h : cz_H) : Option cz_N := match st with
  | v :: .inr (.inr (some r)) :: rest => match cz_lk M x with
    | some q => bif Nat.ble q.1 1 && Nat.beq q.2.2.2 1 && Nat.ble 192 r then (match cz_obj h r with
      | some o => (match P.2.1[q.2.1]? with
        | some ks => bif Nat.beq o.1 q.2.1 && (o.2[q.2.2.1]?).isSome then (match ks[q.2.2.1]? with
          | some k => bif cz_fitc k v then some (pc + 3, rest, cz_setc h r (.inr (.inl (o.1, o.2.set q.2.2.1 v)))) else none
          | none => none) else none
        | none => none)
      | none => none) else none
    | none => none
  | _ => none
def cz_hnew (P : cz_P) (M : cz_M) (x pc : Nat) (st : List cz_V) (h : cz_H) : Option cz_N := match cz_lk M x with
  | some q => bif Nat.beq q.1 8 then (match P.2.1[q.2.1]? with
    | some ks => bif cz_room h 1 ks.length then some (pc + 3, .inr (.inr (some h.1)) :: st, cz_push h ks.length (.inr (.inl (q.2.1, ks.map cz_dflt)))) else none
    | none => none) else none
  | none => none
def cz_hna (P : cz_P) (t : ArrayType) (pc : Nat) (st : List cz_V) (h : cz_H) : Option cz_N := match st with
  | .inl n :: rest => match cz_atn t with
    | some k => bif decide (0 ≤ n.toInt) && cz_room h 1 n.toInt.toNat && Nat.ble (n.toInt.toNat * 8) 536870912 then (match P.2.2[k]? with
      | some y => some (pc + 2, .inr (.inr (some h.1)) :: rest, cz_push h n.toInt.toNat (.inl (k, n.toInt.toNat, fun _ => cz_dflt y.1)))
      | none => none) else none
    | none => none
  | _ => none
def cz_hnq (M : cz_M) (x pc : Nat) (st : List cz_V) (h : cz_H) : Option cz_N := match st with
  | .inl n :: rest => match cz_lk M (x + 65536) with
    | some q => bif Nat.beq q.1 10 && (decide (0 ≤ n.toInt) && cz_room h 1 n.toInt.toNat && Nat.ble (n.toInt.toNat * 8) 536870912) then some (pc + 3, .inr (.inr (some h.1)) :: rest, cz_push h n.toInt.toNat (.inl (q.2.1, n.toInt.toNat, fun _ => .inr (.inr none)))) else none
    | none => none
  | _ => none
def cz_hlen (pc : Nat) (st : List cz_V) (h : cz_H) : Option cz_N := match st with
  | .inr (.inr (some r)) :: rest => match cz_arr h r with
    | some c => some (pc + 1, .inl (Int32.ofNat c.2.1) :: rest, h)
    | none => none
  | _ => none
def cz_hal (ok : Nat → Bool) (pc : Nat) (st : List cz_V) (h : cz_H) : Option cz_N := match st with
  | .inl a :: .inr (.inr (some r)) :: rest => cz_aload pc rest h a r ok
  | _ => none
def cz_hst (P : cz_P) (k : Nat) (pc : Nat) (st : List cz_V) (h : cz_H) : Option cz_N := match st with
  | v :: .inl a :: .inr (.inr (some r)) :: rest => (match k, v with
    | 1, .inl w => cz_astore pc rest h a r (.inl w) (fun t => Nat.beq t 1)
    | 0, .inl w => (match cz_arr h r with
      | some c => bif Nat.beq c.1 0 then cz_astore pc rest h a r (.inl w.toInt8.toInt32) (fun t => Nat.beq t 0) else bif decide (w = 0) || decide (w = 1) then cz_astore pc rest h a r (.inl w) (fun t => Nat.beq t 3) else none
      | none => none)
    | 2, .inr (.inl w) => cz_astore pc rest h a r (.inr (.inl w)) (fun t => Nat.beq t 2)
    | 3, .inr (.inr w) => cz_astore pc rest h a r (.inr (.inr w)) (cz_elem P h w)
    | _, _ => none)
  | _ => none
def cz_hldc (w : Nat) (M : cz_M) (x pc : Nat) (st : List cz_V) (h : cz_H) : Option cz_N := match cz_lk M x with
  | some q => bif Nat.beq q.1 11 then some (pc + w, .inl (Int32.ofInt ((q.2.1 : Int) - (q.2.2.1 : Int))) :: st, h) else bif Nat.beq q.1 12 then some (pc + w, .inr (.inr (some q.2.1)) :: st, h) else none
  | none => none
def cz_hldcw (M : cz_M) (x pc : Nat) (st : List cz_V) (h : cz_H) : Option cz_N := match cz_lk M x with
  | some q => bif Nat.beq q.1 11 then some (pc + 3, .inl (Int32.ofInt ((q.2.1 : Int) - (q.2.2.1 : Int))) :: st, h) else none
  | none => none
def cz_hldc2 (M : cz_M) (x pc : Nat) (st : List cz_V) (h : cz_H) : Option cz_N := match cz_lk M x with
  | some q => bif Nat.beq q.1 15 then some (pc + 3, .inr (.inl (Int64.ofInt ((q.2.1 : Int) - (q.2.2.1 : Int)))) :: st, h) else none
  | none => none
/-- a static of the JDK's whose number is given -/
def cz_hgs (M : cz_M) (x pc : Nat) (st : List cz_V) (h : cz_H) : Option cz_N := match cz_lk M x with
  | some q => bif Nat.beq q.1 16 then some (pc + 3, .inl (Int32.ofNat q.2.1) :: st, h) else none
  | none => none
def cz_hobj (M : cz_M) (d x pc : Nat) (st : List cz_V) (h : cz_H) : Option cz_N := match st with
  | .inr (.inr (some _)) :: rest => match cz_lk M x with
    | some q => bif Nat.beq q.1 6 && (Nat.blt 0 d && Nat.ble rest.length 20) then some (pc + 3, rest, h) else none
    | none => none
  | _ => none
/-- arrays of bytes or of ints, a piece of one into the other -/
def cz_hcpy (M : cz_M) (d x pc : Nat) (st : List cz_V) (h : cz_H) : Option cz_N := match st with
  | .inl n :: .inl dp :: .inr (.inr (some r2)) :: .inl sp :: .inr (.inr (some r1)) :: rest => match cz_lk M x with
    | some q => bif Nat.beq q.1 13 && (Nat.blt 0 d && Nat.ble rest.length 20) then (match cz_arr h r1, cz_arr h r2 with
      | some c1, some c2 => bif (Nat.beq c1.1 c2.1 && Nat.ble c1.1 1 && Nat.ble 192 r2) && (decide (0 ≤ n.toInt) && decide (0 ≤ dp.toInt) && decide (0 ≤ sp.toInt)) && (Nat.ble (sp.toNatClampNeg + n.toNatClampNeg) c1.2.1 && Nat.ble (dp.toNatClampNeg + n.toNatClampNeg) c2.2.1) && (List.range n.toNatClampNeg).all (fun i => cz_fitc (bif Nat.beq c1.1 0 then 4 else 0) (c1.2.2 (sp.toNatClampNeg + i))) then
          some (pc + 3, rest, cz_setc h r2 (.inl (c2.1, c2.2.1, va_cpy c1.2.2 c2.2.2 sp.toNatClampNeg dp.toNatClampNeg n.toNatClampNeg))) else none
      | _, _ => none) else none
    | none => none
  | _ => none
/-- String.checkIndex: an index that is below what it is held against -/
def cz_hci (M : cz_M) (d x pc : Nat) (st : List cz_V) (h : cz_H) : Option cz_N := match st with
  | .inl n :: .inl i :: rest => match cz_lk M x with
    | some q => bif ((Nat.beq q.1 18 && cz_room h 0 0) && (Nat.blt 1 d && Nat.ble rest.length 20)) && (decide (0 ≤ i.toInt) && decide (i.toInt < n.toInt)) then some (pc + 3, rest, h) else none
    | none => none
  | _ => none
/-- clone of an array of bytes -/
def cz_hcl (M : cz_M) (d x pc : Nat) (st : List cz_V) (h : cz_H) : Option cz_N := match st with
  | .inr (.inr (some r)) :: rest => match cz_lk M x with
    | some q => bif Nat.beq q.1 19 && (Nat.blt 0 d && Nat.ble rest.length 20) then (match cz_arr h r with
      | some c => bif (Nat.beq c.1 0 && Nat.ble 192 r) && cz_room h 1 c.2.1 && (List.range c.2.1).all (fun i => cz_fitc 4 (c.2.2 i)) then some (pc + 3, .inr (.inr (some h.1)) :: rest, cz_setc (cz_push h c.2.1 (.inl (0, c.2.1, fun _ => .inl 0))) h.1 (.inl (0, c.2.1, c.2.2))) else none
      | none => none) else none
    | none => none
  | _ => none
/-- a cast to an array of bytes -/
def cz_hcc (M : cz_M) (x pc : Nat) (st : List cz_V) (h : cz_H) : Option cz_N := match st with
  | .inr (.inr (some r)) :: rest => match cz_lk M x with
    | some q => bif Nat.beq q.1 17 then (match cz_arr h r with
      | some c => bif Nat.beq c.1 0 && Nat.ble 192 r then some (pc + 3, .inr (.inr (some r)) :: rest, h) else none
      | none => none) else none
    | none => none
  | _ => none
/-- rows of a grid: each row is made and laid into its place -/
def cz_gr (r : Nat) : List Nat → (Nat → cz_V) → cz_H → cz_H
  | [], _, h => h
  | i :: t, f, h => cz_gr r t (fun j => if j = i then .inr (.inr (some h.1)) else f j) (cz_setc (cz_push h 2000 (.inl (1, 2000, fun _ => .inl 0))) r (.inl (10, 8, fun j => if j = i then .inr (.inr (some h.1)) else f j)))
def cz_hmul (M : cz_M) (x y pc : Nat) (st : List cz_V) (h : cz_H) : Option cz_N := match st with
  | .inl k :: .inl n :: rest => match cz_lk M x with
    | some q => bif Nat.beq q.1 14 && Nat.beq y 2 && (decide (n = 8) && decide (k = 2000) && cz_room h 9 16008) then some (pc + 4, .inr (.inr (some h.1)) :: rest, cz_gr h.1 [0, 1, 2, 3, 4, 5, 6, 7] (fun _ => .inr (.inr none)) (cz_push h 8 (.inl (10, 8, fun _ => .inr (.inr none))))) else none
    | none => none
  | _ => none
def cz_hp (P : cz_P) (M : cz_M) (d pc : Nat) (st : List cz_V) (h : cz_H) (i : Instr) : Option cz_N := match i with
  | .getfield x => cz_hget M x pc st h
  | .putfield x => cz_hput P M x pc st h
  | .new x => cz_hnew P M x pc st h
  | .newarray t => cz_hna P t pc st h
  | .anewarray x => cz_hnq M x pc st h
  | .arraylength => cz_hlen pc st h
  | .iaload => cz_hal (fun t => Nat.beq t 1) pc st h
  | .baload => cz_hal (fun t => Nat.beq t 0 || Nat.beq t 3) pc st h
  | .laload => cz_hal (fun t => Nat.beq t 2) pc st h
  | .aaload => cz_hal (fun t => Nat.ble 4 t) pc st h
  | .iastore => cz_hst P 1 pc st h
  | .bastore => cz_hst P 0 pc st h
  | .lastore => cz_hst P 2 pc st h
  | .aastore => cz_hst P 3 pc st h
  | .ldc x => cz_hldc 2 M x pc st h
  | .ldc_w x => cz_hldc 3 M x pc st h
  | .ldc2_w x => cz_hldc2 M x pc st h
  | .getstatic x => cz_hgs M x pc st h
  | .invokespecial x => cz_hobj M d x pc st h
  | .invokestatic x => (match cz_hcpy M d x pc st h with
    | some q => some q
    | none => cz_hci M d x pc st h)
  | .invokevirtual x => cz_hcl M d x pc st h
  | .checkcast x => cz_hcc M x pc st h
  | .multianewarray x y => cz_hmul M x y pc st h
  | _ => none
/-- how a method ends: what it returned, or the exception's place; cells -/
abbrev cz_F : Type := (Option cz_V ⊕ Nat) × cz_H
def cz_cat2 (st : List cz_V) : Nat := (st.map (fun v => match v with | .inr (.inl _) => 2 | _ => 1)).sum
def cz_argl : Nat → List cz_V → List (Nat × cz_V)
  | _, [] => []
  | j, v :: r => (j, v) :: cz_argl (j + (match v with | .inr (.inl _) => 2 | _ => 1)) r
def cz_take : Nat → List cz_V → Option (List cz_V × List cz_V)
  | 0, st => some ([], st)
  | _ + 1, [] => none
  | n + 1, v :: r => match cz_take n r with
    | some q => some (v :: q.1, q.2)
    | none => none
/-- pairs of exceptions of which the first is none of the second -/
def cz_asn (k j : Nat) : Bool := ((Nat.beq j 1 && (Nat.beq k 0 || Nat.beq k 2 || Nat.beq k 3)) || (Nat.beq j 2 && (Nat.beq k 0 || Nat.beq k 3 || Nat.beq k 4))) || (Nat.beq j 3 && Nat.beq k 0)
/-- the row that catches: kinds by the pool's entries of the rows; none where it goes on outward -/
def cz_catch (M : cz_M) (pc k : Nat) : List (Nat × Nat × Nat × Nat) → Option (Option Nat)
  | [] => some none
  | q :: r => bif Nat.ble q.1 pc && Nat.blt pc q.2.1 then (match cz_lk M q.2.2.2 with
    | some w => bif Nat.beq w.1 9 then (bif Nat.beq w.2.1 k && Nat.ble k 4 then some (some q.2.2.1) else bif cz_asn k w.2.1 then cz_catch M pc k r else none) else none
    | none => none) else cz_catch M pc k r
def cz_cS (x : Nat) (M : cz_M) (st : List cz_V) : Option (Nat × List cz_V × List cz_V) := match cz_lk M x with
  | some q => bif Nat.beq q.1 2 then (match cz_take q.2.2.1 st with
    | some w => some (q.2.1, w.1.reverse, w.2)
    | none => none) else none
  | none => none
def cz_cV (x : Nat) (M : cz_M) (st : List cz_V) (h : cz_H) : Option (Nat × List cz_V × List cz_V) := match cz_lk M x with
  | some q => bif Nat.beq q.1 3 then (match cz_take q.2.2.1 st with
    | some w => (match w.2 with
      | .inr (.inr (some r)) :: rest => (match cz_obj h r with
        | some o => bif Nat.beq o.1 q.2.2.2 then some (q.2.1, .inr (.inr (some r)) :: w.1.reverse, rest) else none
        | none => none)
      | _ => none)
    | none => none) else none
  | none => none
def cz_cI (x : Nat) (M : cz_M) (st : List cz_V) : Option (Nat × List cz_V × List cz_V) := match cz_lk M x with
  | some q => bif Nat.beq q.1 4 || Nat.beq q.1 5 then (match cz_take q.2.2.1 st with
    | some w => (match w.2 with
      | .inr (.inr (some r)) :: rest => some (q.2.1, .inr (.inr (some r)) :: w.1.reverse, rest)
      | _ => none)
    | none => none) else none
  | none => none
/-- a method of the class above, on a receiver of a class that is known -/
def cz_cU (x : Nat) (M : cz_M) (st : List cz_V) (h : cz_H) : Option (Nat × List cz_V × List cz_V) := match cz_lk M x with
  | some q => bif Nat.beq q.1 20 then (match cz_take q.2.2.1 st with
    | some w => (match w.2 with
      | .inr (.inr (some r)) :: rest => (match cz_obj h r with
        | some o => bif Nat.beq o.1 q.2.2.2 then some (q.2.1, .inr (.inr (some r)) :: w.1.reverse, rest) else none
        | none => none)
      | _ => none)
    | none => none) else none
  | none => none
/-- the call at an instruction: the callee's number, its arguments (the first one first), what stays -/
def cz_call (i : Instr) (M : cz_M) (st : List cz_V) (h : cz_H) : Option (Nat × List cz_V × List cz_V) := match i with
  | .invokestatic x => cz_cS x M st
  | .invokevirtual x => cz_cV x M st h
  | .invokespecial x => (match cz_cI x M st with
    | some v => some v
    | none => cz_cU x M st h)
  | _ => none
/-- new, dup, the constructor without arguments, athrow: the exception's kind -/
def cz_throw (M : cz_M) (pc : Nat) (i : Instr) : Option Nat := match i with
  | .new x => match cz_lk M x, cz_code M (pc + 3), cz_code M (pc + 4), cz_code M (pc + 7) with
    | some q, some (.dup, 1), some (.invokespecial y, 3), some (.athrow, 1) => (match cz_lk M y with
      | some w => bif Nat.beq q.1 9 && Nat.beq w.1 7 && Nat.beq q.2.1 w.2.1 && M.2.1.2.2.2.isEmpty then some q.2.1 else none
      | none => none)
    | _, _, _, _ => none
  | _ => none
def cz_ret (i : Instr) (t : Option FieldType) (st : List cz_V) : Option (Option cz_V) := match i, st with
  | .return_, [] => (match t with
    | none => some none
    | some _ => none)
  | .ireturn, [.inl a] => (match t with
    | some .int => some (some (.inl a))
    | some .boolean => bif decide (a = 0) || decide (a = 1) then some (some (.inl a)) else none
    | some .byte => bif decide (a.toInt8.toInt32 = a) then some (some (.inl a)) else none
    | some .char => bif decide (a.toUInt32.toUInt16.toUInt32.toInt32 = a) then some (some (.inl a)) else none
    | _ => none)
  | .lreturn, [.inr (.inl a)] => (match t with
    | some .long => some (some (.inr (.inl a)))
    | _ => none)
  | .areturn, [.inr (.inr a)] => (match t with
    | some (.object _) => some (some (.inr (.inr a)))
    | some (.array _) => some (some (.inr (.inr a)))
    | _ => none)
  | _, _ => none
/-- a switch has no length of its own -/
def cz_isw (i : Instr) : Bool := match i with
  | .tableswitch _ _ _ _ => true
  | .lookupswitch _ _ => true
  | _ => false
abbrev cz_Ih : Type := Nat → cz_M → Nat → List (Nat × cz_V) → List cz_V → cz_H → Option cz_F
/-- back from a callee -/
def cz_sK (ih : cz_Ih) (d : Nat) (M : cz_M) (pc : Nat) (L : List (Nat × cz_V)) (rest : List cz_V) (q : cz_F) : Option cz_F := match q.1 with
  | .inl none => ih d M (pc + 3) L rest q.2
  | .inl (some w) => ih d M (pc + 3) L (w :: rest) q.2
  | .inr r => match cz_exc q.2 r with
    | some k => (match cz_catch M pc k M.2.1.2.2.2 with
      | some (some t) => ih d M t L [.inr (.inr (some r))] q.2
      | some none => bif M.2.1.2.2.2.isEmpty then some q else none
      | none => none)
    | none => none
def cz_sC (P : cz_P) (ih : cz_Ih) (d : Nat) (M : cz_M) (pc : Nat) (L : List (Nat × cz_V)) (h : cz_H) (o : Option (Nat × List cz_V × List cz_V)) : Option cz_F := match o with
  | some (y, as, rest) => (match P.1[y]? with
    | some M' => bif (Nat.blt 0 d && cz_room h 0 0) && Nat.ble (cz_cat2 rest + (M'.2.1.2.1 + 11)) 100 && Nat.ble (cz_cat2 as) M'.2.1.2.1 then (match ih (d - 1) M' 0 (cz_argl 0 as) [] h with
      | some q => cz_sK ih d M pc L rest q
      | none => none) else none
    | none => none)
  | none => none
noncomputable def cz_s (P : cz_P) (ih : cz_Ih) (d : Nat) (M : cz_M) (pc : Nat) (L : List (Nat × cz_V)) (st : List cz_V) (h : cz_H) (i : Instr) (len : Nat) : Option cz_F :=
  match cz_pure i M.2.1.2.1 L st with
  | some q => bif Nat.beq len (cz_len i) then ih d M (pc + cz_len i) q.1 q.2 h else none
  | none => match cz_br i pc st with
    | some q => bif Nat.beq len (cz_len i) || cz_isw i then ih d M q.1 L q.2 h else none
    | none => bif Nat.beq len (cz_len i) then (match cz_ret i M.2.1.2.2.1 st with
      | some v => some (.inl v, h)
      | none => match cz_throw M pc i with
        | some k => bif cz_room h 1 6 && Nat.ble 6 d && Nat.ble (cz_cat2 st) 20 then some (.inr h.1, cz_push h 6 (.inr (.inr k))) else none
        | none => match cz_hp P M d pc st h i with
          | some q => ih d M q.1 L q.2.1 q.2.2
          | none => cz_sC P ih d M pc L h (cz_call i M st h)) else none
/-- the run: fuel, frames that may still be laid, method, pc, locals, stack, cells -/
noncomputable def cz_x (P : cz_P) : Nat → cz_Ih
  | 0, _, _, _, _, _, _ => none
  | n + 1, d, M, pc, L, st, h => match cz_code M pc with
    | some (i, len) => cz_s P (cz_x P n) d M pc L st h i len
    | none => none
