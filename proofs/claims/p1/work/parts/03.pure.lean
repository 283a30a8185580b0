/-! Symbolic runs, part 2: instructions that touch the frame alone. -/
noncomputable def px_find (j : Nat) (l : List (Nat × px_V)) : Option px_V := List.rec none (fun q _ ih => bif Nat.beq q.1 j then some q.2 else ih) l
noncomputable def px_fil {α : Type} (f : α → Bool) (l : List α) : List α := List.rec [] (fun q _ ih => bif f q then q :: ih else ih) l
theorem px_fil_eq {α : Type} (f : α → Bool) (l : List α) : px_fil f l = l.filter f := by
  induction l with
  | nil => rfl
  | cons a r ih =>
    rw [List.filter_cons]
    show (bif f a then a :: px_fil f r else px_fil f r) = _
    rw [ih]
    cases f a <;> rfl
noncomputable def px_isI (v : px_V) : Bool := match v with | .inl _ => true | _ => false
noncomputable def px_lg (v : px_V) : Bool := match v with | .inr (.inl _) => true | _ => false
noncomputable def px_isR (v : px_V) : Bool := match v with | .inr (.inr _) => true | _ => false
noncomputable def px_lc (E : px_E) (L : List (Nat × px_V)) : List (Nat × Value) := L.map (fun q => (q.1, px_v E q.2))
noncomputable def px_sto (L : List (Nat × px_V)) (i : Nat) (v : px_V) : List (Nat × px_V) := (i, v) :: px_fil (fun q => bif Nat.beq q.1 i then false else bif Nat.beq (Nat.succ q.1) i then !(px_lg q.2) else true) L
noncomputable def px_sto2 (L : List (Nat × px_V)) (i : Nat) (v : px_V) : List (Nat × px_V) := (i, v) :: px_fil (fun q => bif Nat.beq q.1 i then false else bif Nat.beq q.1 (Nat.succ i) then false else bif Nat.beq (Nat.succ q.1) i then !(px_lg q.2) else true) L
theorem px_cat (E : px_E) (v : px_V) : ((px_v E v).category == 2) = px_lg v := by
  obtain a | a | a := v
  · rfl
  · rfl
  · cases a <;> rfl
theorem px_cat1 {E : px_E} {v : px_V} (h : px_lg v = false) : (px_v E v).category = 1 := by
  obtain a | a | a := v
  · rfl
  · cases h
  · cases a <;> rfl
theorem px_sto_ok (E : px_E) (L : List (Nat × px_V)) (i : Nat) (v : px_V) : (i, px_v E v) :: (px_lc E L).filter (fun q => !(q.1 == i) && !(q.1 + 1 == i && q.2.category == 2)) = px_lc E (px_sto L i v) := by
  simp only [px_lc, px_sto, List.map_cons, List.filter_map, px_fil_eq]
  congr 2
  apply List.filter_congr
  intro q _
  simp only [Function.comp, px_cat]
  rw [Bool.eq_iff_iff]
  by_cases h1 : q.1 = i
  · simp [h1]
  · have e1 : Nat.beq q.1 i = false := Bool.eq_false_iff.mpr (fun w => h1 (Nat.beq_eq.mp w))
    by_cases h2 : q.1 + 1 = i
    · have e2 : Nat.beq (Nat.succ q.1) i = true := Nat.beq_eq.mpr h2
      simp only [e1, e2, cond_false, cond_true]
      simp [h1, h2]
    · have e2 : Nat.beq (Nat.succ q.1) i = false := Bool.eq_false_iff.mpr (fun w => h2 (Nat.beq_eq.mp w))
      simp only [e1, e2, cond_false]
      simp [h1, h2]
theorem px_sto2_ok (E : px_E) (L : List (Nat × px_V)) (i : Nat) (v : px_V) : (i, px_v E v) :: (px_lc E L).filter (fun q => !(q.1 == i) && (!(q.1 == i + 1) && !(q.1 + 1 == i && q.2.category == 2))) = px_lc E (px_sto2 L i v) := by
  simp only [px_lc, px_sto2, List.map_cons, List.filter_map, px_fil_eq]
  congr 2
  apply List.filter_congr
  intro q _
  simp only [Function.comp, px_cat]
  rw [Bool.eq_iff_iff]
  by_cases h1 : q.1 = i
  · simp [h1]
  · have e1 : Nat.beq q.1 i = false := Bool.eq_false_iff.mpr (fun w => h1 (Nat.beq_eq.mp w))
    by_cases h3 : q.1 = i + 1
    · have e3 : Nat.beq q.1 (Nat.succ i) = true := Nat.beq_eq.mpr h3
      simp only [e1, e3, cond_false, cond_true]
      simp [h3]
    · have e3 : Nat.beq q.1 (Nat.succ i) = false := Bool.eq_false_iff.mpr (fun w => h3 (Nat.beq_eq.mp w))
      by_cases h2 : q.1 + 1 = i
      · have e2 : Nat.beq (Nat.succ q.1) i = true := Nat.beq_eq.mpr h2
        simp only [e1, e2, e3, cond_false, cond_true]
        simp [h1, h2, h3]
      · have e2 : Nat.beq (Nat.succ q.1) i = false := Bool.eq_false_iff.mpr (fun w => h2 (Nat.beq_eq.mp w))
        simp only [e1, e2, e3, cond_false]
        simp [h1, h2, h3]
theorem px_find_mem {j : Nat} {v : px_V} : ∀ {L : List (Nat × px_V)}, px_find j L = some v → (j, v) ∈ L
  | [], h => by cases h
  | q :: r, h => by
    have h' : (bif Nat.beq q.1 j then some q.2 else px_find j r) = some v := h
    cases hq : Nat.beq q.1 j with
    | true =>
      rw [hq] at h'
      have h1 : q.2 = v := Option.some.inj h'
      have h2 := Nat.eq_of_beq_eq_true hq
      rw [← h1, ← h2]
      exact List.mem_cons_self
    | false =>
      rw [hq] at h'
      exact List.mem_cons_of_mem _ (px_find_mem h')
theorem px_find_ok {E : px_E} {ls : Array Slot} {nL j : Nat} {v : px_V} {L : List (Nat × px_V)} (h : lv_has ls nL (px_lc E L)) (hf : px_find j L = some v) : ls[j]? = some (.val (px_v E v)) :=
  h.2.2 (j, px_v E v) (List.mem_map.mpr ⟨(j, v), px_find_mem hf, rfl⟩)
theorem px_find_pos {E : px_E} {j : Nat} {v : px_V} {L : List (Nat × px_V)} (hf : px_find j L = some v) : ∃ k : Nat, (px_lc E L)[k]? = some (j, px_v E v) :=
  List.getElem?_of_mem (List.mem_map.mpr ⟨(j, v), px_find_mem hf, rfl⟩)
noncomputable def px_ld (L : List (Nat × px_V)) (j : Nat) (kind : px_V → Bool) : Option px_V := match px_find j L with
  | some v => bif kind v then some v else none
  | none => none
theorem px_ld_inv {L : List (Nat × px_V)} {j : Nat} {kind : px_V → Bool} {v : px_V} (h : px_ld L j kind = some v) : px_find j L = some v ∧ kind v = true := by
  unfold px_ld at h
  split at h
  · rename_i w hw
    cases hk : kind w with
    | true => rw [hk] at h; simp only [cond_true, Option.some.injEq] at h; subst h; exact ⟨hw, hk⟩
    | false => rw [hk] at h; cases h
  · cases h
noncomputable def px_bin (op : px_I → px_I → px_I) (st : List px_V) : Option (List px_V) := match st with
  | .inl b :: .inl a :: r => some (.inl (op a b) :: r)
  | _ => none
theorem px_bin_inv {op : px_I → px_I → px_I} {st st' : List px_V} (h : px_bin op st = some st') : ∃ a b r, st = .inl b :: .inl a :: r ∧ st' = .inl (op a b) :: r := by
  unfold px_bin at h
  split at h
  · rename_i b a r
    exact ⟨a, b, r, rfl, (Option.some.inj h).symm⟩
  · cases h
noncomputable def px_una (op : px_I → px_I) (st : List px_V) : Option (List px_V) := match st with
  | .inl a :: r => some (.inl (op a) :: r)
  | _ => none
theorem px_una_inv {op : px_I → px_I} {st st' : List px_V} (h : px_una op st = some st') : ∃ a r, st = .inl a :: r ∧ st' = .inl (op a) :: r := by
  unfold px_una at h
  split at h
  · rename_i a r
    exact ⟨a, r, rfl, (Option.some.inj h).symm⟩
  · cases h
noncomputable def px_lcmp (a b : px_L) : px_I := match a, b with
  | .inl m, .inl n => bif decide (-9223372036854775808 ≤ m) && decide (m < 9223372036854775808) && decide (-9223372036854775808 ≤ n) && decide (n < 9223372036854775808) then .inl (bif decide (n < m) then 1 else bif decide (m = n) then 0 else -1) else .inr (.inr (fun x => lg_cmp (px_l x a) (px_l x b)))
  | .inr (.inl i), .inr (.inl j) => bif Nat.beq i j then .inl 0 else .inr (.inr (fun x => lg_cmp (px_l x a) (px_l x b)))
  | a, b => .inr (.inr (fun x => lg_cmp (px_l x a) (px_l x b)))
theorem px_lcmp_ok (x : px_X) (a b : px_L) : px_i x (px_lcmp a b) = lg_cmp (px_l x a) (px_l x b) := by
  unfold px_lcmp
  split
  · rename_i m n
    by_cases hq : (decide (-9223372036854775808 ≤ m) && decide (m < 9223372036854775808) && decide (-9223372036854775808 ≤ n) && decide (n < 9223372036854775808)) = true
    · rw [hq]
      simp only [Bool.and_eq_true, decide_eq_true_eq] at hq
      obtain ⟨⟨⟨h1, h2⟩, h3⟩, h4⟩ := hq
      have em : (Int64.ofInt m).toInt = m := Int64.toInt_ofInt_of_le (by omega) (by omega)
      have en : (Int64.ofInt n).toInt = n := Int64.toInt_ofInt_of_le (by omega) (by omega)
      simp only [cond_true, px_i, px_l, lg_cmp, gt_iff_lt, Int64.lt_iff_toInt_lt, ← Int64.toInt_inj, em, en]
      by_cases c1 : n < m
      · simp [c1]
      · by_cases c2 : m = n
        · simp [c2]
        · simp [c1, c2]
    · rw [Bool.eq_false_iff.mpr hq]
      rfl
  · rename_i i j
    cases hq : Nat.beq i j with
    | true =>
      have := Nat.eq_of_beq_eq_true hq
      subst this
      simp [px_i, px_l, lg_cmp]
    | false => rfl
  · rfl
/-- the length of an instruction -/
noncomputable def px_len (i : Instr) : Nat := match i with
  | .bipush _ | .iload _ | .lload _ | .aload _ | .istore _ | .lstore _ | .astore _ | .newarray _ | .ldc _ => 2
  | .sipush _ | .iinc _ _ | .goto _ | .ifCond _ _ | .if_icmp _ _ | .if_acmp _ _ | .ifnull _ | .ifnonnull _ | .getfield _ | .putfield _ | .getstatic _ | .putstatic _ | .new _ | .anewarray _ | .invokevirtual _ | .invokespecial _ | .invokestatic _ | .ldc_w _ | .ldc2_w _ | .checkcast _ | .instanceof _ => 3
  | .multianewarray _ _ => 4
  | _ => 1
noncomputable def px_pure (i : Instr) (nL : Nat) (g : px_G) (L : List (Nat × px_V)) (st : List px_V) : Option (List (Nat × px_V) × List px_V) := match i with
  | .iconst n => some (L, .inl (.inl n) :: st)
  | .bipush n => some (L, .inl (.inl (Int8.ofInt n).toInt32.toInt) :: st)
  | .sipush n => some (L, .inl (.inl (Int16.ofInt n).toInt32.toInt) :: st)
  | .lconst n => some (L, .inr (.inl (.inl (n.val : Nat))) :: st)
  | .aconst_null => some (L, .inr (.inr none) :: st)
  | .iload_n k => match px_find k L with
    | some (.inl a) => some (L, .inl (px_nrm g a) :: st)
    | _ => none
  | .iload k => match px_find k L with
    | some (.inl a) => some (L, .inl (px_nrm g a) :: st)
    | _ => none
  | .lload_n k => (px_ld L k px_lg).map (fun v => (L, v :: st))
  | .lload k => (px_ld L k px_lg).map (fun v => (L, v :: st))
  | .aload_n k => (px_ld L k px_isR).map (fun v => (L, v :: st))
  | .aload k => (px_ld L k px_isR).map (fun v => (L, v :: st))
  | .istore_n k => match st with
    | .inl a :: r => bif Nat.blt k nL then some (px_sto L k (.inl a), r) else none
    | _ => none
  | .istore k => match st with
    | .inl a :: r => bif Nat.blt k nL then some (px_sto L k (.inl a), r) else none
    | _ => none
  | .astore_n k => match st with
    | .inr (.inr a) :: r => bif Nat.blt k nL then some (px_sto L k (.inr (.inr a)), r) else none
    | _ => none
  | .astore k => match st with
    | .inr (.inr a) :: r => bif Nat.blt k nL then some (px_sto L k (.inr (.inr a)), r) else none
    | _ => none
  | .lstore_n k => match st with
    | .inr (.inl a) :: r => bif Nat.blt (k + 1) nL then some (px_sto2 L k (.inr (.inl a)), r) else none
    | _ => none
  | .lstore k => match st with
    | .inr (.inl a) :: r => bif Nat.blt (k + 1) nL then some (px_sto2 L k (.inr (.inl a)), r) else none
    | _ => none
  | .iinc k n => match px_find k L with
    | some (.inl a) => bif Nat.blt k nL then some (px_sto L k (.inl (px_add a (.inl n))), st) else none
    | _ => none
  | .iadd => (px_bin px_add st).map (fun s => (L, s))
  | .isub => (px_bin px_sub st).map (fun s => (L, s))
  | .imul => (px_bin (px_b2 (· * ·)) st).map (fun s => (L, s))
  | .irem => match st with
    | .inl (.inl n) :: .inl a :: r => bif decide (n = 0) || decide (n < px_low) || decide (px_hig < n) then none else some (L, .inl (px_b2 (fun x y => x - x / y * y) a (.inl n)) :: r)
    | _ => none
  | .iand => (px_bin px_and st).map (fun s => (L, s))
  | .ior => (px_bin (px_b2 (· ||| ·)) st).map (fun s => (L, s))
  | .ixor => (px_bin (px_b2 (· ^^^ ·)) st).map (fun s => (L, s))
  | .ishl => (px_bin (px_b2 (fun x y => x <<< (y &&& 31))) st).map (fun s => (L, s))
  | .ishr => (px_bin (px_b2 (fun x y => x >>> (y &&& 31))) st).map (fun s => (L, s))
  | .iushr => (px_bin (px_b2 (fun x y => (x.toUInt32 >>> (y.toUInt32 &&& Int32.toUInt32 31)).toInt32)) st).map (fun s => (L, s))
  | .i2b => (px_una (px_b1 (fun x => x.toInt8.toInt32)) st).map (fun s => (L, s))
  | .i2c => (px_una (px_b1 (fun x => (x.toUInt32 % 65536).toInt32)) st).map (fun s => (L, s))
  | .ineg => (px_una (px_b1 (fun x => -x)) st).map (fun s => (L, s))
  | .i2l => match st with
    | .inl a :: r => some (L, .inr (.inl (px_i2l g a)) :: r)
    | _ => none
  | .lcmp => match st with
    | .inr (.inl b) :: .inr (.inl a) :: r => some (L, .inl (px_lcmp a b) :: r)
    | _ => none
  | .dup => match st with
    | v :: r => bif px_lg v then none else some (L, v :: v :: r)
    | _ => none
  | .pop => match st with
    | v :: r => bif px_lg v then none else some (L, r)
    | _ => none
  | .dup2 => match st with
    | a :: b :: r => bif px_lg a || px_lg b then none else some (L, a :: b :: a :: b :: r)
    | _ => none
  | .dup_x1 => match st with
    | a :: b :: r => bif px_lg a || px_lg b then none else some (L, a :: b :: a :: r)
    | _ => none
  | _ => none
/-- the same, the instruction first: so the kernel finds the row of an instruction once -/
noncomputable def px_pureB (i : Instr) : Option (Nat → px_G → List (Nat × px_V) → List px_V → Option (List (Nat × px_V) × List px_V)) := match i with
  | .iconst n => some (fun nL g L st => some (L, .inl (.inl n) :: st))
  | .bipush n => some (fun nL g L st => some (L, .inl (.inl (Int8.ofInt n).toInt32.toInt) :: st))
  | .sipush n => some (fun nL g L st => some (L, .inl (.inl (Int16.ofInt n).toInt32.toInt) :: st))
  | .lconst n => some (fun nL g L st => some (L, .inr (.inl (.inl (n.val : Nat))) :: st))
  | .aconst_null => some (fun nL g L st => some (L, .inr (.inr none) :: st))
  | .iload_n k => some (fun nL g L st => match px_find k L with
    | some (.inl a) => some (L, .inl (px_nrm g a) :: st)
    | _ => none)
  | .iload k => some (fun nL g L st => match px_find k L with
    | some (.inl a) => some (L, .inl (px_nrm g a) :: st)
    | _ => none)
  | .lload_n k => some (fun nL g L st => (px_ld L k px_lg).map (fun v => (L, v :: st)))
  | .lload k => some (fun nL g L st => (px_ld L k px_lg).map (fun v => (L, v :: st)))
  | .aload_n k => some (fun nL g L st => (px_ld L k px_isR).map (fun v => (L, v :: st)))
  | .aload k => some (fun nL g L st => (px_ld L k px_isR).map (fun v => (L, v :: st)))
  | .istore_n k => some (fun nL g L st => match st with
    | .inl a :: r => bif Nat.blt k nL then some (px_sto L k (.inl a), r) else none
    | _ => none)
  | .istore k => some (fun nL g L st => match st with
    | .inl a :: r => bif Nat.blt k nL then some (px_sto L k (.inl a), r) else none
    | _ => none)
  | .astore_n k => some (fun nL g L st => match st with
    | .inr (.inr a) :: r => bif Nat.blt k nL then some (px_sto L k (.inr (.inr a)), r) else none
    | _ => none)
  | .astore k => some (fun nL g L st => match st with
    | .inr (.inr a) :: r => bif Nat.blt k nL then some (px_sto L k (.inr (.inr a)), r) else none
    | _ => none)
  | .lstore_n k => some (fun nL g L st => match st with
    | .inr (.inl a) :: r => bif Nat.blt (k + 1) nL then some (px_sto2 L k (.inr (.inl a)), r) else none
    | _ => none)
  | .lstore k => some (fun nL g L st => match st with
    | .inr (.inl a) :: r => bif Nat.blt (k + 1) nL then some (px_sto2 L k (.inr (.inl a)), r) else none
    | _ => none)
  | .iinc k n => some (fun nL g L st => match px_find k L with
    | some (.inl a) => bif Nat.blt k nL then some (px_sto L k (.inl (px_add a (.inl n))), st) else none
    | _ => none)
  | .iadd => some (fun nL g L st => (px_bin px_add st).map (fun s => (L, s)))
  | .isub => some (fun nL g L st => (px_bin px_sub st).map (fun s => (L, s)))
  | .imul => some (fun nL g L st => (px_bin (px_b2 (· * ·)) st).map (fun s => (L, s)))
  | .irem => some (fun nL g L st => match st with
    | .inl (.inl n) :: .inl a :: r => bif decide (n = 0) || decide (n < px_low) || decide (px_hig < n) then none else some (L, .inl (px_b2 (fun x y => x - x / y * y) a (.inl n)) :: r)
    | _ => none)
  | .iand => some (fun nL g L st => (px_bin px_and st).map (fun s => (L, s)))
  | .ior => some (fun nL g L st => (px_bin (px_b2 (· ||| ·)) st).map (fun s => (L, s)))
  | .ixor => some (fun nL g L st => (px_bin (px_b2 (· ^^^ ·)) st).map (fun s => (L, s)))
  | .ishl => some (fun nL g L st => (px_bin (px_b2 (fun x y => x <<< (y &&& 31))) st).map (fun s => (L, s)))
  | .ishr => some (fun nL g L st => (px_bin (px_b2 (fun x y => x >>> (y &&& 31))) st).map (fun s => (L, s)))
  | .iushr => some (fun nL g L st => (px_bin (px_b2 (fun x y => (x.toUInt32 >>> (y.toUInt32 &&& Int32.toUInt32 31)).toInt32)) st).map (fun s => (L, s)))
  | .i2b => some (fun nL g L st => (px_una (px_b1 (fun x => x.toInt8.toInt32)) st).map (fun s => (L, s)))
  | .i2c => some (fun nL g L st => (px_una (px_b1 (fun x => (x.toUInt32 % 65536).toInt32)) st).map (fun s => (L, s)))
  | .ineg => some (fun nL g L st => (px_una (px_b1 (fun x => -x)) st).map (fun s => (L, s)))
  | .i2l => some (fun nL g L st => match st with
    | .inl a :: r => some (L, .inr (.inl (px_i2l g a)) :: r)
    | _ => none)
  | .lcmp => some (fun nL g L st => match st with
    | .inr (.inl b) :: .inr (.inl a) :: r => some (L, .inl (px_lcmp a b) :: r)
    | _ => none)
  | .dup => some (fun nL g L st => match st with
    | v :: r => bif px_lg v then none else some (L, v :: v :: r)
    | _ => none)
  | .pop => some (fun nL g L st => match st with
    | v :: r => bif px_lg v then none else some (L, r)
    | _ => none)
  | .dup2 => some (fun nL g L st => match st with
    | a :: b :: r => bif px_lg a || px_lg b then none else some (L, a :: b :: a :: b :: r)
    | _ => none)
  | .dup_x1 => some (fun nL g L st => match st with
    | a :: b :: r => bif px_lg a || px_lg b then none else some (L, a :: b :: a :: r)
    | _ => none)
  | _ => none
theorem px_pureB_ok (i : Instr) {f : Nat → px_G → List (Nat × px_V) → List px_V → Option (List (Nat × px_V) × List px_V)} (h : px_pureB i = some f) (nL : Nat) (g : px_G) (L : List (Nat × px_V)) (st : List px_V) : f nL g L st = px_pure i nL g L st := by
  cases i <;> first | (cases h; rfl) | (exact absurd h (by simp [px_pureB]))
section PxPure
variable {p : Program} {l : Launch} {e : Env} {R : Room} {s : State} {m : MethodId} {args : Array Value} {below : List Frame} {meth : Method} {c : Code} {H : Heap} {locs : List Loc} {cells slots : Nat} {Q : State → Prop}
variable {cc : ByteArray} {pc nL : Nat} {ls : Array Slot} {E : px_E} {g : px_G} {L L' : List (Nat × px_V)} {st st' : List px_V}
set_option maxHeartbeats 4000000 in
theorem px_pure_ok (hx : p.tables.exec = Jvm.exec) (hb : c.code = cc) {i : Instr} (hd : decode cc pc = .ok (i, px_len i)) (h6 : E.1 6 = E.1 0 &&& 31) (hG : px_Gok E.1 g) (hl : lv_has ls nL (px_lc E L)) (hp : px_pure i nL g L st = some (L', st'))
    (k : ∀ ls' : Array Slot, lv_has ls' nL (px_lc E L') → W p l e R s m args below meth c H locs cells slots Q (F0 m (pc + px_len i) ls' (st'.map (px_v E)))) : W p l e R s m args below meth c H locs cells slots Q (F0 m pc ls (st.map (px_v E))) := by
  cases i
  case iconst n =>
    cases hp
    exact lv_iconst (v := px_i E.1 (.inl n)) hx hb hd rfl (k ls hl)
  case bipush n =>
    cases hp
    exact lv_bipush (v := px_i E.1 (.inl (Int8.ofInt n).toInt32.toInt)) hx hb hd (Int32.ofInt_toInt _).symm (k ls hl)
  case sipush n =>
    cases hp
    exact lv_sipush (v := px_i E.1 (.inl (Int16.ofInt n).toInt32.toInt)) hx hb hd (Int32.ofInt_toInt _).symm (k ls hl)
  case lconst n =>
    cases hp
    exact lv_lconst (v := px_l E.1 (.inl (n.val : Nat))) hx hb hd rfl (k ls hl)
  case aconst_null =>
    cases hp
    exact lv_null hx hb hd (k ls hl)
  case iload_n j =>
    simp only [px_pure] at hp
    split at hp
    · rename_i a hf
      cases hp
      have kk := k ls hl
      simp only [List.map_cons, px_v, px_nrm_ok hG] at kk
      exact lv_iload_n hx hb hd rfl (px_find_ok hl hf) kk
    · cases hp
  case iload j =>
    simp only [px_pure] at hp
    split at hp
    · rename_i a hf
      cases hp
      have kk := k ls hl
      simp only [List.map_cons, px_v, px_nrm_ok hG] at kk
      exact lv_iload hx hb hd (px_find_ok hl hf) kk
    · cases hp
  case lload_n j =>
    obtain ⟨v, hv, hq⟩ := Option.map_eq_some_iff.mp hp
    cases hq
    obtain ⟨hf, hk⟩ := px_ld_inv hv
    obtain a | a | a := v
    · cases hk
    · exact lv_lload_n hx hb hd rfl (px_find_ok hl hf) (k ls hl)
    · cases hk
  case lload j =>
    obtain ⟨v, hv, hq⟩ := Option.map_eq_some_iff.mp hp
    cases hq
    obtain ⟨hf, hk⟩ := px_ld_inv hv
    obtain a | a | a := v
    · cases hk
    · exact lv_lload hx hb hd (px_find_ok hl hf) (k ls hl)
    · cases hk
  case aload_n j =>
    obtain ⟨v, hv, hq⟩ := Option.map_eq_some_iff.mp hp
    cases hq
    obtain ⟨hf, hk⟩ := px_ld_inv hv
    obtain a | a | a := v
    · cases hk
    · cases hk
    · cases a with
      | none => exact lv_aload_nN hx hb hd rfl (px_find_ok hl hf) (k ls hl)
      | some r => exact lv_aload_n hx hb hd rfl (px_find_ok hl hf) (k ls hl)
  case aload j =>
    obtain ⟨v, hv, hq⟩ := Option.map_eq_some_iff.mp hp
    cases hq
    obtain ⟨hf, hk⟩ := px_ld_inv hv
    obtain a | a | a := v
    · cases hk
    · cases hk
    · cases a with
      | none => exact lv_aloadN hx hb hd (px_find_ok hl hf) (k ls hl)
      | some r => exact lv_aload hx hb hd (px_find_ok hl hf) (k ls hl)
  case istore_n j =>
    simp only [px_pure] at hp
    split at hp
    · rename_i a r
      cases hn : Nat.blt j nL with
      | false => rw [hn] at hp; cases hp
      | true =>
        rw [hn] at hp
        cases hp
        exact lv_istore_n hx hb hd rfl hl (Nat.blt_eq.mp hn) (px_sto_ok E L j (.inl a)) k
    · cases hp
  case istore j =>
    simp only [px_pure] at hp
    split at hp
    · rename_i a r
      cases hn : Nat.blt j nL with
      | false => rw [hn] at hp; cases hp
      | true =>
        rw [hn] at hp
        cases hp
        exact lv_istore hx hb hd hl (Nat.blt_eq.mp hn) (px_sto_ok E L j (.inl a)) k
    · cases hp
  case astore_n j =>
    simp only [px_pure] at hp
    split at hp
    · rename_i a r
      cases hn : Nat.blt j nL with
      | false => rw [hn] at hp; cases hp
      | true =>
        rw [hn] at hp
        cases hp
        cases a with
        | none => exact lv_astore_nN hx hb hd rfl hl (Nat.blt_eq.mp hn) (px_sto_ok E L j (.inr (.inr none))) k
        | some a => exact lv_astore_n hx hb hd rfl hl (Nat.blt_eq.mp hn) (px_sto_ok E L j (.inr (.inr (some a)))) k
    · cases hp
  case astore j =>
    simp only [px_pure] at hp
    split at hp
    · rename_i a r
      cases hn : Nat.blt j nL with
      | false => rw [hn] at hp; cases hp
      | true =>
        rw [hn] at hp
        cases hp
        cases a with
        | none => exact lv_astoreN hx hb hd hl (Nat.blt_eq.mp hn) (px_sto_ok E L j (.inr (.inr none))) k
        | some a => exact lv_astore hx hb hd hl (Nat.blt_eq.mp hn) (px_sto_ok E L j (.inr (.inr (some a)))) k
    · cases hp
  case lstore_n j =>
    simp only [px_pure] at hp
    split at hp
    · rename_i a r
      cases hn : Nat.blt (j + 1) nL with
      | false => rw [hn] at hp; cases hp
      | true =>
        rw [hn] at hp
        cases hp
        exact lv_lstore_n hx hb hd rfl hl (Nat.blt_eq.mp hn) (px_sto2_ok E L j (.inr (.inl a))) k
    · cases hp
  case lstore j =>
    simp only [px_pure] at hp
    split at hp
    · rename_i a r
      cases hn : Nat.blt (j + 1) nL with
      | false => rw [hn] at hp; cases hp
      | true =>
        rw [hn] at hp
        cases hp
        exact lv_lstore hx hb hd hl (Nat.blt_eq.mp hn) (px_sto2_ok E L j (.inr (.inl a))) k
    · cases hp
  case iinc j n =>
    simp only [px_pure] at hp
    split at hp
    · rename_i a hf
      cases hn : Nat.blt j nL with
      | false => rw [hn] at hp; cases hp
      | true =>
        rw [hn] at hp
        cases hp
        obtain ⟨kk, hkk⟩ := px_find_pos (E := E) hf
        exact lv_iinc (v := px_i E.1 (px_add a (.inl n))) hx hb hd hl hkk (px_add_ok E.1 a (.inl n)).symm (Nat.blt_eq.mp hn) (px_sto_ok E L j (.inl (px_add a (.inl n)))) k
    · cases hp
  case iadd =>
    obtain ⟨w, hw, hq⟩ := Option.map_eq_some_iff.mp hp
    cases hq
    obtain ⟨a, b, r, rfl, rfl⟩ := px_bin_inv hw
    have kk := k ls hl
    simp only [List.map_cons, px_v, px_add_ok] at kk
    exact lv_iadd hx hb hd kk
  case isub =>
    obtain ⟨w, hw, hq⟩ := Option.map_eq_some_iff.mp hp
    cases hq
    obtain ⟨a, b, r, rfl, rfl⟩ := px_bin_inv hw
    have kk := k ls hl
    simp only [List.map_cons, px_v, px_sub_ok] at kk
    exact lv_isub hx hb hd kk
  case imul =>
    obtain ⟨w, hw, hq⟩ := Option.map_eq_some_iff.mp hp
    cases hq
    obtain ⟨a, b, r, rfl, rfl⟩ := px_bin_inv hw
    have kk := k ls hl
    simp only [List.map_cons, px_v, px_b2_ok] at kk
    exact lv_imul hx hb hd kk
  case irem =>
    simp only [px_pure] at hp
    split at hp
    · rename_i n a r
      cases hn : decide (n = 0) || decide (n < px_low) || decide (px_hig < n) with
      | true => rw [hn] at hp; cases hp
      | false =>
        rw [hn] at hp
        cases hp
        simp only [Bool.or_eq_false_iff, decide_eq_false_iff_not] at hn
        have hz : ¬ px_i E.1 (.inl n) = 0 := fun q => by
          have h1 := congrArg Int32.toInt q
          rw [show (px_i E.1 (.inl n)) = Int32.ofInt n from rfl, px_ofInt (by omega) (by omega)] at h1
          exact hn.1.1 h1
        have kk := k ls hl
        simp only [List.map_cons, px_v, px_b2_ok] at kk
        exact lv_irem hx hb hd hz kk
    · cases hp
  case iand =>
    obtain ⟨w, hw, hq⟩ := Option.map_eq_some_iff.mp hp
    cases hq
    obtain ⟨a, b, r, rfl, rfl⟩ := px_bin_inv hw
    have kk := k ls hl
    simp only [List.map_cons, px_v, px_and_ok E.1 h6] at kk
    exact lv_iand hx hb hd kk
  case ior =>
    obtain ⟨w, hw, hq⟩ := Option.map_eq_some_iff.mp hp
    cases hq
    obtain ⟨a, b, r, rfl, rfl⟩ := px_bin_inv hw
    have kk := k ls hl
    simp only [List.map_cons, px_v, px_b2_ok] at kk
    exact lv_ior hx hb hd kk
  case ixor =>
    obtain ⟨w, hw, hq⟩ := Option.map_eq_some_iff.mp hp
    cases hq
    obtain ⟨a, b, r, rfl, rfl⟩ := px_bin_inv hw
    have kk := k ls hl
    simp only [List.map_cons, px_v, px_b2_ok] at kk
    exact lv_ixor hx hb hd kk
  case ishl =>
    obtain ⟨w, hw, hq⟩ := Option.map_eq_some_iff.mp hp
    cases hq
    obtain ⟨a, b, r, rfl, rfl⟩ := px_bin_inv hw
    have kk := k ls hl
    simp only [List.map_cons, px_v, px_b2_ok] at kk
    exact lv_ishl hx hb hd kk
  case ishr =>
    obtain ⟨w, hw, hq⟩ := Option.map_eq_some_iff.mp hp
    cases hq
    obtain ⟨a, b, r, rfl, rfl⟩ := px_bin_inv hw
    have kk := k ls hl
    simp only [List.map_cons, px_v, px_b2_ok] at kk
    exact lv_ishr hx hb hd kk
  case iushr =>
    obtain ⟨w, hw, hq⟩ := Option.map_eq_some_iff.mp hp
    cases hq
    obtain ⟨a, b, r, rfl, rfl⟩ := px_bin_inv hw
    have kk := k ls hl
    simp only [List.map_cons, px_v, px_b2_ok] at kk
    exact lv_iushr hx hb hd rfl kk
  case i2b =>
    obtain ⟨w, hw, hq⟩ := Option.map_eq_some_iff.mp hp
    cases hq
    obtain ⟨a, r, rfl, rfl⟩ := px_una_inv hw
    have kk := k ls hl
    simp only [List.map_cons, px_v, px_b1_ok] at kk
    exact lv_i2b hx hb hd rfl kk
  case i2c =>
    obtain ⟨w, hw, hq⟩ := Option.map_eq_some_iff.mp hp
    cases hq
    obtain ⟨a, r, rfl, rfl⟩ := px_una_inv hw
    have kk := k ls hl
    simp only [List.map_cons, px_v, px_b1_ok] at kk
    exact lv_i2c hx hb hd rfl kk
  case ineg =>
    obtain ⟨w, hw, hq⟩ := Option.map_eq_some_iff.mp hp
    cases hq
    obtain ⟨a, r, rfl, rfl⟩ := px_una_inv hw
    have kk := k ls hl
    simp only [List.map_cons, px_v, px_b1_ok] at kk
    exact lv_ineg hx hb hd kk
  case i2l =>
    simp only [px_pure] at hp
    split at hp
    · rename_i a r
      cases hp
      exact lv_i2l hx hb hd (px_i2l_ok hG a).symm (k ls hl)
    · cases hp
  case lcmp =>
    simp only [px_pure] at hp
    split at hp
    · rename_i b a r
      cases hp
      have kk := k ls hl
      simp only [List.map_cons, px_v, px_lcmp_ok] at kk
      exact W.lcmp hx hb hd kk
    · cases hp
  case dup =>
    simp only [px_pure] at hp
    split at hp
    · rename_i v r
      cases hn : px_lg v with
      | true => rw [hn] at hp; cases hp
      | false =>
        rw [hn] at hp
        cases hp
        exact lv_dup hx hb hd (px_cat1 hn) (k ls hl)
    · cases hp
  case pop =>
    simp only [px_pure] at hp
    split at hp
    · rename_i v r
      cases hn : px_lg v with
      | true => rw [hn] at hp; cases hp
      | false =>
        rw [hn] at hp
        cases hp
        exact lv_pop hx hb hd (px_cat1 hn) (k ls hl)
    · cases hp
  case dup2 =>
    simp only [px_pure] at hp
    split at hp
    · rename_i v w r
      cases hn : px_lg v || px_lg w with
      | true => rw [hn] at hp; cases hp
      | false =>
        rw [hn] at hp
        cases hp
        simp only [Bool.or_eq_false_iff] at hn
        exact lv_dup2_11 hx hb hd (px_cat1 hn.1) (px_cat1 hn.2) (k ls hl)
    · cases hp
  case dup_x1 =>
    simp only [px_pure] at hp
    split at hp
    · rename_i v w r
      cases hn : px_lg v || px_lg w with
      | true => rw [hn] at hp; cases hp
      | false =>
        rw [hn] at hp
        cases hp
        simp only [Bool.or_eq_false_iff] at hn
        exact lv_dup_x1 hx hb hd (px_cat1 hn.1) (px_cat1 hn.2) (k ls hl)
    · cases hp
  all_goals (exact absurd hp (by simp [px_pure]))
end PxPure
