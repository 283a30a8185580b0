section
/-! Symbolic runs, part 1: the values. A number is known, or a variable of the script, or any function of the script. -/
abbrev px_X : Type := Nat → Int32
abbrev px_I : Type := Int ⊕ (Nat ⊕ (px_X → Int32))
abbrev px_L : Type := Int ⊕ (Nat ⊕ (px_X → Int64))
abbrev px_V : Type := px_I ⊕ (px_L ⊕ Option Nat)
abbrev px_G : Type := List (Int × Int)
/-- the script's ints (and two numbers beside them), the addresses of what was there before, the first address of what was made since -/
abbrev px_E : Type := px_X × (Nat → Nat) × Nat
def px_i (x : px_X) (a : px_I) : Int32 := match a with
  | .inl n => Int32.ofInt n
  | .inr (.inl i) => x i
  | .inr (.inr f) => f x
def px_l (x : px_X) (a : px_L) : Int64 := match a with
  | .inl n => Int64.ofInt n
  | .inr (.inl i) => (x i).toInt64
  | .inr (.inr f) => f x
def px_ad (E : px_E) (r : Nat) : Nat := if r < 64 then E.2.1 r else E.2.2 + (r - 64)
def px_v (E : px_E) (v : px_V) : Value := match v with
  | .inl a => .int (px_i E.1 a)
  | .inr (.inl a) => .long (px_l E.1 a)
  | .inr (.inr none) => .null
  | .inr (.inr (some r)) => .ref (px_ad E r)
/-- an operation of two ints: known where both are known -/
def px_b2 (op : Int32 → Int32 → Int32) (a b : px_I) : px_I := match a, b with
  | .inl m, .inl n => .inl (op (Int32.ofInt m) (Int32.ofInt n)).toInt
  | a, b => .inr (.inr (fun x => op (px_i x a) (px_i x b)))
def px_b1 (op : Int32 → Int32) (a : px_I) : px_I := match a with
  | .inl m => .inl (op (Int32.ofInt m)).toInt
  | a => .inr (.inr (fun x => op (px_i x a)))
def px_add (a b : px_I) : px_I := match a, b with
  | .inl m, .inl n => .inl (m + n)
  | a, b => .inr (.inr (fun x => px_i x a + px_i x b))
def px_sub (a b : px_I) : px_I := match a, b with
  | .inl m, .inl n => .inl (m - n)
  | a, b => .inr (.inr (fun x => px_i x a - px_i x b))
/-- the script's first int under the mask 31 is the variable 6 -/
def px_and (a b : px_I) : px_I := match a, b with
  | .inl m, .inl n => .inl (Int32.ofInt m &&& Int32.ofInt n).toInt
  | .inr (.inl 0), .inl 31 => .inr (.inl 6)
  | a, b => .inr (.inr (fun x => px_i x a &&& px_i x b))
theorem px_b2_ok (op : Int32 → Int32 → Int32) (x : px_X) (a b : px_I) : px_i x (px_b2 op a b) = op (px_i x a) (px_i x b) := by
  unfold px_b2
  split
  · simp [px_i]
  · rfl
theorem px_b1_ok (op : Int32 → Int32) (x : px_X) (a : px_I) : px_i x (px_b1 op a) = op (px_i x a) := by
  unfold px_b1
  split
  · simp [px_i]
  · rfl
theorem px_add_ok (x : px_X) (a b : px_I) : px_i x (px_add a b) = px_i x a + px_i x b := by
  unfold px_add
  split
  · simp [px_i]
  · rfl
theorem px_sub_ok (x : px_X) (a b : px_I) : px_i x (px_sub a b) = px_i x a - px_i x b := by
  unfold px_sub
  split
  · simp [px_i]
  · rfl
theorem px_and_ok (x : px_X) (h6 : x 6 = x 0 &&& 31) (a b : px_I) : px_i x (px_and a b) = px_i x a &&& px_i x b := by
  unfold px_and
  split
  · simp [px_i]
  · simp [px_i, h6]
  · rfl
/-- the bounds of an int -/
def px_low : Int := -2147483648
def px_hig : Int := 2147483647
def px_rg (g : px_G) (a : px_I) : Int × Int := match a with
  | .inl n => bif decide (px_low ≤ n) && decide (n ≤ px_hig) then (n, n) else (px_low, px_hig)
  | .inr (.inl i) => (g[i]?).getD (px_low, px_hig)
  | .inr (.inr _) => (px_low, px_hig)
def px_Gok (x : px_X) (g : px_G) : Prop := ∀ (i : Nat) (q : Int × Int), g[i]? = some q → q.1 ≤ (x i).toInt ∧ (x i).toInt ≤ q.2
theorem px_any (v : Int32) : px_low ≤ v.toInt ∧ v.toInt ≤ px_hig := by
  have h1 := Int32.le_toInt v
  have h2 := Int32.toInt_lt v
  unfold px_low px_hig
  omega
theorem px_ofInt {n : Int} (h1 : px_low ≤ n) (h2 : n ≤ px_hig) : (Int32.ofInt n).toInt = n := by
  unfold px_low px_hig at *
  rw [Int32.toInt_ofInt_of_le] <;> omega
theorem px_rg_ok {x : px_X} {g : px_G} (h : px_Gok x g) (a : px_I) : (px_rg g a).1 ≤ (px_i x a).toInt ∧ (px_i x a).toInt ≤ (px_rg g a).2 := by
  unfold px_rg
  split
  · rename_i n
    by_cases hn : (decide (px_low ≤ n) && decide (n ≤ px_hig)) = true
    · rw [hn]
      simp only [Bool.and_eq_true, decide_eq_true_eq] at hn
      simp only [cond_true, px_i, px_ofInt hn.1 hn.2]
      exact ⟨Int.le_refl _, Int.le_refl _⟩
    · rw [Bool.eq_false_iff.mpr hn]
      exact px_any _
  · rename_i i
    cases hq : g[i]? with
    | none => simpa using px_any _
    | some q => simpa [px_i] using h i q hq
  · exact px_any _
/-- a variable gets tighter bounds -/
def px_tight (g : px_G) (a : px_I) (lo hi : Int) : px_G := match a with
  | .inr (.inl i) => match g[i]? with
    | some q => g.set i (max q.1 lo, min q.2 hi)
    | none => g
  | _ => g
theorem px_tight_ok {x : px_X} {g : px_G} (h : px_Gok x g) (a : px_I) {lo hi : Int} (h1 : lo ≤ (px_i x a).toInt) (h2 : (px_i x a).toInt ≤ hi) : px_Gok x (px_tight g a lo hi) := by
  unfold px_tight
  split
  · rename_i i
    split
    · rename_i q hq
      intro j r hr
      rw [List.getElem?_set] at hr
      split at hr
      · rename_i hj
        subst hj
        split at hr
        · cases hr
          have h3 := h i q hq
          simp only [px_i] at h1 h2
          exact ⟨by show max q.1 lo ≤ _; omega, by show _ ≤ min q.2 hi; omega⟩
        · cases hr
      · exact h j r hr
    · exact h
  · exact h
/-- a number where the bounds leave but one -/
def px_nrm (g : px_G) (a : px_I) : px_I := match a with
  | .inr (.inl i) => bif decide ((px_rg g a).1 = (px_rg g a).2) then .inl (px_rg g a).1 else .inr (.inl i)
  | a => a
theorem px_one {x : px_X} {g : px_G} (h : px_Gok x g) (a : px_I) (e : (px_rg g a).1 = (px_rg g a).2) : px_i x a = Int32.ofInt (px_rg g a).1 := by
  have h1 := px_rg_ok h a
  have h2 : (px_i x a).toInt = (px_rg g a).1 := by omega
  rw [← h2, Int32.ofInt_toInt]
theorem px_nrm_ok {x : px_X} {g : px_G} (h : px_Gok x g) (a : px_I) : px_i x (px_nrm g a) = px_i x a := by
  unfold px_nrm
  split
  · rename_i i
    by_cases e : (px_rg g (.inr (.inl i))).1 = (px_rg g (.inr (.inl i))).2
    · rw [decide_eq_true e]
      exact (px_one h _ e).symm
    · rw [decide_eq_false e]
      rfl
  · rfl
def px_i2l (g : px_G) (a : px_I) : px_L := match px_nrm g a with
  | .inl n => bif decide (px_low ≤ n) && decide (n ≤ px_hig) then .inl n else .inr (.inr (fun _ => (Int32.ofInt n).toInt64))
  | .inr (.inl i) => .inr (.inl i)
  | .inr (.inr f) => .inr (.inr (fun x => (f x).toInt64))
theorem px_i2l_ok {x : px_X} {g : px_G} (h : px_Gok x g) (a : px_I) : px_l x (px_i2l g a) = (px_i x a).toInt64 := by
  rw [← px_nrm_ok h a]
  unfold px_i2l
  split
  · rename_i n hn
    rw [hn]
    by_cases hq : (decide (px_low ≤ n) && decide (n ≤ px_hig)) = true
    · rw [hq]
      simp only [Bool.and_eq_true, decide_eq_true_eq] at hq
      show Int64.ofInt n = (Int32.ofInt n).toInt64
      apply Int64.toInt_inj.mp
      rw [Int32.toInt_toInt64, px_ofInt hq.1 hq.2, Int64.toInt_ofInt_of_le] <;> (unfold px_low px_hig at hq; omega)
    · rw [Bool.eq_false_iff.mpr hq]
      rfl
  · rename_i i hi
    rw [hi]
    rfl
  · rename_i f hf
    rw [hf]
    rfl
end
section
/-! Symbolic runs, part 2: instructions that touch the frame alone. -/
def px_find (j : Nat) : List (Nat × px_V) → Option px_V
  | [] => none
  | q :: r => bif Nat.beq q.1 j then some q.2 else px_find j r
def px_isI (v : px_V) : Bool := match v with | .inl _ => true | _ => false
def px_lg (v : px_V) : Bool := match v with | .inr (.inl _) => true | _ => false
def px_isR (v : px_V) : Bool := match v with | .inr (.inr _) => true | _ => false
def px_lc (E : px_E) (L : List (Nat × px_V)) : List (Nat × Value) := L.map (fun q => (q.1, px_v E q.2))
def px_sto (L : List (Nat × px_V)) (i : Nat) (v : px_V) : List (Nat × px_V) := (i, v) :: L.filter (fun q => !(q.1 == i) && !(q.1 + 1 == i && px_lg q.2))
def px_sto2 (L : List (Nat × px_V)) (i : Nat) (v : px_V) : List (Nat × px_V) := (i, v) :: L.filter (fun q => !(q.1 == i) && (!(q.1 == i + 1) && !(q.1 + 1 == i && px_lg q.2)))
theorem px_cat (E : px_E) (v : px_V) : ((px_v E v).category == 2) = px_lg v := by
  obtain a | a | a := v
  · rfl
  · rfl
  · cases a <;> rfl
theorem px_cat1 {E : px_E} {v : px_V} (h : px_lg v = false) : (px_v E v).category = 1 := by
  obtain a | a | a := v
  · rfl
  · cases h
  · cases a <;> rfl
theorem px_sto_ok (E : px_E) (L : List (Nat × px_V)) (i : Nat) (v : px_V) : (i, px_v E v) :: (px_lc E L).filter (fun q => !(q.1 == i) && !(q.1 + 1 == i && q.2.category == 2)) = px_lc E (px_sto L i v) := by
  simp only [px_lc, px_sto, List.map_cons, List.filter_map]
  congr 2
  apply List.filter_congr
  intro q _
  simp only [Function.comp, px_cat]
theorem px_sto2_ok (E : px_E) (L : List (Nat × px_V)) (i : Nat) (v : px_V) : (i, px_v E v) :: (px_lc E L).filter (fun q => !(q.1 == i) && (!(q.1 == i + 1) && !(q.1 + 1 == i && q.2.category == 2))) = px_lc E (px_sto2 L i v) := by
  simp only [px_lc, px_sto2, List.map_cons, List.filter_map]
  congr 2
  apply List.filter_congr
  intro q _
  simp only [Function.comp, px_cat]
theorem px_find_mem {j : Nat} {v : px_V} : ∀ {L : List (Nat × px_V)}, px_find j L = some v → (j, v) ∈ L
  | q :: r, h => by
    unfold px_find at h
    cases hq : Nat.beq q.1 j with
    | true =>
      rw [hq] at h
      simp only [cond_true, Option.some.injEq] at h
      have := Nat.eq_of_beq_eq_true hq
      subst this
      subst h
      exact List.mem_cons_self
    | false =>
      rw [hq] at h
      exact List.mem_cons_of_mem _ (px_find_mem h)
theorem px_find_ok {E : px_E} {ls : Array Slot} {nL j : Nat} {v : px_V} {L : List (Nat × px_V)} (h : lv_has ls nL (px_lc E L)) (hf : px_find j L = some v) : ls[j]? = some (.val (px_v E v)) :=
  h.2.2 (j, px_v E v) (List.mem_map.mpr ⟨(j, v), px_find_mem hf, rfl⟩)
theorem px_find_pos {E : px_E} {j : Nat} {v : px_V} {L : List (Nat × px_V)} (hf : px_find j L = some v) : ∃ k : Nat, (px_lc E L)[k]? = some (j, px_v E v) :=
  List.getElem?_of_mem (List.mem_map.mpr ⟨(j, v), px_find_mem hf, rfl⟩)
def px_ld (L : List (Nat × px_V)) (j : Nat) (kind : px_V → Bool) : Option px_V := match px_find j L with
  | some v => bif kind v then some v else none
  | none => none
theorem px_ld_inv {L : List (Nat × px_V)} {j : Nat} {kind : px_V → Bool} {v : px_V} (h : px_ld L j kind = some v) : px_find j L = some v ∧ kind v = true := by
  unfold px_ld at h
  split at h
  · rename_i w hw
    cases hk : kind w with
    | true => rw [hk] at h; simp only [cond_true, Option.some.injEq] at h; subst h; exact ⟨hw, hk⟩
    | false => rw [hk] at h; cases h
  · cases h
def px_bin (op : px_I → px_I → px_I) (st : List px_V) : Option (List px_V) := match st with
  | .inl b :: .inl a :: r => some (.inl (op a b) :: r)
  | _ => none
theorem px_bin_inv {op : px_I → px_I → px_I} {st st' : List px_V} (h : px_bin op st = some st') : ∃ a b r, st = .inl b :: .inl a :: r ∧ st' = .inl (op a b) :: r := by
  unfold px_bin at h
  split at h
  · rename_i b a r
    exact ⟨a, b, r, rfl, (Option.some.inj h).symm⟩
  · cases h
def px_una (op : px_I → px_I) (st : List px_V) : Option (List px_V) := match st with
  | .inl a :: r => some (.inl (op a) :: r)
  | _ => none
theorem px_una_inv {op : px_I → px_I} {st st' : List px_V} (h : px_una op st = some st') : ∃ a r, st = .inl a :: r ∧ st' = .inl (op a) :: r := by
  unfold px_una at h
  split at h
  · rename_i a r
    exact ⟨a, r, rfl, (Option.some.inj h).symm⟩
  · cases h
def px_lcmp (a b : px_L) : px_I := match a, b with
  | .inl m, .inl n => bif decide (-9223372036854775808 ≤ m) && decide (m < 9223372036854775808) && decide (-9223372036854775808 ≤ n) && decide (n < 9223372036854775808) then .inl (bif decide (n < m) then 1 else bif decide (m = n) then 0 else -1) else .inr (.inr (fun x => lg_cmp (px_l x a) (px_l x b)))
  | .inr (.inl i), .inr (.inl j) => bif Nat.beq i j then .inl 0 else .inr (.inr (fun x => lg_cmp (px_l x a) (px_l x b)))
  | a, b => .inr (.inr (fun x => lg_cmp (px_l x a) (px_l x b)))
theorem px_lcmp_ok (x : px_X) (a b : px_L) : px_i x (px_lcmp a b) = lg_cmp (px_l x a) (px_l x b) := by
  unfold px_lcmp
  split
  · rename_i m n
    by_cases hq : (decide (-9223372036854775808 ≤ m) && decide (m < 9223372036854775808) && decide (-9223372036854775808 ≤ n) && decide (n < 9223372036854775808)) = true
    · rw [hq]
      simp only [Bool.and_eq_true, decide_eq_true_eq] at hq
      obtain ⟨⟨⟨h1, h2⟩, h3⟩, h4⟩ := hq
      have em : (Int64.ofInt m).toInt = m := Int64.toInt_ofInt_of_le (by omega) (by omega)
      have en : (Int64.ofInt n).toInt = n := Int64.toInt_ofInt_of_le (by omega) (by omega)
      simp only [cond_true, px_i, px_l, lg_cmp, gt_iff_lt, Int64.lt_iff_toInt_lt, ← Int64.toInt_inj, em, en]
      by_cases c1 : n < m
      · simp [c1]
      · by_cases c2 : m = n
        · simp [c2]
        · simp [c1, c2]
    · rw [Bool.eq_false_iff.mpr hq]
      rfl
  · rename_i i j
    cases hq : Nat.beq i j with
    | true =>
      have := Nat.eq_of_beq_eq_true hq
      subst this
      simp [px_i, px_l, lg_cmp]
    | false => rfl
  · rfl
/-- the length of an instruction -/
def px_len (i : Instr) : Nat := match i with
  | .bipush _ | .iload _ | .lload _ | .aload _ | .istore _ | .lstore _ | .astore _ | .newarray _ | .ldc _ => 2
  | .sipush _ | .iinc _ _ | .goto _ | .ifCond _ _ | .if_icmp _ _ | .if_acmp _ _ | .ifnull _ | .ifnonnull _ | .getfield _ | .putfield _ | .getstatic _ | .putstatic _ | .new _ | .anewarray _ | .invokevirtual _ | .invokespecial _ | .invokestatic _ | .ldc_w _ | .ldc2_w _ | .checkcast _ | .instanceof _ => 3
  | .multianewarray _ _ => 4
  | _ => 1
def px_pure (i : Instr) (nL : Nat) (g : px_G) (L : List (Nat × px_V)) (st : List px_V) : Option (List (Nat × px_V) × List px_V) := match i with
  | .iconst n => some (L, .inl (.inl n) :: st)
  | .bipush n => some (L, .inl (.inl (Int8.ofInt n).toInt32.toInt) :: st)
  | .sipush n => some (L, .inl (.inl (Int16.ofInt n).toInt32.toInt) :: st)
  | .lconst n => some (L, .inr (.inl (.inl (n.val : Nat))) :: st)
  | .aconst_null => some (L, .inr (.inr none) :: st)
  | .iload_n k => match px_find k L with
    | some (.inl a) => some (L, .inl (px_nrm g a) :: st)
    | _ => none
  | .iload k => match px_find k L with
    | some (.inl a) => some (L, .inl (px_nrm g a) :: st)
    | _ => none
  | .lload_n k => (px_ld L k px_lg).map (fun v => (L, v :: st))
  | .lload k => (px_ld L k px_lg).map (fun v => (L, v :: st))
  | .aload_n k => (px_ld L k px_isR).map (fun v => (L, v :: st))
  | .aload k => (px_ld L k px_isR).map (fun v => (L, v :: st))
  | .istore_n k => match st with
    | .inl a :: r => bif Nat.blt k nL then some (px_sto L k (.inl a), r) else none
    | _ => none
  | .istore k => match st with
    | .inl a :: r => bif Nat.blt k nL then some (px_sto L k (.inl a), r) else none
    | _ => none
  | .astore_n k => match st with
    | .inr (.inr a) :: r => bif Nat.blt k nL then some (px_sto L k (.inr (.inr a)), r) else none
    | _ => none
  | .astore k => match st with
    | .inr (.inr a) :: r => bif Nat.blt k nL then some (px_sto L k (.inr (.inr a)), r) else none
    | _ => none
  | .lstore_n k => match st with
    | .inr (.inl a) :: r => bif Nat.blt (k + 1) nL then some (px_sto2 L k (.inr (.inl a)), r) else none
    | _ => none
  | .lstore k => match st with
    | .inr (.inl a) :: r => bif Nat.blt (k + 1) nL then some (px_sto2 L k (.inr (.inl a)), r) else none
    | _ => none
  | .iinc k n => match px_find k L with
    | some (.inl a) => bif Nat.blt k nL then some (px_sto L k (.inl (px_add a (.inl n))), st) else none
    | _ => none
  | .iadd => (px_bin px_add st).map (fun s => (L, s))
  | .isub => (px_bin px_sub st).map (fun s => (L, s))
  | .imul => (px_bin (px_b2 (· * ·)) st).map (fun s => (L, s))
  | .irem => match st with
    | .inl (.inl n) :: .inl a :: r => bif decide (n = 0) || decide (n < px_low) || decide (px_hig < n) then none else some (L, .inl (px_b2 (fun x y => x - x / y * y) a (.inl n)) :: r)
    | _ => none
  | .iand => (px_bin px_and st).map (fun s => (L, s))
  | .ior => (px_bin (px_b2 (· ||| ·)) st).map (fun s => (L, s))
  | .ixor => (px_bin (px_b2 (· ^^^ ·)) st).map (fun s => (L, s))
  | .ishl => (px_bin (px_b2 (fun x y => x <<< (y &&& 31))) st).map (fun s => (L, s))
  | .ishr => (px_bin (px_b2 (fun x y => x >>> (y &&& 31))) st).map (fun s => (L, s))
  | .iushr => (px_bin (px_b2 (fun x y => (x.toUInt32 >>> (y.toUInt32 &&& Int32.toUInt32 31)).toInt32)) st).map (fun s => (L, s))
  | .i2b => (px_una (px_b1 (fun x => x.toInt8.toInt32)) st).map (fun s => (L, s))
  | .i2c => (px_una (px_b1 (fun x => (x.toUInt32 % 65536).toInt32)) st).map (fun s => (L, s))
  | .ineg => (px_una (px_b1 (fun x => -x)) st).map (fun s => (L, s))
  | .i2l => match st with
    | .inl a :: r => some (L, .inr (.inl (px_i2l g a)) :: r)
    | _ => none
  | .lcmp => match st with
    | .inr (.inl b) :: .inr (.inl a) :: r => some (L, .inl (px_lcmp a b) :: r)
    | _ => none
  | .dup => match st with
    | v :: r => bif px_lg v then none else some (L, v :: v :: r)
    | _ => none
  | .pop => match st with
    | v :: r => bif px_lg v then none else some (L, r)
    | _ => none
  | .dup2 => match st with
    | a :: b :: r => bif px_lg a || px_lg b then none else some (L, a :: b :: a :: b :: r)
    | _ => none
  | .dup_x1 => match st with
    | a :: b :: r => bif px_lg a || px_lg b then none else some (L, a :: b :: a :: r)
    | _ => none
  | _ => none
section PxPure
variable {p : Program} {l : Launch} {e : Env} {R : Room} {s : State} {m : MethodId} {args : Array Value} {below : List Frame} {meth : Method} {c : Code} {H : Heap} {locs : List Loc} {cells slots : Nat} {Q : State → Prop}
variable {cc : ByteArray} {pc nL : Nat} {ls : Array Slot} {E : px_E} {g : px_G} {L L' : List (Nat × px_V)} {st st' : List px_V}
set_option maxHeartbeats 4000000 in
theorem px_pure_ok (hx : p.tables.exec = Jvm.exec) (hb : c.code = cc) {i : Instr} (hd : decode cc pc = .ok (i, px_len i)) (h6 : E.1 6 = E.1 0 &&& 31) (hG : px_Gok E.1 g) (hl : lv_has ls nL (px_lc E L)) (hp : px_pure i nL g L st = some (L', st'))
    (k : ∀ ls' : Array Slot, lv_has ls' nL (px_lc E L') → W p l e R s m args below meth c H locs cells slots Q (F0 m (pc + px_len i) ls' (st'.map (px_v E)))) : W p l e R s m args below meth c H locs cells slots Q (F0 m pc ls (st.map (px_v E))) := by
  cases i
  case iconst n =>
    cases hp
    exact lv_iconst (v := px_i E.1 (.inl n)) hx hb hd rfl (k ls hl)
  case bipush n =>
    cases hp
    exact lv_bipush (v := px_i E.1 (.inl (Int8.ofInt n).toInt32.toInt)) hx hb hd (Int32.ofInt_toInt _).symm (k ls hl)
  case sipush n =>
    cases hp
    exact lv_sipush (v := px_i E.1 (.inl (Int16.ofInt n).toInt32.toInt)) hx hb hd (Int32.ofInt_toInt _).symm (k ls hl)
  case lconst n =>
    cases hp
    exact lv_lconst (v := px_l E.1 (.inl (n.val : Nat))) hx hb hd rfl (k ls hl)
  case aconst_null =>
    cases hp
    exact lv_null hx hb hd (k ls hl)
  case iload_n j =>
    simp only [px_pure] at hp
    split at hp
    · rename_i a hf
      cases hp
      have kk := k ls hl
      simp only [List.map_cons, px_v, px_nrm_ok hG] at kk
      exact lv_iload_n hx hb hd rfl (px_find_ok hl hf) kk
    · cases hp
  case iload j =>
    simp only [px_pure] at hp
    split at hp
    · rename_i a hf
      cases hp
      have kk := k ls hl
      simp only [List.map_cons, px_v, px_nrm_ok hG] at kk
      exact lv_iload hx hb hd (px_find_ok hl hf) kk
    · cases hp
  case lload_n j =>
    obtain ⟨v, hv, hq⟩ := Option.map_eq_some_iff.mp hp
    cases hq
    obtain ⟨hf, hk⟩ := px_ld_inv hv
    obtain a | a | a := v
    · cases hk
    · exact lv_lload_n hx hb hd rfl (px_find_ok hl hf) (k ls hl)
    · cases hk
  case lload j =>
    obtain ⟨v, hv, hq⟩ := Option.map_eq_some_iff.mp hp
    cases hq
    obtain ⟨hf, hk⟩ := px_ld_inv hv
    obtain a | a | a := v
    · cases hk
    · exact lv_lload hx hb hd (px_find_ok hl hf) (k ls hl)
    · cases hk
  case aload_n j =>
    obtain ⟨v, hv, hq⟩ := Option.map_eq_some_iff.mp hp
    cases hq
    obtain ⟨hf, hk⟩ := px_ld_inv hv
    obtain a | a | a := v
    · cases hk
    · cases hk
    · cases a with
      | none => exact lv_aload_nN hx hb hd rfl (px_find_ok hl hf) (k ls hl)
      | some r => exact lv_aload_n hx hb hd rfl (px_find_ok hl hf) (k ls hl)
  case aload j =>
    obtain ⟨v, hv, hq⟩ := Option.map_eq_some_iff.mp hp
    cases hq
    obtain ⟨hf, hk⟩ := px_ld_inv hv
    obtain a | a | a := v
    · cases hk
    · cases hk
    · cases a with
      | none => exact lv_aloadN hx hb hd (px_find_ok hl hf) (k ls hl)
      | some r => exact lv_aload hx hb hd (px_find_ok hl hf) (k ls hl)
  case istore_n j =>
    simp only [px_pure] at hp
    split at hp
    · rename_i a r
      cases hn : Nat.blt j nL with
      | false => rw [hn] at hp; cases hp
      | true =>
        rw [hn] at hp
        cases hp
        exact lv_istore_n hx hb hd rfl hl (Nat.blt_eq.mp hn) (px_sto_ok E L j (.inl a)) k
    · cases hp
  case istore j =>
    simp only [px_pure] at hp
    split at hp
    · rename_i a r
      cases hn : Nat.blt j nL with
      | false => rw [hn] at hp; cases hp
      | true =>
        rw [hn] at hp
        cases hp
        exact lv_istore hx hb hd hl (Nat.blt_eq.mp hn) (px_sto_ok E L j (.inl a)) k
    · cases hp
  case astore_n j =>
    simp only [px_pure] at hp
    split at hp
    · rename_i a r
      cases hn : Nat.blt j nL with
      | false => rw [hn] at hp; cases hp
      | true =>
        rw [hn] at hp
        cases hp
        cases a with
        | none => exact lv_astore_nN hx hb hd rfl hl (Nat.blt_eq.mp hn) (px_sto_ok E L j (.inr (.inr none))) k
        | some a => exact lv_astore_n hx hb hd rfl hl (Nat.blt_eq.mp hn) (px_sto_ok E L j (.inr (.inr (some a)))) k
    · cases hp
  case astore j =>
    simp only [px_pure] at hp
    split at hp
    · rename_i a r
      cases hn : Nat.blt j nL with
      | false => rw [hn] at hp; cases hp
      | true =>
        rw [hn] at hp
        cases hp
        cases a with
        | none => exact lv_astoreN hx hb hd hl (Nat.blt_eq.mp hn) (px_sto_ok E L j (.inr (.inr none))) k
        | some a => exact lv_astore hx hb hd hl (Nat.blt_eq.mp hn) (px_sto_ok E L j (.inr (.inr (some a)))) k
    · cases hp
  case lstore_n j =>
    simp only [px_pure] at hp
    split at hp
    · rename_i a r
      cases hn : Nat.blt (j + 1) nL with
      | false => rw [hn] at hp; cases hp
      | true =>
        rw [hn] at hp
        cases hp
        exact lv_lstore_n hx hb hd rfl hl (Nat.blt_eq.mp hn) (px_sto2_ok E L j (.inr (.inl a))) k
    · cases hp
  case lstore j =>
    simp only [px_pure] at hp
    split at hp
    · rename_i a r
      cases hn : Nat.blt (j + 1) nL with
      | false => rw [hn] at hp; cases hp
      | true =>
        rw [hn] at hp
        cases hp
        exact lv_lstore hx hb hd hl (Nat.blt_eq.mp hn) (px_sto2_ok E L j (.inr (.inl a))) k
    · cases hp
  case iinc j n =>
    simp only [px_pure] at hp
    split at hp
    · rename_i a hf
      cases hn : Nat.blt j nL with
      | false => rw [hn] at hp; cases hp
      | true =>
        rw [hn] at hp
        cases hp
        obtain ⟨kk, hkk⟩ := px_find_pos (E := E) hf
        exact lv_iinc (v := px_i E.1 (px_add a (.inl n))) hx hb hd hl hkk (px_add_ok E.1 a (.inl n)).symm (Nat.blt_eq.mp hn) (px_sto_ok E L j (.inl (px_add a (.inl n)))) k
    · cases hp
  case iadd =>
    obtain ⟨w, hw, hq⟩ := Option.map_eq_some_iff.mp hp
    cases hq
    obtain ⟨a, b, r, rfl, rfl⟩ := px_bin_inv hw
    have kk := k ls hl
    simp only [List.map_cons, px_v, px_add_ok] at kk
    exact lv_iadd hx hb hd kk
  case isub =>
    obtain ⟨w, hw, hq⟩ := Option.map_eq_some_iff.mp hp
    cases hq
    obtain ⟨a, b, r, rfl, rfl⟩ := px_bin_inv hw
    have kk := k ls hl
    simp only [List.map_cons, px_v, px_sub_ok] at kk
    exact lv_isub hx hb hd kk
  case imul =>
    obtain ⟨w, hw, hq⟩ := Option.map_eq_some_iff.mp hp
    cases hq
    obtain ⟨a, b, r, rfl, rfl⟩ := px_bin_inv hw
    have kk := k ls hl
    simp only [List.map_cons, px_v, px_b2_ok] at kk
    exact lv_imul hx hb hd kk
  case irem =>
    simp only [px_pure] at hp
    split at hp
    · rename_i n a r
      cases hn : decide (n = 0) || decide (n < px_low) || decide (px_hig < n) with
      | true => rw [hn] at hp; cases hp
      | false =>
        rw [hn] at hp
        cases hp
        simp only [Bool.or_eq_false_iff, decide_eq_false_iff_not] at hn
        have hz : ¬ px_i E.1 (.inl n) = 0 := fun q => by
          have h1 := congrArg Int32.toInt q
          rw [show (px_i E.1 (.inl n)) = Int32.ofInt n from rfl, px_ofInt (by omega) (by omega)] at h1
          exact hn.1.1 h1
        have kk := k ls hl
        simp only [List.map_cons, px_v, px_b2_ok] at kk
        exact lv_irem hx hb hd hz kk
    · cases hp
  case iand =>
    obtain ⟨w, hw, hq⟩ := Option.map_eq_some_iff.mp hp
    cases hq
    obtain ⟨a, b, r, rfl, rfl⟩ := px_bin_inv hw
    have kk := k ls hl
    simp only [List.map_cons, px_v, px_and_ok E.1 h6] at kk
    exact lv_iand hx hb hd kk
  case ior =>
    obtain ⟨w, hw, hq⟩ := Option.map_eq_some_iff.mp hp
    cases hq
    obtain ⟨a, b, r, rfl, rfl⟩ := px_bin_inv hw
    have kk := k ls hl
    simp only [List.map_cons, px_v, px_b2_ok] at kk
    exact lv_ior hx hb hd kk
  case ixor =>
    obtain ⟨w, hw, hq⟩ := Option.map_eq_some_iff.mp hp
    cases hq
    obtain ⟨a, b, r, rfl, rfl⟩ := px_bin_inv hw
    have kk := k ls hl
    simp only [List.map_cons, px_v, px_b2_ok] at kk
    exact lv_ixor hx hb hd kk
  case ishl =>
    obtain ⟨w, hw, hq⟩ := Option.map_eq_some_iff.mp hp
    cases hq
    obtain ⟨a, b, r, rfl, rfl⟩ := px_bin_inv hw
    have kk := k ls hl
    simp only [List.map_cons, px_v, px_b2_ok] at kk
    exact lv_ishl hx hb hd kk
  case ishr =>
    obtain ⟨w, hw, hq⟩ := Option.map_eq_some_iff.mp hp
    cases hq
    obtain ⟨a, b, r, rfl, rfl⟩ := px_bin_inv hw
    have kk := k ls hl
    simp only [List.map_cons, px_v, px_b2_ok] at kk
    exact lv_ishr hx hb hd kk
  case iushr =>
    obtain ⟨w, hw, hq⟩ := Option.map_eq_some_iff.mp hp
    cases hq
    obtain ⟨a, b, r, rfl, rfl⟩ := px_bin_inv hw
    have kk := k ls hl
    simp only [List.map_cons, px_v, px_b2_ok] at kk
    exact lv_iushr hx hb hd rfl kk
  case i2b =>
    obtain ⟨w, hw, hq⟩ := Option.map_eq_some_iff.mp hp
    cases hq
    obtain ⟨a, r, rfl, rfl⟩ := px_una_inv hw
    have kk := k ls hl
    simp only [List.map_cons, px_v, px_b1_ok] at kk
    exact lv_i2b hx hb hd rfl kk
  case i2c =>
    obtain ⟨w, hw, hq⟩ := Option.map_eq_some_iff.mp hp
    cases hq
    obtain ⟨a, r, rfl, rfl⟩ := px_una_inv hw
    have kk := k ls hl
    simp only [List.map_cons, px_v, px_b1_ok] at kk
    exact lv_i2c hx hb hd rfl kk
  case ineg =>
    obtain ⟨w, hw, hq⟩ := Option.map_eq_some_iff.mp hp
    cases hq
    obtain ⟨a, r, rfl, rfl⟩ := px_una_inv hw
    have kk := k ls hl
    simp only [List.map_cons, px_v, px_b1_ok] at kk
    exact lv_ineg hx hb hd kk
  case i2l =>
    simp only [px_pure] at hp
    split at hp
    · rename_i a r
      cases hp
      exact lv_i2l hx hb hd (px_i2l_ok hG a).symm (k ls hl)
    · cases hp
  case lcmp =>
    simp only [px_pure] at hp
    split at hp
    · rename_i b a r
      cases hp
      have kk := k ls hl
      simp only [List.map_cons, px_v, px_lcmp_ok] at kk
      exact W.lcmp hx hb hd kk
    · cases hp
  case dup =>
    simp only [px_pure] at hp
    split at hp
    · rename_i v r
      cases hn : px_lg v with
      | true => rw [hn] at hp; cases hp
      | false =>
        rw [hn] at hp
        cases hp
        exact lv_dup hx hb hd (px_cat1 hn) (k ls hl)
    · cases hp
  case pop =>
    simp only [px_pure] at hp
    split at hp
    · rename_i v r
      cases hn : px_lg v with
      | true => rw [hn] at hp; cases hp
      | false =>
        rw [hn] at hp
        cases hp
        exact lv_pop hx hb hd (px_cat1 hn) (k ls hl)
    · cases hp
  case dup2 =>
    simp only [px_pure] at hp
    split at hp
    · rename_i v w r
      cases hn : px_lg v || px_lg w with
      | true => rw [hn] at hp; cases hp
      | false =>
        rw [hn] at hp
        cases hp
        simp only [Bool.or_eq_false_iff] at hn
        exact lv_dup2_11 hx hb hd (px_cat1 hn.1) (px_cat1 hn.2) (k ls hl)
    · cases hp
  case dup_x1 =>
    simp only [px_pure] at hp
    split at hp
    · rename_i v w r
      cases hn : px_lg v || px_lg w with
      | true => rw [hn] at hp; cases hp
      | false =>
        rw [hn] at hp
        cases hp
        simp only [Bool.or_eq_false_iff] at hn
        exact lv_dup_x1 hx hb hd (px_cat1 hn.1) (px_cat1 hn.2) (k ls hl)
    · cases hp
  all_goals (exact absurd hp (by simp [px_pure]))
end PxPure
end
section
/-! Symbolic runs, part 3: branches and switches. Where the bounds leave a condition open both ways are gone. -/
def px_to (pc : Nat) (off : Int) : Option Nat := bif decide (0 ≤ (pc : Int) + off) then some ((pc : Int) + off).toNat else none
theorem px_to_ok {pc : Nat} {off : Int} {t : Nat} (h : px_to pc off = some t) : (pc : Int) + off = (t : Int) := by
  unfold px_to at h
  by_cases hq : 0 ≤ (pc : Int) + off
  · rw [decide_eq_true hq] at h
    simp only [cond_true, Option.some.injEq] at h
    subst h
    exact (Int.toNat_of_nonneg hq).symm
  · rw [decide_eq_false hq] at h
    cases h
def px_ltd (g : px_G) (a b : px_I) : List (Bool × px_G) :=
  bif decide ((px_rg g a).2 < (px_rg g b).1) then [(true, g)]
  else bif decide ((px_rg g b).2 ≤ (px_rg g a).1) then [(false, g)]
  else [(true, px_tight (px_tight g a px_low ((px_rg g b).2 - 1)) b ((px_rg g a).1 + 1) px_hig), (false, px_tight (px_tight g a (px_rg g b).1 px_hig) b px_low (px_rg g a).2)]
def px_eqd (g : px_G) (a b : px_I) : List (Bool × px_G) :=
  bif decide ((px_rg g a).2 < (px_rg g b).1) || decide ((px_rg g b).2 < (px_rg g a).1) then [(false, g)]
  else bif decide ((px_rg g a).1 = (px_rg g a).2) && decide ((px_rg g b).1 = (px_rg g b).2) then [(true, g)]
  else [(true, px_tight (px_tight g a (px_rg g b).1 (px_rg g b).2) b (px_rg g a).1 (px_rg g a).2), (false, g)]
theorem px_ltd_ok {x : px_X} {g : px_G} (h : px_Gok x g) (a b : px_I) : ∃ q ∈ px_ltd g a b, (q.1 = true ↔ px_i x a < px_i x b) ∧ px_Gok x q.2 := by
  have ha := px_rg_ok h a
  have hb := px_rg_ok h b
  have aa := px_any (px_i x a)
  have ab := px_any (px_i x b)
  simp only [Int32.lt_iff_toInt_lt]
  unfold px_ltd
  by_cases h1 : (px_rg g a).2 < (px_rg g b).1
  · rw [decide_eq_true h1]
    exact ⟨_, List.mem_singleton.mpr rfl, by simp only [true_iff]; omega, h⟩
  · rw [decide_eq_false h1]
    by_cases h2 : (px_rg g b).2 ≤ (px_rg g a).1
    · rw [decide_eq_true h2]
      exact ⟨_, List.mem_singleton.mpr rfl, by simp only [Bool.false_eq_true, false_iff]; omega, h⟩
    · rw [decide_eq_false h2]
      by_cases h3 : (px_i x a).toInt < (px_i x b).toInt
      · exact ⟨_, List.mem_cons_self, by simp only [h3], px_tight_ok (px_tight_ok h a aa.1 (by omega)) b (by omega) ab.2⟩
      · exact ⟨_, List.mem_cons_of_mem _ (List.mem_singleton.mpr rfl), by simp only [h3, Bool.false_eq_true], px_tight_ok (px_tight_ok h a (by omega) aa.2) b ab.1 (by omega)⟩
theorem px_eqd_ok {x : px_X} {g : px_G} (h : px_Gok x g) (a b : px_I) : ∃ q ∈ px_eqd g a b, (q.1 = true ↔ px_i x a = px_i x b) ∧ px_Gok x q.2 := by
  have ha := px_rg_ok h a
  have hb := px_rg_ok h b
  simp only [← Int32.toInt_inj]
  unfold px_eqd
  by_cases h1 : (px_rg g a).2 < (px_rg g b).1 ∨ (px_rg g b).2 < (px_rg g a).1
  · rw [show (decide ((px_rg g a).2 < (px_rg g b).1) || decide ((px_rg g b).2 < (px_rg g a).1)) = true by simpa using h1]
    exact ⟨_, List.mem_singleton.mpr rfl, by simp only [Bool.false_eq_true, false_iff]; omega, h⟩
  · rw [show (decide ((px_rg g a).2 < (px_rg g b).1) || decide ((px_rg g b).2 < (px_rg g a).1)) = false by simpa using h1]
    by_cases h2 : (px_rg g a).1 = (px_rg g a).2 ∧ (px_rg g b).1 = (px_rg g b).2
    · rw [show (decide ((px_rg g a).1 = (px_rg g a).2) && decide ((px_rg g b).1 = (px_rg g b).2)) = true by simpa using h2]
      exact ⟨_, List.mem_singleton.mpr rfl, by simp only [true_iff]; omega, h⟩
    · rw [show (decide ((px_rg g a).1 = (px_rg g a).2) && decide ((px_rg g b).1 = (px_rg g b).2)) = false by
        rw [Bool.eq_false_iff]; intro q; simp only [Bool.and_eq_true, decide_eq_true_eq] at q; exact h2 q]
      by_cases h3 : (px_i x a).toInt = (px_i x b).toInt
      · exact ⟨_, List.mem_cons_self, by simp only [h3], px_tight_ok (px_tight_ok h a (by omega) (by omega)) b (by omega) (by omega)⟩
      · exact ⟨_, List.mem_cons_of_mem _ (List.mem_singleton.mpr rfl), by simp only [h3, Bool.false_eq_true], h⟩
def px_neg (l : List (Bool × px_G)) : List (Bool × px_G) := l.map (fun q => (!q.1, q.2))
def px_cd (c : ClassFile.Cond) (g : px_G) (a b : px_I) : List (Bool × px_G) := match c with
  | .eq => px_eqd g a b
  | .ne => px_neg (px_eqd g a b)
  | .lt => px_ltd g a b
  | .ge => px_neg (px_ltd g a b)
  | .gt => px_ltd g b a
  | .le => px_neg (px_ltd g b a)
theorem px_neg_ok {x : px_X} {l : List (Bool × px_G)} {P : Prop} (h : ∃ q ∈ l, (q.1 = true ↔ P) ∧ px_Gok x q.2) : ∃ q ∈ px_neg l, (q.1 = true ↔ ¬ P) ∧ px_Gok x q.2 := by
  obtain ⟨q, h1, h2, h3⟩ := h
  refine ⟨(!q.1, q.2), List.mem_map.mpr ⟨q, h1, rfl⟩, ?_, h3⟩
  rw [← h2]
  cases q.1 <;> simp
/-- a variable with more than one number left: its bounds in two halves -/
def px_half (g : px_G) (a : px_I) : List px_G := [px_tight g a px_low (((px_rg g a).1 + (px_rg g a).2) / 2), px_tight g a (((px_rg g a).1 + (px_rg g a).2) / 2 + 1) px_hig]
theorem px_half_ok {x : px_X} {g : px_G} (h : px_Gok x g) (a : px_I) : ∃ q ∈ px_half g a, px_Gok x q := by
  have aa := px_any (px_i x a)
  by_cases h3 : (px_i x a).toInt ≤ ((px_rg g a).1 + (px_rg g a).2) / 2
  · exact ⟨_, List.mem_cons_self, px_tight_ok h a aa.1 h3⟩
  · exact ⟨_, List.mem_cons_of_mem _ (List.mem_singleton.mpr rfl), px_tight_ok h a (by omega) aa.2⟩
/-- what an int is, where it must be known: the number, or the halves -/
def px_know (g : px_G) (a : px_I) : Option (Int ⊕ List px_G) := match px_nrm g a with
  | .inl n => bif decide (px_low ≤ n) && decide (n ≤ px_hig) then some (.inl n) else none
  | .inr (.inl i) => some (.inr (px_half g (.inr (.inl i))))
  | _ => none
theorem px_know_ok {x : px_X} {g : px_G} (h : px_Gok x g) {a : px_I} {y : Int ⊕ List px_G} (hy : px_know g a = some y) : match y with
    | .inl n => px_i x a = Int32.ofInt n ∧ (px_i x a).toInt = n
    | .inr l => ∃ q ∈ l, px_Gok x q := by
  unfold px_know at hy
  split at hy
  · rename_i n hn
    cases hq : decide (px_low ≤ n) && decide (n ≤ px_hig) with
    | false => rw [hq] at hy; cases hy
    | true =>
      rw [hq] at hy
      simp only [cond_true, Option.some.injEq] at hy
      subst hy
      simp only [Bool.and_eq_true, decide_eq_true_eq] at hq
      have := px_nrm_ok h a
      rw [hn] at this
      refine ⟨this.symm, ?_⟩
      rw [← this]
      exact px_ofInt hq.1 hq.2
  · rename_i i hi
    simp only [Option.some.injEq] at hy
    subst hy
    exact px_half_ok h _
  · cases hy
abbrev px_S : Type := List (Nat × List px_V × px_G)
def px_sw (pc : Nat) (st r : List px_V) (g : px_G) (a : px_I) (f : Int → Option Int) : Option px_S := match px_know g a with
  | some (.inl n) => match f n with
    | some off => match px_to pc off with
      | some t => some [(t, r, g)]
      | none => none
    | none => none
  | some (.inr gs) => some (gs.map (fun q => (pc, st, q)))
  | none => none
def px_tab (dflt lo hi : Int) (offs : Array Int) (n : Int) : Option Int := bif decide (n < lo) || decide (hi < n) then some dflt else offs[(n - lo).toNat]?
def px_lookup (dflt : Int) (ps : Array (Int × Int)) (n : Int) : Option Int := bif (ps.toList.zip (ps.toList.drop 1)).all (fun (a, next) => a.1 < next.1) then some (Op.lookupswitch.offset ps.toList dflt n) else none
def px_br (i : Instr) (pc : Nat) (st : List px_V) (g : px_G) : Option px_S := match i with
  | .ifCond c off => match st with
    | .inl a :: r => match px_to pc off with
      | some t => some ((px_cd c g a (.inl 0)).map (fun q => (bif q.1 then t else pc + 3, r, q.2)))
      | none => none
    | _ => none
  | .if_icmp c off => match st with
    | .inl b :: .inl a :: r => match px_to pc off with
      | some t => some ((px_cd c g a b).map (fun q => (bif q.1 then t else pc + 3, r, q.2)))
      | none => none
    | _ => none
  | .goto off => match px_to pc off with
    | some t => some [(t, st, g)]
    | none => none
  | .ifnull off => match st with
    | .inr (.inr none) :: r => match px_to pc off with
      | some t => some [(t, r, g)]
      | none => none
    | .inr (.inr (some _)) :: r => some [(pc + 3, r, g)]
    | _ => none
  | .ifnonnull off => match st with
    | .inr (.inr (some _)) :: r => match px_to pc off with
      | some t => some [(t, r, g)]
      | none => none
    | .inr (.inr none) :: r => some [(pc + 3, r, g)]
    | _ => none
  | .tableswitch dflt lo hi offs => match st with
    | .inl a :: r => px_sw pc st r g a (px_tab dflt lo hi offs)
    | _ => none
  | .lookupswitch dflt ps => match st with
    | .inl a :: r => px_sw pc st r g a (px_lookup dflt ps)
    | _ => none
  | _ => none
section PxBr
variable {p : Program} {l : Launch} {e : Env} {R : Room} {s : State} {m : MethodId} {args : Array Value} {below : List Frame} {meth : Method} {c : Code} {H : Heap} {locs : List Loc} {cells slots : Nat} {Q : State → Prop}
variable {cc : ByteArray} {pc : Nat} {ls : Array Slot} {E : px_E} {g : px_G} {st : List px_V} {S : px_S}
theorem px_two {P : Prop} {t f : Nat} {r : List px_V} {l0 : List (Bool × px_G)} {Wt : Nat → Prop} (hl : ∃ q ∈ l0, (q.1 = true ↔ P) ∧ px_Gok E.1 q.2)
    (k : ∀ q ∈ l0.map (fun q => ((bif q.1 then t else f), r, q.2)), px_Gok E.1 q.2.2 → Wt q.1) : (P → Wt t) ∧ (¬ P → Wt f) := by
  obtain ⟨q, h1, h2, h3⟩ := hl
  have h4 := k _ (List.mem_map.mpr ⟨q, h1, rfl⟩) h3
  cases hq : q.1 with
  | true =>
    rw [hq] at h4
    exact ⟨fun _ => h4, fun n => absurd (h2.mp hq) n⟩
  | false =>
    rw [hq] at h4
    exact ⟨fun y => absurd (hq.symm.trans (h2.mpr y)) (by decide), fun _ => h4⟩
theorem px_two' {P : Prop} {t f : Nat} {r : List px_V} {l0 : List (Bool × px_G)} {Wt : Nat → List px_V → Prop} (hl : ∃ q ∈ l0, (q.1 = true ↔ P) ∧ px_Gok E.1 q.2)
    (k : ∀ q ∈ l0.map (fun q => ((bif q.1 then t else f), r, q.2)), px_Gok E.1 q.2.2 → Wt q.1 q.2.1) : (P → Wt t r) ∧ (¬ P → Wt f r) :=
  px_two (Wt := fun n => Wt n r) hl (fun q hq hg => by
    have h5 : q.2.1 = r := by obtain ⟨_, _, rfl⟩ := List.mem_map.mp hq; rfl
    rw [← h5]; exact k q hq hg)
theorem px_sw_inv {r : List px_V} {a : px_I} {f : Int → Option Int} (h : px_sw pc st r g a f = some S) (hG : px_Gok E.1 g) :
    (∃ (n off : Int) (t : Nat), px_i E.1 a = Int32.ofInt n ∧ (px_i E.1 a).toInt = n ∧ f n = some off ∧ (pc : Int) + off = (t : Int) ∧ S = [(t, r, g)]) ∨ ∃ q, (pc, st, q) ∈ S ∧ px_Gok E.1 q := by
  unfold px_sw at h
  split at h
  · rename_i n hn
    split at h
    · rename_i off ho
      split at h
      · rename_i t ht
        have hk := px_know_ok hG hn
        exact Or.inl ⟨n, off, t, hk.1, hk.2, ho, px_to_ok ht, (Option.some.inj h).symm⟩
      · cases h
    · cases h
  · rename_i gs hn
    obtain ⟨q, h1, h2⟩ := px_know_ok hG hn
    cases h
    exact Or.inr ⟨q, List.mem_map.mpr ⟨q, h1, rfl⟩, h2⟩
  · cases h
theorem px_not_lt {x y : Int32} : ¬ x < y ↔ y ≤ x := by
  rw [Int32.lt_iff_toInt_lt, Int32.le_iff_toInt_le]; omega
set_option maxHeartbeats 4000000 in
theorem px_br_ok (hx : p.tables.exec = Jvm.exec) (hb : c.code = cc) {i : Instr} {len : Nat} (hd : decode cc pc = .ok (i, len)) (hlen : px_len i = len ∨ (∃ a b c d, i = .tableswitch a b c d) ∨ ∃ a b, i = .lookupswitch a b) (hG : px_Gok E.1 g) (hp : px_br i pc st g = some S)
    (k : ∀ q ∈ S, px_Gok E.1 q.2.2 → W p l e R s m args below meth c H locs cells slots Q (F0 m q.1 ls (q.2.1.map (px_v E)))) : W p l e R s m args below meth c H locs cells slots Q (F0 m pc ls (st.map (px_v E))) := by
  cases i
  case ifCond cd off =>
    have hlen : (3 : Nat) = len := by rcases hlen with h | ⟨_, _, _, _, h⟩ | ⟨_, _, h⟩ <;> first | exact h | cases h
    subst hlen
    simp only [px_br] at hp
    split at hp
    · rename_i a r
      split at hp
      · rename_i t ht
        cases hp
        have ht := px_to_ok ht
        have e0 : px_i E.1 (.inl 0) = 0 := rfl
        cases cd
        · have h5 := px_two' (Wt := fun n y => W p l e R s m args below meth c H locs cells slots Q (F0 m n ls (y.map (px_v E)))) (px_eqd_ok hG a (.inl 0)) k
          rw [e0] at h5
          exact lv_if_eq hx hb hd ht h5.1 h5.2
        · have h5 := px_two' (Wt := fun n y => W p l e R s m args below meth c H locs cells slots Q (F0 m n ls (y.map (px_v E)))) (px_neg_ok (px_eqd_ok hG a (.inl 0))) k
          rw [e0] at h5
          exact lv_if_ne hx hb hd ht h5.1 (fun q => h5.2 (fun n => n q))
        · have h5 := px_two' (Wt := fun n y => W p l e R s m args below meth c H locs cells slots Q (F0 m n ls (y.map (px_v E)))) (px_ltd_ok hG a (.inl 0)) k
          rw [e0] at h5
          exact lv_if_lt hx hb hd ht h5.1 h5.2
        · have h5 := px_two' (Wt := fun n y => W p l e R s m args below meth c H locs cells slots Q (F0 m n ls (y.map (px_v E)))) (px_neg_ok (px_ltd_ok hG a (.inl 0))) k
          rw [e0, px_not_lt] at h5
          exact lv_if_ge hx hb hd ht h5.1 h5.2
        · have h5 := px_two' (Wt := fun n y => W p l e R s m args below meth c H locs cells slots Q (F0 m n ls (y.map (px_v E)))) (px_ltd_ok hG (.inl 0) a) k
          rw [e0] at h5
          exact lv_if_gt hx hb hd ht h5.1 h5.2
        · have h5 := px_two' (Wt := fun n y => W p l e R s m args below meth c H locs cells slots Q (F0 m n ls (y.map (px_v E)))) (px_neg_ok (px_ltd_ok hG (.inl 0) a)) k
          rw [e0, px_not_lt] at h5
          exact lv_if_le hx hb hd ht h5.1 h5.2
      · cases hp
    · cases hp
  case if_icmp cd off =>
    have hlen : (3 : Nat) = len := by rcases hlen with h | ⟨_, _, _, _, h⟩ | ⟨_, _, h⟩ <;> first | exact h | cases h
    subst hlen
    simp only [px_br] at hp
    split at hp
    · rename_i b a r
      split at hp
      · rename_i t ht
        cases hp
        have ht := px_to_ok ht
        cases cd
        · have h5 := px_two' (Wt := fun n y => W p l e R s m args below meth c H locs cells slots Q (F0 m n ls (y.map (px_v E)))) (px_eqd_ok hG a b) k
          exact lv_icmp_eq hx hb hd ht h5.1 h5.2
        · have h5 := px_two' (Wt := fun n y => W p l e R s m args below meth c H locs cells slots Q (F0 m n ls (y.map (px_v E)))) (px_neg_ok (px_eqd_ok hG a b)) k
          exact lv_icmp_ne hx hb hd ht h5.1 (fun q => h5.2 (fun n => n q))
        · have h5 := px_two' (Wt := fun n y => W p l e R s m args below meth c H locs cells slots Q (F0 m n ls (y.map (px_v E)))) (px_ltd_ok hG a b) k
          exact lv_icmp_lt hx hb hd ht h5.1 h5.2
        · have h5 := px_two' (Wt := fun n y => W p l e R s m args below meth c H locs cells slots Q (F0 m n ls (y.map (px_v E)))) (px_neg_ok (px_ltd_ok hG a b)) k
          rw [px_not_lt] at h5
          exact lv_icmp_ge hx hb hd ht h5.1 h5.2
        · have h5 := px_two' (Wt := fun n y => W p l e R s m args below meth c H locs cells slots Q (F0 m n ls (y.map (px_v E)))) (px_ltd_ok hG b a) k
          exact lv_icmp_gt hx hb hd ht h5.1 h5.2
        · have h5 := px_two' (Wt := fun n y => W p l e R s m args below meth c H locs cells slots Q (F0 m n ls (y.map (px_v E)))) (px_neg_ok (px_ltd_ok hG b a)) k
          rw [px_not_lt] at h5
          exact lv_icmp_le hx hb hd ht h5.1 h5.2
      · cases hp
    · cases hp
  case goto off =>
    have hlen : (3 : Nat) = len := by rcases hlen with h | ⟨_, _, _, _, h⟩ | ⟨_, _, h⟩ <;> first | exact h | cases h
    subst hlen
    simp only [px_br] at hp
    split at hp
    · rename_i t ht
      cases hp
      exact lv_goto hx hb hd (px_to_ok ht) (k _ (List.mem_singleton.mpr rfl) hG)
    · cases hp
  case ifnull off =>
    have hlen : (3 : Nat) = len := by rcases hlen with h | ⟨_, _, _, _, h⟩ | ⟨_, _, h⟩ <;> first | exact h | cases h
    subst hlen
    simp only [px_br] at hp
    split at hp
    · split at hp
      · rename_i t ht
        cases hp
        exact lv_ifnullN hx hb hd (px_to_ok ht) (k _ (List.mem_singleton.mpr rfl) hG)
      · cases hp
    · cases hp
      exact lv_ifnull hx hb hd (k _ (List.mem_singleton.mpr rfl) hG)
    · cases hp
  case ifnonnull off =>
    have hlen : (3 : Nat) = len := by rcases hlen with h | ⟨_, _, _, _, h⟩ | ⟨_, _, h⟩ <;> first | exact h | cases h
    subst hlen
    simp only [px_br] at hp
    split at hp
    · split at hp
      · rename_i t ht
        cases hp
        exact lv_ifnonnull hx hb hd (px_to_ok ht) (k _ (List.mem_singleton.mpr rfl) hG)
      · cases hp
    · cases hp
      exact lv_ifnonnullN hx hb hd (k _ (List.mem_singleton.mpr rfl) hG)
    · cases hp
  case tableswitch dflt lo hi offs =>
    simp only [px_br] at hp
    split at hp
    · rename_i a r
      rcases px_sw_inv (E := E) hp hG with ⟨n, off, t, h1, h2, h3, h4, rfl⟩ | ⟨q, h1, h2⟩
      · have hk := k _ (List.mem_singleton.mpr rfl) hG
        unfold px_tab at h3
        by_cases h7 : n < lo ∨ hi < n
        · rw [show (decide (n < lo) || decide (hi < n)) = true by simpa using h7] at h3
          simp only [cond_true, Option.some.injEq] at h3
          subst h3
          exact lv_tableOut hx hb hd (by rw [h2]; exact h7) h4 hk
        · rw [show (decide (n < lo) || decide (hi < n)) = false by rw [Bool.eq_false_iff]; intro q; simp only [Bool.or_eq_true, decide_eq_true_eq] at q; exact h7 q] at h3
          exact lv_tableIn hx hb hd (by rw [h2]; omega) (by rw [h2]; omega) (by rw [h2]; exact h3) h4 hk
      · exact k _ h1 h2
    · cases hp
  case lookupswitch dflt ps =>
    simp only [px_br] at hp
    split at hp
    · rename_i a r
      rcases px_sw_inv (E := E) hp hG with ⟨n, off, t, h1, h2, h3, h4, rfl⟩ | ⟨q, h1, h2⟩
      · have hk := k _ (List.mem_singleton.mpr rfl) hG
        unfold px_lookup at h3
        cases h7 : (ps.toList.zip (ps.toList.drop 1)).all (fun (a, next) => a.1 < next.1) with
        | false => rw [h7] at h3; cases h3
        | true =>
          rw [h7] at h3
          simp only [cond_true, Option.some.injEq] at h3
          exact lv_lookup hx hb hd h7 (by rw [h2]; exact h3) h4 hk
      · exact k _ h1 h2
    · cases hp
  all_goals (exact absurd hp (by simp [px_br]))
end PxBr
end
section
/-! Symbolic runs, part 4: cells. What was made since the law's start lies in a tree, at the places 64, 65 .. ; place r is the address b + (r - 64). -/
def px_at {α : Type} (d : α) (j : Nat) : List (Nat × α) → α
  | [] => d
  | q :: r => bif Nat.beq q.1 j then q.2 else px_at d j r
theorem px_at_cons {α : Type} (d : α) (j k : Nat) (v : α) (l : List (Nat × α)) : px_at d j ((k, v) :: l) = if j = k then v else px_at d j l := by
  show (bif Nat.beq k j then v else px_at d j l) = _
  by_cases h : k = j
  · rw [if_pos h.symm, show Nat.beq k j = true from Nat.beq_eq.mpr h]; rfl
  · rw [if_neg (fun q => h q.symm), show Nat.beq k j = false from Bool.eq_false_iff.mpr (fun q => h (Nat.beq_eq.mp q))]; rfl
/-- an array: the number of its type, length, what lies at first everywhere, what was laid since; an object: the number of its class, fields; an exception: its kind -/
abbrev px_C : Type := (Nat × Nat × px_V × List (Nat × px_V)) ⊕ ((Nat × List px_V) ⊕ Nat)
def px_T : Nat → Type
  | 0 => px_C
  | d + 1 => px_T d × px_T d
def px_tg : (d : Nat) → px_T d → Nat → px_C
  | 0, t, _ => t
  | d + 1, t, i => bif Nat.beq (i % 2) 0 then px_tg d (Prod.fst (α := px_T d) (β := px_T d) t) (i / 2) else px_tg d (Prod.snd (α := px_T d) (β := px_T d) t) (i / 2)
def px_ts : (d : Nat) → px_T d → Nat → px_C → px_T d
  | 0, _, _, c => c
  | d + 1, t, i, c => bif Nat.beq (i % 2) 0 then Prod.mk (α := px_T d) (β := px_T d) (px_ts d (Prod.fst (α := px_T d) (β := px_T d) t) (i / 2) c) (Prod.snd (α := px_T d) (β := px_T d) t) else Prod.mk (α := px_T d) (β := px_T d) (Prod.fst (α := px_T d) (β := px_T d) t) (px_ts d (Prod.snd (α := px_T d) (β := px_T d) t) (i / 2) c)
def px_t0 : (d : Nat) → px_T d
  | 0 => (.inr (.inr 0) : px_C)
  | d + 1 => Prod.mk (α := px_T d) (β := px_T d) (px_t0 d) (px_t0 d)
theorem px_beq_t {a b : Nat} (h : a = b) : Nat.beq a b = true := Nat.beq_eq.mpr h
theorem px_beq_f {a b : Nat} (h : ¬ a = b) : Nat.beq a b = false := Bool.eq_false_iff.mpr (fun q => h (Nat.beq_eq.mp q))
theorem px_tg_e {d : Nat} (t : px_T (d + 1)) {j : Nat} (h : j % 2 = 0) : px_tg (d + 1) t j = px_tg d (Prod.fst (α := px_T d) (β := px_T d) t) (j / 2) := by
  show (bif Nat.beq (j % 2) 0 then px_tg d (Prod.fst (α := px_T d) (β := px_T d) t) (j / 2) else px_tg d (Prod.snd (α := px_T d) (β := px_T d) t) (j / 2)) = _
  rw [px_beq_t h]; rfl
theorem px_tg_o {d : Nat} (t : px_T (d + 1)) {j : Nat} (h : ¬ j % 2 = 0) : px_tg (d + 1) t j = px_tg d (Prod.snd (α := px_T d) (β := px_T d) t) (j / 2) := by
  show (bif Nat.beq (j % 2) 0 then px_tg d (Prod.fst (α := px_T d) (β := px_T d) t) (j / 2) else px_tg d (Prod.snd (α := px_T d) (β := px_T d) t) (j / 2)) = _
  rw [px_beq_f h]; rfl
theorem px_ts_e {d : Nat} (t : px_T (d + 1)) {i : Nat} (c : px_C) (h : i % 2 = 0) : px_ts (d + 1) t i c = Prod.mk (α := px_T d) (β := px_T d) (px_ts d (Prod.fst (α := px_T d) (β := px_T d) t) (i / 2) c) (Prod.snd (α := px_T d) (β := px_T d) t) := by
  show (bif Nat.beq (i % 2) 0 then Prod.mk (α := px_T d) (β := px_T d) (px_ts d (Prod.fst (α := px_T d) (β := px_T d) t) (i / 2) c) (Prod.snd (α := px_T d) (β := px_T d) t) else Prod.mk (α := px_T d) (β := px_T d) (Prod.fst (α := px_T d) (β := px_T d) t) (px_ts d (Prod.snd (α := px_T d) (β := px_T d) t) (i / 2) c)) = _
  rw [px_beq_t h]; rfl
theorem px_ts_o {d : Nat} (t : px_T (d + 1)) {i : Nat} (c : px_C) (h : ¬ i % 2 = 0) : px_ts (d + 1) t i c = Prod.mk (α := px_T d) (β := px_T d) (Prod.fst (α := px_T d) (β := px_T d) t) (px_ts d (Prod.snd (α := px_T d) (β := px_T d) t) (i / 2) c) := by
  show (bif Nat.beq (i % 2) 0 then Prod.mk (α := px_T d) (β := px_T d) (px_ts d (Prod.fst (α := px_T d) (β := px_T d) t) (i / 2) c) (Prod.snd (α := px_T d) (β := px_T d) t) else Prod.mk (α := px_T d) (β := px_T d) (Prod.fst (α := px_T d) (β := px_T d) t) (px_ts d (Prod.snd (α := px_T d) (β := px_T d) t) (i / 2) c)) = _
  rw [px_beq_f h]; rfl
theorem px_tg_ts : ∀ (d : Nat) (t : px_T d) (i j : Nat) (c : px_C), i < 2 ^ d → j < 2 ^ d → px_tg d (px_ts d t i c) j = if i = j then c else px_tg d t j
  | 0, t, i, j, c, hi, hj => by
    have h1 : i = 0 := by simpa using hi
    have h2 : j = 0 := by simpa using hj
    rw [h1, h2, if_pos rfl]
    rfl
  | d + 1, t, i, j, c, hi, hj => by
    have hi' : i / 2 < 2 ^ d := by rw [Nat.pow_succ] at hi; omega
    have hj' : j / 2 < 2 ^ d := by rw [Nat.pow_succ] at hj; omega
    by_cases mi : i % 2 = 0
    · rw [px_ts_e t c mi]
      by_cases mj : j % 2 = 0
      · refine (px_tg_e _ mj).trans ((px_tg_ts d (Prod.fst (α := px_T d) (β := px_T d) t) (i / 2) (j / 2) c hi' hj').trans ?_)
        by_cases e : i = j
        · rw [if_pos e, if_pos (by rw [e])]
        · rw [if_neg e, if_neg (by omega)]
          exact (px_tg_e t mj).symm
      · refine (px_tg_o _ mj).trans ?_
        rw [if_neg (by omega)]
        exact (px_tg_o t mj).symm
    · rw [px_ts_o t c mi]
      by_cases mj : j % 2 = 0
      · refine (px_tg_e _ mj).trans ?_
        rw [if_neg (by omega)]
        exact (px_tg_e t mj).symm
      · refine (px_tg_o _ mj).trans ((px_tg_ts d (Prod.snd (α := px_T d) (β := px_T d) t) (i / 2) (j / 2) c hi' hj').trans ?_)
        by_cases e : i = j
        · rw [if_pos e, if_pos (by rw [e])]
        · rw [if_neg e, if_neg (by omega)]
          exact (px_tg_o t mj).symm
/-- the next place, how many slots were made, the tree -/
abbrev px_H : Type := Nat × Nat × px_T 10
def px_h0 : px_H := (64, 0, px_t0 10)
/-- classes, array classes, exceptions by their numbers; the heap at the law's start -/
abbrev px_K : Type := va_G × (Nat → ClassId) × (Nat → ClassId) × Heap
def px_cell (cl : List vw_C) (K : px_K) (E : px_E) (c : px_C) (a : Nat) (H : Heap) : Prop := match c with
  | .inl q => H[a]? = some (arrV (K.2.1 q.1) q.2.1 (fun j => px_v E (px_at q.2.2.1 j q.2.2.2)))
  | .inr (.inl q) => va_at K.1 cl (a, .inr (q.1, q.2.map (px_v E))) H
  | .inr (.inr k) => ∃ cell, H[a]? = some cell ∧ cell.cls = K.2.2.1 k ∧ cell.vm.isStatics = false
theorem px_cell.kept {cl : List vw_C} {K : px_K} {E : px_E} {c : px_C} {a : Nat} {H H1 : Heap} (h : px_cell cl K E c a H) (hq : H1[a]? = H[a]?) : px_cell cl K E c a H1 := by
  obtain q | q | k := c
  · exact hq.trans h
  · exact va_at.kept (q := (a, .inr (q.1, q.2.map (px_v E)))) h hq
  · obtain ⟨cell, h1, h2⟩ := h
    exact ⟨cell, hq.trans h1, h2⟩
theorem px_cell.lt {cl : List vw_C} {K : px_K} {E : px_E} {c : px_C} {a : Nat} {H : Heap} (h : px_cell cl K E c a H) : a < H.size := by
  obtain q | q | k := c
  · exact (Array.getElem?_eq_some_iff.mp h).1
  · exact va_at.lt (q := (a, .inr (q.1, q.2.map (px_v E)))) h
  · obtain ⟨cell, h1, h2⟩ := h
    exact (Array.getElem?_eq_some_iff.mp h1).1
def px_HP (cl : List vw_C) (K : px_K) (E : px_E) (h : px_H) (H : Heap) : Prop :=
  64 ≤ h.1 ∧ h.1 ≤ 1024 ∧ H.size = E.2.2 + (h.1 - 64) ∧ (∀ r, 64 ≤ r → r < h.1 → px_cell cl K E (px_tg 10 h.2.2 r) (px_ad E r) H) ∧ ∀ q, q < E.2.2 → H[q]? = K.2.2.2[q]?
theorem px_ad_new (E : px_E) {r : Nat} (h : 64 ≤ r) : px_ad E r = E.2.2 + (r - 64) := by
  unfold px_ad
  rw [if_neg (by omega)]
theorem px_ad_inj (E : px_E) {r q : Nat} (h : 64 ≤ r) (h1 : 64 ≤ q) (e : px_ad E r = px_ad E q) : r = q := by
  rw [px_ad_new E h, px_ad_new E h1] at e
  omega
def px_setc (h : px_H) (r : Nat) (c : px_C) : px_H := (h.1, h.2.1, px_ts 10 h.2.2 r c)
def px_push (h : px_H) (n : Nat) (c : px_C) : px_H := (h.1 + 1, h.2.1 + n, px_ts 10 h.2.2 h.1 c)
theorem px_HP.set {cl : List vw_C} {K : px_K} {E : px_E} {h : px_H} {H H1 : Heap} (hP : px_HP cl K E h H) {r : Nat} (h1 : 64 ≤ r) (h2 : r < h.1) {c : px_C} (hc : px_cell cl K E c (px_ad E r) H1) (hz : H1.size = H.size) (ho : ∀ q, q ≠ px_ad E r → H1[q]? = H[q]?) : px_HP cl K E (px_setc h r c) H1 := by
  obtain ⟨a1, a2, a3, a4, a5⟩ := hP
  refine ⟨a1, a2, hz.trans a3, fun q hq hq2 => ?_, fun q hq => (ho q ?_).trans (a5 q hq)⟩
  · show px_cell cl K E (px_tg 10 (px_ts 10 h.2.2 r c) q) (px_ad E q) H1
    rw [px_tg_ts 10 _ _ _ _ (by show r < 1024; omega) (by have : q < h.1 := hq2; show q < 1024; omega)]
    by_cases e : r = q
    · rw [if_pos e, ← e]; exact hc
    · rw [if_neg e]
      exact (a4 q hq hq2).kept (ho _ (fun w => e (px_ad_inj E h1 hq w.symm)))
  · rw [px_ad_new E h1]; omega
theorem px_HP.push {cl : List vw_C} {K : px_K} {E : px_E} {h : px_H} {H H1 : Heap} (hP : px_HP cl K E h H) (hn : h.1 < 1024) (n : Nat) {c : px_C} (hc : px_cell cl K E c H.size H1) (hz : H1.size = H.size + 1) (ho : ∀ q, q < H.size → H1[q]? = H[q]?) : px_HP cl K E (px_push h n c) H1 ∧ H.size = px_ad E h.1 := by
  obtain ⟨a1, a2, a3, a4, a5⟩ := hP
  have e0 : H.size = px_ad E h.1 := by rw [a3, px_ad_new E a1]
  refine ⟨⟨by show 64 ≤ h.1 + 1; omega, by show h.1 + 1 ≤ 1024; omega, by show H1.size = _ + (h.1 + 1 - 64); omega, fun q hq hq2 => ?_, fun q hq => (ho q ?_).trans (a5 q hq)⟩, e0⟩
  · have hq2 : q < h.1 + 1 := hq2
    show px_cell cl K E (px_tg 10 (px_ts 10 h.2.2 h.1 c) q) (px_ad E q) H1
    rw [px_tg_ts 10 _ _ _ _ (by show h.1 < 1024; omega) (by show q < 1024; omega)]
    by_cases e : h.1 = q
    · rw [if_pos e, ← e, ← e0]; exact hc
    · rw [if_neg e]
      have h5 := a4 q hq (by omega)
      exact h5.kept (ho _ h5.lt)
  · omega
/-- a place that is there -/
def px_here (h : px_H) (r : Nat) : Bool := Nat.ble 64 r && Nat.blt r h.1
theorem px_here_ok {h : px_H} {r : Nat} (q : px_here h r = true) : 64 ≤ r ∧ r < h.1 := by
  simp only [px_here, Bool.and_eq_true, Nat.ble_eq, Nat.blt_eq] at q
  exact q
def px_obj (h : px_H) (r : Nat) : Option (Nat × List px_V) := bif px_here h r then match px_tg 10 h.2.2 r with
  | .inr (.inl q) => some q
  | _ => none else none
def px_arr (h : px_H) (r : Nat) : Option (Nat × Nat × px_V × List (Nat × px_V)) := bif px_here h r then match px_tg 10 h.2.2 r with
  | .inl q => some q
  | _ => none else none
def px_exc (h : px_H) (r : Nat) : Option Nat := bif px_here h r then match px_tg 10 h.2.2 r with
  | .inr (.inr k) => some k
  | _ => none else none
theorem px_obj_ok {cl : List vw_C} {K : px_K} {E : px_E} {h : px_H} {H : Heap} (hP : px_HP cl K E h H) {r : Nat} {q : Nat × List px_V} (ho : px_obj h r = some q) : 64 ≤ r ∧ r < h.1 ∧ va_at K.1 cl (px_ad E r, .inr (q.1, q.2.map (px_v E))) H := by
  unfold px_obj at ho
  cases hh : px_here h r with
  | false => rw [hh] at ho; cases ho
  | true =>
    rw [hh] at ho
    obtain ⟨h1, h2⟩ := px_here_ok hh
    have h3 := hP.2.2.2.1 r h1 h2
    simp only [cond_true] at ho
    split at ho
    · rename_i q' hq
      cases ho
      rw [hq] at h3
      exact ⟨h1, h2, h3⟩
    · cases ho
theorem px_arr_ok {cl : List vw_C} {K : px_K} {E : px_E} {h : px_H} {H : Heap} (hP : px_HP cl K E h H) {r : Nat} {q : Nat × Nat × px_V × List (Nat × px_V)} (ho : px_arr h r = some q) : 64 ≤ r ∧ r < h.1 ∧ H[px_ad E r]? = some (arrV (K.2.1 q.1) q.2.1 (fun j => px_v E (px_at q.2.2.1 j q.2.2.2))) := by
  unfold px_arr at ho
  cases hh : px_here h r with
  | false => rw [hh] at ho; cases ho
  | true =>
    rw [hh] at ho
    obtain ⟨h1, h2⟩ := px_here_ok hh
    have h3 := hP.2.2.2.1 r h1 h2
    simp only [cond_true] at ho
    split at ho
    · rename_i q' hq
      cases ho
      rw [hq] at h3
      exact ⟨h1, h2, h3⟩
    · cases ho
theorem px_exc_ok {cl : List vw_C} {K : px_K} {E : px_E} {h : px_H} {H : Heap} (hP : px_HP cl K E h H) {r : Nat} {k : Nat} (ho : px_exc h r = some k) : 64 ≤ r ∧ r < h.1 ∧ ∃ cell, H[px_ad E r]? = some cell ∧ cell.cls = K.2.2.1 k ∧ cell.vm.isStatics = false := by
  unfold px_exc at ho
  cases hh : px_here h r with
  | false => rw [hh] at ho; cases ho
  | true =>
    rw [hh] at ho
    obtain ⟨h1, h2⟩ := px_here_ok hh
    have h3 := hP.2.2.2.1 r h1 h2
    simp only [cond_true] at ho
    split at ho
    · rename_i q' hq
      cases ho
      rw [hq] at h3
      exact ⟨h1, h2, h3⟩
    · cases ho
/-- the kind of a type: int, boolean, long, a reference -/
def px_tcode (t : FieldType) : Nat := match t with
  | .int => 0
  | .boolean => 1
  | .long => 2
  | .object _ => 3
  | .array _ => 3
  | _ => 9
def px_fitc (c : Nat) (v : px_V) : Bool := match c, v with
  | 0, .inl _ => true
  | 1, .inl (.inl n) => decide (n = 0) || decide (n = 1)
  | 2, .inr (.inl _) => true
  | 3, .inr (.inr _) => true
  | _, _ => false
def px_dflt (c : Nat) : px_V := match c with
  | 0 => .inl (.inl 0)
  | 1 => .inl (.inl 0)
  | 2 => .inr (.inl (.inl 0))
  | _ => .inr (.inr none)
theorem px_fit_ok (E : px_E) {t : FieldType} {v : px_V} (h : px_fitc (px_tcode t) v = true) : narrow t (px_v E v) = px_v E v ∧ fits t (px_v E v) = true := by
  cases t
  case int =>
    obtain a | a | a := v
    · exact ⟨rfl, rfl⟩
    · cases h
    · cases h
  case boolean =>
    obtain (n | a) | a | a := v
    · simp only [px_tcode, px_fitc, Bool.or_eq_true, decide_eq_true_eq] at h
      rcases h with rfl | rfl
      · have e0 : Int32.ofInt 0 = 0 := by decide
        show narrow .boolean (.int (Int32.ofInt 0)) = .int (Int32.ofInt 0) ∧ fits .boolean (.int (Int32.ofInt 0)) = true
        rw [e0]
        exact ⟨narrow_b0, by decide⟩
      · have e0 : Int32.ofInt 1 = 1 := by decide
        show narrow .boolean (.int (Int32.ofInt 1)) = .int (Int32.ofInt 1) ∧ fits .boolean (.int (Int32.ofInt 1)) = true
        rw [e0]
        exact ⟨narrow_b1, by decide⟩
    · cases h
    · cases h
    · cases h
  case long =>
    obtain a | a | a := v
    · cases h
    · exact ⟨rfl, rfl⟩
    · cases h
  case object n =>
    obtain a | a | a := v
    · cases h
    · cases h
    · cases a <;> exact ⟨rfl, rfl⟩
  case array n =>
    obtain a | a | a := v
    · cases h
    · cases h
    · cases a <;> exact ⟨rfl, rfl⟩
  all_goals
    obtain a | a | a := v <;> cases h
theorem px_dflt_ok (E : px_E) {t : FieldType} (h : px_tcode t < 4) : px_v E (px_dflt (px_tcode t)) = defaultValue t := by
  cases t <;> first | rfl | (simp [px_tcode] at h)
end
