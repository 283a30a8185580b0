/-! L3, part 1: by hand: values with ints as whole numbers, runs of plain instructions, branches. -/
abbrev ez_V : Type := Int ⊕ (Int64 ⊕ Option Nat)
def ez_v (v : ez_V) : cz_V := match v with
  | .inl n => .inl (Int32.ofInt n)
  | .inr x => .inr x
def ez_L (L : List (Nat × ez_V)) : List (Nat × cz_V) := L.map (fun q => (q.1, ez_v q.2))
def ez_W (d : Nat) (M : cz_M) (pc : Nat) (L : List (Nat × ez_V)) (st : List ez_V) (h : cz_H) (Q : cz_F → Prop) : Prop := dz_WP cz_pg d M pc (ez_L L) (st.map ez_v) h Q
def ez_find (j : Nat) : List (Nat × ez_V) → Option ez_V
  | [] => none
  | q :: r => bif Nat.beq q.1 j then some q.2 else ez_find j r
def ez_lg (v : ez_V) : Bool := match v with
  | .inr (.inl _) => true
  | _ => false
theorem ez_lg_eq (v : ez_V) : cz_lg (ez_v v) = ez_lg v := by
  obtain a | a | a := v <;> rfl
theorem ez_find_eq (j : Nat) : ∀ L : List (Nat × ez_V), cz_find j (ez_L L) = (ez_find j L).map ez_v
  | [] => rfl
  | q :: r => by
    show (bif Nat.beq q.1 j then some (ez_v q.2) else cz_find j (ez_L r)) = (bif Nat.beq q.1 j then some q.2 else ez_find j r).map ez_v
    cases Nat.beq q.1 j with
    | true => rfl
    | false => exact ez_find_eq j r
def ez_f1 (i : Nat) (q : Nat × ez_V) : Bool := bif Nat.beq q.1 i then false else bif Nat.beq (Nat.succ q.1) i then !(ez_lg q.2) else true
def ez_f2 (i : Nat) (q : Nat × ez_V) : Bool := bif Nat.beq q.1 i then false else bif Nat.beq q.1 (Nat.succ i) then false else bif Nat.beq (Nat.succ q.1) i then !(ez_lg q.2) else true
def ez_fil (f : Nat × ez_V → Bool) : List (Nat × ez_V) → List (Nat × ez_V)
  | [] => []
  | q :: r => bif f q then q :: ez_fil f r else ez_fil f r
def ez_sto (L : List (Nat × ez_V)) (i : Nat) (v : ez_V) : List (Nat × ez_V) := (i, v) :: ez_fil (ez_f1 i) L
def ez_sto2 (L : List (Nat × ez_V)) (i : Nat) (v : ez_V) : List (Nat × ez_V) := (i, v) :: ez_fil (ez_f2 i) L
theorem ez_fil_eq {f : Nat × ez_V → Bool} {g : Nat × cz_V → Bool} (e : ∀ q : Nat × ez_V, g (q.1, ez_v q.2) = f q) : ∀ L : List (Nat × ez_V), cz_fil g (ez_L L) = ez_L (ez_fil f L)
  | [] => rfl
  | q :: r => by
    show (bif g (q.1, ez_v q.2) then (q.1, ez_v q.2) :: cz_fil g (ez_L r) else cz_fil g (ez_L r)) = ez_L (bif f q then q :: ez_fil f r else ez_fil f r)
    rw [e q, ez_fil_eq e r]
    cases f q <;> rfl
theorem ez_sto_eq (L : List (Nat × ez_V)) (i : Nat) (v : ez_V) : cz_sto (ez_L L) i (ez_v v) = ez_L (ez_sto L i v) := by
  show (i, ez_v v) :: cz_fil _ (ez_L L) = (i, ez_v v) :: ez_L (ez_fil (ez_f1 i) L)
  rw [ez_fil_eq (f := ez_f1 i) (fun q => by show (bif _ then _ else bif _ then !(cz_lg (ez_v q.2)) else _) = _; rw [ez_lg_eq]; rfl)]
theorem ez_sto2_eq (L : List (Nat × ez_V)) (i : Nat) (v : ez_V) : cz_sto2 (ez_L L) i (ez_v v) = ez_L (ez_sto2 L i v) := by
  show (i, ez_v v) :: cz_fil _ (ez_L L) = (i, ez_v v) :: ez_L (ez_fil (ez_f2 i) L)
  rw [ez_fil_eq (f := ez_f2 i) (fun q => by show (bif _ then _ else bif _ then _ else bif _ then !(cz_lg (ez_v q.2)) else _) = _; rw [ez_lg_eq]; rfl)]
theorem ez_of (x : Int32) : Int32.ofInt x.toInt = x := Int32.ofInt_toInt x
def ez_b (lo hi n : Int) : Bool := dz_ile lo n && dz_ile n hi
theorem ez_b8 {n : Int} (h : ez_b (-128) 127 n = true) : (Int8.ofInt n).toInt32 = Int32.ofInt n := by
  simp only [ez_b, Bool.and_eq_true] at h
  have h1 := dz_ile_ok h.1
  have h2 := dz_ile_ok h.2
  apply Int32.toInt_inj.mp
  rw [Int8.toInt_toInt32, Int8.toInt_ofInt_of_le (by omega) (by omega), dz_toInt_i (by omega) (by omega)]
theorem ez_b16 {n : Int} (h : ez_b (-32768) 32767 n = true) : (Int16.ofInt n).toInt32 = Int32.ofInt n := by
  simp only [ez_b, Bool.and_eq_true] at h
  have h1 := dz_ile_ok h.1
  have h2 := dz_ile_ok h.2
  apply Int32.toInt_inj.mp
  rw [Int16.toInt_toInt32, Int16.toInt_ofInt_of_le (by omega) (by omega), dz_toInt_i (by omega) (by omega)]
def ez_2 (L : List (Nat × ez_V)) (st : List ez_V) (f : Int → Int → Int) : Option (List (Nat × ez_V) × List ez_V) := match st with
  | .inl b :: .inl a :: r => some (L, .inl (f a b) :: r)
  | _ => none
def ez_1 (L : List (Nat × ez_V)) (st : List ez_V) (f : Int → Int) : Option (List (Nat × ez_V) × List ez_V) := match st with
  | .inl a :: r => some (L, .inl (f a) :: r)
  | _ => none
def ez_l2 (L : List (Nat × ez_V)) (st : List ez_V) (f : Int64 → Int64 → Int64) : Option (List (Nat × ez_V) × List ez_V) := match st with
  | .inr (.inl b) :: .inr (.inl a) :: r => some (L, .inr (.inl (f a b)) :: r)
  | _ => none
def ez_ls (L : List (Nat × ez_V)) (st : List ez_V) (f : Int64 → Int32 → Int64) : Option (List (Nat × ez_V) × List ez_V) := match st with
  | .inl b :: .inr (.inl a) :: r => some (L, .inr (.inl (f a (Int32.ofInt b))) :: r)
  | _ => none
def ez_ldI (L : List (Nat × ez_V)) (st : List ez_V) (k : Nat) : Option (List (Nat × ez_V) × List ez_V) := match ez_find k L with
  | some (.inl a) => some (L, .inl a :: st)
  | _ => none
def ez_ldL (L : List (Nat × ez_V)) (st : List ez_V) (k : Nat) : Option (List (Nat × ez_V) × List ez_V) := match ez_find k L with
  | some (.inr (.inl a)) => some (L, .inr (.inl a) :: st)
  | _ => none
def ez_ldA (L : List (Nat × ez_V)) (st : List ez_V) (k : Nat) : Option (List (Nat × ez_V) × List ez_V) := match ez_find k L with
  | some (.inr (.inr a)) => some (L, .inr (.inr a) :: st)
  | _ => none
def ez_stI (nL : Nat) (L : List (Nat × ez_V)) (st : List ez_V) (k : Nat) : Option (List (Nat × ez_V) × List ez_V) := match st with
  | .inl a :: r => bif Nat.blt k nL then some (ez_sto L k (.inl a), r) else none
  | _ => none
def ez_stA (nL : Nat) (L : List (Nat × ez_V)) (st : List ez_V) (k : Nat) : Option (List (Nat × ez_V) × List ez_V) := match st with
  | .inr (.inr a) :: r => bif Nat.blt k nL then some (ez_sto L k (.inr (.inr a)), r) else none
  | _ => none
def ez_stL (nL : Nat) (L : List (Nat × ez_V)) (st : List ez_V) (k : Nat) : Option (List (Nat × ez_V) × List ez_V) := match st with
  | .inr (.inl a) :: r => bif Nat.blt (k + 1) nL then some (ez_sto2 L k (.inr (.inl a)), r) else none
  | _ => none
def ez_inc (nL : Nat) (L : List (Nat × ez_V)) (st : List ez_V) (k : Nat) (n : Int) : Option (List (Nat × ez_V) × List ez_V) := match ez_find k L with
  | some (.inl a) => bif Nat.blt k nL then some (ez_sto L k (.inl (a + n)), st) else none
  | _ => none
def ez_il (L : List (Nat × ez_V)) (st : List ez_V) : Option (List (Nat × ez_V) × List ez_V) := match st with
  | .inl a :: r => some (L, .inr (.inl (Int32.ofInt a).toInt64) :: r)
  | _ => none
def ez_li (L : List (Nat × ez_V)) (st : List ez_V) : Option (List (Nat × ez_V) × List ez_V) := match st with
  | .inr (.inl a) :: r => some (L, .inl a.toInt32.toInt :: r)
  | _ => none
def ez_lc (L : List (Nat × ez_V)) (st : List ez_V) : Option (List (Nat × ez_V) × List ez_V) := match st with
  | .inr (.inl b) :: .inr (.inl a) :: r => some (L, .inl (lg_cmp a b).toInt :: r)
  | _ => none
def ez_du (L : List (Nat × ez_V)) (st : List ez_V) : Option (List (Nat × ez_V) × List ez_V) := match st with
  | v :: r => bif ez_lg v then none else some (L, v :: v :: r)
  | _ => none
def ez_po (L : List (Nat × ez_V)) (st : List ez_V) : Option (List (Nat × ez_V) × List ez_V) := match st with
  | v :: r => bif ez_lg v then none else some (L, r)
  | _ => none
def ez_d2 (L : List (Nat × ez_V)) (st : List ez_V) : Option (List (Nat × ez_V) × List ez_V) := match st with
  | a :: b :: r => bif ez_lg a || ez_lg b then none else some (L, a :: b :: a :: b :: r)
  | _ => none
def ez_dx (L : List (Nat × ez_V)) (st : List ez_V) : Option (List (Nat × ez_V) × List ez_V) := match st with
  | a :: b :: r => bif ez_lg a || ez_lg b then none else some (L, a :: b :: a :: r)
  | _ => none
/-- instructions that touch the frame alone -/
def ez_p1 (i : Instr) (nL : Nat) (L : List (Nat × ez_V)) (st : List ez_V) : Option (List (Nat × ez_V) × List ez_V) := match i with
  | .iconst n => some (L, .inl n :: st)
  | .bipush n => bif ez_b (-128) 127 n then some (L, .inl n :: st) else none
  | .sipush n => bif ez_b (-32768) 32767 n then some (L, .inl n :: st) else none
  | .lconst n => some (L, .inr (.inl (Int64.ofInt (n.val : Nat))) :: st)
  | .aconst_null => some (L, .inr (.inr none) :: st)
  | .iload_n k => ez_ldI L st k
  | .iload k => ez_ldI L st k
  | .lload_n k => ez_ldL L st k
  | .lload k => ez_ldL L st k
  | .aload_n k => ez_ldA L st k
  | .aload k => ez_ldA L st k
  | .istore_n k => ez_stI nL L st k
  | .istore k => ez_stI nL L st k
  | .astore_n k => ez_stA nL L st k
  | .astore k => ez_stA nL L st k
  | .lstore_n k => ez_stL nL L st k
  | .lstore k => ez_stL nL L st k
  | .iinc k n => ez_inc nL L st k n
  | .iadd => ez_2 L st (fun a b => a + b)
  | .isub => ez_2 L st (fun a b => a - b)
  | .imul => ez_2 L st (fun a b => a * b)
  | .iand => ez_2 L st (fun a b => (Int32.ofInt a &&& Int32.ofInt b).toInt)
  | .ior => ez_2 L st (fun a b => (Int32.ofInt a ||| Int32.ofInt b).toInt)
  | .ixor => ez_2 L st (fun a b => (Int32.ofInt a ^^^ Int32.ofInt b).toInt)
  | .ishl => ez_2 L st (fun a b => (Int32.ofInt a <<< (Int32.ofInt b &&& 31)).toInt)
  | .ishr => ez_2 L st (fun a b => (Int32.ofInt a >>> (Int32.ofInt b &&& 31)).toInt)
  | .iushr => ez_2 L st (fun a b => (((Int32.ofInt a).toUInt32 >>> ((Int32.ofInt b).toUInt32 &&& Int32.toUInt32 31)).toInt32).toInt)
  | .i2b => ez_1 L st (fun a => (Int32.ofInt a).toInt8.toInt32.toInt)
  | .i2c => ez_1 L st (fun a => ((Int32.ofInt a).toUInt32 % 65536).toInt32.toInt)
  | .ineg => ez_1 L st (fun a => -a)
  | .ladd => ez_l2 L st (· + ·)
  | .lsub => ez_l2 L st (· - ·)
  | .lmul => ez_l2 L st (· * ·)
  | .land => ez_l2 L st (· &&& ·)
  | .lor => ez_l2 L st (· ||| ·)
  | .lxor => ez_l2 L st (· ^^^ ·)
  | .lshl => ez_ls L st (fun x y => x <<< (y.toInt64 &&& 63))
  | .lushr => ez_ls L st (fun x y => (x.toUInt64 >>> (y.toInt64.toUInt64 &&& Int64.toUInt64 63)).toInt64)
  | .i2l => ez_il L st
  | .l2i => ez_li L st
  | .lcmp => ez_lc L st
  | .dup => ez_du L st
  | .pop => ez_po L st
  | .dup2 => ez_d2 L st
  | .dup_x1 => ez_dx L st
  | _ => none
section EzP1
variable {nL : Nat} {L : List (Nat × ez_V)} {st : List ez_V} {q : List (Nat × ez_V) × List ez_V}
theorem ez_2_ok {f : Int → Int → Int} {op : Int32 → Int32 → Int32} (e : ∀ a b, Int32.ofInt (f a b) = op (Int32.ofInt a) (Int32.ofInt b)) (h : ez_2 L st f = some q) : (cz_bin op (st.map ez_v)).map (fun s => (ez_L L, s)) = some (ez_L q.1, q.2.map ez_v) := by
  unfold ez_2 at h
  split at h
  · rename_i b a r
    cases h
    show some (ez_L L, (Sum.inl (op (Int32.ofInt a) (Int32.ofInt b)) : cz_V) :: r.map ez_v) = some (ez_L L, (Sum.inl (Int32.ofInt (f a b)) : cz_V) :: r.map ez_v)
    rw [e]
  · cases h
theorem ez_1_ok {f : Int → Int} {op : Int32 → Int32} (e : ∀ a, Int32.ofInt (f a) = op (Int32.ofInt a)) (h : ez_1 L st f = some q) : (cz_una op (st.map ez_v)).map (fun s => (ez_L L, s)) = some (ez_L q.1, q.2.map ez_v) := by
  unfold ez_1 at h
  split at h
  · rename_i a r
    cases h
    show some (ez_L L, (Sum.inl (op (Int32.ofInt a)) : cz_V) :: r.map ez_v) = some (ez_L L, (Sum.inl (Int32.ofInt (f a)) : cz_V) :: r.map ez_v)
    rw [e]
  · cases h
theorem ez_l2_ok {f : Int64 → Int64 → Int64} (h : ez_l2 L st f = some q) : (cz_lbin f (st.map ez_v)).map (fun s => (ez_L L, s)) = some (ez_L q.1, q.2.map ez_v) := by
  unfold ez_l2 at h
  split at h
  · cases h; rfl
  · cases h
theorem ez_ls_ok {f : Int64 → Int32 → Int64} (h : ez_ls L st f = some q) : (cz_lsh f (st.map ez_v)).map (fun s => (ez_L L, s)) = some (ez_L q.1, q.2.map ez_v) := by
  unfold ez_ls at h
  split at h
  · cases h; rfl
  · cases h
theorem ez_ldI_ok {k : Nat} (h : ez_ldI L st k = some q) : (cz_ld (ez_L L) k cz_isI).map (fun v => (ez_L L, v :: st.map ez_v)) = some (ez_L q.1, q.2.map ez_v) := by
  unfold ez_ldI at h
  split at h
  · rename_i a hf
    cases h
    unfold cz_ld
    rw [ez_find_eq, hf]
    rfl
  · cases h
theorem ez_ldL_ok {k : Nat} (h : ez_ldL L st k = some q) : (cz_ld (ez_L L) k cz_lg).map (fun v => (ez_L L, v :: st.map ez_v)) = some (ez_L q.1, q.2.map ez_v) := by
  unfold ez_ldL at h
  split at h
  · rename_i a hf
    cases h
    unfold cz_ld
    rw [ez_find_eq, hf]
    rfl
  · cases h
theorem ez_ldA_ok {k : Nat} (h : ez_ldA L st k = some q) : (cz_ld (ez_L L) k cz_isR).map (fun v => (ez_L L, v :: st.map ez_v)) = some (ez_L q.1, q.2.map ez_v) := by
  unfold ez_ldA at h
  split at h
  · rename_i a hf
    cases h
    unfold cz_ld
    rw [ez_find_eq, hf]
    rfl
  · cases h
theorem ez_stI_ok {k : Nat} (h : ez_stI nL L st k = some q) : (match st.map ez_v with
    | .inl a :: r => bif Nat.blt k nL then some (cz_sto (ez_L L) k (.inl a), r) else none
    | _ => none) = some (ez_L q.1, q.2.map ez_v) := by
  unfold ez_stI at h
  split at h
  · rename_i a r
    show (bif Nat.blt k nL then some (cz_sto (ez_L L) k (ez_v (.inl a)), r.map ez_v) else none) = _
    cases hb : Nat.blt k nL with
    | false => rw [hb] at h; cases h
    | true => rw [hb] at h; cases h; rw [ez_sto_eq]; rfl
  · cases h
theorem ez_stA_ok {k : Nat} (h : ez_stA nL L st k = some q) : (match st.map ez_v with
    | .inr (.inr a) :: r => bif Nat.blt k nL then some (cz_sto (ez_L L) k (.inr (.inr a)), r) else none
    | _ => none) = some (ez_L q.1, q.2.map ez_v) := by
  unfold ez_stA at h
  split at h
  · rename_i a r
    show (bif Nat.blt k nL then some (cz_sto (ez_L L) k (ez_v (.inr (.inr a))), r.map ez_v) else none) = _
    cases hb : Nat.blt k nL with
    | false => rw [hb] at h; cases h
    | true => rw [hb] at h; cases h; rw [ez_sto_eq]; rfl
  · cases h
theorem ez_stL_ok {k : Nat} (h : ez_stL nL L st k = some q) : (match st.map ez_v with
    | .inr (.inl a) :: r => bif Nat.blt (k + 1) nL then some (cz_sto2 (ez_L L) k (.inr (.inl a)), r) else none
    | _ => none) = some (ez_L q.1, q.2.map ez_v) := by
  unfold ez_stL at h
  split at h
  · rename_i a r
    show (bif Nat.blt (k + 1) nL then some (cz_sto2 (ez_L L) k (ez_v (.inr (.inl a))), r.map ez_v) else none) = _
    cases hb : Nat.blt (k + 1) nL with
    | false => rw [hb] at h; cases h
    | true => rw [hb] at h; cases h; rw [ez_sto2_eq]; rfl
  · cases h
theorem ez_inc_ok {k : Nat} {n : Int} (h : ez_inc nL L st k n = some q) : cz_pure (.iinc k n) nL (ez_L L) (st.map ez_v) = some (ez_L q.1, q.2.map ez_v) := by
  unfold ez_inc at h
  unfold cz_pure
  dsimp only
  rw [ez_find_eq]
  split at h
  · rename_i a hf
    rw [hf]
    show (bif Nat.blt k nL then some (cz_sto (ez_L L) k (.inl (Int32.ofInt a + Int32.ofInt n)), st.map ez_v) else none) = _
    cases hb : Nat.blt k nL with
    | false => rw [hb] at h; cases h
    | true =>
      rw [hb] at h
      cases h
      rw [← Int32.ofInt_add, show (Sum.inl (Int32.ofInt (a + n)) : cz_V) = ez_v (.inl (a + n)) from rfl, ez_sto_eq]
      rfl
  · cases h
theorem ez_il_ok (h : ez_il L st = some q) : cz_pure .i2l nL (ez_L L) (st.map ez_v) = some (ez_L q.1, q.2.map ez_v) := by
  unfold ez_il at h
  split at h
  · cases h; rfl
  · cases h
theorem ez_li_ok (h : ez_li L st = some q) : cz_pure .l2i nL (ez_L L) (st.map ez_v) = some (ez_L q.1, q.2.map ez_v) := by
  unfold ez_li at h
  split at h
  · rename_i a r
    cases h
    show some (ez_L L, (Sum.inl a.toInt32 : cz_V) :: r.map ez_v) = some (ez_L L, (Sum.inl (Int32.ofInt a.toInt32.toInt) : cz_V) :: r.map ez_v)
    rw [ez_of]
  · cases h
theorem ez_lc_ok (h : ez_lc L st = some q) : cz_pure .lcmp nL (ez_L L) (st.map ez_v) = some (ez_L q.1, q.2.map ez_v) := by
  unfold ez_lc at h
  split at h
  · rename_i b a r
    cases h
    show some (ez_L L, (Sum.inl (lg_cmp a b) : cz_V) :: r.map ez_v) = some (ez_L L, (Sum.inl (Int32.ofInt (lg_cmp a b).toInt) : cz_V) :: r.map ez_v)
    rw [ez_of]
  · cases h
theorem ez_du_ok (h : ez_du L st = some q) : cz_pure .dup nL (ez_L L) (st.map ez_v) = some (ez_L q.1, q.2.map ez_v) := by
  unfold ez_du at h
  split at h
  · rename_i v r
    show (bif cz_lg (ez_v v) then none else some (ez_L L, ez_v v :: ez_v v :: r.map ez_v)) = _
    rw [ez_lg_eq]
    cases hb : ez_lg v with
    | true => rw [hb] at h; cases h
    | false => rw [hb] at h; cases h; rfl
  · cases h
theorem ez_po_ok (h : ez_po L st = some q) : cz_pure .pop nL (ez_L L) (st.map ez_v) = some (ez_L q.1, q.2.map ez_v) := by
  unfold ez_po at h
  split at h
  · rename_i v r
    show (bif cz_lg (ez_v v) then none else some (ez_L L, r.map ez_v)) = _
    rw [ez_lg_eq]
    cases hb : ez_lg v with
    | true => rw [hb] at h; cases h
    | false => rw [hb] at h; cases h; rfl
  · cases h
theorem ez_d2_ok (h : ez_d2 L st = some q) : cz_pure .dup2 nL (ez_L L) (st.map ez_v) = some (ez_L q.1, q.2.map ez_v) := by
  unfold ez_d2 at h
  split at h
  · rename_i a b r
    show (bif cz_lg (ez_v a) || cz_lg (ez_v b) then none else some (ez_L L, ez_v a :: ez_v b :: ez_v a :: ez_v b :: r.map ez_v)) = _
    rw [ez_lg_eq, ez_lg_eq]
    cases hb : (ez_lg a || ez_lg b) with
    | true => rw [hb] at h; cases h
    | false => rw [hb] at h; cases h; rfl
  · cases h
theorem ez_dx_ok (h : ez_dx L st = some q) : cz_pure .dup_x1 nL (ez_L L) (st.map ez_v) = some (ez_L q.1, q.2.map ez_v) := by
  unfold ez_dx at h
  split at h
  · rename_i a b r
    show (bif cz_lg (ez_v a) || cz_lg (ez_v b) then none else some (ez_L L, ez_v a :: ez_v b :: ez_v a :: r.map ez_v)) = _
    rw [ez_lg_eq, ez_lg_eq]
    cases hb : (ez_lg a || ez_lg b) with
    | true => rw [hb] at h; cases h
    | false => rw [hb] at h; cases h; rfl
  · cases h
theorem ez_p1_ok {i : Instr} (h : ez_p1 i nL L st = some q) : cz_pure i nL (ez_L L) (st.map ez_v) = some (ez_L q.1, q.2.map ez_v) := by
  cases i
  case iconst n => cases h; rfl
  case bipush n =>
    have h : (bif ez_b (-128) 127 n then some (L, Sum.inl n :: st) else none) = some q := h
    cases hb : ez_b (-128) 127 n with
    | false => rw [hb] at h; cases h
    | true => rw [hb] at h; cases h; show some (ez_L L, (Sum.inl (Int8.ofInt n).toInt32 : cz_V) :: st.map ez_v) = _; rw [ez_b8 hb]; rfl
  case sipush n =>
    have h : (bif ez_b (-32768) 32767 n then some (L, Sum.inl n :: st) else none) = some q := h
    cases hb : ez_b (-32768) 32767 n with
    | false => rw [hb] at h; cases h
    | true => rw [hb] at h; cases h; show some (ez_L L, (Sum.inl (Int16.ofInt n).toInt32 : cz_V) :: st.map ez_v) = _; rw [ez_b16 hb]; rfl
  case lconst n => cases h; rfl
  case aconst_null => cases h; rfl
  case iload_n k => exact ez_ldI_ok h
  case iload k => exact ez_ldI_ok h
  case lload_n k => exact ez_ldL_ok h
  case lload k => exact ez_ldL_ok h
  case aload_n k => exact ez_ldA_ok h
  case aload k => exact ez_ldA_ok h
  case istore_n k => exact ez_stI_ok h
  case istore k => exact ez_stI_ok h
  case astore_n k => exact ez_stA_ok h
  case astore k => exact ez_stA_ok h
  case lstore_n k => exact ez_stL_ok h
  case lstore k => exact ez_stL_ok h
  case iinc k n => exact ez_inc_ok h
  case iadd => exact ez_2_ok (fun a b => Int32.ofInt_add a b) h
  case isub => exact ez_2_ok (fun a b => Int32.ofInt_sub a b) h
  case imul => exact ez_2_ok (fun a b => Int32.ofInt_mul a b) h
  case iand => exact ez_2_ok (fun a b => ez_of _) h
  case ior => exact ez_2_ok (fun a b => ez_of _) h
  case ixor => exact ez_2_ok (fun a b => ez_of _) h
  case ishl => exact ez_2_ok (fun a b => ez_of _) h
  case ishr => exact ez_2_ok (fun a b => ez_of _) h
  case iushr => exact ez_2_ok (fun a b => ez_of _) h
  case i2b => exact ez_1_ok (fun a => ez_of _) h
  case i2c => exact ez_1_ok (fun a => ez_of _) h
  case ineg => exact ez_1_ok (fun a => Int32.ofInt_neg a) h
  case ladd => exact ez_l2_ok h
  case lsub => exact ez_l2_ok h
  case lmul => exact ez_l2_ok h
  case land => exact ez_l2_ok h
  case lor => exact ez_l2_ok h
  case lxor => exact ez_l2_ok h
  case lshl => exact ez_ls_ok h
  case lushr => exact ez_ls_ok h
  case i2l => exact ez_il_ok h
  case l2i => exact ez_li_ok h
  case lcmp => exact ez_lc_ok h
  case dup => exact ez_du_ok h
  case pop => exact ez_po_ok h
  case dup2 => exact ez_d2_ok h
  case dup_x1 => exact ez_dx_ok h
  all_goals cases h
end EzP1
/-- a run of such instructions, jumps among them -/
noncomputable def ez_ex (M : cz_M) : Nat → Nat → List (Nat × ez_V) → List ez_V → Option (Nat × List (Nat × ez_V) × List ez_V)
  | 0, pc, L, st => some (pc, L, st)
  | n + 1, pc, L, st => match cz_code M pc with
    | some (i, len) => (match ez_p1 i M.2.1.2.1 L st with
      | some q => bif Nat.beq len (cz_len i) then ez_ex M n (pc + len) q.1 q.2 else none
      | none => (match i with
        | .goto off => (match cz_to pc off with
          | some t => bif Nat.beq len 3 then ez_ex M n t L st else none
          | none => none)
        | _ => none))
    | none => none
section EzGo
variable {d : Nat} {M : cz_M} {pc : Nat} {L : List (Nat × ez_V)} {st : List ez_V} {h : cz_H} {Q : cz_F → Prop}
theorem ez_go {n pc' : Nat} {L' : List (Nat × ez_V)} {st' : List ez_V} (hx : ez_ex M n pc L st = some (pc', L', st')) (k : ez_W d M pc' L' st' h Q) : ez_W d M pc L st h Q := by
  induction n generalizing pc L st with
  | zero => cases hx; exact k
  | succ n ih =>
    unfold ez_ex at hx
    split at hx
    · rename_i i len hc
      split at hx
      · rename_i q hq
        cases hb : Nat.beq len (cz_len i) with
        | false => rw [hb] at hx; cases hx
        | true =>
          rw [hb] at hx
          have e := Nat.eq_of_beq_eq_true hb
          refine dz_wp_pure hc hb (ez_p1_ok hq) ?_
          rw [← e]
          exact ih hx
      · rename_i hq
        split at hx
        · rename_i off
          split at hx
          · rename_i t ht
            cases hb : Nat.beq len 3 with
            | false => rw [hb] at hx; cases hx
            | true =>
              rw [hb] at hx
              refine dz_wp_br (q := (t, st.map ez_v)) hc (by show (Nat.beq len 3 || false) = true; rw [hb]; rfl) rfl ?_ (ih hx)
              show (match cz_to pc off with
                | some t => some (t, st.map ez_v)
                | none => none) = _
              rw [ht]
          · cases hx
        · cases hx
    · cases hx
def ez_rg (a : Int) : Prop := -2147483648 ≤ a ∧ a ≤ 2147483647
theorem ez_rg.v {a : Int} (h : ez_rg a) : (Int32.ofInt a).toInt = a := dz_toInt_i h.1 h.2
def ez_cd (c : ClassFile.Cond) (a b : Int) : Prop := match c with
  | .eq => a = b
  | .ne => a ≠ b
  | .lt => a < b
  | .ge => b ≤ a
  | .gt => b < a
  | .le => a ≤ b
theorem ez_cd_ok {c : ClassFile.Cond} {a b : Int} (ha : ez_rg a) (hb : ez_rg b) : cz_cd c (Int32.ofInt a) (Int32.ofInt b) = true ↔ ez_cd c a b := by
  have e1 := ha.v
  have e2 := hb.v
  have eq : Int32.ofInt a = Int32.ofInt b ↔ a = b := by
    rw [← Int32.toInt_inj, e1, e2]
  cases c
  · show decide _ = true ↔ a = b; rw [decide_eq_true_iff]; exact eq
  · show (!decide _) = true ↔ a ≠ b
    rw [Bool.not_eq_true', decide_eq_false_iff_not]; exact not_congr eq
  · show decide _ = true ↔ a < b; rw [decide_eq_true_iff, Int32.lt_iff_toInt_lt, e1, e2]
  · show decide _ = true ↔ b ≤ a; rw [decide_eq_true_iff, Int32.le_iff_toInt_le, e1, e2]
  · show decide _ = true ↔ b < a; rw [decide_eq_true_iff, Int32.lt_iff_toInt_lt, e1, e2]
  · show decide _ = true ↔ a ≤ b; rw [decide_eq_true_iff, Int32.le_iff_toInt_le, e1, e2]
theorem ez_icmp {c : ClassFile.Cond} {off : Int} {t : Nat} {a b : Int} (hc : cz_code M pc = some (.if_icmp c off, 3)) (ht : cz_to pc off = some t) (ha : ez_rg a) (hb : ez_rg b) (k1 : ez_cd c a b → ez_W d M t L st h Q) (k2 : ¬ ez_cd c a b → ez_W d M (pc + 3) L st h Q) : ez_W d M pc L (.inl b :: .inl a :: st) h Q := by
  have e := ez_cd_ok (c := c) ha hb
  cases hcd : cz_cd c (Int32.ofInt a) (Int32.ofInt b) with
  | true =>
    refine dz_wp_br (q := (t, st.map ez_v)) hc rfl rfl ?_ (k1 (e.mp hcd))
    show (match cz_to pc off with
      | some t => some (bif cz_cd c (Int32.ofInt a) (Int32.ofInt b) then t else pc + 3, st.map ez_v)
      | none => none) = _
    rw [ht, hcd]; rfl
  | false =>
    refine dz_wp_br (q := (pc + 3, st.map ez_v)) hc rfl rfl ?_ (k2 (fun w => by rw [e.mpr w] at hcd; cases hcd))
    show (match cz_to pc off with
      | some t => some (bif cz_cd c (Int32.ofInt a) (Int32.ofInt b) then t else pc + 3, st.map ez_v)
      | none => none) = _
    rw [ht, hcd]; rfl
theorem ez_if {c : ClassFile.Cond} {off : Int} {t : Nat} {a : Int} (hc : cz_code M pc = some (.ifCond c off, 3)) (ht : cz_to pc off = some t) (ha : ez_rg a) (k1 : ez_cd c a 0 → ez_W d M t L st h Q) (k2 : ¬ ez_cd c a 0 → ez_W d M (pc + 3) L st h Q) : ez_W d M pc L (.inl a :: st) h Q := by
  have e := ez_cd_ok (c := c) ha (show ez_rg 0 from ⟨by decide, by decide⟩)
  cases hcd : cz_cd c (Int32.ofInt a) (Int32.ofInt 0) with
  | true =>
    refine dz_wp_br (q := (t, st.map ez_v)) hc rfl rfl ?_ (k1 (e.mp hcd))
    show (match cz_to pc off with
      | some t => some (bif cz_cd c (Int32.ofInt a) (Int32.ofInt 0) then t else pc + 3, st.map ez_v)
      | none => none) = _
    rw [ht, hcd]; rfl
  | false =>
    refine dz_wp_br (q := (pc + 3, st.map ez_v)) hc rfl rfl ?_ (k2 (fun w => by rw [e.mpr w] at hcd; cases hcd))
    show (match cz_to pc off with
      | some t => some (bif cz_cd c (Int32.ofInt a) (Int32.ofInt 0) then t else pc + 3, st.map ez_v)
      | none => none) = _
    rw [ht, hcd]; rfl
theorem ez_null0 {off : Int} {t : Nat} (hc : cz_code M pc = some (.ifnull off, 3)) (ht : cz_to pc off = some t) (k : ez_W d M t L st h Q) : ez_W d M pc L (.inr (.inr none) :: st) h Q := by
  refine dz_wp_br (q := (t, st.map ez_v)) hc rfl rfl ?_ k
  show (match cz_to pc off with
    | some t => some (t, st.map ez_v)
    | none => none) = _
  rw [ht]
theorem ez_null1 {off : Int} {r : Nat} (hc : cz_code M pc = some (.ifnull off, 3)) (k : ez_W d M (pc + 3) L st h Q) : ez_W d M pc L (.inr (.inr (some r)) :: st) h Q :=
  dz_wp_br (q := (pc + 3, st.map ez_v)) hc rfl rfl rfl k
theorem ez_nonn0 {off : Int} (hc : cz_code M pc = some (.ifnonnull off, 3)) (k : ez_W d M (pc + 3) L st h Q) : ez_W d M pc L (.inr (.inr none) :: st) h Q :=
  dz_wp_br (q := (pc + 3, st.map ez_v)) hc rfl rfl rfl k
theorem ez_nonn1 {off : Int} {t r : Nat} (hc : cz_code M pc = some (.ifnonnull off, 3)) (ht : cz_to pc off = some t) (k : ez_W d M t L st h Q) : ez_W d M pc L (.inr (.inr (some r)) :: st) h Q := by
  refine dz_wp_br (q := (t, st.map ez_v)) hc rfl rfl ?_ k
  show (match cz_to pc off with
    | some t => some (t, st.map ez_v)
    | none => none) = _
  rw [ht]
theorem ez_retI {a : Int} (hc : cz_code M pc = some (.ireturn, 1)) (ht : M.2.1.2.2.1 = some .int) (k : Q (.inl (some (ez_v (.inl a))), h)) : ez_W d M pc L [.inl a] h Q :=
  dz_wp_ret (v := some (.inl (Int32.ofInt a))) hc rfl rfl rfl (by rw [ht]; rfl) k
theorem ez_retZ {a : Int} (hc : cz_code M pc = some (.ireturn, 1)) (ht : M.2.1.2.2.1 = some .boolean) (ha : a = 0 ∨ a = 1) (k : Q (.inl (some (ez_v (.inl a))), h)) : ez_W d M pc L [.inl a] h Q := by
  refine dz_wp_ret (v := some (.inl (Int32.ofInt a))) hc rfl rfl rfl ?_ k
  rw [ht]
  rcases ha with rfl | rfl <;> rfl
theorem ez_ret0 (hc : cz_code M pc = some (.return_, 1)) (ht : M.2.1.2.2.1 = none) (k : Q (.inl none, h)) : ez_W d M pc L [] h Q :=
  dz_wp_ret (v := none) hc rfl rfl rfl (by rw [ht]; rfl) k
theorem ez_retL {a : Int64} (hc : cz_code M pc = some (.lreturn, 1)) (ht : M.2.1.2.2.1 = some .long) (k : Q (.inl (some (.inr (.inl a))), h)) : ez_W d M pc L [.inr (.inl a)] h Q :=
  dz_wp_ret (v := some (.inr (.inl a))) hc rfl rfl rfl (by rw [ht]; rfl) k
theorem ez_retA {a : Option Nat} {t : FieldType} (hc : cz_code M pc = some (.areturn, 1)) (ht : M.2.1.2.2.1 = some t) (hr : cz_ret .areturn (some t) [.inr (.inr a)] = some (some (.inr (.inr a)))) (k : Q (.inl (some (.inr (.inr a))), h)) : ez_W d M pc L [.inr (.inr a)] h Q :=
  dz_wp_ret (v := some (.inr (.inr a))) hc rfl rfl rfl (by rw [ht]; exact hr) k
end EzGo
