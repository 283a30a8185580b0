/-! L3, part 1: by hand: values with ints as whole numbers, runs of plain instructions, branches. -/
abbrev ez_V : Type := Int ⊕ (Int64 ⊕ Option Nat)
def ez_v (v : ez_V) : cz_V := match v with
  | .inl n => .inl (Int32.ofInt n)
  | .inr x => .inr x
def ez_L (L : List (Nat × ez_V)) : List (Nat × cz_V) := L.map (fun q => (q.1, ez_v q.2))
def ez_W (d : Nat) (M : cz_M) (pc : Nat) (L : List (Nat × ez_V)) (st : List ez_V) (h : cz_H) (Q : cz_F → Prop) : Prop := dz_WP cz_pg d M pc (ez_L L) (st.map ez_v) h Q
def ez_find (j : Nat) : List (Nat × ez_V) → Option ez_V
  | [] => none
  | q :: r => bif Nat.beq q.1 j then some q.2 else ez_find j r
def ez_lg (v : ez_V) : Bool := match v with
  | .inr (.inl _) => true
  | _ => false
theorem ez_lg_eq (v : ez_V) : cz_lg (ez_v v) = ez_lg v := by
  obtain a | a | a := v <;> rfl
theorem ez_find_eq (j : Nat) : ∀ L : List (Nat × ez_V), cz_find j (ez_L L) = (ez_find j L).map ez_v
  | [] => rfl
  | q :: r => by
    show (bif Nat.beq q.1 j then some (ez_v q.2) else cz_find j (ez_L r)) = (bif Nat.beq q.1 j then some q.2 else ez_find j r).map ez_v
    cases Nat.beq q.1 j with
    | true => rfl
    | false => exact ez_find_eq j r
def ez_f1 (i : Nat) (q : Nat × ez_V) : Bool := bif Nat.beq q.1 i then false else bif Nat.beq (Nat.succ q.1) i then !(ez_lg q.2) else true
def ez_f2 (i : Nat) (q : Nat × ez_V) : Bool := bif Nat.beq q.1 i then false else bif Nat.beq q.1 (Nat.succ i) then false else bif Nat.beq (Nat.succ q.1) i then !(ez_lg q.2) else true
def ez_fil (f : Nat × ez_V → Bool) : List (Nat × ez_V) → List (Nat × ez_V)
  | [] => []
  | q :: r => bif f q then q :: ez_fil f r else ez_fil f r
def ez_sto (L : List (Nat × ez_V)) (i : Nat) (v : ez_V) : List (Nat × ez_V) := (i, v) :: ez_fil (ez_f1 i) L
def ez_sto2 (L : List (Nat × ez_V)) (i : Nat) (v : ez_V) : List (Nat × ez_V) := (i, v) :: ez_fil (ez_f2 i) L
theorem ez_fil_eq {f : Nat × ez_V → Bool} {g : Nat × cz_V → Bool} (e : ∀ q : Nat × ez_V, g (q.1, ez_v q.2) = f q) : ∀ L : List (Nat × ez_V), cz_fil g (ez_L L) = ez_L (ez_fil f L)
  | [] => rfl
  | q :: r => by
    show (bif g (q.1, ez_v q.2) then (q.1, ez_v q.2) :: cz_fil g (ez_L r) else cz_fil g (ez_L r)) = ez_L (bif f q then q :: ez_fil f r else ez_fil f r)
    rw [e q, ez_fil_eq e r]
    cases f q <;> rfl
theorem ez_sto_eq (L : List (Nat × ez_V)) (i : Nat) (v : ez_V) : cz_sto (ez_L L) i (ez_v v) = ez_L (ez_sto L i v) := by
  show (i, ez_v v) :: cz_fil _ (ez_L L) = (i, ez_v v) :: ez_L (ez_fil (ez_f1 i) L)
  rw [ez_fil_eq (f := ez_f1 i) (fun q => by show (bif _ then _ else bif _ then !(cz_lg (ez_v q.2)) else _) = _; rw [ez_lg_eq]; rfl)]
theorem ez_sto2_eq (L : List (Nat × ez_V)) (i : Nat) (v : ez_V) : cz_sto2 (ez_L L) i (ez_v v) = ez_L (ez_sto2 L i v) := by
  show (i, ez_v v) :: cz_fil _ (ez_L L) = (i, ez_v v) :: ez_L (ez_fil (ez_f2 i) L)
  rw [ez_fil_eq (f := ez_f2 i) (fun q => by show (bif _ then _ else bif _ then _ else bif _ then !(cz_lg (ez_v q.2)) else _) = _; rw [ez_lg_eq]; rfl)]
theorem ez_of (x : Int32) : Int32.ofInt x.toInt = x := Int32.ofInt_toInt x
def ez_b (lo hi n : Int) : Bool := dz_ile lo n && dz_ile n hi
theorem ez_b8 {n : Int} (h : ez_b (-128) 127 n = true) : (Int8.ofInt n).toInt32 = Int32.ofInt n := by
  simp only [ez_b, Bool.and_eq_true] at h
  have h1 := dz_ile_ok h.1
  have h2 := dz_ile_ok h.2
  apply Int32.toInt_inj.mp
  rw [Int8.toInt_toInt32, Int8.toInt_ofInt_of_le (by omega) (by omega), dz_toInt_i (by omega) (by omega)]
theorem ez_b16 {n : Int} (h : ez_b (-32768) 32767 n = true) : (Int16.ofInt n).toInt32 = Int32.ofInt n := by
  simp only [ez_b, Bool.and_eq_true] at h
  have h1 := dz_ile_ok h.1
  have h2 := dz_ile_ok h.2
  apply Int32.toInt_inj.mp
  rw [Int16.toInt_toInt32, Int16.toInt_ofInt_of_le (by omega) (by omega), dz_toInt_i (by omega) (by omega)]
def ez_2 (L : List (Nat × ez_V)) (st : List ez_V) (f : Int → Int → Int) : Option (List (Nat × ez_V) × List ez_V) := match st with
  | .inl b :: .inl a :: r => some (L, .inl (f a b) :: r)
  | _ => none
def ez_1 (L : List (Nat × ez_V)) (st : List ez_V) (f : Int → Int) : Option (List (Nat × ez_V) × List ez_V) := match st with
  | .inl a :: r => some (L, .inl (f a) :: r)
  | _ => none
def ez_l2 (L : List (Nat × ez_V)) (st : List ez_V) (f : Int64 → Int64 → Int64) : Option (List (Nat × ez_V) × List ez_V) := match st with
  | .inr (.inl b) :: .inr (.inl a) :: r => some (L, .inr (.inl (f a b)) :: r)
  | _ => none
def ez_ls (L : List (Nat × ez_V)) (st : List ez_V) (f : Int64 → Int32 → Int64) : Option (List (Nat × ez_V) × List ez_V) := match st with
  | .inl b :: .inr (.inl a) :: r => some (L, .inr (.inl (f a (Int32.ofInt b))) :: r)
  | _ => none
def ez_ldI (L : List (Nat × ez_V)) (st : List ez_V) (k : Nat) : Option (List (Nat × ez_V) × List ez_V) := match ez_find k L with
  | some (.inl a) => some (L, .inl a :: st)
  | _ => none
def ez_ldL (L : List (Nat × ez_V)) (st : List ez_V) (k : Nat) : Option (List (Nat × ez_V) × List ez_V) := match ez_find k L with
  | some (.inr (.inl a)) => some (L, .inr (.inl a) :: st)
  | _ => none
def ez_ldA (L : List (Nat × ez_V)) (st : List ez_V) (k : Nat) : Option (List (Nat × ez_V) × List ez_V) := match ez_find k L with
  | some (.inr (.inr a)) => some (L, .inr (.inr a) :: st)
  | _ => none
def ez_stI (nL : Nat) (L : List (Nat × ez_V)) (st : List ez_V) (k : Nat) : Option (List (Nat × ez_V) × List ez_V) := match st with
  | .inl a :: r => bif Nat.blt k nL then some (ez_sto L k (.inl a), r) else none
  | _ => none
def ez_stA (nL : Nat) (L : List (Nat × ez_V)) (st : List ez_V) (k : Nat) : Option (List (Nat × ez_V) × List ez_V) := match st with
  | .inr (.inr a) :: r => bif Nat.blt k nL then some (ez_sto L k (.inr (.inr a)), r) else none
  | _ => none
def ez_stL (nL : Nat) (L : List (Nat × ez_V)) (st : List ez_V) (k : Nat) : Option (List (Nat × ez_V) × List ez_V) := match st with
  | .inr (.inl a) :: r => bif Nat.blt (k + 1) nL then some (ez_sto2 L k (.inr (.inl a)), r) else none
  | _ => none
def ez_inc (nL : Nat) (L : List (Nat × ez_V)) (st : List ez_V) (k : Nat) (n : Int) : Option (List (Nat × ez_V) × List ez_V) := match ez_find k L with
  | some (.inl a) => bif Nat.blt k nL then some (ez_sto L k (.inl (a + n)), st) else none
  | _ => none
def ez_il (L : List (Nat × ez_V)) (st : List ez_V) : Option (List (Nat × ez_V) × List ez_V) := match st with
  | .inl a :: r => some (L, .inr (.inl (Int32.ofInt a).toInt64) :: r)
  | _ => none
def ez_li (L : List (Nat × ez_V)) (st : List ez_V) : Option (List (Nat × ez_V) × List ez_V) := match st with
  | .inr (.inl a) :: r => some (L, .inl a.toInt32.toInt :: r)
  | _ => none
def ez_lc (L : List (Nat × ez_V)) (st : List ez_V) : Option (List (Nat × ez_V) × List ez_V) := match st with
  | .inr (.inl b) :: .inr (.inl a) :: r => some (L, .inl (lg_cmp a b).toInt :: r)
  | _ => none
def ez_du (L : List (Nat × ez_V)) (st : List ez_V) : Option (List (Nat × ez_V) × List ez_V) := match st with
  | v :: r => bif ez_lg v then none else some (L, v :: v :: r)
  | _ => none
def ez_po (L : List (Nat × ez_V)) (st : List ez_V) : Option (List (Nat × ez_V) × List ez_V) := match st with
  | v :: r => bif ez_lg v then none else some (L, r)
  | _ => none
def ez_d2 (L : List (Nat × ez_V)) (st : List ez_V) : Option (List (Nat × ez_V) × List ez_V) := match st with
  | a :: b :: r => bif ez_lg a || ez_lg b then none else some (L, a :: b :: a :: b :: r)
  | _ => none
def ez_dx (L : List (Nat × ez_V)) (st : List ez_V) : Option (List (Nat × ez_V) × List ez_V) := match st with
  | a :: b :: r => bif ez_lg a || ez_lg b then none else some (L, a :: b :: a :: r)
  | _ => none
/-- instructions that touch the frame alone -/
def ez_p1 (i : Instr) (nL : Nat) (L : List (Nat × ez_V)) (st : List ez_V) : Option (List (Nat × ez_V) × List ez_V) := match i with
  | .iconst n => some (L, .inl n :: st)
  | .bipush n => bif ez_b (-128) 127 n then some (L, .inl n :: st) else none
  | .sipush n => bif ez_b (-32768) 32767 n then some (L, .inl n :: st) else none
  | .lconst n => some (L, .inr (.inl (Int64.ofInt (n.val : Nat))) :: st)
  | .aconst_null => some (L, .inr (.inr none) :: st)
  | .iload_n k => ez_ldI L st k
  | .iload k => ez_ldI L st k
  | .lload_n k => ez_ldL L st k
  | .lload k => ez_ldL L st k
  | .aload_n k => ez_ldA L st k
  | .aload k => ez_ldA L st k
  | .istore_n k => ez_stI nL L st k
  | .istore k => ez_stI nL L st k
  | .astore_n k => ez_stA nL L st k
  | .astore k => ez_stA nL L st k
  | .lstore_n k => ez_stL nL L st k
  | .lstore k => ez_stL nL L st k
  | .iinc k n => ez_inc nL L st k n
  | .iadd => ez_2 L st (fun a b => a + b)
  | .isub => ez_2 L st (fun a b => a - b)
  | .imul => ez_2 L st (fun a b => a * b)
  | .iand => ez_2 L st (fun a b => (Int32.ofInt a &&& Int32.ofInt b).toInt)
  | .ior => ez_2 L st (fun a b => (Int32.ofInt a ||| Int32.ofInt b).toInt)
  | .ixor => ez_2 L st (fun a b => (Int32.ofInt a ^^^ Int32.ofInt b).toInt)
  | .ishl => ez_2 L st (fun a b => (Int32.ofInt a <<< (Int32.ofInt b &&& 31)).toInt)
  | .ishr => ez_2 L st (fun a b => (Int32.ofInt a >>> (Int32.ofInt b &&& 31)).toInt)
  | .iushr => ez_2 L st (fun a b => (((Int32.ofInt a).toUInt32 >>> ((Int32.ofInt b).toUInt32 &&& Int32.toUInt32 31)).toInt32).toInt)
  | .i2b => ez_1 L st (fun a => (Int32.ofInt a).toInt8.toInt32.toInt)
  | .i2c => ez_1 L st (fun a => ((Int32.ofInt a).toUInt32 % 65536).toInt32.toInt)
  | .ineg => ez_1 L st (fun a => -a)
  | .ladd => ez_l2 L st (· + ·)
  | .lsub => ez_l2 L st (· - ·)
  | .lmul => ez_l2 L st (· * ·)
  | .land => ez_l2 L st (· &&& ·)
  | .lor => ez_l2 L st (· ||| ·)
  | .lxor => ez_l2 L st (· ^^^ ·)
  | .lshl => ez_ls L st (fun x y => x <<< (y.toInt64 &&& 63))
  | .lushr => ez_ls L st (fun x y => (x.toUInt64 >>> (y.toInt64.toUInt64 &&& Int64.toUInt64 63)).toInt64)
  | .i2l => ez_il L st
  | .l2i => ez_li L st
  | .lcmp => ez_lc L st
  | .dup => ez_du L st
  | .pop => ez_po L st
  | .dup2 => ez_d2 L st
  | .dup_x1 => ez_dx L st
  | _ => none
section EzP1
variable {nL : Nat} {L : List (Nat × ez_V)} {st : List ez_V} {q : List (Nat × ez_V) × List ez_V}
theorem ez_2_ok {f : Int → Int → Int} {op : Int32 → Int32 → Int32} (e : ∀ a b, Int32.ofInt (f a b) = op (Int32.ofInt a) (Int32.ofInt b)) (h : ez_2 L st f = some q) : (cz_bin op (st.map ez_v)).map (fun s => (ez_L L, s)) = some (ez_L q.1, q.2.map ez_v) := by
  unfold ez_2 at h
  split at h
  · rename_i b a r
    cases h
    show some (ez_L L, (Sum.inl (op (Int32.ofInt a) (Int32.ofInt b)) : cz_V) :: r.map ez_v) = some (ez_L L, (Sum.inl (Int32.ofInt (f a b)) : cz_V) :: r.map ez_v)
    rw [e]
  · cases h
theorem ez_1_ok {f : Int → Int} {op : Int32 → Int32} (e : ∀ a, Int32.ofInt (f a) = op (Int32.ofInt a)) (h : ez_1 L st f = some q) : (cz_una op (st.map ez_v)).map (fun s => (ez_L L, s)) = some (ez_L q.1, q.2.map ez_v) := by
  unfold ez_1 at h
  split at h
  · rename_i a r
    cases h
    show some (ez_L L, (Sum.inl (op (Int32.ofInt a)) : cz_V) :: r.map ez_v) = some (ez_L L, (Sum.inl (Int32.ofInt (f a)) : cz_V) :: r.map ez_v)
    rw [e]
  · cases h
theorem ez_l2_ok {f : Int64 → Int64 → Int64} (h : ez_l2 L st f = some q) : (cz_lbin f (st.map ez_v)).map (fun s => (ez_L L, s)) = some (ez_L q.1, q.2.map ez_v) := by
  unfold ez_l2 at h
  split at h
  · cases h; rfl
  · cases h
theorem ez_ls_ok {f : Int64 → Int32 → Int64} (h : ez_ls L st f = some q) : (cz_lsh f (st.map ez_v)).map (fun s => (ez_L L, s)) = some (ez_L q.1, q.2.map ez_v) := by
  unfold ez_ls at h
  split at h
  · cases h; rfl
  · cases h
theorem ez_ldI_ok {k : Nat} (h : ez_ldI L st k = some q) : (cz_ld (ez_L L) k cz_isI).map (fun v => (ez_L L, v :: st.map ez_v)) = some (ez_L q.1, q.2.map ez_v) := by
  unfold ez_ldI at h
  split at h
  · rename_i a hf
    cases h
    unfold cz_ld
    rw [ez_find_eq, hf]
    rfl
  · cases h
theorem ez_ldL_ok {k : Nat} (h : ez_ldL L st k = some q) : (cz_ld (ez_L L) k cz_lg).map (fun v => (ez_L L, v :: st.map ez_v)) = some (ez_L q.1, q.2.map ez_v) := by
  unfold ez_ldL at h
  split at h
  · rename_i a hf
    cases h
    unfold cz_ld
    rw [ez_find_eq, hf]
    rfl
  · cases h
theorem ez_ldA_ok {k : Nat} (h : ez_ldA L st k = some q) : (cz_ld (ez_L L) k cz_isR).map (fun v => (ez_L L, v :: st.map ez_v)) = some (ez_L q.1, q.2.map ez_v) := by
  unfold ez_ldA at h
  split at h
  · rename_i a hf
    cases h
    unfold cz_ld
    rw [ez_find_eq, hf]
    rfl
  · cases h
theorem ez_stI_ok {k : Nat} (h : ez_stI nL L st k = some q) : (match st.map ez_v with
    | .inl a :: r => bif Nat.blt k nL then some (cz_sto (ez_L L) k (.inl a), r) else none
    | _ => none) = some (ez_L q.1, q.2.map ez_v) := by
  unfold ez_stI at h
  split at h
  · rename_i a r
    show (bif Nat.blt k nL then some (cz_sto (ez_L L) k (ez_v (.inl a)), r.map ez_v) else none) = _
    cases hb : Nat.blt k nL with
    | false => rw [hb] at h; cases h
    | true => rw [hb] at h; cases h; rw [ez_sto_eq]; rfl
  · cases h
theorem ez_stA_ok {k : Nat} (h : ez_stA nL L st k = some q) : (match st.map ez_v with
    | .inr (.inr a) :: r => bif Nat.blt k nL then some (cz_sto (ez_L L) k (.inr (.inr a)), r) else none
    | _ => none) = some (ez_L q.1, q.2.map ez_v) := by
  unfold ez_stA at h
  split at h
  · rename_i a r
    show (bif Nat.blt k nL then some (cz_sto (ez_L L) k (ez_v (.inr (.inr a))), r.map ez_v) else none) = _
    cases hb : Nat.blt k nL with
    | false => rw [hb] at h; cases h
    | true => rw [hb] at h; cases h; rw [ez_sto_eq]; rfl
  · cases h
theorem ez_stL_ok {k : Nat} (h : ez_stL nL L st k = some q) : (match st.map ez_v with
    | .inr (.inl a) :: r => bif Nat.blt (k + 1) nL then some (cz_sto2 (ez_L L) k (.inr (.inl a)), r) else none
    | _ => none) = some (ez_L q.1, q.2.map ez_v) := by
  unfold ez_stL at h
  split at h
  · rename_i a r
    show (bif Nat.blt (k + 1) nL then some (cz_sto2 (ez_L L) k (ez_v (.inr (.inl a))), r.map ez_v) else none) = _
    cases hb : Nat.blt (k + 1) nL with
    | false => rw [hb] at h; cases h
    | true => rw [hb] at h; cases h; rw [ez_sto2_eq]; rfl
  · cases h
theorem ez_inc_ok {k : Nat} {n : Int} (h : ez_inc nL L st k n = some q) : cz_pure (.iinc k n) nL (ez_L L) (st.map ez_v) = some (ez_L q.1, q.2.map ez_v) := by
  unfold ez_inc at h
  unfold cz_pure
  dsimp only
  rw [ez_find_eq]
  split at h
  · rename_i a hf
    rw [hf]
    show (bif Nat.blt k nL then some (cz_sto (ez_L L) k (.inl (Int32.ofInt a + Int32.ofInt n)), st.map ez_v) else none) = _
    cases hb : Nat.blt k nL with
    | false => rw [hb] at h; cases h
    | true =>
      rw [hb] at h
      cases h
      rw [← Int32.ofInt_add, show (Sum.inl (Int32.ofInt (a + n)) : cz_V) = ez_v (.inl (a + n)) from rfl, ez_sto_eq]
      rfl
  · cases h
theorem ez_il_ok (h : ez_il L st = some q) : cz_pure .i2l nL (ez_L L) (st.map ez_v) = some (ez_L q.1, q.2.map ez_v) := by
  unfold ez_il at h
  split at h
  · cases h; rfl
  · cases h
theorem ez_li_ok (h : ez_li L st = some q) : cz_pure .l2i nL (ez_L L) (st.map ez_v) = some (ez_L q.1, q.2.map ez_v) := by
  unfold ez_li at h
  split at h
  · rename_i a r
    cases h
    show some (ez_L L, (Sum.inl a.toInt32 : cz_V) :: r.map ez_v) = some (ez_L L, (Sum.inl (Int32.ofInt a.toInt32.toInt) : cz_V) :: r.map ez_v)
    rw [ez_of]
  · cases h
theorem ez_lc_ok (h : ez_lc L st = some q) : cz_pure .lcmp nL (ez_L L) (st.map ez_v) = some (ez_L q.1, q.2.map ez_v) := by
  unfold ez_lc at h
  split at h
  · rename_i b a r
    cases h
    show some (ez_L L, (Sum.inl (lg_cmp a b) : cz_V) :: r.map ez_v) = some (ez_L L, (Sum.inl (Int32.ofInt (lg_cmp a b).toInt) : cz_V) :: r.map ez_v)
    rw [ez_of]
  · cases h
theorem ez_du_ok (h : ez_du L st = some q) : cz_pure .dup nL (ez_L L) (st.map ez_v) = some (ez_L q.1, q.2.map ez_v) := by
  unfold ez_du at h
  split at h
  · rename_i v r
    show (bif cz_lg (ez_v v) then none else some (ez_L L, ez_v v :: ez_v v :: r.map ez_v)) = _
    rw [ez_lg_eq]
    cases hb : ez_lg v with
    | true => rw [hb] at h; cases h
    | false => rw [hb] at h; cases h; rfl
  · cases h
theorem ez_po_ok (h : ez_po L st = some q) : cz_pure .pop nL (ez_L L) (st.map ez_v) = some (ez_L q.1, q.2.map ez_v) := by
  unfold ez_po at h
  split at h
  · rename_i v r
    show (bif cz_lg (ez_v v) then none else some (ez_L L, r.map ez_v)) = _
    rw [ez_lg_eq]
    cases hb : ez_lg v with
    | true => rw [hb] at h; cases h
    | false => rw [hb] at h; cases h; rfl
  · cases h
theorem ez_d2_ok (h : ez_d2 L st = some q) : cz_pure .dup2 nL (ez_L L) (st.map ez_v) = some (ez_L q.1, q.2.map ez_v) := by
  unfold ez_d2 at h
  split at h
  · rename_i a b r
    show (bif cz_lg (ez_v a) || cz_lg (ez_v b) then none else some (ez_L L, ez_v a :: ez_v b :: ez_v a :: ez_v b :: r.map ez_v)) = _
    rw [ez_lg_eq, ez_lg_eq]
    cases hb : (ez_lg a || ez_lg b) with
    | true => rw [hb] at h; cases h
    | false => rw [hb] at h; cases h; rfl
  · cases h
theorem ez_dx_ok (h : ez_dx L st = some q) : cz_pure .dup_x1 nL (ez_L L) (st.map ez_v) = some (ez_L q.1, q.2.map ez_v) := by
  unfold ez_dx at h
  split at h
  · rename_i a b r
    show (bif cz_lg (ez_v a) || cz_lg (ez_v b) then none else some (ez_L L, ez_v a :: ez_v b :: ez_v a :: r.map ez_v)) = _
    rw [ez_lg_eq, ez_lg_eq]
    cases hb : (ez_lg a || ez_lg b) with
    | true => rw [hb] at h; cases h
    | false => rw [hb] at h; cases h; rfl
  · cases h
theorem ez_p1_ok {i : Instr} (h : ez_p1 i nL L st = some q) : cz_pure i nL (ez_L L) (st.map ez_v) = some (ez_L q.1, q.2.map ez_v) := by
  cases i
  case iconst n => cases h; rfl
  case bipush n =>
    have h : (bif ez_b (-128) 127 n then some (L, Sum.inl n :: st) else none) = some q := h
    cases hb : ez_b (-128) 127 n with
    | false => rw [hb] at h; cases h
    | true => rw [hb] at h; cases h; show some (ez_L L, (Sum.inl (Int8.ofInt n).toInt32 : cz_V) :: st.map ez_v) = _; rw [ez_b8 hb]; rfl
  case sipush n =>
    have h : (bif ez_b (-32768) 32767 n then some (L, Sum.inl n :: st) else none) = some q := h
    cases hb : ez_b (-32768) 32767 n with
    | false => rw [hb] at h; cases h
    | true => rw [hb] at h; cases h; show some (ez_L L, (Sum.inl (Int16.ofInt n).toInt32 : cz_V) :: st.map ez_v) = _; rw [ez_b16 hb]; rfl
  case lconst n => cases h; rfl
  case aconst_null => cases h; rfl
  case iload_n k => exact ez_ldI_ok h
  case iload k => exact ez_ldI_ok h
  case lload_n k => exact ez_ldL_ok h
  case lload k => exact ez_ldL_ok h
  case aload_n k => exact ez_ldA_ok h
  case aload k => exact ez_ldA_ok h
  case istore_n k => exact ez_stI_ok h
  case istore k => exact ez_stI_ok h
  case astore_n k => exact ez_stA_ok h
  case astore k => exact ez_stA_ok h
  case lstore_n k => exact ez_stL_ok h
  case lstore k => exact ez_stL_ok h
  case iinc k n => exact ez_inc_ok h
  case iadd => exact ez_2_ok (fun a b => Int32.ofInt_add a b) h
  case isub => exact ez_2_ok (fun a b => Int32.ofInt_sub a b) h
  case imul => exact ez_2_ok (fun a b => Int32.ofInt_mul a b) h
  case iand => exact ez_2_ok (fun a b => ez_of _) h
  case ior => exact ez_2_ok (fun a b => ez_of _) h
  case ixor => exact ez_2_ok (fun a b => ez_of _) h
  case ishl => exact ez_2_ok (fun a b => ez_of _) h
  case ishr => exact ez_2_ok (fun a b => ez_of _) h
  case iushr => exact ez_2_ok (fun a b => ez_of _) h
  case i2b => exact ez_1_ok (fun a => ez_of _) h
  case i2c => exact ez_1_ok (fun a => ez_of _) h
  case ineg => exact ez_1_ok (fun a => Int32.ofInt_neg a) h
  case ladd => exact ez_l2_ok h
  case lsub => exact ez_l2_ok h
  case lmul => exact ez_l2_ok h
  case land => exact ez_l2_ok h
  case lor => exact ez_l2_ok h
  case lxor => exact ez_l2_ok h
  case lshl => exact ez_ls_ok h
  case lushr => exact ez_ls_ok h
  case i2l => exact ez_il_ok h
  case l2i => exact ez_li_ok h
  case lcmp => exact ez_lc_ok h
  case dup => exact ez_du_ok h
  case pop => exact ez_po_ok h
  case dup2 => exact ez_d2_ok h
  case dup_x1 => exact ez_dx_ok h
  all_goals cases h
end EzP1
/-- a run of such instructions, jumps among them -/
noncomputable def ez_ex (M : cz_M) : Nat → Nat → List (Nat × ez_V) → List ez_V → Option (Nat × List (Nat × ez_V) × List ez_V)
  | 0, pc, L, st => some (pc, L, st)
  | n + 1, pc, L, st => match cz_code M pc with
    | some (i, len) => (match ez_p1 i M.2.1.2.1 L st with
      | some q => bif Nat.beq len (cz_len i) then ez_ex M n (pc + len) q.1 q.2 else none
      | none => (match i with
        | .goto off => (match cz_to pc off with
          | some t => bif Nat.beq len 3 then ez_ex M n t L st else none
          | none => none)
        | _ => none))
    | none => none
section EzGo
variable {d : Nat} {M : cz_M} {pc : Nat} {L : List (Nat × ez_V)} {st : List ez_V} {h : cz_H} {Q : cz_F → Prop}
theorem ez_go {n pc' : Nat} {L' : List (Nat × ez_V)} {st' : List ez_V} (hx : ez_ex M n pc L st = some (pc', L', st')) (k : ez_W d M pc' L' st' h Q) : ez_W d M pc L st h Q := by
  induction n generalizing pc L st with
  | zero => cases hx; exact k
  | succ n ih =>
    unfold ez_ex at hx
    split at hx
    · rename_i i len hc
      split at hx
      · rename_i q hq
        cases hb : Nat.beq len (cz_len i) with
        | false => rw [hb] at hx; cases hx
        | true =>
          rw [hb] at hx
          have e := Nat.eq_of_beq_eq_true hb
          refine dz_wp_pure hc hb (ez_p1_ok hq) ?_
          rw [← e]
          exact ih hx
      · rename_i hq
        split at hx
        · rename_i off
          split at hx
          · rename_i t ht
            cases hb : Nat.beq len 3 with
            | false => rw [hb] at hx; cases hx
            | true =>
              rw [hb] at hx
              refine dz_wp_br (q := (t, st.map ez_v)) hc (by show (Nat.beq len 3 || false) = true; rw [hb]; rfl) rfl ?_ (ih hx)
              show (match cz_to pc off with
                | some t => some (t, st.map ez_v)
                | none => none) = _
              rw [ht]
          · cases hx
        · cases hx
    · cases hx
def ez_rg (a : Int) : Prop := -2147483648 ≤ a ∧ a ≤ 2147483647
theorem ez_rg.v {a : Int} (h : ez_rg a) : (Int32.ofInt a).toInt = a := dz_toInt_i h.1 h.2
def ez_cd (c : ClassFile.Cond) (a b : Int) : Prop := match c with
  | .eq => a = b
  | .ne => a ≠ b
  | .lt => a < b
  | .ge => b ≤ a
  | .gt => b < a
  | .le => a ≤ b
theorem ez_cd_ok {c : ClassFile.Cond} {a b : Int} (ha : ez_rg a) (hb : ez_rg b) : cz_cd c (Int32.ofInt a) (Int32.ofInt b) = true ↔ ez_cd c a b := by
  have e1 := ha.v
  have e2 := hb.v
  have eq : Int32.ofInt a = Int32.ofInt b ↔ a = b := by
    rw [← Int32.toInt_inj, e1, e2]
  cases c
  · show decide _ = true ↔ a = b; rw [decide_eq_true_iff]; exact eq
  · show (!decide _) = true ↔ a ≠ b
    rw [Bool.not_eq_true', decide_eq_false_iff_not]; exact not_congr eq
  · show decide _ = true ↔ a < b; rw [decide_eq_true_iff, Int32.lt_iff_toInt_lt, e1, e2]
  · show decide _ = true ↔ b ≤ a; rw [decide_eq_true_iff, Int32.le_iff_toInt_le, e1, e2]
  · show decide _ = true ↔ b < a; rw [decide_eq_true_iff, Int32.lt_iff_toInt_lt, e1, e2]
  · show decide _ = true ↔ a ≤ b; rw [decide_eq_true_iff, Int32.le_iff_toInt_le, e1, e2]
theorem ez_icmp {c : ClassFile.Cond} {off : Int} {t : Nat} {a b : Int} (hc : cz_code M pc = some (.if_icmp c off, 3)) (ht : cz_to pc off = some t) (ha : ez_rg a) (hb : ez_rg b) (k1 : ez_cd c a b → ez_W d M t L st h Q) (k2 : ¬ ez_cd c a b → ez_W d M (pc + 3) L st h Q) : ez_W d M pc L (.inl b :: .inl a :: st) h Q := by
  have e := ez_cd_ok (c := c) ha hb
  cases hcd : cz_cd c (Int32.ofInt a) (Int32.ofInt b) with
  | true =>
    refine dz_wp_br (q := (t, st.map ez_v)) hc rfl rfl ?_ (k1 (e.mp hcd))
    show (match cz_to pc off with
      | some t => some (bif cz_cd c (Int32.ofInt a) (Int32.ofInt b) then t else pc + 3, st.map ez_v)
      | none => none) = _
    rw [ht, hcd]; rfl
  | false =>
    refine dz_wp_br (q := (pc + 3, st.map ez_v)) hc rfl rfl ?_ (k2 (fun w => by rw [e.mpr w] at hcd; cases hcd))
    show (match cz_to pc off with
      | some t => some (bif cz_cd c (Int32.ofInt a) (Int32.ofInt b) then t else pc + 3, st.map ez_v)
      | none => none) = _
    rw [ht, hcd]; rfl
theorem ez_if {c : ClassFile.Cond} {off : Int} {t : Nat} {a : Int} (hc : cz_code M pc = some (.ifCond c off, 3)) (ht : cz_to pc off = some t) (ha : ez_rg a) (k1 : ez_cd c a 0 → ez_W d M t L st h Q) (k2 : ¬ ez_cd c a 0 → ez_W d M (pc + 3) L st h Q) : ez_W d M pc L (.inl a :: st) h Q := by
  have e := ez_cd_ok (c := c) ha (show ez_rg 0 from ⟨by decide, by decide⟩)
  cases hcd : cz_cd c (Int32.ofInt a) (Int32.ofInt 0) with
  | true =>
    refine dz_wp_br (q := (t, st.map ez_v)) hc rfl rfl ?_ (k1 (e.mp hcd))
    show (match cz_to pc off with
      | some t => some (bif cz_cd c (Int32.ofInt a) (Int32.ofInt 0) then t else pc + 3, st.map ez_v)
      | none => none) = _
    rw [ht, hcd]; rfl
  | false =>
    refine dz_wp_br (q := (pc + 3, st.map ez_v)) hc rfl rfl ?_ (k2 (fun w => by rw [e.mpr w] at hcd; cases hcd))
    show (match cz_to pc off with
      | some t => some (bif cz_cd c (Int32.ofInt a) (Int32.ofInt 0) then t else pc + 3, st.map ez_v)
      | none => none) = _
    rw [ht, hcd]; rfl
theorem ez_null0 {off : Int} {t : Nat} (hc : cz_code M pc = some (.ifnull off, 3)) (ht : cz_to pc off = some t) (k : ez_W d M t L st h Q) : ez_W d M pc L (.inr (.inr none) :: st) h Q := by
  refine dz_wp_br (q := (t, st.map ez_v)) hc rfl rfl ?_ k
  show (match cz_to pc off with
    | some t => some (t, st.map ez_v)
    | none => none) = _
  rw [ht]
theorem ez_null1 {off : Int} {r : Nat} (hc : cz_code M pc = some (.ifnull off, 3)) (k : ez_W d M (pc + 3) L st h Q) : ez_W d M pc L (.inr (.inr (some r)) :: st) h Q :=
  dz_wp_br (q := (pc + 3, st.map ez_v)) hc rfl rfl rfl k
theorem ez_nonn0 {off : Int} (hc : cz_code M pc = some (.ifnonnull off, 3)) (k : ez_W d M (pc + 3) L st h Q) : ez_W d M pc L (.inr (.inr none) :: st) h Q :=
  dz_wp_br (q := (pc + 3, st.map ez_v)) hc rfl rfl rfl k
theorem ez_nonn1 {off : Int} {t r : Nat} (hc : cz_code M pc = some (.ifnonnull off, 3)) (ht : cz_to pc off = some t) (k : ez_W d M t L st h Q) : ez_W d M pc L (.inr (.inr (some r)) :: st) h Q := by
  refine dz_wp_br (q := (t, st.map ez_v)) hc rfl rfl ?_ k
  show (match cz_to pc off with
    | some t => some (t, st.map ez_v)
    | none => none) = _
  rw [ht]
theorem ez_retI {a : Int} (hc : cz_code M pc = some (.ireturn, 1)) (ht : M.2.1.2.2.1 = some .int) (k : Q (.inl (some (ez_v (.inl a))), h)) : ez_W d M pc L [.inl a] h Q :=
  dz_wp_ret (v := some (.inl (Int32.ofInt a))) hc rfl rfl rfl (by rw [ht]; rfl) k
theorem ez_retZ {a : Int} (hc : cz_code M pc = some (.ireturn, 1)) (ht : M.2.1.2.2.1 = some .boolean) (ha : a = 0 ∨ a = 1) (k : Q (.inl (some (ez_v (.inl a))), h)) : ez_W d M pc L [.inl a] h Q := by
  refine dz_wp_ret (v := some (.inl (Int32.ofInt a))) hc rfl rfl rfl ?_ k
  rw [ht]
  rcases ha with rfl | rfl <;> rfl
theorem ez_ret0 (hc : cz_code M pc = some (.return_, 1)) (ht : M.2.1.2.2.1 = none) (k : Q (.inl none, h)) : ez_W d M pc L [] h Q :=
  dz_wp_ret (v := none) hc rfl rfl rfl (by rw [ht]; rfl) k
theorem ez_retL {a : Int64} (hc : cz_code M pc = some (.lreturn, 1)) (ht : M.2.1.2.2.1 = some .long) (k : Q (.inl (some (.inr (.inl a))), h)) : ez_W d M pc L [.inr (.inl a)] h Q :=
  dz_wp_ret (v := some (.inr (.inl a))) hc rfl rfl rfl (by rw [ht]; rfl) k
theorem ez_retA {a : Option Nat} {t : FieldType} (hc : cz_code M pc = some (.areturn, 1)) (ht : M.2.1.2.2.1 = some t) (hr : cz_ret .areturn (some t) [.inr (.inr a)] = some (some (.inr (.inr a)))) (k : Q (.inl (some (.inr (.inr a))), h)) : ez_W d M pc L [.inr (.inr a)] h Q :=
  dz_wp_ret (v := some (.inr (.inr a))) hc rfl rfl rfl (by rw [ht]; exact hr) k
end EzGo
/-! L3, part 2: by hand: reading and writing cells whose tags are known. -/
def ez_B (τ : Nat → Nat) (h : cz_H) : Prop := dz_B tz_T (fun _ g => cz_room g 0 0 = true) τ h
section EzHeap
variable {d : Nat} {M : cz_M} {pc : Nat} {L : List (Nat × ez_V)} {st : List ez_V} {h : cz_H} {Q : cz_F → Prop} {τ : Nat → Nat}
theorem ez_t0 {t : Nat} {ti : dz_I} (hti : tz_T t = some ti) (hk : Nat.beq ti.1 9 = false) : t ≠ 0 := fun e => by
  subst e
  have h0 : tz_T 0 = some (9, 0, 0, (0, 0), []) := rfl
  rw [h0] at hti
  cases hti
  cases hk
theorem ez_fld (hB : ez_B τ h) {r t cl k : Nat} {ti : dz_I} {D : dz_D} (hτ : τ r = t) (hti : tz_T t = some ti) (hk : (Nat.beq ti.1 0 && Nat.beq ti.2.1 cl) = true) (hD : dz_nth ti.2.2.2.2 k = some D) : ∃ vs v, cz_obj h r = some (cl, vs) ∧ vs[k]? = some v ∧ dz_get (h.2.2 r) k = some v ∧ dz_vd τ r D v ∧ (ti.2.2.1 = 0 ∨ 192 ≤ r) := by
  subst hτ
  simp only [Bool.and_eq_true] at hk
  have e0 := Nat.eq_of_beq_eq_true hk.1
  have e1 := Nat.eq_of_beq_eq_true hk.2
  have h0 : τ r ≠ 0 := ez_t0 hti (by rw [e0]; rfl)
  obtain ⟨vs, o1, o2, o3, o4, o5⟩ := dz_obj_at hB h0 hti hk.1
  have hlt : k < ti.2.2.2.2.length := by
    rw [dz_nth_eq] at hD
    exact (List.getElem?_eq_some_iff.mp hD).1
  have hv : vs[k]? = some vs[k] := List.getElem?_eq_getElem (by omega)
  have hg : dz_get (h.2.2 r) k = some vs[k] := by rw [o2]; exact hv
  obtain ⟨D', d1, d2⟩ := o5 k _ hg
  have d1 : dz_ds ti k = some D' := d1
  unfold dz_ds at d1
  rw [e0] at d1
  have d1 : dz_nth ti.2.2.2.2 k = some D' := d1
  rw [hD] at d1
  cases d1
  rw [e1] at o1
  exact ⟨vs, _, o1, hv, hg, d2, o4⟩
theorem ez_getf {x q0 cl k w r : Nat} {vs : List cz_V} {v : cz_V} {u : ez_V} (hc : cz_code M pc = some (.getfield x, 3)) (hq : cz_lk M x = some (q0, cl, k, w)) (hq0 : Nat.ble q0 1 = true) (ho : cz_obj h r = some (cl, vs)) (hv : vs[k]? = some v) (hu : v = ez_v u) (kk : ez_W d M (pc + 3) L (u :: st) h Q) : ez_W d M pc L (.inr (.inr (some r)) :: st) h Q := by
  subst hu
  refine dz_wp_hp (q := (pc + 3, ez_v u :: st.map ez_v, h)) hc rfl rfl rfl rfl rfl ?_ kk
  show cz_hget M x pc (.inr (.inr (some r)) :: st.map ez_v) h = _
  unfold cz_hget
  simp only [hq, hq0, ho, hv, cond_true, Nat.beq_refl]
def ez_int (c : Nat) : Bool := Nat.beq c 0 || (Nat.beq c 1 || Nat.beq c 4)
theorem ez_fit {c : Nat} {v : cz_V} (hc : ez_int c = true) (hf : cz_fitc c v = true) : ∃ x : Int32, v = .inl x := by
  obtain a | a | a := v
  · exact ⟨a, rfl⟩
  all_goals
    simp only [ez_int, Bool.or_eq_true] at hc
    rcases hc with hc | hc | hc <;> (have e := Nat.eq_of_beq_eq_true hc; subst e; cases hf)
/-- an int in a slot -/
theorem ez_slI {r i : Nat} {v : cz_V} {D : dz_D} (hg : dz_get (h.2.2 r) i = some v) (hd : dz_vd τ r D v) (hc : ez_int D.1 = true) : v = ez_v (.inl (qz_I h r i)) ∧ D.2.1 ≤ qz_I h r i ∧ qz_I h r i ≤ D.2.2.1 := by
  obtain ⟨x, rfl⟩ := ez_fit hc hd.1
  have e : qz_I h r i = x.toInt := qz_I_of hg
  rw [e]
  refine ⟨by show _ = Sum.inl (Int32.ofInt x.toInt); rw [ez_of], ?_⟩
  rcases hd.2.1 with w | w
  · rw [w] at hc; cases hc
  · exact w
theorem ez_fitR {v : cz_V} (hf : cz_fitc 3 v = true) : ∃ o : Option Nat, v = .inr (.inr o) := by
  obtain a | a | a := v
  · cases hf
  · cases hf
  · exact ⟨a, rfl⟩
/-- a reference in a slot that isn't null -/
theorem ez_slR {r i : Nat} {v : cz_V} {D : dz_D} (hg : dz_get (h.2.2 r) i = some v) (hd : dz_vd τ r D v) (hc : D.1 = 3) (hm : D.2.2.2.2 ≠ 2) (h1 : 1 ≤ qz_I h r i) : v = ez_v (.inr (.inr (some (qz_P h r i)))) ∧ τ (qz_P h r i) = D.2.2.2.1 ∧ D.2.2.2.1 ≠ 0 := by
  obtain ⟨c, lo, hi, tg, md⟩ := D
  have hc : c = 3 := hc
  subst hc
  obtain ⟨o, rfl⟩ := ez_fitR hd.1
  have e := qz_I_of hg
  cases o with
  | none => exfalso; have e : qz_I h r i = 0 := e; omega
  | some p =>
    have e : qz_I h r i = (p : Int) + 1 := e
    have ep : qz_P h r i = p := by unfold qz_P; rw [e]; omega
    rw [ep]
    rcases hd.2.2.1 with w | w
    · exact absurd w hm
    · exact ⟨rfl, w p rfl⟩
theorem ez_slN {r i : Nat} {v : cz_V} {D : dz_D} (hg : dz_get (h.2.2 r) i = some v) (hd : dz_vd τ r D v) (hc : D.1 = 3) (h1 : qz_I h r i = 0) : v = ez_v (.inr (.inr none)) := by
  obtain ⟨c, lo, hi, tg, md⟩ := D
  have hc : c = 3 := hc
  subst hc
  obtain ⟨o, rfl⟩ := ez_fitR hd.1
  have e := qz_I_of hg
  cases o with
  | none => rfl
  | some p => exfalso; have e : qz_I h r i = (p : Int) + 1 := e; omega
theorem ez_slB {r i : Nat} {v : cz_V} {D : dz_D} (hg : dz_get (h.2.2 r) i = some v) (hd : dz_vd τ r D v) (hc : D.1 ≠ 2) : D.2.1 ≤ qz_I h r i ∧ qz_I h r i ≤ D.2.2.1 := by
  rw [qz_I_of hg]
  rcases hd.2.1 with w | w
  · exact absurd w hc
  · exact w
section EzGet
variable {x q0 cl k w r t : Nat} {ti : dz_I} {c : Nat} {lo hi : Int} {tg md : Nat}
theorem ez_gI (hB : ez_B τ h) (hτ : τ r = t) (hc : cz_code M pc = some (.getfield x, 3)) (hq : cz_lk M x = some (q0, cl, k, w)) (hti : tz_T t = some ti) (hD : dz_nth ti.2.2.2.2 k = some (c, lo, hi, tg, md)) (hb : (Nat.ble q0 1 && ((Nat.beq ti.1 0 && Nat.beq ti.2.1 cl) && ez_int c)) = true) (kk : lo ≤ qz_I h r k → qz_I h r k ≤ hi → ez_W d M (pc + 3) L (.inl (qz_I h r k) :: st) h Q) : ez_W d M pc L (.inr (.inr (some r)) :: st) h Q := by
  rw [Bool.and_eq_true, Bool.and_eq_true] at hb
  obtain ⟨vs, v, o1, o2, o3, o4, -⟩ := ez_fld hB hτ hti hb.2.1 hD
  obtain ⟨e1, e2, e3⟩ := ez_slI o3 o4 hb.2.2
  exact ez_getf hc hq hb.1 o1 o2 e1 (kk e2 e3)
/-- a reference to a fixed place -/
theorem ez_gC {p : Nat} (hB : ez_B τ h) (hτ : τ r = t) (hc : cz_code M pc = some (.getfield x, 3)) (hq : cz_lk M x = some (q0, cl, k, w)) (hti : tz_T t = some ti) (hD : dz_nth ti.2.2.2.2 k = some (3, Int.ofNat (p + 1), Int.ofNat (p + 1), tg, 0)) (hb : (Nat.ble q0 1 && (Nat.beq ti.1 0 && Nat.beq ti.2.1 cl)) = true) (kk : τ p = tg → ez_W d M (pc + 3) L (.inr (.inr (some p)) :: st) h Q) : ez_W d M pc L (.inr (.inr (some r)) :: st) h Q := by
  rw [Bool.and_eq_true] at hb
  obtain ⟨vs, v, o1, o2, o3, o4, -⟩ := ez_fld hB hτ hti hb.2 hD
  have hbd := ez_slB o3 o4 (by show (3 : Nat) ≠ 2; decide)
  have hbd : ((p + 1 : Nat) : Int) ≤ qz_I h r k ∧ qz_I h r k ≤ ((p + 1 : Nat) : Int) := hbd
  obtain ⟨e1, e2, e3⟩ := ez_slR o3 o4 rfl (by show (0 : Nat) ≠ 2; decide) (by omega)
  have ep : qz_P h r k = p := by unfold qz_P; omega
  rw [ep] at e1 e2
  exact ez_getf hc hq hb.1 o1 o2 e1 (kk e2)
/-- a reference that is never null -/
theorem ez_gR (hB : ez_B τ h) (hτ : τ r = t) (hc : cz_code M pc = some (.getfield x, 3)) (hq : cz_lk M x = some (q0, cl, k, w)) (hti : tz_T t = some ti) (hD : dz_nth ti.2.2.2.2 k = some (3, lo, hi, tg, md)) (hb : (Nat.ble q0 1 && ((Nat.beq ti.1 0 && Nat.beq ti.2.1 cl) && (dz_ile 1 lo && !(Nat.beq md 2)))) = true) (kk : τ (qz_P h r k) = tg → 1 ≤ qz_I h r k → ez_W d M (pc + 3) L (.inr (.inr (some (qz_P h r k))) :: st) h Q) : ez_W d M pc L (.inr (.inr (some r)) :: st) h Q := by
  simp only [Bool.and_eq_true, Bool.not_eq_true'] at hb
  obtain ⟨b1, b2, b3, b4⟩ := hb
  obtain ⟨vs, v, o1, o2, o3, o4, -⟩ := ez_fld hB hτ hti (by rw [Bool.and_eq_true]; exact b2) hD
  have hbd := ez_slB o3 o4 (by show (3 : Nat) ≠ 2; decide)
  have b3 := dz_ile_ok b3
  have h1 : 1 ≤ qz_I h r k := by have h2 : lo ≤ qz_I h r k := hbd.1; omega
  obtain ⟨e1, e2, e3⟩ := ez_slR o3 o4 rfl (fun e => by have e : md = 2 := e; rw [e] at b4; cases b4) h1
  exact ez_getf hc hq b1 o1 o2 e1 (kk e2 h1)
/-- a reference that may be null -/
theorem ez_gN (hB : ez_B τ h) (hτ : τ r = t) (hc : cz_code M pc = some (.getfield x, 3)) (hq : cz_lk M x = some (q0, cl, k, w)) (hti : tz_T t = some ti) (hD : dz_nth ti.2.2.2.2 k = some (3, lo, hi, tg, md)) (hb : (Nat.ble q0 1 && ((Nat.beq ti.1 0 && Nat.beq ti.2.1 cl) && (dz_ile 0 lo && !(Nat.beq md 2)))) = true) (k0 : qz_I h r k = 0 → ez_W d M (pc + 3) L (.inr (.inr none) :: st) h Q) (k1 : τ (qz_P h r k) = tg → 1 ≤ qz_I h r k → ez_W d M (pc + 3) L (.inr (.inr (some (qz_P h r k))) :: st) h Q) : ez_W d M pc L (.inr (.inr (some r)) :: st) h Q := by
  simp only [Bool.and_eq_true, Bool.not_eq_true'] at hb
  obtain ⟨b1, b2, b3, b4⟩ := hb
  obtain ⟨vs, v, o1, o2, o3, o4, -⟩ := ez_fld hB hτ hti (by rw [Bool.and_eq_true]; exact b2) hD
  have hbd := ez_slB o3 o4 (by show (3 : Nat) ≠ 2; decide)
  have b3 := dz_ile_ok b3
  have h0 : lo ≤ qz_I h r k := hbd.1
  by_cases h1 : qz_I h r k = 0
  · exact ez_getf hc hq b1 o1 o2 (ez_slN o3 o4 rfl h1) (k0 h1)
  · have h1 : 1 ≤ qz_I h r k := by omega
    obtain ⟨e1, e2, e3⟩ := ez_slR o3 o4 rfl (fun e => by have e : md = 2 := e; rw [e] at b4; cases b4) h1
    exact ez_getf hc hq b1 o1 o2 e1 (k1 e2 h1)
end EzGet
/-- an array by its tag -/
theorem ez_arr (hB : ez_B τ h) {r t : Nat} {ti : dz_I} {D : dz_D} (hτ : τ r = t) (hti : tz_T t = some ti) (hk : (Nat.beq ti.1 1 && Nat.blt ti.2.1 11) = true) (hD : dz_nth ti.2.2.2.2 0 = some D) : ∃ n f, cz_arr h r = some (ti.2.1, n, f) ∧ h.2.2 r = .inl (ti.2.1, n, f) ∧ qz_N h r = (n : Int) ∧ (ti.2.2.2.1.1 ≤ qz_N h r ∧ qz_N h r ≤ ti.2.2.2.1.2) ∧ (ti.2.2.1 = 0 ∨ 192 ≤ r) ∧ ∀ i, i < n → dz_get (h.2.2 r) i = some (f i) ∧ dz_vd τ r D (f i) := by
  subst hτ
  simp only [Bool.and_eq_true] at hk
  have e0 := Nat.eq_of_beq_eq_true hk.1
  have h0 : τ r ≠ 0 := ez_t0 hti (by rw [e0]; rfl)
  obtain ⟨n, f, o1, o2, o3, o4, o5⟩ := dz_arr_at hB h0 hti hk.1 hk.2
  have hN : qz_N h r = (n : Int) := by unfold qz_N; rw [o2]
  refine ⟨n, f, o1, o2, hN, by rw [hN]; exact o3, o4, fun i hi => ⟨?_, ?_⟩⟩
  · rw [o2]; show (if i < n then some (f i) else none) = _; rw [if_pos hi]
  · obtain ⟨D', d1, d2⟩ := o5 i hi
    rw [hD] at d1
    cases d1
    exact d2
theorem ez_len (hB : ez_B τ h) {r t : Nat} {ti : dz_I} (hτ : τ r = t) (hti : tz_T t = some ti) (hk : (Nat.beq ti.1 1 && Nat.blt ti.2.1 11) = true) : ti.2.2.2.1.1 ≤ qz_N h r ∧ qz_N h r ≤ ti.2.2.2.1.2 := by
  subst hτ
  simp only [Bool.and_eq_true] at hk
  have e0 := Nat.eq_of_beq_eq_true hk.1
  have h0 : τ r ≠ 0 := ez_t0 hti (by rw [e0]; rfl)
  obtain ⟨n, f, o1, o2, o3, -⟩ := dz_arr_at hB h0 hti hk.1 hk.2
  have hN : qz_N h r = (n : Int) := by unfold qz_N; rw [o2]
  rw [hN]; exact o3
theorem ez_ix {i : Int} {n : Nat} (h0 : 0 ≤ i) (h1 : i < (n : Int)) (h2 : (n : Int) ≤ 2147483647) : cz_ix (Int32.ofInt i) n = true ∧ (Int32.ofInt i).toInt.toNat = i.toNat := by
  have e : (Int32.ofInt i).toInt = i := dz_toInt_i (by omega) (by omega)
  unfold cz_ix
  rw [e]
  refine ⟨?_, rfl⟩
  rw [Bool.and_eq_true, decide_eq_true_iff]
  exact ⟨h0, Nat.blt_eq.mpr (by omega)⟩
section EzAl
variable {r t : Nat} {ti : dz_I} {c : Nat} {lo hi : Int} {tg md : Nat} {i : Int} {op : Instr}
/-- the instruction reads arrays of that type -/
noncomputable def ez_alo (op : Instr) (t : Nat) : Bool := match op with
  | .iaload => Nat.beq t 1
  | .baload => Nat.beq t 0 || Nat.beq t 3
  | .aaload => Nat.ble 4 t
  | .laload => Nat.beq t 2
  | _ => false
theorem ez_alw {u : ez_V} {n ty : Nat} {f : Nat → cz_V} (hc : cz_code M pc = some (op, 1)) (ho : ez_alo op ty = true) (ha : cz_arr h r = some (ty, n, f)) (hx : cz_ix (Int32.ofInt i) n = true ∧ (Int32.ofInt i).toInt.toNat = i.toNat) (hu : f i.toNat = ez_v u) (kk : ez_W d M (pc + 1) L (u :: st) h Q) : ez_W d M pc L (.inl i :: .inr (.inr (some r)) :: st) h Q := by
  have key : ∀ ok : Nat → Bool, ok ty = true → cz_hal ok pc (.inl (Int32.ofInt i) :: .inr (.inr (some r)) :: st.map ez_v) h = some (pc + 1, ez_v u :: st.map ez_v, h) := by
    intro ok hok
    show cz_aload pc (st.map ez_v) h (Int32.ofInt i) r ok = _
    unfold cz_aload
    simp only [ha, hx.1, hok, Bool.and_self, cond_true, hx.2, hu]
  cases op
  case iaload => exact dz_wp_hp (q := (pc + 1, ez_v u :: st.map ez_v, h)) hc rfl rfl rfl rfl rfl (key _ ho) kk
  case baload => exact dz_wp_hp (q := (pc + 1, ez_v u :: st.map ez_v, h)) hc rfl rfl rfl rfl rfl (key _ ho) kk
  case laload => exact dz_wp_hp (q := (pc + 1, ez_v u :: st.map ez_v, h)) hc rfl rfl rfl rfl rfl (key _ ho) kk
  case aaload => exact dz_wp_hp (q := (pc + 1, ez_v u :: st.map ez_v, h)) hc rfl rfl rfl rfl rfl (key _ ho) kk
  all_goals cases ho
theorem ez_aI (hB : ez_B τ h) (hτ : τ r = t) (hc : cz_code M pc = some (op, 1)) (hti : tz_T t = some ti) (hD : dz_nth ti.2.2.2.2 0 = some (c, lo, hi, tg, md)) (hb : ((Nat.beq ti.1 1 && Nat.blt ti.2.1 11) && (ez_alo op ti.2.1 && (ez_int c && dz_ile ti.2.2.2.1.2 2147483647))) = true) (h0 : 0 ≤ i) (h1 : i < qz_N h r) (kk : lo ≤ qz_I h r i.toNat → qz_I h r i.toNat ≤ hi → ez_W d M (pc + 1) L (.inl (qz_I h r i.toNat) :: st) h Q) : ez_W d M pc L (.inl i :: .inr (.inr (some r)) :: st) h Q := by
  rw [Bool.and_eq_true] at hb
  obtain ⟨b0, b1⟩ := hb
  simp only [Bool.and_eq_true] at b1
  obtain ⟨b1, b2, b3⟩ := b1
  have b3 := dz_ile_ok b3
  obtain ⟨n, f, o1, o2, o3, o4, -, o6⟩ := ez_arr hB hτ hti b0 hD
  rw [o3] at h1 o4
  have hi : i.toNat < n := by omega
  obtain ⟨g1, g2⟩ := o6 _ hi
  obtain ⟨e1, e2, e3⟩ := ez_slI g1 g2 b2
  exact ez_alw hc b1 o1 (ez_ix h0 h1 (by omega)) e1 (kk e2 e3)
theorem ez_aR (hB : ez_B τ h) (hτ : τ r = t) (hc : cz_code M pc = some (.aaload, 1)) (hti : tz_T t = some ti) (hD : dz_nth ti.2.2.2.2 0 = some (3, lo, hi, tg, md)) (hb : ((Nat.beq ti.1 1 && Nat.blt ti.2.1 11) && (Nat.ble 4 ti.2.1 && (!(Nat.beq md 2) && dz_ile ti.2.2.2.1.2 2147483647))) = true) (h0 : 0 ≤ i) (h1 : i < qz_N h r) (h2 : 1 ≤ qz_I h r i.toNat) (kk : τ (qz_P h r i.toNat) = tg → ez_W d M (pc + 1) L (.inr (.inr (some (qz_P h r i.toNat))) :: st) h Q) : ez_W d M pc L (.inl i :: .inr (.inr (some r)) :: st) h Q := by
  rw [Bool.and_eq_true] at hb
  obtain ⟨b0, b1⟩ := hb
  simp only [Bool.and_eq_true, Bool.not_eq_true'] at b1
  obtain ⟨b1, b2, b3⟩ := b1
  have b3 := dz_ile_ok b3
  obtain ⟨n, f, o1, o2, o3, o4, -, o6⟩ := ez_arr hB hτ hti b0 hD
  rw [o3] at h1 o4
  have hi : i.toNat < n := by omega
  obtain ⟨g1, g2⟩ := o6 _ hi
  obtain ⟨e1, e2, e3⟩ := ez_slR g1 g2 rfl (fun e => by have e : md = 2 := e; rw [e] at b2; cases b2) h2
  exact ez_alw hc b1 o1 (ez_ix h0 h1 (by omega)) e1 (kk e2)
theorem ez_al (hB : ez_B τ h) (hτ : τ r = t) (hc : cz_code M pc = some (.arraylength, 1)) (hti : tz_T t = some ti) (hb : (Nat.beq ti.1 1 && Nat.blt ti.2.1 11) = true) (kk : ti.2.2.2.1.1 ≤ qz_N h r → qz_N h r ≤ ti.2.2.2.1.2 → ez_W d M (pc + 1) L (.inl (qz_N h r) :: st) h Q) : ez_W d M pc L (.inr (.inr (some r)) :: st) h Q := by
  subst hτ
  have hb' := hb
  simp only [Bool.and_eq_true] at hb
  have e0 := Nat.eq_of_beq_eq_true hb.1
  have h0 : τ r ≠ 0 := ez_t0 hti (by rw [e0]; rfl)
  obtain ⟨n, f, o1, o2, o3, -⟩ := dz_arr_at hB h0 hti hb.1 hb.2
  have hN : qz_N h r = (n : Int) := by unfold qz_N; rw [o2]
  rw [hN] at kk
  refine dz_wp_hp (q := (pc + 1, ez_v (.inl (n : Int)) :: st.map ez_v, h)) hc rfl rfl rfl rfl rfl ?_ (kk o3.1 o3.2)
  show cz_hlen pc (.inr (.inr (some r)) :: st.map ez_v) h = _
  unfold cz_hlen
  simp only [o1]
  rfl
end EzAl
end EzHeap
/-! L3, part 3: by hand: calls, writes, new cells. -/
def ez_take : Nat → List ez_V → Option (List ez_V × List ez_V)
  | 0, st => some ([], st)
  | _ + 1, [] => none
  | n + 1, v :: r => match ez_take n r with
    | some q => some (v :: q.1, q.2)
    | none => none
theorem ez_take_eq : ∀ {n : Nat} {st ws rest : List ez_V}, ez_take n st = some (ws, rest) → cz_take n (st.map ez_v) = some (ws.map ez_v, rest.map ez_v)
  | 0, st, ws, rest, h => by cases h; rfl
  | n + 1, [], ws, rest, h => by cases h
  | n + 1, v :: r, ws, rest, h => by
    unfold ez_take at h
    split at h
    · rename_i q hq
      cases h
      have := ez_take_eq (ws := q.1) (rest := q.2) hq
      show (match cz_take n (r.map ez_v) with
        | some q => some (ez_v v :: q.1, q.2)
        | none => none) = _
      rw [this]
      rfl
    · cases h
def ez_argl : Nat → List ez_V → List (Nat × ez_V)
  | _, [] => []
  | j, v :: r => (j, v) :: ez_argl (j + (bif ez_lg v then 2 else 1)) r
theorem ez_argl_eq : ∀ (l : List ez_V) (j : Nat), cz_argl j (l.map ez_v) = ez_L (ez_argl j l)
  | [], j => rfl
  | v :: r, j => by
    show cz_argl j (ez_v v :: r.map ez_v) = (j, ez_v v) :: ez_L (ez_argl (j + (bif ez_lg v then 2 else 1)) r)
    rw [← ez_argl_eq r]
    obtain a | a | a := v <;> rfl
def ez_cat (l : List ez_V) : Nat := cz_cat2 (l.map ez_v)
/-- back from a callee -/
def ez_K (d : Nat) (M : cz_M) (pc : Nat) (L : List (Nat × ez_V)) (rest : List ez_V) (Q : cz_F → Prop) : cz_F → Prop := fun q => ∃ n F, cz_sK (cz_x cz_pg n) d M pc (ez_L L) (rest.map ez_v) q = some F ∧ Q F
section EzCall
variable {d : Nat} {M M' : cz_M} {pc : Nat} {L : List (Nat × ez_V)} {stk rest ws : List ez_V} {h h' : cz_H} {Q : cz_F → Prop} {τ : Nat → Nat} {x y n z : Nat}
theorem ez_K0 (k : ez_W d M (pc + 3) L rest h' Q) : ez_K d M pc L rest Q (.inl none, h') := dz_wp_back (o := none) k
theorem ez_K1 {v : ez_V} (k : ez_W d M (pc + 3) L (v :: rest) h' Q) : ez_K d M pc L rest Q (.inl (some (ez_v v)), h') := dz_wp_back (o := some (ez_v v)) k
theorem ez_KA {o : Option Nat} (k : ez_W d M (pc + 3) L (.inr (.inr o) :: rest) h' Q) : ez_K d M pc L rest Q (.inl (some (.inr (.inr o))), h') := dz_wp_back (o := some (.inr (.inr o))) k
theorem ez_KL {a : Int64} (k : ez_W d M (pc + 3) L (.inr (.inl a) :: rest) h' Q) : ez_K d M pc L rest Q (.inl (some (.inr (.inl a))), h') := dz_wp_back (o := some (.inr (.inl a))) k
/-- thrown, and passed on -/
theorem ez_Kp {r kx : Nat} (he : cz_exc h' r = some kx) (hm : M.2.1.2.2.2 = []) (k : Q (.inr r, h')) : ez_K d M pc L rest Q (.inr r, h') :=
  dz_wp_pass he (by rw [hm]; rfl) (by rw [hm]; rfl) k
/-- thrown, and caught here -/
theorem ez_Kc {r kx t : Nat} (he : cz_exc h' r = some kx) (hm : cz_catch M pc kx M.2.1.2.2.2 = some (some t)) (k : ez_W d M t L [.inr (.inr (some r))] h' Q) : ez_K d M pc L rest Q (.inr r, h') :=
  dz_wp_catch he hm k
theorem ez_cnd (hR : cz_room h 0 0 = true) (hb : (Nat.ble (ez_cat rest + (M'.2.1.2.1 + 11)) 100 && Nat.ble (ez_cat ws) M'.2.1.2.1) = true) : ((Nat.blt 0 (d + 1) && cz_room h 0 0) && Nat.ble (cz_cat2 (rest.map ez_v) + (M'.2.1.2.1 + 11)) 100 && Nat.ble (cz_cat2 (ws.map ez_v)) M'.2.1.2.1) = true := by
  simp only [Bool.and_eq_true] at hb ⊢
  exact ⟨⟨⟨Nat.blt_eq.mpr (Nat.succ_pos d), hR⟩, hb.1⟩, hb.2⟩
theorem ez_cs (hR : cz_room h 0 0 = true) (hc : cz_code M pc = some (.invokestatic x, 3)) (hq : cz_lk M x = some (2, y, n, z)) (ht : ez_take n stk = some (ws, rest)) (hM : cz_pg.1[y]? = some M') (hb : (Nat.ble (ez_cat rest + (M'.2.1.2.1 + 11)) 100 && Nat.ble (ez_cat ws.reverse) M'.2.1.2.1) = true) (k : ez_W d M' 0 (ez_argl 0 ws.reverse) [] h (ez_K (d + 1) M pc L rest Q)) : ez_W (d + 1) M pc L stk h Q := by
  refine dz_wp_call (as := ws.reverse.map ez_v) (rest := rest.map ez_v) hc rfl rfl rfl rfl rfl ?_ ?_ hM (ez_cnd hR hb) ?_
  · have h1 : cz_hcpy M (d + 1) x pc (stk.map ez_v) h = none := by
      unfold cz_hcpy
      split
      · rw [hq]; rfl
      · rfl
    have h2 : cz_hci M (d + 1) x pc (stk.map ez_v) h = none := by
      unfold cz_hci
      split
      · rw [hq]; rfl
      · rfl
    show (match cz_hcpy M (d + 1) x pc (stk.map ez_v) h with
      | some q => some q
      | none => cz_hci M (d + 1) x pc (stk.map ez_v) h) = none
    rw [h1]
    exact h2
  · show cz_cS x M (stk.map ez_v) = _
    unfold cz_cS
    simp only [hq, ez_take_eq ht, cond_true, show Nat.beq 2 2 = true from rfl, List.map_reverse]
  · rw [ez_argl_eq]
    exact k
theorem ez_cv (hB : ez_B τ h) {r t c : Nat} {ti : dz_I} (hτ : τ r = t) (hc : cz_code M pc = some (.invokevirtual x, 3)) (hq : cz_lk M x = some (3, y, n, c)) (ht : ez_take n stk = some (ws, .inr (.inr (some r)) :: rest)) (hti : tz_T t = some ti) (hk : (Nat.beq ti.1 0 && Nat.beq ti.2.1 c) = true) (hM : cz_pg.1[y]? = some M') (hb : (Nat.ble (ez_cat rest + (M'.2.1.2.1 + 11)) 100 && Nat.ble (ez_cat (.inr (.inr (some r)) :: ws.reverse)) M'.2.1.2.1) = true) (k : ez_W d M' 0 (ez_argl 0 (.inr (.inr (some r)) :: ws.reverse)) [] h (ez_K (d + 1) M pc L rest Q)) : ez_W (d + 1) M pc L stk h Q := by
  refine dz_wp_call (as := ((.inr (.inr (some r)) : ez_V) :: ws.reverse).map ez_v) (rest := rest.map ez_v) hc rfl rfl rfl rfl rfl ?_ ?_ hM (ez_cnd hB.2.1 hb) ?_
  · show cz_hcl M (d + 1) x pc (stk.map ez_v) h = none
    unfold cz_hcl
    split
    · rw [hq]; rfl
    · rfl
  · show cz_cV x M (stk.map ez_v) h = _
    have ho : ∃ vs, cz_obj h r = some (c, vs) := by
      subst hτ
      simp only [Bool.and_eq_true] at hk
      have e0 := Nat.eq_of_beq_eq_true hk.1
      have e1 := Nat.eq_of_beq_eq_true hk.2
      obtain ⟨vs, o1, -⟩ := dz_obj_at hB (ez_t0 hti (by rw [e0]; rfl)) hti hk.1
      rw [e1] at o1
      exact ⟨vs, o1⟩
    obtain ⟨vs, ho⟩ := ho
    unfold cz_cV
    simp only [hq, ez_take_eq ht, cond_true, show Nat.beq 3 3 = true from rfl, List.map_cons, ez_v, ho, Nat.beq_refl, List.map_reverse]
  · rw [ez_argl_eq]
    exact k
/-- a constructor, or a private method -/
theorem ez_ci (hR : cz_room h 0 0 = true) {r q0 : Nat} (hc : cz_code M pc = some (.invokespecial x, 3)) (hq : cz_lk M x = some (q0, y, n, z)) (h0 : (Nat.beq q0 4 || Nat.beq q0 5) = true) (ht : ez_take n stk = some (ws, .inr (.inr (some r)) :: rest)) (hM : cz_pg.1[y]? = some M') (hb : (Nat.ble (ez_cat rest + (M'.2.1.2.1 + 11)) 100 && Nat.ble (ez_cat (.inr (.inr (some r)) :: ws.reverse)) M'.2.1.2.1) = true) (k : ez_W d M' 0 (ez_argl 0 (.inr (.inr (some r)) :: ws.reverse)) [] h (ez_K (d + 1) M pc L rest Q)) : ez_W (d + 1) M pc L stk h Q := by
  have hne : Nat.beq q0 6 = false := by
    simp only [Bool.or_eq_true] at h0
    rcases h0 with h0 | h0 <;> (rw [Nat.eq_of_beq_eq_true h0]; rfl)
  refine dz_wp_call (as := ((.inr (.inr (some r)) : ez_V) :: ws.reverse).map ez_v) (rest := rest.map ez_v) hc rfl rfl rfl rfl rfl ?_ ?_ hM (ez_cnd hR hb) ?_
  · show cz_hobj M (d + 1) x pc (stk.map ez_v) h = none
    unfold cz_hobj
    split
    · rw [hq]; dsimp only; rw [hne]; rfl
    · rfl
  · show (match cz_cI x M (stk.map ez_v) with
      | some v => some v
      | none => cz_cU x M (stk.map ez_v) h) = _
    have : cz_cI x M (stk.map ez_v) = some (y, ((.inr (.inr (some r)) : ez_V) :: ws.reverse).map ez_v, rest.map ez_v) := by
      unfold cz_cI
      simp only [hq, h0, ez_take_eq ht, cond_true, List.map_cons, ez_v, List.map_reverse]
    rw [this]
  · rw [ez_argl_eq]
    exact k
end EzCall
/-! L3, part 4: fewer locals known: what ends so, ends so with more. -/
def ez_nd (L : List (Nat × cz_V)) : Prop := (L.map (fun q => q.1)).Nodup
def ez_sub (L L' : List (Nat × cz_V)) : Prop := ∀ j v, cz_find j L = some v → cz_find j L' = some v
theorem ez_find_nd {j : Nat} {v : cz_V} : ∀ {L : List (Nat × cz_V)}, ez_nd L → (j, v) ∈ L → cz_find j L = some v
  | [], _, h => by cases h
  | q :: r, hn, h => by
    have hn : (q.1 :: r.map (fun q => q.1)).Nodup := hn
    rw [List.nodup_cons] at hn
    rw [cz_find_cons]
    rcases List.mem_cons.mp h with e | h
    · rw [← e]
      show (bif Nat.beq j j then some v else _) = some v
      rw [Nat.beq_refl]
      rfl
    · have hne : q.1 ≠ j := fun e => hn.1 (by rw [e]; exact List.mem_map.mpr ⟨(j, v), h, rfl⟩)
      rw [dz_beq_ne hne]
      exact ez_find_nd hn.2 h
theorem ez_fil_mem {f : Nat × cz_V → Bool} {q : Nat × cz_V} {L : List (Nat × cz_V)} (h : q ∈ cz_fil f L) : q ∈ L ∧ f q = true := by
  rw [cz_fil_eq, List.mem_filter] at h
  exact h
theorem ez_nd_fil {f : Nat × cz_V → Bool} {L : List (Nat × cz_V)} (h : ez_nd L) : ez_nd (cz_fil f L) := by
  unfold ez_nd at h ⊢
  rw [cz_fil_eq]
  exact h.sublist (List.filter_sublist.map _)
theorem ez_nd_sto {L : List (Nat × cz_V)} {i : Nat} {v : cz_V} (h : ez_nd L) : ez_nd (cz_sto L i v) := by
  show (i :: (cz_fil _ L).map (fun q => q.1)).Nodup
  rw [List.nodup_cons]
  refine ⟨fun w => ?_, ez_nd_fil h⟩
  obtain ⟨q, hq, e⟩ := List.mem_map.mp w
  have := (ez_fil_mem hq).2
  have e : q.1 = i := e
  rw [e] at this
  simp only [Nat.beq_refl, cond_true] at this
  cases this
theorem ez_nd_sto2 {L : List (Nat × cz_V)} {i : Nat} {v : cz_V} (h : ez_nd L) : ez_nd (cz_sto2 L i v) := by
  show (i :: (cz_fil _ L).map (fun q => q.1)).Nodup
  rw [List.nodup_cons]
  refine ⟨fun w => ?_, ez_nd_fil h⟩
  obtain ⟨q, hq, e⟩ := List.mem_map.mp w
  have := (ez_fil_mem hq).2
  have e : q.1 = i := e
  rw [e] at this
  simp only [Nat.beq_refl, cond_true] at this
  cases this
theorem ez_sub_sto {L L' : List (Nat × cz_V)} {i : Nat} {v : cz_V} (hn : ez_nd L) (h : ez_sub L L') : ez_sub (cz_sto L i v) (cz_sto L' i v) := by
  intro j w hw
  have hm := cz_find_mem hw
  rcases List.mem_cons.mp hm with e | hm
  · cases e
    exact cz_find_sto_self _ _ _
  · obtain ⟨m1, m2⟩ := ez_fil_mem hm
    have hne : j ≠ i := fun e => by
      rw [e] at m2
      simp only [Nat.beq_refl, cond_true] at m2
      cases m2
    refine cz_find_sto hne (fun e => ?_) (h j w (ez_find_nd hn m1))
    have m2 : (bif Nat.beq j i then false else bif Nat.beq (Nat.succ j) i then !(cz_lg w) else true) = true := m2
    rw [dz_beq_ne hne, show Nat.succ j = i from e, Nat.beq_refl] at m2
    simpa using m2
theorem ez_sub_sto2 {L L' : List (Nat × cz_V)} {i : Nat} {v : cz_V} (hn : ez_nd L) (h : ez_sub L L') : ez_sub (cz_sto2 L i v) (cz_sto2 L' i v) := by
  intro j w hw
  have hm := cz_find_mem hw
  rcases List.mem_cons.mp hm with e | hm
  · cases e
    exact cz_find_sto2_self _ _ _
  · obtain ⟨m1, m2⟩ := ez_fil_mem hm
    have m2 : (bif Nat.beq j i then false else bif Nat.beq j (Nat.succ i) then false else bif Nat.beq (Nat.succ j) i then !(cz_lg w) else true) = true := m2
    have hne : j ≠ i := fun e => by
      rw [e, Nat.beq_refl] at m2
      cases m2
    rw [dz_beq_ne hne] at m2
    have hne2 : j ≠ i + 1 := fun e => by
      rw [show Nat.succ i = j from e.symm, Nat.beq_refl] at m2
      cases m2
    refine cz_find_sto2 hne hne2 (fun e => ?_) (h j w (ez_find_nd hn m1))
    rw [dz_beq_ne (show j ≠ Nat.succ i from hne2), show Nat.succ j = i from e, Nat.beq_refl] at m2
    simpa using m2
/-- the frame alone: either L isn't asked, or with more known the same happens -/
theorem ez_sub_ld {L L' : List (Nat × cz_V)} {k : Nat} {f : cz_V → Bool} {v : cz_V} (h : ez_sub L L') (hl : cz_ld L k f = some v) : cz_ld L' k f = some v := by
  obtain ⟨h1, h2⟩ := cz_ld_inv hl
  unfold cz_ld
  rw [h k v h1]
  dsimp only
  rw [h2]
  rfl
def ez_pp (i : Instr) (nL : Nat) (L L' : List (Nat × cz_V)) (st : List cz_V) : Prop := ∀ q, cz_pure i nL L st = some q → ∃ q', cz_pure i nL L' st = some q' ∧ q'.2 = q.2 ∧ ez_nd q.1 ∧ ez_sub q.1 q'.1
theorem ez_pp_map {L L' : List (Nat × cz_V)} {o : Option (List cz_V)} (hn : ez_nd L) (h : ez_sub L L') : ∀ q, o.map (fun s => (L, s)) = some q → ∃ q', o.map (fun s => (L', s)) = some q' ∧ q'.2 = q.2 ∧ ez_nd q.1 ∧ ez_sub q.1 q'.1 := by
  intro q hq
  cases o with
  | none => cases hq
  | some s => cases hq; exact ⟨_, rfl, rfl, hn, h⟩
theorem ez_pp_ld {L L' : List (Nat × cz_V)} {st : List cz_V} {k : Nat} {f : cz_V → Bool} (hn : ez_nd L) (h : ez_sub L L') : ∀ q, (cz_ld L k f).map (fun v => (L, v :: st)) = some q → ∃ q', (cz_ld L' k f).map (fun v => (L', v :: st)) = some q' ∧ q'.2 = q.2 ∧ ez_nd q.1 ∧ ez_sub q.1 q'.1 := by
  intro q hq
  cases hl : cz_ld L k f with
  | none => rw [hl] at hq; cases hq
  | some v =>
    rw [hl] at hq
    cases hq
    rw [ez_sub_ld h hl]
    exact ⟨_, rfl, rfl, hn, h⟩
theorem ez_pp_b {L L' : List (Nat × cz_V)} {b : Bool} {q : List (Nat × cz_V) × List cz_V} {q' : List (Nat × cz_V) × List cz_V} (he : q'.2 = q.2) (hn : ez_nd q.1) (hs : ez_sub q.1 q'.1) : ∀ r, (bif b then some q else none) = some r → ∃ r', (bif b then some q' else none) = some r' ∧ r'.2 = r.2 ∧ ez_nd r.1 ∧ ez_sub r.1 r'.1 := by
  intro r hr
  cases b with
  | false => cases hr
  | true => cases hr; exact ⟨_, rfl, he, hn, hs⟩
theorem ez_pp_n {L L' : List (Nat × cz_V)} {b : Bool} {s : List cz_V} (hn : ez_nd L) (h : ez_sub L L') : ∀ r, (bif b then none else some (L, s)) = some r → ∃ r', (bif b then none else some (L', s)) = some r' ∧ r'.2 = r.2 ∧ ez_nd r.1 ∧ ez_sub r.1 r'.1 := by
  intro r hr
  cases b with
  | true => cases hr
  | false => cases hr; exact ⟨_, rfl, rfl, hn, h⟩
set_option maxHeartbeats 1000000 in
theorem ez_pp_all {i : Instr} {nL : Nat} {L L' : List (Nat × cz_V)} {st : List cz_V} (hn : ez_nd L) (h : ez_sub L L') : ez_pp i nL L L' st := by
  unfold ez_pp
  cases i
  case iload_n k => exact ez_pp_ld hn h
  case iload k => exact ez_pp_ld hn h
  case lload_n k => exact ez_pp_ld hn h
  case lload k => exact ez_pp_ld hn h
  case aload_n k => exact ez_pp_ld hn h
  case aload k => exact ez_pp_ld hn h
  case istore_n k =>
    match st with
    | .inl a :: r => exact ez_pp_b (L := L) (L' := L') rfl (ez_nd_sto hn) (ez_sub_sto hn h)
    | .inr (.inl a) :: r => intro q hq; cases hq
    | .inr (.inr a) :: r => intro q hq; cases hq
    | [] => intro q hq; cases hq
  case istore k =>
    match st with
    | .inl a :: r => exact ez_pp_b (L := L) (L' := L') rfl (ez_nd_sto hn) (ez_sub_sto hn h)
    | .inr (.inl a) :: r => intro q hq; cases hq
    | .inr (.inr a) :: r => intro q hq; cases hq
    | [] => intro q hq; cases hq
  case astore_n k =>
    match st with
    | .inr (.inr a) :: r => exact ez_pp_b (L := L) (L' := L') rfl (ez_nd_sto hn) (ez_sub_sto hn h)
    | .inr (.inl a) :: r => intro q hq; cases hq
    | .inl a :: r => intro q hq; cases hq
    | [] => intro q hq; cases hq
  case astore k =>
    match st with
    | .inr (.inr a) :: r => exact ez_pp_b (L := L) (L' := L') rfl (ez_nd_sto hn) (ez_sub_sto hn h)
    | .inr (.inl a) :: r => intro q hq; cases hq
    | .inl a :: r => intro q hq; cases hq
    | [] => intro q hq; cases hq
  case lstore_n k =>
    match st with
    | .inr (.inl a) :: r => exact ez_pp_b (L := L) (L' := L') rfl (ez_nd_sto2 hn) (ez_sub_sto2 hn h)
    | .inr (.inr a) :: r => intro q hq; cases hq
    | .inl a :: r => intro q hq; cases hq
    | [] => intro q hq; cases hq
  case lstore k =>
    match st with
    | .inr (.inl a) :: r => exact ez_pp_b (L := L) (L' := L') rfl (ez_nd_sto2 hn) (ez_sub_sto2 hn h)
    | .inr (.inr a) :: r => intro q hq; cases hq
    | .inl a :: r => intro q hq; cases hq
    | [] => intro q hq; cases hq
  case iinc k n =>
    intro q hq
    unfold cz_pure at hq ⊢
    dsimp only at hq ⊢
    split at hq
    · rename_i a ha
      rw [h k _ ha]
      exact ez_pp_b (L := L) (L' := L') (q := (cz_sto L k (.inl (a + Int32.ofInt n)), st)) (q' := (cz_sto L' k (.inl (a + Int32.ofInt n)), st)) rfl (ez_nd_sto hn) (ez_sub_sto hn h) q hq
    · cases hq
  all_goals
    intro q hq
    first
      | (cases hq; exact ⟨_, rfl, rfl, hn, h⟩)
      | (cases hq)
      | exact ez_pp_map hn h q hq
      | (unfold cz_pure at hq ⊢; dsimp only at hq ⊢; split at hq <;> first | (cases hq; exact ⟨_, rfl, rfl, hn, h⟩) | (cases hq) | exact ez_pp_n hn h q hq)
/-- instructions of the frame alone -/
def ez_isp (i : Instr) : Bool := match i with
  | .iconst _ | .bipush _ | .sipush _ | .lconst _ | .aconst_null | .iload_n _ | .iload _ | .lload_n _ | .lload _ | .aload_n _ | .aload _ | .istore_n _ | .istore _ | .astore_n _ | .astore _ | .lstore_n _ | .lstore _ | .iinc _ _ | .iadd | .isub | .imul | .iand | .ior | .ixor | .ishl | .ishr | .iushr | .i2b | .i2c | .ineg | .ladd | .lsub | .lmul | .land | .lor | .lxor | .lshl | .lushr | .idiv | .irem | .i2l | .l2i | .lcmp | .dup | .pop | .dup2 | .dup_x1 => true
  | _ => false
theorem ez_isp0 {i : Instr} (hi : ez_isp i = false) (nL : Nat) (L : List (Nat × cz_V)) (st : List cz_V) : cz_pure i nL L st = none := by
  cases i <;> first | rfl | cases hi
theorem ez_isp1 {P : cz_P} {ih : cz_Ih} {d : Nat} {M : cz_M} {pc : Nat} {L : List (Nat × cz_V)} {st : List cz_V} {h : cz_H} {i : Instr} {len : Nat} (hi : ez_isp i = true) (hp : cz_pure i M.2.1.2.1 L st = none) : cz_s P ih d M pc L st h i len = none := by
  unfold cz_s
  rw [hp]
  dsimp only
  cases hl : Nat.beq len (cz_len i) with
  | false => cases i <;> first | rfl | cases hi
  | true => cases i <;> first | rfl | cases hi
theorem ez_sub_x (P : cz_P) : ∀ (n d : Nat) (M : cz_M) (pc : Nat) (L L' : List (Nat × cz_V)) (st : List cz_V) (h : cz_H) (F : cz_F), ez_nd L → ez_sub L L' → cz_x P n d M pc L st h = some F → cz_x P n d M pc L' st h = some F
  | 0, d, M, pc, L, L', st, h, F, _, _, hx => by cases hx
  | n + 1, d, M, pc, L, L', st, h, F, hn, hs, hx => by
    have ih := ez_sub_x P n
    unfold cz_x at hx ⊢
    split at hx
    · rename_i i len hc
      cases hi : ez_isp i with
      | true =>
        cases hp : cz_pure i M.2.1.2.1 L st with
        | none => rw [ez_isp1 hi hp] at hx; cases hx
        | some q =>
          obtain ⟨q', p1, p2, p3, p4⟩ := ez_pp_all (nL := M.2.1.2.1) (st := st) hn hs q hp
          unfold cz_s at hx ⊢
          rw [hp] at hx
          rw [p1]
          dsimp only at hx ⊢
          cases hb : Nat.beq len (cz_len i) with
          | false => rw [hb] at hx; cases hx
          | true =>
            rw [hb] at hx
            rw [p2]
            exact ih _ _ _ _ _ _ _ _ p3 p4 hx
      | false =>
        have e1 := ez_isp0 hi M.2.1.2.1 L st
        have e2 := ez_isp0 hi M.2.1.2.1 L' st
        unfold cz_s at hx ⊢
        rw [e1] at hx
        rw [e2]
        dsimp only at hx ⊢
        cases hbr : cz_br i pc st with
        | some q =>
          rw [hbr] at hx
          dsimp only at hx ⊢
          cases hb : (Nat.beq len (cz_len i) || cz_isw i) with
          | false => rw [hb] at hx; cases hx
          | true => rw [hb] at hx; exact ih _ _ _ _ _ _ _ _ hn hs hx
        | none =>
          rw [hbr] at hx
          dsimp only at hx ⊢
          cases hb : Nat.beq len (cz_len i) with
          | false => rw [hb] at hx; cases hx
          | true =>
            rw [hb] at hx
            dsimp only [cond_true] at hx ⊢
            cases hrt : cz_ret i M.2.1.2.2.1 st with
            | some v => rw [hrt] at hx; exact hx
            | none =>
              rw [hrt] at hx
              dsimp only at hx ⊢
              cases hth : cz_throw M pc i with
              | some k => rw [hth] at hx; exact hx
              | none =>
                rw [hth] at hx
                dsimp only at hx ⊢
                cases hhp : cz_hp P M d pc st h i with
                | some q => rw [hhp] at hx; exact ih _ _ _ _ _ _ _ _ hn hs hx
                | none =>
                  rw [hhp] at hx
                  dsimp only at hx ⊢
                  unfold cz_sC at hx ⊢
                  split at hx
                  · rename_i y as rest hcall
                    split at hx
                    · rename_i M' hM
                      cases hb2 : ((Nat.blt 0 d && cz_room h 0 0) && Nat.ble (cz_cat2 rest + (M'.2.1.2.1 + 11)) 100 && Nat.ble (cz_cat2 as) M'.2.1.2.1) with
                      | false => rw [hb2] at hx; cases hx
                      | true =>
                        rw [hb2] at hx
                        dsimp only [cond_true] at hx ⊢
                        split at hx
                        · rename_i q hq
                          unfold cz_sK at hx ⊢
                          split at hx
                          · exact ih _ _ _ _ _ _ _ _ hn hs hx
                          · exact ih _ _ _ _ _ _ _ _ hn hs hx
                          · split at hx
                            · rename_i k he
                              split at hx
                              · rename_i t ht
                                exact ih _ _ _ _ _ _ _ _ hn hs hx
                              · exact hx
                              · cases hx
                            · cases hx
                        · cases hx
                    · cases hx
                  · cases hx
    · cases hx
theorem ez_sub_ok {L L' : List (Nat × ez_V)} (h : ∀ q ∈ L, ez_find q.1 L' = some q.2) : ez_sub (ez_L L) (ez_L L') := by
  intro j v hv
  obtain ⟨q, hq, e⟩ := List.mem_map.mp (cz_find_mem hv)
  cases e
  rw [ez_find_eq, h q hq]
  rfl
def ez_ndB : List (Nat × ez_V) → Bool
  | [] => true
  | q :: r => (r.all (fun p => !(Nat.beq p.1 q.1))) && ez_ndB r
theorem ez_ndB_ok : ∀ {L : List (Nat × ez_V)}, ez_ndB L = true → (L.map (fun q => q.1)).Nodup
  | [], _ => List.nodup_nil
  | q :: r, h => by
    have h : ((r.all (fun p => !(Nat.beq p.1 q.1))) && ez_ndB r) = true := h
    rw [Bool.and_eq_true, List.all_eq_true] at h
    show (q.1 :: r.map (fun q => q.1)).Nodup
    rw [List.nodup_cons]
    refine ⟨fun w => ?_, ez_ndB_ok h.2⟩
    obtain ⟨p, hp, e⟩ := List.mem_map.mp w
    have := h.1 p hp
    have e : p.1 = q.1 := e
    rw [e, Nat.beq_refl] at this
    cases this
def ez_fnd (L' : List (Nat × ez_V)) : List (Nat × ez_V) → Prop
  | [] => True
  | q :: r => ez_find q.1 L' = some q.2 ∧ ez_fnd L' r
theorem ez_fnd_ok {L' : List (Nat × ez_V)} : ∀ {L : List (Nat × ez_V)}, ez_fnd L' L → ∀ q ∈ L, ez_find q.1 L' = some q.2
  | [], _ => fun q hq => by cases hq
  | p :: r, h => fun q hq => by
    rcases List.mem_cons.mp hq with e | hq
    · rw [e]; exact h.1
    · exact ez_fnd_ok h.2 q hq
/-- fewer locals, in any order -/
theorem ez_less {d : Nat} {M : cz_M} {pc : Nat} (L : List (Nat × ez_V)) {L' : List (Nat × ez_V)} {st : List ez_V} {h : cz_H} {Q : cz_F → Prop} (hn : ez_ndB L = true) (hs : ez_fnd L' L) (k : ez_W d M pc L st h Q) : ez_W d M pc L' st h Q := by
  obtain ⟨n, F, h1, h2⟩ := k
  refine ⟨n, F, ez_sub_x _ n _ _ _ _ _ _ _ _ ?_ (ez_sub_ok (ez_fnd_ok hs)) h1, h2⟩
  unfold ez_nd ez_L
  rw [List.map_map]
  exact ez_ndB_ok hn
/-! L3, part 5: by hand: writes and new cells. -/
theorem ez_put_I {h : cz_H} {r i : Nat} {v : cz_V} {q j : Nat} (e : ¬(q = r ∧ j = i)) : qz_I (dz_put h r i v) q j = qz_I h q j := by
  apply qz_I_eq
  rw [dz_put_at]
  by_cases e1 : q = r
  · subst e1
    rw [if_pos rfl]
    have e2 : j ≠ i := fun w => e ⟨rfl, w⟩
    obtain c | c | c := h.2.2 q
    · show (if j < c.2.1 then some (if j = i then v else c.2.2 j) else none) = (if j < c.2.1 then some (c.2.2 j) else none)
      rw [if_neg e2]
    · exact List.getElem?_set_ne (fun w => e2 w.symm)
    · rfl
  · rw [if_neg e1]
theorem ez_put_P {h : cz_H} {r i : Nat} {v : cz_V} {q j : Nat} (e : ¬(q = r ∧ j = i)) : qz_P (dz_put h r i v) q j = qz_P h q j := by
  unfold qz_P
  rw [ez_put_I e]
theorem ez_put_N {h : cz_H} {r i : Nat} {v : cz_V} (q : Nat) : qz_N (dz_put h r i v) q = qz_N h q := qz_N_eq (qz_put_al _ _ _ _ _)
theorem ez_m40 {r : Nat} {x : Int} : dz_m4 0 r x := ⟨Or.inl (by decide), Or.inl (by decide), Or.inl (by decide)⟩
section EzW
variable {d : Nat} {M : cz_M} {pc : Nat} {L : List (Nat × ez_V)} {st : List ez_V} {h : cz_H} {Q : cz_F → Prop} {τ : Nat → Nat}
theorem ez_vdI {r : Nat} {c : Nat} {lo hi n : Int} {tg : Nat} (hc : (Nat.beq c 0 || (Nat.beq c 1 && (dz_ile 0 lo && dz_ile hi 1))) = true) (hr : (dz_ile (-2147483648) lo && dz_ile hi 2147483647) = true) (h1 : lo ≤ n) (h2 : n ≤ hi) : dz_vd τ r (c, lo, hi, tg, 0) (ez_v (.inl n)) := by
  rw [Bool.and_eq_true] at hr
  have r1 := dz_ile_ok hr.1
  have r2 := dz_ile_ok hr.2
  have e : (Int32.ofInt n).toInt = n := dz_toInt_i (by omega) (by omega)
  refine ⟨?_, Or.inr ?_, Or.inr (fun p hp => (by cases hp)), ez_m40⟩
  · simp only [Bool.or_eq_true, Bool.and_eq_true] at hc
    rcases hc with hc | ⟨hc, hc1, hc2⟩
    · have := Nat.eq_of_beq_eq_true hc; subst this; rfl
    · have := Nat.eq_of_beq_eq_true hc
      subst this
      have c1 := dz_ile_ok hc1
      have c2 := dz_ile_ok hc2
      have : n = 0 ∨ n = 1 := by omega
      rcases this with rfl | rfl <;> rfl
  · show lo ≤ (Int32.ofInt n).toInt ∧ (Int32.ofInt n).toInt ≤ hi
    rw [e]; exact ⟨h1, h2⟩
theorem ez_vdR {r p : Nat} {lo hi : Int} {tg : Nat} (h0 : Nat.beq tg 0 = false) (hp : τ p = tg) (h1 : lo ≤ (p : Int) + 1) (h2 : (p : Int) + 1 ≤ hi) : dz_vd τ r (3, lo, hi, tg, 0) (ez_v (.inr (.inr (some p)))) :=
  ⟨rfl, Or.inr ⟨h1, h2⟩, Or.inr (fun q hq => by cases hq; exact ⟨hp, fun e => by have e : tg = 0 := e; rw [e] at h0; cases h0⟩), ez_m40⟩
theorem ez_vdN {r : Nat} {lo hi : Int} {tg : Nat} (hb : (dz_ile lo 0 && dz_ile 0 hi) = true) : dz_vd τ r (3, lo, hi, tg, 0) (ez_v (.inr (.inr none))) := by
  rw [Bool.and_eq_true] at hb
  exact ⟨rfl, Or.inr ⟨dz_ile_ok hb.1, dz_ile_ok hb.2⟩, Or.inr (fun q hq => (by cases hq)), ez_m40⟩
theorem ez_Bput (hB : ez_B τ h) {r i : Nat} {v old : cz_V} {ti : dz_I} {D : dz_D} (hti : tz_T (τ r) = some ti) (hg : dz_get (h.2.2 r) i = some old) (hD : dz_ds ti i = some D) (hv : dz_vd τ r D v) : ez_B τ (dz_put h r i v) :=
  dz_B_put hB hti hg hD hv hB.2.1
/-- putfield -/
theorem ez_pf {x q0 cl k r t : Nat} {ti : dz_I} {D : dz_D} {ks : List Nat} {v : ez_V} (hB : ez_B τ h) (hτ : τ r = t) (hc : cz_code M pc = some (.putfield x, 3)) (hq : cz_lk M x = some (q0, cl, k, 1)) (hti : tz_T t = some ti) (hD : dz_nth ti.2.2.2.2 k = some D) (hks : cz_pg.2.1[cl]? = some ks) (hkk : ks[k]? = some D.1) (hb : (Nat.ble q0 1 && ((Nat.beq ti.1 0 && Nat.beq ti.2.1 cl) && Nat.beq ti.2.2.1 1)) = true) (hv : dz_vd τ r D (ez_v v)) (kk : ez_B τ (dz_put h r k (ez_v v)) → qz_I (dz_put h r k (ez_v v)) r k = dz_n (ez_v v) → ez_W d M (pc + 3) L st (dz_put h r k (ez_v v)) Q) : ez_W d M pc L (v :: .inr (.inr (some r)) :: st) h Q := by
  rw [Bool.and_eq_true, Bool.and_eq_true] at hb
  obtain ⟨b1, b2, b3⟩ := hb
  obtain ⟨vs, old, o1, o2, o3, o4, o5⟩ := ez_fld hB hτ hti b2 hD
  have hr : 192 ≤ r := by
    rcases o5 with w | w
    · rw [w] at b3; cases b3
    · exact w
  have b2' := b2
  rw [Bool.and_eq_true] at b2'
  have e0 := Nat.eq_of_beq_eq_true b2'.1
  have hds : dz_ds ti k = some D := by unfold dz_ds; rw [e0]; exact hD
  have ho : h.2.2 r = .inr (.inl (cl, vs)) := by
    unfold cz_obj at o1
    cases hh : cz_hereB h r with
    | false => rw [hh] at o1; cases o1
    | true =>
      rw [hh] at o1
      simp only [cond_true] at o1
      split at o1
      · rename_i q hq'
        cases o1
        exact hq'
      · cases o1
  refine dz_wp_hp (q := (pc + 3, st.map ez_v, dz_put h r k (ez_v v))) hc rfl rfl rfl rfl rfl ?_ (kk (ez_Bput hB (by rw [hτ]; exact hti) o3 hds hv) (qz_put_I0 o3))
  show cz_hput cz_pg M x pc (ez_v v :: .inr (.inr (some r)) :: st.map ez_v) h = _
  unfold cz_hput
  have hfit := hv.1
  simp only [hq, b1, o1, hks, hkk, o2, hfit, Nat.beq_refl, Option.isSome_some, Bool.and_self, Nat.ble_eq.mpr hr, cond_true]
  show some (pc + 3, st.map ez_v, cz_setc h r (.inr (.inl (cl, vs.set k (ez_v v))))) = some (pc + 3, st.map ez_v, cz_setc h r (dz_set (h.2.2 r) k (ez_v v)))
  rw [ho]
  rfl
/-- a write into an array -/
noncomputable def ez_aso (op : Instr) (t : Nat) (v : ez_V) : Bool := match op, v with
  | .iastore, .inl _ => Nat.beq t 1
  | .lastore, .inr (.inl _) => Nat.beq t 2
  | _, _ => false
theorem ez_as {r t : Nat} {ti : dz_I} {D : dz_D} {i : Int} {op : Instr} {v : ez_V} (hB : ez_B τ h) (hτ : τ r = t) (hc : cz_code M pc = some (op, 1)) (hti : tz_T t = some ti) (hD : dz_nth ti.2.2.2.2 0 = some D) (hb : ((Nat.beq ti.1 1 && Nat.blt ti.2.1 11) && (ez_aso op ti.2.1 v && (Nat.beq ti.2.2.1 1 && dz_ile ti.2.2.2.1.2 2147483647))) = true) (h0 : 0 ≤ i) (h1 : i < qz_N h r) (hv : dz_vd τ r D (ez_v v)) (kk : ez_B τ (dz_put h r i.toNat (ez_v v)) → qz_I (dz_put h r i.toNat (ez_v v)) r i.toNat = dz_n (ez_v v) → ez_W d M (pc + 1) L st (dz_put h r i.toNat (ez_v v)) Q) : ez_W d M pc L (v :: .inl i :: .inr (.inr (some r)) :: st) h Q := by
  rw [Bool.and_eq_true] at hb
  obtain ⟨b0, b1⟩ := hb
  simp only [Bool.and_eq_true] at b1
  obtain ⟨b1, b2, b3⟩ := b1
  have b3 := dz_ile_ok b3
  obtain ⟨n, f, o1, o2, o3, o4, o5, o6⟩ := ez_arr hB hτ hti b0 hD
  rw [o3] at h1 o4
  have hi : i.toNat < n := by omega
  obtain ⟨g1, g2⟩ := o6 _ hi
  have hr : 192 ≤ r := by
    rcases o5 with w | w
    · rw [w] at b2; cases b2
    · exact w
  have b0' := b0
  rw [Bool.and_eq_true] at b0'
  have e0 := Nat.eq_of_beq_eq_true b0'.1
  have hds : dz_ds ti i.toNat = some D := by unfold dz_ds; rw [e0]; exact hD
  obtain ⟨x1, x2⟩ := ez_ix h0 h1 (by omega)
  have kk := kk (ez_Bput hB (by rw [hτ]; exact hti) g1 hds hv) (qz_put_I0 g1)
  have key : ∀ ok : Nat → Bool, ok ti.2.1 = true → cz_astore pc (st.map ez_v) h (Int32.ofInt i) r (ez_v v) ok = some (pc + 1, st.map ez_v, dz_put h r i.toNat (ez_v v)) := by
    intro ok hok
    unfold cz_astore
    simp only [o1, x1, hok, Nat.ble_eq.mpr hr, Bool.and_self, cond_true]
    show some (pc + 1, st.map ez_v, cz_setc h r (.inl (ti.2.1, n, fun j => if j = (Int32.ofInt i).toInt.toNat then ez_v v else f j))) = some (pc + 1, st.map ez_v, cz_setc h r (dz_set (h.2.2 r) i.toNat (ez_v v)))
    rw [o2, x2]
    rfl
  cases op
  case iastore =>
    obtain a | a | a := v
    · exact dz_wp_hp (q := (pc + 1, st.map ez_v, dz_put h r i.toNat (ez_v (.inl a)))) hc rfl rfl rfl rfl rfl (key (fun t => Nat.beq t 1) b1) kk
    · cases b1
    · cases b1
  case lastore =>
    obtain a | a | a := v
    · cases b1
    · exact dz_wp_hp (q := (pc + 1, st.map ez_v, dz_put h r i.toNat (ez_v (.inr (.inl a))))) hc rfl rfl rfl rfl rfl (key (fun t => Nat.beq t 2) b1) kk
    · cases b1
  all_goals cases b1
/-- an object into an array -/
theorem ez_aa {r t p tp : Nat} {ti tj : dz_I} {D : dz_D} {i : Int} {kd : Nat × Nat} (hB : ez_B τ h) (hτ : τ r = t) (hp : τ p = tp) (hc : cz_code M pc = some (.aastore, 1)) (hti : tz_T t = some ti) (htj : tz_T tp = some tj) (hD : dz_nth ti.2.2.2.2 0 = some D) (hkd : cz_pg.2.2[ti.2.1]? = some kd) (hb : ((Nat.beq ti.1 1 && Nat.blt ti.2.1 11) && ((Nat.beq tj.1 0 && Nat.beq kd.2 tj.2.1) && (Nat.beq ti.2.2.1 1 && dz_ile ti.2.2.2.1.2 2147483647))) = true) (h0 : 0 ≤ i) (h1 : i < qz_N h r) (hv : dz_vd τ r D (ez_v (.inr (.inr (some p))))) (kk : ez_B τ (dz_put h r i.toNat (ez_v (.inr (.inr (some p))))) → qz_I (dz_put h r i.toNat (ez_v (.inr (.inr (some p))))) r i.toNat = (p : Int) + 1 → ez_W d M (pc + 1) L st (dz_put h r i.toNat (ez_v (.inr (.inr (some p))))) Q) : ez_W d M pc L (.inr (.inr (some p)) :: .inl i :: .inr (.inr (some r)) :: st) h Q := by
  rw [Bool.and_eq_true] at hb
  obtain ⟨b0, b1⟩ := hb
  simp only [Bool.and_eq_true] at b1
  obtain ⟨⟨b1, b4⟩, b2, b3⟩ := b1
  have b3 := dz_ile_ok b3
  obtain ⟨n, f, o1, o2, o3, o4, o5, o6⟩ := ez_arr hB hτ hti b0 hD
  rw [o3] at h1 o4
  have hi : i.toNat < n := by omega
  obtain ⟨g1, g2⟩ := o6 _ hi
  have hr : 192 ≤ r := by
    rcases o5 with w | w
    · rw [w] at b2; cases b2
    · exact w
  have b0' := b0
  rw [Bool.and_eq_true] at b0'
  have e0 := Nat.eq_of_beq_eq_true b0'.1
  have hds : dz_ds ti i.toNat = some D := by unfold dz_ds; rw [e0]; exact hD
  obtain ⟨x1, x2⟩ := ez_ix h0 h1 (by omega)
  have kk := kk (ez_Bput hB (by rw [hτ]; exact hti) g1 hds hv) (qz_put_I0 g1)
  have hel : cz_elem cz_pg h (some p) ti.2.1 = true := by
    have ej := Nat.eq_of_beq_eq_true b1
    obtain ⟨vs, w1, -⟩ := dz_obj_at hB (show τ p ≠ 0 by rw [hp]; exact ez_t0 htj (by rw [ej]; rfl)) (by rw [hp]; exact htj) b1
    unfold cz_elem
    simp only [hkd, w1, b4]
  refine dz_wp_hp (q := (pc + 1, st.map ez_v, dz_put h r i.toNat (ez_v (.inr (.inr (some p)))))) hc rfl rfl rfl rfl rfl ?_ kk
  show cz_astore pc (st.map ez_v) h (Int32.ofInt i) r (.inr (.inr (some p))) (cz_elem cz_pg h (some p)) = _
  unfold cz_astore
  simp only [o1, x1, hel, Nat.ble_eq.mpr hr, Bool.and_self, cond_true]
  show some (pc + 1, st.map ez_v, cz_setc h r (.inl (ti.2.1, n, fun j => if j = (Int32.ofInt i).toInt.toNat then _ else f j))) = some (pc + 1, st.map ez_v, cz_setc h r (dz_set (h.2.2 r) i.toNat _))
  rw [o2, x2]
  rfl
/-- what a cell more leaves as it is -/
theorem ez_push_I (hB : ez_B τ h) {n : Nat} {c : cz_C} {r : Nat} (hr : τ r ≠ 0) (j : Nat) : qz_I (cz_push h n c) r j = qz_I h r j := by
  have e : r ≠ h.1 := by have := dz_here_lt (hB.1 r hr).1; omega
  apply qz_I_eq
  show dz_get (if r = h.1 then c else h.2.2 r) j = _
  rw [if_neg e]
theorem ez_push_N (hB : ez_B τ h) {n : Nat} {c : cz_C} {r : Nat} (hr : τ r ≠ 0) : qz_N (cz_push h n c) r = qz_N h r := by
  have e : r ≠ h.1 := by have := dz_here_lt (hB.1 r hr).1; omega
  apply qz_N_eq
  show dz_al (if r = h.1 then c else h.2.2 r) = _
  rw [if_neg e]
theorem ez_roomp {n : Nat} {c : cz_C} (h1 : h.1 + 1 ≤ 600192) (h2 : h.2.1 + n ≤ 7302232) : cz_room h 1 n = true ∧ cz_room (cz_push h n c) 0 0 = true := by
  unfold cz_room
  simp only [Bool.and_eq_true, Nat.ble_eq]
  exact ⟨⟨h1, h2⟩, by show h.1 + 1 + 0 ≤ _; omega, by show h.2.1 + n + 0 ≤ _; omega⟩
/-- a new object, all slots as they begin -/
theorem ez_nw {x cl t z1 z2 : Nat} {ti : dz_I} {ks : List Nat} (hB : ez_B τ h) (hc : cz_code M pc = some (.new x, 3)) (hth : cz_throw M pc (.new x) = none) (hq : cz_lk M x = some (8, cl, z1, z2)) (hti : tz_T t = some ti) (hks : cz_pg.2.1[cl]? = some ks) (hb : ((Nat.beq ti.1 0 && Nat.beq ti.2.1 cl) && (Nat.beq ti.2.2.1 1 && dz_ke ks ti.2.2.2.2)) = true) (h1 : h.1 + 1 ≤ 600192) (h2 : h.2.1 + ks.length ≤ 7302232) (kk : ez_B (dz_tn τ h.1 t) (cz_push h ks.length (.inr (.inl (cl, ks.map cz_dflt)))) → (∀ j, qz_I (cz_push h ks.length (.inr (.inl (cl, ks.map cz_dflt)))) h.1 j = 0) → ez_W d M (pc + 3) L (.inr (.inr (some h.1)) :: st) (cz_push h ks.length (.inr (.inl (cl, ks.map cz_dflt)))) Q) : ez_W d M pc L st h Q := by
  simp only [Bool.and_eq_true] at hb
  obtain ⟨⟨b1, b2⟩, b3, b4⟩ := hb
  have e0 := Nat.eq_of_beq_eq_true b1
  have e1 := Nat.eq_of_beq_eq_true b2
  obtain ⟨k1, k2⟩ := dz_ke_ok b4
  obtain ⟨r1, r2⟩ := ez_roomp (c := .inr (.inl (cl, ks.map cz_dflt))) h1 h2
  have hget : ∀ i v, dz_get (.inr (.inl (cl, ks.map cz_dflt))) i = some v → ∃ c, ks[i]? = some c ∧ v = cz_dflt c := by
    intro i v hv
    have hv : (ks.map cz_dflt)[i]? = some v := hv
    rw [List.getElem?_map, Option.map_eq_some_iff] at hv
    obtain ⟨c, w1, w2⟩ := hv
    exact ⟨c, w1, w2.symm⟩
  have hBn := dz_B_new (n := ks.length) (c := .inr (.inl (cl, ks.map cz_dflt))) hB (ez_t0 hti (by rw [e0]; rfl)) hti ⟨e0, e1.symm, by rw [List.length_map]; exact k1⟩ (fun i v hv => by
    obtain ⟨c, w1, rfl⟩ := hget i v hv
    have hlt : i < ti.2.2.2.2.length := by have := (List.getElem?_eq_some_iff.mp w1).1; omega
    have hD : ti.2.2.2.2[i]? = some ti.2.2.2.2[i] := List.getElem?_eq_getElem hlt
    obtain ⟨y1, y2⟩ := k2 i _ hD
    rw [w1] at y1
    have y1 := Option.some.inj y1
    refine ⟨ti.2.2.2.2[i], ?_, ?_⟩
    · unfold dz_ds; rw [e0]; show dz_nth _ i = _; rw [dz_nth_eq]; exact hD
    · rw [y1]; exact dz_vd0 y2) r2
  refine dz_wp_hp (q := (pc + 3, ez_v (.inr (.inr (some h.1))) :: st.map ez_v, cz_push h ks.length (.inr (.inl (cl, ks.map cz_dflt))))) hc rfl rfl rfl rfl hth ?_ (kk hBn.1 (fun j => ?_))
  · show cz_hnew cz_pg M x pc (st.map ez_v) h = _
    unfold cz_hnew
    simp only [hq, hks, r1, cond_true, show Nat.beq 8 8 = true from rfl]
    rfl
  · unfold qz_I
    have : (cz_push h ks.length (.inr (.inl (cl, ks.map cz_dflt)))).2.2 h.1 = .inr (.inl (cl, ks.map cz_dflt)) := by show (if h.1 = h.1 then _ else _) = _; rw [if_pos rfl]
    rw [this]
    split
    · rename_i v hv
      obtain ⟨c, -, rfl⟩ := hget j v hv
      exact dz_dflt_n c
    · rfl
/-- a new array of ints -/
theorem ez_na {t : Nat} {n : Int} {ti : dz_I} {D : dz_D} (hB : ez_B τ h) (hc : cz_code M pc = some (.newarray .int, 2)) (hti : tz_T t = some ti) (hD : dz_nth ti.2.2.2.2 0 = some D) (hb : (((Nat.beq ti.1 1 && Nat.beq ti.2.1 1) && Nat.beq ti.2.2.1 1) && (dz_d0 D && Nat.beq D.1 0)) = true) (h0 : 0 ≤ n) (hlo : ti.2.2.2.1.1 ≤ n) (hhi : n ≤ ti.2.2.2.1.2) (h3 : n ≤ 67108864) (h1 : h.1 + 1 ≤ 600192) (h2 : h.2.1 + n.toNat ≤ 7302232) (kk : ez_B (dz_tn τ h.1 t) (cz_push h n.toNat (.inl (1, n.toNat, fun _ => .inl 0))) → qz_N (cz_push h n.toNat (.inl (1, n.toNat, fun _ => .inl 0))) h.1 = n → (∀ j, qz_I (cz_push h n.toNat (.inl (1, n.toNat, fun _ => .inl 0))) h.1 j = 0) → ez_W d M (pc + 2) L (.inr (.inr (some h.1)) :: st) (cz_push h n.toNat (.inl (1, n.toNat, fun _ => .inl 0))) Q) : ez_W d M pc L (.inl n :: st) h Q := by
  simp only [Bool.and_eq_true] at hb
  obtain ⟨⟨⟨b1, b2⟩, b3⟩, b4, b5⟩ := hb
  have e0 := Nat.eq_of_beq_eq_true b1
  have e1 := Nat.eq_of_beq_eq_true b2
  have e5 := Nat.eq_of_beq_eq_true b5
  obtain ⟨r1, r2⟩ := ez_roomp (n := n.toNat) (c := .inl (1, n.toNat, fun _ => .inl 0)) h1 h2
  have hBn := dz_B_new (n := n.toNat) (c := .inl (1, n.toNat, fun _ => .inl 0)) hB (ez_t0 hti (by rw [e0]; rfl)) hti ⟨e0, e1.symm, by show _ ≤ (n.toNat : Int); omega, by show (n.toNat : Int) ≤ _; omega⟩ (fun i v hv => by
    have hv : (if i < n.toNat then some (Sum.inl 0 : cz_V) else none) = some v := hv
    by_cases hi : i < n.toNat
    · rw [if_pos hi] at hv
      cases hv
      refine ⟨D, ?_, ?_⟩
      · unfold dz_ds; rw [e0]; exact hD
      · have := dz_vd0 (τ := τ) (r := h.1) b4
        rw [e5] at this
        exact this
    · rw [if_neg hi] at hv; cases hv) r2
  have hcell : (cz_push h n.toNat (.inl (1, n.toNat, fun _ => .inl 0))).2.2 h.1 = .inl (1, n.toNat, fun _ => .inl 0) := by show (if h.1 = h.1 then _ else _) = _; rw [if_pos rfl]
  have en : (Int32.ofInt n).toInt = n := dz_toInt_i (by omega) (by omega)
  refine dz_wp_hp (q := (pc + 2, ez_v (.inr (.inr (some h.1))) :: st.map ez_v, cz_push h n.toNat (.inl (1, n.toNat, fun _ => .inl 0)))) hc rfl rfl rfl rfl rfl ?_ (kk hBn.1 ?_ (fun j => ?_))
  · show cz_hna cz_pg .int pc (.inl (Int32.ofInt n) :: st.map ez_v) h = _
    unfold cz_hna
    have h4 : Nat.ble (n.toNat * 8) 536870912 = true := Nat.ble_eq.mpr (by omega)
    simp only [cz_atn, en, decide_eq_true h0, r1, h4, Bool.and_self, cond_true]
    rfl
  · unfold qz_N
    rw [hcell]
    show (n.toNat : Int) = n
    omega
  · unfold qz_I
    rw [hcell]
    show (match (if j < n.toNat then some (Sum.inl 0 : cz_V) else none) with | some v => dz_n v | none => 0) = 0
    by_cases hj : j < n.toNat
    · rw [if_pos hj]; rfl
    · rw [if_neg hj]
end EzW
/-! L3, part 6: by hand: constants, switches, what is thrown. -/
section EzX
variable {d : Nat} {M : cz_M} {pc : Nat} {L : List (Nat × ez_V)} {st : List ez_V} {h : cz_H} {Q : cz_F → Prop} {τ : Nat → Nat}
theorem ez_ldc {x a b z : Nat} (n : Int) (hc : cz_code M pc = some (.ldc x, 2)) (hq : cz_lk M x = some (11, a, b, z)) (hn : (a : Int) - (b : Int) = n) (kk : ez_W d M (pc + 2) L (.inl n :: st) h Q) : ez_W d M pc L st h Q := by
  refine dz_wp_hp (q := (pc + 2, ez_v (.inl n) :: st.map ez_v, h)) hc rfl rfl rfl rfl rfl ?_ kk
  show cz_hldc 2 M x pc (st.map ez_v) h = _
  unfold cz_hldc
  simp only [hq, show Nat.beq 11 11 = true from rfl, cond_true]
  rw [hn]
  rfl
theorem ez_ldcS {x a b z : Nat} (hc : cz_code M pc = some (.ldc x, 2)) (hq : cz_lk M x = some (12, a, b, z)) (kk : ez_W d M (pc + 2) L (.inr (.inr (some a)) :: st) h Q) : ez_W d M pc L st h Q := by
  refine dz_wp_hp (q := (pc + 2, ez_v (.inr (.inr (some a))) :: st.map ez_v, h)) hc rfl rfl rfl rfl rfl ?_ kk
  show cz_hldc 2 M x pc (st.map ez_v) h = _
  unfold cz_hldc
  simp only [hq, show Nat.beq 12 11 = false from rfl, show Nat.beq 12 12 = true from rfl, cond_true, cond_false]
  rfl
/-- new, dup, constructor, athrow -/
theorem ez_th {x kx : Nat} (hc : cz_code M pc = some (.new x, 3)) (ht : cz_throw M pc (.new x) = some kx) (h1 : h.1 + 1 ≤ 600192) (h2 : h.2.1 + 6 ≤ 7302232) (hd : 6 ≤ d) (hs : Nat.ble (ez_cat st) 20 = true) (k : Q (.inr h.1, cz_push h 6 (.inr (.inr kx)))) : ez_W d M pc L st h Q := by
  refine dz_wp_throw hc rfl rfl rfl rfl ht ?_ k
  rw [(ez_roomp (c := .inr (.inr kx)) h1 h2).1]
  rw [Nat.ble_eq.mpr hd]
  exact hs
/-- a switch -/
theorem ez_sw {dflt lo hi : Int} {offs : Array Int} {len : Nat} {a : Int} (hc : cz_code M pc = some (.tableswitch dflt lo hi offs, len)) (ha : ez_rg a) {t : Nat} (ho : ∃ o, cz_tab dflt lo hi offs a = some o ∧ cz_to pc o = some t) (kk : ez_W d M t L st h Q) : ez_W d M pc L (.inl a :: st) h Q := by
  obtain ⟨o, o1, o2⟩ := ho
  refine dz_wp_br (q := (t, st.map ez_v)) hc (by show (_ || true) = true; rw [Bool.or_true]) rfl ?_ kk
  show (match cz_tab dflt lo hi offs (Int32.ofInt a).toInt with
    | some o => (match cz_to pc o with
      | some t => some (t, st.map ez_v)
      | none => none)
    | none => none) = _
  rw [ha.v, o1]
  dsimp only
  rw [o2]
end EzX
