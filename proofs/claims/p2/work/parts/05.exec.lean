/-! A machine of plain values, part 4: the run itself. A method: name; bytes, locals, result, handlers; its instructions by rows of sixteen bytes; what its pool's entries mean (index, kind, three numbers). -/
abbrev cz_M : Type := MethodName × (ByteArray × Nat × Option FieldType × List (Nat × Nat × Nat × Nat)) × List (List (Nat × Instr × Nat)) × List (Nat × Nat × Nat × Nat × Nat)
/-- methods; the kinds of the fields, class by class; of array types the kind of the elements and the class that they are of -/
abbrev cz_P : Type := List cz_M × List (List Nat) × List (Nat × Nat)
noncomputable def cz_cf (pc : Nat) (l : List (Nat × Instr × Nat)) : Option (Instr × Nat) := List.rec none (fun q _ ih => bif Nat.beq q.1 pc then some q.2 else ih) l
def cz_code (M : cz_M) (pc : Nat) : Option (Instr × Nat) := match M.2.2.1[pc / 16]? with
  | some row => (row.find? (fun q => Nat.beq q.1 pc)).map (fun q => q.2)
  | none => none
def cz_lk (M : cz_M) (idx : Nat) : Option (Nat × Nat × Nat × Nat) := (M.2.2.2.find? (fun q => Nat.beq q.1 idx)).map (fun q => q.2)
/-- where one goes on: pc, stack, cells -/
abbrev cz_N : Type := Nat × List cz_V × cz_H
def cz_room (h : cz_H) (k n : Nat) : Bool := Nat.ble (h.1 + k) 600192 && Nat.ble (h.2.1 + n) 7302232
def cz_hereB (h : cz_H) (r : Nat) : Bool := Nat.blt r h.1 && (Nat.ble 192 r || cz_ext r)
def cz_obj (h : cz_H) (r : Nat) : Option (Nat × List cz_V) := bif cz_hereB h r then (match h.2.2 r with
  | .inr (.inl q) => some q
  | _ => none) else none
def cz_arr (h : cz_H) (r : Nat) : Option (Nat × Nat × (Nat → cz_V)) := bif cz_hereB h r then (match h.2.2 r with
  | .inl q => bif Nat.blt q.1 11 then some q else none
  | _ => none) else none
def cz_exc (h : cz_H) (r : Nat) : Option Nat := bif cz_hereB h r then (match h.2.2 r with
  | .inr (.inr k) => bif Nat.blt k 5 then some k else none
  | _ => none) else none
def cz_fitc (c : Nat) (v : cz_V) : Bool := match c, v with
  | 0, .inl _ => true
  | 1, .inl n => decide (n = 0) || decide (n = 1)
  | 2, .inr (.inl _) => true
  | 3, .inr (.inr _) => true
  | 4, .inl n => decide (n.toInt8.toInt32 = n)
  | _, _ => false
def cz_dflt (c : Nat) : cz_V := match c with
  | 2 => .inr (.inl 0)
  | 3 => .inr (.inr none)
  | _ => .inl 0
def cz_atn (t : ArrayType) : Option Nat := match t with
  | .byte => some 0
  | .int => some 1
  | .long => some 2
  | .boolean => some 3
  | _ => none
/-- an index within a length -/
def cz_ix (a : Int32) (n : Nat) : Bool := decide (0 ≤ a.toInt) && Nat.blt a.toInt.toNat n
def cz_aload (pc : Nat) (r : List cz_V) (h : cz_H) (a : Int32) (q : Nat) (ok : Nat → Bool) : Option cz_N := match cz_arr h q with
  | some c => bif cz_ix a c.2.1 && ok c.1 then some (pc + 1, c.2.2 a.toInt.toNat :: r, h) else none
  | none => none
def cz_astore (pc : Nat) (r : List cz_V) (h : cz_H) (a : Int32) (q : Nat) (v : cz_V) (ok : Nat → Bool) : Option cz_N := match cz_arr h q with
  | some c => bif Nat.ble 192 q && cz_ix a c.2.1 && ok c.1 then some (pc + 1, r, cz_setc h q (.inl (c.1, c.2.1, fun j => if j = a.toInt.toNat then v else c.2.2 j))) else none
  | none => none
/-- what may lie in an array of references: an object of its class -/
def cz_elem (P : cz_P) (h : cz_H) (v : Option Nat) (t : Nat) : Bool := match v with
  | none => false
  | some v => match P.2.2[t]? with
    | some k => (match cz_obj h v with
      | some o => Nat.beq k.2 o.1
      | none => false)
    | none => false
def cz_hget (M : cz_M) (x pc : Nat) (st : List cz_V) (h : cz_H) : Option cz_N := match st with
  | .inr (.inr (some r)) :: rest => match cz_lk M x with
    | some q => bif Nat.ble q.1 1 then (match cz_obj h r with
      | some o => bif Nat.beq o.1 q.2.1 then (match o.2[q.2.2.1]? with
        | some v => some (pc + 3, v :: rest, h)
        | none => none) else none
      | none => none) else none
    | none => none
  | _ => none
def cz_hput (P : cz_P) (M : cz_M) (x pc : Nat) (st : List cz_V) (h : cz_H) : Option cz_N := match st with
  | v :: .inr (.inr (some r)) :: rest => match cz_lk M x with
    | some q => bif Nat.ble q.1 1 && Nat.beq q.2.2.2 1 && Nat.ble 192 r then (match cz_obj h r with
      | some o => (match P.2.1[q.2.1]? with
        | some ks => bif Nat.beq o.1 q.2.1 && (o.2[q.2.2.1]?).isSome then (match ks[q.2.2.1]? with
          | some k => bif cz_fitc k v then some (pc + 3, rest, cz_setc h r (.inr (.inl (o.1, o.2.set q.2.2.1 v)))) else none
          | none => none) else none
        | none => none)
      | none => none) else none
    | none => none
  | _ => none
def cz_hnew (P : cz_P) (M : cz_M) (x pc : Nat) (st : List cz_V) (h : cz_H) : Option cz_N := match cz_lk M x with
  | some q => bif Nat.beq q.1 8 then (match P.2.1[q.2.1]? with
    | some ks => bif cz_room h 1 ks.length then some (pc + 3, .inr (.inr (some h.1)) :: st, cz_push h ks.length (.inr (.inl (q.2.1, ks.map cz_dflt)))) else none
    | none => none) else none
  | none => none
def cz_hna (P : cz_P) (t : ArrayType) (pc : Nat) (st : List cz_V) (h : cz_H) : Option cz_N := match st with
  | .inl n :: rest => match cz_atn t with
    | some k => bif decide (0 ≤ n.toInt) && cz_room h 1 n.toInt.toNat && Nat.ble (n.toInt.toNat * 8) 536870912 then (match P.2.2[k]? with
      | some y => some (pc + 2, .inr (.inr (some h.1)) :: rest, cz_push h n.toInt.toNat (.inl (k, n.toInt.toNat, fun _ => cz_dflt y.1)))
      | none => none) else none
    | none => none
  | _ => none
def cz_hnq (M : cz_M) (x pc : Nat) (st : List cz_V) (h : cz_H) : Option cz_N := match st with
  | .inl n :: rest => match cz_lk M (x + 65536) with
    | some q => bif Nat.beq q.1 10 && (decide (0 ≤ n.toInt) && cz_room h 1 n.toInt.toNat && Nat.ble (n.toInt.toNat * 8) 536870912) then some (pc + 3, .inr (.inr (some h.1)) :: rest, cz_push h n.toInt.toNat (.inl (q.2.1, n.toInt.toNat, fun _ => .inr (.inr none)))) else none
    | none => none
  | _ => none
def cz_hlen (pc : Nat) (st : List cz_V) (h : cz_H) : Option cz_N := match st with
  | .inr (.inr (some r)) :: rest => match cz_arr h r with
    | some c => some (pc + 1, .inl (Int32.ofNat c.2.1) :: rest, h)
    | none => none
  | _ => none
def cz_hal (ok : Nat → Bool) (pc : Nat) (st : List cz_V) (h : cz_H) : Option cz_N := match st with
  | .inl a :: .inr (.inr (some r)) :: rest => cz_aload pc rest h a r ok
  | _ => none
def cz_hst (P : cz_P) (k : Nat) (pc : Nat) (st : List cz_V) (h : cz_H) : Option cz_N := match st with
  | v :: .inl a :: .inr (.inr (some r)) :: rest => (match k, v with
    | 1, .inl w => cz_astore pc rest h a r (.inl w) (fun t => Nat.beq t 1)
    | 0, .inl w => (match cz_arr h r with
      | some c => bif Nat.beq c.1 0 then cz_astore pc rest h a r (.inl w.toInt8.toInt32) (fun t => Nat.beq t 0) else bif decide (w = 0) || decide (w = 1) then cz_astore pc rest h a r (.inl w) (fun t => Nat.beq t 3) else none
      | none => none)
    | 2, .inr (.inl w) => cz_astore pc rest h a r (.inr (.inl w)) (fun t => Nat.beq t 2)
    | 3, .inr (.inr w) => cz_astore pc rest h a r (.inr (.inr w)) (cz_elem P h w)
    | _, _ => none)
  | _ => none
def cz_hldc (w : Nat) (M : cz_M) (x pc : Nat) (st : List cz_V) (h : cz_H) : Option cz_N := match cz_lk M x with
  | some q => bif Nat.beq q.1 11 then some (pc + w, .inl (Int32.ofInt ((q.2.1 : Int) - (q.2.2.1 : Int))) :: st, h) else bif Nat.beq q.1 12 then some (pc + w, .inr (.inr (some q.2.1)) :: st, h) else none
  | none => none
def cz_hldcw (M : cz_M) (x pc : Nat) (st : List cz_V) (h : cz_H) : Option cz_N := match cz_lk M x with
  | some q => bif Nat.beq q.1 11 then some (pc + 3, .inl (Int32.ofInt ((q.2.1 : Int) - (q.2.2.1 : Int))) :: st, h) else none
  | none => none
def cz_hldc2 (M : cz_M) (x pc : Nat) (st : List cz_V) (h : cz_H) : Option cz_N := match cz_lk M x with
  | some q => bif Nat.beq q.1 15 then some (pc + 3, .inr (.inl (Int64.ofInt ((q.2.1 : Int) - (q.2.2.1 : Int)))) :: st, h) else none
  | none => none
/-- a static of the JDK's whose number is given -/
def cz_hgs (M : cz_M) (x pc : Nat) (st : List cz_V) (h : cz_H) : Option cz_N := match cz_lk M x with
  | some q => bif Nat.beq q.1 16 then some (pc + 3, .inl (Int32.ofNat q.2.1) :: st, h) else none
  | none => none
def cz_hobj (M : cz_M) (d x pc : Nat) (st : List cz_V) (h : cz_H) : Option cz_N := match st with
  | .inr (.inr (some _)) :: rest => match cz_lk M x with
    | some q => bif Nat.beq q.1 6 && (Nat.blt 0 d && Nat.ble rest.length 20) then some (pc + 3, rest, h) else none
    | none => none
  | _ => none
/-- arrays of bytes or of ints, a piece of one into the other -/
def cz_hcpy (M : cz_M) (d x pc : Nat) (st : List cz_V) (h : cz_H) : Option cz_N := match st with
  | .inl n :: .inl dp :: .inr (.inr (some r2)) :: .inl sp :: .inr (.inr (some r1)) :: rest => match cz_lk M x with
    | some q => bif Nat.beq q.1 13 && (Nat.blt 0 d && Nat.ble rest.length 20) then (match cz_arr h r1, cz_arr h r2 with
      | some c1, some c2 => bif (Nat.beq c1.1 c2.1 && Nat.ble c1.1 1 && Nat.ble 192 r2) && (decide (0 ≤ n.toInt) && decide (0 ≤ dp.toInt) && decide (0 ≤ sp.toInt)) && (Nat.ble (sp.toNatClampNeg + n.toNatClampNeg) c1.2.1 && Nat.ble (dp.toNatClampNeg + n.toNatClampNeg) c2.2.1) && (List.range n.toNatClampNeg).all (fun i => cz_fitc (bif Nat.beq c1.1 0 then 4 else 0) (c1.2.2 (sp.toNatClampNeg + i))) then
          some (pc + 3, rest, cz_setc h r2 (.inl (c2.1, c2.2.1, va_cpy c1.2.2 c2.2.2 sp.toNatClampNeg dp.toNatClampNeg n.toNatClampNeg))) else none
      | _, _ => none) else none
    | none => none
  | _ => none
/-- String.checkIndex: an index that is below what it is held against -/
def cz_hci (M : cz_M) (d x pc : Nat) (st : List cz_V) (h : cz_H) : Option cz_N := match st with
  | .inl n :: .inl i :: rest => match cz_lk M x with
    | some q => bif ((Nat.beq q.1 18 && cz_room h 0 0) && (Nat.blt 1 d && Nat.ble rest.length 20)) && (decide (0 ≤ i.toInt) && decide (i.toInt < n.toInt)) then some (pc + 3, rest, h) else none
    | none => none
  | _ => none
/-- clone of an array of bytes -/
def cz_hcl (M : cz_M) (d x pc : Nat) (st : List cz_V) (h : cz_H) : Option cz_N := match st with
  | .inr (.inr (some r)) :: rest => match cz_lk M x with
    | some q => bif Nat.beq q.1 19 && (Nat.blt 0 d && Nat.ble rest.length 20) then (match cz_arr h r with
      | some c => bif Nat.beq c.1 0 && cz_room h 1 c.2.1 && (List.range c.2.1).all (fun i => cz_fitc 4 (c.2.2 i)) then some (pc + 3, .inr (.inr (some h.1)) :: rest, cz_setc (cz_push h c.2.1 (.inl (0, c.2.1, fun _ => .inl 0))) h.1 (.inl (0, c.2.1, c.2.2))) else none
      | none => none) else none
    | none => none
  | _ => none
/-- a cast to an array of bytes -/
def cz_hcc (M : cz_M) (x pc : Nat) (st : List cz_V) (h : cz_H) : Option cz_N := match st with
  | .inr (.inr (some r)) :: rest => match cz_lk M x with
    | some q => bif Nat.beq q.1 17 then (match cz_arr h r with
      | some c => bif Nat.beq c.1 0 then some (pc + 3, .inr (.inr (some r)) :: rest, h) else none
      | none => none) else none
    | none => none
  | _ => none
def cz_hp (P : cz_P) (M : cz_M) (d pc : Nat) (st : List cz_V) (h : cz_H) (i : Instr) : Option cz_N := match i with
  | .getfield x => cz_hget M x pc st h
  | .putfield x => cz_hput P M x pc st h
  | .new x => cz_hnew P M x pc st h
  | .newarray t => cz_hna P t pc st h
  | .anewarray x => cz_hnq M x pc st h
  | .arraylength => cz_hlen pc st h
  | .iaload => cz_hal (fun t => Nat.beq t 1) pc st h
  | .baload => cz_hal (fun t => Nat.beq t 0 || Nat.beq t 3) pc st h
  | .laload => cz_hal (fun t => Nat.beq t 2) pc st h
  | .aaload => cz_hal (fun t => Nat.ble 4 t) pc st h
  | .iastore => cz_hst P 1 pc st h
  | .bastore => cz_hst P 0 pc st h
  | .lastore => cz_hst P 2 pc st h
  | .aastore => cz_hst P 3 pc st h
  | .ldc x => cz_hldc 2 M x pc st h
  | .ldc_w x => cz_hldc 3 M x pc st h
  | .ldc2_w x => cz_hldc2 M x pc st h
  | .getstatic x => cz_hgs M x pc st h
  | .invokespecial x => cz_hobj M d x pc st h
  | .invokestatic x => (match cz_hcpy M d x pc st h with
    | some q => some q
    | none => cz_hci M d x pc st h)
  | .invokevirtual x => cz_hcl M d x pc st h
  | .checkcast x => cz_hcc M x pc st h
  | _ => none
/-- how a method ends: what it returned, or the exception's place; cells -/
abbrev cz_F : Type := (Option cz_V ⊕ Nat) × cz_H
def cz_cat2 (st : List cz_V) : Nat := (st.map (fun v => match v with | .inr (.inl _) => 2 | _ => 1)).sum
def cz_argl : Nat → List cz_V → List (Nat × cz_V)
  | _, [] => []
  | j, v :: r => (j, v) :: cz_argl (j + (match v with | .inr (.inl _) => 2 | _ => 1)) r
def cz_take : Nat → List cz_V → Option (List cz_V × List cz_V)
  | 0, st => some ([], st)
  | _ + 1, [] => none
  | n + 1, v :: r => match cz_take n r with
    | some q => some (v :: q.1, q.2)
    | none => none
/-- pairs of exceptions of which the first is none of the second -/
def cz_asn (k j : Nat) : Bool := (Nat.beq j 1 && (Nat.beq k 0 || Nat.beq k 2 || Nat.beq k 3)) || (Nat.beq j 2 && Nat.beq k 3)
/-- the row that catches: kinds by the pool's entries of the rows; none where it goes on outward -/
def cz_catch (M : cz_M) (pc k : Nat) : List (Nat × Nat × Nat × Nat) → Option (Option Nat)
  | [] => some none
  | q :: r => bif Nat.ble q.1 pc && Nat.blt pc q.2.1 then (match cz_lk M q.2.2.2 with
    | some w => bif Nat.beq w.1 9 then (bif Nat.beq w.2.1 k && Nat.ble k 3 then some (some q.2.2.1) else bif cz_asn k w.2.1 then cz_catch M pc k r else none) else none
    | none => none) else cz_catch M pc k r
def cz_cS (x : Nat) (M : cz_M) (st : List cz_V) : Option (Nat × List cz_V × List cz_V) := match cz_lk M x with
  | some q => bif Nat.beq q.1 2 then (match cz_take q.2.2.1 st with
    | some w => some (q.2.1, w.1.reverse, w.2)
    | none => none) else none
  | none => none
def cz_cV (x : Nat) (M : cz_M) (st : List cz_V) (h : cz_H) : Option (Nat × List cz_V × List cz_V) := match cz_lk M x with
  | some q => bif Nat.beq q.1 3 then (match cz_take q.2.2.1 st with
    | some w => (match w.2 with
      | .inr (.inr (some r)) :: rest => (match cz_obj h r with
        | some o => bif Nat.beq o.1 q.2.2.2 then some (q.2.1, .inr (.inr (some r)) :: w.1.reverse, rest) else none
        | none => none)
      | _ => none)
    | none => none) else none
  | none => none
def cz_cI (x : Nat) (M : cz_M) (st : List cz_V) : Option (Nat × List cz_V × List cz_V) := match cz_lk M x with
  | some q => bif Nat.beq q.1 4 || Nat.beq q.1 5 then (match cz_take q.2.2.1 st with
    | some w => (match w.2 with
      | .inr (.inr (some r)) :: rest => some (q.2.1, .inr (.inr (some r)) :: w.1.reverse, rest)
      | _ => none)
    | none => none) else none
  | none => none
/-- a method of the class above, on a receiver of a class that is known -/
def cz_cU (x : Nat) (M : cz_M) (st : List cz_V) (h : cz_H) : Option (Nat × List cz_V × List cz_V) := match cz_lk M x with
  | some q => bif Nat.beq q.1 20 then (match cz_take q.2.2.1 st with
    | some w => (match w.2 with
      | .inr (.inr (some r)) :: rest => (match cz_obj h r with
        | some o => bif Nat.beq o.1 q.2.2.2 then some (q.2.1, .inr (.inr (some r)) :: w.1.reverse, rest) else none
        | none => none)
      | _ => none)
    | none => none) else none
  | none => none
/-- the call at an instruction: the callee's number, its arguments (the first one first), what stays -/
def cz_call (i : Instr) (M : cz_M) (st : List cz_V) (h : cz_H) : Option (Nat × List cz_V × List cz_V) := match i with
  | .invokestatic x => cz_cS x M st
  | .invokevirtual x => cz_cV x M st h
  | .invokespecial x => (match cz_cI x M st with
    | some v => some v
    | none => cz_cU x M st h)
  | _ => none
/-- new, dup, the constructor without arguments, athrow: the exception's kind -/
def cz_throw (M : cz_M) (pc : Nat) (i : Instr) : Option Nat := match i with
  | .new x => match cz_lk M x, cz_code M (pc + 3), cz_code M (pc + 4), cz_code M (pc + 7) with
    | some q, some (.dup, 1), some (.invokespecial y, 3), some (.athrow, 1) => (match cz_lk M y with
      | some w => bif Nat.beq q.1 9 && Nat.beq w.1 7 && Nat.beq q.2.1 w.2.1 && M.2.1.2.2.2.isEmpty then some q.2.1 else none
      | none => none)
    | _, _, _, _ => none
  | _ => none
def cz_ret (i : Instr) (t : Option FieldType) (st : List cz_V) : Option (Option cz_V) := match i, st with
  | .return_, [] => (match t with
    | none => some none
    | some _ => none)
  | .ireturn, [.inl a] => (match t with
    | some .int => some (some (.inl a))
    | some .boolean => bif decide (a = 0) || decide (a = 1) then some (some (.inl a)) else none
    | some .byte => bif decide (a.toInt8.toInt32 = a) then some (some (.inl a)) else none
    | some .char => bif decide (a.toUInt32.toUInt16.toUInt32.toInt32 = a) then some (some (.inl a)) else none
    | _ => none)
  | .lreturn, [.inr (.inl a)] => (match t with
    | some .long => some (some (.inr (.inl a)))
    | _ => none)
  | .areturn, [.inr (.inr a)] => (match t with
    | some (.object _) => some (some (.inr (.inr a)))
    | some (.array _) => some (some (.inr (.inr a)))
    | _ => none)
  | _, _ => none
/-- a switch has no length of its own -/
def cz_isw (i : Instr) : Bool := match i with
  | .tableswitch _ _ _ _ => true
  | .lookupswitch _ _ => true
  | _ => false
abbrev cz_Ih : Type := Nat → cz_M → Nat → List (Nat × cz_V) → List cz_V → cz_H → Option cz_F
/-- back from a callee -/
def cz_sK (ih : cz_Ih) (d : Nat) (M : cz_M) (pc : Nat) (L : List (Nat × cz_V)) (rest : List cz_V) (q : cz_F) : Option cz_F := match q.1 with
  | .inl none => ih d M (pc + 3) L rest q.2
  | .inl (some w) => ih d M (pc + 3) L (w :: rest) q.2
  | .inr r => match cz_exc q.2 r with
    | some k => (match cz_catch M pc k M.2.1.2.2.2 with
      | some (some t) => ih d M t L [.inr (.inr (some r))] q.2
      | some none => bif M.2.1.2.2.2.isEmpty then some q else none
      | none => none)
    | none => none
def cz_sC (P : cz_P) (ih : cz_Ih) (d : Nat) (M : cz_M) (pc : Nat) (L : List (Nat × cz_V)) (h : cz_H) (o : Option (Nat × List cz_V × List cz_V)) : Option cz_F := match o with
  | some (y, as, rest) => (match P.1[y]? with
    | some M' => bif (Nat.blt 0 d && cz_room h 0 0) && Nat.ble (cz_cat2 rest + (M'.2.1.2.1 + 11)) 100 && Nat.ble (cz_cat2 as) M'.2.1.2.1 then (match ih (d - 1) M' 0 (cz_argl 0 as) [] h with
      | some q => cz_sK ih d M pc L rest q
      | none => none) else none
    | none => none)
  | none => none
noncomputable def cz_s (P : cz_P) (ih : cz_Ih) (d : Nat) (M : cz_M) (pc : Nat) (L : List (Nat × cz_V)) (st : List cz_V) (h : cz_H) (i : Instr) (len : Nat) : Option cz_F :=
  match cz_pure i M.2.1.2.1 L st with
  | some q => bif Nat.beq len (cz_len i) then ih d M (pc + cz_len i) q.1 q.2 h else none
  | none => match cz_br i pc st with
    | some q => bif Nat.beq len (cz_len i) || cz_isw i then ih d M q.1 L q.2 h else none
    | none => bif Nat.beq len (cz_len i) then (match cz_ret i M.2.1.2.2.1 st with
      | some v => some (.inl v, h)
      | none => match cz_throw M pc i with
        | some k => bif cz_room h 1 6 && Nat.ble 6 d && Nat.ble (cz_cat2 st) 20 then some (.inr h.1, cz_push h 6 (.inr (.inr k))) else none
        | none => match cz_hp P M d pc st h i with
          | some q => ih d M q.1 L q.2.1 q.2.2
          | none => cz_sC P ih d M pc L h (cz_call i M st h)) else none
/-- the run: fuel, frames that may still be laid, method, pc, locals, stack, cells -/
noncomputable def cz_x (P : cz_P) : Nat → cz_Ih
  | 0, _, _, _, _, _, _ => none
  | n + 1, d, M, pc, L, st, h => match cz_code M pc with
    | some (i, len) => cz_s P (cz_x P n) d M pc L st h i len
    | none => none
