/-! Symbolic runs, part 5: the run itself. A method: name; bytes, locals, result, handlers; its instructions by rows of sixteen bytes; what its pool's entries mean (index, kind, three numbers). -/
abbrev px_M : Type := MethodName × (ByteArray × Nat × Option FieldType × List (Nat × Nat × Nat × Nat)) × List (List (Nat × Instr × Nat)) × List (Nat × Nat × Nat × Nat × Nat)
/-- methods; the kinds of the fields, class by class; of array types the kind of the elements and the class that they are of -/
abbrev px_P : Type := List px_M × List (List Nat) × List (Nat × Nat)
noncomputable def px_cf (pc : Nat) (l : List (Nat × Instr × Nat)) : Option (Instr × Nat) := List.rec none (fun q _ ih => bif Nat.beq q.1 pc then some q.2 else ih) l
noncomputable def px_code (M : px_M) (pc : Nat) : Option (Instr × Nat) := match px_nth M.2.2.1 (Nat.div pc 16) with
  | some row => px_cf pc row
  | none => none
noncomputable def px_lf (idx : Nat) (l : List (Nat × Nat × Nat × Nat × Nat)) : Option (Nat × Nat × Nat × Nat) := List.rec none (fun q _ ih => bif Nat.beq q.1 idx then some q.2 else ih) l
noncomputable def px_lk (M : px_M) (idx : Nat) : Option (Nat × Nat × Nat × Nat) := px_lf idx M.2.2.2
/-- where one goes on: pc, stack, cells, bounds -/
abbrev px_N : Type := List (Nat × List px_V × px_H × px_G)
noncomputable def px_room (h : px_H) (k n : Nat) : Bool := Nat.ble (Nat.add h.1 k) 1024 && Nat.ble (Nat.add h.2.1 n) 7302232
noncomputable def px_atn (t : ArrayType) : Option Nat := match t with
  | .byte => some 0
  | .int => some 1
  | .long => some 2
  | .boolean => some 3
  | _ => none
/-- rows of a grid: each row is made and laid into its place -/
noncomputable def px_gr (r : Nat) : List Nat → List (Nat × px_V) → px_H → px_H
  | [], _, h => h
  | i :: t, ws, h => px_force h.1 (fun n => px_gr r t ((i, .inr (.inr (some n))) :: ws) (px_setc (px_push h 2000 (.inl (1, 2000, .inl (.inl 0), []))) r (.inl (10, 8, .inr (.inr none), (i, .inr (.inr (some n))) :: ws))))
noncomputable def px_stay (pc : Nat) (st : List px_V) (h : px_H) (gs : List px_G) : px_N := gs.map (fun q => (pc, st, h, q))
noncomputable def px_aload (pc : Nat) (st r : List px_V) (h : px_H) (g : px_G) (a : px_I) (q : Nat) (ok : Nat → Bool) : Option px_N := match px_know g a with
  | some (.inr gs) => some (px_stay pc st h gs)
  | some (.inl n) => match px_arr h q with
    | some c => bif px_ile 0 n && Nat.blt n.toNat c.2.1 && ok c.1 then some [(pc + 1, px_at c.2.2.1 n.toNat c.2.2.2 :: r, h, g)] else none
    | none => none
  | none => none
noncomputable def px_astore (pc : Nat) (st r : List px_V) (h : px_H) (g : px_G) (a : px_I) (q : Nat) (v : px_V) (ok : Nat → Bool) : Option px_N := match px_know g a with
  | some (.inr gs) => some (px_stay pc st h gs)
  | some (.inl n) => match px_arr h q with
    | some c => bif px_ile 0 n && Nat.blt n.toNat c.2.1 && ok c.1 then some [(pc + 1, r, px_setc h q (.inl (c.1, c.2.1, c.2.2.1, (n.toNat, v) :: c.2.2.2)), g)] else none
    | none => none
  | none => none
/-- what may lie in an array of references: an object of its class (a String where the class is 99) -/
noncomputable def px_elem (P : px_P) (h : px_H) (v t : Nat) : Bool := match px_nth P.2.2 t with
  | some k => bif Nat.ble 64 v then (match px_obj h v with
    | some o => Nat.beq k.2 o.1
    | none => false) else Nat.ble 1 v && Nat.ble v 42 && Nat.beq k.2 99
  | none => false
noncomputable def px_hget (M : px_M) (x pc : Nat) (st : List px_V) (h : px_H) (g : px_G) : Option px_N := match st with
  | .inr (.inr (some r)) :: rest => match px_lk M x with
    | some q => bif Nat.ble q.1 1 then (match px_obj h r with
      | some o => bif Nat.beq o.1 q.2.1 then (match px_nth o.2 q.2.2.1 with
        | some v => some [(pc + 3, v :: rest, h, g)]
        | none => none) else none
      | none => none) else none
    | none => none
  | _ => none
noncomputable def px_hput (P : px_P) (M : px_M) (x pc : Nat) (st : List px_V) (h : px_H) (g : px_G) : Option px_N := match st with
  | v :: .inr (.inr (some r)) :: rest => match px_lk M x with
    | some q => bif Nat.ble q.1 1 && Nat.beq q.2.2.2 1 then (match px_obj h r with
      | some o => (match px_nth P.2.1 q.2.1 with
        | some ks => bif Nat.beq o.1 q.2.1 && (px_nth o.2 q.2.2.1).isSome then (match px_nth ks q.2.2.1 with
          | some k => bif px_fitc k v then some [(pc + 3, rest, px_setc h r (.inr (.inl (o.1, px_lset v o.2 q.2.2.1))), g)] else none
          | none => none) else none
        | none => none)
      | none => none) else none
    | none => none
  | _ => none
noncomputable def px_hnew (P : px_P) (M : px_M) (x pc : Nat) (st : List px_V) (h : px_H) (g : px_G) : Option px_N := match px_lk M x with
  | some q => bif Nat.beq q.1 8 then (match px_nth P.2.1 q.2.1 with
    | some ks => bif px_room h 1 ks.length then px_force h.1 (fun r => some [(pc + 3, .inr (.inr (some r)) :: st, px_push h ks.length (.inr (.inl (q.2.1, ks.map px_dflt))), g)]) else none
    | none => none) else none
  | none => none
noncomputable def px_hna (P : px_P) (t : ArrayType) (pc : Nat) (st : List px_V) (h : px_H) (g : px_G) : Option px_N := match st with
  | .inl (.inl n) :: rest => match px_atn t with
    | some k => bif px_ile 0 n && px_room h 1 n.toNat && Nat.ble (n.toNat * 8) 536870912 then (match px_nth P.2.2 k with
      | some y => px_force h.1 (fun r => px_force n.toNat (fun m => some [(pc + 2, .inr (.inr (some r)) :: rest, px_push h m (.inl (k, m, px_dflt y.1, [])), g)]))
      | none => none) else none
    | none => none
  | _ => none
noncomputable def px_hnq (M : px_M) (x pc : Nat) (st : List px_V) (h : px_H) (g : px_G) : Option px_N := match st with
  | .inl (.inl n) :: rest => match px_lk M (x + 65536) with
    | some q => bif Nat.beq q.1 10 && (px_ile 0 n && px_room h 1 n.toNat && Nat.ble (n.toNat * 8) 536870912) then px_force h.1 (fun r => px_force n.toNat (fun m => some [(pc + 3, .inr (.inr (some r)) :: rest, px_push h m (.inl (q.2.1, m, .inr (.inr none), [])), g)])) else none
    | none => none
  | _ => none
noncomputable def px_hmul (M : px_M) (x y pc : Nat) (st : List px_V) (h : px_H) (g : px_G) : Option px_N := match st with
  | .inl (.inl k) :: .inl (.inl n) :: rest => match px_lk M x with
    | some q => bif Nat.beq q.1 14 && Nat.beq y 2 && (px_ieq n 8 && px_ieq k 2000 && px_room h 9 16008) then px_force h.1 (fun r => some [(pc + 4, .inr (.inr (some r)) :: rest, px_gr r [0, 1, 2, 3, 4, 5, 6, 7] [] (px_push h 8 (.inl (10, 8, .inr (.inr none), []))), g)]) else none
    | none => none
  | _ => none
noncomputable def px_hlen (pc : Nat) (st : List px_V) (h : px_H) (g : px_G) : Option px_N := match st with
  | .inr (.inr (some 0)) :: rest => (match px_know g (.inr (.inl 7)) with
    | some (.inr gs) => some (px_stay pc st h gs)
    | some (.inl n) => some [(pc + 1, .inl (.inl n) :: rest, h, g)]
    | none => none)
  | .inr (.inr (some (r + 1))) :: rest => (match px_arr h (r + 1) with
    | some c => some [(pc + 1, .inl (.inl (c.2.1 : Nat)) :: rest, h, g)]
    | none => none)
  | _ => none
noncomputable def px_hial (pc : Nat) (st : List px_V) (h : px_H) (g : px_G) : Option px_N := match st with
  | .inl a :: .inr (.inr (some 0)) :: rest => (match px_know g a with
    | some (.inl n) => (match px_know g (.inr (.inl 7)) with
      | some (.inl l) => bif px_ile 0 n && px_ilt n l && px_ilt n 6 then some [(pc + 1, .inl (.inr (.inl n.toNat)) :: rest, h, g)] else none
      | _ => none)
    | _ => none)
  | .inl a :: .inr (.inr (some (r + 1))) :: rest => px_aload pc st rest h g a (r + 1) (fun t => Nat.beq t 1)
  | _ => none
noncomputable def px_hal (ok : Nat → Bool) (pc : Nat) (st : List px_V) (h : px_H) (g : px_G) : Option px_N := match st with
  | .inl a :: .inr (.inr (some r)) :: rest => px_aload pc st rest h g a r ok
  | _ => none
noncomputable def px_hst (P : px_P) (k : Nat) (pc : Nat) (st : List px_V) (h : px_H) (g : px_G) : Option px_N := match st with
  | v :: .inl a :: .inr (.inr (some r)) :: rest => (match k, v with
    | 1, .inl w => px_astore pc st rest h g a r (.inl w) (fun t => Nat.beq t 1)
    | 0, .inl w => px_astore pc st rest h g a r (.inl (px_b1 (fun x => x.toInt8.toInt32) w)) (fun t => Nat.beq t 0)
    | 2, .inr (.inl w) => px_astore pc st rest h g a r (.inr (.inl w)) (fun t => Nat.beq t 2)
    | 3, .inr (.inr (some w)) => px_astore pc st rest h g a r (.inr (.inr (some w))) (px_elem P h w)
    | _, _ => none)
  | _ => none
noncomputable def px_hldc (M : px_M) (x pc : Nat) (st : List px_V) (h : px_H) (g : px_G) : Option px_N := match px_lk M x with
  | some q => bif Nat.beq q.1 11 then some [(pc + 2, .inl (.inl (q.2.1 : Nat)) :: st, h, g)] else bif Nat.beq q.1 12 then some [(pc + 2, .inr (.inr (some q.2.1)) :: st, h, g)] else none
  | none => none
noncomputable def px_hobj (M : px_M) (d x pc : Nat) (st : List px_V) (h : px_H) (g : px_G) : Option px_N := match st with
  | .inr (.inr (some _)) :: rest => match px_lk M x with
    | some q => bif Nat.beq q.1 6 && (Nat.blt 0 d && Nat.ble rest.length 20) then some [(pc + 3, rest, h, g)] else none
    | none => none
  | _ => none
noncomputable def px_hcpy (M : px_M) (d x pc : Nat) (st : List px_V) (h : px_H) (g : px_G) : Option px_N := match st with
  | .inl (.inl n) :: .inl (.inl dp) :: .inr (.inr (some r2)) :: .inl (.inl sp) :: .inr (.inr (some r1)) :: rest => match px_lk M x with
    | some q => bif Nat.beq q.1 13 && (Nat.blt 0 d && Nat.ble rest.length 20 && px_ieq n 0 && px_ieq dp 0 && px_ieq sp 0) then (match px_arr h r1 with
      | some c1 => (match px_arr h r2 with
        | some c2 => bif Nat.beq c1.1 1 && Nat.beq c2.1 1 then some [(pc + 3, rest, h, g)] else none
        | none => none)
      | none => none) else none
    | none => none
  | _ => none
noncomputable def px_hpB (i : Instr) : Option (px_P → px_M → Nat → Nat → List px_V → px_H → px_G → Option px_N) := match i with
  | .getfield x => some (fun _ M _ pc st h g => px_hget M x pc st h g)
  | .putfield x => some (fun P M _ pc st h g => px_hput P M x pc st h g)
  | .new x => some (fun P M _ pc st h g => px_hnew P M x pc st h g)
  | .newarray t => some (fun P _ _ pc st h g => px_hna P t pc st h g)
  | .anewarray x => some (fun _ M _ pc st h g => px_hnq M x pc st h g)
  | .multianewarray x y => some (fun _ M _ pc st h g => px_hmul M x y pc st h g)
  | .arraylength => some (fun _ _ _ pc st h g => px_hlen pc st h g)
  | .iaload => some (fun _ _ _ pc st h g => px_hial pc st h g)
  | .laload => some (fun _ _ _ pc st h g => px_hal (fun t => Nat.beq t 2) pc st h g)
  | .aaload => some (fun _ _ _ pc st h g => px_hal (fun t => Nat.ble 4 t) pc st h g)
  | .iastore => some (fun P _ _ pc st h g => px_hst P 1 pc st h g)
  | .bastore => some (fun P _ _ pc st h g => px_hst P 0 pc st h g)
  | .lastore => some (fun P _ _ pc st h g => px_hst P 2 pc st h g)
  | .aastore => some (fun P _ _ pc st h g => px_hst P 3 pc st h g)
  | .ldc x => some (fun _ M _ pc st h g => px_hldc M x pc st h g)
  | .invokespecial x => some (fun _ M d pc st h g => px_hobj M d x pc st h g)
  | .invokestatic x => some (fun _ M d pc st h g => px_hcpy M d x pc st h g)
  | _ => none
/-- how a method ends: bounds; what it returned, or the exception's place; cells -/
abbrev px_F : Type := px_G × (Option px_V ⊕ Nat) × px_H
noncomputable def px_cat2 (st : List px_V) : Nat := List.rec 0 (fun v _ ih => Nat.add (bif px_lg v then 2 else 1) ih) st
noncomputable def px_argl (j : Nat) (l : List px_V) : List (Nat × px_V) := List.rec (fun _ => []) (fun v _ ih j => px_force j (fun k => (k, v) :: ih (Nat.add k (bif px_lg v then 2 else 1)))) l j
/-- an argument list of n values off the stack -/
noncomputable def px_take : Nat → List px_V → Option (List px_V × List px_V)
  | 0, st => some ([], st)
  | _ + 1, [] => none
  | n + 1, v :: r => match px_take n r with
    | some q => some (v :: q.1, q.2)
    | none => none
/-- pairs of exceptions of which the first is none of the second -/
noncomputable def px_asn (k j : Nat) : Bool := (Nat.beq j 1 && (Nat.beq k 0 || Nat.beq k 2 || Nat.beq k 3)) || (Nat.beq j 2 && Nat.beq k 3)
/-- the row that catches: kinds by the pool's entries of the rows; none where it goes on outward -/
noncomputable def px_catch (M : px_M) (pc k : Nat) : List (Nat × Nat × Nat × Nat) → Option (Option Nat)
  | [] => some none
  | q :: r => bif Nat.ble q.1 pc && Nat.blt pc q.2.1 then (match px_lk M q.2.2.2 with
    | some w => bif Nat.beq w.1 9 then (bif Nat.beq w.2.1 k && Nat.ble k 3 then some (some q.2.2.1) else bif px_asn k w.2.1 then px_catch M pc k r else none) else none
    | none => none) else px_catch M pc k r
noncomputable def px_alln {α : Type} (f : α → Option (List px_F)) (l : List α) : Option (List px_F) := List.rec (some []) (fun q r ih => List.rec (f q) (fun _ _ _ => match f q with
  | some a => (match ih with
    | some b => some (a ++ b)
    | none => none)
  | none => none) r) l
/-- the call at an instruction: the callee's number, its arguments (the first one first), what stays -/
noncomputable def px_cS (x : Nat) (M : px_M) (st : List px_V) : Option (Nat × List px_V × List px_V) := match px_lk M x with
  | some q => bif Nat.beq q.1 2 then (match px_take q.2.2.1 st with
    | some w => some (q.2.1, w.1.reverse, w.2)
    | none => none) else none
  | none => none
noncomputable def px_cV (x : Nat) (M : px_M) (st : List px_V) (h : px_H) : Option (Nat × List px_V × List px_V) := match px_lk M x with
  | some q => bif Nat.beq q.1 3 then (match px_take q.2.2.1 st with
    | some w => (match w.2 with
      | .inr (.inr (some r)) :: rest => (match px_obj h r with
        | some o => bif Nat.beq o.1 q.2.2.2 then some (q.2.1, .inr (.inr (some r)) :: w.1.reverse, rest) else none
        | none => none)
      | _ => none)
    | none => none) else none
  | none => none
noncomputable def px_cI (x : Nat) (M : px_M) (st : List px_V) : Option (Nat × List px_V × List px_V) := match px_lk M x with
  | some q => bif Nat.beq q.1 4 || Nat.beq q.1 5 then (match px_take q.2.2.1 st with
    | some w => (match w.2 with
      | .inr (.inr (some r)) :: rest => some (q.2.1, .inr (.inr (some r)) :: w.1.reverse, rest)
      | _ => none)
    | none => none) else none
  | none => none
noncomputable def px_callB (i : Instr) : Option (px_M → List px_V → px_H → Option (Nat × List px_V × List px_V)) := match i with
  | .invokestatic x => some (fun M st _ => px_cS x M st)
  | .invokevirtual x => some (fun M st h => px_cV x M st h)
  | .invokespecial x => some (fun M st _ => px_cI x M st)
  | _ => none
/-- new, dup, the constructor without arguments, athrow: the exception's kind -/
noncomputable def px_throw (M : px_M) (pc : Nat) (i : Instr) : Option Nat := match i with
  | .new x => match px_lk M x, px_code M (pc + 3), px_code M (pc + 4), px_code M (pc + 7) with
    | some q, some (.dup, 1), some (.invokespecial y, 3), some (.athrow, 1) => (match px_lk M y with
      | some w => bif Nat.beq q.1 9 && Nat.beq w.1 7 && Nat.beq q.2.1 w.2.1 && M.2.1.2.2.2.isEmpty then some q.2.1 else none
      | none => none)
    | _, _, _, _ => none
  | _ => none
noncomputable def px_retB (i : Instr) : Option (Option FieldType → List px_V → Option (Option px_V)) := match i with
  | .return_ => some (fun t st => match st with
    | [] => (match t with
      | none => some none
      | some _ => none)
    | _ => none)
  | .ireturn => some (fun t st => match st with
    | [.inl a] => (match t with
      | some .int => some (some (.inl a))
      | some .boolean => (match a with
        | .inl n => bif px_ieq n 0 || px_ieq n 1 then some (some (.inl (.inl n))) else none
        | _ => none)
      | _ => none)
    | _ => none)
  | .lreturn => some (fun t st => match st with
    | [.inr (.inl a)] => (match t with
      | some .long => some (some (.inr (.inl a)))
      | _ => none)
    | _ => none)
  | _ => none
/-- a switch has no length of its own -/
noncomputable def px_isw (i : Instr) : Bool := match i with
  | .tableswitch _ _ _ _ => true
  | .lookupswitch _ _ => true
  | _ => false
abbrev px_R : Type := Option (List px_F)
abbrev px_Ih : Type := Nat → px_M → Nat → List (Nat × px_V) → List px_V → px_H → px_G → px_R
noncomputable def px_sP (ih : px_Ih) (d : Nat) (M : px_M) (pc len : Nat) (h : px_H) (g : px_G) (o : Option (List (Nat × px_V) × List px_V)) : px_R := match o with
  | some (L, st) => px_force (Nat.add pc len) (fun p => ih d M p L st h g)
  | none => none
noncomputable def px_sB (ih : px_Ih) (d : Nat) (M : px_M) (L : List (Nat × px_V)) (h : px_H) (o : Option px_S) : px_R := match o with
  | some S => px_alln (fun q => px_force q.1 (fun p => ih d M p L q.2.1 h q.2.2)) S
  | none => none
noncomputable def px_sN (ih : px_Ih) (d : Nat) (M : px_M) (L : List (Nat × px_V)) (S : px_N) : px_R := px_alln (fun q => px_force q.1 (fun p => ih d M p L q.2.1 q.2.2.1 q.2.2.2)) S
noncomputable def px_sK (ih : px_Ih) (d : Nat) (M : px_M) (pc : Nat) (L : List (Nat × px_V)) (rest : List px_V) (q : px_F) : px_R := match q.2.1 with
  | .inl none => px_force (Nat.add pc 3) (fun p => ih d M p L rest q.2.2 q.1)
  | .inl (some w) => px_force (Nat.add pc 3) (fun p => ih d M p L (w :: rest) q.2.2 q.1)
  | .inr r => match px_exc q.2.2 r with
    | some k => (match px_catch M pc k M.2.1.2.2.2 with
      | some (some t) => ih d M t L [.inr (.inr (some r))] q.2.2 q.1
      | some none => bif M.2.1.2.2.2.isEmpty then some [q] else none
      | none => none)
    | none => none
noncomputable def px_sC (P : px_P) (ih : px_Ih) (d : Nat) (M : px_M) (pc : Nat) (L : List (Nat × px_V)) (h : px_H) (g : px_G) (o : Option (Nat × List px_V × List px_V)) : px_R := match o with
  | some (y, as, rest) => (match px_nth P.1 y with
    | some M' => bif (Nat.blt 0 d && Nat.ble h.2.1 7302232) && Nat.ble (Nat.add (px_cat2 rest) (Nat.add M'.2.1.2.1 11)) 100 && Nat.ble (px_cat2 as) M'.2.1.2.1 then (match ih (Nat.pred d) M' 0 (px_argl 0 as) [] h g with
      | some ls => px_alln (px_sK ih d M pc L rest) ls
      | none => none) else none
    | none => none)
  | none => none
noncomputable def px_s4 (P : px_P) (ih : px_Ih) (d : Nat) (M : px_M) (pc : Nat) (L : List (Nat × px_V)) (st : List px_V) (h : px_H) (g : px_G) (i : Instr) : px_R := match px_callB i with
  | some f => px_sC P ih d M pc L h g (f M st h)
  | none => none
noncomputable def px_s3 (P : px_P) (ih : px_Ih) (d : Nat) (M : px_M) (pc : Nat) (L : List (Nat × px_V)) (st : List px_V) (h : px_H) (g : px_G) (i : Instr) : px_R := match px_throw M pc i with
  | some k => bif px_room h 1 6 && Nat.ble 6 d && Nat.ble (px_cat2 st) 20 then px_force h.1 (fun r => some [(g, .inr r, px_push h 6 (.inr (.inr k)))]) else none
  | none => match px_hpB i with
    | some f => (match f P M d pc st h g with
      | some S => px_sN ih d M L S
      | none => px_s4 P ih d M pc L st h g i)
    | none => px_s4 P ih d M pc L st h g i
noncomputable def px_s2 (P : px_P) (ih : px_Ih) (d : Nat) (M : px_M) (pc : Nat) (L : List (Nat × px_V)) (st : List px_V) (h : px_H) (g : px_G) (i : Instr) (len : Nat) : px_R := match px_brB i with
  | some f => bif Nat.beq len (px_len i) || px_isw i then px_sB ih d M L h (f pc st g) else none
  | none => bif Nat.beq len (px_len i) then (match px_retB i with
    | some f => (match f M.2.1.2.2.1 st with
      | some v => some [(g, .inl v, h)]
      | none => none)
    | none => px_s3 P ih d M pc L st h g i) else none
noncomputable def px_s1 (P : px_P) (ih : px_Ih) (d : Nat) (M : px_M) (pc : Nat) (L : List (Nat × px_V)) (st : List px_V) (h : px_H) (g : px_G) (o : Option (Instr × Nat)) : px_R := match o with
  | some (i, len) => (match px_pureB i with
    | some f => bif Nat.beq len (px_len i) then px_sP ih d M pc len h g (f M.2.1.2.1 g L st) else none
    | none => px_s2 P ih d M pc L st h g i len)
  | none => none
noncomputable def px_x (P : px_P) (n : Nat) : px_Ih := Nat.rec (fun _ _ _ _ _ _ _ => none) (fun _ ih d M pc L st h g => px_s1 P ih d M pc L st h g (px_code M pc)) n
