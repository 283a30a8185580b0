/-! L2, part 6: arithmetic, the instructions. -/
section DzAr2
variable {T : dz_TT} {X : dz_X} {S S' : dz_S} {ρ : Nat → Int} {τ : Nat → Nat} {h : cz_H} {L : List (Nat × cz_V)} {st w : List cz_V} {nL : Nat}
theorem dz_pure2 {i : Instr} {c : Nat} {q : List dz_Ct} {Γ : List dz_E} {a b : dz_E} {n : Nat} {x y : Int32} {z : dz_E ⊕ List dz_E} (hb : dz_ok n ρ b y.toInt) (hr : dz_a2 i c q Γ a b n = some z) : cz_pure i nL L (.inl y :: .inl x :: w) = some (L, .inl (dz_o2 i x y) :: w) := by
  cases i
  case idiv =>
    simp only [dz_a2] at hr
    split at hr
    · rename_i k
      have h1 : y.toInt = ((k + 1 : Nat) : Int) := dz_cst_eq hb
      have h2 : decide (y = 0) = false := decide_eq_false (fun e => by rw [e] at h1; have : (0 : Int) = ((k + 1 : Nat) : Int) := h1; omega)
      show (bif decide (y = 0) then none else some (L, .inl (x / y) :: w)) = _
      rw [h2]; rfl
    · cases hr
  case irem =>
    simp only [dz_a2] at hr
    split at hr
    · rename_i k
      have h1 : y.toInt = ((k + 1 : Nat) : Int) := dz_cst_eq hb
      have h2 : decide (y = 0) = false := decide_eq_false (fun e => by rw [e] at h1; have : (0 : Int) = ((k + 1 : Nat) : Int) := h1; omega)
      show (bif decide (y = 0) then none else some (L, .inl (x - x / y * y) :: w)) = _
      rw [h2]; rfl
    · cases hr
  case iadd => rfl
  case isub => rfl
  case imul => rfl
  case iand => rfl
  case ior => rfl
  case ixor => rfl
  case ishl => rfl
  case ishr => rfl
  case iushr => rfl
  all_goals (exact absurd hr (by simp [dz_a2]))
/-- an int, told to be one -/
noncomputable def dz_inI (Γ : List dz_E) (q : List dz_Ct) (e : dz_E) : Bool := match q with
  | c0 :: c1 :: _ => dz_pf Γ c0 (dz_plus e 2147483648) && dz_pf Γ c1 (dz_sub (dz_cst 2147483647) e)
  | _ => false
theorem dz_inI_ok {n : Nat} {Γ : List dz_E} {q : List dz_Ct} {e : dz_E} {z : Int} (hΓ : dz_Gm n ρ Γ) (he : dz_ok n ρ e z) (hi : dz_inI Γ q e = true) : -2147483648 ≤ z ∧ z ≤ 2147483647 := by
  unfold dz_inI at hi
  split at hi
  · simp only [Bool.and_eq_true] at hi
    have h1 := dz_pf_ok hΓ (dz_ok_plus 2147483648 he) hi.1
    have h2 := dz_pf_ok hΓ (dz_ok_sub (dz_ok_cst 2147483647) he) hi.2
    omega
  · cases hi
noncomputable def dz_b2 (i : Instr) (hn : dz_Hn) (S : dz_S) : Option dz_S := match S.2.2.2.1 with
  | b :: a :: r => bif Nat.beq a.1 0 && Nat.beq b.1 0 then (match dz_a2 i hn.1 hn.2.1 S.2.1 a.2.1 b.2.1 S.1 with
    | some (.inl e) => bif dz_inI S.2.1 hn.2.1 e then some (dz_stk S ((0, e, 0) :: r)) else none
    | some (.inr es) => some (dz_nu S es r 0 0)
    | none => none) else none
  | _ => none
theorem dz_b2_ok (hG : dz_G T X S ρ τ h L st) {i : Instr} {hn : dz_Hn} (hp : dz_b2 i hn S = some S') : ∃ q ρ', cz_pure i nL L st = some q ∧ dz_G T X S' ρ' τ h q.1 q.2 ∧ dz_ext S.1 ρ S'.1 ρ' := by
  have hs := hG.2.2.1
  unfold dz_b2 at hp
  split at hp
  · rename_i b a r he
    rw [he] at hs
    obtain ⟨v2, w, rfl, hb, h2⟩ := hs.inv
    obtain ⟨v1, w, rfl, ha, h4⟩ := h2.inv
    cases hk : (Nat.beq a.1 0 && Nat.beq b.1 0) with
    | false => rw [hk] at hp; cases hp
    | true =>
      rw [hk] at hp
      simp only [Bool.and_eq_true] at hk
      obtain ⟨x, rfl, hx⟩ := ha.int hk.1
      obtain ⟨y, rfl, hy⟩ := hb.int hk.2
      simp only [cond_true] at hp
      split at hp
      · rename_i e hr
        cases hi : dz_inI S.2.1 hn.2.1 e with
        | false => rw [hi] at hp; cases hp
        | true =>
          rw [hi] at hp; cases hp
          obtain ⟨z, hz, hzz⟩ := dz_a2_lin hx hy hr
          have hb := dz_inI_ok hG.1 hz hi
          refine ⟨_, ρ, dz_pure2 hy hr, hG.stack ⟨⟨rfl, ?_, fun r hr => by cases hr⟩, h4⟩, dz_ext.refl _ _⟩
          show dz_ok S.1 ρ e (dz_o2 i x y).toInt
          rw [hzz hb.1 hb.2]
          exact hz
      · rename_i es hr
        cases hp
        obtain ⟨h5, h6⟩ := hG.nu h4 (v := .inl (dz_o2 i x y)) (k := 0) (t := 0) rfl (fun r hr => by cases hr) (dz_a2_new hG.1 hx hy hr)
        exact ⟨_, _, dz_pure2 hy hr, h5, h6⟩
      · cases hp
  · cases hp
/-- of one int or long -/
noncomputable def dz_u1 (i : Instr) (hn : dz_Hn) (S : dz_S) : Option dz_S := match S.2.2.2.1 with
  | a :: r => (match i with
    | .ineg => bif Nat.beq a.1 0 then (bif Nat.beq hn.1 1 then (bif dz_inI S.2.1 hn.2.1 (dz_mul (-1) a.2.1) then some (dz_stk S ((0, dz_mul (-1) a.2.1, 0) :: r)) else none) else some (dz_nu S (dz_rg S.1) r 0 0)) else none
    | .i2b => bif Nat.beq a.1 0 then (bif Nat.beq hn.1 1 then (match hn.2.1 with
        | c0 :: c1 :: _ => bif dz_pf S.2.1 c0 (dz_plus a.2.1 128) && dz_pf S.2.1 c1 (dz_sub (dz_cst 127) a.2.1) then some S else none
        | _ => none) else some (dz_nu S (dz_bd S.1 (-128) 127) r 0 0)) else none
    | .i2c => bif Nat.beq a.1 0 then (bif Nat.beq hn.1 1 then (match hn.2.1 with
        | c0 :: c1 :: _ => bif dz_pf S.2.1 c0 a.2.1 && dz_pf S.2.1 c1 (dz_sub (dz_cst 65535) a.2.1) then some S else none
        | _ => none) else some (dz_nu S (dz_bd S.1 0 65535) r 0 0)) else none
    | .l2i => bif Nat.beq a.1 2 then some (dz_nu S (dz_rg S.1) r 0 0) else none
    | _ => none)
  | _ => none
theorem dz_i2b_v (x : Int32) : -128 ≤ x.toInt8.toInt32.toInt ∧ x.toInt8.toInt32.toInt ≤ 127 := by
  rw [Int8.toInt_toInt32]
  have h1 := Int8.le_toInt x.toInt8
  have h2 := Int8.toInt_lt x.toInt8
  exact ⟨h1, by omega⟩
theorem dz_i2b_s {x : Int32} (h1 : -128 ≤ x.toInt) (h2 : x.toInt ≤ 127) : x.toInt8.toInt32 = x := by
  apply Int32.toInt_inj.mp
  rw [Int8.toInt_toInt32, Int32.toInt_toInt8]
  have h3 : (Int8.ofInt x.toInt).toInt = x.toInt := Int8.toInt_ofInt_of_le (by show -128 ≤ x.toInt; exact h1) (by show x.toInt < 128; omega)
  rw [Int8.toInt_ofInt] at h3
  exact h3
theorem dz_i2c_n (x : Int32) : ((x.toUInt32 % 65536).toInt32).toInt = ((x.toBitVec.toNat % 65536 : Nat) : Int) := by
  have e : ((x.toUInt32 % 65536).toInt32).toBitVec.toNat = x.toBitVec.toNat % 65536 := by
    show (x.toUInt32 % 65536).toNat = _
    rw [UInt32.toNat_mod]
    rfl
  have h3 := dz_bv_lt (x := ((x.toUInt32 % 65536).toInt32).toBitVec) (by omega)
  show ((x.toUInt32 % 65536).toInt32).toBitVec.toInt = _
  rw [h3, e]
theorem dz_i2c_v (x : Int32) : 0 ≤ ((x.toUInt32 % 65536).toInt32).toInt ∧ ((x.toUInt32 % 65536).toInt32).toInt ≤ 65535 := by
  rw [dz_i2c_n]
  omega
theorem dz_i2c_s {x : Int32} (h1 : 0 ≤ x.toInt) (h2 : x.toInt ≤ 65535) : (x.toUInt32 % 65536).toInt32 = x := by
  apply Int32.toInt_inj.mp
  rw [dz_i2c_n]
  have h3 := dz_bv_nn (x := x.toBitVec) h1
  have e : x.toInt = x.toBitVec.toInt := rfl
  omega
theorem dz_u1_ok (hG : dz_G T X S ρ τ h L st) {i : Instr} {hn : dz_Hn} (hp : dz_u1 i hn S = some S') : ∃ q ρ', cz_pure i nL L st = some q ∧ dz_G T X S' ρ' τ h q.1 q.2 ∧ dz_ext S.1 ρ S'.1 ρ' := by
  have hs := hG.2.2.1
  unfold dz_u1 at hp
  split at hp
  · rename_i a r he
    rw [he] at hs
    obtain ⟨v1, w, rfl, ha, h4⟩ := hs.inv
    cases i
    case ineg =>
      simp only at hp
      cases hk : Nat.beq a.1 0 with
      | false => rw [hk] at hp; cases hp
      | true =>
        rw [hk] at hp
        obtain ⟨x, rfl, hx⟩ := ha.int hk
        simp only [cond_true] at hp
        cases hc : Nat.beq hn.1 1 with
        | true =>
          rw [hc] at hp
          simp only [cond_true] at hp
          cases hi : dz_inI S.2.1 hn.2.1 (dz_mul (-1) a.2.1) with
          | false => rw [hi] at hp; cases hp
          | true =>
            rw [hi] at hp; cases hp
            have hz := dz_ok_mul (-1) hx
            have hb := dz_inI_ok hG.1 hz hi
            refine ⟨(L, .inl (-x) :: w), ρ, rfl, hG.stack ⟨⟨rfl, ?_, fun r hr => by cases hr⟩, h4⟩, dz_ext.refl _ _⟩
            show dz_ok S.1 ρ _ (-x).toInt
            rw [dz_neg_v (by omega) (by omega), show -x.toInt = -1 * x.toInt by omega]
            exact hz
        | false =>
          rw [hc] at hp; cases hp
          obtain ⟨h5, h6⟩ := hG.nu h4 (v := .inl (-x)) (k := 0) (t := 0) rfl (fun r hr => by cases hr) (dz_rg_ok (-x))
          exact ⟨(L, .inl (-x) :: w), _, rfl, h5, h6⟩
    case i2b =>
      simp only at hp
      cases hk : Nat.beq a.1 0 with
      | false => rw [hk] at hp; cases hp
      | true =>
        rw [hk] at hp
        obtain ⟨x, rfl, hx⟩ := ha.int hk
        simp only [cond_true] at hp
        cases hc : Nat.beq hn.1 1 with
        | true =>
          rw [hc] at hp
          simp only [cond_true] at hp
          split at hp
          · rename_i c0 c1 _ _
            cases hi : (dz_pf S.2.1 c0 (dz_plus a.2.1 128) && dz_pf S.2.1 c1 (dz_sub (dz_cst 127) a.2.1)) with
            | false => rw [hi] at hp; cases hp
            | true =>
              rw [hi] at hp; cases hp
              simp only [Bool.and_eq_true] at hi
              have b1 := dz_pf_ok hG.1 (dz_ok_plus 128 hx) hi.1
              have b2 := dz_pf_ok hG.1 (dz_ok_sub (dz_ok_cst 127) hx) hi.2
              refine ⟨(L, .inl x :: w), ρ, ?_, hG, dz_ext.refl _ _⟩
              show some (L, Sum.inl x.toInt8.toInt32 :: w) = _
              rw [dz_i2b_s (by omega) (by omega)]
          · cases hp
        | false =>
          rw [hc] at hp; cases hp
          have hb := dz_i2b_v x
          obtain ⟨h5, h6⟩ := hG.nu h4 (v := .inl x.toInt8.toInt32) (k := 0) (t := 0) rfl (fun r hr => by cases hr) (dz_bd_ok hb.1 hb.2)
          exact ⟨(L, .inl x.toInt8.toInt32 :: w), _, rfl, h5, h6⟩
    case i2c =>
      simp only at hp
      cases hk : Nat.beq a.1 0 with
      | false => rw [hk] at hp; cases hp
      | true =>
        rw [hk] at hp
        obtain ⟨x, rfl, hx⟩ := ha.int hk
        simp only [cond_true] at hp
        cases hc : Nat.beq hn.1 1 with
        | true =>
          rw [hc] at hp
          simp only [cond_true] at hp
          split at hp
          · rename_i c0 c1 _ _
            cases hi : (dz_pf S.2.1 c0 a.2.1 && dz_pf S.2.1 c1 (dz_sub (dz_cst 65535) a.2.1)) with
            | false => rw [hi] at hp; cases hp
            | true =>
              rw [hi] at hp; cases hp
              simp only [Bool.and_eq_true] at hi
              have b1 := dz_pf_ok hG.1 hx hi.1
              have b2 := dz_pf_ok hG.1 (dz_ok_sub (dz_ok_cst 65535) hx) hi.2
              refine ⟨(L, .inl x :: w), ρ, ?_, hG, dz_ext.refl _ _⟩
              show some (L, Sum.inl ((x.toUInt32 % 65536).toInt32) :: w) = _
              rw [dz_i2c_s (by omega) (by omega)]
          · cases hp
        | false =>
          rw [hc] at hp; cases hp
          have hb := dz_i2c_v x
          obtain ⟨h5, h6⟩ := hG.nu h4 (v := .inl ((x.toUInt32 % 65536).toInt32)) (k := 0) (t := 0) rfl (fun r hr => by cases hr) (dz_bd_ok hb.1 hb.2)
          exact ⟨(L, .inl ((x.toUInt32 % 65536).toInt32) :: w), _, rfl, h5, h6⟩
    case l2i =>
      simp only at hp
      cases hk : Nat.beq a.1 2 with
      | false => rw [hk] at hp; cases hp
      | true =>
        rw [hk] at hp; cases hp
        obtain ⟨x, rfl, hx⟩ := ha.long hk
        obtain ⟨h5, h6⟩ := hG.nu h4 (v := .inl x.toInt32) (k := 0) (t := 0) rfl (fun r hr => by cases hr) (dz_rg_ok x.toInt32)
        exact ⟨(L, .inl x.toInt32 :: w), _, rfl, h5, h6⟩
    all_goals (exact absurd hp (by simp))
  · cases hp
/-- longs: a new unknown; their order; iinc -/
noncomputable def dz_lg2 (i : Instr) : Bool := match i with
  | .ladd | .lsub | .lmul | .land | .lor | .lxor => true
  | _ => false
noncomputable def dz_l2 (i : Instr) (hn : dz_Hn) (nL : Nat) (S : dz_S) : Option dz_S := match i with
  | .lshl => (match S.2.2.2.1 with
    | b :: a :: r => bif Nat.beq a.1 2 && Nat.beq b.1 0 then some (dz_nu S [] r 2 0) else none
    | _ => none)
  | .lushr => (match S.2.2.2.1 with
    | b :: a :: r => bif Nat.beq a.1 2 && Nat.beq b.1 0 then some (dz_nu S [] r 2 0) else none
    | _ => none)
  | .lcmp => (match S.2.2.2.1 with
    | b :: a :: r => bif Nat.beq a.1 2 && Nat.beq b.1 2 then (bif Nat.beq hn.1 1 then (match hn.2.1 with
        | c0 :: c1 :: _ => bif dz_pf S.2.1 c0 (dz_sub a.2.1 b.2.1) && dz_pf S.2.1 c1 (dz_sub b.2.1 a.2.1) then some (dz_stk S ((0, dz_cst 0, 0) :: r)) else none
        | _ => none) else some (dz_nu S (dz_bd S.1 (-1) 1) r 0 0)) else none
    | _ => none)
  | .iinc k n => (match dz_fl k S.2.2.1 with
    | some a => bif Nat.beq a.1 0 && (Nat.blt k nL && (dz_ile (-32768) n && dz_ile n 32767)) then (bif Nat.beq hn.1 1 then (bif dz_inI S.2.1 hn.2.1 (dz_plus a.2.1 n) then some (S.1, S.2.1, dz_ls1 k (0, dz_plus a.2.1 n, 0) S.2.2.1, S.2.2.2) else none)
        else dz_fn (Nat.add S.1 1) (fun m => some (m, dz_rg S.1 ++ S.2.1, dz_ls1 k (0, dz_var S.1, 0) S.2.2.1, S.2.2.2))) else none
    | none => none)
  | i => bif dz_lg2 i then (match S.2.2.2.1 with
    | b :: a :: r => bif Nat.beq a.1 2 && Nat.beq b.1 2 then some (dz_nu S [] r 2 0) else none
    | _ => none) else none
theorem dz_cmp_v (a b : Int64) : -1 ≤ (lg_cmp a b).toInt ∧ (lg_cmp a b).toInt ≤ 1 := by
  unfold lg_cmp
  split
  · decide
  · split <;> decide
theorem dz_cmp_0 {a b : Int64} (h : a = b) : lg_cmp a b = 0 := by
  subst h
  unfold lg_cmp
  simp
theorem dz_none_all {n : Nat} {ρ : Nat → Int} : dz_all n ρ [] := fun e he => by cases he
set_option maxHeartbeats 4000000 in
theorem dz_l2_ok (hG : dz_G T X S ρ τ h L st) {i : Instr} {hn : dz_Hn} (hp : dz_l2 i hn nL S = some S') : ∃ q ρ', cz_pure i nL L st = some q ∧ dz_G T X S' ρ' τ h q.1 q.2 ∧ dz_ext S.1 ρ S'.1 ρ' := by
  have hs := hG.2.2.1
  cases i
  case lshl =>
    simp only [dz_l2] at hp
    split at hp
    · rename_i b a r he
      rw [he] at hs
      obtain ⟨v2, w, rfl, hb, h2⟩ := hs.inv
      obtain ⟨v1, w, rfl, ha, h4⟩ := h2.inv
      cases hk : (Nat.beq a.1 2 && Nat.beq b.1 0) with
      | false => rw [hk] at hp; cases hp
      | true =>
        rw [hk] at hp; cases hp
        simp only [Bool.and_eq_true] at hk
        obtain ⟨x, rfl, hx⟩ := ha.long hk.1
        obtain ⟨y, rfl, hy⟩ := hb.int hk.2
        obtain ⟨h5, h6⟩ := hG.nu h4 (v := .inr (.inl (x <<< (y.toInt64 &&& 63)))) (k := 2) (t := 0) rfl (fun r hr => by cases hr) dz_none_all
        exact ⟨(L, .inr (.inl (x <<< (y.toInt64 &&& 63))) :: w), _, rfl, h5, h6⟩
    · cases hp
  case lushr =>
    simp only [dz_l2] at hp
    split at hp
    · rename_i b a r he
      rw [he] at hs
      obtain ⟨v2, w, rfl, hb, h2⟩ := hs.inv
      obtain ⟨v1, w, rfl, ha, h4⟩ := h2.inv
      cases hk : (Nat.beq a.1 2 && Nat.beq b.1 0) with
      | false => rw [hk] at hp; cases hp
      | true =>
        rw [hk] at hp; cases hp
        simp only [Bool.and_eq_true] at hk
        obtain ⟨x, rfl, hx⟩ := ha.long hk.1
        obtain ⟨y, rfl, hy⟩ := hb.int hk.2
        obtain ⟨h5, h6⟩ := hG.nu h4 (v := .inr (.inl ((x.toUInt64 >>> (y.toInt64.toUInt64 &&& Int64.toUInt64 63)).toInt64))) (k := 2) (t := 0) rfl (fun r hr => by cases hr) dz_none_all
        exact ⟨(L, .inr (.inl ((x.toUInt64 >>> (y.toInt64.toUInt64 &&& Int64.toUInt64 63)).toInt64)) :: w), _, rfl, h5, h6⟩
    · cases hp
  case lcmp =>
    simp only [dz_l2] at hp
    split at hp
    · rename_i b a r he
      rw [he] at hs
      obtain ⟨v2, w, rfl, hb, h2⟩ := hs.inv
      obtain ⟨v1, w, rfl, ha, h4⟩ := h2.inv
      cases hk : (Nat.beq a.1 2 && Nat.beq b.1 2) with
      | false => rw [hk] at hp; cases hp
      | true =>
        rw [hk] at hp
        simp only [Bool.and_eq_true] at hk
        obtain ⟨x, rfl, hx⟩ := ha.long hk.1
        obtain ⟨y, rfl, hy⟩ := hb.long hk.2
        simp only [cond_true] at hp
        cases hc : Nat.beq hn.1 1 with
        | true =>
          rw [hc] at hp
          simp only [cond_true] at hp
          split at hp
          · rename_i c0 c1 _ _
            cases hi : (dz_pf S.2.1 c0 (dz_sub a.2.1 b.2.1) && dz_pf S.2.1 c1 (dz_sub b.2.1 a.2.1)) with
            | false => rw [hi] at hp; cases hp
            | true =>
              rw [hi] at hp; cases hp
              simp only [Bool.and_eq_true] at hi
              have b1 := dz_pf_ok hG.1 (dz_ok_sub hx hy) hi.1
              have b2 := dz_pf_ok hG.1 (dz_ok_sub hy hx) hi.2
              have e : x = y := Int64.toInt_inj.mp (by omega)
              refine ⟨(L, .inl (lg_cmp x y) :: w), ρ, rfl, hG.stack ⟨⟨rfl, ?_, fun r hr => by cases hr⟩, h4⟩, dz_ext.refl _ _⟩
              show dz_ok S.1 ρ (dz_cst 0) (lg_cmp x y).toInt
              rw [dz_cmp_0 e]
              exact dz_ok_cst 0
          · cases hp
        | false =>
          rw [hc] at hp; cases hp
          have hb := dz_cmp_v x y
          obtain ⟨h5, h6⟩ := hG.nu h4 (v := .inl (lg_cmp x y)) (k := 0) (t := 0) rfl (fun r hr => by cases hr) (dz_bd_ok hb.1 hb.2)
          exact ⟨(L, .inl (lg_cmp x y) :: w), _, rfl, h5, h6⟩
    · cases hp
  case iinc k n =>
    simp only [dz_l2] at hp
    split at hp
    · rename_i a he
      obtain ⟨v, hv, hav⟩ := hG.2.1 _ (dz_fl_mem he)
      cases hk : (Nat.beq a.1 0 && (Nat.blt k nL && (dz_ile (-32768) n && dz_ile n 32767))) with
      | false => rw [hk] at hp; cases hp
      | true =>
        rw [hk] at hp
        simp only [Bool.and_eq_true] at hk
        obtain ⟨x, rfl, hx⟩ := hav.int hk.1
        have hn1 := dz_ile_ok hk.2.2.1
        have hn2 := dz_ile_ok hk.2.2.2
        have hpu : cz_pure (.iinc k n) nL L st = some (cz_sto L k (.inl (x + Int32.ofInt n)), st) := by
          show (match cz_find k L with
            | some (.inl a) => bif Nat.blt k nL then some (cz_sto L k (.inl (a + Int32.ofInt n)), st) else none
            | _ => none) = _
          rw [hv]
          show (bif Nat.blt k nL then _ else none) = _
          rw [hk.2.1]
          rfl
        simp only [cond_true] at hp
        cases hc : Nat.beq hn.1 1 with
        | true =>
          rw [hc] at hp
          simp only [cond_true] at hp
          cases hi : dz_inI S.2.1 hn.2.1 (dz_plus a.2.1 n) with
          | false => rw [hi] at hp; cases hp
          | true =>
            rw [hi] at hp; cases hp
            have hz := dz_ok_plus n hx
            have hb := dz_inI_ok hG.1 hz hi
            have e : (Int32.ofInt n).toInt = n := dz_toInt_i (by omega) (by omega)
            refine ⟨_, ρ, hpu, hG.frame (hG.2.1.sto ⟨rfl, ?_, fun r hr => by cases hr⟩) hs, dz_ext.refl _ _⟩
            show dz_ok S.1 ρ _ (x + Int32.ofInt n).toInt
            rw [dz_add_v (by omega) (by omega), e]
            exact hz
        | false =>
          rw [hc] at hp
          cases hp
          have hx2 := dz_ext.up S.1 ρ (x + Int32.ofInt n).toInt
          have h1 := hG.ext hx2
          exact ⟨_, _, hpu, ⟨h1.1.app (dz_rg_ok _), h1.2.1.sto ⟨rfl, dz_ok_new _, fun r hr => by cases hr⟩, h1.2.2⟩, hx2⟩
    · cases hp
  case ladd =>
    simp only [dz_l2, dz_lg2, cond_true] at hp
    split at hp
    · rename_i b a r he
      rw [he] at hs
      obtain ⟨v2, w, rfl, hb, h2⟩ := hs.inv
      obtain ⟨v1, w, rfl, ha, h4⟩ := h2.inv
      cases hk : (Nat.beq a.1 2 && Nat.beq b.1 2) with
      | false => rw [hk] at hp; cases hp
      | true =>
        rw [hk] at hp; cases hp
        simp only [Bool.and_eq_true] at hk
        obtain ⟨x, rfl, hx⟩ := ha.long hk.1
        obtain ⟨y, rfl, hy⟩ := hb.long hk.2
        obtain ⟨h5, h6⟩ := hG.nu h4 (v := .inr (.inl (x + y))) (k := 2) (t := 0) rfl (fun r hr => by cases hr) dz_none_all
        exact ⟨(L, .inr (.inl (x + y)) :: w), _, rfl, h5, h6⟩
    · cases hp
  case lsub =>
    simp only [dz_l2, dz_lg2, cond_true] at hp
    split at hp
    · rename_i b a r he
      rw [he] at hs
      obtain ⟨v2, w, rfl, hb, h2⟩ := hs.inv
      obtain ⟨v1, w, rfl, ha, h4⟩ := h2.inv
      cases hk : (Nat.beq a.1 2 && Nat.beq b.1 2) with
      | false => rw [hk] at hp; cases hp
      | true =>
        rw [hk] at hp; cases hp
        simp only [Bool.and_eq_true] at hk
        obtain ⟨x, rfl, hx⟩ := ha.long hk.1
        obtain ⟨y, rfl, hy⟩ := hb.long hk.2
        obtain ⟨h5, h6⟩ := hG.nu h4 (v := .inr (.inl (x - y))) (k := 2) (t := 0) rfl (fun r hr => by cases hr) dz_none_all
        exact ⟨(L, .inr (.inl (x - y)) :: w), _, rfl, h5, h6⟩
    · cases hp
  case lmul =>
    simp only [dz_l2, dz_lg2, cond_true] at hp
    split at hp
    · rename_i b a r he
      rw [he] at hs
      obtain ⟨v2, w, rfl, hb, h2⟩ := hs.inv
      obtain ⟨v1, w, rfl, ha, h4⟩ := h2.inv
      cases hk : (Nat.beq a.1 2 && Nat.beq b.1 2) with
      | false => rw [hk] at hp; cases hp
      | true =>
        rw [hk] at hp; cases hp
        simp only [Bool.and_eq_true] at hk
        obtain ⟨x, rfl, hx⟩ := ha.long hk.1
        obtain ⟨y, rfl, hy⟩ := hb.long hk.2
        obtain ⟨h5, h6⟩ := hG.nu h4 (v := .inr (.inl (x * y))) (k := 2) (t := 0) rfl (fun r hr => by cases hr) dz_none_all
        exact ⟨(L, .inr (.inl (x * y)) :: w), _, rfl, h5, h6⟩
    · cases hp
  case land =>
    simp only [dz_l2, dz_lg2, cond_true] at hp
    split at hp
    · rename_i b a r he
      rw [he] at hs
      obtain ⟨v2, w, rfl, hb, h2⟩ := hs.inv
      obtain ⟨v1, w, rfl, ha, h4⟩ := h2.inv
      cases hk : (Nat.beq a.1 2 && Nat.beq b.1 2) with
      | false => rw [hk] at hp; cases hp
      | true =>
        rw [hk] at hp; cases hp
        simp only [Bool.and_eq_true] at hk
        obtain ⟨x, rfl, hx⟩ := ha.long hk.1
        obtain ⟨y, rfl, hy⟩ := hb.long hk.2
        obtain ⟨h5, h6⟩ := hG.nu h4 (v := .inr (.inl (x &&& y))) (k := 2) (t := 0) rfl (fun r hr => by cases hr) dz_none_all
        exact ⟨(L, .inr (.inl (x &&& y)) :: w), _, rfl, h5, h6⟩
    · cases hp
  case lor =>
    simp only [dz_l2, dz_lg2, cond_true] at hp
    split at hp
    · rename_i b a r he
      rw [he] at hs
      obtain ⟨v2, w, rfl, hb, h2⟩ := hs.inv
      obtain ⟨v1, w, rfl, ha, h4⟩ := h2.inv
      cases hk : (Nat.beq a.1 2 && Nat.beq b.1 2) with
      | false => rw [hk] at hp; cases hp
      | true =>
        rw [hk] at hp; cases hp
        simp only [Bool.and_eq_true] at hk
        obtain ⟨x, rfl, hx⟩ := ha.long hk.1
        obtain ⟨y, rfl, hy⟩ := hb.long hk.2
        obtain ⟨h5, h6⟩ := hG.nu h4 (v := .inr (.inl (x ||| y))) (k := 2) (t := 0) rfl (fun r hr => by cases hr) dz_none_all
        exact ⟨(L, .inr (.inl (x ||| y)) :: w), _, rfl, h5, h6⟩
    · cases hp
  case lxor =>
    simp only [dz_l2, dz_lg2, cond_true] at hp
    split at hp
    · rename_i b a r he
      rw [he] at hs
      obtain ⟨v2, w, rfl, hb, h2⟩ := hs.inv
      obtain ⟨v1, w, rfl, ha, h4⟩ := h2.inv
      cases hk : (Nat.beq a.1 2 && Nat.beq b.1 2) with
      | false => rw [hk] at hp; cases hp
      | true =>
        rw [hk] at hp; cases hp
        simp only [Bool.and_eq_true] at hk
        obtain ⟨x, rfl, hx⟩ := ha.long hk.1
        obtain ⟨y, rfl, hy⟩ := hb.long hk.2
        obtain ⟨h5, h6⟩ := hG.nu h4 (v := .inr (.inl (x ^^^ y))) (k := 2) (t := 0) rfl (fun r hr => by cases hr) dz_none_all
        exact ⟨(L, .inr (.inl (x ^^^ y)) :: w), _, rfl, h5, h6⟩
    · cases hp
  all_goals (exact absurd hp (by simp [dz_l2, dz_lg2]))
end DzAr2
