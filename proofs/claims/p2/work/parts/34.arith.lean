/-! L2, part 5: arithmetic. What is told beside an instruction: a code, certificates, numbers. -/
abbrev dz_Hn : Type := Nat × List dz_Ct × List Nat
theorem dz_bm {x : Int} (h1 : -2147483648 ≤ x) (h2 : x ≤ 2147483647) : x.bmod 4294967296 = x := by
  have h := dz_toInt_i h1 h2
  rw [Int32.toInt_ofInt] at h
  exact h
theorem dz_add_v {a b : Int32} (h1 : -2147483648 ≤ a.toInt + b.toInt) (h2 : a.toInt + b.toInt ≤ 2147483647) : (a + b).toInt = a.toInt + b.toInt := by
  rw [Int32.toInt_add]
  exact dz_bm h1 h2
theorem dz_sub_v {a b : Int32} (h1 : -2147483648 ≤ a.toInt - b.toInt) (h2 : a.toInt - b.toInt ≤ 2147483647) : (a - b).toInt = a.toInt - b.toInt := by
  rw [Int32.toInt_sub]
  exact dz_bm h1 h2
theorem dz_mul_v {a b : Int32} (h1 : -2147483648 ≤ a.toInt * b.toInt) (h2 : a.toInt * b.toInt ≤ 2147483647) : (a * b).toInt = a.toInt * b.toInt := by
  rw [Int32.toInt_mul]
  exact dz_bm h1 h2
theorem dz_neg_v {a : Int32} (h1 : -2147483648 ≤ -a.toInt) (h2 : -a.toInt ≤ 2147483647) : (-a).toInt = -a.toInt := by
  rw [Int32.toInt_neg]
  exact dz_bm h1 h2
theorem dz_rg_v (a : Int32) : -2147483648 ≤ a.toInt ∧ a.toInt ≤ 2147483647 := by
  have h1 := Int32.le_toInt a
  have h2 := Int32.toInt_lt a
  exact ⟨h1, by omega⟩
theorem dz_bv_nn {x : BitVec 32} (h : 0 ≤ x.toInt) : x.toInt = (x.toNat : Int) ∧ x.toNat < 2147483648 := by
  have := x.isLt
  rw [BitVec.toInt_eq_toNat_cond] at h ⊢
  split at h
  · rename_i hh
    rw [if_pos hh]
    exact ⟨rfl, by omega⟩
  · omega
theorem dz_bv_lt {x : BitVec 32} (h : x.toNat < 2147483648) : x.toInt = (x.toNat : Int) := by
  rw [BitVec.toInt_eq_toNat_cond, if_pos (by omega)]
theorem dz_and_r {a b : Int32} (hb : 0 ≤ b.toInt) : 0 ≤ (a &&& b).toInt ∧ (a &&& b).toInt ≤ b.toInt := by
  have h1 := dz_bv_nn (x := b.toBitVec) hb
  have h2 : (a &&& b).toBitVec.toNat ≤ b.toBitVec.toNat := by
    rw [Int32.toBitVec_and, BitVec.toNat_and]
    exact Nat.and_le_right
  have h3 := dz_bv_lt (x := (a &&& b).toBitVec) (by omega)
  have e1 : (a &&& b).toInt = (a &&& b).toBitVec.toInt := rfl
  have e2 : b.toInt = b.toBitVec.toInt := rfl
  omega
theorem dz_and_l {a b : Int32} (ha : 0 ≤ a.toInt) : 0 ≤ (a &&& b).toInt ∧ (a &&& b).toInt ≤ a.toInt := by
  have h1 := dz_bv_nn (x := a.toBitVec) ha
  have h2 : (a &&& b).toBitVec.toNat ≤ a.toBitVec.toNat := by
    rw [Int32.toBitVec_and, BitVec.toNat_and]
    exact Nat.and_le_left
  have h3 := dz_bv_lt (x := (a &&& b).toBitVec) (by omega)
  have e1 : (a &&& b).toInt = (a &&& b).toBitVec.toInt := rfl
  have e2 : a.toInt = a.toBitVec.toInt := rfl
  omega
theorem dz_ushr1 {a b : Int32} (ha : 0 ≤ a.toInt) (hb : b.toInt = 1) : ((a.toUInt32 >>> (b.toUInt32 &&& Int32.toUInt32 31)).toInt32).toInt = a.toInt / 2 := by
  have hb1 : b = 1 := Int32.toInt_inj.mp (by rw [hb]; rfl)
  subst hb1
  have h1 := dz_bv_nn (x := a.toBitVec) ha
  have e : ((a.toUInt32 >>> (Int32.toUInt32 1 &&& Int32.toUInt32 31)).toInt32).toBitVec = a.toBitVec >>> 1 := rfl
  have e2 : (a.toBitVec >>> 1).toNat = a.toBitVec.toNat / 2 := by
    rw [BitVec.toNat_ushiftRight, Nat.shiftRight_eq_div_pow]
  have h3 := dz_bv_lt (x := a.toBitVec >>> 1) (by omega)
  have e3 : ((a.toUInt32 >>> (Int32.toUInt32 1 &&& Int32.toUInt32 31)).toInt32).toInt = (a.toBitVec >>> 1).toInt := rfl
  have e4 : a.toInt = a.toBitVec.toInt := rfl
  rw [e3, h3, e2, e4, h1.1]
  omega
theorem dz_ushr8 {a b : Int32} (ha : 0 ≤ a.toInt) (hb : b.toInt = 8) : ((a.toUInt32 >>> (b.toUInt32 &&& Int32.toUInt32 31)).toInt32).toInt = a.toInt / 256 := by
  have hb1 : b = 8 := Int32.toInt_inj.mp (by rw [hb]; rfl)
  subst hb1
  have h1 := dz_bv_nn (x := a.toBitVec) ha
  have e2 : (a.toBitVec >>> 8).toNat = a.toBitVec.toNat / 256 := by
    rw [BitVec.toNat_ushiftRight, Nat.shiftRight_eq_div_pow]
  have h3 := dz_bv_lt (x := a.toBitVec >>> 8) (by omega)
  have e3 : ((a.toUInt32 >>> (Int32.toUInt32 8 &&& Int32.toUInt32 31)).toInt32).toInt = (a.toBitVec >>> 8).toInt := rfl
  have e4 : a.toInt = a.toBitVec.toInt := rfl
  rw [e3, h3, e2, e4, h1.1]
  omega
theorem dz_sh0 {a b : Int32} (hb : b.toInt = 0) : a <<< (b &&& 31) = a ∧ a >>> (b &&& 31) = a := by
  have hb1 : b = 0 := Int32.toInt_inj.mp (by rw [hb]; rfl)
  subst hb1
  have e : (0 : Int32) &&& 31 = 0 := by decide
  rw [e]
  exact ⟨Int32.shiftLeft_zero, Int32.shiftRight_zero⟩
theorem dz_div_v {a b : Int32} (ha : 0 ≤ a.toInt) (hb : 0 < b.toInt) : (a / b).toInt = a.toInt / b.toInt := by
  have h1 := dz_rg_v a
  have h2 : a.toInt / b.toInt ≤ a.toInt := Int.ediv_le_self _ ha
  have h3 : 0 ≤ a.toInt / b.toInt := Int.ediv_nonneg ha (by omega)
  rw [Int32.toInt_div, Int.tdiv_eq_ediv_of_nonneg ha]
  exact dz_bm (by omega) (by omega)
theorem dz_rem_v {a b : Int32} (ha : 0 ≤ a.toInt) (hb : 0 < b.toInt) : (a - a / b * b).toInt = a.toInt % b.toInt := by
  have h1 := dz_rg_v a
  have h2 := dz_div_v ha hb
  have h3 := Int.emod_nonneg a.toInt (b := b.toInt) (by omega)
  have h4 := Int.mul_ediv_add_emod a.toInt b.toInt
  have h5 : a.toInt / b.toInt * b.toInt = b.toInt * (a.toInt / b.toInt) := Int.mul_comm _ _
  have h6 : 0 ≤ b.toInt * (a.toInt / b.toInt) := Int.mul_nonneg (by omega) (Int.ediv_nonneg ha (by omega))
  have h7 : (a / b * b).toInt = a.toInt / b.toInt * b.toInt := by
    rw [dz_mul_v (by rw [h2]; omega) (by rw [h2]; omega), h2]
  rw [dz_sub_v (by rw [h7]; omega) (by rw [h7]; omega), h7]
  omega
/-- an unknown that is an int -/
def dz_rg (n : Nat) : List dz_E := [(2147483648, [(n, 1)]), (2147483647, [(n, -1)])]
def dz_bd (n : Nat) (lo hi : Int) : List dz_E := [(-lo, [(n, 1)]), (hi, [(n, -1)])]
/-- each is at least 0 -/
def dz_all (n : Nat) (ρ : Nat → Int) (es : List dz_E) : Prop := ∀ e ∈ es, ∃ x, 0 ≤ x ∧ dz_ok n ρ e x
theorem dz_bd_ok {n : Nat} {ρ : Nat → Int} {lo hi v : Int} (h1 : lo ≤ v) (h2 : v ≤ hi) : dz_all (n + 1) (dz_up ρ n v) (dz_bd n lo hi) := by
  have hv : dz_up ρ n v n = v := by unfold dz_up; rw [if_pos rfl]
  intro e he
  simp only [dz_bd, List.mem_cons, List.not_mem_nil, or_false] at he
  rcases he with rfl | rfl
  · refine ⟨v - lo, by omega, fun t ht => by rw [List.mem_singleton.mp ht]; exact Nat.lt_succ_self n, ?_⟩
    show -lo + (1 * dz_up ρ n v n + 0) = v - lo
    rw [hv]; omega
  · refine ⟨hi - v, by omega, fun t ht => by rw [List.mem_singleton.mp ht]; exact Nat.lt_succ_self n, ?_⟩
    show hi + (-1 * dz_up ρ n v n + 0) = hi - v
    rw [hv]; omega
theorem dz_rg_ok {n : Nat} {ρ : Nat → Int} (a : Int32) : dz_all (n + 1) (dz_up ρ n a.toInt) (dz_rg n) := by
  have h := dz_rg_v a
  have := dz_bd_ok (n := n) (ρ := ρ) h.1 h.2
  exact this
/-- a new unknown on the stack -/
noncomputable def dz_nu (S : dz_S) (es : List dz_E) (r : List dz_A) (k t : Nat) : dz_S := dz_fn (Nat.add S.1 1) (fun m => (m, es ++ S.2.1, S.2.2.1, (k, dz_var S.1, t) :: r, S.2.2.2.2))
section DzAr
variable {T : dz_TT} {X : dz_X} {S S' : dz_S} {ρ : Nat → Int} {τ : Nat → Nat} {h : cz_H} {L : List (Nat × cz_V)} {st w : List cz_V} {nL : Nat}
theorem dz_Gm.app {n : Nat} {ρ : Nat → Int} {Γ es : List dz_E} (hG : dz_Gm n ρ Γ) (he : dz_all n ρ es) : dz_Gm n ρ (es ++ Γ) := fun c hc => by
  rcases List.mem_append.mp hc with hc | hc
  · exact he c hc
  · exact hG c hc
theorem dz_G.nu (hG : dz_G T X S ρ τ h L st) {r : List dz_A} (hr : dz_so S.1 ρ τ r w) {es : List dz_E} {k t : Nat} {v : cz_V} (hk : dz_k v = k) (ht : dz_tg τ t v) (he : dz_all (S.1 + 1) (dz_up ρ S.1 (dz_n v)) es) :
    dz_G T X (dz_nu S es r k t) (dz_up ρ S.1 (dz_n v)) τ h L (v :: w) ∧ dz_ext S.1 ρ (dz_nu S es r k t).1 (dz_up ρ S.1 (dz_n v)) := by
  have hx := dz_ext.up S.1 ρ (dz_n v)
  have h1 := hG.ext hx
  refine ⟨⟨h1.1.app he, h1.2.1, ⟨⟨hk, dz_ok_new _, ht⟩, hr.ext hx⟩, h1.2.2.2⟩, hx⟩
/-- an operation of two ints: a number, or a new unknown of which something is known -/
noncomputable def dz_a2 (i : Instr) (c : Nat) (q : List dz_Ct) (Γ : List dz_E) (a b : dz_E) (n : Nat) : Option (dz_E ⊕ List dz_E) := match i with
  | .iadd => bif Nat.beq c 1 then some (.inl (dz_add a b)) else some (.inr (dz_rg n))
  | .isub => bif Nat.beq c 1 then some (.inl (dz_sub a b)) else some (.inr (dz_rg n))
  | .imul => bif Nat.beq c 1 then (match a, b with
      | a, (k, []) => some (.inl (dz_mul k a))
      | (k, []), b => some (.inl (dz_mul k b))
      | _, _ => none) else some (.inr (dz_rg n))
  | .iand => bif Nat.beq c 2 then (match q with
      | ct :: _ => bif dz_pf Γ ct b then some (.inr [dz_var n, dz_sub b (dz_var n)]) else none
      | [] => none) else bif Nat.beq c 3 then (match q with
      | ct :: _ => bif dz_pf Γ ct a then some (.inr [dz_var n, dz_sub a (dz_var n)]) else none
      | [] => none) else some (.inr (dz_rg n))
  | .ior => some (.inr (dz_rg n))
  | .ixor => some (.inr (dz_rg n))
  | .ishl => bif Nat.beq c 1 then (match b with
      | (.ofNat 0, []) => some (.inl a)
      | _ => none) else some (.inr (dz_rg n))
  | .ishr => bif Nat.beq c 1 then (match b with
      | (.ofNat 0, []) => some (.inl a)
      | _ => none) else some (.inr (dz_rg n))
  | .iushr => bif Nat.beq c 6 then (match q, b with
      | ct :: _, (.ofNat 1, []) => bif dz_pf Γ ct a then some (.inr [dz_var n, dz_sub a (dz_mul 2 (dz_var n)), dz_sub (dz_plus (dz_mul 2 (dz_var n)) 1) a]) else none
      | _, _ => none) else bif Nat.beq c 7 then (match q, b with
      | ct :: _, (.ofNat 8, []) => bif dz_pf Γ ct a then some (.inr [dz_var n, dz_sub a (dz_mul 256 (dz_var n)), dz_sub (dz_plus (dz_mul 256 (dz_var n)) 255) a]) else none
      | _, _ => none) else some (.inr (dz_rg n))
  | .idiv => (match b with
      | (.ofNat (k + 1), []) => bif Nat.beq c 4 then (match q with
        | ct :: _ => bif dz_pf Γ ct a then some (.inr [dz_var n, dz_sub a (dz_mul (.ofNat (k + 1)) (dz_var n)), dz_sub (dz_plus (dz_mul (.ofNat (k + 1)) (dz_var n)) (.ofNat k)) a]) else none
        | [] => none) else some (.inr (dz_rg n))
      | _ => none)
  | .irem => (match b with
      | (.ofNat (k + 1), []) => bif Nat.beq c 5 then (match q with
        | ct :: _ => bif dz_pf Γ ct a then some (.inr [dz_var n, dz_sub (dz_cst (.ofNat k)) (dz_var n), dz_sub a (dz_var n)]) else none
        | [] => none) else some (.inr (dz_rg n))
      | _ => none)
  | _ => none
/-- what the machine does -/
def dz_o2 (i : Instr) (a b : Int32) : Int32 := match i with
  | .iadd => a + b
  | .isub => a - b
  | .imul => a * b
  | .iand => a &&& b
  | .ior => a ||| b
  | .ixor => a ^^^ b
  | .ishl => a <<< (b &&& 31)
  | .ishr => a >>> (b &&& 31)
  | .iushr => (a.toUInt32 >>> (b.toUInt32 &&& Int32.toUInt32 31)).toInt32
  | .idiv => a / b
  | .irem => a - a / b * b
  | _ => 0
theorem dz_two {n : Nat} {ρ : Nat → Int} {e1 e2 : dz_E} {x y : Int} (h1 : dz_ok n ρ e1 x) (h2 : 0 ≤ x) (h3 : dz_ok n ρ e2 y) (h4 : 0 ≤ y) : dz_all n ρ [e1, e2] := by
  intro e he
  simp only [List.mem_cons, List.not_mem_nil, or_false] at he
  rcases he with rfl | rfl
  · exact ⟨x, h2, h1⟩
  · exact ⟨y, h4, h3⟩
theorem dz_three {n : Nat} {ρ : Nat → Int} {e1 e2 e3 : dz_E} {x y z : Int} (h1 : dz_ok n ρ e1 x) (h2 : 0 ≤ x) (h3 : dz_ok n ρ e2 y) (h4 : 0 ≤ y) (h5 : dz_ok n ρ e3 z) (h6 : 0 ≤ z) : dz_all n ρ [e1, e2, e3] := by
  intro e he
  simp only [List.mem_cons, List.not_mem_nil, or_false] at he
  rcases he with rfl | rfl | rfl
  · exact ⟨x, h2, h1⟩
  · exact ⟨y, h4, h3⟩
  · exact ⟨z, h6, h5⟩
theorem dz_cst_eq {n : Nat} {ρ : Nat → Int} {k x : Int} (h : dz_ok n ρ (k, []) x) : x = k := by
  have h2 : k + 0 = x := h.2
  omega
/-- the linear ones are right where they are ints -/
theorem dz_a2_lin {i : Instr} {c : Nat} {q : List dz_Ct} {Γ : List dz_E} {a b e : dz_E} {n : Nat} {x y : Int32} (ha : dz_ok n ρ a x.toInt) (hb : dz_ok n ρ b y.toInt) (hr : dz_a2 i c q Γ a b n = some (.inl e)) : ∃ z, dz_ok n ρ e z ∧ (-2147483648 ≤ z → z ≤ 2147483647 → (dz_o2 i x y).toInt = z) := by
  cases i
  case iadd =>
    simp only [dz_a2] at hr
    cases hc : Nat.beq c 1 with
    | false => rw [hc] at hr; cases hr
    | true =>
      rw [hc] at hr; cases hr
      exact ⟨_, dz_ok_add ha hb, fun h1 h2 => dz_add_v h1 h2⟩
  case isub =>
    simp only [dz_a2] at hr
    cases hc : Nat.beq c 1 with
    | false => rw [hc] at hr; cases hr
    | true =>
      rw [hc] at hr; cases hr
      exact ⟨_, dz_ok_sub ha hb, fun h1 h2 => dz_sub_v h1 h2⟩
  case imul =>
    simp only [dz_a2] at hr
    cases hc : Nat.beq c 1 with
    | false => rw [hc] at hr; cases hr
    | true =>
      rw [hc] at hr
      simp only [cond_true] at hr
      split at hr
      · rename_i k
        cases hr
        have hy := dz_cst_eq hb
        refine ⟨_, dz_ok_mul k ha, fun h1 h2 => ?_⟩
        have e : x.toInt * y.toInt = k * x.toInt := by rw [hy, Int.mul_comm]
        show (x * y).toInt = k * x.toInt
        rw [dz_mul_v (by rw [e]; exact h1) (by rw [e]; exact h2), e]
      · rename_i k _
        cases hr
        have hy := dz_cst_eq ha
        refine ⟨_, dz_ok_mul k hb, fun h1 h2 => ?_⟩
        have e : x.toInt * y.toInt = k * y.toInt := by rw [hy]
        show (x * y).toInt = k * y.toInt
        rw [dz_mul_v (by rw [e]; exact h1) (by rw [e]; exact h2), e]
      · cases hr
  case iand =>
    simp only [dz_a2] at hr
    cases hc : Nat.beq c 2 with
    | true =>
      rw [hc] at hr
      simp only [cond_true] at hr
      split at hr
      · cases hp : dz_pf Γ _ b <;> rw [hp] at hr <;> cases hr
      · cases hr
    | false =>
      rw [hc] at hr
      simp only [cond_false] at hr
      cases hc3 : Nat.beq c 3 with
      | true =>
        rw [hc3] at hr
        simp only [cond_true] at hr
        split at hr
        · cases hp : dz_pf Γ _ a <;> rw [hp] at hr <;> cases hr
        · cases hr
      | false => rw [hc3] at hr; cases hr
  case ishl =>
    simp only [dz_a2] at hr
    cases hc : Nat.beq c 1 with
    | false => rw [hc] at hr; cases hr
    | true =>
      rw [hc] at hr
      simp only [cond_true] at hr
      split at hr
      · cases hr
        exact ⟨_, ha, fun _ _ => by show (x <<< (y &&& 31)).toInt = _; rw [(dz_sh0 (dz_cst_eq hb)).1]⟩
      · cases hr
  case ishr =>
    simp only [dz_a2] at hr
    cases hc : Nat.beq c 1 with
    | false => rw [hc] at hr; cases hr
    | true =>
      rw [hc] at hr
      simp only [cond_true] at hr
      split at hr
      · cases hr
        exact ⟨_, ha, fun _ _ => by show (x >>> (y &&& 31)).toInt = _; rw [(dz_sh0 (dz_cst_eq hb)).2]⟩
      · cases hr
  case iushr =>
    simp only [dz_a2] at hr
    cases hc : Nat.beq c 6 with
    | true =>
      rw [hc] at hr
      simp only [cond_true] at hr
      split at hr
      · cases hp : dz_pf Γ _ a <;> rw [hp] at hr <;> cases hr
      · cases hr
    | false =>
      rw [hc] at hr
      simp only [cond_false] at hr
      cases hc7 : Nat.beq c 7 with
      | true =>
        rw [hc7] at hr
        simp only [cond_true] at hr
        split at hr
        · cases hp : dz_pf Γ _ a <;> rw [hp] at hr <;> cases hr
        · cases hr
      | false => rw [hc7] at hr; cases hr
  case idiv =>
    simp only [dz_a2] at hr
    split at hr
    · cases hc : Nat.beq c 4 with
      | true =>
        rw [hc] at hr
        simp only [cond_true] at hr
        split at hr
        · cases hp : dz_pf Γ _ a <;> rw [hp] at hr <;> cases hr
        · cases hr
      | false => rw [hc] at hr; cases hr
    · cases hr
  case irem =>
    simp only [dz_a2] at hr
    split at hr
    · cases hc : Nat.beq c 5 with
      | true =>
        rw [hc] at hr
        simp only [cond_true] at hr
        split at hr
        · cases hp : dz_pf Γ _ a <;> rw [hp] at hr <;> cases hr
        · cases hr
      | false => rw [hc] at hr; cases hr
    · cases hr
  all_goals (exact absurd hr (by simp [dz_a2]))
theorem dz_a2_new {i : Instr} {c : Nat} {q : List dz_Ct} {Γ es : List dz_E} {a b : dz_E} {n : Nat} {x y : Int32} (hΓ : dz_Gm n ρ Γ) (ha : dz_ok n ρ a x.toInt) (hb : dz_ok n ρ b y.toInt) (hr : dz_a2 i c q Γ a b n = some (.inr es)) : dz_all (n + 1) (dz_up ρ n (dz_o2 i x y).toInt) es := by
  have hrg := dz_rg_ok (n := n) (ρ := ρ) (dz_o2 i x y)
  have hv := dz_ok_new (n := n) (ρ := ρ) (dz_o2 i x y).toInt
  have hxa := dz_ok_up (dz_o2 i x y).toInt ha
  have hxb := dz_ok_up (dz_o2 i x y).toInt hb
  cases i
  case iadd =>
    simp only [dz_a2] at hr
    cases hc : Nat.beq c 1 <;> rw [hc] at hr <;> cases hr
    exact hrg
  case isub =>
    simp only [dz_a2] at hr
    cases hc : Nat.beq c 1 <;> rw [hc] at hr <;> cases hr
    exact hrg
  case imul =>
    simp only [dz_a2] at hr
    cases hc : Nat.beq c 1 with
    | false => rw [hc] at hr; cases hr; exact hrg
    | true =>
      rw [hc] at hr
      simp only [cond_true] at hr
      split at hr <;> cases hr
  case iand =>
    simp only [dz_a2] at hr
    cases hc : Nat.beq c 2 with
    | true =>
      rw [hc] at hr
      simp only [cond_true] at hr
      split at hr
      · rename_i ct _
        cases hp : dz_pf Γ ct b with
        | false => rw [hp] at hr; cases hr
        | true =>
          rw [hp] at hr; cases hr
          have h0 := dz_and_r (a := x) (dz_pf_ok hΓ hb hp)
          exact dz_two hv h0.1 (dz_ok_sub hxb hv) (by have := h0.2; show 0 ≤ _ - (x &&& y).toInt; omega)
      · cases hr
    | false =>
      rw [hc] at hr
      simp only [cond_false] at hr
      cases hc3 : Nat.beq c 3 with
      | true =>
        rw [hc3] at hr
        simp only [cond_true] at hr
        split at hr
        · rename_i ct _
          cases hp : dz_pf Γ ct a with
          | false => rw [hp] at hr; cases hr
          | true =>
            rw [hp] at hr; cases hr
            have h0 := dz_and_l (b := y) (dz_pf_ok hΓ ha hp)
            exact dz_two hv h0.1 (dz_ok_sub hxa hv) (by have := h0.2; show 0 ≤ _ - (x &&& y).toInt; omega)
        · cases hr
      | false => rw [hc3] at hr; cases hr; exact hrg
  case ior => cases hr; exact hrg
  case ixor => cases hr; exact hrg
  case ishl =>
    simp only [dz_a2] at hr
    cases hc : Nat.beq c 1 with
    | false => rw [hc] at hr; cases hr; exact hrg
    | true =>
      rw [hc] at hr
      simp only [cond_true] at hr
      split at hr <;> cases hr
  case ishr =>
    simp only [dz_a2] at hr
    cases hc : Nat.beq c 1 with
    | false => rw [hc] at hr; cases hr; exact hrg
    | true =>
      rw [hc] at hr
      simp only [cond_true] at hr
      split at hr <;> cases hr
  case iushr =>
    simp only [dz_a2] at hr
    cases hc : Nat.beq c 6 with
    | true =>
      rw [hc] at hr
      simp only [cond_true] at hr
      split at hr
      · rename_i ct _
        cases hp : dz_pf Γ ct a with
        | false => rw [hp] at hr; cases hr
        | true =>
          rw [hp] at hr; cases hr
          have h0 := dz_pf_ok hΓ ha hp
          have h1 : y.toInt = 1 := dz_cst_eq hb
          have h2 : (dz_o2 .iushr x y).toInt = x.toInt / 2 := dz_ushr1 h0 h1
          refine dz_three hv (by omega) (dz_ok_sub hxa (dz_ok_mul 2 hv)) (by omega) (dz_ok_sub (dz_ok_plus 1 (dz_ok_mul 2 hv)) hxa) (by omega)
      · cases hr
    | false =>
      rw [hc] at hr
      simp only [cond_false] at hr
      cases hc7 : Nat.beq c 7 with
      | true =>
        rw [hc7] at hr
        simp only [cond_true] at hr
        split at hr
        · rename_i ct _
          cases hp : dz_pf Γ ct a with
          | false => rw [hp] at hr; cases hr
          | true =>
            rw [hp] at hr; cases hr
            have h0 := dz_pf_ok hΓ ha hp
            have h1 : y.toInt = 8 := dz_cst_eq hb
            have h2 : (dz_o2 .iushr x y).toInt = x.toInt / 256 := dz_ushr8 h0 h1
            refine dz_three hv (by omega) (dz_ok_sub hxa (dz_ok_mul 256 hv)) (by omega) (dz_ok_sub (dz_ok_plus 255 (dz_ok_mul 256 hv)) hxa) (by omega)
        · cases hr
      | false => rw [hc7] at hr; cases hr; exact hrg
  case idiv =>
    simp only [dz_a2] at hr
    split at hr
    · rename_i k
      cases hc : Nat.beq c 4 with
      | true =>
        rw [hc] at hr
        simp only [cond_true] at hr
        split at hr
        · rename_i ct _
          cases hp : dz_pf Γ ct a with
          | false => rw [hp] at hr; cases hr
          | true =>
            rw [hp] at hr; cases hr
            have h0 := dz_pf_ok hΓ ha hp
            have h1 : y.toInt = ((k + 1 : Nat) : Int) := dz_cst_eq hb
            have h2 : (dz_o2 .idiv x y).toInt = x.toInt / y.toInt := dz_div_v h0 (by omega)
            have h3 := Int.mul_ediv_add_emod x.toInt y.toInt
            have h4 := Int.emod_nonneg x.toInt (b := y.toInt) (by omega)
            have h5 := Int.emod_lt_of_pos x.toInt (b := y.toInt) (by omega)
            have h6 : 0 ≤ x.toInt / y.toInt := Int.ediv_nonneg h0 (by omega)
            have h7 : Int.ofNat (k + 1) = y.toInt := h1.symm
            refine dz_three hv (by omega) (dz_ok_sub hxa (dz_ok_mul (.ofNat (k + 1)) hv)) ?_ (dz_ok_sub (dz_ok_plus (.ofNat k) (dz_ok_mul (.ofNat (k + 1)) hv)) hxa) ?_
            · rw [h7, h2]; omega
            · rw [h7, h2]
              have h8 : Int.ofNat k = y.toInt - 1 := by rw [h1]; show (k : Int) = _; omega
              rw [h8]; omega
        · cases hr
      | false => rw [hc] at hr; cases hr; exact hrg
    · cases hr
  case irem =>
    simp only [dz_a2] at hr
    split at hr
    · rename_i k
      cases hc : Nat.beq c 5 with
      | true =>
        rw [hc] at hr
        simp only [cond_true] at hr
        split at hr
        · rename_i ct _
          cases hp : dz_pf Γ ct a with
          | false => rw [hp] at hr; cases hr
          | true =>
            rw [hp] at hr; cases hr
            have h0 := dz_pf_ok hΓ ha hp
            have h1 : y.toInt = ((k + 1 : Nat) : Int) := dz_cst_eq hb
            have h2 : (dz_o2 .irem x y).toInt = x.toInt % y.toInt := dz_rem_v h0 (by omega)
            have h4 := Int.emod_nonneg x.toInt (b := y.toInt) (by omega)
            have h5 := Int.emod_lt_of_pos x.toInt (b := y.toInt) (by omega)
            have h6 : x.toInt % y.toInt ≤ x.toInt := by
              have a1 := Int.mul_ediv_add_emod x.toInt y.toInt
              have a2 : 0 ≤ y.toInt * (x.toInt / y.toInt) := Int.mul_nonneg (by omega) (Int.ediv_nonneg h0 (by omega))
              omega
            refine dz_three hv (by omega) (dz_ok_sub (dz_ok_cst (.ofNat k)) hv) ?_ (dz_ok_sub hxa hv) (by omega)
            · have h8 : Int.ofNat k = y.toInt - 1 := by rw [h1]; show (k : Int) = _; omega
              rw [h8]; omega
        · cases hr
      | false => rw [hc] at hr; cases hr; exact hrg
    · cases hr
  all_goals (exact absurd hr (by simp [dz_a2]))
end DzAr
