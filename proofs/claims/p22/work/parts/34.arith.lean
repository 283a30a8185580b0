/-! L2, part 5: arithmetic. What is told beside an instruction: a code, certificates, numbers. -/
abbrev dz_Hn : Type := Nat × List dz_Ct × List Nat
theorem dz_bm {x : Int} (h1 : -2147483648 ≤ x) (h2 : x ≤ 2147483647) : x.bmod 4294967296 = x := by
  have h := dz_toInt_i h1 h2
  rw [Int32.toInt_ofInt] at h
  exact h
theorem dz_add_v {a b : Int32} (h1 : -2147483648 ≤ a.toInt + b.toInt) (h2 : a.toInt + b.toInt ≤ 2147483647) : (a + b).toInt = a.toInt + b.toInt := by
  rw [Int32.toInt_add]
  exact dz_bm h1 h2
theorem dz_sub_v {a b : Int32} (h1 : -2147483648 ≤ a.toInt - b.toInt) (h2 : a.toInt - b.toInt ≤ 2147483647) : (a - b).toInt = a.toInt - b.toInt := by
  rw [Int32.toInt_sub]
  exact dz_bm h1 h2
theorem dz_mul_v {a b : Int32} (h1 : -2147483648 ≤ a.toInt * b.toInt) (h2 : a.toInt * b.toInt ≤ 2147483647) : (a * b).toInt = a.toInt * b.toInt := by
  rw [Int32.toInt_mul]
  exact dz_bm h1 h2
theorem dz_neg_v {a : Int32} (h1 : -2147483648 ≤ -a.toInt) (h2 : -a.toInt ≤ 2147483647) : (-a).toInt = -a.toInt := by
  rw [Int32.toInt_neg]
  exact dz_bm h1 h2
theorem dz_rg_v (a : Int32) : -2147483648 ≤ a.toInt ∧ a.toInt ≤ 2147483647 := by
  have h1 := Int32.le_toInt a
  have h2 := Int32.toInt_lt a
  exact ⟨h1, by omega⟩
theorem dz_bv_nn {x : BitVec 32} (h : 0 ≤ x.toInt) : x.toInt = (x.toNat : Int) ∧ x.toNat < 2147483648 := by
  have := x.isLt
  rw [BitVec.toInt_eq_toNat_cond] at h ⊢
  split at h
  · rename_i hh
    rw [if_pos hh]
    exact ⟨rfl, by omega⟩
  · omega
theorem dz_bv_lt {x : BitVec 32} (h : x.toNat < 2147483648) : x.toInt = (x.toNat : Int) := by
  rw [BitVec.toInt_eq_toNat_cond, if_pos (by omega)]
theorem dz_and_r {a b : Int32} (hb : 0 ≤ b.toInt) : 0 ≤ (a &&& b).toInt ∧ (a &&& b).toInt ≤ b.toInt := by
  have h1 := dz_bv_nn (x := b.toBitVec) hb
  have h2 : (a &&& b).toBitVec.toNat ≤ b.toBitVec.toNat := by
    rw [Int32.toBitVec_and, BitVec.toNat_and]
    exact Nat.and_le_right
  have h3 := dz_bv_lt (x := (a &&& b).toBitVec) (by omega)
  have e1 : (a &&& b).toInt = (a &&& b).toBitVec.toInt := rfl
  have e2 : b.toInt = b.toBitVec.toInt := rfl
  omega
theorem dz_and_l {a b : Int32} (ha : 0 ≤ a.toInt) : 0 ≤ (a &&& b).toInt ∧ (a &&& b).toInt ≤ a.toInt := by
  have h1 := dz_bv_nn (x := a.toBitVec) ha
  have h2 : (a &&& b).toBitVec.toNat ≤ a.toBitVec.toNat := by
    rw [Int32.toBitVec_and, BitVec.toNat_and]
    exact Nat.and_le_left
  have h3 := dz_bv_lt (x := (a &&& b).toBitVec) (by omega)
  have e1 : (a &&& b).toInt = (a &&& b).toBitVec.toInt := rfl
  have e2 : a.toInt = a.toBitVec.toInt := rfl
  omega
theorem dz_ushr1 {a b : Int32} (ha : 0 ≤ a.toInt) (hb : b.toInt = 1) : ((a.toUInt32 >>> (b.toUInt32 &&& Int32.toUInt32 31)).toInt32).toInt = a.toInt / 2 := by
  have hb1 : b = 1 := Int32.toInt_inj.mp (by rw [hb]; rfl)
  subst hb1
  have h1 := dz_bv_nn (x := a.toBitVec) ha
  have e : ((a.toUInt32 >>> (Int32.toUInt32 1 &&& Int32.toUInt32 31)).toInt32).toBitVec = a.toBitVec >>> 1 := rfl
  have e2 : (a.toBitVec >>> 1).toNat = a.toBitVec.toNat / 2 := by
    rw [BitVec.toNat_ushiftRight, Nat.shiftRight_eq_div_pow]
  have h3 := dz_bv_lt (x := a.toBitVec >>> 1) (by omega)
  have e3 : ((a.toUInt32 >>> (Int32.toUInt32 1 &&& Int32.toUInt32 31)).toInt32).toInt = (a.toBitVec >>> 1).toInt := rfl
  have e4 : a.toInt = a.toBitVec.toInt := rfl
  rw [e3, h3, e2, e4, h1.1]
  omega
theorem dz_ushr8 {a b : Int32} (ha : 0 ≤ a.toInt) (hb : b.toInt = 8) : ((a.toUInt32 >>> (b.toUInt32 &&& Int32.toUInt32 31)).toInt32).toInt = a.toInt / 256 := by
  have hb1 : b = 8 := Int32.toInt_inj.mp (by rw [hb]; rfl)
  subst hb1
  have h1 := dz_bv_nn (x := a.toBitVec) ha
  have e2 : (a.toBitVec >>> 8).toNat = a.toBitVec.toNat / 256 := by
    rw [BitVec.toNat_ushiftRight, Nat.shiftRight_eq_div_pow]
  have h3 := dz_bv_lt (x := a.toBitVec >>> 8) (by omega)
  have e3 : ((a.toUInt32 >>> (Int32.toUInt32 8 &&& Int32.toUInt32 31)).toInt32).toInt = (a.toBitVec >>> 8).toInt := rfl
  have e4 : a.toInt = a.toBitVec.toInt := rfl
  rw [e3, h3, e2, e4, h1.1]
  omega
theorem dz_sh0 {a b : Int32} (hb : b.toInt = 0) : a <<< (b &&& 31) = a ∧ a >>> (b &&& 31) = a := by
  have hb1 : b = 0 := Int32.toInt_inj.mp (by rw [hb]; rfl)
  subst hb1
  have e : (0 : Int32) &&& 31 = 0 := by decide
  rw [e]
  exact ⟨Int32.shiftLeft_zero, Int32.shiftRight_zero⟩
theorem dz_div_v {a b : Int32} (ha : 0 ≤ a.toInt) (hb : 0 < b.toInt) : (a / b).toInt = a.toInt / b.toInt := by
  have h1 := dz_rg_v a
  have h2 : a.toInt / b.toInt ≤ a.toInt := Int.ediv_le_self _ ha
  have h3 : 0 ≤ a.toInt / b.toInt := Int.ediv_nonneg ha (by omega)
  rw [Int32.toInt_div, Int.tdiv_eq_ediv_of_nonneg ha]
  exact dz_bm (by omega) (by omega)
theorem dz_rem_v {a b : Int32} (ha : 0 ≤ a.toInt) (hb : 0 < b.toInt) : (a - a / b * b).toInt = a.toInt % b.toInt := by
  have h1 := dz_rg_v a
  have h2 := dz_div_v ha hb
  have h3 := Int.emod_nonneg a.toInt (b := b.toInt) (by omega)
  have h4 := Int.mul_ediv_add_emod a.toInt b.toInt
  have h5 : a.toInt / b.toInt * b.toInt = b.toInt * (a.toInt / b.toInt) := Int.mul_comm _ _
  have h6 : 0 ≤ b.toInt * (a.toInt / b.toInt) := Int.mul_nonneg (by omega) (Int.ediv_nonneg ha (by omega))
  have h7 : (a / b * b).toInt = a.toInt / b.toInt * b.toInt := by
    rw [dz_mul_v (by rw [h2]; omega) (by rw [h2]; omega), h2]
  rw [dz_sub_v (by rw [h7]; omega) (by rw [h7]; omega), h7]
  omega
/-- an unknown that is an int -/
def dz_rg (n : Nat) : List dz_E := [(2147483648, [(n, 1)]), (2147483647, [(n, -1)])]
def dz_bd (n : Nat) (lo hi : Int) : List dz_E := [(-lo, [(n, 1)]), (hi, [(n, -1)])]
/-- each is at least 0 -/
def dz_all (n : Nat) (ρ : Nat → Int) (es : List dz_E) : Prop := ∀ e ∈ es, ∃ x, 0 ≤ x ∧ dz_ok n ρ e x
theorem dz_bd_ok {n : Nat} {ρ : Nat → Int} {lo hi v : Int} (h1 : lo ≤ v) (h2 : v ≤ hi) : dz_all (n + 1) (dz_up ρ n v) (dz_bd n lo hi) := by
  have hv : dz_up ρ n v n = v := by unfold dz_up; rw [if_pos rfl]
  intro e he
  simp only [dz_bd, List.mem_cons, List.not_mem_nil, or_false] at he
  rcases he with rfl | rfl
  · refine ⟨v - lo, by omega, fun t ht => by rw [List.mem_singleton.mp ht]; exact Nat.lt_succ_self n, ?_⟩
    show -lo + (1 * dz_up ρ n v n + 0) = v - lo
    rw [hv]; omega
  · refine ⟨hi - v, by omega, fun t ht => by rw [List.mem_singleton.mp ht]; exact Nat.lt_succ_self n, ?_⟩
    show hi + (-1 * dz_up ρ n v n + 0) = hi - v
    rw [hv]; omega
theorem dz_rg_ok {n : Nat} {ρ : Nat → Int} (a : Int32) : dz_all (n + 1) (dz_up ρ n a.toInt) (dz_rg n) := by
  have h := dz_rg_v a
  have := dz_bd_ok (n := n) (ρ := ρ) h.1 h.2
  exact this
/-- a new unknown on the stack -/
noncomputable def dz_nu (S : dz_S) (es : List dz_E) (r : List dz_A) (k t : Nat) : dz_S := dz_fn (Nat.add S.1 1) (fun m => (m, es ++ S.2.1, S.2.2.1, (k, dz_var S.1, t) :: r, S.2.2.2.2))
section DzAr
variable {T : dz_TT} {X : dz_X} {S S' : dz_S} {ρ : Nat → Int} {τ : Nat → Nat} {h : cz_H} {L : List (Nat × cz_V)} {st w : List cz_V} {nL : Nat}
theorem dz_Gm.app {n : Nat} {ρ : Nat → Int} {Γ es : List dz_E} (hG : dz_Gm n ρ Γ) (he : dz_all n ρ es) : dz_Gm n ρ (es ++ Γ) := fun c hc => by
  rcases List.mem_append.mp hc with hc | hc
  · exact he c hc
  · exact hG c hc
theorem dz_G.nu (hG : dz_G T X S ρ τ h L st) {r : List dz_A} (hr : dz_so S.1 ρ τ r w) {es : List dz_E} {k t : Nat} {v : cz_V} (hk : dz_k v = k) (ht : dz_tg τ t v) (he : dz_all (S.1 + 1) (dz_up ρ S.1 (dz_n v)) es) :
    dz_G T X (dz_nu S es r k t) (dz_up ρ S.1 (dz_n v)) τ h L (v :: w) ∧ dz_ext S.1 ρ (dz_nu S es r k t).1 (dz_up ρ S.1 (dz_n v)) := by
  have hx := dz_ext.up S.1 ρ (dz_n v)
  have h1 := hG.ext hx
  refine ⟨⟨h1.1.app he, h1.2.1, ⟨⟨hk, dz_ok_new _, ht⟩, hr.ext hx⟩, h1.2.2.2⟩, hx⟩
/-- an operation of two ints: a number, or a new unknown of which something is known -/
noncomputable def dz_a2 (i : Instr) (c : Nat) (q : List dz_Ct) (Γ : List dz_E) (a b : dz_E) (n : Nat) : Option (dz_E ⊕ List dz_E) := match i with
  | .iadd => bif Nat.beq c 1 then some (.inl (dz_add a b)) else some (.inr (dz_rg n))
  | .isub => bif Nat.beq c 1 then some (.inl (dz_sub a b)) else some (.inr (dz_rg n))
  | .imul => bif Nat.beq c 1 then (match a, b with
      | a, (k, []) => some (.inl (dz_mul k a))
      | (k, []), b => some (.inl (dz_mul k b))
      | _, _ => none) else some (.inr (dz_rg n))
  | .iand => bif Nat.beq c 2 then (match q with
      | ct :: _ => bif dz_pf Γ ct b then some (.inr [dz_var n, dz_sub b (dz_var n)]) else none
      | [] => none) else bif Nat.beq c 3 then (match q with
      | ct :: _ => bif dz_pf Γ ct a then some (.inr [dz_var n, dz_sub a (dz_var n)]) else none
      | [] => none) else some (.inr (dz_rg n))
  | .ior => some (.inr (dz_rg n))
  | .ixor => some (.inr (dz_rg n))
  | .ishl => bif Nat.beq c 1 then (match b with
      | (.ofNat 0, []) => some (.inl a)
      | _ => none) else some (.inr (dz_rg n))
  | .ishr => bif Nat.beq c 1 then (match b with
      | (.ofNat 0, []) => some (.inl a)
      | _ => none) else some (.inr (dz_rg n))
  | .iushr => bif Nat.beq c 6 then (match q, b with
      | ct :: _, (.ofNat 1, []) => bif dz_pf Γ ct a then some (.inr [dz_var n, dz_sub a (dz_mul 2 (dz_var n)), dz_sub (dz_plus (dz_mul 2 (dz_var n)) 1) a]) else none
      | _, _ => none) else bif Nat.beq c 7 then (match q, b with
      | ct :: _, (.ofNat 8, []) => bif dz_pf Γ ct a then some (.inr [dz_var n, dz_sub a (dz_mul 256 (dz_var n)), dz_sub (dz_plus (dz_mul 256 (dz_var n)) 255) a]) else none
      | _, _ => none) else some (.inr (dz_rg n))
  | .idiv => (match b with
      | (.ofNat (k + 1), []) => bif Nat.beq c 4 then (match q with
        | ct :: _ => bif dz_pf Γ ct a then some (.inr [dz_var n, dz_sub a (dz_mul (.ofNat (k + 1)) (dz_var n)), dz_sub (dz_plus (dz_mul (.ofNat (k + 1)) (dz_var n)) (.ofNat k)) a]) else none
        | [] => none) else some (.inr (dz_rg n))
      | _ => none)
  | .irem => (match b with
      | (.ofNat (k + 1), []) => bif Nat.beq c 5 then (match q with
        | ct :: _ => bif dz_pf Γ ct a then some (.inr [dz_var n, dz_sub (dz_cst (.ofNat k)) (dz_var n), dz_sub a (dz_var n)]) else none
        | [] => none) else some (.inr (dz_rg n))
      | _ => none)
  | _ => none
/-- what the machine does -/
def dz_o2 (i : Instr) (a b : Int32) : Int32 := match i with
  | .iadd => a + b
  | .isub => a - b
  | .imul => a * b
  | .iand => a &&& b
  | .ior => a ||| b
  | .ixor => a ^^^ b
  | .ishl => a <<< (b &&& 31)
  | .ishr => a >>> (b &&& 31)
  | .iushr => (a.toUInt32 >>> (b.toUInt32 &&& Int32.toUInt32 31)).toInt32
  | .idiv => a / b
  | .irem => a - a / b * b
  | _ => 0
theorem dz_two {n : Nat} {ρ : Nat → Int} {e1 e2 : dz_E} {x y : Int} (h1 : dz_ok n ρ e1 x) (h2 : 0 ≤ x) (h3 : dz_ok n ρ e2 y) (h4 : 0 ≤ y) : dz_all n ρ [e1, e2] := by
  intro e he
  simp only [List.mem_cons, List.not_mem_nil, or_false] at he
  rcases he with rfl | rfl
  · exact ⟨x, h2, h1⟩
  · exact ⟨y, h4, h3⟩
theorem dz_three {n : Nat} {ρ : Nat → Int} {e1 e2 e3 : dz_E} {x y z : Int} (h1 : dz_ok n ρ e1 x) (h2 : 0 ≤ x) (h3 : dz_ok n ρ e2 y) (h4 : 0 ≤ y) (h5 : dz_ok n ρ e3 z) (h6 : 0 ≤ z) : dz_all n ρ [e1, e2, e3] := by
  intro e he
  simp only [List.mem_cons, List.not_mem_nil, or_false] at he
  rcases he with rfl | rfl | rfl
  · exact ⟨x, h2, h1⟩
  · exact ⟨y, h4, h3⟩
  · exact ⟨z, h6, h5⟩
theorem dz_cst_eq {n : Nat} {ρ : Nat → Int} {k x : Int} (h : dz_ok n ρ (k, []) x) : x = k := by
  have h2 : k + 0 = x := h.2
  omega
/-- the linear ones are right where they are ints -/
theorem dz_a2_lin {i : Instr} {c : Nat} {q : List dz_Ct} {Γ : List dz_E} {a b e : dz_E} {n : Nat} {x y : Int32} (ha : dz_ok n ρ a x.toInt) (hb : dz_ok n ρ b y.toInt) (hr : dz_a2 i c q Γ a b n = some (.inl e)) : ∃ z, dz_ok n ρ e z ∧ (-2147483648 ≤ z → z ≤ 2147483647 → (dz_o2 i x y).toInt = z) := by
  cases i
  case iadd =>
    simp only [dz_a2] at hr
    cases hc : Nat.beq c 1 with
    | false => rw [hc] at hr; cases hr
    | true =>
      rw [hc] at hr; cases hr
      exact ⟨_, dz_ok_add ha hb, fun h1 h2 => dz_add_v h1 h2⟩
  case isub =>
    simp only [dz_a2] at hr
    cases hc : Nat.beq c 1 with
    | false => rw [hc] at hr; cases hr
    | true =>
      rw [hc] at hr; cases hr
      exact ⟨_, dz_ok_sub ha hb, fun h1 h2 => dz_sub_v h1 h2⟩
  case imul =>
    simp only [dz_a2] at hr
    cases hc : Nat.beq c 1 with
    | false => rw [hc] at hr; cases hr
    | true =>
      rw [hc] at hr
      simp only [cond_true] at hr
      split at hr
      · rename_i k
        cases hr
        have hy := dz_cst_eq hb
        refine ⟨_, dz_ok_mul k ha, fun h1 h2 => ?_⟩
        have e : x.toInt * y.toInt = k * x.toInt := by rw [hy, Int.mul_comm]
        show (x * y).toInt = k * x.toInt
        rw [dz_mul_v (by rw [e]; exact h1) (by rw [e]; exact h2), e]
      · rename_i k _
        cases hr
        have hy := dz_cst_eq ha
        refine ⟨_, dz_ok_mul k hb, fun h1 h2 => ?_⟩
        have e : x.toInt * y.toInt = k * y.toInt := by rw [hy]
        show (x * y).toInt = k * y.toInt
        rw [dz_mul_v (by rw [e]; exact h1) (by rw [e]; exact h2), e]
      · cases hr
  case iand =>
    simp only [dz_a2] at hr
    cases hc : Nat.beq c 2 with
    | true =>
      rw [hc] at hr
      simp only [cond_true] at hr
      split at hr
      · cases hp : dz_pf Γ _ b <;> rw [hp] at hr <;> cases hr
      · cases hr
    | false =>
      rw [hc] at hr
      simp only [cond_false] at hr
      cases hc3 : Nat.beq c 3 with
      | true =>
        rw [hc3] at hr
        simp only [cond_true] at hr
        split at hr
        · cases hp : dz_pf Γ _ a <;> rw [hp] at hr <;> cases hr
        · cases hr
      | false => rw [hc3] at hr; cases hr
  case ishl =>
    simp only [dz_a2] at hr
    cases hc : Nat.beq c 1 with
    | false => rw [hc] at hr; cases hr
    | true =>
      rw [hc] at hr
      simp only [cond_true] at hr
      split at hr
      · cases hr
        exact ⟨_, ha, fun _ _ => by show (x <<< (y &&& 31)).toInt = _; rw [(dz_sh0 (dz_cst_eq hb)).1]⟩
      · cases hr
  case ishr =>
    simp only [dz_a2] at hr
    cases hc : Nat.beq c 1 with
    | false => rw [hc] at hr; cases hr
    | true =>
      rw [hc] at hr
      simp only [cond_true] at hr
      split at hr
      · cases hr
        exact ⟨_, ha, fun _ _ => by show (x >>> (y &&& 31)).toInt = _; rw [(dz_sh0 (dz_cst_eq hb)).2]⟩
      · cases hr
  case iushr =>
    simp only [dz_a2] at hr
    cases hc : Nat.beq c 6 with
    | true =>
      rw [hc] at hr
      simp only [cond_true] at hr
      split at hr
      · cases hp : dz_pf Γ _ a <;> rw [hp] at hr <;> cases hr
      · cases hr
    | false =>
      rw [hc] at hr
      simp only [cond_false] at hr
      cases hc7 : Nat.beq c 7 with
      | true =>
        rw [hc7] at hr
        simp only [cond_true] at hr
        split at hr
        · cases hp : dz_pf Γ _ a <;> rw [hp] at hr <;> cases hr
        · cases hr
      | false => rw [hc7] at hr; cases hr
  case idiv =>
    simp only [dz_a2] at hr
    split at hr
    · cases hc : Nat.beq c 4 with
      | true =>
        rw [hc] at hr
        simp only [cond_true] at hr
        split at hr
        · cases hp : dz_pf Γ _ a <;> rw [hp] at hr <;> cases hr
        · cases hr
      | false => rw [hc] at hr; cases hr
    · cases hr
  case irem =>
    simp only [dz_a2] at hr
    split at hr
    · cases hc : Nat.beq c 5 with
      | true =>
        rw [hc] at hr
        simp only [cond_true] at hr
        split at hr
        · cases hp : dz_pf Γ _ a <;> rw [hp] at hr <;> cases hr
        · cases hr
      | false => rw [hc] at hr; cases hr
    · cases hr
  all_goals (exact absurd hr (by simp [dz_a2]))
theorem dz_a2_new {i : Instr} {c : Nat} {q : List dz_Ct} {Γ es : List dz_E} {a b : dz_E} {n : Nat} {x y : Int32} (hΓ : dz_Gm n ρ Γ) (ha : dz_ok n ρ a x.toInt) (hb : dz_ok n ρ b y.toInt) (hr : dz_a2 i c q Γ a b n = some (.inr es)) : dz_all (n + 1) (dz_up ρ n (dz_o2 i x y).toInt) es := by
  have hrg := dz_rg_ok (n := n) (ρ := ρ) (dz_o2 i x y)
  have hv := dz_ok_new (n := n) (ρ := ρ) (dz_o2 i x y).toInt
  have hxa := dz_ok_up (dz_o2 i x y).toInt ha
  have hxb := dz_ok_up (dz_o2 i x y).toInt hb
  cases i
  case iadd =>
    simp only [dz_a2] at hr
    cases hc : Nat.beq c 1 <;> rw [hc] at hr <;> cases hr
    exact hrg
  case isub =>
    simp only [dz_a2] at hr
    cases hc : Nat.beq c 1 <;> rw [hc] at hr <;> cases hr
    exact hrg
  case imul =>
    simp only [dz_a2] at hr
    cases hc : Nat.beq c 1 with
    | false => rw [hc] at hr; cases hr; exact hrg
    | true =>
      rw [hc] at hr
      simp only [cond_true] at hr
      split at hr <;> cases hr
  case iand =>
    simp only [dz_a2] at hr
    cases hc : Nat.beq c 2 with
    | true =>
      rw [hc] at hr
      simp only [cond_true] at hr
      split at hr
      · rename_i ct _
        cases hp : dz_pf Γ ct b with
        | false => rw [hp] at hr; cases hr
        | true =>
          rw [hp] at hr; cases hr
          have h0 := dz_and_r (a := x) (dz_pf_ok hΓ hb hp)
          exact dz_two hv h0.1 (dz_ok_sub hxb hv) (by have := h0.2; show 0 ≤ _ - (x &&& y).toInt; omega)
      · cases hr
    | false =>
      rw [hc] at hr
      simp only [cond_false] at hr
      cases hc3 : Nat.beq c 3 with
      | true =>
        rw [hc3] at hr
        simp only [cond_true] at hr
        split at hr
        · rename_i ct _
          cases hp : dz_pf Γ ct a with
          | false => rw [hp] at hr; cases hr
          | true =>
            rw [hp] at hr; cases hr
            have h0 := dz_and_l (b := y) (dz_pf_ok hΓ ha hp)
            exact dz_two hv h0.1 (dz_ok_sub hxa hv) (by have := h0.2; show 0 ≤ _ - (x &&& y).toInt; omega)
        · cases hr
      | false => rw [hc3] at hr; cases hr; exact hrg
  case ior => cases hr; exact hrg
  case ixor => cases hr; exact hrg
  case ishl =>
    simp only [dz_a2] at hr
    cases hc : Nat.beq c 1 with
    | false => rw [hc] at hr; cases hr; exact hrg
    | true =>
      rw [hc] at hr
      simp only [cond_true] at hr
      split at hr <;> cases hr
  case ishr =>
    simp only [dz_a2] at hr
    cases hc : Nat.beq c 1 with
    | false => rw [hc] at hr; cases hr; exact hrg
    | true =>
      rw [hc] at hr
      simp only [cond_true] at hr
      split at hr <;> cases hr
  case iushr =>
    simp only [dz_a2] at hr
    cases hc : Nat.beq c 6 with
    | true =>
      rw [hc] at hr
      simp only [cond_true] at hr
      split at hr
      · rename_i ct _
        cases hp : dz_pf Γ ct a with
        | false => rw [hp] at hr; cases hr
        | true =>
          rw [hp] at hr; cases hr
          have h0 := dz_pf_ok hΓ ha hp
          have h1 : y.toInt = 1 := dz_cst_eq hb
          have h2 : (dz_o2 .iushr x y).toInt = x.toInt / 2 := dz_ushr1 h0 h1
          refine dz_three hv (by omega) (dz_ok_sub hxa (dz_ok_mul 2 hv)) (by omega) (dz_ok_sub (dz_ok_plus 1 (dz_ok_mul 2 hv)) hxa) (by omega)
      · cases hr
    | false =>
      rw [hc] at hr
      simp only [cond_false] at hr
      cases hc7 : Nat.beq c 7 with
      | true =>
        rw [hc7] at hr
        simp only [cond_true] at hr
        split at hr
        · rename_i ct _
          cases hp : dz_pf Γ ct a with
          | false => rw [hp] at hr; cases hr
          | true =>
            rw [hp] at hr; cases hr
            have h0 := dz_pf_ok hΓ ha hp
            have h1 : y.toInt = 8 := dz_cst_eq hb
            have h2 : (dz_o2 .iushr x y).toInt = x.toInt / 256 := dz_ushr8 h0 h1
            refine dz_three hv (by omega) (dz_ok_sub hxa (dz_ok_mul 256 hv)) (by omega) (dz_ok_sub (dz_ok_plus 255 (dz_ok_mul 256 hv)) hxa) (by omega)
        · cases hr
      | false => rw [hc7] at hr; cases hr; exact hrg
  case idiv =>
    simp only [dz_a2] at hr
    split at hr
    · rename_i k
      cases hc : Nat.beq c 4 with
      | true =>
        rw [hc] at hr
        simp only [cond_true] at hr
        split at hr
        · rename_i ct _
          cases hp : dz_pf Γ ct a with
          | false => rw [hp] at hr; cases hr
          | true =>
            rw [hp] at hr; cases hr
            have h0 := dz_pf_ok hΓ ha hp
            have h1 : y.toInt = ((k + 1 : Nat) : Int) := dz_cst_eq hb
            have h2 : (dz_o2 .idiv x y).toInt = x.toInt / y.toInt := dz_div_v h0 (by omega)
            have h3 := Int.mul_ediv_add_emod x.toInt y.toInt
            have h4 := Int.emod_nonneg x.toInt (b := y.toInt) (by omega)
            have h5 := Int.emod_lt_of_pos x.toInt (b := y.toInt) (by omega)
            have h6 : 0 ≤ x.toInt / y.toInt := Int.ediv_nonneg h0 (by omega)
            have h7 : Int.ofNat (k + 1) = y.toInt := h1.symm
            refine dz_three hv (by omega) (dz_ok_sub hxa (dz_ok_mul (.ofNat (k + 1)) hv)) ?_ (dz_ok_sub (dz_ok_plus (.ofNat k) (dz_ok_mul (.ofNat (k + 1)) hv)) hxa) ?_
            · rw [h7, h2]; omega
            · rw [h7, h2]
              have h8 : Int.ofNat k = y.toInt - 1 := by rw [h1]; show (k : Int) = _; omega
              rw [h8]; omega
        · cases hr
      | false => rw [hc] at hr; cases hr; exact hrg
    · cases hr
  case irem =>
    simp only [dz_a2] at hr
    split at hr
    · rename_i k
      cases hc : Nat.beq c 5 with
      | true =>
        rw [hc] at hr
        simp only [cond_true] at hr
        split at hr
        · rename_i ct _
          cases hp : dz_pf Γ ct a with
          | false => rw [hp] at hr; cases hr
          | true =>
            rw [hp] at hr; cases hr
            have h0 := dz_pf_ok hΓ ha hp
            have h1 : y.toInt = ((k + 1 : Nat) : Int) := dz_cst_eq hb
            have h2 : (dz_o2 .irem x y).toInt = x.toInt % y.toInt := dz_rem_v h0 (by omega)
            have h4 := Int.emod_nonneg x.toInt (b := y.toInt) (by omega)
            have h5 := Int.emod_lt_of_pos x.toInt (b := y.toInt) (by omega)
            have h6 : x.toInt % y.toInt ≤ x.toInt := by
              have a1 := Int.mul_ediv_add_emod x.toInt y.toInt
              have a2 : 0 ≤ y.toInt * (x.toInt / y.toInt) := Int.mul_nonneg (by omega) (Int.ediv_nonneg h0 (by omega))
              omega
            refine dz_three hv (by omega) (dz_ok_sub (dz_ok_cst (.ofNat k)) hv) ?_ (dz_ok_sub hxa hv) (by omega)
            · have h8 : Int.ofNat k = y.toInt - 1 := by rw [h1]; show (k : Int) = _; omega
              rw [h8]; omega
        · cases hr
      | false => rw [hc] at hr; cases hr; exact hrg
    · cases hr
  all_goals (exact absurd hr (by simp [dz_a2]))
end DzAr
/-! L2, part 6: arithmetic, the instructions. -/
section DzAr2
variable {T : dz_TT} {X : dz_X} {S S' : dz_S} {ρ : Nat → Int} {τ : Nat → Nat} {h : cz_H} {L : List (Nat × cz_V)} {st w : List cz_V} {nL : Nat}
theorem dz_pure2 {i : Instr} {c : Nat} {q : List dz_Ct} {Γ : List dz_E} {a b : dz_E} {n : Nat} {x y : Int32} {z : dz_E ⊕ List dz_E} (hb : dz_ok n ρ b y.toInt) (hr : dz_a2 i c q Γ a b n = some z) : cz_pure i nL L (.inl y :: .inl x :: w) = some (L, .inl (dz_o2 i x y) :: w) := by
  cases i
  case idiv =>
    simp only [dz_a2] at hr
    split at hr
    · rename_i k
      have h1 : y.toInt = ((k + 1 : Nat) : Int) := dz_cst_eq hb
      have h2 : decide (y = 0) = false := decide_eq_false (fun e => by rw [e] at h1; have : (0 : Int) = ((k + 1 : Nat) : Int) := h1; omega)
      show (bif decide (y = 0) then none else some (L, .inl (x / y) :: w)) = _
      rw [h2]; rfl
    · cases hr
  case irem =>
    simp only [dz_a2] at hr
    split at hr
    · rename_i k
      have h1 : y.toInt = ((k + 1 : Nat) : Int) := dz_cst_eq hb
      have h2 : decide (y = 0) = false := decide_eq_false (fun e => by rw [e] at h1; have : (0 : Int) = ((k + 1 : Nat) : Int) := h1; omega)
      show (bif decide (y = 0) then none else some (L, .inl (x - x / y * y) :: w)) = _
      rw [h2]; rfl
    · cases hr
  case iadd => rfl
  case isub => rfl
  case imul => rfl
  case iand => rfl
  case ior => rfl
  case ixor => rfl
  case ishl => rfl
  case ishr => rfl
  case iushr => rfl
  all_goals (exact absurd hr (by simp [dz_a2]))
/-- an int, told to be one -/
noncomputable def dz_inI (Γ : List dz_E) (q : List dz_Ct) (e : dz_E) : Bool := match q with
  | c0 :: c1 :: _ => dz_pf Γ c0 (dz_plus e 2147483648) && dz_pf Γ c1 (dz_sub (dz_cst 2147483647) e)
  | _ => false
theorem dz_inI_ok {n : Nat} {Γ : List dz_E} {q : List dz_Ct} {e : dz_E} {z : Int} (hΓ : dz_Gm n ρ Γ) (he : dz_ok n ρ e z) (hi : dz_inI Γ q e = true) : -2147483648 ≤ z ∧ z ≤ 2147483647 := by
  unfold dz_inI at hi
  split at hi
  · simp only [Bool.and_eq_true] at hi
    have h1 := dz_pf_ok hΓ (dz_ok_plus 2147483648 he) hi.1
    have h2 := dz_pf_ok hΓ (dz_ok_sub (dz_ok_cst 2147483647) he) hi.2
    omega
  · cases hi
noncomputable def dz_b2 (i : Instr) (hn : dz_Hn) (S : dz_S) : Option dz_S := match S.2.2.2.1 with
  | b :: a :: r => bif Nat.beq a.1 0 && Nat.beq b.1 0 then (match dz_a2 i hn.1 hn.2.1 S.2.1 a.2.1 b.2.1 S.1 with
    | some (.inl e) => bif dz_inI S.2.1 hn.2.1 e then some (dz_stk S ((0, e, 0) :: r)) else none
    | some (.inr es) => some (dz_nu S es r 0 0)
    | none => none) else none
  | _ => none
theorem dz_b2_ok (hG : dz_G T X S ρ τ h L st) {i : Instr} {hn : dz_Hn} (hp : dz_b2 i hn S = some S') : ∃ q ρ', cz_pure i nL L st = some q ∧ dz_G T X S' ρ' τ h q.1 q.2 ∧ dz_ext S.1 ρ S'.1 ρ' := by
  have hs := hG.2.2.1
  unfold dz_b2 at hp
  split at hp
  · rename_i b a r he
    rw [he] at hs
    obtain ⟨v2, w, rfl, hb, h2⟩ := hs.inv
    obtain ⟨v1, w, rfl, ha, h4⟩ := h2.inv
    cases hk : (Nat.beq a.1 0 && Nat.beq b.1 0) with
    | false => rw [hk] at hp; cases hp
    | true =>
      rw [hk] at hp
      simp only [Bool.and_eq_true] at hk
      obtain ⟨x, rfl, hx⟩ := ha.int hk.1
      obtain ⟨y, rfl, hy⟩ := hb.int hk.2
      simp only [cond_true] at hp
      split at hp
      · rename_i e hr
        cases hi : dz_inI S.2.1 hn.2.1 e with
        | false => rw [hi] at hp; cases hp
        | true =>
          rw [hi] at hp; cases hp
          obtain ⟨z, hz, hzz⟩ := dz_a2_lin hx hy hr
          have hb := dz_inI_ok hG.1 hz hi
          refine ⟨_, ρ, dz_pure2 hy hr, hG.stack ⟨⟨rfl, ?_, fun r hr => by cases hr⟩, h4⟩, dz_ext.refl _ _⟩
          show dz_ok S.1 ρ e (dz_o2 i x y).toInt
          rw [hzz hb.1 hb.2]
          exact hz
      · rename_i es hr
        cases hp
        obtain ⟨h5, h6⟩ := hG.nu h4 (v := .inl (dz_o2 i x y)) (k := 0) (t := 0) rfl (fun r hr => by cases hr) (dz_a2_new hG.1 hx hy hr)
        exact ⟨_, _, dz_pure2 hy hr, h5, h6⟩
      · cases hp
  · cases hp
/-- of one int or long -/
noncomputable def dz_u1 (i : Instr) (hn : dz_Hn) (S : dz_S) : Option dz_S := match S.2.2.2.1 with
  | a :: r => (match i with
    | .ineg => bif Nat.beq a.1 0 then (bif Nat.beq hn.1 1 then (bif dz_inI S.2.1 hn.2.1 (dz_mul (-1) a.2.1) then some (dz_stk S ((0, dz_mul (-1) a.2.1, 0) :: r)) else none) else some (dz_nu S (dz_rg S.1) r 0 0)) else none
    | .i2b => bif Nat.beq a.1 0 then (bif Nat.beq hn.1 1 then (match hn.2.1 with
        | c0 :: c1 :: _ => bif dz_pf S.2.1 c0 (dz_plus a.2.1 128) && dz_pf S.2.1 c1 (dz_sub (dz_cst 127) a.2.1) then some S else none
        | _ => none) else some (dz_nu S (dz_bd S.1 (-128) 127) r 0 0)) else none
    | .i2c => bif Nat.beq a.1 0 then (bif Nat.beq hn.1 1 then (match hn.2.1 with
        | c0 :: c1 :: _ => bif dz_pf S.2.1 c0 a.2.1 && dz_pf S.2.1 c1 (dz_sub (dz_cst 65535) a.2.1) then some S else none
        | _ => none) else some (dz_nu S (dz_bd S.1 0 65535) r 0 0)) else none
    | .l2i => bif Nat.beq a.1 2 then some (dz_nu S (dz_rg S.1) r 0 0) else none
    | _ => none)
  | _ => none
theorem dz_i2b_v (x : Int32) : -128 ≤ x.toInt8.toInt32.toInt ∧ x.toInt8.toInt32.toInt ≤ 127 := by
  rw [Int8.toInt_toInt32]
  have h1 := Int8.le_toInt x.toInt8
  have h2 := Int8.toInt_lt x.toInt8
  exact ⟨h1, by omega⟩
theorem dz_i2b_s {x : Int32} (h1 : -128 ≤ x.toInt) (h2 : x.toInt ≤ 127) : x.toInt8.toInt32 = x := by
  apply Int32.toInt_inj.mp
  rw [Int8.toInt_toInt32, Int32.toInt_toInt8]
  have h3 : (Int8.ofInt x.toInt).toInt = x.toInt := Int8.toInt_ofInt_of_le (by show -128 ≤ x.toInt; exact h1) (by show x.toInt < 128; omega)
  rw [Int8.toInt_ofInt] at h3
  exact h3
theorem dz_i2c_n (x : Int32) : ((x.toUInt32 % 65536).toInt32).toInt = ((x.toBitVec.toNat % 65536 : Nat) : Int) := by
  have e : ((x.toUInt32 % 65536).toInt32).toBitVec.toNat = x.toBitVec.toNat % 65536 := by
    show (x.toUInt32 % 65536).toNat = _
    rw [UInt32.toNat_mod]
    rfl
  have h3 := dz_bv_lt (x := ((x.toUInt32 % 65536).toInt32).toBitVec) (by omega)
  show ((x.toUInt32 % 65536).toInt32).toBitVec.toInt = _
  rw [h3, e]
theorem dz_i2c_v (x : Int32) : 0 ≤ ((x.toUInt32 % 65536).toInt32).toInt ∧ ((x.toUInt32 % 65536).toInt32).toInt ≤ 65535 := by
  rw [dz_i2c_n]
  omega
theorem dz_i2c_s {x : Int32} (h1 : 0 ≤ x.toInt) (h2 : x.toInt ≤ 65535) : (x.toUInt32 % 65536).toInt32 = x := by
  apply Int32.toInt_inj.mp
  rw [dz_i2c_n]
  have h3 := dz_bv_nn (x := x.toBitVec) h1
  have e : x.toInt = x.toBitVec.toInt := rfl
  omega
theorem dz_u1_ok (hG : dz_G T X S ρ τ h L st) {i : Instr} {hn : dz_Hn} (hp : dz_u1 i hn S = some S') : ∃ q ρ', cz_pure i nL L st = some q ∧ dz_G T X S' ρ' τ h q.1 q.2 ∧ dz_ext S.1 ρ S'.1 ρ' := by
  have hs := hG.2.2.1
  unfold dz_u1 at hp
  split at hp
  · rename_i a r he
    rw [he] at hs
    obtain ⟨v1, w, rfl, ha, h4⟩ := hs.inv
    cases i
    case ineg =>
      simp only at hp
      cases hk : Nat.beq a.1 0 with
      | false => rw [hk] at hp; cases hp
      | true =>
        rw [hk] at hp
        obtain ⟨x, rfl, hx⟩ := ha.int hk
        simp only [cond_true] at hp
        cases hc : Nat.beq hn.1 1 with
        | true =>
          rw [hc] at hp
          simp only [cond_true] at hp
          cases hi : dz_inI S.2.1 hn.2.1 (dz_mul (-1) a.2.1) with
          | false => rw [hi] at hp; cases hp
          | true =>
            rw [hi] at hp; cases hp
            have hz := dz_ok_mul (-1) hx
            have hb := dz_inI_ok hG.1 hz hi
            refine ⟨(L, .inl (-x) :: w), ρ, rfl, hG.stack ⟨⟨rfl, ?_, fun r hr => by cases hr⟩, h4⟩, dz_ext.refl _ _⟩
            show dz_ok S.1 ρ _ (-x).toInt
            rw [dz_neg_v (by omega) (by omega), show -x.toInt = -1 * x.toInt by omega]
            exact hz
        | false =>
          rw [hc] at hp; cases hp
          obtain ⟨h5, h6⟩ := hG.nu h4 (v := .inl (-x)) (k := 0) (t := 0) rfl (fun r hr => by cases hr) (dz_rg_ok (-x))
          exact ⟨(L, .inl (-x) :: w), _, rfl, h5, h6⟩
    case i2b =>
      simp only at hp
      cases hk : Nat.beq a.1 0 with
      | false => rw [hk] at hp; cases hp
      | true =>
        rw [hk] at hp
        obtain ⟨x, rfl, hx⟩ := ha.int hk
        simp only [cond_true] at hp
        cases hc : Nat.beq hn.1 1 with
        | true =>
          rw [hc] at hp
          simp only [cond_true] at hp
          split at hp
          · rename_i c0 c1 _ _
            cases hi : (dz_pf S.2.1 c0 (dz_plus a.2.1 128) && dz_pf S.2.1 c1 (dz_sub (dz_cst 127) a.2.1)) with
            | false => rw [hi] at hp; cases hp
            | true =>
              rw [hi] at hp; cases hp
              simp only [Bool.and_eq_true] at hi
              have b1 := dz_pf_ok hG.1 (dz_ok_plus 128 hx) hi.1
              have b2 := dz_pf_ok hG.1 (dz_ok_sub (dz_ok_cst 127) hx) hi.2
              refine ⟨(L, .inl x :: w), ρ, ?_, hG, dz_ext.refl _ _⟩
              show some (L, Sum.inl x.toInt8.toInt32 :: w) = _
              rw [dz_i2b_s (by omega) (by omega)]
          · cases hp
        | false =>
          rw [hc] at hp; cases hp
          have hb := dz_i2b_v x
          obtain ⟨h5, h6⟩ := hG.nu h4 (v := .inl x.toInt8.toInt32) (k := 0) (t := 0) rfl (fun r hr => by cases hr) (dz_bd_ok hb.1 hb.2)
          exact ⟨(L, .inl x.toInt8.toInt32 :: w), _, rfl, h5, h6⟩
    case i2c =>
      simp only at hp
      cases hk : Nat.beq a.1 0 with
      | false => rw [hk] at hp; cases hp
      | true =>
        rw [hk] at hp
        obtain ⟨x, rfl, hx⟩ := ha.int hk
        simp only [cond_true] at hp
        cases hc : Nat.beq hn.1 1 with
        | true =>
          rw [hc] at hp
          simp only [cond_true] at hp
          split at hp
          · rename_i c0 c1 _ _
            cases hi : (dz_pf S.2.1 c0 a.2.1 && dz_pf S.2.1 c1 (dz_sub (dz_cst 65535) a.2.1)) with
            | false => rw [hi] at hp; cases hp
            | true =>
              rw [hi] at hp; cases hp
              simp only [Bool.and_eq_true] at hi
              have b1 := dz_pf_ok hG.1 hx hi.1
              have b2 := dz_pf_ok hG.1 (dz_ok_sub (dz_ok_cst 65535) hx) hi.2
              refine ⟨(L, .inl x :: w), ρ, ?_, hG, dz_ext.refl _ _⟩
              show some (L, Sum.inl ((x.toUInt32 % 65536).toInt32) :: w) = _
              rw [dz_i2c_s (by omega) (by omega)]
          · cases hp
        | false =>
          rw [hc] at hp; cases hp
          have hb := dz_i2c_v x
          obtain ⟨h5, h6⟩ := hG.nu h4 (v := .inl ((x.toUInt32 % 65536).toInt32)) (k := 0) (t := 0) rfl (fun r hr => by cases hr) (dz_bd_ok hb.1 hb.2)
          exact ⟨(L, .inl ((x.toUInt32 % 65536).toInt32) :: w), _, rfl, h5, h6⟩
    case l2i =>
      simp only at hp
      cases hk : Nat.beq a.1 2 with
      | false => rw [hk] at hp; cases hp
      | true =>
        rw [hk] at hp; cases hp
        obtain ⟨x, rfl, hx⟩ := ha.long hk
        obtain ⟨h5, h6⟩ := hG.nu h4 (v := .inl x.toInt32) (k := 0) (t := 0) rfl (fun r hr => by cases hr) (dz_rg_ok x.toInt32)
        exact ⟨(L, .inl x.toInt32 :: w), _, rfl, h5, h6⟩
    all_goals (exact absurd hp (by simp))
  · cases hp
/-- longs: a new unknown; their order; iinc -/
noncomputable def dz_lg2 (i : Instr) : Bool := match i with
  | .ladd | .lsub | .lmul | .land | .lor | .lxor => true
  | _ => false
noncomputable def dz_l2 (i : Instr) (hn : dz_Hn) (nL : Nat) (S : dz_S) : Option dz_S := match i with
  | .lshl => (match S.2.2.2.1 with
    | b :: a :: r => bif Nat.beq a.1 2 && Nat.beq b.1 0 then some (dz_nu S [] r 2 0) else none
    | _ => none)
  | .lushr => (match S.2.2.2.1 with
    | b :: a :: r => bif Nat.beq a.1 2 && Nat.beq b.1 0 then some (dz_nu S [] r 2 0) else none
    | _ => none)
  | .lcmp => (match S.2.2.2.1 with
    | b :: a :: r => bif Nat.beq a.1 2 && Nat.beq b.1 2 then (bif Nat.beq hn.1 1 then (match hn.2.1 with
        | c0 :: c1 :: _ => bif dz_pf S.2.1 c0 (dz_sub a.2.1 b.2.1) && dz_pf S.2.1 c1 (dz_sub b.2.1 a.2.1) then some (dz_stk S ((0, dz_cst 0, 0) :: r)) else none
        | _ => none) else some (dz_nu S (dz_bd S.1 (-1) 1) r 0 0)) else none
    | _ => none)
  | .iinc k n => (match dz_fl k S.2.2.1 with
    | some a => bif Nat.beq a.1 0 && (Nat.blt k nL && (dz_ile (-32768) n && dz_ile n 32767)) then (bif Nat.beq hn.1 1 then (bif dz_inI S.2.1 hn.2.1 (dz_plus a.2.1 n) then some (S.1, S.2.1, dz_ls1 k (0, dz_plus a.2.1 n, 0) S.2.2.1, S.2.2.2) else none)
        else dz_fn (Nat.add S.1 1) (fun m => some (m, dz_rg S.1 ++ S.2.1, dz_ls1 k (0, dz_var S.1, 0) S.2.2.1, S.2.2.2))) else none
    | none => none)
  | i => bif dz_lg2 i then (match S.2.2.2.1 with
    | b :: a :: r => bif Nat.beq a.1 2 && Nat.beq b.1 2 then some (dz_nu S [] r 2 0) else none
    | _ => none) else none
theorem dz_cmp_v (a b : Int64) : -1 ≤ (lg_cmp a b).toInt ∧ (lg_cmp a b).toInt ≤ 1 := by
  unfold lg_cmp
  split
  · decide
  · split <;> decide
theorem dz_cmp_0 {a b : Int64} (h : a = b) : lg_cmp a b = 0 := by
  subst h
  unfold lg_cmp
  simp
theorem dz_none_all {n : Nat} {ρ : Nat → Int} : dz_all n ρ [] := fun e he => by cases he
set_option maxHeartbeats 4000000 in
theorem dz_l2_ok (hG : dz_G T X S ρ τ h L st) {i : Instr} {hn : dz_Hn} (hp : dz_l2 i hn nL S = some S') : ∃ q ρ', cz_pure i nL L st = some q ∧ dz_G T X S' ρ' τ h q.1 q.2 ∧ dz_ext S.1 ρ S'.1 ρ' := by
  have hs := hG.2.2.1
  cases i
  case lshl =>
    simp only [dz_l2] at hp
    split at hp
    · rename_i b a r he
      rw [he] at hs
      obtain ⟨v2, w, rfl, hb, h2⟩ := hs.inv
      obtain ⟨v1, w, rfl, ha, h4⟩ := h2.inv
      cases hk : (Nat.beq a.1 2 && Nat.beq b.1 0) with
      | false => rw [hk] at hp; cases hp
      | true =>
        rw [hk] at hp; cases hp
        simp only [Bool.and_eq_true] at hk
        obtain ⟨x, rfl, hx⟩ := ha.long hk.1
        obtain ⟨y, rfl, hy⟩ := hb.int hk.2
        obtain ⟨h5, h6⟩ := hG.nu h4 (v := .inr (.inl (x <<< (y.toInt64 &&& 63)))) (k := 2) (t := 0) rfl (fun r hr => by cases hr) dz_none_all
        exact ⟨(L, .inr (.inl (x <<< (y.toInt64 &&& 63))) :: w), _, rfl, h5, h6⟩
    · cases hp
  case lushr =>
    simp only [dz_l2] at hp
    split at hp
    · rename_i b a r he
      rw [he] at hs
      obtain ⟨v2, w, rfl, hb, h2⟩ := hs.inv
      obtain ⟨v1, w, rfl, ha, h4⟩ := h2.inv
      cases hk : (Nat.beq a.1 2 && Nat.beq b.1 0) with
      | false => rw [hk] at hp; cases hp
      | true =>
        rw [hk] at hp; cases hp
        simp only [Bool.and_eq_true] at hk
        obtain ⟨x, rfl, hx⟩ := ha.long hk.1
        obtain ⟨y, rfl, hy⟩ := hb.int hk.2
        obtain ⟨h5, h6⟩ := hG.nu h4 (v := .inr (.inl ((x.toUInt64 >>> (y.toInt64.toUInt64 &&& Int64.toUInt64 63)).toInt64))) (k := 2) (t := 0) rfl (fun r hr => by cases hr) dz_none_all
        exact ⟨(L, .inr (.inl ((x.toUInt64 >>> (y.toInt64.toUInt64 &&& Int64.toUInt64 63)).toInt64)) :: w), _, rfl, h5, h6⟩
    · cases hp
  case lcmp =>
    simp only [dz_l2] at hp
    split at hp
    · rename_i b a r he
      rw [he] at hs
      obtain ⟨v2, w, rfl, hb, h2⟩ := hs.inv
      obtain ⟨v1, w, rfl, ha, h4⟩ := h2.inv
      cases hk : (Nat.beq a.1 2 && Nat.beq b.1 2) with
      | false => rw [hk] at hp; cases hp
      | true =>
        rw [hk] at hp
        simp only [Bool.and_eq_true] at hk
        obtain ⟨x, rfl, hx⟩ := ha.long hk.1
        obtain ⟨y, rfl, hy⟩ := hb.long hk.2
        simp only [cond_true] at hp
        cases hc : Nat.beq hn.1 1 with
        | true =>
          rw [hc] at hp
          simp only [cond_true] at hp
          split at hp
          · rename_i c0 c1 _ _
            cases hi : (dz_pf S.2.1 c0 (dz_sub a.2.1 b.2.1) && dz_pf S.2.1 c1 (dz_sub b.2.1 a.2.1)) with
            | false => rw [hi] at hp; cases hp
            | true =>
              rw [hi] at hp; cases hp
              simp only [Bool.and_eq_true] at hi
              have b1 := dz_pf_ok hG.1 (dz_ok_sub hx hy) hi.1
              have b2 := dz_pf_ok hG.1 (dz_ok_sub hy hx) hi.2
              have e : x = y := Int64.toInt_inj.mp (by omega)
              refine ⟨(L, .inl (lg_cmp x y) :: w), ρ, rfl, hG.stack ⟨⟨rfl, ?_, fun r hr => by cases hr⟩, h4⟩, dz_ext.refl _ _⟩
              show dz_ok S.1 ρ (dz_cst 0) (lg_cmp x y).toInt
              rw [dz_cmp_0 e]
              exact dz_ok_cst 0
          · cases hp
        | false =>
          rw [hc] at hp; cases hp
          have hb := dz_cmp_v x y
          obtain ⟨h5, h6⟩ := hG.nu h4 (v := .inl (lg_cmp x y)) (k := 0) (t := 0) rfl (fun r hr => by cases hr) (dz_bd_ok hb.1 hb.2)
          exact ⟨(L, .inl (lg_cmp x y) :: w), _, rfl, h5, h6⟩
    · cases hp
  case iinc k n =>
    simp only [dz_l2] at hp
    split at hp
    · rename_i a he
      obtain ⟨v, hv, hav⟩ := hG.2.1 _ (dz_fl_mem he)
      cases hk : (Nat.beq a.1 0 && (Nat.blt k nL && (dz_ile (-32768) n && dz_ile n 32767))) with
      | false => rw [hk] at hp; cases hp
      | true =>
        rw [hk] at hp
        simp only [Bool.and_eq_true] at hk
        obtain ⟨x, rfl, hx⟩ := hav.int hk.1
        have hn1 := dz_ile_ok hk.2.2.1
        have hn2 := dz_ile_ok hk.2.2.2
        have hpu : cz_pure (.iinc k n) nL L st = some (cz_sto L k (.inl (x + Int32.ofInt n)), st) := by
          show (match cz_find k L with
            | some (.inl a) => bif Nat.blt k nL then some (cz_sto L k (.inl (a + Int32.ofInt n)), st) else none
            | _ => none) = _
          rw [hv]
          show (bif Nat.blt k nL then _ else none) = _
          rw [hk.2.1]
          rfl
        simp only [cond_true] at hp
        cases hc : Nat.beq hn.1 1 with
        | true =>
          rw [hc] at hp
          simp only [cond_true] at hp
          cases hi : dz_inI S.2.1 hn.2.1 (dz_plus a.2.1 n) with
          | false => rw [hi] at hp; cases hp
          | true =>
            rw [hi] at hp; cases hp
            have hz := dz_ok_plus n hx
            have hb := dz_inI_ok hG.1 hz hi
            have e : (Int32.ofInt n).toInt = n := dz_toInt_i (by omega) (by omega)
            refine ⟨_, ρ, hpu, hG.frame (hG.2.1.sto ⟨rfl, ?_, fun r hr => by cases hr⟩) hs, dz_ext.refl _ _⟩
            show dz_ok S.1 ρ _ (x + Int32.ofInt n).toInt
            rw [dz_add_v (by omega) (by omega), e]
            exact hz
        | false =>
          rw [hc] at hp
          cases hp
          have hx2 := dz_ext.up S.1 ρ (x + Int32.ofInt n).toInt
          have h1 := hG.ext hx2
          exact ⟨_, _, hpu, ⟨h1.1.app (dz_rg_ok _), h1.2.1.sto ⟨rfl, dz_ok_new _, fun r hr => by cases hr⟩, h1.2.2⟩, hx2⟩
    · cases hp
  case ladd =>
    simp only [dz_l2, dz_lg2, cond_true] at hp
    split at hp
    · rename_i b a r he
      rw [he] at hs
      obtain ⟨v2, w, rfl, hb, h2⟩ := hs.inv
      obtain ⟨v1, w, rfl, ha, h4⟩ := h2.inv
      cases hk : (Nat.beq a.1 2 && Nat.beq b.1 2) with
      | false => rw [hk] at hp; cases hp
      | true =>
        rw [hk] at hp; cases hp
        simp only [Bool.and_eq_true] at hk
        obtain ⟨x, rfl, hx⟩ := ha.long hk.1
        obtain ⟨y, rfl, hy⟩ := hb.long hk.2
        obtain ⟨h5, h6⟩ := hG.nu h4 (v := .inr (.inl (x + y))) (k := 2) (t := 0) rfl (fun r hr => by cases hr) dz_none_all
        exact ⟨(L, .inr (.inl (x + y)) :: w), _, rfl, h5, h6⟩
    · cases hp
  case lsub =>
    simp only [dz_l2, dz_lg2, cond_true] at hp
    split at hp
    · rename_i b a r he
      rw [he] at hs
      obtain ⟨v2, w, rfl, hb, h2⟩ := hs.inv
      obtain ⟨v1, w, rfl, ha, h4⟩ := h2.inv
      cases hk : (Nat.beq a.1 2 && Nat.beq b.1 2) with
      | false => rw [hk] at hp; cases hp
      | true =>
        rw [hk] at hp; cases hp
        simp only [Bool.and_eq_true] at hk
        obtain ⟨x, rfl, hx⟩ := ha.long hk.1
        obtain ⟨y, rfl, hy⟩ := hb.long hk.2
        obtain ⟨h5, h6⟩ := hG.nu h4 (v := .inr (.inl (x - y))) (k := 2) (t := 0) rfl (fun r hr => by cases hr) dz_none_all
        exact ⟨(L, .inr (.inl (x - y)) :: w), _, rfl, h5, h6⟩
    · cases hp
  case lmul =>
    simp only [dz_l2, dz_lg2, cond_true] at hp
    split at hp
    · rename_i b a r he
      rw [he] at hs
      obtain ⟨v2, w, rfl, hb, h2⟩ := hs.inv
      obtain ⟨v1, w, rfl, ha, h4⟩ := h2.inv
      cases hk : (Nat.beq a.1 2 && Nat.beq b.1 2) with
      | false => rw [hk] at hp; cases hp
      | true =>
        rw [hk] at hp; cases hp
        simp only [Bool.and_eq_true] at hk
        obtain ⟨x, rfl, hx⟩ := ha.long hk.1
        obtain ⟨y, rfl, hy⟩ := hb.long hk.2
        obtain ⟨h5, h6⟩ := hG.nu h4 (v := .inr (.inl (x * y))) (k := 2) (t := 0) rfl (fun r hr => by cases hr) dz_none_all
        exact ⟨(L, .inr (.inl (x * y)) :: w), _, rfl, h5, h6⟩
    · cases hp
  case land =>
    simp only [dz_l2, dz_lg2, cond_true] at hp
    split at hp
    · rename_i b a r he
      rw [he] at hs
      obtain ⟨v2, w, rfl, hb, h2⟩ := hs.inv
      obtain ⟨v1, w, rfl, ha, h4⟩ := h2.inv
      cases hk : (Nat.beq a.1 2 && Nat.beq b.1 2) with
      | false => rw [hk] at hp; cases hp
      | true =>
        rw [hk] at hp; cases hp
        simp only [Bool.and_eq_true] at hk
        obtain ⟨x, rfl, hx⟩ := ha.long hk.1
        obtain ⟨y, rfl, hy⟩ := hb.long hk.2
        obtain ⟨h5, h6⟩ := hG.nu h4 (v := .inr (.inl (x &&& y))) (k := 2) (t := 0) rfl (fun r hr => by cases hr) dz_none_all
        exact ⟨(L, .inr (.inl (x &&& y)) :: w), _, rfl, h5, h6⟩
    · cases hp
  case lor =>
    simp only [dz_l2, dz_lg2, cond_true] at hp
    split at hp
    · rename_i b a r he
      rw [he] at hs
      obtain ⟨v2, w, rfl, hb, h2⟩ := hs.inv
      obtain ⟨v1, w, rfl, ha, h4⟩ := h2.inv
      cases hk : (Nat.beq a.1 2 && Nat.beq b.1 2) with
      | false => rw [hk] at hp; cases hp
      | true =>
        rw [hk] at hp; cases hp
        simp only [Bool.and_eq_true] at hk
        obtain ⟨x, rfl, hx⟩ := ha.long hk.1
        obtain ⟨y, rfl, hy⟩ := hb.long hk.2
        obtain ⟨h5, h6⟩ := hG.nu h4 (v := .inr (.inl (x ||| y))) (k := 2) (t := 0) rfl (fun r hr => by cases hr) dz_none_all
        exact ⟨(L, .inr (.inl (x ||| y)) :: w), _, rfl, h5, h6⟩
    · cases hp
  case lxor =>
    simp only [dz_l2, dz_lg2, cond_true] at hp
    split at hp
    · rename_i b a r he
      rw [he] at hs
      obtain ⟨v2, w, rfl, hb, h2⟩ := hs.inv
      obtain ⟨v1, w, rfl, ha, h4⟩ := h2.inv
      cases hk : (Nat.beq a.1 2 && Nat.beq b.1 2) with
      | false => rw [hk] at hp; cases hp
      | true =>
        rw [hk] at hp; cases hp
        simp only [Bool.and_eq_true] at hk
        obtain ⟨x, rfl, hx⟩ := ha.long hk.1
        obtain ⟨y, rfl, hy⟩ := hb.long hk.2
        obtain ⟨h5, h6⟩ := hG.nu h4 (v := .inr (.inl (x ^^^ y))) (k := 2) (t := 0) rfl (fun r hr => by cases hr) dz_none_all
        exact ⟨(L, .inr (.inl (x ^^^ y)) :: w), _, rfl, h5, h6⟩
    · cases hp
  all_goals (exact absurd hp (by simp [dz_l2, dz_lg2]))
end DzAr2
/-! L2, part 7: branches. Of each way out: 0 it is gone on with, 1 it can't be (a certificate that -1 is at least 0); where two numbers differ, 2 or 3: one is known to be at least the other. -/
noncomputable def dz_cc (c : ClassFile.Cond) (a b : dz_E) : List dz_E := match c with
  | .eq => [dz_sub a b, dz_sub b a]
  | .ne => []
  | .lt => [dz_plus (dz_sub b a) (-1)]
  | .ge => [dz_sub a b]
  | .gt => [dz_plus (dz_sub a b) (-1)]
  | .le => [dz_sub b a]
def dz_cn (c : ClassFile.Cond) : ClassFile.Cond := match c with
  | .eq => .ne
  | .ne => .eq
  | .lt => .ge
  | .ge => .lt
  | .gt => .le
  | .le => .gt
def dz_cv (c : ClassFile.Cond) (x y : Int) : Prop := match c with
  | .eq => x = y
  | .ne => x ≠ y
  | .lt => x < y
  | .ge => y ≤ x
  | .gt => y < x
  | .le => x ≤ y
theorem dz_one {n : Nat} {ρ : Nat → Int} {e1 : dz_E} {x : Int} (h1 : dz_ok n ρ e1 x) (h2 : 0 ≤ x) : dz_all n ρ [e1] := by
  intro e he
  rw [List.mem_singleton.mp he]
  exact ⟨x, h2, h1⟩
theorem dz_cc_ok {n : Nat} {ρ : Nat → Int} {a b : dz_E} {x y : Int} {c : ClassFile.Cond} (ha : dz_ok n ρ a x) (hb : dz_ok n ρ b y) (h : dz_cv c x y) : dz_all n ρ (dz_cc c a b) := by
  cases c
  · have h : x = y := h
    exact dz_two (dz_ok_sub ha hb) (by omega) (dz_ok_sub hb ha) (by omega)
  · exact dz_none_all
  · have h : x < y := h
    exact dz_one (dz_ok_plus (-1) (dz_ok_sub hb ha)) (by omega)
  · have h : y ≤ x := h
    exact dz_one (dz_ok_sub ha hb) (by omega)
  · have h : y < x := h
    exact dz_one (dz_ok_plus (-1) (dz_ok_sub ha hb)) (by omega)
  · have h : x ≤ y := h
    exact dz_one (dz_ok_sub hb ha) (by omega)
def dz_isne (c : ClassFile.Cond) : Bool := match c with
  | .ne => true
  | _ => false
def dz_gam (S : dz_S) (es : List dz_E) : dz_S := (S.1, es ++ S.2.1, S.2.2)
/-- one way out -/
noncomputable def dz_way (S : dz_S) (c : ClassFile.Cond) (a b : dz_E) (m : Nat) (ct : dz_Ct) : Option (Option dz_S) :=
  bif Nat.beq m 0 then some (some (dz_gam S (dz_cc c a b)))
  else bif Nat.beq m 1 then (bif dz_pf (dz_cc c a b ++ S.2.1) ct (dz_cst (-1)) then some none else none)
  else bif dz_isne c then (bif Nat.beq m 2 then (bif dz_pf S.2.1 ct (dz_sub a b) then some (some (dz_gam S [dz_plus (dz_sub a b) (-1)])) else none)
    else (bif dz_pf S.2.1 ct (dz_sub b a) then some (some (dz_gam S [dz_plus (dz_sub b a) (-1)])) else none))
  else none
section DzBr
variable {T : dz_TT} {X : dz_X} {S S' : dz_S} {ρ : Nat → Int} {τ : Nat → Nat} {h : cz_H} {L : List (Nat × cz_V)} {st w : List cz_V} {nL : Nat}
theorem dz_G.gam (hG : dz_G T X S ρ τ h L st) {es : List dz_E} (he : dz_all S.1 ρ es) : dz_G T X (dz_gam S es) ρ τ h L st := ⟨hG.1.app he, hG.2⟩
theorem dz_way_ok (hG : dz_G T X S ρ τ h L st) {c : ClassFile.Cond} {a b : dz_E} {x y : Int} (ha : dz_ok S.1 ρ a x) (hb : dz_ok S.1 ρ b y) (hc : dz_cv c x y) {m : Nat} {ct : dz_Ct} {o : Option dz_S} (hw : dz_way S c a b m ct = some o) : ∃ S', o = some S' ∧ dz_G T X S' ρ τ h L st ∧ S'.1 = S.1 := by
  have hall := dz_cc_ok ha hb hc
  unfold dz_way at hw
  cases h0 : Nat.beq m 0 with
  | true =>
    rw [h0] at hw; cases hw
    exact ⟨_, rfl, hG.gam hall, rfl⟩
  | false =>
    rw [h0] at hw
    simp only [cond_false] at hw
    cases h1 : Nat.beq m 1 with
    | true =>
      rw [h1] at hw
      simp only [cond_true] at hw
      cases hp : dz_pf (dz_cc c a b ++ S.2.1) ct (dz_cst (-1)) with
      | false => rw [hp] at hw; cases hw
      | true =>
        exact absurd (dz_pf_ok (hG.1.app hall) (dz_ok_cst (-1)) hp) (by omega)
    | false =>
      rw [h1] at hw
      simp only [cond_false] at hw
      cases hn : dz_isne c with
      | false => rw [hn] at hw; cases hw
      | true =>
        rw [hn] at hw
        simp only [cond_true] at hw
        have hne : x ≠ y := by cases c <;> first | exact hc | (cases hn)
        cases h2 : Nat.beq m 2 with
        | true =>
          rw [h2] at hw
          simp only [cond_true] at hw
          cases hp : dz_pf S.2.1 ct (dz_sub a b) with
          | false => rw [hp] at hw; cases hw
          | true =>
            rw [hp] at hw; cases hw
            have := dz_pf_ok hG.1 (dz_ok_sub ha hb) hp
            exact ⟨_, rfl, hG.gam (dz_one (dz_ok_plus (-1) (dz_ok_sub ha hb)) (by omega)), rfl⟩
        | false =>
          rw [h2] at hw
          simp only [cond_false] at hw
          cases hp : dz_pf S.2.1 ct (dz_sub b a) with
          | false => rw [hp] at hw; cases hw
          | true =>
            rw [hp] at hw; cases hw
            have := dz_pf_ok hG.1 (dz_ok_sub hb ha) hp
            exact ⟨_, rfl, hG.gam (dz_one (dz_ok_plus (-1) (dz_ok_sub hb ha)) (by omega)), rfl⟩
/-- the two ways of a comparison: target, then what follows -/
noncomputable def dz_cmp2 (S : dz_S) (c : ClassFile.Cond) (a b : dz_E) (t f : Nat) (hn : dz_Hn) : Option (List (Nat × dz_S)) := match hn.2.2, hn.2.1 with
  | m1 :: m2 :: _, c1 :: c2 :: _ => (match dz_way S c a b m1 c1, dz_way S (dz_cn c) a b m2 c2 with
    | some o1, some o2 => some ((match o1 with | some q => [(t, q)] | none => []) ++ (match o2 with | some q => [(f, q)] | none => []))
    | _, _ => none)
  | _, _ => none
theorem dz_cmp2_ok (hG : dz_G T X S ρ τ h L st) {c : ClassFile.Cond} {a b : dz_E} {x y : Int} (ha : dz_ok S.1 ρ a x) (hb : dz_ok S.1 ρ b y) {t f : Nat} {hn : dz_Hn} {R : List (Nat × dz_S)} (hr : dz_cmp2 S c a b t f hn = some R) : (dz_cv c x y → ∃ S', (t, S') ∈ R ∧ dz_G T X S' ρ τ h L st ∧ S'.1 = S.1) ∧ (dz_cv (dz_cn c) x y → ∃ S', (f, S') ∈ R ∧ dz_G T X S' ρ τ h L st ∧ S'.1 = S.1) := by
  unfold dz_cmp2 at hr
  split at hr
  · split at hr
    · rename_i o1 o2 h1 h2
      cases hr
      constructor
      · intro hc
        obtain ⟨S', rfl, h3, h4⟩ := dz_way_ok hG ha hb hc h1
        exact ⟨S', List.mem_append.mpr (Or.inl List.mem_cons_self), h3, h4⟩
      · intro hc
        obtain ⟨S', rfl, h3, h4⟩ := dz_way_ok hG ha hb hc h2
        exact ⟨S', List.mem_append.mpr (Or.inr List.mem_cons_self), h3, h4⟩
    · cases hr
  · cases hr
theorem dz_cv_or (c : ClassFile.Cond) (x y : Int) : dz_cv c x y ∨ dz_cv (dz_cn c) x y := by
  cases c
  · exact Decidable.em (x = y)
  · by_cases e : x = y
    · exact Or.inr e
    · exact Or.inl e
  · show x < y ∨ y ≤ x; omega
  · show y ≤ x ∨ x < y; omega
  · show y < x ∨ x ≤ y; omega
  · show x ≤ y ∨ y < x; omega
theorem dz_cd_eq {c : ClassFile.Cond} {x y : Int32} : (dz_cv c x.toInt y.toInt → cz_cd c x y = true) ∧ (dz_cv (dz_cn c) x.toInt y.toInt → cz_cd c x y = false) := by
  cases c
  · exact ⟨fun e => decide_eq_true (Int32.toInt_inj.mp e), fun e => decide_eq_false (fun w => e (by rw [w]))⟩
  · refine ⟨fun e => ?_, fun e => ?_⟩
    · show (!decide (x = y)) = true
      rw [decide_eq_false (fun w => e (by rw [w]))]; rfl
    · show (!decide (x = y)) = false
      rw [decide_eq_true (Int32.toInt_inj.mp e)]; rfl
  · exact ⟨fun e => decide_eq_true (Int32.lt_iff_toInt_lt.mpr e), fun e => decide_eq_false (fun w => by have := Int32.lt_iff_toInt_lt.mp w; have e : y.toInt ≤ x.toInt := e; omega)⟩
  · exact ⟨fun e => decide_eq_true (Int32.le_iff_toInt_le.mpr e), fun e => decide_eq_false (fun w => by have := Int32.le_iff_toInt_le.mp w; have e : x.toInt < y.toInt := e; omega)⟩
  · exact ⟨fun e => decide_eq_true (Int32.lt_iff_toInt_lt.mpr e), fun e => decide_eq_false (fun w => by have := Int32.lt_iff_toInt_lt.mp w; have e : x.toInt ≤ y.toInt := e; omega)⟩
  · exact ⟨fun e => decide_eq_true (Int32.le_iff_toInt_le.mpr e), fun e => decide_eq_false (fun w => by have := Int32.le_iff_toInt_le.mp w; have e : y.toInt < x.toInt := e; omega)⟩
/-- the ways of a switch -/
noncomputable def dz_tabs (S : dz_S) (a : dz_E) (pc : Nat) : List Int → Int → List Nat → List dz_Ct → Option (List (Nat × dz_S)) := List.rec (fun _ _ _ => some []) (fun off _ ih v ms cs => match ms, cs with
  | m :: ms, c :: cs => (match cz_to pc off, dz_way S .eq a (dz_cst v) m c, dz_fi (Int.add v 1) (fun u => ih u ms cs) with
    | some t, some o, some R => dz_fn t (fun t => some ((match o with | some q => [(t, q)] | none => []) ++ R))
    | _, _, _ => none)
  | _, _ => none)
theorem dz_tabs_cons (S : dz_S) (a : dz_E) (pc : Nat) (off : Int) (r : List Int) (v : Int) (ms : List Nat) (cs : List dz_Ct) : dz_tabs S a pc (off :: r) v ms cs = match ms, cs with
  | m :: ms, c :: cs => (match cz_to pc off, dz_way S .eq a (dz_cst v) m c, dz_tabs S a pc r (v + 1) ms cs with
    | some t, some o, some R => some ((match o with | some q => [(t, q)] | none => []) ++ R)
    | _, _, _ => none)
  | _, _ => none := by
  show (match ms, cs with
    | m :: ms, c :: cs => (match cz_to pc off, dz_way S .eq a (dz_cst v) m c, dz_fi (Int.add v 1) (fun u => dz_tabs S a pc r u ms cs) with
      | some t, some o, some R => dz_fn t (fun t => some ((match o with | some q => [(t, q)] | none => []) ++ R))
      | _, _, _ => none)
    | _, _ => none) = _
  simp only [dz_fi_eq, dz_fn_eq]
  rfl
theorem dz_tabs_ok (hG : dz_G T X S ρ τ h L st) {a : dz_E} {x : Int} (ha : dz_ok S.1 ρ a x) {pc : Nat} : ∀ {offs : List Int} {v : Int} {ms : List Nat} {cs : List dz_Ct} {R : List (Nat × dz_S)}, dz_tabs S a pc offs v ms cs = some R → ∀ j : Nat, j < offs.length → x = v + j → ∃ off t S', offs[j]? = some off ∧ cz_to pc off = some t ∧ (t, S') ∈ R ∧ dz_G T X S' ρ τ h L st ∧ S'.1 = S.1
  | [], v, ms, cs, R, hr, j, hj, hx => absurd hj (Nat.not_lt_zero j)
  | off :: r, v, ms, cs, R, hr, j, hj, hx => by
    rw [dz_tabs_cons] at hr
    split at hr
    · split at hr
      · rename_i t o R' h1 h2 h3
        cases hr
        cases j with
        | zero =>
          obtain ⟨S', rfl, h4, h5⟩ := dz_way_ok hG ha (dz_ok_cst v) (c := .eq) (by show x = v; omega) h2
          exact ⟨off, t, S', rfl, h1, List.mem_append.mpr (Or.inl List.mem_cons_self), h4, h5⟩
        | succ j =>
          obtain ⟨off', t', S', h4, h5, h6, h7⟩ := dz_tabs_ok hG ha h3 j (by simpa using hj) (by omega)
          exact ⟨off', t', S', h4, h5, List.mem_append.mpr (Or.inr h6), h7⟩
      · cases hr
    · cases hr
/-- null or not -/
noncomputable def dz_br (i : Instr) (pc : Nat) (hn : dz_Hn) (S : dz_S) : Option (List (Nat × dz_S)) := match i with
  | .ifCond c off => (match S.2.2.2.1 with
    | a :: r => bif Nat.beq a.1 0 then (match cz_to pc off with
      | some t => dz_fn t (fun t => dz_fn (Nat.add pc 3) (fun f => dz_cmp2 (dz_stk S r) c a.2.1 (dz_cst 0) t f hn))
      | none => none) else none
    | _ => none)
  | .if_icmp c off => (match S.2.2.2.1 with
    | b :: a :: r => bif Nat.beq a.1 0 && Nat.beq b.1 0 then (match cz_to pc off with
      | some t => dz_fn t (fun t => dz_fn (Nat.add pc 3) (fun f => dz_cmp2 (dz_stk S r) c a.2.1 b.2.1 t f hn))
      | none => none) else none
    | _ => none)
  | .ifnull off => (match S.2.2.2.1 with
    | a :: r => bif Nat.beq a.1 3 then (match cz_to pc off with
      | some t => dz_fn t (fun t => dz_fn (Nat.add pc 3) (fun f => dz_cmp2 (dz_stk S r) .le a.2.1 (dz_cst 0) t f hn))
      | none => none) else none
    | _ => none)
  | .ifnonnull off => (match S.2.2.2.1 with
    | a :: r => bif Nat.beq a.1 3 then (match cz_to pc off with
      | some t => dz_fn t (fun t => dz_fn (Nat.add pc 3) (fun f => dz_cmp2 (dz_stk S r) .gt a.2.1 (dz_cst 0) t f hn))
      | none => none) else none
    | _ => none)
  | .goto off => (match cz_to pc off with
    | some t => dz_fn t (fun t => some [(t, S)])
    | none => none)
  | .tableswitch dflt lo hi offs => (match S.2.2.2.1 with
    | a :: r => bif Nat.beq a.1 0 && dz_z (Int.sub (Int.add (Int.sub hi lo) 1) (.ofNat offs.toList.length)) then (match cz_to pc dflt, hn.2.2, hn.2.1 with
      | some t, m1 :: m2 :: ms, c1 :: c2 :: cs => (match dz_way (dz_stk S r) .lt a.2.1 (dz_cst lo) m1 c1, dz_way (dz_stk S r) .gt a.2.1 (dz_cst hi) m2 c2, dz_tabs (dz_stk S r) a.2.1 pc offs.toList lo ms cs with
        | some o1, some o2, some R => dz_fn t (fun t => some ((match o1 with | some q => [(t, q)] | none => []) ++ ((match o2 with | some q => [(t, q)] | none => []) ++ R)))
        | _, _, _ => none)
      | _, _, _ => none) else none
    | _ => none)
  | _ => none
theorem dz_null_n (o : Option Nat) : dz_n (.inr (.inr o)) ≤ 0 ↔ o = none := by
  cases o with
  | none => exact ⟨fun _ => rfl, fun _ => Int.le_refl 0⟩
  | some r => exact ⟨fun w => by have : (r : Int) + 1 ≤ 0 := w; omega, fun w => by cases w⟩
set_option maxHeartbeats 4000000 in
theorem dz_br_ok (hG : dz_G T X S ρ τ h L st) {i : Instr} {pc : Nat} {hn : dz_Hn} {R : List (Nat × dz_S)} (hr : dz_br i pc hn S = some R) : cz_pure i nL L st = none ∧ ∃ p' S' st', (p', S') ∈ R ∧ cz_br i pc st = some (p', st') ∧ dz_G T X S' ρ τ h L st' ∧ S'.1 = S.1 := by
  have hs := hG.2.2.1
  cases i
  case ifCond c off =>
    refine ⟨rfl, ?_⟩
    simp only [dz_br] at hr
    split at hr
    · rename_i a r he
      rw [he] at hs
      obtain ⟨v, w, rfl, h1, h2⟩ := hs.inv
      cases hk : Nat.beq a.1 0 with
      | false => rw [hk] at hr; cases hr
      | true =>
        rw [hk] at hr
        obtain ⟨x, rfl, hx⟩ := h1.int hk
        simp only [cond_true] at hr
        split at hr
        · rename_i t ht
          simp only [dz_fn_eq] at hr
          have hG2 : dz_G T X (dz_stk S r) ρ τ h L w := hG.stack h2
          obtain ⟨k1, k2⟩ := dz_cmp2_ok hG2 (x := x.toInt) (y := (0 : Int32).toInt) hx (dz_ok_cst 0) hr
          rcases dz_cv_or c x.toInt (0 : Int32).toInt with q | q
          · obtain ⟨S', h3, h4, h5⟩ := k1 q
            refine ⟨t, S', w, h3, ?_, h4, h5⟩
            show (match cz_to pc off with
              | some t => some (bif cz_cd c x 0 then t else pc + 3, w)
              | none => none) = _
            rw [ht, dz_cd_eq.1 q]; rfl
          · obtain ⟨S', h3, h4, h5⟩ := k2 q
            refine ⟨pc + 3, S', w, h3, ?_, h4, h5⟩
            show (match cz_to pc off with
              | some t => some (bif cz_cd c x 0 then t else pc + 3, w)
              | none => none) = _
            rw [ht, dz_cd_eq.2 q]; rfl
        · cases hr
    · cases hr
  case if_icmp c off =>
    refine ⟨rfl, ?_⟩
    simp only [dz_br] at hr
    split at hr
    · rename_i b a r he
      rw [he] at hs
      obtain ⟨v2, w1, rfl, hb, h20⟩ := hs.inv
      obtain ⟨v1, w, rfl, ha, h2⟩ := h20.inv
      cases hk : (Nat.beq a.1 0 && Nat.beq b.1 0) with
      | false => rw [hk] at hr; cases hr
      | true =>
        rw [hk] at hr
        simp only [Bool.and_eq_true] at hk
        obtain ⟨x, rfl, hx⟩ := ha.int hk.1
        obtain ⟨y, rfl, hy⟩ := hb.int hk.2
        simp only [cond_true] at hr
        split at hr
        · rename_i t ht
          simp only [dz_fn_eq] at hr
          have hG2 : dz_G T X (dz_stk S r) ρ τ h L w := hG.stack h2
          obtain ⟨k1, k2⟩ := dz_cmp2_ok hG2 hx hy hr
          rcases dz_cv_or c x.toInt y.toInt with q | q
          · obtain ⟨S', h3, h4, h5⟩ := k1 q
            refine ⟨t, S', w, h3, ?_, h4, h5⟩
            show (match cz_to pc off with
              | some t => some (bif cz_cd c x y then t else pc + 3, w)
              | none => none) = _
            rw [ht, dz_cd_eq.1 q]; rfl
          · obtain ⟨S', h3, h4, h5⟩ := k2 q
            refine ⟨pc + 3, S', w, h3, ?_, h4, h5⟩
            show (match cz_to pc off with
              | some t => some (bif cz_cd c x y then t else pc + 3, w)
              | none => none) = _
            rw [ht, dz_cd_eq.2 q]; rfl
        · cases hr
    · cases hr
  case ifnull off =>
    refine ⟨rfl, ?_⟩
    simp only [dz_br] at hr
    split at hr
    · rename_i a r he
      rw [he] at hs
      obtain ⟨v, w, rfl, h1, h2⟩ := hs.inv
      cases hk : Nat.beq a.1 3 with
      | false => rw [hk] at hr; cases hr
      | true =>
        rw [hk] at hr
        obtain ⟨o, rfl, hx, _⟩ := h1.ref hk
        simp only [cond_true] at hr
        split at hr
        · rename_i t ht
          simp only [dz_fn_eq] at hr
          have hG2 : dz_G T X (dz_stk S r) ρ τ h L w := hG.stack h2
          obtain ⟨k1, k2⟩ := dz_cmp2_ok hG2 hx (dz_ok_cst 0) hr
          cases o with
          | none =>
            obtain ⟨S', h3, h4, h5⟩ := k1 ((dz_null_n none).mpr rfl)
            refine ⟨t, S', w, h3, ?_, h4, h5⟩
            show (match cz_to pc off with
              | some t => some (t, w)
              | none => none) = _
            rw [ht]
          | some z =>
            obtain ⟨S', h3, h4, h5⟩ := k2 (by show (0 : Int) < (z : Int) + 1; omega)
            exact ⟨pc + 3, S', w, h3, rfl, h4, h5⟩
        · cases hr
    · cases hr
  case ifnonnull off =>
    refine ⟨rfl, ?_⟩
    simp only [dz_br] at hr
    split at hr
    · rename_i a r he
      rw [he] at hs
      obtain ⟨v, w, rfl, h1, h2⟩ := hs.inv
      cases hk : Nat.beq a.1 3 with
      | false => rw [hk] at hr; cases hr
      | true =>
        rw [hk] at hr
        obtain ⟨o, rfl, hx, _⟩ := h1.ref hk
        simp only [cond_true] at hr
        split at hr
        · rename_i t ht
          simp only [dz_fn_eq] at hr
          have hG2 : dz_G T X (dz_stk S r) ρ τ h L w := hG.stack h2
          obtain ⟨k1, k2⟩ := dz_cmp2_ok hG2 hx (dz_ok_cst 0) hr
          cases o with
          | none =>
            obtain ⟨S', h3, h4, h5⟩ := k2 ((dz_null_n none).mpr rfl)
            exact ⟨pc + 3, S', w, h3, rfl, h4, h5⟩
          | some z =>
            obtain ⟨S', h3, h4, h5⟩ := k1 (by show (0 : Int) < (z : Int) + 1; omega)
            refine ⟨t, S', w, h3, ?_, h4, h5⟩
            show (match cz_to pc off with
              | some t => some (t, w)
              | none => none) = _
            rw [ht]
        · cases hr
    · cases hr
  case goto off =>
    refine ⟨rfl, ?_⟩
    simp only [dz_br] at hr
    split at hr
    · rename_i t ht
      simp only [dz_fn_eq] at hr
      cases hr
      refine ⟨t, S, st, List.mem_cons_self, ?_, hG, rfl⟩
      show (match cz_to pc off with
        | some t => some (t, st)
        | none => none) = _
      rw [ht]
    · cases hr
  case tableswitch dflt lo hi offs =>
    refine ⟨rfl, ?_⟩
    simp only [dz_br] at hr
    split at hr
    · rename_i a r he
      rw [he] at hs
      obtain ⟨v, w, rfl, h1, h2⟩ := hs.inv
      cases hk : (Nat.beq a.1 0 && dz_z (Int.sub (Int.add (Int.sub hi lo) 1) (.ofNat offs.toList.length))) with
      | false => rw [hk] at hr; cases hr
      | true =>
        rw [hk] at hr
        simp only [Bool.and_eq_true] at hk
        have hz := dz_z_ok hk.2
        have hz : hi - lo + 1 - (offs.toList.length : Int) = 0 := hz
        obtain ⟨x, rfl, hx⟩ := h1.int hk.1
        simp only [cond_true] at hr
        split at hr
        · rename_i t m1 m2 ms c1 c2 cs ht _ _
          split at hr
          · rename_i o1 o2 R' k1 k2 k3
            simp only [dz_fn_eq] at hr
            cases hr
            have hG2 : dz_G T X (dz_stk S r) ρ τ h L w := hG.stack h2
            have hgo : ∀ off p', cz_tab dflt lo hi offs x.toInt = some off → cz_to pc off = some p' → cz_br (.tableswitch dflt lo hi offs) pc (.inl x :: w) = some (p', w) := by
              intro off p' e1 e2
              show (match cz_tab dflt lo hi offs x.toInt with
                | some off => match cz_to pc off with
                  | some t => some (t, w)
                  | none => none
                | none => none) = _
              rw [e1]; dsimp only; rw [e2]
            by_cases q1 : x.toInt < lo
            · obtain ⟨S', rfl, h4, h5⟩ := dz_way_ok hG2 hx (dz_ok_cst lo) (c := .lt) q1 k1
              refine ⟨t, S', w, List.mem_append.mpr (Or.inl List.mem_cons_self), hgo dflt t ?_ ht, h4, h5⟩
              unfold cz_tab; rw [decide_eq_true q1]; rfl
            · by_cases q2 : hi < x.toInt
              · obtain ⟨S', rfl, h4, h5⟩ := dz_way_ok hG2 hx (dz_ok_cst hi) (c := .gt) q2 k2
                refine ⟨t, S', w, List.mem_append.mpr (Or.inr (List.mem_append.mpr (Or.inl List.mem_cons_self))), hgo dflt t ?_ ht, h4, h5⟩
                unfold cz_tab; rw [decide_eq_true q2, Bool.or_true]; rfl
              · obtain ⟨off, t', S', h4, h5, h6, h7⟩ := dz_tabs_ok hG2 hx k3 (x.toInt - lo).toNat (by omega) (by omega)
                refine ⟨t', S', w, List.mem_append.mpr (Or.inr (List.mem_append.mpr (Or.inr h6))), hgo off t' ?_ h5, h7⟩
                unfold cz_tab; rw [decide_eq_false q1, decide_eq_false q2]
                show offs[(x.toInt - lo).toNat]? = some off
                rw [← h4, Array.getElem?_toList]
          · cases hr
        · cases hr
    · cases hr
  all_goals (exact absurd hr (by simp [dz_br]))
end DzBr
