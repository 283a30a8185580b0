/-! L2, part 1: linear expressions over numbered unknowns; a sum of what is known to be at least 0 as a certificate. -/
abbrev dz_T : Type := List (Nat × Int)
abbrev dz_E : Type := Int × dz_T
def dz_ev (ρ : Nat → Int) : dz_T → Int
  | [] => 0
  | t :: r => t.2 * ρ t.1 + dz_ev ρ r
/-- the expression speaks of unknowns below n, and its value is x -/
def dz_ok (n : Nat) (ρ : Nat → Int) (e : dz_E) (x : Int) : Prop := (∀ t ∈ e.2, t.1 < n) ∧ e.1 + dz_ev ρ e.2 = x
def dz_z (c : Int) : Bool := match c with
  | .ofNat n => Nat.beq n 0
  | .negSucc _ => false
def dz_nn (c : Int) : Bool := match c with
  | .ofNat _ => true
  | .negSucc _ => false
theorem dz_z_ok {c : Int} (h : dz_z c = true) : c = 0 := by
  cases c with
  | ofNat n => have := Nat.eq_of_beq_eq_true h; subst this; rfl
  | negSucc n => cases h
theorem dz_nn_ok {c : Int} (h : dz_nn c = true) : 0 ≤ c := by
  cases c with
  | ofNat n => exact Int.natCast_nonneg n
  | negSucc n => cases h
noncomputable def dz_fn {α : Type} (n : Nat) (k : Nat → α) : α := Nat.rec (k 0) (fun m _ => k m) (Nat.add n 1)
theorem dz_fn_eq {α : Type} (n : Nat) (k : Nat → α) : dz_fn n k = k n := rfl
/-- a number brought to its plain form first -/
noncomputable def dz_fi {α : Type} (c : Int) (k : Int → α) : α := match c with
  | .ofNat n => dz_fn n (fun m => k (.ofNat m))
  | .negSucc n => dz_fn n (fun m => k (.negSucc m))
theorem dz_fi_eq {α : Type} (c : Int) (k : Int → α) : dz_fi c k = k c := by
  cases c <;> rfl
noncomputable def dz_cons (i : Nat) (c : Int) (r : dz_T) : dz_T := dz_fi c (fun d => bif dz_z d then r else (i, d) :: r)
noncomputable def dz_mg (a : dz_T) : dz_T → dz_T := List.rec (fun b => b) (fun x xs ih b => List.rec (x :: xs) (fun y ys ih2 => bif Nat.blt x.1 y.1 then x :: ih (y :: ys) else bif Nat.blt y.1 x.1 then y :: ih2 else dz_cons x.1 (Int.add x.2 y.2) (ih ys)) b) a
theorem dz_cons_ev (ρ : Nat → Int) (i : Nat) (c : Int) (r : dz_T) : dz_ev ρ (dz_cons i c r) = c * ρ i + dz_ev ρ r := by
  unfold dz_cons
  rw [dz_fi_eq]
  cases h : dz_z c with
  | true => rw [dz_z_ok h]; simp
  | false => rfl
theorem dz_cons_lt {n i : Nat} {c : Int} {r : dz_T} (hi : i < n) (hr : ∀ t ∈ r, t.1 < n) : ∀ t ∈ dz_cons i c r, t.1 < n := by
  unfold dz_cons
  rw [dz_fi_eq]
  cases h : dz_z c with
  | true => exact hr
  | false =>
    intro t ht
    rcases List.mem_cons.mp ht with rfl | ht
    · exact hi
    · exact hr t ht
theorem dz_mg_cons (x : Nat × Int) (xs : dz_T) (y : Nat × Int) (ys : dz_T) : dz_mg (x :: xs) (y :: ys) = bif Nat.blt x.1 y.1 then x :: dz_mg xs (y :: ys) else bif Nat.blt y.1 x.1 then y :: dz_mg (x :: xs) ys else dz_cons x.1 (Int.add x.2 y.2) (dz_mg xs ys) := rfl
theorem dz_mg_ev (ρ : Nat → Int) : ∀ a b : dz_T, dz_ev ρ (dz_mg a b) = dz_ev ρ a + dz_ev ρ b
  | [], b => by show dz_ev ρ b = 0 + dz_ev ρ b; omega
  | x :: xs, [] => by show dz_ev ρ (x :: xs) = dz_ev ρ (x :: xs) + 0; omega
  | x :: xs, y :: ys => by
    rw [dz_mg_cons]
    have e1 : dz_ev ρ (x :: xs) = x.2 * ρ x.1 + dz_ev ρ xs := rfl
    have e2 : dz_ev ρ (y :: ys) = y.2 * ρ y.1 + dz_ev ρ ys := rfl
    cases h1 : Nat.blt x.1 y.1 with
    | true =>
      have := dz_mg_ev ρ xs (y :: ys)
      show x.2 * ρ x.1 + dz_ev ρ (dz_mg xs (y :: ys)) = _
      rw [this, e1, e2]; omega
    | false =>
      cases h2 : Nat.blt y.1 x.1 with
      | true =>
        have := dz_mg_ev ρ (x :: xs) ys
        show y.2 * ρ y.1 + dz_ev ρ (dz_mg (x :: xs) ys) = _
        rw [this, e1, e2]; omega
      | false =>
        have := dz_mg_ev ρ xs ys
        have hx : x.1 = y.1 := by
          have a1 : ¬ x.1 < y.1 := fun w => by rw [Nat.blt_eq.mpr w] at h1; cases h1
          have a2 : ¬ y.1 < x.1 := fun w => by rw [Nat.blt_eq.mpr w] at h2; cases h2
          omega
        show dz_ev ρ (dz_cons x.1 (Int.add x.2 y.2) (dz_mg xs ys)) = _
        rw [dz_cons_ev, this, e1, e2, ← hx]
        have : Int.add x.2 y.2 * ρ x.1 = x.2 * ρ x.1 + y.2 * ρ x.1 := Int.add_mul _ _ _
        omega
theorem dz_mg_lt {n : Nat} : ∀ {a b : dz_T}, (∀ t ∈ a, t.1 < n) → (∀ t ∈ b, t.1 < n) → ∀ t ∈ dz_mg a b, t.1 < n
  | [], b, _, hb => hb
  | x :: xs, [], ha, _ => ha
  | x :: xs, y :: ys, ha, hb => by
    rw [dz_mg_cons]
    have hx := ha x List.mem_cons_self
    have hy := hb y List.mem_cons_self
    have hxs : ∀ t ∈ xs, t.1 < n := fun t ht => ha t (List.mem_cons_of_mem _ ht)
    have hys : ∀ t ∈ ys, t.1 < n := fun t ht => hb t (List.mem_cons_of_mem _ ht)
    cases h1 : Nat.blt x.1 y.1 with
    | true =>
      intro t ht
      rcases List.mem_cons.mp ht with rfl | ht
      · exact hx
      · exact dz_mg_lt hxs hb t ht
    | false =>
      cases h2 : Nat.blt y.1 x.1 with
      | true =>
        intro t ht
        rcases List.mem_cons.mp ht with rfl | ht
        · exact hy
        · exact dz_mg_lt ha hys t ht
      | false => exact dz_cons_lt hx (dz_mg_lt hxs hys)
noncomputable def dz_sc (c : Int) (l : dz_T) : dz_T := List.rec [] (fun t _ ih => dz_cons t.1 (Int.mul c t.2) ih) l
theorem dz_sc_ev (ρ : Nat → Int) (c : Int) : ∀ l : dz_T, dz_ev ρ (dz_sc c l) = c * dz_ev ρ l
  | [] => by show 0 = c * 0; omega
  | t :: r => by
    show dz_ev ρ (dz_cons t.1 (Int.mul c t.2) (dz_sc c r)) = c * (t.2 * ρ t.1 + dz_ev ρ r)
    rw [dz_cons_ev, dz_sc_ev ρ c r, Int.mul_add, ← Int.mul_assoc]
    rfl
theorem dz_sc_lt {n : Nat} {c : Int} : ∀ {l : dz_T}, (∀ t ∈ l, t.1 < n) → ∀ t ∈ dz_sc c l, t.1 < n
  | [], _ => fun t ht => by cases ht
  | q :: r, h => dz_cons_lt (h q List.mem_cons_self) (dz_sc_lt fun t ht => h t (List.mem_cons_of_mem _ ht))
noncomputable def dz_add (a b : dz_E) : dz_E := dz_fi (Int.add a.1 b.1) (fun c => (c, dz_mg a.2 b.2))
noncomputable def dz_mul (c : Int) (a : dz_E) : dz_E := dz_fi (Int.mul c a.1) (fun d => (d, dz_sc c a.2))
noncomputable def dz_sub (a b : dz_E) : dz_E := dz_add a (dz_mul (-1) b)
noncomputable def dz_plus (a : dz_E) (c : Int) : dz_E := dz_fi (Int.add a.1 c) (fun d => (d, a.2))
def dz_cst (c : Int) : dz_E := (c, [])
def dz_var (i : Nat) : dz_E := (0, [(i, 1)])
section DzLin
variable {n : Nat} {ρ : Nat → Int} {a b : dz_E} {x y : Int}
theorem dz_ok_add (ha : dz_ok n ρ a x) (hb : dz_ok n ρ b y) : dz_ok n ρ (dz_add a b) (x + y) := by
  unfold dz_add
  rw [dz_fi_eq]
  refine ⟨dz_mg_lt ha.1 hb.1, ?_⟩
  have h1 := ha.2
  have h2 := hb.2
  show Int.add a.1 b.1 + dz_ev ρ (dz_mg a.2 b.2) = x + y
  rw [dz_mg_ev]
  show a.1 + b.1 + _ = _
  omega
theorem dz_ok_mul (c : Int) (ha : dz_ok n ρ a x) : dz_ok n ρ (dz_mul c a) (c * x) := by
  unfold dz_mul
  rw [dz_fi_eq]
  refine ⟨dz_sc_lt ha.1, ?_⟩
  show Int.mul c a.1 + dz_ev ρ (dz_sc c a.2) = c * x
  rw [dz_sc_ev, ← ha.2, Int.mul_add]
  rfl
theorem dz_ok_sub (ha : dz_ok n ρ a x) (hb : dz_ok n ρ b y) : dz_ok n ρ (dz_sub a b) (x - y) := by
  have := dz_ok_add ha (dz_ok_mul (-1) hb)
  rw [show x - y = x + -1 * y by omega]
  exact this
theorem dz_ok_plus (c : Int) (ha : dz_ok n ρ a x) : dz_ok n ρ (dz_plus a c) (x + c) := by
  unfold dz_plus
  rw [dz_fi_eq]
  refine ⟨ha.1, ?_⟩
  have := ha.2
  show a.1 + c + dz_ev ρ a.2 = x + c
  omega
theorem dz_ok_cst (c : Int) : dz_ok n ρ (dz_cst c) c := ⟨fun t ht => (by cases ht), by show c + 0 = c; omega⟩
theorem dz_ok_var {i : Nat} (h : i < n) : dz_ok n ρ (dz_var i) (ρ i) := by
  refine ⟨fun t ht => ?_, ?_⟩
  · rw [List.mem_singleton.mp ht]; exact h
  · show 0 + (1 * ρ i + 0) = ρ i
    omega
theorem dz_ok_uniq (ha : dz_ok n ρ a x) (hb : dz_ok n ρ a y) : x = y := ha.2.symm.trans hb.2
end DzLin
/-- one unknown more -/
def dz_up (ρ : Nat → Int) (n : Nat) (v : Int) : Nat → Int := fun i => if i = n then v else ρ i
theorem dz_ev_up {ρ : Nat → Int} {n : Nat} {v : Int} : ∀ {l : dz_T}, (∀ t ∈ l, t.1 < n) → dz_ev (dz_up ρ n v) l = dz_ev ρ l
  | [], _ => rfl
  | t :: r, h => by
    have h1 := h t List.mem_cons_self
    show t.2 * dz_up ρ n v t.1 + dz_ev (dz_up ρ n v) r = t.2 * ρ t.1 + dz_ev ρ r
    rw [dz_ev_up fun q hq => h q (List.mem_cons_of_mem _ hq)]
    unfold dz_up
    rw [if_neg (by omega)]
theorem dz_ok_up {n : Nat} {ρ : Nat → Int} {a : dz_E} {x : Int} (v : Int) (h : dz_ok n ρ a x) : dz_ok (n + 1) (dz_up ρ n v) a x :=
  ⟨fun t ht => Nat.lt_succ_of_lt (h.1 t ht), by rw [dz_ev_up h.1]; exact h.2⟩
theorem dz_ok_new {n : Nat} {ρ : Nat → Int} (v : Int) : dz_ok (n + 1) (dz_up ρ n v) (dz_var n) v := by
  have := dz_ok_var (n := n + 1) (ρ := dz_up ρ n v) (Nat.lt_succ_self n)
  unfold dz_up at this
  rw [if_pos rfl] at this
  exact this
/-- what is known: each is at least 0 -/
def dz_Gm (n : Nat) (ρ : Nat → Int) (Γ : List dz_E) : Prop := ∀ c ∈ Γ, ∃ x, 0 ≤ x ∧ dz_ok n ρ c x
theorem dz_Gm.up {n : Nat} {ρ : Nat → Int} {Γ : List dz_E} (v : Int) (h : dz_Gm n ρ Γ) : dz_Gm (n + 1) (dz_up ρ n v) Γ := fun c hc => by
  obtain ⟨x, h1, h2⟩ := h c hc
  exact ⟨x, h1, dz_ok_up v h2⟩
theorem dz_Gm.cons {n : Nat} {ρ : Nat → Int} {Γ : List dz_E} {e : dz_E} {x : Int} (h : dz_Gm n ρ Γ) (he : dz_ok n ρ e x) (hx : 0 ≤ x) : dz_Gm n ρ (e :: Γ) := fun c hc => by
  rcases List.mem_cons.mp hc with rfl | hc
  · exact ⟨x, hx, he⟩
  · exact h c hc
noncomputable def dz_nth {α : Type} (l : List α) : Nat → Option α := List.rec (fun _ => none) (fun a _ ih i => bif Nat.beq i 0 then some a else ih (Nat.pred i)) l
theorem dz_nth_mem {α : Type} {a : α} : ∀ {l : List α} {i : Nat}, dz_nth l i = some a → a ∈ l
  | [], i, h => by cases h
  | b :: r, i, h => by
    have h' : (bif Nat.beq i 0 then some b else dz_nth r (Nat.pred i)) = some a := h
    cases hq : Nat.beq i 0 with
    | true => rw [hq] at h'; cases h'; exact List.mem_cons_self
    | false => rw [hq] at h'; exact List.mem_cons_of_mem _ (dz_nth_mem h')
/-- a certificate: a divisor, and which of the known ones how often -/
abbrev dz_Ct : Type := Nat × List (Nat × Nat)
noncomputable def dz_fk (Γ : List dz_E) (l : List (Nat × Nat)) : Option dz_E := List.rec (some (dz_cst 0)) (fun q _ ih => match dz_nth Γ q.1, ih with
  | some c, some s => some (dz_add (dz_mul (.ofNat q.2) c) s)
  | _, _ => none) l
theorem dz_fk_ok {n : Nat} {ρ : Nat → Int} {Γ : List dz_E} (hG : dz_Gm n ρ Γ) : ∀ {l : List (Nat × Nat)} {s : dz_E}, dz_fk Γ l = some s → ∃ x, 0 ≤ x ∧ dz_ok n ρ s x
  | [], s, h => by cases h; exact ⟨0, by omega, dz_ok_cst 0⟩
  | q :: r, s, h => by
    have h' : (match dz_nth Γ q.1, dz_fk Γ r with
      | some c, some s => some (dz_add (dz_mul (.ofNat q.2) c) s)
      | _, _ => none) = some s := h
    split at h'
    · rename_i c s' hc hs
      cases h'
      obtain ⟨x, h1, h2⟩ := hG c (dz_nth_mem hc)
      obtain ⟨y, h3, h4⟩ := dz_fk_ok hG hs
      exact ⟨_, Int.add_nonneg (Int.mul_nonneg (Int.natCast_nonneg q.2) h1) h3, dz_ok_add (dz_ok_mul _ h2) h4⟩
    · cases h'
noncomputable def dz_pf (Γ : List dz_E) (ct : dz_Ct) (e : dz_E) : Bool := match dz_fk Γ ct.2 with
  | some s => (match dz_sub (dz_mul (.ofNat (Nat.succ ct.1)) e) s with
    | (c, []) => dz_nn (Int.add c (.ofNat ct.1))
    | _ => false)
  | none => false
theorem dz_pf_ok {n : Nat} {ρ : Nat → Int} {Γ : List dz_E} (hG : dz_Gm n ρ Γ) {ct : dz_Ct} {e : dz_E} {x : Int} (he : dz_ok n ρ e x) (h : dz_pf Γ ct e = true) : 0 ≤ x := by
  unfold dz_pf at h
  split at h
  · rename_i s hs
    obtain ⟨y, hy, hoy⟩ := dz_fk_ok hG hs
    have h3 := dz_ok_sub (dz_ok_mul (.ofNat (Nat.succ ct.1)) he) hoy
    split at h
    · rename_i c hc
      rw [hc] at h3
      have h4 : c + 0 = _ := h3.2
      have h5 := dz_nn_ok h
      have h6 : (0 : Int) ≤ c + (ct.1 : Int) := h5
      have h7 : Int.ofNat (Nat.succ ct.1) * x = ((ct.1 : Int) + 1) * x := rfl
      rw [h7] at h4
      by_cases hx : 0 ≤ x
      · exact hx
      · exfalso
        have h8 : ((ct.1 : Int) + 1) * x ≤ ((ct.1 : Int) + 1) * (-1) := Int.mul_le_mul_of_nonneg_left (by omega) (by omega)
        omega
    · cases h
  · cases h
