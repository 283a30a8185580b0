/-! L2, part 1: linear expressions over numbered unknowns; a sum of what is known to be at least 0 as a certificate. -/
abbrev dz_T : Type := List (Nat × Int)
abbrev dz_E : Type := Int × dz_T
def dz_ev (ρ : Nat → Int) : dz_T → Int
  | [] => 0
  | t :: r => t.2 * ρ t.1 + dz_ev ρ r
/-- the expression speaks of unknowns below n, and its value is x -/
def dz_ok (n : Nat) (ρ : Nat → Int) (e : dz_E) (x : Int) : Prop := (∀ t ∈ e.2, t.1 < n) ∧ e.1 + dz_ev ρ e.2 = x
def dz_z (c : Int) : Bool := match c with
  | .ofNat n => Nat.beq n 0
  | .negSucc _ => false
def dz_nn (c : Int) : Bool := match c with
  | .ofNat _ => true
  | .negSucc _ => false
theorem dz_z_ok {c : Int} (h : dz_z c = true) : c = 0 := by
  cases c with
  | ofNat n => have := Nat.eq_of_beq_eq_true h; subst this; rfl
  | negSucc n => cases h
theorem dz_nn_ok {c : Int} (h : dz_nn c = true) : 0 ≤ c := by
  cases c with
  | ofNat n => exact Int.natCast_nonneg n
  | negSucc n => cases h
noncomputable def dz_fn {α : Type} (n : Nat) (k : Nat → α) : α := Nat.rec (k 0) (fun m _ => k m) (Nat.add n 1)
theorem dz_fn_eq {α : Type} (n : Nat) (k : Nat → α) : dz_fn n k = k n := rfl
/-- a number brought to its plain form first -/
noncomputable def dz_fi {α : Type} (c : Int) (k : Int → α) : α := match c with
  | .ofNat n => dz_fn n (fun m => k (.ofNat m))
  | .negSucc n => dz_fn n (fun m => k (.negSucc m))
theorem dz_fi_eq {α : Type} (c : Int) (k : Int → α) : dz_fi c k = k c := by
  cases c <;> rfl
noncomputable def dz_cons (i : Nat) (c : Int) (r : dz_T) : dz_T := dz_fi c (fun d => bif dz_z d then r else (i, d) :: r)
noncomputable def dz_mg (a : dz_T) : dz_T → dz_T := List.rec (fun b => b) (fun x xs ih b => List.rec (x :: xs) (fun y ys ih2 => bif Nat.blt x.1 y.1 then x :: ih (y :: ys) else bif Nat.blt y.1 x.1 then y :: ih2 else dz_cons x.1 (Int.add x.2 y.2) (ih ys)) b) a
theorem dz_cons_ev (ρ : Nat → Int) (i : Nat) (c : Int) (r : dz_T) : dz_ev ρ (dz_cons i c r) = c * ρ i + dz_ev ρ r := by
  unfold dz_cons
  rw [dz_fi_eq]
  cases h : dz_z c with
  | true => rw [dz_z_ok h]; simp
  | false => rfl
theorem dz_cons_lt {n i : Nat} {c : Int} {r : dz_T} (hi : i < n) (hr : ∀ t ∈ r, t.1 < n) : ∀ t ∈ dz_cons i c r, t.1 < n := by
  unfold dz_cons
  rw [dz_fi_eq]
  cases h : dz_z c with
  | true => exact hr
  | false =>
    intro t ht
    rcases List.mem_cons.mp ht with rfl | ht
    · exact hi
    · exact hr t ht
theorem dz_mg_cons (x : Nat × Int) (xs : dz_T) (y : Nat × Int) (ys : dz_T) : dz_mg (x :: xs) (y :: ys) = bif Nat.blt x.1 y.1 then x :: dz_mg xs (y :: ys) else bif Nat.blt y.1 x.1 then y :: dz_mg (x :: xs) ys else dz_cons x.1 (Int.add x.2 y.2) (dz_mg xs ys) := rfl
theorem dz_mg_ev (ρ : Nat → Int) : ∀ a b : dz_T, dz_ev ρ (dz_mg a b) = dz_ev ρ a + dz_ev ρ b
  | [], b => by show dz_ev ρ b = 0 + dz_ev ρ b; omega
  | x :: xs, [] => by show dz_ev ρ (x :: xs) = dz_ev ρ (x :: xs) + 0; omega
  | x :: xs, y :: ys => by
    rw [dz_mg_cons]
    have e1 : dz_ev ρ (x :: xs) = x.2 * ρ x.1 + dz_ev ρ xs := rfl
    have e2 : dz_ev ρ (y :: ys) = y.2 * ρ y.1 + dz_ev ρ ys := rfl
    cases h1 : Nat.blt x.1 y.1 with
    | true =>
      have := dz_mg_ev ρ xs (y :: ys)
      show x.2 * ρ x.1 + dz_ev ρ (dz_mg xs (y :: ys)) = _
      rw [this, e1, e2]; omega
    | false =>
      cases h2 : Nat.blt y.1 x.1 with
      | true =>
        have := dz_mg_ev ρ (x :: xs) ys
        show y.2 * ρ y.1 + dz_ev ρ (dz_mg (x :: xs) ys) = _
        rw [this, e1, e2]; omega
      | false =>
        have := dz_mg_ev ρ xs ys
        have hx : x.1 = y.1 := by
          have a1 : ¬ x.1 < y.1 := fun w => by rw [Nat.blt_eq.mpr w] at h1; cases h1
          have a2 : ¬ y.1 < x.1 := fun w => by rw [Nat.blt_eq.mpr w] at h2; cases h2
          omega
        show dz_ev ρ (dz_cons x.1 (Int.add x.2 y.2) (dz_mg xs ys)) = _
        rw [dz_cons_ev, this, e1, e2, ← hx]
        have : Int.add x.2 y.2 * ρ x.1 = x.2 * ρ x.1 + y.2 * ρ x.1 := Int.add_mul _ _ _
        omega
theorem dz_mg_lt {n : Nat} : ∀ {a b : dz_T}, (∀ t ∈ a, t.1 < n) → (∀ t ∈ b, t.1 < n) → ∀ t ∈ dz_mg a b, t.1 < n
  | [], b, _, hb => hb
  | x :: xs, [], ha, _ => ha
  | x :: xs, y :: ys, ha, hb => by
    rw [dz_mg_cons]
    have hx := ha x List.mem_cons_self
    have hy := hb y List.mem_cons_self
    have hxs : ∀ t ∈ xs, t.1 < n := fun t ht => ha t (List.mem_cons_of_mem _ ht)
    have hys : ∀ t ∈ ys, t.1 < n := fun t ht => hb t (List.mem_cons_of_mem _ ht)
    cases h1 : Nat.blt x.1 y.1 with
    | true =>
      intro t ht
      rcases List.mem_cons.mp ht with rfl | ht
      · exact hx
      · exact dz_mg_lt hxs hb t ht
    | false =>
      cases h2 : Nat.blt y.1 x.1 with
      | true =>
        intro t ht
        rcases List.mem_cons.mp ht with rfl | ht
        · exact hy
        · exact dz_mg_lt ha hys t ht
      | false => exact dz_cons_lt hx (dz_mg_lt hxs hys)
noncomputable def dz_sc (c : Int) (l : dz_T) : dz_T := List.rec [] (fun t _ ih => dz_cons t.1 (Int.mul c t.2) ih) l
theorem dz_sc_ev (ρ : Nat → Int) (c : Int) : ∀ l : dz_T, dz_ev ρ (dz_sc c l) = c * dz_ev ρ l
  | [] => by show 0 = c * 0; omega
  | t :: r => by
    show dz_ev ρ (dz_cons t.1 (Int.mul c t.2) (dz_sc c r)) = c * (t.2 * ρ t.1 + dz_ev ρ r)
    rw [dz_cons_ev, dz_sc_ev ρ c r, Int.mul_add, ← Int.mul_assoc]
    rfl
theorem dz_sc_lt {n : Nat} {c : Int} : ∀ {l : dz_T}, (∀ t ∈ l, t.1 < n) → ∀ t ∈ dz_sc c l, t.1 < n
  | [], _ => fun t ht => by cases ht
  | q :: r, h => dz_cons_lt (h q List.mem_cons_self) (dz_sc_lt fun t ht => h t (List.mem_cons_of_mem _ ht))
noncomputable def dz_add (a b : dz_E) : dz_E := dz_fi (Int.add a.1 b.1) (fun c => (c, dz_mg a.2 b.2))
noncomputable def dz_mul (c : Int) (a : dz_E) : dz_E := dz_fi (Int.mul c a.1) (fun d => (d, dz_sc c a.2))
noncomputable def dz_sub (a b : dz_E) : dz_E := dz_add a (dz_mul (-1) b)
noncomputable def dz_plus (a : dz_E) (c : Int) : dz_E := dz_fi (Int.add a.1 c) (fun d => (d, a.2))
def dz_cst (c : Int) : dz_E := (c, [])
def dz_var (i : Nat) : dz_E := (0, [(i, 1)])
section DzLin
variable {n : Nat} {ρ : Nat → Int} {a b : dz_E} {x y : Int}
theorem dz_ok_add (ha : dz_ok n ρ a x) (hb : dz_ok n ρ b y) : dz_ok n ρ (dz_add a b) (x + y) := by
  unfold dz_add
  rw [dz_fi_eq]
  refine ⟨dz_mg_lt ha.1 hb.1, ?_⟩
  have h1 := ha.2
  have h2 := hb.2
  show Int.add a.1 b.1 + dz_ev ρ (dz_mg a.2 b.2) = x + y
  rw [dz_mg_ev]
  show a.1 + b.1 + _ = _
  omega
theorem dz_ok_mul (c : Int) (ha : dz_ok n ρ a x) : dz_ok n ρ (dz_mul c a) (c * x) := by
  unfold dz_mul
  rw [dz_fi_eq]
  refine ⟨dz_sc_lt ha.1, ?_⟩
  show Int.mul c a.1 + dz_ev ρ (dz_sc c a.2) = c * x
  rw [dz_sc_ev, ← ha.2, Int.mul_add]
  rfl
theorem dz_ok_sub (ha : dz_ok n ρ a x) (hb : dz_ok n ρ b y) : dz_ok n ρ (dz_sub a b) (x - y) := by
  have := dz_ok_add ha (dz_ok_mul (-1) hb)
  rw [show x - y = x + -1 * y by omega]
  exact this
theorem dz_ok_plus (c : Int) (ha : dz_ok n ρ a x) : dz_ok n ρ (dz_plus a c) (x + c) := by
  unfold dz_plus
  rw [dz_fi_eq]
  refine ⟨ha.1, ?_⟩
  have := ha.2
  show a.1 + c + dz_ev ρ a.2 = x + c
  omega
theorem dz_ok_cst (c : Int) : dz_ok n ρ (dz_cst c) c := ⟨fun t ht => (by cases ht), by show c + 0 = c; omega⟩
theorem dz_ok_var {i : Nat} (h : i < n) : dz_ok n ρ (dz_var i) (ρ i) := by
  refine ⟨fun t ht => ?_, ?_⟩
  · rw [List.mem_singleton.mp ht]; exact h
  · show 0 + (1 * ρ i + 0) = ρ i
    omega
theorem dz_ok_uniq (ha : dz_ok n ρ a x) (hb : dz_ok n ρ a y) : x = y := ha.2.symm.trans hb.2
end DzLin
/-- one unknown more -/
def dz_up (ρ : Nat → Int) (n : Nat) (v : Int) : Nat → Int := fun i => if i = n then v else ρ i
theorem dz_ev_up {ρ : Nat → Int} {n : Nat} {v : Int} : ∀ {l : dz_T}, (∀ t ∈ l, t.1 < n) → dz_ev (dz_up ρ n v) l = dz_ev ρ l
  | [], _ => rfl
  | t :: r, h => by
    have h1 := h t List.mem_cons_self
    show t.2 * dz_up ρ n v t.1 + dz_ev (dz_up ρ n v) r = t.2 * ρ t.1 + dz_ev ρ r
    rw [dz_ev_up fun q hq => h q (List.mem_cons_of_mem _ hq)]
    unfold dz_up
    rw [if_neg (by omega)]
theorem dz_ok_up {n : Nat} {ρ : Nat → Int} {a : dz_E} {x : Int} (v : Int) (h : dz_ok n ρ a x) : dz_ok (n + 1) (dz_up ρ n v) a x :=
  ⟨fun t ht => Nat.lt_succ_of_lt (h.1 t ht), by rw [dz_ev_up h.1]; exact h.2⟩
theorem dz_ok_new {n : Nat} {ρ : Nat → Int} (v : Int) : dz_ok (n + 1) (dz_up ρ n v) (dz_var n) v := by
  have := dz_ok_var (n := n + 1) (ρ := dz_up ρ n v) (Nat.lt_succ_self n)
  unfold dz_up at this
  rw [if_pos rfl] at this
  exact this
/-- what is known: each is at least 0 -/
def dz_Gm (n : Nat) (ρ : Nat → Int) (Γ : List dz_E) : Prop := ∀ c ∈ Γ, ∃ x, 0 ≤ x ∧ dz_ok n ρ c x
theorem dz_Gm.up {n : Nat} {ρ : Nat → Int} {Γ : List dz_E} (v : Int) (h : dz_Gm n ρ Γ) : dz_Gm (n + 1) (dz_up ρ n v) Γ := fun c hc => by
  obtain ⟨x, h1, h2⟩ := h c hc
  exact ⟨x, h1, dz_ok_up v h2⟩
theorem dz_Gm.cons {n : Nat} {ρ : Nat → Int} {Γ : List dz_E} {e : dz_E} {x : Int} (h : dz_Gm n ρ Γ) (he : dz_ok n ρ e x) (hx : 0 ≤ x) : dz_Gm n ρ (e :: Γ) := fun c hc => by
  rcases List.mem_cons.mp hc with rfl | hc
  · exact ⟨x, hx, he⟩
  · exact h c hc
noncomputable def dz_nth {α : Type} (l : List α) : Nat → Option α := List.rec (fun _ => none) (fun a _ ih i => bif Nat.beq i 0 then some a else ih (Nat.pred i)) l
theorem dz_nth_mem {α : Type} {a : α} : ∀ {l : List α} {i : Nat}, dz_nth l i = some a → a ∈ l
  | [], i, h => by cases h
  | b :: r, i, h => by
    have h' : (bif Nat.beq i 0 then some b else dz_nth r (Nat.pred i)) = some a := h
    cases hq : Nat.beq i 0 with
    | true => rw [hq] at h'; cases h'; exact List.mem_cons_self
    | false => rw [hq] at h'; exact List.mem_cons_of_mem _ (dz_nth_mem h')
/-- a certificate: a divisor, and which of the known ones how often -/
abbrev dz_Ct : Type := Nat × List (Nat × Nat)
noncomputable def dz_fk (Γ : List dz_E) (l : List (Nat × Nat)) : Option dz_E := List.rec (some (dz_cst 0)) (fun q _ ih => match dz_nth Γ q.1, ih with
  | some c, some s => some (dz_add (dz_mul (.ofNat q.2) c) s)
  | _, _ => none) l
theorem dz_fk_ok {n : Nat} {ρ : Nat → Int} {Γ : List dz_E} (hG : dz_Gm n ρ Γ) : ∀ {l : List (Nat × Nat)} {s : dz_E}, dz_fk Γ l = some s → ∃ x, 0 ≤ x ∧ dz_ok n ρ s x
  | [], s, h => by cases h; exact ⟨0, by omega, dz_ok_cst 0⟩
  | q :: r, s, h => by
    have h' : (match dz_nth Γ q.1, dz_fk Γ r with
      | some c, some s => some (dz_add (dz_mul (.ofNat q.2) c) s)
      | _, _ => none) = some s := h
    split at h'
    · rename_i c s' hc hs
      cases h'
      obtain ⟨x, h1, h2⟩ := hG c (dz_nth_mem hc)
      obtain ⟨y, h3, h4⟩ := dz_fk_ok hG hs
      exact ⟨_, Int.add_nonneg (Int.mul_nonneg (Int.natCast_nonneg q.2) h1) h3, dz_ok_add (dz_ok_mul _ h2) h4⟩
    · cases h'
noncomputable def dz_pf (Γ : List dz_E) (ct : dz_Ct) (e : dz_E) : Bool := match dz_fk Γ ct.2 with
  | some s => (match dz_sub (dz_mul (.ofNat (Nat.succ ct.1)) e) s with
    | (c, []) => dz_nn (Int.add c (.ofNat ct.1))
    | _ => false)
  | none => false
theorem dz_pf_ok {n : Nat} {ρ : Nat → Int} {Γ : List dz_E} (hG : dz_Gm n ρ Γ) {ct : dz_Ct} {e : dz_E} {x : Int} (he : dz_ok n ρ e x) (h : dz_pf Γ ct e = true) : 0 ≤ x := by
  unfold dz_pf at h
  split at h
  · rename_i s hs
    obtain ⟨y, hy, hoy⟩ := dz_fk_ok hG hs
    have h3 := dz_ok_sub (dz_ok_mul (.ofNat (Nat.succ ct.1)) he) hoy
    split at h
    · rename_i c hc
      rw [hc] at h3
      have h4 : c + 0 = _ := h3.2
      have h5 := dz_nn_ok h
      have h6 : (0 : Int) ≤ c + (ct.1 : Int) := h5
      have h7 : Int.ofNat (Nat.succ ct.1) * x = ((ct.1 : Int) + 1) * x := rfl
      rw [h7] at h4
      by_cases hx : 0 ≤ x
      · exact hx
      · exfalso
        have h8 : ((ct.1 : Int) + 1) * x ≤ ((ct.1 : Int) + 1) * (-1) := Int.mul_le_mul_of_nonneg_left (by omega) (by omega)
        omega
    · cases h
  · cases h
/-! L2, part 2: the machine ends from here, and so that .. (more fuel changes nothing); a step at a time. -/
def dz_le (i1 i2 : cz_Ih) : Prop := ∀ d M pc L st h F, i1 d M pc L st h = some F → i2 d M pc L st h = some F
theorem dz_sK_mono {i1 i2 : cz_Ih} (hi : dz_le i1 i2) {d : Nat} {M : cz_M} {pc : Nat} {L : List (Nat × cz_V)} {rest : List cz_V} {q F : cz_F} (h : cz_sK i1 d M pc L rest q = some F) : cz_sK i2 d M pc L rest q = some F := by
  obtain ⟨(_ | w) | r, hh⟩ := q
  · exact hi _ _ _ _ _ _ _ h
  · exact hi _ _ _ _ _ _ _ h
  · have h1 : (match cz_exc hh r with
      | some k => (match cz_catch M pc k M.2.1.2.2.2 with
        | some (some t) => i1 d M t L [.inr (.inr (some r))] hh
        | some none => bif M.2.1.2.2.2.isEmpty then some (.inr r, hh) else none
        | none => none)
      | none => none) = some F := h
    show (match cz_exc hh r with
      | some k => (match cz_catch M pc k M.2.1.2.2.2 with
        | some (some t) => i2 d M t L [.inr (.inr (some r))] hh
        | some none => bif M.2.1.2.2.2.isEmpty then some (.inr r, hh) else none
        | none => none)
      | none => none) = some F
    revert h1
    cases cz_exc hh r with
    | none => exact id
    | some k =>
      dsimp only
      cases cz_catch M pc k M.2.1.2.2.2 with
      | none => exact id
      | some o => cases o with
        | none => exact id
        | some t => exact hi _ _ _ _ _ _ _
theorem dz_sC_mono {P : cz_P} {i1 i2 : cz_Ih} (hi : dz_le i1 i2) {d : Nat} {M : cz_M} {pc : Nat} {L : List (Nat × cz_V)} {h : cz_H} {o : Option (Nat × List cz_V × List cz_V)} {F : cz_F} (hx : cz_sC P i1 d M pc L h o = some F) : cz_sC P i2 d M pc L h o = some F := by
  obtain _ | ⟨y, as, rest⟩ := o
  · cases hx
  · have h1 : (match P.1[y]? with
      | some M' => bif (Nat.blt 0 d && cz_room h 0 0) && Nat.ble (cz_cat2 rest + (M'.2.1.2.1 + 11)) 100 && Nat.ble (cz_cat2 as) M'.2.1.2.1 then (match i1 (d - 1) M' 0 (cz_argl 0 as) [] h with
        | some q => cz_sK i1 d M pc L rest q
        | none => none) else none
      | none => none) = some F := hx
    show (match P.1[y]? with
      | some M' => bif (Nat.blt 0 d && cz_room h 0 0) && Nat.ble (cz_cat2 rest + (M'.2.1.2.1 + 11)) 100 && Nat.ble (cz_cat2 as) M'.2.1.2.1 then (match i2 (d - 1) M' 0 (cz_argl 0 as) [] h with
        | some q => cz_sK i2 d M pc L rest q
        | none => none) else none
      | none => none) = some F
    revert h1
    cases P.1[y]? with
    | none => exact id
    | some M' =>
      dsimp only
      cases ((Nat.blt 0 d && cz_room h 0 0) && Nat.ble (cz_cat2 rest + (M'.2.1.2.1 + 11)) 100 && Nat.ble (cz_cat2 as) M'.2.1.2.1) with
      | false => exact id
      | true =>
        dsimp only [cond_true]
        cases h2 : i1 (d - 1) M' 0 (cz_argl 0 as) [] h with
        | none => intro w; cases w
        | some q =>
          rw [hi _ _ _ _ _ _ _ h2]
          exact dz_sK_mono hi
theorem dz_s_mono {P : cz_P} {i1 i2 : cz_Ih} (hi : dz_le i1 i2) {d : Nat} {M : cz_M} {pc : Nat} {L : List (Nat × cz_V)} {st : List cz_V} {h : cz_H} {i : Instr} {len : Nat} {F : cz_F} (hx : cz_s P i1 d M pc L st h i len = some F) : cz_s P i2 d M pc L st h i len = some F := by
  unfold cz_s at hx ⊢
  revert hx
  cases cz_pure i M.2.1.2.1 L st with
  | some q =>
    dsimp only
    cases Nat.beq len (cz_len i) with
    | false => exact id
    | true => exact hi _ _ _ _ _ _ _
  | none =>
    dsimp only
    cases cz_br i pc st with
    | some q =>
      dsimp only
      cases (Nat.beq len (cz_len i) || cz_isw i) with
      | false => exact id
      | true => exact hi _ _ _ _ _ _ _
    | none =>
      dsimp only
      cases Nat.beq len (cz_len i) with
      | false => exact id
      | true =>
        dsimp only [cond_true]
        cases cz_ret i M.2.1.2.2.1 st with
        | some v => exact id
        | none =>
          dsimp only
          cases cz_throw M pc i with
          | some k => exact id
          | none =>
            dsimp only
            cases cz_hp P M d pc st h i with
            | some q => exact hi _ _ _ _ _ _ _
            | none => exact dz_sC_mono hi
theorem dz_x_succ (P : cz_P) : ∀ n, dz_le (cz_x P n) (cz_x P (n + 1))
  | 0 => fun d M pc L st h F hx => by cases hx
  | n + 1 => fun d M pc L st h F hx => by
    have ih := dz_x_succ P n
    have h1 : (match cz_code M pc with
      | some (i, len) => cz_s P (cz_x P n) d M pc L st h i len
      | none => none) = some F := hx
    show (match cz_code M pc with
      | some (i, len) => cz_s P (cz_x P (n + 1)) d M pc L st h i len
      | none => none) = some F
    revert h1
    cases cz_code M pc with
    | none => exact id
    | some q => exact dz_s_mono ih
theorem dz_x_mono (P : cz_P) (n : Nat) : ∀ k, dz_le (cz_x P n) (cz_x P (n + k))
  | 0 => fun d M pc L st h F hx => hx
  | k + 1 => fun d M pc L st h F hx => dz_x_succ P (n + k) d M pc L st h F (dz_x_mono P n k d M pc L st h F hx)
/-- it ends from here, and so -/
def dz_WP (P : cz_P) (d : Nat) (M : cz_M) (pc : Nat) (L : List (Nat × cz_V)) (st : List cz_V) (h : cz_H) (Q : cz_F → Prop) : Prop := ∃ n F, cz_x P n d M pc L st h = some F ∧ Q F
section DzWp
variable {P : cz_P} {d : Nat} {M : cz_M} {pc : Nat} {L : List (Nat × cz_V)} {st : List cz_V} {h : cz_H} {Q : cz_F → Prop} {i : Instr} {len : Nat}
theorem dz_wp_s (hc : cz_code M pc = some (i, len)) (k : ∃ n F, cz_s P (cz_x P n) d M pc L st h i len = some F ∧ Q F) : dz_WP P d M pc L st h Q := by
  obtain ⟨n, F, h1, h2⟩ := k
  refine ⟨n + 1, F, ?_, h2⟩
  show (match cz_code M pc with
    | some (i, len) => cz_s P (cz_x P n) d M pc L st h i len
    | none => none) = some F
  rw [hc]
  exact h1
theorem dz_wp_pure (hc : cz_code M pc = some (i, len)) (hl : Nat.beq len (cz_len i) = true) {q : List (Nat × cz_V) × List cz_V} (hp : cz_pure i M.2.1.2.1 L st = some q) (k : dz_WP P d M (pc + cz_len i) q.1 q.2 h Q) : dz_WP P d M pc L st h Q := by
  obtain ⟨n, F, h1, h2⟩ := k
  refine dz_wp_s hc ⟨n, F, ?_, h2⟩
  unfold cz_s
  rw [hp]
  dsimp only
  rw [hl]
  exact h1
theorem dz_wp_br (hc : cz_code M pc = some (i, len)) (hl : (Nat.beq len (cz_len i) || cz_isw i) = true) (hp : cz_pure i M.2.1.2.1 L st = none) {q : Nat × List cz_V} (hb : cz_br i pc st = some q) (k : dz_WP P d M q.1 L q.2 h Q) : dz_WP P d M pc L st h Q := by
  obtain ⟨n, F, h1, h2⟩ := k
  refine dz_wp_s hc ⟨n, F, ?_, h2⟩
  unfold cz_s
  rw [hp]
  dsimp only
  rw [hb]
  dsimp only
  rw [hl]
  exact h1
theorem dz_wp_ret (hc : cz_code M pc = some (i, len)) (hl : Nat.beq len (cz_len i) = true) (hp : cz_pure i M.2.1.2.1 L st = none) (hb : cz_br i pc st = none) {v : Option cz_V} (hr : cz_ret i M.2.1.2.2.1 st = some v) (k : Q (.inl v, h)) : dz_WP P d M pc L st h Q := by
  refine dz_wp_s hc ⟨0, _, ?_, k⟩
  unfold cz_s
  rw [hp]
  dsimp only
  rw [hb]
  dsimp only
  rw [hl]
  dsimp only [cond_true]
  rw [hr]
theorem dz_wp_throw (hc : cz_code M pc = some (i, len)) (hl : Nat.beq len (cz_len i) = true) (hp : cz_pure i M.2.1.2.1 L st = none) (hb : cz_br i pc st = none) (hr : cz_ret i M.2.1.2.2.1 st = none) {kx : Nat} (ht : cz_throw M pc i = some kx) (hroom : (cz_room h 1 6 && Nat.ble 6 d && Nat.ble (cz_cat2 st) 20) = true) (k : Q (.inr h.1, cz_push h 6 (.inr (.inr kx)))) : dz_WP P d M pc L st h Q := by
  refine dz_wp_s hc ⟨0, _, ?_, k⟩
  unfold cz_s
  rw [hp]
  dsimp only
  rw [hb]
  dsimp only
  rw [hl]
  dsimp only [cond_true]
  rw [hr]
  dsimp only
  rw [ht]
  dsimp only
  rw [hroom]
  rfl
theorem dz_wp_hp (hc : cz_code M pc = some (i, len)) (hl : Nat.beq len (cz_len i) = true) (hp : cz_pure i M.2.1.2.1 L st = none) (hb : cz_br i pc st = none) (hr : cz_ret i M.2.1.2.2.1 st = none) (ht : cz_throw M pc i = none) {q : cz_N} (hh : cz_hp P M d pc st h i = some q) (k : dz_WP P d M q.1 L q.2.1 q.2.2 Q) : dz_WP P d M pc L st h Q := by
  obtain ⟨n, F, h1, h2⟩ := k
  refine dz_wp_s hc ⟨n, F, ?_, h2⟩
  unfold cz_s
  rw [hp]
  dsimp only
  rw [hb]
  dsimp only
  rw [hl]
  dsimp only [cond_true]
  rw [hr]
  dsimp only
  rw [ht]
  dsimp only
  rw [hh]
  exact h1
theorem dz_wp_call (hc : cz_code M pc = some (i, len)) (hl : Nat.beq len (cz_len i) = true) (hp : cz_pure i M.2.1.2.1 L st = none) (hb : cz_br i pc st = none) (hr : cz_ret i M.2.1.2.2.1 st = none) (ht : cz_throw M pc i = none) (hh : cz_hp P M d pc st h i = none)
    {y : Nat} {as rest : List cz_V} (hca : cz_call i M st h = some (y, as, rest)) {M' : cz_M} (hM : P.1[y]? = some M') (hcond : ((Nat.blt 0 d && cz_room h 0 0) && Nat.ble (cz_cat2 rest + (M'.2.1.2.1 + 11)) 100 && Nat.ble (cz_cat2 as) M'.2.1.2.1) = true)
    (k : dz_WP P (d - 1) M' 0 (cz_argl 0 as) [] h (fun q => ∃ n F, cz_sK (cz_x P n) d M pc L rest q = some F ∧ Q F)) : dz_WP P d M pc L st h Q := by
  obtain ⟨n1, q, h1, n2, F, h2, h3⟩ := k
  refine dz_wp_s hc ⟨n1 + n2, F, ?_, h3⟩
  unfold cz_s
  rw [hp]
  dsimp only
  rw [hb]
  dsimp only
  rw [hl]
  dsimp only [cond_true]
  rw [hr]
  dsimp only
  rw [ht]
  dsimp only
  rw [hh]
  dsimp only
  unfold cz_sC
  rw [hca]
  dsimp only
  rw [hM]
  dsimp only
  rw [hcond]
  dsimp only [cond_true]
  rw [dz_x_mono P n1 n2 _ _ _ _ _ _ _ h1]
  dsimp only
  have hle : dz_le (cz_x P n2) (cz_x P (n1 + n2)) := by
    have := dz_x_mono P n2 n1
    rw [Nat.add_comm n2 n1] at this
    exact this
  exact dz_sK_mono hle h2
/-- back from a callee that returned -/
theorem dz_wp_back {o : Option cz_V} (k : dz_WP P d M (pc + 3) L (match o with | none => st | some w => w :: st) h Q) : ∃ n F, cz_sK (cz_x P n) d M pc L st (.inl o, h) = some F ∧ Q F := by
  obtain ⟨n, F, h1, h2⟩ := k
  cases o <;> exact ⟨n, F, h1, h2⟩
theorem dz_wp_catch {r kx t : Nat} (he : cz_exc h r = some kx) (hc : cz_catch M pc kx M.2.1.2.2.2 = some (some t)) (k : dz_WP P d M t L [.inr (.inr (some r))] h Q) : ∃ n F, cz_sK (cz_x P n) d M pc L st (.inr r, h) = some F ∧ Q F := by
  obtain ⟨n, F, h1, h2⟩ := k
  refine ⟨n, F, ?_, h2⟩
  show (match cz_exc h r with
    | some k => (match cz_catch M pc k M.2.1.2.2.2 with
      | some (some t) => cz_x P n d M t L [.inr (.inr (some r))] h
      | some none => bif M.2.1.2.2.2.isEmpty then some (.inr r, h) else none
      | none => none)
    | none => none) = some F
  rw [he]
  dsimp only
  rw [hc]
  exact h1
theorem dz_wp_pass {r kx : Nat} (he : cz_exc h r = some kx) (hc : cz_catch M pc kx M.2.1.2.2.2 = some none) (hm : M.2.1.2.2.2.isEmpty = true) (k : Q (.inr r, h)) : ∃ n F, cz_sK (cz_x P n) d M pc L st (.inr r, h) = some F ∧ Q F := by
  refine ⟨0, (.inr r, h), ?_, k⟩
  show (match cz_exc h r with
    | some k => (match cz_catch M pc k M.2.1.2.2.2 with
      | some (some t) => cz_x P 0 d M t L [.inr (.inr (some r))] h
      | some none => bif M.2.1.2.2.2.isEmpty then some (.inr r, h) else none
      | none => none)
    | none => none) = some (.inr r, h)
  rw [he]
  dsimp only
  rw [hc]
  dsimp only
  rw [hm]
  rfl
end DzWp
theorem dz_WP.imp {P : cz_P} {d : Nat} {M : cz_M} {pc : Nat} {L : List (Nat × cz_V)} {st : List cz_V} {h : cz_H} {Q R : cz_F → Prop} (w : dz_WP P d M pc L st h Q) (k : ∀ F, Q F → R F) : dz_WP P d M pc L st h R := by
  obtain ⟨n, F, h1, h2⟩ := w
  exact ⟨n, F, h1, k F h2⟩
/-! L2, part 3: what is known of a frame and of the cells. -/
/-- a value as a number: places count from 1, null is 0 -/
def dz_n (v : cz_V) : Int := match v with
  | .inl a => a.toInt
  | .inr (.inl a) => a.toInt
  | .inr (.inr none) => 0
  | .inr (.inr (some r)) => (r : Int) + 1
def dz_k (v : cz_V) : Nat := match v with
  | .inl _ => 0
  | .inr (.inl _) => 2
  | .inr (.inr _) => 3
/-- kind, number, the tag of what it points to -/
abbrev dz_A : Type := Nat × dz_E × Nat
def dz_tg (τ : Nat → Nat) (t : Nat) (v : cz_V) : Prop := ∀ r, v = .inr (.inr (some r)) → τ r = t ∧ t ≠ 0
def dz_vo (n : Nat) (ρ : Nat → Int) (τ : Nat → Nat) (a : dz_A) (v : cz_V) : Prop := dz_k v = a.1 ∧ dz_ok n ρ a.2.1 (dz_n v) ∧ dz_tg τ a.2.2 v
/-- the slots of a cell -/
def dz_get (c : cz_C) (i : Nat) : Option cz_V := match c with
  | .inl q => if i < q.2.1 then some (q.2.2 i) else none
  | .inr (.inl q) => q.2[i]?
  | .inr (.inr _) => none
def dz_set (c : cz_C) (i : Nat) (v : cz_V) : cz_C := match c with
  | .inl q => .inl (q.1, q.2.1, fun j => if j = i then v else q.2.2 j)
  | .inr (.inl q) => .inr (.inl (q.1, q.2.set i v))
  | .inr (.inr k) => .inr (.inr k)
/-- what of a cell never changes -/
def dz_al (c : cz_C) : (Nat × Nat) ⊕ ((Nat × Nat) ⊕ Nat) := match c with
  | .inl q => .inl (q.1, q.2.1)
  | .inr (.inl q) => .inr (.inl (q.1, q.2.length))
  | .inr (.inr k) => .inr (.inr k)
theorem dz_get_set {c : cz_C} {i j : Nat} {v w : cz_V} (h : dz_get c i = some w) : dz_get (dz_set c i v) j = if j = i then some v else dz_get c j := by
  obtain q | q | k := c
  · simp only [dz_get, dz_set] at h ⊢
    by_cases hi : i < q.2.1
    · by_cases e : j = i
      · subst e; rw [if_pos hi, if_pos rfl, if_pos rfl]
      · rw [if_neg e, if_neg e]
    · rw [if_neg hi] at h; cases h
  · simp only [dz_get, dz_set] at h ⊢
    have hi : i < q.2.length := (List.getElem?_eq_some_iff.mp h).1
    by_cases e : j = i
    · subst e; rw [if_pos rfl]; exact List.getElem?_set_self hi
    · rw [if_neg e]; exact List.getElem?_set_ne (fun w => e w.symm)
  · cases h
theorem dz_al_set (c : cz_C) (i : Nat) (v : cz_V) : dz_al (dz_set c i v) = dz_al c := by
  obtain q | q | k := c
  · rfl
  · simp only [dz_al, dz_set, List.length_set]
  · rfl
/-- what a slot holds: code, bounds, tag, 1 where it must be younger than its cell, 2 where nothing is said of its tag, 3 or 4 where it is the first or second place behind -/
abbrev dz_D : Type := Nat × Int × Int × Nat × Nat
/-- a tag: 0 an object, 1 an array, 2 an exception; number of class, type or kind; 1 where it may be written; bounds of the length; slots (of an array: one) -/
abbrev dz_I : Type := Nat × Nat × Nat × (Int × Int) × List dz_D
/-- what is said of a slot's place: 1 null or younger than its cell, 3 the next place, 4 the one behind that -/
def dz_m4 (m r : Nat) (x : Int) : Prop := (m ≠ 1 ∨ x = 0 ∨ (r : Int) + 1 < x) ∧ (m ≠ 3 ∨ x = (r : Int) + 2) ∧ (m ≠ 4 ∨ x = (r : Int) + 3)
def dz_vd (τ : Nat → Nat) (r : Nat) (D : dz_D) (v : cz_V) : Prop := cz_fitc D.1 v = true ∧ (D.1 = 2 ∨ (D.2.1 ≤ dz_n v ∧ dz_n v ≤ D.2.2.1)) ∧ (D.2.2.2.2 = 2 ∨ dz_tg τ D.2.2.2.1 v) ∧ dz_m4 D.2.2.2.2 r (dz_n v)
def dz_sh (ti : dz_I) (c : cz_C) : Prop := match c with
  | .inl q => ti.1 = 1 ∧ q.1 = ti.2.1 ∧ ti.2.2.2.1.1 ≤ (q.2.1 : Int) ∧ (q.2.1 : Int) ≤ ti.2.2.2.1.2
  | .inr (.inl q) => ti.1 = 0 ∧ q.1 = ti.2.1 ∧ q.2.length = ti.2.2.2.2.length
  | .inr (.inr k) => ti.1 = 2 ∧ k = ti.2.1
noncomputable def dz_ds (ti : dz_I) (i : Nat) : Option dz_D := match ti.1 with
  | 0 => dz_nth ti.2.2.2.2 i
  | 1 => dz_nth ti.2.2.2.2 0
  | _ => none
abbrev dz_TT : Type := Nat → Option dz_I
def dz_cf (T : dz_TT) (τ : Nat → Nat) (h : cz_H) (r : Nat) : Prop := ∃ ti, T (τ r) = some ti ∧ dz_sh ti (h.2.2 r) ∧ (ti.2.2.1 = 0 ∨ 192 ≤ r) ∧ ∀ i v, dz_get (h.2.2 r) i = some v → ∃ D, dz_ds ti i = some D ∧ dz_vd τ r D v
def dz_HR (T : dz_TT) (τ : Nat → Nat) (h : cz_H) : Prop := ∀ r, τ r ≠ 0 → cz_hereB h r = true ∧ dz_cf T τ h r
/-- a slot whose value is known: place, tag, index, value -/
abbrev dz_M : Type := dz_E × Nat × dz_E × dz_A
def dz_mo (n : Nat) (ρ : Nat → Int) (τ : Nat → Nat) (h : cz_H) (m : dz_M) : Prop := ∃ (r i : Nat) (v : cz_V), dz_ok n ρ m.1 ((r : Int) + 1) ∧ (τ r = m.2.1 ∧ m.2.1 ≠ 0) ∧ dz_ok n ρ m.2.2.1 (i : Int) ∧ dz_get (h.2.2 r) i = some v ∧ dz_vo n ρ τ m.2.2.2 v
/-- an array: place, tag, length; from where, up to where, bounds of what lies there -/
abbrev dz_K : Type := dz_E × Nat × dz_E × dz_E × dz_E × dz_E × dz_E
def dz_ko (n : Nat) (ρ : Nat → Int) (τ : Nat → Nat) (h : cz_H) (k : dz_K) : Prop := ∃ (r : Nat) (q : Nat × Nat × (Nat → cz_V)) (s u lo hi : Int), dz_ok n ρ k.1 ((r : Int) + 1) ∧ (τ r = k.2.1 ∧ k.2.1 ≠ 0) ∧ h.2.2 r = .inl q ∧ dz_ok n ρ k.2.2.1 (q.2.1 : Int) ∧
  dz_ok n ρ k.2.2.2.1 s ∧ dz_ok n ρ k.2.2.2.2.1 u ∧ dz_ok n ρ k.2.2.2.2.2.1 lo ∧ dz_ok n ρ k.2.2.2.2.2.2 hi ∧ ∀ i : Nat, s ≤ i → (i : Int) < u → i < q.2.1 → lo ≤ dz_n (q.2.2 i) ∧ dz_n (q.2.2 i) ≤ hi
def dz_so (n : Nat) (ρ : Nat → Int) (τ : Nat → Nat) : List dz_A → List cz_V → Prop
  | [], [] => True
  | a :: r, v :: w => dz_vo n ρ τ a v ∧ dz_so n ρ τ r w
  | _, _ => False
def dz_lo (n : Nat) (ρ : Nat → Int) (τ : Nat → Nat) (l : List (Nat × dz_A)) (L : List (Nat × cz_V)) : Prop := ∀ q ∈ l, ∃ v, cz_find q.1 L = some v ∧ dz_vo n ρ τ q.2 v
/-- unknowns, what is known of them, locals, stack, slots, arrays, how many cells, how many slots -/
abbrev dz_S : Type := Nat × List dz_E × List (Nat × dz_A) × List dz_A × List dz_M × List dz_K × dz_E × dz_E
abbrev dz_X : Type := (Nat → Nat) → cz_H → Prop
/-- what is known of the cells alone -/
def dz_B (T : dz_TT) (X : dz_X) (τ : Nat → Nat) (h : cz_H) : Prop := dz_HR T τ h ∧ X τ h ∧ 192 ≤ h.1
def dz_G (T : dz_TT) (X : dz_X) (S : dz_S) (ρ : Nat → Int) (τ : Nat → Nat) (h : cz_H) (L : List (Nat × cz_V)) (st : List cz_V) : Prop :=
  dz_Gm S.1 ρ S.2.1 ∧ dz_lo S.1 ρ τ S.2.2.1 L ∧ dz_so S.1 ρ τ S.2.2.2.1 st ∧ (∀ m ∈ S.2.2.2.2.1, dz_mo S.1 ρ τ h m) ∧ (∀ k ∈ S.2.2.2.2.2.1, dz_ko S.1 ρ τ h k) ∧ dz_ok S.1 ρ S.2.2.2.2.2.2.1 (h.1 : Int) ∧ dz_ok S.1 ρ S.2.2.2.2.2.2.2 (h.2.1 : Int) ∧ dz_B T X τ h
/-- more unknowns, the old ones as they were -/
def dz_ext (n : Nat) (ρ : Nat → Int) (n' : Nat) (ρ' : Nat → Int) : Prop := n ≤ n' ∧ ∀ i, i < n → ρ' i = ρ i
theorem dz_ext.refl (n : Nat) (ρ : Nat → Int) : dz_ext n ρ n ρ := ⟨Nat.le_refl n, fun _ _ => rfl⟩
theorem dz_ext.trans {n n1 n2 : Nat} {ρ ρ1 ρ2 : Nat → Int} (h : dz_ext n ρ n1 ρ1) (h1 : dz_ext n1 ρ1 n2 ρ2) : dz_ext n ρ n2 ρ2 :=
  ⟨Nat.le_trans h.1 h1.1, fun i hi => (h1.2 i (Nat.lt_of_lt_of_le hi h.1)).trans (h.2 i hi)⟩
theorem dz_ext.up (n : Nat) (ρ : Nat → Int) (v : Int) : dz_ext n ρ (n + 1) (dz_up ρ n v) := ⟨Nat.le_succ n, fun i hi => by unfold dz_up; rw [if_neg (by omega)]⟩
section DzExt
variable {n n' : Nat} {ρ ρ' : Nat → Int} {τ : Nat → Nat} {h : cz_H}
theorem dz_ev_ext (hx : dz_ext n ρ n' ρ') : ∀ {l : dz_T}, (∀ t ∈ l, t.1 < n) → dz_ev ρ' l = dz_ev ρ l
  | [], _ => rfl
  | t :: r, hl => by
    show t.2 * ρ' t.1 + dz_ev ρ' r = t.2 * ρ t.1 + dz_ev ρ r
    rw [dz_ev_ext hx fun q hq => hl q (List.mem_cons_of_mem _ hq), hx.2 _ (hl t List.mem_cons_self)]
theorem dz_ok.ext (hx : dz_ext n ρ n' ρ') {e : dz_E} {x : Int} (he : dz_ok n ρ e x) : dz_ok n' ρ' e x :=
  ⟨fun t ht => Nat.lt_of_lt_of_le (he.1 t ht) hx.1, by rw [dz_ev_ext hx he.1]; exact he.2⟩
theorem dz_Gm.ext (hx : dz_ext n ρ n' ρ') {Γ : List dz_E} (hG : dz_Gm n ρ Γ) : dz_Gm n' ρ' Γ := fun c hc => by
  obtain ⟨x, h1, h2⟩ := hG c hc
  exact ⟨x, h1, h2.ext hx⟩
theorem dz_vo.ext (hx : dz_ext n ρ n' ρ') {a : dz_A} {v : cz_V} (hv : dz_vo n ρ τ a v) : dz_vo n' ρ' τ a v := ⟨hv.1, hv.2.1.ext hx, hv.2.2⟩
theorem dz_lo.ext (hx : dz_ext n ρ n' ρ') {l : List (Nat × dz_A)} {L : List (Nat × cz_V)} (hl : dz_lo n ρ τ l L) : dz_lo n' ρ' τ l L := fun q hq => by
  obtain ⟨v, h1, h2⟩ := hl q hq
  exact ⟨v, h1, h2.ext hx⟩
theorem dz_so.ext (hx : dz_ext n ρ n' ρ') : ∀ {l : List dz_A} {s : List cz_V}, dz_so n ρ τ l s → dz_so n' ρ' τ l s
  | [], [], _ => trivial
  | a :: r, v :: w, hs => ⟨hs.1.ext hx, dz_so.ext hx hs.2⟩
theorem dz_mo.ext (hx : dz_ext n ρ n' ρ') {m : dz_M} (hm : dz_mo n ρ τ h m) : dz_mo n' ρ' τ h m := by
  obtain ⟨r, i, v, h1, h2, h3, h4, h5⟩ := hm
  exact ⟨r, i, v, h1.ext hx, h2, h3.ext hx, h4, h5.ext hx⟩
theorem dz_ko.ext (hx : dz_ext n ρ n' ρ') {k : dz_K} (hk : dz_ko n ρ τ h k) : dz_ko n' ρ' τ h k := by
  obtain ⟨r, q, s, u, lo, hi, h1, h2, h3, h4, h5, h6, h7, h8, h9⟩ := hk
  exact ⟨r, q, s, u, lo, hi, h1.ext hx, h2, h3, h4.ext hx, h5.ext hx, h6.ext hx, h7.ext hx, h8.ext hx, h9⟩
end DzExt
theorem dz_G.ext {T : dz_TT} {X : dz_X} {S : dz_S} {n' : Nat} {ρ ρ' : Nat → Int} {τ : Nat → Nat} {h : cz_H} {L : List (Nat × cz_V)} {st : List cz_V} (hG : dz_G T X S ρ τ h L st) (hx : dz_ext S.1 ρ n' ρ') : dz_G T X (n', S.2) ρ' τ h L st := by
  obtain ⟨h1, h2, h3, h4, h5, h6, h7, h8⟩ := hG
  exact ⟨h1.ext hx, h2.ext hx, h3.ext hx, fun m hm => (h4 m hm).ext hx, fun k hk => (h5 k hk).ext hx, h6.ext hx, h7.ext hx, h8⟩
/-- an unknown more -/
theorem dz_G.fresh {T : dz_TT} {X : dz_X} {S : dz_S} {ρ : Nat → Int} {τ : Nat → Nat} {h : cz_H} {L : List (Nat × cz_V)} {st : List cz_V} (hG : dz_G T X S ρ τ h L st) (v : Int) : dz_G T X (S.1 + 1, S.2) (dz_up ρ S.1 v) τ h L st ∧ dz_ext S.1 ρ (S.1 + 1) (dz_up ρ S.1 v) ∧ dz_ok (S.1 + 1) (dz_up ρ S.1 v) (dz_var S.1) v :=
  ⟨hG.ext (dz_ext.up _ _ _), dz_ext.up _ _ _, dz_ok_new v⟩
theorem dz_G.know {T : dz_TT} {X : dz_X} {S : dz_S} {ρ : Nat → Int} {τ : Nat → Nat} {h : cz_H} {L : List (Nat × cz_V)} {st : List cz_V} (hG : dz_G T X S ρ τ h L st) {e : dz_E} {x : Int} (he : dz_ok S.1 ρ e x) (hx : 0 ≤ x) : dz_G T X (S.1, e :: S.2.1, S.2.2) ρ τ h L st :=
  ⟨hG.1.cons he hx, hG.2⟩
theorem dz_G.stack {T : dz_TT} {X : dz_X} {S : dz_S} {ρ : Nat → Int} {τ : Nat → Nat} {h : cz_H} {L : List (Nat × cz_V)} {st st' : List cz_V} {as : List dz_A} (hG : dz_G T X S ρ τ h L st) (hs : dz_so S.1 ρ τ as st') : dz_G T X (S.1, S.2.1, S.2.2.1, as, S.2.2.2.2) ρ τ h L st' :=
  ⟨hG.1, hG.2.1, hs, hG.2.2.2⟩
theorem dz_G.frame {T : dz_TT} {X : dz_X} {S : dz_S} {ρ : Nat → Int} {τ : Nat → Nat} {h : cz_H} {L L' : List (Nat × cz_V)} {st st' : List cz_V} {l : List (Nat × dz_A)} {as : List dz_A} (hG : dz_G T X S ρ τ h L st) (hl : dz_lo S.1 ρ τ l L') (hs : dz_so S.1 ρ τ as st') : dz_G T X (S.1, S.2.1, l, as, S.2.2.2.2) ρ τ h L' st' :=
  ⟨hG.1, hl, hs, hG.2.2.2⟩
/-! L2, part 4: instructions on the frame alone. -/
theorem dz_so.inv {n : Nat} {ρ : Nat → Int} {τ : Nat → Nat} {a : dz_A} {r : List dz_A} {st : List cz_V} (h : dz_so n ρ τ (a :: r) st) : ∃ v w, st = v :: w ∧ dz_vo n ρ τ a v ∧ dz_so n ρ τ r w := by
  cases st with
  | nil => cases h
  | cons v w => exact ⟨v, w, rfl, h.1, h.2⟩
theorem dz_so.nil {n : Nat} {ρ : Nat → Int} {τ : Nat → Nat} {st : List cz_V} (h : dz_so n ρ τ [] st) : st = [] := by
  cases st with
  | nil => rfl
  | cons v w => cases h
theorem dz_vo.int {n : Nat} {ρ : Nat → Int} {τ : Nat → Nat} {a : dz_A} {v : cz_V} (h : dz_vo n ρ τ a v) (hk : Nat.beq a.1 0 = true) : ∃ x : Int32, v = .inl x ∧ dz_ok n ρ a.2.1 x.toInt := by
  have hk := Nat.eq_of_beq_eq_true hk
  obtain ⟨h1, h2, h3⟩ := h
  rw [hk] at h1
  obtain x | x | x := v
  · exact ⟨x, rfl, h2⟩
  · cases h1
  · cases h1
theorem dz_vo.long {n : Nat} {ρ : Nat → Int} {τ : Nat → Nat} {a : dz_A} {v : cz_V} (h : dz_vo n ρ τ a v) (hk : Nat.beq a.1 2 = true) : ∃ x : Int64, v = .inr (.inl x) ∧ dz_ok n ρ a.2.1 x.toInt := by
  have hk := Nat.eq_of_beq_eq_true hk
  obtain ⟨h1, h2, h3⟩ := h
  rw [hk] at h1
  obtain x | x | x := v
  · cases h1
  · exact ⟨x, rfl, h2⟩
  · cases h1
theorem dz_vo.ref {n : Nat} {ρ : Nat → Int} {τ : Nat → Nat} {a : dz_A} {v : cz_V} (h : dz_vo n ρ τ a v) (hk : Nat.beq a.1 3 = true) : ∃ o : Option Nat, v = .inr (.inr o) ∧ dz_ok n ρ a.2.1 (dz_n v) ∧ dz_tg τ a.2.2 v := by
  have hk := Nat.eq_of_beq_eq_true hk
  obtain ⟨h1, h2, h3⟩ := h
  rw [hk] at h1
  obtain x | x | x := v
  · cases h1
  · cases h1
  · exact ⟨x, rfl, h2, h3⟩
/-- a reference that isn't null -/
theorem dz_vo.at {n : Nat} {ρ : Nat → Int} {τ : Nat → Nat} {a : dz_A} {v : cz_V} (h : dz_vo n ρ τ a v) (hk : Nat.beq a.1 3 = true) (hp : ∀ x, dz_ok n ρ a.2.1 x → 1 ≤ x) : ∃ r : Nat, v = .inr (.inr (some r)) ∧ dz_ok n ρ a.2.1 ((r : Int) + 1) ∧ τ r = a.2.2 ∧ a.2.2 ≠ 0 := by
  obtain ⟨o, rfl, h2, h3⟩ := h.ref hk
  cases o with
  | none => exact absurd (hp _ h2) (by show ¬ (1 : Int) ≤ 0; omega)
  | some r => exact ⟨r, rfl, h2, h3 r rfl⟩
theorem dz_vo_lg {n : Nat} {ρ : Nat → Int} {τ : Nat → Nat} {a : dz_A} {v : cz_V} (h : dz_vo n ρ τ a v) : cz_lg v = Nat.beq a.1 2 := by
  rw [← h.1]
  obtain x | x | x := v <;> rfl
noncomputable def dz_fl (j : Nat) (l : List (Nat × dz_A)) : Option dz_A := List.rec none (fun q _ ih => bif Nat.beq q.1 j then some q.2 else ih) l
theorem dz_fl_mem {j : Nat} {a : dz_A} : ∀ {l : List (Nat × dz_A)}, dz_fl j l = some a → (j, a) ∈ l
  | [], h => by cases h
  | q :: r, h => by
    have h' : (bif Nat.beq q.1 j then some q.2 else dz_fl j r) = some a := h
    cases hq : Nat.beq q.1 j with
    | true =>
      rw [hq] at h'
      have h1 : q.2 = a := Option.some.inj h'
      have h2 := Nat.eq_of_beq_eq_true hq
      rw [← h1, ← h2]
      exact List.mem_cons_self
    | false =>
      rw [hq] at h'
      exact List.mem_cons_of_mem _ (dz_fl_mem h')
theorem cz_find_cons (j : Nat) (q : Nat × cz_V) (r : List (Nat × cz_V)) : cz_find j (q :: r) = bif Nat.beq q.1 j then some q.2 else cz_find j r := rfl
theorem cz_find_fil {f : Nat × cz_V → Bool} {j : Nat} {w : cz_V} (hf : f (j, w) = true) : ∀ {L : List (Nat × cz_V)}, cz_find j L = some w → cz_find j (cz_fil f L) = some w
  | [], h => by cases h
  | q :: r, h => by
    rw [cz_find_cons] at h
    show cz_find j (bif f q then q :: cz_fil f r else cz_fil f r) = some w
    cases hq : Nat.beq q.1 j with
    | true =>
      rw [hq] at h
      have h1 : q.2 = w := Option.some.inj h
      have h2 := Nat.eq_of_beq_eq_true hq
      have h3 : q = (j, w) := by rw [← h1, ← h2]
      rw [h3, hf]
      show (bif Nat.beq j j then some w else _) = some w
      rw [Nat.beq_refl]
      rfl
    | false =>
      rw [hq] at h
      have ih := cz_find_fil hf (L := r) h
      cases f q with
      | true =>
        show (bif Nat.beq q.1 j then some q.2 else cz_find j (cz_fil f r)) = some w
        rw [hq]
        exact ih
      | false => exact ih
theorem dz_beq_ne {a b : Nat} (h : a ≠ b) : Nat.beq a b = false := Bool.eq_false_iff.mpr (fun w => h (Nat.eq_of_beq_eq_true w))
theorem cz_find_sto {L : List (Nat × cz_V)} {i j : Nat} {v w : cz_V} (hne : j ≠ i) (hl : j + 1 = i → cz_lg w = false) (h : cz_find j L = some w) : cz_find j (cz_sto L i v) = some w := by
  show (bif Nat.beq i j then some v else cz_find j (cz_fil _ L)) = some w
  rw [dz_beq_ne (Ne.symm hne)]
  refine cz_find_fil ?_ h
  show (bif Nat.beq j i then false else bif Nat.beq (Nat.succ j) i then !(cz_lg w) else true) = true
  rw [dz_beq_ne hne]
  by_cases e : j + 1 = i
  · rw [show Nat.beq (Nat.succ j) i = true from Nat.beq_eq.mpr e, hl e]; rfl
  · rw [show Nat.beq (Nat.succ j) i = false from dz_beq_ne e]; rfl
theorem cz_find_sto2 {L : List (Nat × cz_V)} {i j : Nat} {v w : cz_V} (hne : j ≠ i) (hne2 : j ≠ i + 1) (hl : j + 1 = i → cz_lg w = false) (h : cz_find j L = some w) : cz_find j (cz_sto2 L i v) = some w := by
  show (bif Nat.beq i j then some v else cz_find j (cz_fil _ L)) = some w
  rw [dz_beq_ne (Ne.symm hne)]
  refine cz_find_fil ?_ h
  show (bif Nat.beq j i then false else bif Nat.beq j (Nat.succ i) then false else bif Nat.beq (Nat.succ j) i then !(cz_lg w) else true) = true
  rw [dz_beq_ne hne, dz_beq_ne hne2]
  by_cases e : j + 1 = i
  · rw [show Nat.beq (Nat.succ j) i = true from Nat.beq_eq.mpr e, hl e]; rfl
  · rw [show Nat.beq (Nat.succ j) i = false from dz_beq_ne e]; rfl
theorem cz_find_sto_self (L : List (Nat × cz_V)) (i : Nat) (v : cz_V) : cz_find i (cz_sto L i v) = some v := by
  show (bif Nat.beq i i then some v else _) = some v
  rw [Nat.beq_refl]
  rfl
theorem cz_find_sto2_self (L : List (Nat × cz_V)) (i : Nat) (v : cz_V) : cz_find i (cz_sto2 L i v) = some v := by
  show (bif Nat.beq i i then some v else _) = some v
  rw [Nat.beq_refl]
  rfl
noncomputable def dz_ls1 (j : Nat) (a : dz_A) (l : List (Nat × dz_A)) : List (Nat × dz_A) := (j, a) :: cz_fil (fun q => bif Nat.beq q.1 j then false else bif Nat.beq (Nat.succ q.1) j then !(Nat.beq q.2.1 2) else true) l
noncomputable def dz_ls2 (j : Nat) (a : dz_A) (l : List (Nat × dz_A)) : List (Nat × dz_A) := (j, a) :: cz_fil (fun q => bif Nat.beq q.1 j then false else bif Nat.beq q.1 (Nat.succ j) then false else bif Nat.beq (Nat.succ q.1) j then !(Nat.beq q.2.1 2) else true) l
theorem dz_lo.sto {n : Nat} {ρ : Nat → Int} {τ : Nat → Nat} {l : List (Nat × dz_A)} {L : List (Nat × cz_V)} (hl : dz_lo n ρ τ l L) {j : Nat} {a : dz_A} {v : cz_V} (ha : dz_vo n ρ τ a v) : dz_lo n ρ τ (dz_ls1 j a l) (cz_sto L j v) := by
  intro q hq
  rcases List.mem_cons.mp hq with rfl | hq
  · exact ⟨v, cz_find_sto_self L j v, ha⟩
  · rw [cz_fil_eq] at hq
    obtain ⟨hm, hf⟩ := List.mem_filter.mp hq
    obtain ⟨w, h1, h2⟩ := hl q hm
    have hne : q.1 ≠ j := fun e => by rw [show Nat.beq q.1 j = true from Nat.beq_eq.mpr e] at hf; cases hf
    rw [dz_beq_ne hne] at hf
    refine ⟨w, cz_find_sto hne (fun e => ?_) h1, h2⟩
    rw [show Nat.beq (Nat.succ q.1) j = true from Nat.beq_eq.mpr e] at hf
    rw [dz_vo_lg h2]
    simpa using hf
theorem dz_lo.sto2 {n : Nat} {ρ : Nat → Int} {τ : Nat → Nat} {l : List (Nat × dz_A)} {L : List (Nat × cz_V)} (hl : dz_lo n ρ τ l L) {j : Nat} {a : dz_A} {v : cz_V} (ha : dz_vo n ρ τ a v) : dz_lo n ρ τ (dz_ls2 j a l) (cz_sto2 L j v) := by
  intro q hq
  rcases List.mem_cons.mp hq with rfl | hq
  · exact ⟨v, cz_find_sto2_self L j v, ha⟩
  · rw [cz_fil_eq] at hq
    obtain ⟨hm, hf⟩ := List.mem_filter.mp hq
    obtain ⟨w, h1, h2⟩ := hl q hm
    have hne : q.1 ≠ j := fun e => by rw [show Nat.beq q.1 j = true from Nat.beq_eq.mpr e] at hf; cases hf
    rw [dz_beq_ne hne] at hf
    have hne2 : q.1 ≠ j + 1 := fun e => by rw [show Nat.beq q.1 (Nat.succ j) = true from Nat.beq_eq.mpr e] at hf; cases hf
    rw [show Nat.beq q.1 (Nat.succ j) = false from dz_beq_ne hne2] at hf
    refine ⟨w, cz_find_sto2 hne hne2 (fun e => ?_) h1, h2⟩
    rw [show Nat.beq (Nat.succ q.1) j = true from Nat.beq_eq.mpr e] at hf
    rw [dz_vo_lg h2]
    simpa using hf
/-- the stack anew -/
noncomputable def dz_stk (S : dz_S) (as : List dz_A) : dz_S := (S.1, S.2.1, S.2.2.1, as, S.2.2.2.2)
def dz_ile (a b : Int) : Bool := dz_nn (Int.sub b a)
theorem dz_ile_ok {a b : Int} (h : dz_ile a b = true) : a ≤ b := by
  have := dz_nn_ok h
  have h2 : Int.sub b a = b - a := rfl
  omega
noncomputable def dz_pc (S : dz_S) (lo hi n : Int) : Option dz_S := bif dz_ile lo n && dz_ile n hi then dz_fi n (fun m => some (dz_stk S ((0, dz_cst m, 0) :: S.2.2.2.1))) else none
noncomputable def dz_ldv (S : dz_S) (j k : Nat) : Option dz_S := match dz_fl j S.2.2.1 with
  | some a => bif Nat.beq a.1 k then some (dz_stk S (a :: S.2.2.2.1)) else none
  | none => none
noncomputable def dz_st1 (S : dz_S) (nL j k : Nat) : Option dz_S := match S.2.2.2.1 with
  | a :: r => bif Nat.beq a.1 k && Nat.blt j nL then some (S.1, S.2.1, dz_ls1 j a S.2.2.1, r, S.2.2.2.2) else none
  | [] => none
noncomputable def dz_st2 (S : dz_S) (nL j : Nat) : Option dz_S := match S.2.2.2.1 with
  | a :: r => bif Nat.beq a.1 2 && Nat.blt (j + 1) nL then some (S.1, S.2.1, dz_ls2 j a S.2.2.1, r, S.2.2.2.2) else none
  | [] => none
/-- instructions that need no more than the frame, and nothing to be told -/
noncomputable def dz_p0 (i : Instr) (nL : Nat) (S : dz_S) : Option dz_S := match i with
  | .iconst n => dz_pc S (-128) 127 n
  | .bipush n => dz_pc S (-128) 127 n
  | .sipush n => dz_pc S (-32768) 32767 n
  | .lconst n => some (dz_stk S ((2, dz_cst (.ofNat n.val), 0) :: S.2.2.2.1))
  | .aconst_null => some (dz_stk S ((3, dz_cst 0, 0) :: S.2.2.2.1))
  | .iload_n k => dz_ldv S k 0
  | .iload k => dz_ldv S k 0
  | .lload_n k => dz_ldv S k 2
  | .lload k => dz_ldv S k 2
  | .aload_n k => dz_ldv S k 3
  | .aload k => dz_ldv S k 3
  | .istore_n k => dz_st1 S nL k 0
  | .istore k => dz_st1 S nL k 0
  | .astore_n k => dz_st1 S nL k 3
  | .astore k => dz_st1 S nL k 3
  | .lstore_n k => dz_st2 S nL k
  | .lstore k => dz_st2 S nL k
  | .i2l => (match S.2.2.2.1 with
    | a :: r => bif Nat.beq a.1 0 then some (dz_stk S ((2, a.2.1, 0) :: r)) else none
    | _ => none)
  | .dup => (match S.2.2.2.1 with
    | a :: r => bif Nat.beq a.1 2 then none else some (dz_stk S (a :: a :: r))
    | _ => none)
  | .pop => (match S.2.2.2.1 with
    | a :: r => bif Nat.beq a.1 2 then none else some (dz_stk S r)
    | _ => none)
  | .dup2 => (match S.2.2.2.1 with
    | a :: b :: r => bif Nat.beq a.1 2 || Nat.beq b.1 2 then none else some (dz_stk S (a :: b :: a :: b :: r))
    | _ => none)
  | .dup_x1 => (match S.2.2.2.1 with
    | a :: b :: r => bif Nat.beq a.1 2 || Nat.beq b.1 2 then none else some (dz_stk S (a :: b :: a :: r))
    | _ => none)
  | _ => none
theorem dz_toInt_i {n : Int} (h1 : -2147483648 ≤ n) (h2 : n ≤ 2147483647) : (Int32.ofInt n).toInt = n := Int32.toInt_ofInt_of_le (by show -2147483648 ≤ n; exact h1) (by show n < 2147483648; omega)
section DzP0
variable {T : dz_TT} {X : dz_X} {S S' : dz_S} {ρ : Nat → Int} {τ : Nat → Nat} {h : cz_H} {L : List (Nat × cz_V)} {st : List cz_V} {nL : Nat}
theorem dz_pc_ok (hG : dz_G T X S ρ τ h L st) {lo hi n : Int} (hp : dz_pc S lo hi n = some S') {x : Int32} (hx : lo ≤ n → n ≤ hi → x.toInt = n) : dz_G T X S' ρ τ h L (.inl x :: st) ∧ S'.1 = S.1 := by
  unfold dz_pc at hp
  cases hb : (dz_ile lo n && dz_ile n hi) with
  | false => rw [hb] at hp; cases hp
  | true =>
    rw [hb] at hp
    simp only [Bool.and_eq_true] at hb
    simp only [cond_true, dz_fi_eq] at hp
    cases hp
    have hx := hx (dz_ile_ok hb.1) (dz_ile_ok hb.2)
    refine ⟨hG.stack ⟨⟨rfl, ?_, fun r hr => by cases hr⟩, hG.2.2.1⟩, rfl⟩
    show dz_ok S.1 ρ (dz_cst n) x.toInt
    rw [hx]
    exact dz_ok_cst n
theorem dz_ldv_ok (hG : dz_G T X S ρ τ h L st) {j k : Nat} (hp : dz_ldv S j k = some S') : ∃ v, cz_find j L = some v ∧ dz_k v = k ∧ dz_G T X S' ρ τ h L (v :: st) ∧ S'.1 = S.1 := by
  unfold dz_ldv at hp
  split at hp
  · rename_i a ha
    cases hb : Nat.beq a.1 k with
    | false => rw [hb] at hp; cases hp
    | true =>
      rw [hb] at hp
      cases hp
      obtain ⟨v, h1, h2⟩ := hG.2.1 _ (dz_fl_mem ha)
      exact ⟨v, h1, h2.1.trans (Nat.eq_of_beq_eq_true hb), hG.stack ⟨h2, hG.2.2.1⟩, rfl⟩
  · cases hp
theorem dz_ld_i {j : Nat} {v : cz_V} (h1 : cz_find j L = some v) (h2 : dz_k v = 0) : cz_ld L j cz_isI = some v := by
  unfold cz_ld
  rw [h1]
  obtain x | x | x := v
  · rfl
  · cases h2
  · cases h2
theorem dz_ld_l {j : Nat} {v : cz_V} (h1 : cz_find j L = some v) (h2 : dz_k v = 2) : cz_ld L j cz_lg = some v := by
  unfold cz_ld
  rw [h1]
  obtain x | x | x := v
  · cases h2
  · rfl
  · cases h2
theorem dz_ld_a {j : Nat} {v : cz_V} (h1 : cz_find j L = some v) (h2 : dz_k v = 3) : cz_ld L j cz_isR = some v := by
  unfold cz_ld
  rw [h1]
  obtain x | x | x := v
  · cases h2
  · cases h2
  · rfl
theorem dz_st1_ok (hG : dz_G T X S ρ τ h L st) {j k : Nat} (hp : dz_st1 S nL j k = some S') : ∃ v w, st = v :: w ∧ dz_k v = k ∧ Nat.blt j nL = true ∧ dz_G T X S' ρ τ h (cz_sto L j v) w ∧ S'.1 = S.1 := by
  unfold dz_st1 at hp
  have hs := hG.2.2.1
  split at hp
  · rename_i a r he
    rw [he] at hs
    obtain ⟨v, w, rfl, h1, h2⟩ := hs.inv
    cases hb : (Nat.beq a.1 k && Nat.blt j nL) with
    | false => rw [hb] at hp; cases hp
    | true =>
      rw [hb] at hp
      cases hp
      simp only [Bool.and_eq_true] at hb
      exact ⟨v, w, rfl, h1.1.trans (Nat.eq_of_beq_eq_true hb.1), hb.2, hG.frame (hG.2.1.sto h1) h2, rfl⟩
  · cases hp
theorem dz_st2_ok (hG : dz_G T X S ρ τ h L st) {j : Nat} (hp : dz_st2 S nL j = some S') : ∃ v w, st = v :: w ∧ dz_k v = 2 ∧ Nat.blt (j + 1) nL = true ∧ dz_G T X S' ρ τ h (cz_sto2 L j v) w ∧ S'.1 = S.1 := by
  unfold dz_st2 at hp
  have hs := hG.2.2.1
  split at hp
  · rename_i a r he
    rw [he] at hs
    obtain ⟨v, w, rfl, h1, h2⟩ := hs.inv
    cases hb : (Nat.beq a.1 2 && Nat.blt (j + 1) nL) with
    | false => rw [hb] at hp; cases hp
    | true =>
      rw [hb] at hp
      cases hp
      simp only [Bool.and_eq_true] at hb
      exact ⟨v, w, rfl, h1.1.trans (Nat.eq_of_beq_eq_true hb.1), hb.2, hG.frame (hG.2.1.sto2 h1) h2, rfl⟩
  · cases hp
set_option maxHeartbeats 4000000 in
theorem dz_p0_ok (hG : dz_G T X S ρ τ h L st) {i : Instr} (hp : dz_p0 i nL S = some S') : ∃ q, cz_pure i nL L st = some q ∧ dz_G T X S' ρ τ h q.1 q.2 ∧ S'.1 = S.1 := by
  cases i
  case iconst n =>
    obtain ⟨h1, h2⟩ := dz_pc_ok hG hp (x := Int32.ofInt n) (fun a b => dz_toInt_i (by omega) (by omega))
    exact ⟨_, rfl, h1, h2⟩
  case bipush n =>
    obtain ⟨h1, h2⟩ := dz_pc_ok hG hp (x := (Int8.ofInt n).toInt32) (fun a b => by rw [Int8.toInt_toInt32]; exact Int8.toInt_ofInt_of_le (by show -128 ≤ n; omega) (by show n < 128; omega))
    exact ⟨_, rfl, h1, h2⟩
  case sipush n =>
    obtain ⟨h1, h2⟩ := dz_pc_ok hG hp (x := (Int16.ofInt n).toInt32) (fun a b => by rw [Int16.toInt_toInt32]; exact Int16.toInt_ofInt_of_le (by show -32768 ≤ n; omega) (by show n < 32768; omega))
    exact ⟨_, rfl, h1, h2⟩
  case lconst n =>
    cases hp
    refine ⟨_, rfl, hG.stack ⟨⟨rfl, ?_, fun r hr => by cases hr⟩, hG.2.2.1⟩, rfl⟩
    show dz_ok S.1 ρ (dz_cst (.ofNat n.val)) (Int64.ofInt (n.val : Nat)).toInt
    have hn1 : (0 : Int) ≤ ((n.val : Nat) : Int) := Int.natCast_nonneg _
    have hn2 : ((n.val : Nat) : Int) < 2 := by have := n.isLt; exact Int.ofNat_lt.mpr this
    rw [Int64.toInt_ofInt_of_le (Int.le_trans (by decide) hn1) (Int.lt_of_lt_of_le hn2 (by decide))]
    exact dz_ok_cst _
  case aconst_null =>
    cases hp
    exact ⟨_, rfl, hG.stack ⟨⟨rfl, dz_ok_cst 0, fun r hr => by cases hr⟩, hG.2.2.1⟩, rfl⟩
  case iload_n k =>
    obtain ⟨v, h1, h2, h3, h4⟩ := dz_ldv_ok hG hp
    exact ⟨(L, v :: st), by show (cz_ld L k cz_isI).map _ = _; rw [dz_ld_i h1 h2]; rfl, h3, h4⟩
  case iload k =>
    obtain ⟨v, h1, h2, h3, h4⟩ := dz_ldv_ok hG hp
    exact ⟨(L, v :: st), by show (cz_ld L k cz_isI).map _ = _; rw [dz_ld_i h1 h2]; rfl, h3, h4⟩
  case lload_n k =>
    obtain ⟨v, h1, h2, h3, h4⟩ := dz_ldv_ok hG hp
    exact ⟨(L, v :: st), by show (cz_ld L k cz_lg).map _ = _; rw [dz_ld_l h1 h2]; rfl, h3, h4⟩
  case lload k =>
    obtain ⟨v, h1, h2, h3, h4⟩ := dz_ldv_ok hG hp
    exact ⟨(L, v :: st), by show (cz_ld L k cz_lg).map _ = _; rw [dz_ld_l h1 h2]; rfl, h3, h4⟩
  case aload_n k =>
    obtain ⟨v, h1, h2, h3, h4⟩ := dz_ldv_ok hG hp
    exact ⟨(L, v :: st), by show (cz_ld L k cz_isR).map _ = _; rw [dz_ld_a h1 h2]; rfl, h3, h4⟩
  case aload k =>
    obtain ⟨v, h1, h2, h3, h4⟩ := dz_ldv_ok hG hp
    exact ⟨(L, v :: st), by show (cz_ld L k cz_isR).map _ = _; rw [dz_ld_a h1 h2]; rfl, h3, h4⟩
  case istore_n k =>
    obtain ⟨v, w, rfl, h2, h3, h4, h5⟩ := dz_st1_ok hG hp
    obtain x | x | x := v
    · exact ⟨(cz_sto L k (.inl x), w), by show (bif Nat.blt k nL then some (cz_sto L k (.inl x), w) else none) = _; rw [h3]; rfl, h4, h5⟩
    · cases h2
    · cases h2
  case istore k =>
    obtain ⟨v, w, rfl, h2, h3, h4, h5⟩ := dz_st1_ok hG hp
    obtain x | x | x := v
    · exact ⟨(cz_sto L k (.inl x), w), by show (bif Nat.blt k nL then some (cz_sto L k (.inl x), w) else none) = _; rw [h3]; rfl, h4, h5⟩
    · cases h2
    · cases h2
  case astore_n k =>
    obtain ⟨v, w, rfl, h2, h3, h4, h5⟩ := dz_st1_ok hG hp
    obtain x | x | x := v
    · cases h2
    · cases h2
    · exact ⟨(cz_sto L k (.inr (.inr x)), w), by show (bif Nat.blt k nL then some (cz_sto L k (.inr (.inr x)), w) else none) = _; rw [h3]; rfl, h4, h5⟩
  case astore k =>
    obtain ⟨v, w, rfl, h2, h3, h4, h5⟩ := dz_st1_ok hG hp
    obtain x | x | x := v
    · cases h2
    · cases h2
    · exact ⟨(cz_sto L k (.inr (.inr x)), w), by show (bif Nat.blt k nL then some (cz_sto L k (.inr (.inr x)), w) else none) = _; rw [h3]; rfl, h4, h5⟩
  case lstore_n k =>
    obtain ⟨v, w, rfl, h2, h3, h4, h5⟩ := dz_st2_ok hG hp
    obtain x | x | x := v
    · cases h2
    · exact ⟨(cz_sto2 L k (.inr (.inl x)), w), by show (bif Nat.blt (k + 1) nL then some (cz_sto2 L k (.inr (.inl x)), w) else none) = _; rw [h3]; rfl, h4, h5⟩
    · cases h2
  case lstore k =>
    obtain ⟨v, w, rfl, h2, h3, h4, h5⟩ := dz_st2_ok hG hp
    obtain x | x | x := v
    · cases h2
    · exact ⟨(cz_sto2 L k (.inr (.inl x)), w), by show (bif Nat.blt (k + 1) nL then some (cz_sto2 L k (.inr (.inl x)), w) else none) = _; rw [h3]; rfl, h4, h5⟩
    · cases h2
  case i2l =>
    have hs := hG.2.2.1
    simp only [dz_p0] at hp
    split at hp
    · rename_i a r he
      rw [he] at hs
      obtain ⟨v, w, rfl, h1, h2⟩ := hs.inv
      cases hb : Nat.beq a.1 0 with
      | false => rw [hb] at hp; cases hp
      | true =>
        rw [hb] at hp
        cases hp
        obtain ⟨x, rfl, hx⟩ := h1.int hb
        refine ⟨(L, .inr (.inl x.toInt64) :: w), rfl, hG.stack ⟨⟨rfl, ?_, fun r hr => by cases hr⟩, h2⟩, rfl⟩
        show dz_ok S.1 ρ a.2.1 x.toInt64.toInt
        rw [Int32.toInt_toInt64]
        exact hx
    · cases hp
  case dup =>
    have hs := hG.2.2.1
    simp only [dz_p0] at hp
    split at hp
    · rename_i a r he
      rw [he] at hs
      obtain ⟨v, w, rfl, h1, h2⟩ := hs.inv
      cases hb : Nat.beq a.1 2 with
      | true => rw [hb] at hp; cases hp
      | false =>
        rw [hb] at hp
        cases hp
        refine ⟨(L, v :: v :: w), ?_, hG.stack ⟨h1, h1, h2⟩, rfl⟩
        show (bif cz_lg v then none else some (L, v :: v :: w)) = _
        rw [dz_vo_lg h1, hb]
        rfl
    · cases hp
  case pop =>
    have hs := hG.2.2.1
    simp only [dz_p0] at hp
    split at hp
    · rename_i a r he
      rw [he] at hs
      obtain ⟨v, w, rfl, h1, h2⟩ := hs.inv
      cases hb : Nat.beq a.1 2 with
      | true => rw [hb] at hp; cases hp
      | false =>
        rw [hb] at hp
        cases hp
        refine ⟨(L, w), ?_, hG.stack h2, rfl⟩
        show (bif cz_lg v then none else some (L, w)) = _
        rw [dz_vo_lg h1, hb]
        rfl
    · cases hp
  case dup2 =>
    have hs := hG.2.2.1
    simp only [dz_p0] at hp
    split at hp
    · rename_i a b r he
      rw [he] at hs
      obtain ⟨v, w, rfl, h1, h2⟩ := hs.inv
      obtain ⟨v2, w, rfl, h3, h4⟩ := h2.inv
      cases hb : (Nat.beq a.1 2 || Nat.beq b.1 2) with
      | true => rw [hb] at hp; cases hp
      | false =>
        rw [hb] at hp
        cases hp
        refine ⟨(L, v :: v2 :: v :: v2 :: w), ?_, hG.stack ⟨h1, h3, h1, h3, h4⟩, rfl⟩
        show (bif cz_lg v || cz_lg v2 then none else some (L, v :: v2 :: v :: v2 :: w)) = _
        rw [dz_vo_lg h1, dz_vo_lg h3, hb]
        rfl
    · cases hp
  case dup_x1 =>
    have hs := hG.2.2.1
    simp only [dz_p0] at hp
    split at hp
    · rename_i a b r he
      rw [he] at hs
      obtain ⟨v, w, rfl, h1, h2⟩ := hs.inv
      obtain ⟨v2, w, rfl, h3, h4⟩ := h2.inv
      cases hb : (Nat.beq a.1 2 || Nat.beq b.1 2) with
      | true => rw [hb] at hp; cases hp
      | false =>
        rw [hb] at hp
        cases hp
        refine ⟨(L, v :: v2 :: v :: w), ?_, hG.stack ⟨h1, h3, h1, h4⟩, rfl⟩
        show (bif cz_lg v || cz_lg v2 then none else some (L, v :: v2 :: v :: w)) = _
        rw [dz_vo_lg h1, dz_vo_lg h3, hb]
        rfl
    · cases hp
  all_goals (exact absurd hp (by simp [dz_p0]))
end DzP0
