/-! L2, part 14: what is known at a cut, at a call, at an end: unknowns that stand for parts of the state. -/
def dz_val (ρ : Nat → Int) (e : dz_E) : Int := e.1 + dz_ev ρ e.2
theorem dz_ok.val {n : Nat} {ρ : Nat → Int} {e : dz_E} {x : Int} (h : dz_ok n ρ e x) : dz_val ρ e = x := h.2
/-- unknowns by expressions -/
noncomputable def dz_sbl (θ : List dz_E) (l : dz_T) : Option dz_E := List.rec (some (dz_cst 0)) (fun t _ ih => match dz_nth θ t.1, ih with
  | some e, some s => some (dz_add (dz_mul t.2 e) s)
  | _, _ => none) l
noncomputable def dz_sb (θ : List dz_E) (e : dz_E) : Option dz_E := match dz_sbl θ e.2 with
  | some s => some (dz_plus s e.1)
  | none => none
theorem dz_nth_lt {α : Type} {l : List α} {i : Nat} {a : α} (h : dz_nth l i = some a) : i < l.length := by
  rw [dz_nth_eq] at h
  exact (List.getElem?_eq_some_iff.mp h).1
/-- the expressions say what the unknowns are -/
def dz_th (n : Nat) (ρ : Nat → Int) (θ : List dz_E) (ρ' : Nat → Int) : Prop := ∀ i e, dz_nth θ i = some e → dz_ok n ρ e (ρ' i)
theorem dz_sbl_ok {n : Nat} {ρ ρ' : Nat → Int} {θ : List dz_E} (hθ : dz_th n ρ θ ρ') : ∀ {l : dz_T} {s : dz_E}, dz_sbl θ l = some s → dz_ok n ρ s (dz_ev ρ' l) ∧ ∀ t ∈ l, t.1 < θ.length
  | [], s, h => by cases h; exact ⟨dz_ok_cst 0, fun t ht => by cases ht⟩
  | t :: r, s, h => by
    have h : (match dz_nth θ t.1, dz_sbl θ r with
      | some e, some s => some (dz_add (dz_mul t.2 e) s)
      | _, _ => none) = some s := h
    split at h
    · rename_i e s' he hs
      cases h
      obtain ⟨h1, h2⟩ := dz_sbl_ok hθ hs
      refine ⟨dz_ok_add (dz_ok_mul t.2 (hθ _ _ he)) h1, fun q hq => ?_⟩
      rcases List.mem_cons.mp hq with rfl | hq
      · exact dz_nth_lt he
      · exact h2 q hq
    · cases h
theorem dz_sb_ok {n : Nat} {ρ ρ' : Nat → Int} {θ : List dz_E} (hθ : dz_th n ρ θ ρ') {e s : dz_E} (h : dz_sb θ e = some s) : dz_ok n ρ s (dz_val ρ' e) ∧ ∀ t ∈ e.2, t.1 < θ.length := by
  unfold dz_sb at h
  split at h
  · rename_i s' hs
    cases h
    obtain ⟨h1, h2⟩ := dz_sbl_ok hθ hs
    refine ⟨?_, h2⟩
    have := dz_ok_plus e.1 h1
    rw [show dz_val ρ' e = dz_ev ρ' e.2 + e.1 by unfold dz_val; omega]
    exact this
  · cases h
/-- where all are there -/
noncomputable def dz_sbt (θ : List dz_E) (e : dz_E) : dz_E := match dz_sb θ e with
  | some s => s
  | none => dz_cst 0
theorem dz_sbl_some {θ : List dz_E} : ∀ {l : dz_T}, (∀ t ∈ l, t.1 < θ.length) → ∃ s, dz_sbl θ l = some s
  | [], _ => ⟨_, rfl⟩
  | t :: r, h => by
    obtain ⟨s, hs⟩ := dz_sbl_some (l := r) fun q hq => h q (List.mem_cons_of_mem _ hq)
    have he : ∃ e, dz_nth θ t.1 = some e := by
      rw [dz_nth_eq]
      exact ⟨_, List.getElem?_eq_getElem (h t List.mem_cons_self)⟩
    obtain ⟨e, he⟩ := he
    refine ⟨dz_add (dz_mul t.2 e) s, ?_⟩
    show (match dz_nth θ t.1, dz_sbl θ r with
      | some e, some s => some (dz_add (dz_mul t.2 e) s)
      | _, _ => none) = _
    rw [he, hs]
theorem dz_sbt_ok {n m : Nat} {ρ ρ' : Nat → Int} {θ : List dz_E} (hθ : dz_th n ρ θ ρ') (hm : m = θ.length) {e : dz_E} {x : Int} (he : dz_ok m ρ' e x) : dz_ok n ρ (dz_sbt θ e) x := by
  obtain ⟨s, hs⟩ := dz_sbl_some (θ := θ) (l := e.2) (fun t ht => by rw [← hm]; exact he.1 t ht)
  have h1 : dz_sb θ e = some (dz_plus s e.1) := by unfold dz_sb; rw [hs]
  have h2 := (dz_sb_ok hθ h1).1
  unfold dz_sbt
  rw [h1, ← he.val]
  exact h2
/-- a part of a template: 0 a local (number, kind, tag), 1 a slot (kind, tag of the value, tag of the cell; place, index), 2 a local that is an expression, 3 a slot that is one, 4 an array (tag; place, bounds): its length, from where, up to where -/
abbrev dz_Cm : Type := (Nat × Nat × Nat × Nat) × dz_E × dz_E × dz_E
/-- a template: how many unknowns were before (then: cells, slots), parts, what is known -/
abbrev dz_Tp : Type := Nat × List dz_Cm × List dz_E
noncomputable def dz_w (c : dz_Cm) : Nat := match c.1.1 with
  | 0 => 1
  | 1 => 1
  | 4 => 3
  | _ => 0
noncomputable def dz_inL (cs : List dz_Cm) : Nat → List (Nat × dz_A) := List.rec (fun _ => []) (fun c _ ih n => match c.1.1 with
  | 0 => (c.1.2.1, c.1.2.2.1, dz_var n, c.1.2.2.2) :: ih (Nat.add n (dz_w c))
  | 2 => (c.1.2.1, c.1.2.2.1, c.2.1, c.1.2.2.2) :: ih (Nat.add n (dz_w c))
  | _ => ih (Nat.add n (dz_w c))) cs
noncomputable def dz_inM (cs : List dz_Cm) : Nat → List dz_M := List.rec (fun _ => []) (fun c _ ih n => match c.1.1 with
  | 1 => (c.2.1, c.1.2.2.2, c.2.2.1, (c.1.2.1, dz_var n, c.1.2.2.1)) :: ih (Nat.add n (dz_w c))
  | 3 => (c.2.1, c.1.2.2.2, c.2.2.1, (c.1.2.1, c.2.2.2, c.1.2.2.1)) :: ih (Nat.add n (dz_w c))
  | _ => ih (Nat.add n (dz_w c))) cs
noncomputable def dz_inK (cs : List dz_Cm) : Nat → List dz_K := List.rec (fun _ => []) (fun c _ ih n => match c.1.1 with
  | 4 => (c.2.1, c.1.2.1, dz_var n, dz_var (Nat.add n 1), dz_var (Nat.add n 2), c.2.2.1, c.2.2.2) :: ih (Nat.add n (dz_w c))
  | _ => ih (Nat.add n (dz_w c))) cs
noncomputable def dz_inN (cs : List dz_Cm) : Nat → Nat := List.rec (fun n => n) (fun c _ ih n => ih (Nat.add n (dz_w c))) cs
noncomputable def dz_ini (tp : dz_Tp) : dz_S := (dz_inN tp.2.1 (Nat.add tp.1 2), tp.2.2, dz_inL tp.2.1 (Nat.add tp.1 2), [], dz_inM tp.2.1 (Nat.add tp.1 2), dz_inK tp.2.1 (Nat.add tp.1 2), dz_var tp.1, dz_var (Nat.add tp.1 1))
/-- a tag, or null -/
noncomputable def dz_tgb (t t' : Nat) (e : dz_E) : Bool := Nat.beq t t' || dz_is0 e
/-- one part, looked up -/
noncomputable def dz_m1 (S : dz_S) (c : dz_Cm) (θ : List dz_E) (j : Nat) : Option (List dz_E) := match c.1.1 with
  | 0 => (match dz_fl c.1.2.1 S.2.2.1 with
    | some a => bif Nat.beq a.1 c.1.2.2.1 && dz_tgb a.2.2 c.1.2.2.2 a.2.1 then some (θ ++ [a.2.1]) else none
    | none => none)
  | 2 => (match dz_fl c.1.2.1 S.2.2.1, dz_sb θ c.2.1 with
    | some a, some e => bif (Nat.beq a.1 c.1.2.2.1 && dz_tgb a.2.2 c.1.2.2.2 a.2.1) && dz_same a.2.1 e then some θ else none
    | _, _ => none)
  | 1 => (match dz_nth S.2.2.2.2.1 j, dz_sb θ c.2.1, dz_sb θ c.2.2.1 with
    | some m, some p, some ix => bif (dz_same m.1 p && (Nat.beq m.2.1 c.1.2.2.2 && dz_same m.2.2.1 ix)) && (Nat.beq m.2.2.2.1 c.1.2.1 && dz_tgb m.2.2.2.2.2 c.1.2.2.1 m.2.2.2.2.1) then some (θ ++ [m.2.2.2.2.1]) else none
    | _, _, _ => none)
  | 3 => (match dz_nth S.2.2.2.2.1 j, dz_sb θ c.2.1, dz_sb θ c.2.2.1, dz_sb θ c.2.2.2 with
    | some m, some p, some ix, some e => bif ((dz_same m.1 p && (Nat.beq m.2.1 c.1.2.2.2 && dz_same m.2.2.1 ix)) && (Nat.beq m.2.2.2.1 c.1.2.1 && dz_tgb m.2.2.2.2.2 c.1.2.2.1 m.2.2.2.2.1)) && dz_same m.2.2.2.2.1 e then some θ else none
    | _, _, _, _ => none)
  | 4 => (match dz_nth S.2.2.2.2.2.1 j, dz_sb θ c.2.1, dz_sb θ c.2.2.1, dz_sb θ c.2.2.2 with
    | some k, some p, some lo, some hi => bif (dz_same k.1 p && Nat.beq k.2.1 c.1.2.1) && (dz_same k.2.2.2.2.2.1 lo && dz_same k.2.2.2.2.2.2 hi) then some (θ ++ [k.2.2.1, k.2.2.2.1, k.2.2.2.2.1]) else none
    | _, _, _, _ => none)
  | _ => none
noncomputable def dz_mt (S : dz_S) (cs : List dz_Cm) : List dz_E → List Nat → Option (List dz_E) := List.rec (fun θ _ => some θ) (fun c _ ih θ ns => bif Nat.beq c.1.1 0 || Nat.beq c.1.1 2 then (match dz_m1 S c θ 0 with
  | some θ1 => ih θ1 ns
  | none => none) else (match ns with
  | j :: ns => (match dz_m1 S c θ j with
    | some θ1 => ih θ1 ns
    | none => none)
  | [] => none)) cs
theorem dz_mt_eq (S : dz_S) (c : dz_Cm) (cs : List dz_Cm) (θ : List dz_E) (ns : List Nat) : dz_mt S (c :: cs) θ ns = (bif Nat.beq c.1.1 0 || Nat.beq c.1.1 2 then (match dz_m1 S c θ 0 with
    | some θ1 => dz_mt S cs θ1 ns
    | none => none) else (match ns with
    | j :: ns => (match dz_m1 S c θ j with
      | some θ1 => dz_mt S cs θ1 ns
      | none => none)
    | [] => none)) := rfl
theorem dz_mt_cons {S : dz_S} {c : dz_Cm} {cs : List dz_Cm} {θ θ' : List dz_E} {ns : List Nat} (h : dz_mt S (c :: cs) θ ns = some θ') : ∃ j θ1 ns1, dz_m1 S c θ j = some θ1 ∧ dz_mt S cs θ1 ns1 = some θ' := by
  rw [dz_mt_eq] at h
  cases hb : (Nat.beq c.1.1 0 || Nat.beq c.1.1 2) with
  | true =>
    rw [hb] at h
    simp only [cond_true] at h
    split at h
    · rename_i θ1 h1
      exact ⟨0, θ1, ns, h1, h⟩
    · cases h
  | false =>
    rw [hb] at h
    cases ns with
    | nil => cases h
    | cons j ns1 =>
      simp only [cond_false] at h
      split at h
      · rename_i θ1 h1
        exact ⟨j, θ1, ns1, h1, h⟩
      · cases h
section DzTp
variable {T : dz_TT} {X : dz_X} {S : dz_S} {ρ ρ' : Nat → Int} {τ : Nat → Nat} {h : cz_H} {L : List (Nat × cz_V)} {st : List cz_V}
/-- an expression looked up under the names of a template -/
theorem dz_sb_in {θ θf : List dz_E} {N : Nat} (hθ : dz_th S.1 ρ θ ρ') (hN : θ.length ≤ N) {e s : dz_E} {x : Int} (h : dz_sb θ e = some s) (hs : dz_ok S.1 ρ s x) : dz_ok N ρ' e x := by
  obtain ⟨h1, h2⟩ := dz_sb_ok hθ h
  have e1 := dz_ok_uniq hs h1
  exact ⟨fun t ht => Nat.lt_of_lt_of_le (h2 t ht) hN, e1.symm⟩
theorem dz_vo_in {N : Nat} {e e' : dz_E} {k t t' : Nat} {v : cz_V} {n : Nat} (hv : dz_vo n ρ τ (k, e, t) v) (he : dz_ok N ρ' e' (dz_n v)) (ht : dz_tgb t t' e = true) (hn : dz_ok n ρ e (dz_n v)) : dz_vo N ρ' τ (k, e', t') v := by
  refine ⟨hv.1, he, fun r hr => ?_⟩
  simp only [dz_tgb, Bool.or_eq_true] at ht
  rcases ht with ht | ht
  · have ht := Nat.eq_of_beq_eq_true ht
    rw [← ht]; exact hv.2.2 r hr
  · have := dz_is0_ok hn ht
    rw [hr] at this
    have : (r : Int) + 1 = 0 := this
    omega
/-- what of a list was there stays -/
theorem dz_mt_pre {S : dz_S} : ∀ {cs : List dz_Cm} {θ θ' : List dz_E} {ns : List Nat}, dz_mt S cs θ ns = some θ' → ∃ r, θ' = θ ++ r
  | [], θ, θ', ns, h => by cases h; exact ⟨[], by simp⟩
  | c :: cs, θ, θ', ns, h => by
    obtain ⟨j, θ1, ns1, h1, h2⟩ := dz_mt_cons h
    obtain ⟨r, hr⟩ := dz_mt_pre h2
    have hx : ∃ r1, θ1 = θ ++ r1 := by
      unfold dz_m1 at h1
      split at h1
      · split at h1
        · rename_i a _
          cases hb : (Nat.beq a.1 c.1.2.2.1 && dz_tgb a.2.2 c.1.2.2.2 a.2.1) <;> rw [hb] at h1 <;> cases h1
          exact ⟨_, rfl⟩
        · cases h1
      · split at h1
        · rename_i a e _ _
          cases hb : ((Nat.beq a.1 c.1.2.2.1 && dz_tgb a.2.2 c.1.2.2.2 a.2.1) && dz_same a.2.1 e) <;> rw [hb] at h1 <;> cases h1
          exact ⟨[], by simp⟩
        · cases h1
      · split at h1
        · rename_i m p ix _ _ _
          cases hb : ((dz_same m.1 p && (Nat.beq m.2.1 c.1.2.2.2 && dz_same m.2.2.1 ix)) && (Nat.beq m.2.2.2.1 c.1.2.1 && dz_tgb m.2.2.2.2.2 c.1.2.2.1 m.2.2.2.2.1)) <;> rw [hb] at h1 <;> cases h1
          exact ⟨_, rfl⟩
        · cases h1
      · split at h1
        · rename_i m p ix e _ _ _ _
          cases hb : (((dz_same m.1 p && (Nat.beq m.2.1 c.1.2.2.2 && dz_same m.2.2.1 ix)) && (Nat.beq m.2.2.2.1 c.1.2.1 && dz_tgb m.2.2.2.2.2 c.1.2.2.1 m.2.2.2.2.1)) && dz_same m.2.2.2.2.1 e) <;> rw [hb] at h1 <;> cases h1
          exact ⟨[], by simp⟩
        · cases h1
      · split at h1
        · rename_i k p lo hi _ _ _ _
          cases hb : ((dz_same k.1 p && Nat.beq k.2.1 c.1.2.1) && (dz_same k.2.2.2.2.2.1 lo && dz_same k.2.2.2.2.2.2 hi)) <;> rw [hb] at h1 <;> cases h1
          exact ⟨_, rfl⟩
        · cases h1
      · cases h1
    obtain ⟨r1, hr1⟩ := hx
    exact ⟨r1 ++ r, by rw [hr, hr1, List.append_assoc]⟩
theorem dz_m1_wf (hG : dz_G T X S ρ τ h L st) {c : dz_Cm} {θ θ1 : List dz_E} {j : Nat} (hw : ∀ e ∈ θ, ∃ x, dz_ok S.1 ρ e x) (h1 : dz_m1 S c θ j = some θ1) : ∀ e ∈ θ1, ∃ x, dz_ok S.1 ρ e x := by
  have happ : ∀ e0 : dz_E, (∃ x, dz_ok S.1 ρ e0 x) → ∀ e ∈ θ ++ [e0], ∃ x, dz_ok S.1 ρ e x := by
    intro e0 h0 e he
    rcases List.mem_append.mp he with he | he
    · exact hw e he
    · rw [List.mem_singleton.mp he]; exact h0
  unfold dz_m1 at h1
  split at h1
  · split at h1
    · rename_i a ha
      cases hb : (Nat.beq a.1 c.1.2.2.1 && dz_tgb a.2.2 c.1.2.2.2 a.2.1) <;> rw [hb] at h1 <;> cases h1
      obtain ⟨v, _, v2⟩ := hG.2.1 _ (dz_fl_mem ha)
      exact happ _ ⟨_, v2.2.1⟩
    · cases h1
  · split at h1
    · rename_i a e _ _
      cases hb : ((Nat.beq a.1 c.1.2.2.1 && dz_tgb a.2.2 c.1.2.2.2 a.2.1) && dz_same a.2.1 e) <;> rw [hb] at h1 <;> cases h1
      exact hw
    · cases h1
  · split at h1
    · rename_i m p ix hm _ _
      cases hb : ((dz_same m.1 p && (Nat.beq m.2.1 c.1.2.2.2 && dz_same m.2.2.1 ix)) && (Nat.beq m.2.2.2.1 c.1.2.1 && dz_tgb m.2.2.2.2.2 c.1.2.2.1 m.2.2.2.2.1)) <;> rw [hb] at h1 <;> cases h1
      obtain ⟨_, _, _, _, _, _, _, m5⟩ := hG.2.2.2.1 m (dz_nth_mem hm)
      exact happ _ ⟨_, m5.2.1⟩
    · cases h1
  · split at h1
    · rename_i m p ix e _ _ _ _
      cases hb : (((dz_same m.1 p && (Nat.beq m.2.1 c.1.2.2.2 && dz_same m.2.2.1 ix)) && (Nat.beq m.2.2.2.1 c.1.2.1 && dz_tgb m.2.2.2.2.2 c.1.2.2.1 m.2.2.2.2.1)) && dz_same m.2.2.2.2.1 e) <;> rw [hb] at h1 <;> cases h1
      exact hw
    · cases h1
  · split at h1
    · rename_i k p lo hi hk _ _ _
      cases hb : ((dz_same k.1 p && Nat.beq k.2.1 c.1.2.1) && (dz_same k.2.2.2.2.2.1 lo && dz_same k.2.2.2.2.2.2 hi)) <;> rw [hb] at h1 <;> cases h1
      obtain ⟨_, _, _, _, _, _, _, _, _, k4, k5, k6, _⟩ := hG.2.2.2.2.1 k (dz_nth_mem hk)
      intro e he
      rcases List.mem_append.mp he with he | he
      · exact hw e he
      · simp only [List.mem_cons, List.not_mem_nil, or_false] at he
        rcases he with rfl | rfl | rfl
        · exact ⟨_, k4⟩
        · exact ⟨_, k5⟩
        · exact ⟨_, k6⟩
    · cases h1
  · cases h1
theorem dz_mt_wf (hG : dz_G T X S ρ τ h L st) : ∀ {cs : List dz_Cm} {θ θ' : List dz_E} {ns : List Nat}, (∀ e ∈ θ, ∃ x, dz_ok S.1 ρ e x) → dz_mt S cs θ ns = some θ' → ∀ e ∈ θ', ∃ x, dz_ok S.1 ρ e x
  | [], θ, θ', ns, hw, hm => by cases hm; exact hw
  | c :: cs, θ, θ', ns, hw, hm => by
    obtain ⟨j, θ1, ns1, h1, h2⟩ := dz_mt_cons hm
    exact dz_mt_wf hG (dz_m1_wf hG hw h1) h2
theorem dz_nth_app {α : Type} {l r : List α} {i : Nat} {a : α} (h : dz_nth l i = some a) : dz_nth (l ++ r) i = some a := by
  rw [dz_nth_eq] at h ⊢
  rw [List.getElem?_append_left (List.getElem?_eq_some_iff.mp h).1]
  exact h
theorem dz_nth_last {α : Type} (l : List α) (a : α) (r : List α) : dz_nth (l ++ a :: r) l.length = some a := by
  rw [dz_nth_eq, List.getElem?_append_right (Nat.le_refl _)]
  simp
set_option maxHeartbeats 4000000 in
theorem dz_mt_ok (hG : dz_G T X S ρ τ h L st) {θf : List dz_E} (hθ : dz_th S.1 ρ θf ρ') : ∀ {cs : List dz_Cm} {θ : List dz_E} {ns : List Nat}, dz_mt S cs θ ns = some θf → dz_lo θf.length ρ' τ (dz_inL cs θ.length) L ∧ (∀ m ∈ dz_inM cs θ.length, dz_mo θf.length ρ' τ h m) ∧ (∀ k ∈ dz_inK cs θ.length, dz_ko θf.length ρ' τ h k) ∧ dz_inN cs θ.length = θf.length
  | [], θ, ns, hm => by
    cases hm
    exact ⟨fun q hq => (by cases hq), fun q hq => (by cases hq), fun q hq => (by cases hq), rfl⟩
  | c :: cs, θ, ns, hm => by
    obtain ⟨j, θ1, ns1, h1, h2⟩ := dz_mt_cons hm
    obtain ⟨r, hr⟩ := dz_mt_pre h2
    have ih := dz_mt_ok hG hθ h2
    have hth1 : dz_th S.1 ρ θ1 ρ' := fun i e he => hθ i e (by rw [hr]; exact dz_nth_app he)
    have hle1 : θ1.length ≤ θf.length := by rw [hr, List.length_append]; omega
    unfold dz_m1 at h1
    have hinL : dz_inL (c :: cs) θ.length = (match c.1.1 with
      | 0 => (c.1.2.1, c.1.2.2.1, dz_var θ.length, c.1.2.2.2) :: dz_inL cs (θ.length + dz_w c)
      | 2 => (c.1.2.1, c.1.2.2.1, c.2.1, c.1.2.2.2) :: dz_inL cs (θ.length + dz_w c)
      | _ => dz_inL cs (θ.length + dz_w c)) := rfl
    have hinM : dz_inM (c :: cs) θ.length = (match c.1.1 with
      | 1 => (c.2.1, c.1.2.2.2, c.2.2.1, (c.1.2.1, dz_var θ.length, c.1.2.2.1)) :: dz_inM cs (θ.length + dz_w c)
      | 3 => (c.2.1, c.1.2.2.2, c.2.2.1, (c.1.2.1, c.2.2.2, c.1.2.2.1)) :: dz_inM cs (θ.length + dz_w c)
      | _ => dz_inM cs (θ.length + dz_w c)) := rfl
    have hinK : dz_inK (c :: cs) θ.length = (match c.1.1 with
      | 4 => (c.2.1, c.1.2.1, dz_var θ.length, dz_var (θ.length + 1), dz_var (θ.length + 2), c.2.2.1, c.2.2.2) :: dz_inK cs (θ.length + dz_w c)
      | _ => dz_inK cs (θ.length + dz_w c)) := rfl
    have hinN : dz_inN (c :: cs) θ.length = dz_inN cs (θ.length + dz_w c) := rfl
    rw [hinL, hinM, hinK, hinN]
    unfold dz_w
    split at h1
    · rename_i hc
      rw [hc]
      try dsimp only
      split at h1
      · rename_i a ha
        cases hb : (Nat.beq a.1 c.1.2.2.1 && dz_tgb a.2.2 c.1.2.2.2 a.2.1) with
        | false => rw [hb] at h1; cases h1
        | true =>
          rw [hb] at h1
          cases h1
          simp only [Bool.and_eq_true] at hb
          rw [List.length_append] at ih
          obtain ⟨v, v1, v2⟩ := hG.2.1 _ (dz_fl_mem ha)
          have hvar := hth1 θ.length a.2.1 (dz_nth_last θ a.2.1 [])
          have e1 := dz_ok_uniq v2.2.1 hvar
          refine ⟨fun q hq => ?_, ih.2.1, ih.2.2.1, ih.2.2.2⟩
          rcases List.mem_cons.mp hq with rfl | hq
          · refine ⟨v, v1, ?_⟩
            rw [← Nat.eq_of_beq_eq_true hb.1]
            refine dz_vo_in v2 ?_ hb.2 v2.2.1
            rw [e1]
            exact dz_ok_var (by rw [List.length_append] at hle1; simp only [List.length_cons, List.length_nil] at hle1; omega)
          · exact ih.1 q hq
      · cases h1
    · rename_i hc
      rw [hc]
      try dsimp only
      split at h1
      · rename_i a e ha he
        cases hb : ((Nat.beq a.1 c.1.2.2.1 && dz_tgb a.2.2 c.1.2.2.2 a.2.1) && dz_same a.2.1 e) with
        | false => rw [hb] at h1; cases h1
        | true =>
          rw [hb] at h1
          cases h1
          simp only [Bool.and_eq_true] at hb
          obtain ⟨v, v1, v2⟩ := hG.2.1 _ (dz_fl_mem ha)
          obtain ⟨s1, _⟩ := dz_sb_ok hth1 he
          have e1 := dz_same_ok v2.2.1 s1 hb.2
          refine ⟨fun q hq => ?_, ih.2.1, ih.2.2.1, ih.2.2.2⟩
          rcases List.mem_cons.mp hq with rfl | hq
          · refine ⟨v, v1, ?_⟩
            rw [← Nat.eq_of_beq_eq_true hb.1.1]
            refine dz_vo_in v2 ?_ hb.1.2 v2.2.1
            rw [e1]
            exact dz_sb_in (θf := θf) hth1 hle1 he s1
          · exact ih.1 q hq
      · cases h1
    · rename_i hc
      rw [hc]
      try dsimp only
      split at h1
      · rename_i m p ix hm' hp hix
        cases hb : ((dz_same m.1 p && (Nat.beq m.2.1 c.1.2.2.2 && dz_same m.2.2.1 ix)) && (Nat.beq m.2.2.2.1 c.1.2.1 && dz_tgb m.2.2.2.2.2 c.1.2.2.1 m.2.2.2.2.1)) with
        | false => rw [hb] at h1; cases h1
        | true =>
          rw [hb] at h1
          cases h1
          simp only [Bool.and_eq_true] at hb
          rw [List.length_append] at ih
          have hth0 : dz_th S.1 ρ θ ρ' := fun i e he => hth1 i e (dz_nth_app he)
          have hle0 : θ.length ≤ θf.length := by rw [List.length_append] at hle1; omega
          obtain ⟨r', i', v, m1, m2, m3, m4, m5⟩ := hG.2.2.2.1 m (dz_nth_mem hm')
          obtain ⟨s1, _⟩ := dz_sb_ok hth0 hp
          obtain ⟨s2, _⟩ := dz_sb_ok hth0 hix
          have q1 := dz_same_ok m1 s1 hb.1.1
          have q2 := dz_same_ok m3 s2 hb.1.2.2
          have hvar := hth1 θ.length m.2.2.2.2.1 (dz_nth_last θ _ [])
          have e1 := dz_ok_uniq m5.2.1 hvar
          refine ⟨ih.1, fun q hq => ?_, ih.2.2.1, ih.2.2.2⟩
          rcases List.mem_cons.mp hq with rfl | hq
          · refine ⟨r', i', v, ?_, ?_, ?_, m4, ?_⟩
            · rw [q1]; exact dz_sb_in (θf := θf) hth0 hle0 hp s1
            · show τ r' = c.1.2.2.2 ∧ c.1.2.2.2 ≠ 0
              rw [← Nat.eq_of_beq_eq_true hb.1.2.1]; exact m2
            · rw [q2]; exact dz_sb_in (θf := θf) hth0 hle0 hix s2
            · show dz_vo θf.length ρ' τ (c.1.2.1, dz_var θ.length, c.1.2.2.1) v
              rw [← Nat.eq_of_beq_eq_true hb.2.1]
              refine dz_vo_in m5 ?_ hb.2.2 m5.2.1
              rw [e1]
              exact dz_ok_var (by rw [List.length_append] at hle1; simp only [List.length_cons, List.length_nil] at hle1; omega)
          · exact ih.2.1 q hq
      · cases h1
    · rename_i hc
      rw [hc]
      try dsimp only
      split at h1
      · rename_i m p ix e hm' hp hix he
        cases hb : (((dz_same m.1 p && (Nat.beq m.2.1 c.1.2.2.2 && dz_same m.2.2.1 ix)) && (Nat.beq m.2.2.2.1 c.1.2.1 && dz_tgb m.2.2.2.2.2 c.1.2.2.1 m.2.2.2.2.1)) && dz_same m.2.2.2.2.1 e) with
        | false => rw [hb] at h1; cases h1
        | true =>
          rw [hb] at h1
          cases h1
          simp only [Bool.and_eq_true] at hb
          obtain ⟨r', i', v, m1, m2, m3, m4, m5⟩ := hG.2.2.2.1 m (dz_nth_mem hm')
          obtain ⟨s1, _⟩ := dz_sb_ok hth1 hp
          obtain ⟨s2, _⟩ := dz_sb_ok hth1 hix
          obtain ⟨s3, _⟩ := dz_sb_ok hth1 he
          have q1 := dz_same_ok m1 s1 hb.1.1.1
          have q2 := dz_same_ok m3 s2 hb.1.1.2.2
          have q3 := dz_same_ok m5.2.1 s3 hb.2
          refine ⟨ih.1, fun q hq => ?_, ih.2.2.1, ih.2.2.2⟩
          rcases List.mem_cons.mp hq with rfl | hq
          · refine ⟨r', i', v, ?_, ?_, ?_, m4, ?_⟩
            · rw [q1]; exact dz_sb_in (θf := θf) hth1 hle1 hp s1
            · show τ r' = c.1.2.2.2 ∧ c.1.2.2.2 ≠ 0
              rw [← Nat.eq_of_beq_eq_true hb.1.1.2.1]; exact m2
            · rw [q2]; exact dz_sb_in (θf := θf) hth1 hle1 hix s2
            · show dz_vo θf.length ρ' τ (c.1.2.1, c.2.2.2, c.1.2.2.1) v
              rw [← Nat.eq_of_beq_eq_true hb.1.2.1]
              refine dz_vo_in m5 ?_ hb.1.2.2 m5.2.1
              rw [q3]
              exact dz_sb_in (θf := θf) hth1 hle1 he s3
          · exact ih.2.1 q hq
      · cases h1
    · rename_i hc
      rw [hc]
      try dsimp only
      split at h1
      · rename_i k p lo hi hk hp hlo hhi
        cases hb : ((dz_same k.1 p && Nat.beq k.2.1 c.1.2.1) && (dz_same k.2.2.2.2.2.1 lo && dz_same k.2.2.2.2.2.2 hi)) with
        | false => rw [hb] at h1; cases h1
        | true =>
          rw [hb] at h1
          cases h1
          simp only [Bool.and_eq_true] at hb
          rw [List.length_append] at ih hle1
          simp only [List.length_cons, List.length_nil] at ih hle1
          have hth0 : dz_th S.1 ρ θ ρ' := fun i e he => hth1 i e (dz_nth_app he)
          have hle0 : θ.length ≤ θf.length := by omega
          obtain ⟨r', q, s, u, lo', hi', k1, k2, k3, k4, k5, k6, k7, k8, k9⟩ := hG.2.2.2.2.1 k (dz_nth_mem hk)
          obtain ⟨s1, _⟩ := dz_sb_ok hth0 hp
          obtain ⟨s2, _⟩ := dz_sb_ok hth0 hlo
          obtain ⟨s3, _⟩ := dz_sb_ok hth0 hhi
          have q1 := dz_same_ok k1 s1 hb.1.1
          have q2 := dz_same_ok k7 s2 hb.2.1
          have q3 := dz_same_ok k8 s3 hb.2.2
          have v0 := hth1 θ.length k.2.2.1 (dz_nth_last θ _ _)
          have v1 := hth1 (θ.length + 1) k.2.2.2.1 (by rw [dz_nth_eq, List.getElem?_append_right (by omega)]; simp)
          have v2 := hth1 (θ.length + 2) k.2.2.2.2.1 (by rw [dz_nth_eq, List.getElem?_append_right (by omega)]; simp)
          have e0 := dz_ok_uniq k4 v0
          have e1 := dz_ok_uniq k5 v1
          have e2 := dz_ok_uniq k6 v2
          refine ⟨ih.1, ih.2.1, fun q' hq' => ?_, ih.2.2.2⟩
          rcases List.mem_cons.mp hq' with rfl | hq'
          · refine ⟨r', q, s, u, lo', hi', ?_, ?_, k3, ?_, ?_, ?_, ?_, ?_, k9⟩
            · rw [q1]; exact dz_sb_in (θf := θf) hth0 hle0 hp s1
            · show τ r' = c.1.2.1 ∧ c.1.2.1 ≠ 0
              rw [← Nat.eq_of_beq_eq_true hb.1.2]; exact k2
            · rw [e0]; exact dz_ok_var (by omega)
            · rw [e1]; exact dz_ok_var (by omega)
            · rw [e2]; exact dz_ok_var (by omega)
            · rw [q2]; exact dz_sb_in (θf := θf) hth0 hle0 hlo s2
            · rw [q3]; exact dz_sb_in (θf := θf) hth0 hle0 hhi s3
          · exact ih.2.2.1 q' hq'
      · cases h1
    · cases h1
/-- what is known, asked for -/
noncomputable def dz_gs2 (Γ : List dz_E) (θ : List dz_E) (es : List dz_E) : List dz_Ct → Bool := List.rec (fun _ => true) (fun e _ ih cts => match cts, dz_sb θ e with
  | c :: cts, some s => dz_pf Γ c s && ih cts
  | _, _ => false) es
theorem dz_gs2_eq (Γ θ : List dz_E) (e0 : dz_E) (r : List dz_E) (cts : List dz_Ct) : dz_gs2 Γ θ (e0 :: r) cts = (match cts, dz_sb θ e0 with
      | c :: cts, some s => dz_pf Γ c s && dz_gs2 Γ θ r cts
      | _, _ => false) := rfl
theorem dz_gs2_ok {Γ θ : List dz_E} (hΓ : dz_Gm S.1 ρ Γ) (hθ : dz_th S.1 ρ θ ρ') : ∀ {es : List dz_E} {cts : List dz_Ct}, dz_gs2 Γ θ es cts = true → dz_Gm θ.length ρ' es
  | [], cts, h => fun e he => by cases he
  | e0 :: r, cts, h => by
    rw [dz_gs2_eq] at h
    split at h
    · rename_i c cts' s hs
      simp only [Bool.and_eq_true] at h
      obtain ⟨s1, s2⟩ := dz_sb_ok hθ hs
      have := dz_pf_ok hΓ s1 h.1
      exact (dz_gs2_ok hΓ hθ h.2).cons ⟨s2, rfl⟩ this
    · cases h
/-- into a template: expressions for its unknowns -/
noncomputable def dz_into (tp : dz_Tp) (S : dz_S) (θ0 : List dz_E) (hn : dz_Hn) : Option (List dz_E) := bif Nat.beq θ0.length tp.1 then (match dz_mt S tp.2.1 (θ0 ++ [S.2.2.2.2.2.2.1, S.2.2.2.2.2.2.2]) hn.2.2 with
  | some θ => bif dz_gs2 S.2.1 θ tp.2.2 hn.2.1 then some θ else none
  | none => none) else none
theorem dz_into_ok (hG : dz_G T X S ρ τ h L st) {tp : dz_Tp} {θ0 θ : List dz_E} {hn : dz_Hn} (h0 : ∀ e ∈ θ0, ∃ x, dz_ok S.1 ρ e x) (hi : dz_into tp S θ0 hn = some θ) : dz_G T X (dz_ini tp) (fun i => match dz_nth θ i with | some e => dz_val ρ e | none => 0) τ h L [] ∧ dz_th S.1 ρ θ (fun i => match dz_nth θ i with | some e => dz_val ρ e | none => 0) ∧ (dz_ini tp).1 = θ.length ∧ ∃ r, θ = θ0 ++ r := by
  unfold dz_into at hi
  cases hl : Nat.beq θ0.length tp.1 with
  | false => rw [hl] at hi; cases hi
  | true =>
    rw [hl] at hi
    have hl := Nat.eq_of_beq_eq_true hl
    simp only [cond_true] at hi
    split at hi
    · rename_i θ1 hm
      cases hg : dz_gs2 S.2.1 θ1 tp.2.2 hn.2.1 with
      | false => rw [hg] at hi; cases hi
      | true =>
        rw [hg] at hi
        cases hi
        have hwf : ∀ e ∈ θ, ∃ x, dz_ok S.1 ρ e x := by
          refine dz_mt_wf hG (fun e he => ?_) hm
          rcases List.mem_append.mp he with he | he
          · exact h0 e he
          · simp only [List.mem_cons, List.not_mem_nil, or_false] at he
            rcases he with rfl | rfl
            · exact ⟨_, hG.2.2.2.2.2.1⟩
            · exact ⟨_, hG.2.2.2.2.2.2.1⟩
        have hth : dz_th S.1 ρ θ (fun i => match dz_nth θ i with | some e => dz_val ρ e | none => 0) := by
          intro i e he
          obtain ⟨x, hx⟩ := hwf e (dz_nth_mem he)
          show dz_ok S.1 ρ e (match dz_nth θ i with | some e => dz_val ρ e | none => 0)
          rw [he]
          dsimp only
          rw [hx.val]
          exact hx
        obtain ⟨r, hr⟩ := dz_mt_pre hm
        have hlen : (θ0 ++ [S.2.2.2.2.2.2.1, S.2.2.2.2.2.2.2]).length = Nat.add tp.1 2 := by
          rw [List.length_append, hl]; rfl
        obtain ⟨m1, m2, m3, m4⟩ := dz_mt_ok hG hth hm
        rw [hlen] at m1 m2 m3 m4
        have c1 : dz_nth θ tp.1 = some S.2.2.2.2.2.2.1 := by
          rw [hr, ← hl]
          exact dz_nth_app (dz_nth_last θ0 _ _)
        have c2 : dz_nth θ (Nat.add tp.1 1) = some S.2.2.2.2.2.2.2 := by
          rw [hr, ← hl]
          refine dz_nth_app ?_
          rw [dz_nth_eq, List.getElem?_append_right (by show θ0.length ≤ θ0.length + 1; omega)]
          have : Nat.add θ0.length 1 - θ0.length = 1 := by show θ0.length + 1 - θ0.length = 1; omega
          rw [this]
          rfl
        have d1 := hth _ _ c1
        have d2 := hth _ _ c2
        have e1 := dz_ok_uniq hG.2.2.2.2.2.1 d1
        have e2 := dz_ok_uniq hG.2.2.2.2.2.2.1 d2
        have hl1 : tp.1 < θ.length := dz_nth_lt c1
        have hl2 : Nat.add tp.1 1 < θ.length := dz_nth_lt c2
        refine ⟨⟨?_, ?_, trivial, ?_, ?_, ?_, ?_, hG.2.2.2.2.2.2.2⟩, hth, m4, ⟨_, hr.trans (by rw [List.append_assoc])⟩⟩
        · show dz_Gm (dz_inN tp.2.1 (Nat.add tp.1 2)) _ tp.2.2
          rw [m4]
          exact dz_gs2_ok hG.1 hth hg
        · show dz_lo (dz_inN tp.2.1 (Nat.add tp.1 2)) _ τ (dz_inL tp.2.1 (Nat.add tp.1 2)) L
          rw [m4]
          exact m1
        · show ∀ m ∈ dz_inM tp.2.1 (Nat.add tp.1 2), dz_mo (dz_inN tp.2.1 (Nat.add tp.1 2)) _ τ h m
          rw [m4]
          exact m2
        · show ∀ k ∈ dz_inK tp.2.1 (Nat.add tp.1 2), dz_ko (dz_inN tp.2.1 (Nat.add tp.1 2)) _ τ h k
          rw [m4]
          exact m3
        · show dz_ok (dz_inN tp.2.1 (Nat.add tp.1 2)) _ (dz_var tp.1) (h.1 : Int)
          rw [m4, e1]
          exact dz_ok_var hl1
        · show dz_ok (dz_inN tp.2.1 (Nat.add tp.1 2)) _ (dz_var (Nat.add tp.1 1)) (h.2.1 : Int)
          rw [m4, e2]
          exact dz_ok_var hl2
    · cases hi
end DzTp
