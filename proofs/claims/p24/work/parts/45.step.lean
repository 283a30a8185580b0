/-! L2, part 16: one instruction. -/
/-- tags of fixed places; what the invariant teaches; what it asks of writes, of new cells, of copies; tags of exceptions; raw tags; stretches -/
abbrev dz_Cf : Type := (Nat → Nat) × dz_Lr × dz_Sd × dz_Sa × (Nat → Bool) × (Nat → Nat) × (Nat → Bool) × dz_Xk
def dz_okC (T : dz_TT) (X : dz_X) (cf : dz_Cf) : Prop := dz_XF X cf.1 ∧ dz_XL T X cf.2.1 ∧ dz_XW T X cf.2.2.1 ∧ dz_XA T X cf.2.2.2.1 ∧ dz_XC X cf.2.2.2.2.1 ∧ (∀ τ h, X τ h → cz_room h 0 0 = true) ∧ dz_XT T X cf.2.2.2.2.2.2.1 ∧ dz_XK T X cf.2.2.2.2.2.2.2
/-- without anything told -/
noncomputable def dz_n0 (cf : dz_Cf) (M : cz_M) (i : Instr) (pc len : Nat) (S : dz_S) : Option (Nat × dz_S) := match i with
  | .goto off => (match cz_to pc off with
    | some t => bif Nat.beq len 3 then dz_fn t (fun t => some (t, S)) else none
    | none => none)
  | .ldc x => bif Nat.beq len 2 then (match dz_ldc cf.1 M x S with
    | some q => dz_fn (Nat.add pc 2) (fun p => some (p, q))
    | none => none) else none
  | .ldc_w x => bif Nat.beq len 3 then (match dz_ldc cf.1 M x S with
    | some q => dz_fn (Nat.add pc 3) (fun p => some (p, q))
    | none => none) else none
  | .ldc2_w x => bif Nat.beq len 3 then (match dz_ldc2 M x S with
    | some q => dz_fn (Nat.add pc 3) (fun p => some (p, q))
    | none => none) else none
  | .getstatic x => bif Nat.beq len 3 then (match dz_gs M x S with
    | some q => dz_fn (Nat.add pc 3) (fun p => some (p, q))
    | none => none) else none
  | i => (match dz_p0 i M.2.1.2.1 S with
    | some q => bif Nat.beq len (cz_len i) then dz_fn (Nat.add pc (cz_len i)) (fun p => some (p, q)) else none
    | none => none)
/-- from one place to another -/
def dz_go (P : cz_P) (d : Nat) (M : cz_M) (pc : Nat) (L : List (Nat × cz_V)) (st : List cz_V) (h : cz_H) (pc' : Nat) (L' : List (Nat × cz_V)) (st' : List cz_V) (h' : cz_H) : Prop := ∀ Q, dz_WP P d M pc' L' st' h' Q → dz_WP P d M pc L st h Q
theorem dz_bif3 {b : Bool} {n p' : Nat} {q S' : dz_S} (h : (bif b then dz_fn n (fun p => some (p, q)) else none) = some (p', S')) : b = true ∧ p' = n ∧ S' = q := by
  cases b with
  | false => cases h
  | true =>
    have h : some (n, q) = some (p', S') := h
    cases h
    exact ⟨rfl, rfl, rfl⟩
section DzStep
variable {T : dz_TT} {X : dz_X} {cf : dz_Cf} {S S' : dz_S} {ρ : Nat → Int} {τ : Nat → Nat} {h : cz_H} {L : List (Nat × cz_V)} {st w : List cz_V} {P : cz_P} {d : Nat} {M : cz_M} {pc : Nat}
theorem dz_n0_ok (hC : dz_okC T X cf) {i : Instr} {len p' : Nat} (hc : cz_code M pc = some (i, len)) (hG : dz_G T X S ρ τ h L st) (hp : dz_n0 cf M i pc len S = some (p', S')) : ∃ L' st', dz_G T X S' ρ τ h L' st' ∧ S'.1 = S.1 ∧ dz_go P d M pc L st h p' L' st' h := by
  have hpure : ∀ q, dz_p0 i M.2.1.2.1 S = some q → Nat.beq len (cz_len i) = true → ∃ L' st', dz_G T X q ρ τ h L' st' ∧ q.1 = S.1 ∧ dz_go P d M pc L st h (pc + cz_len i) L' st' h := by
    intro q hq hl
    obtain ⟨z, z1, z2, z3⟩ := dz_p0_ok hG hq
    exact ⟨z.1, z.2, z2, z3, fun Q k => dz_wp_pure hc hl z1 k⟩
  cases i
  case goto off =>
    simp only [dz_n0] at hp
    split at hp
    · rename_i t ht
      cases hl : Nat.beq len 3 with
      | false => rw [hl] at hp; cases hp
      | true =>
        rw [hl] at hp
        simp only [cond_true, dz_fn_eq] at hp
        cases hp
        refine ⟨L, st, hG, rfl, fun Q k => dz_wp_br (q := (p', st)) hc (by rw [show cz_len (.goto off) = 3 from rfl, hl]; rfl) rfl ?_ k⟩
        show (match cz_to pc off with
          | some t => some (t, st)
          | none => none) = _
        rw [ht]
    · cases hp
  case ldc x =>
    simp only [dz_n0] at hp
    cases hl : Nat.beq len 2 with
    | false => rw [hl] at hp; cases hp
    | true =>
      rw [hl] at hp
      simp only [cond_true] at hp
      split at hp
      · rename_i q hq
        simp only [dz_fn_eq] at hp
        cases hp
        obtain ⟨st', z1, z2, z3⟩ := dz_ldc_ok (wd := 2) (pc := pc) hC.1.toE hG hq
        exact ⟨L, st', z2, z3, fun Q k => dz_wp_hp (q := (pc + 2, st', h)) hc hl rfl rfl rfl rfl z1 k⟩
      · cases hp
  case ldc_w x =>
    simp only [dz_n0] at hp
    cases hl : Nat.beq len 3 with
    | false => rw [hl] at hp; cases hp
    | true =>
      rw [hl] at hp
      simp only [cond_true] at hp
      split at hp
      · rename_i q hq
        simp only [dz_fn_eq] at hp
        cases hp
        obtain ⟨st', z1, z2, z3⟩ := dz_ldc_ok (wd := 3) (pc := pc) hC.1.toE hG hq
        exact ⟨L, st', z2, z3, fun Q k => dz_wp_hp (q := (pc + 3, st', h)) hc hl rfl rfl rfl rfl z1 k⟩
      · cases hp
  case ldc2_w x =>
    simp only [dz_n0] at hp
    cases hl : Nat.beq len 3 with
    | false => rw [hl] at hp; cases hp
    | true =>
      rw [hl] at hp
      simp only [cond_true] at hp
      split at hp
      · rename_i q hq
        simp only [dz_fn_eq] at hp
        cases hp
        obtain ⟨st', z1, z2, z3⟩ := dz_ldc2_ok (pc := pc) hG hq
        exact ⟨L, st', z2, z3, fun Q k => dz_wp_hp (q := (pc + 3, st', h)) hc hl rfl rfl rfl rfl z1 k⟩
      · cases hp
  case getstatic x =>
    simp only [dz_n0] at hp
    cases hl : Nat.beq len 3 with
    | false => rw [hl] at hp; cases hp
    | true =>
      rw [hl] at hp
      simp only [cond_true] at hp
      split at hp
      · rename_i q hq
        simp only [dz_fn_eq] at hp
        cases hp
        obtain ⟨st', z1, z2, z3⟩ := dz_gs_ok (pc := pc) hG hq
        exact ⟨L, st', z2, z3, fun Q k => dz_wp_hp (q := (pc + 3, st', h)) hc hl rfl rfl rfl rfl z1 k⟩
      · cases hp
  all_goals
    simp only [dz_n0] at hp
    split at hp
    · rename_i q hq
      obtain ⟨hl, rfl, rfl⟩ := dz_bif3 hp
      exact hpure _ hq hl
    · cases hp
end DzStep
