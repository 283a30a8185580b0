/-! L2, part 13: what may be learned at any place; are two references one; what was written at most. -/
def dz_XF (X : dz_X) (ex : Nat → Nat) : Prop := ∀ (τ : Nat → Nat) (h : cz_H), X τ h → ∀ r, ex r ≠ 0 → τ r = ex r
theorem dz_XF.toE {X : dz_X} {ex : Nat → Nat} (h : dz_XF X ex) : dz_XE X ex := fun τ hh hx r _ h0 => h τ hh hx r h0
theorem dz_so_nth {n : Nat} {ρ : Nat → Int} {τ : Nat → Nat} {a : dz_A} : ∀ {l : List dz_A} {s : List cz_V} {i : Nat}, dz_so n ρ τ l s → dz_nth l i = some a → ∃ v, dz_vo n ρ τ a v
  | [], s, i, _, h => by cases h
  | b :: l, [], i, hs, h => by cases hs
  | b :: l, v :: s, 0, hs, h => by cases h; exact ⟨v, hs.1⟩
  | b :: l, v :: s, i + 1, hs, h => dz_so_nth hs.2 h
/-- a place: 0 a fixed one, 1 what a local points to, 2 what a known slot points to, 3 what lies on the stack -/
noncomputable def dz_src (ex : Nat → Nat) (S : dz_S) (hn : dz_Hn) : Option (dz_E × Nat) := bif Nat.beq (dz_num hn 0) 0 then (bif Nat.beq (ex (dz_num hn 1)) 0 then none else some (dz_cst (.ofNat (Nat.add (dz_num hn 1) 1)), ex (dz_num hn 1)))
  else bif Nat.beq (dz_num hn 0) 1 then (match dz_fl (dz_num hn 1) S.2.2.1 with
    | some a => bif Nat.beq a.1 3 && dz_pf S.2.1 (dz_ct hn 0) (dz_plus a.2.1 (-1)) then some (a.2.1, a.2.2) else none
    | none => none)
  else bif Nat.beq (dz_num hn 0) 3 then (match dz_nth S.2.2.2.1 (dz_num hn 1) with
    | some a => bif Nat.beq a.1 3 && dz_pf S.2.1 (dz_ct hn 0) (dz_plus a.2.1 (-1)) then some (a.2.1, a.2.2) else none
    | none => none)
  else (match dz_nth S.2.2.2.2.1 (dz_num hn 1) with
    | some m => bif Nat.beq m.2.2.2.1 3 && dz_pf S.2.1 (dz_ct hn 0) (dz_plus m.2.2.2.2.1 (-1)) then some (m.2.2.2.2.1, m.2.2.2.2.2) else none
    | none => none)
section DzPre
variable {T : dz_TT} {X : dz_X} {S S' : dz_S} {ρ : Nat → Int} {τ : Nat → Nat} {h : cz_H} {L : List (Nat × cz_V)} {st w : List cz_V}
theorem dz_src_ok {ex : Nat → Nat} (hE : dz_XF X ex) {hn : dz_Hn} {p : dz_E} {t : Nat} (hG : dz_G T X S ρ τ h L st) (hp : dz_src ex S hn = some (p, t)) : ∃ r : Nat, dz_ok S.1 ρ p ((r : Int) + 1) ∧ τ r = t ∧ t ≠ 0 := by
  unfold dz_src at hp
  cases h0 : Nat.beq (dz_num hn 0) 0 with
  | true =>
    rw [h0] at hp
    simp only [cond_true] at hp
    cases h1 : Nat.beq (ex (dz_num hn 1)) 0 with
    | true => rw [h1] at hp; cases hp
    | false =>
      rw [h1] at hp
      cases hp
      have hne : ex (dz_num hn 1) ≠ 0 := fun e => by rw [e] at h1; cases h1
      exact ⟨dz_num hn 1, dz_ok_cst _, hE τ h hG.2.2.2.2.2.2.2.2.1 _ hne, hne⟩
  | false =>
    rw [h0] at hp
    simp only [cond_false] at hp
    cases h1 : Nat.beq (dz_num hn 0) 1 with
    | true =>
      rw [h1] at hp
      simp only [cond_true] at hp
      split at hp
      · rename_i a ha
        cases hb : (Nat.beq a.1 3 && dz_pf S.2.1 (dz_ct hn 0) (dz_plus a.2.1 (-1))) with
        | false => rw [hb] at hp; cases hp
        | true =>
          rw [hb] at hp; cases hp
          simp only [Bool.and_eq_true] at hb
          obtain ⟨v, _, hv⟩ := hG.2.1 _ (dz_fl_mem ha)
          obtain ⟨r, _, k1, k2, k3⟩ := hv.at hb.1 (fun x hx => by have := dz_pf_ok hG.1 (dz_ok_plus (-1) hx) hb.2; omega)
          exact ⟨r, k1, k2, k3⟩
      · cases hp
    | false =>
      rw [h1] at hp
      simp only [cond_false] at hp
      cases h3 : Nat.beq (dz_num hn 0) 3 with
      | true =>
        rw [h3] at hp
        simp only [cond_true] at hp
        split at hp
        · rename_i a ha
          cases hb : (Nat.beq a.1 3 && dz_pf S.2.1 (dz_ct hn 0) (dz_plus a.2.1 (-1))) with
          | false => rw [hb] at hp; cases hp
          | true =>
            rw [hb] at hp; cases hp
            simp only [Bool.and_eq_true] at hb
            obtain ⟨v, hv⟩ := dz_so_nth hG.2.2.1 ha
            obtain ⟨r, _, k1, k2, k3⟩ := hv.at hb.1 (fun x hx => by have := dz_pf_ok hG.1 (dz_ok_plus (-1) hx) hb.2; omega)
            exact ⟨r, k1, k2, k3⟩
        · cases hp
      | false =>
      rw [h3] at hp
      simp only [cond_false] at hp
      split at hp
      · rename_i m hm
        cases hb : (Nat.beq m.2.2.2.1 3 && dz_pf S.2.1 (dz_ct hn 0) (dz_plus m.2.2.2.2.1 (-1))) with
        | false => rw [hb] at hp; cases hp
        | true =>
          rw [hb] at hp; cases hp
          simp only [Bool.and_eq_true] at hb
          obtain ⟨_, _, v, _, _, _, _, hv⟩ := hG.2.2.2.1 m (dz_nth_mem hm)
          obtain ⟨r, _, k1, k2, k3⟩ := hv.at hb.1 (fun x hx => by have := dz_pf_ok hG.1 (dz_ok_plus (-1) hx) hb.2; omega)
          exact ⟨r, k1, k2, k3⟩
      · cases hp
end DzPre
/-- an expression as it may be told: a local, a known slot, a number -/
abbrev dz_Lr : Type := dz_S → dz_Hn → Option (List dz_E)
def dz_XL (T : dz_TT) (X : dz_X) (lr : dz_Lr) : Prop := ∀ (S : dz_S) (ρ : Nat → Int) (τ : Nat → Nat) (h : cz_H) (L : List (Nat × cz_V)) (st : List cz_V) (hn : dz_Hn) (es : List dz_E), dz_G T X S ρ τ h L st → lr S hn = some es → dz_all S.1 ρ es
/-- arrays of which the invariant knows a stretch -/
abbrev dz_Xk : Type := dz_S → dz_Hn → Option dz_K
def dz_XK (T : dz_TT) (X : dz_X) (xk : dz_Xk) : Prop := ∀ (S : dz_S) (ρ : Nat → Int) (τ : Nat → Nat) (h : cz_H) (L : List (Nat × cz_V)) (st : List cz_V) (hn : dz_Hn) (k : dz_K), dz_G T X S ρ τ h L st → xk S hn = some k → dz_ko S.1 ρ τ h k
noncomputable def dz_setK (l : List dz_K) (k : dz_K) : Nat → List dz_K := List.rec (fun _ => []) (fun q r ih j => bif Nat.beq j 0 then k :: r else q :: ih (Nat.pred j)) l
theorem dz_setK_mem {k q : dz_K} : ∀ {l : List dz_K} {j : Nat}, q ∈ dz_setK l k j → q = k ∨ q ∈ l
  | [], j, h => by cases h
  | a :: r, j, h => by
    have h : q ∈ (bif Nat.beq j 0 then k :: r else a :: dz_setK r k (Nat.pred j)) := h
    cases hj : Nat.beq j 0 with
    | true =>
      rw [hj] at h
      rcases List.mem_cons.mp h with h | h
      · exact Or.inl h
      · exact Or.inr (List.mem_cons_of_mem _ h)
    | false =>
      rw [hj] at h
      rcases List.mem_cons.mp h with h | h
      · exact Or.inr (h ▸ List.mem_cons_self)
      · rcases dz_setK_mem h with h | h
        · exact Or.inl h
        · exact Or.inr (List.mem_cons_of_mem _ h)
/-- a whole number out of a plain one: twice it, or twice what is below it less one -/
noncomputable def dz_zz (n : Nat) : Int := bif Nat.beq (Nat.mod n 2) 0 then dz_fn (Nat.div n 2) (fun a => Int.ofNat a) else dz_fn (Nat.div n 2) (fun a => Int.negSucc a)
noncomputable def dz_lins (l : List Nat) : Option Nat → dz_T := List.rec (fun _ => []) (fun a _ ih o => match o with
  | none => ih (some a)
  | some v => dz_fi (dz_zz a) (fun c => (v, c) :: ih none)) l
noncomputable def dz_vlt (n : Nat) (l : dz_T) : Bool := List.rec true (fun t _ ih => Nat.blt t.1 n && ih) l
theorem dz_vlt_ok {n : Nat} : ∀ {l : dz_T}, dz_vlt n l = true → ∀ t ∈ l, t.1 < n
  | [], _ => fun t ht => by cases ht
  | q :: r, h => fun t ht => by
    have h : (Nat.blt q.1 n && dz_vlt n r) = true := h
    rw [Bool.and_eq_true] at h
    rcases List.mem_cons.mp ht with rfl | ht
    · exact Nat.blt_eq.mp h.1
    · exact dz_vlt_ok h.2 t ht
/-- an expression out of numbers -/
noncomputable def dz_lnE (l : List Nat) : dz_E := match l with
  | [] => dz_cst 0
  | c :: r => dz_fi (dz_zz c) (fun c => (c, dz_lins r none))
/-- learn: 100 a slot (source, slot), 101 an array (source), 102 the invariant's own, 103 a stretch grows upward (array, slot), 104 downward, 105 an int of a local is an int, 106 only the first known slots are kept, 108 a stretch by the invariant, 109 what follows from what is known, 112 a slot of an array (source, index) -/
noncomputable def dz_pre (T : dz_TT) (ex : Nat → Nat) (lr : dz_Lr) (xk : dz_Xk) (hn : dz_Hn) (S : dz_S) : Option dz_S :=
  bif Nat.beq hn.1 100 then (match dz_src ex S hn with
    | some (p, t) => (match T t with
      | some ti => (match dz_ds ti (dz_num hn 2) with
        | some D => bif Nat.beq ti.1 0 && Nat.blt (dz_num hn 2) ti.2.2.2.2.length then (match dz_rd S p t (dz_cst (.ofNat (dz_num hn 2))) D 0 S.2.2.2.1 with
          | some S1 => (match S1.2.2.2.1 with
            | _ :: r => some (dz_stk S1 r)
            | [] => none)
          | none => none) else none
        | none => none)
      | none => none)
    | none => none)
  else bif Nat.beq hn.1 101 then (match dz_src ex S hn with
    | some (p, t) => (match T t with
      | some ti => bif Nat.beq ti.1 1 && Nat.blt ti.2.1 11 then dz_fn (Nat.add S.1 1) (fun m => some (m, dz_bd S.1 ti.2.2.2.1.1 ti.2.2.2.1.2 ++ S.2.1, S.2.2.1, S.2.2.2.1, S.2.2.2.2.1, (p, t, dz_var S.1, dz_cst 0, dz_cst 0, dz_cst 1, dz_cst 1000000) :: S.2.2.2.2.2.1, S.2.2.2.2.2.2)) else none
      | none => none)
    | none => none)
  else bif Nat.beq hn.1 102 then (match lr S hn with
    | some es => some (dz_gam S es)
    | none => none)
  else bif Nat.beq hn.1 103 then (match dz_nth S.2.2.2.2.2.1 (dz_num hn 0), dz_nth S.2.2.2.2.1 (dz_num hn 1) with
    | some k, some m => bif (dz_same k.1 m.1 && Nat.beq k.2.1 m.2.1) && ((dz_pf S.2.1 (dz_ct hn 0) (dz_sub m.2.2.2.2.1 k.2.2.2.2.2.1) && dz_pf S.2.1 (dz_ct hn 1) (dz_sub k.2.2.2.2.2.2 m.2.2.2.2.1)) && (dz_pf S.2.1 (dz_ct hn 2) (dz_sub m.2.2.1 k.2.2.2.1) && dz_pf S.2.1 (dz_ct hn 3) (dz_sub k.2.2.2.2.1 m.2.2.1))) then
        dz_fn (Nat.add S.1 1) (fun n => some (n, dz_sub (dz_var S.1) k.2.2.2.2.1 :: dz_plus (dz_sub (dz_var S.1) m.2.2.1) (-1) :: S.2.1, S.2.2.1, S.2.2.2.1, S.2.2.2.2.1, dz_setK S.2.2.2.2.2.1 (k.1, k.2.1, k.2.2.1, k.2.2.2.1, dz_var S.1, k.2.2.2.2.2) (dz_num hn 0), S.2.2.2.2.2.2)) else none
    | _, _ => none)
  else bif Nat.beq hn.1 104 then (match dz_nth S.2.2.2.2.2.1 (dz_num hn 0), dz_nth S.2.2.2.2.1 (dz_num hn 1) with
    | some k, some m => bif (dz_same k.1 m.1 && Nat.beq k.2.1 m.2.1) && ((dz_pf S.2.1 (dz_ct hn 0) (dz_sub m.2.2.2.2.1 k.2.2.2.2.2.1) && dz_pf S.2.1 (dz_ct hn 1) (dz_sub k.2.2.2.2.2.2 m.2.2.2.2.1)) && dz_same (dz_plus m.2.2.1 1) k.2.2.2.1) then
        some (S.1, S.2.1, S.2.2.1, S.2.2.2.1, S.2.2.2.2.1, dz_setK S.2.2.2.2.2.1 (k.1, k.2.1, k.2.2.1, m.2.2.1, k.2.2.2.2) (dz_num hn 0), S.2.2.2.2.2.2) else none
    | _, _ => none)
  else bif Nat.beq hn.1 105 then (match dz_fl (dz_num hn 0) S.2.2.1 with
    | some a => bif Nat.beq a.1 0 then some (dz_gam S [dz_plus a.2.1 2147483648, dz_sub (dz_cst 2147483647) a.2.1]) else none
    | none => none)
  else bif Nat.beq hn.1 106 then some (S.1, S.2.1, S.2.2.1, S.2.2.2.1, S.2.2.2.2.1.take (dz_num hn 0), S.2.2.2.2.2)
  else bif Nat.beq hn.1 108 then (match xk S hn with
    | some k => some (S.1, S.2.1, S.2.2.1, S.2.2.2.1, S.2.2.2.2.1, k :: S.2.2.2.2.2.1, S.2.2.2.2.2.2)
    | none => none)
  else bif Nat.beq hn.1 109 then (bif dz_vlt S.1 (dz_lnE hn.2.2).2 && dz_pf S.2.1 (dz_ct hn 0) (dz_lnE hn.2.2) then some (dz_gam S [dz_lnE hn.2.2]) else none)
  else bif Nat.beq hn.1 112 then (match dz_src ex S hn with
    | some (p, t) => (match T t with
      | some ti => (match dz_nth ti.2.2.2.2 0 with
        | some D => bif ((Nat.beq ti.1 1 && Nat.blt ti.2.1 11) && dz_vlt S.1 (dz_lnE (hn.2.2.drop 2)).2) && (dz_pf S.2.1 (dz_ct hn 1) (dz_lnE (hn.2.2.drop 2)) && dz_pf S.2.1 (dz_ct hn 2) (dz_plus (dz_sub (dz_cst ti.2.2.2.1.1) (dz_lnE (hn.2.2.drop 2))) (-1))) then (match dz_rd S p t (dz_lnE (hn.2.2.drop 2)) D 0 S.2.2.2.1 with
          | some S1 => (match S1.2.2.2.1 with
            | _ :: r => some (dz_stk S1 r)
            | [] => none)
          | none => none) else none
        | none => none)
      | none => none)
    | none => none) else none
section DzPre2
variable {T : dz_TT} {X : dz_X} {S S' : dz_S} {ρ : Nat → Int} {τ : Nat → Nat} {h : cz_H} {L : List (Nat × cz_V)} {st w : List cz_V}
set_option maxHeartbeats 4000000 in
theorem dz_pre_ok {ex : Nat → Nat} (hE : dz_XF X ex) {lr : dz_Lr} (hL : dz_XL T X lr) {xk : dz_Xk} (hK : dz_XK T X xk) {hn : dz_Hn} (hG : dz_G T X S ρ τ h L st) (hp : dz_pre T ex lr xk hn S = some S') : ∃ ρ', dz_G T X S' ρ' τ h L st ∧ dz_ext S.1 ρ S'.1 ρ' := by
  unfold dz_pre at hp
  cases c0 : Nat.beq hn.1 100 with
  | true =>
    rw [c0] at hp
    simp only [cond_true] at hp
    split at hp
    · rename_i p t hsrc
      obtain ⟨r, k1, k2, k3⟩ := dz_src_ok hE hG hsrc
      split at hp
      · rename_i ti hti
        split at hp
        · rename_i D hD
          cases hb : (Nat.beq ti.1 0 && Nat.blt (dz_num hn 2) ti.2.2.2.2.length) with
          | false => rw [hb] at hp; cases hp
          | true =>
            rw [hb] at hp
            simp only [Bool.and_eq_true] at hb
            simp only [cond_true] at hp
            split at hp
            · rename_i S1 hS1
              obtain ⟨vs, o1, o2, o3, o4, o5⟩ := dz_obj_at hG.2.2.2.2.2.2.2 (r := r) (by rw [k2]; exact k3) (by rw [k2]; exact hti) hb.1
              have hlen : dz_num hn 2 < vs.length := by rw [o3]; exact Nat.blt_eq.mp hb.2
              have hget : dz_get (h.2.2 r) (dz_num hn 2) = some vs[dz_num hn 2] := by
                rw [o2]
                exact List.getElem?_eq_getElem hlen
              obtain ⟨D', e1, e2⟩ := o5 _ _ hget
              rw [hD] at e1
              cases e1
              obtain ⟨ρ', av, as, g1, g2, g3, _⟩ := dz_rd_ok hG hG.2.2.1 k1 k2 k3 (dz_ok_cst (.ofNat (dz_num hn 2))) hget e2 hS1
              split at hp
              · rename_i q r' hq
                cases hp
                have hs1 := g1.2.2.1
                rw [hq] at hs1
                exact ⟨ρ', g1.stack hs1.2, g2⟩
              · cases hp
            · cases hp
        · cases hp
      · cases hp
    · cases hp
  | false =>
  rw [c0] at hp
  simp only [cond_false] at hp
  cases c1 : Nat.beq hn.1 101 with
  | true =>
    rw [c1] at hp
    simp only [cond_true] at hp
    split at hp
    · rename_i p t hsrc
      obtain ⟨r, k1, k2, k3⟩ := dz_src_ok hE hG hsrc
      split at hp
      · rename_i ti hti
        cases hb : (Nat.beq ti.1 1 && Nat.blt ti.2.1 11) with
        | false => rw [hb] at hp; cases hp
        | true =>
          rw [hb] at hp
          simp only [Bool.and_eq_true] at hb
          simp only [cond_true, dz_fn_eq] at hp
          cases hp
          obtain ⟨n, f, o1, o2, o3, o4, o5⟩ := dz_arr_at hG.2.2.2.2.2.2.2 (r := r) (by rw [k2]; exact k3) (by rw [k2]; exact hti) hb.1 hb.2
          have hx := dz_ext.up S.1 ρ (n : Int)
          have g := hG.ext hx
          refine ⟨dz_up ρ S.1 (n : Int), ⟨g.1.app (dz_bd_ok o3.1 o3.2), g.2.1, g.2.2.1, g.2.2.2.1, ?_, g.2.2.2.2.2⟩, hx⟩
          intro k hk
          rcases List.mem_cons.mp hk with rfl | hk
          · exact ⟨r, (ti.2.1, n, f), 0, 0, 1, 1000000, k1.ext hx, ⟨k2, k3⟩, o2, dz_ok_new _, dz_ok_cst 0, dz_ok_cst 0, dz_ok_cst 1, dz_ok_cst 1000000, fun i a1 a2 _ => by omega⟩
          · exact g.2.2.2.2.1 k hk
      · cases hp
    · cases hp
  | false =>
  rw [c1] at hp
  simp only [cond_false] at hp
  cases c2 : Nat.beq hn.1 102 with
  | true =>
    rw [c2] at hp
    simp only [cond_true] at hp
    split at hp
    · rename_i es hes
      cases hp
      exact ⟨ρ, hG.gam (hL S ρ τ h L st hn es hG hes), dz_ext.refl _ _⟩
    · cases hp
  | false =>
  rw [c2] at hp
  simp only [cond_false] at hp
  cases c3 : Nat.beq hn.1 103 with
  | true =>
    rw [c3] at hp
    simp only [cond_true] at hp
    split at hp
    · rename_i k m hk hm
      cases hb : ((dz_same k.1 m.1 && Nat.beq k.2.1 m.2.1) && ((dz_pf S.2.1 (dz_ct hn 0) (dz_sub m.2.2.2.2.1 k.2.2.2.2.2.1) && dz_pf S.2.1 (dz_ct hn 1) (dz_sub k.2.2.2.2.2.2 m.2.2.2.2.1)) && (dz_pf S.2.1 (dz_ct hn 2) (dz_sub m.2.2.1 k.2.2.2.1) && dz_pf S.2.1 (dz_ct hn 3) (dz_sub k.2.2.2.2.1 m.2.2.1)))) with
      | false => rw [hb] at hp; cases hp
      | true =>
        rw [hb] at hp
        simp only [Bool.and_eq_true] at hb
        simp only [cond_true, dz_fn_eq] at hp
        cases hp
        have hmk := dz_nth_mem hk
        obtain ⟨r', q, s, u, lo, hi, h1, h2, h3, h4, h5, h6, h7, h8, h9⟩ := hG.2.2.2.2.1 k hmk
        obtain ⟨r2, i2, v2, m1, m2, m3, m4, m5⟩ := hG.2.2.2.1 m (dz_nth_mem hm)
        have e1 := dz_same_ok h1 m1 hb.1.1
        have e1 : r2 = r' := by omega
        subst e1
        rw [h3] at m4
        have hi2 : i2 < q.2.1 := by
          by_cases hlt : i2 < q.2.1
          · exact hlt
          · have m4 : (if i2 < q.2.1 then some (q.2.2 i2) else none) = some v2 := m4
            rw [if_neg hlt] at m4; cases m4
        have hv2 : q.2.2 i2 = v2 := by
          have m4 : (if i2 < q.2.1 then some (q.2.2 i2) else none) = some v2 := m4
          rw [if_pos hi2] at m4
          exact Option.some.inj m4
        have b1 := dz_pf_ok hG.1 (dz_ok_sub m5.2.1 h7) hb.2.1.1
        have b2 := dz_pf_ok hG.1 (dz_ok_sub h8 m5.2.1) hb.2.1.2
        have b3 := dz_pf_ok hG.1 (dz_ok_sub m3 h5) hb.2.2.1
        have b4 := dz_pf_ok hG.1 (dz_ok_sub h6 m3) hb.2.2.2
        have hx := dz_ext.up S.1 ρ (max u ((i2 : Int) + 1))
        have hnew := dz_ok_new (n := S.1) (ρ := ρ) (max u ((i2 : Int) + 1))
        have g := hG.ext hx
        refine ⟨dz_up ρ S.1 (max u ((i2 : Int) + 1)), ⟨(g.1.cons (dz_ok_plus (-1) (dz_ok_sub hnew (m3.ext hx))) (by omega)).cons (dz_ok_sub hnew (h6.ext hx)) (by omega), g.2.1, g.2.2.1, g.2.2.2.1, ?_, g.2.2.2.2.2⟩, hx⟩
        intro k' hk'
        rcases dz_setK_mem hk' with rfl | hk'
        · refine ⟨r2, q, s, max u ((i2 : Int) + 1), lo, hi, h1.ext hx, h2, h3, h4.ext hx, h5.ext hx, hnew, h7.ext hx, h8.ext hx, fun j a1 a2 a3 => ?_⟩
          by_cases ej : (j : Int) < u
          · exact h9 j a1 ej a3
          · have e : j = i2 := by omega
            rw [e, hv2]
            exact ⟨by omega, by omega⟩
        · exact g.2.2.2.2.1 k' hk'
    · cases hp
  | false =>
  rw [c3] at hp
  simp only [cond_false] at hp
  cases c4 : Nat.beq hn.1 104 with
  | true =>
    rw [c4] at hp
    simp only [cond_true] at hp
    split at hp
    · rename_i k m hk hm
      cases hb : ((dz_same k.1 m.1 && Nat.beq k.2.1 m.2.1) && ((dz_pf S.2.1 (dz_ct hn 0) (dz_sub m.2.2.2.2.1 k.2.2.2.2.2.1) && dz_pf S.2.1 (dz_ct hn 1) (dz_sub k.2.2.2.2.2.2 m.2.2.2.2.1)) && dz_same (dz_plus m.2.2.1 1) k.2.2.2.1)) with
      | false => rw [hb] at hp; cases hp
      | true =>
        rw [hb] at hp
        simp only [Bool.and_eq_true] at hb
        simp only [cond_true] at hp
        cases hp
        obtain ⟨r', q, s, u, lo, hi, h1, h2, h3, h4, h5, h6, h7, h8, h9⟩ := hG.2.2.2.2.1 k (dz_nth_mem hk)
        obtain ⟨r2, i2, v2, m1, m2, m3, m4, m5⟩ := hG.2.2.2.1 m (dz_nth_mem hm)
        have e1 := dz_same_ok h1 m1 hb.1.1
        have e1 : r2 = r' := by omega
        subst e1
        rw [h3] at m4
        have b1 := dz_pf_ok hG.1 (dz_ok_sub m5.2.1 h7) hb.2.1.1
        have b2 := dz_pf_ok hG.1 (dz_ok_sub h8 m5.2.1) hb.2.1.2
        have b3 := dz_same_ok (dz_ok_plus 1 m3) h5 hb.2.2
        refine ⟨ρ, ⟨hG.1, hG.2.1, hG.2.2.1, hG.2.2.2.1, ?_, hG.2.2.2.2.2⟩, dz_ext.refl _ _⟩
        intro k' hk'
        rcases dz_setK_mem hk' with rfl | hk'
        · refine ⟨r2, q, (i2 : Int), u, lo, hi, h1, h2, h3, h4, m3, h6, h7, h8, fun j a1 a2 a3 => ?_⟩
          by_cases ej : s ≤ (j : Int)
          · exact h9 j ej a2 a3
          · have e : j = i2 := by omega
            have m4 : (if i2 < q.2.1 then some (q.2.2 i2) else none) = some v2 := m4
            rw [if_pos (by omega)] at m4
            have hv2 : q.2.2 i2 = v2 := Option.some.inj m4
            rw [e, hv2]
            exact ⟨by omega, by omega⟩
        · exact hG.2.2.2.2.1 k' hk'
    · cases hp
  | false =>
  rw [c4] at hp
  simp only [cond_false] at hp
  cases c5 : Nat.beq hn.1 105 with
  | true =>
    rw [c5] at hp
    simp only [cond_true] at hp
    split at hp
    · rename_i a ha
      cases hb : Nat.beq a.1 0 with
      | false => rw [hb] at hp; cases hp
      | true =>
        rw [hb] at hp; cases hp
        obtain ⟨v, _, hv⟩ := hG.2.1 _ (dz_fl_mem ha)
        obtain ⟨x, rfl, hx⟩ := hv.int hb
        have hr := dz_rg_v x
        exact ⟨ρ, hG.gam (dz_two (dz_ok_plus 2147483648 hx) (by omega) (dz_ok_sub (dz_ok_cst 2147483647) hx) (by omega)), dz_ext.refl _ _⟩
    · cases hp
  | false =>
  rw [c5] at hp
  simp only [cond_false] at hp
  cases c6 : Nat.beq hn.1 106 with
  | true =>
    rw [c6] at hp
    cases hp
    exact ⟨ρ, ⟨hG.1, hG.2.1, hG.2.2.1, fun m hm => hG.2.2.2.1 m (List.mem_of_mem_take hm), hG.2.2.2.2⟩, dz_ext.refl _ _⟩
  | false =>
  rw [c6] at hp
  simp only [cond_false] at hp
  cases c8 : Nat.beq hn.1 108 with
  | true =>
    rw [c8] at hp
    simp only [cond_true] at hp
    split at hp
    · rename_i k hk
      cases hp
      refine ⟨ρ, ⟨hG.1, hG.2.1, hG.2.2.1, hG.2.2.2.1, fun k' hk' => ?_, hG.2.2.2.2.2⟩, dz_ext.refl _ _⟩
      rcases List.mem_cons.mp hk' with rfl | hk'
      · exact hK S ρ τ h L st hn _ hG hk
      · exact hG.2.2.2.2.1 k' hk'
    · cases hp
  | false =>
  rw [c8] at hp
  simp only [cond_false] at hp
  cases c9 : Nat.beq hn.1 109 with
  | true =>
    rw [c9] at hp
    simp only [cond_true] at hp
    cases hb : (dz_vlt S.1 (dz_lnE hn.2.2).2 && dz_pf S.2.1 (dz_ct hn 0) (dz_lnE hn.2.2)) with
    | false => rw [hb] at hp; cases hp
    | true =>
      rw [hb] at hp; cases hp
      rw [Bool.and_eq_true] at hb
      have he : dz_ok S.1 ρ (dz_lnE hn.2.2) ((dz_lnE hn.2.2).1 + dz_ev ρ (dz_lnE hn.2.2).2) := ⟨dz_vlt_ok hb.1, rfl⟩
      have h0 := dz_pf_ok hG.1 he hb.2
      exact ⟨ρ, hG.gam (dz_one he h0), dz_ext.refl _ _⟩
  | false =>
  rw [c9] at hp
  simp only [cond_false] at hp
  cases c12 : Nat.beq hn.1 112 with
  | true =>
    rw [c12] at hp
    simp only [cond_true] at hp
    split at hp
    · rename_i p t hsrc
      obtain ⟨r, k1, k2, k3⟩ := dz_src_ok hE hG hsrc
      split at hp
      · rename_i ti hti
        split at hp
        · rename_i D hD
          cases hb : (((Nat.beq ti.1 1 && Nat.blt ti.2.1 11) && dz_vlt S.1 (dz_lnE (hn.2.2.drop 2)).2) && (dz_pf S.2.1 (dz_ct hn 1) (dz_lnE (hn.2.2.drop 2)) && dz_pf S.2.1 (dz_ct hn 2) (dz_plus (dz_sub (dz_cst ti.2.2.2.1.1) (dz_lnE (hn.2.2.drop 2))) (-1)))) with
          | false => rw [hb] at hp; cases hp
          | true =>
            rw [hb] at hp
            simp only [Bool.and_eq_true] at hb
            obtain ⟨⟨⟨b1, b2⟩, b3⟩, b4, b5⟩ := hb
            simp only [cond_true] at hp
            have he : dz_ok S.1 ρ (dz_lnE (hn.2.2.drop 2)) ((dz_lnE (hn.2.2.drop 2)).1 + dz_ev ρ (dz_lnE (hn.2.2.drop 2)).2) := ⟨dz_vlt_ok b3, rfl⟩
            have c4 := dz_pf_ok hG.1 he b4
            have c5 := dz_pf_ok hG.1 (dz_ok_plus (-1) (dz_ok_sub (dz_ok_cst ti.2.2.2.1.1) he)) b5
            split at hp
            · rename_i S1 hS1
              obtain ⟨n1, f1, o1, o2, o3, o4, o5⟩ := dz_arr_at hG.2.2.2.2.2.2.2 (r := r) (by rw [k2]; exact k3) (by rw [k2]; exact hti) b1 b2
              generalize hx : (dz_lnE (hn.2.2.drop 2)).1 + dz_ev ρ (dz_lnE (hn.2.2.drop 2)).2 = x at he c4 c5
              have hlt : x.toNat < n1 := by omega
              have hget : dz_get (h.2.2 r) x.toNat = some (f1 x.toNat) := by
                rw [o2]
                show (if x.toNat < n1 then some (f1 x.toNat) else none) = _
                rw [if_pos hlt]
              obtain ⟨D', e1, e2⟩ := o5 _ hlt
              rw [hD] at e1
              cases e1
              obtain ⟨ρ', av, as, g1, g2, g3, _⟩ := dz_rd_ok hG hG.2.2.1 k1 k2 k3 (i := x.toNat) (by rw [show ((x.toNat : Nat) : Int) = x by omega]; exact he) hget e2 hS1
              split at hp
              · rename_i q r' hq
                cases hp
                have hs1 := g1.2.2.1
                rw [hq] at hs1
                exact ⟨ρ', g1.stack hs1.2, g2⟩
              · cases hp
            · cases hp
        · cases hp
      · cases hp
    · cases hp
  | false => rw [c12] at hp; cases hp
/-- null, or made: what may be held against another -/
noncomputable def dz_mdq (T : dz_TT) (t : Nat) : Bool := Nat.beq t 0 || (match T t with
  | some ti => Nat.beq ti.2.2.1 1
  | none => false)
/-- are two references one -/
noncomputable def dz_acm (T : dz_TT) (i : Instr) (pc : Nat) (hn : dz_Hn) (S : dz_S) : Option (List (Nat × dz_S)) := match i with
  | .if_acmp c off => (match S.2.2.2.1 with
    | b :: a :: r => (match cz_to pc off with
      | some t => bif (Nat.beq a.1 3 && Nat.beq b.1 3) && (dz_mdq T a.2.2 && dz_mdq T b.2.2) then
          dz_fn t (fun t => dz_fn (Nat.add pc 3) (fun f => dz_cmp2 (dz_stk S r) (match c with | .eq => .eq | .ne => .ne) a.2.1 b.2.1 t f hn)) else none
      | none => none)
    | _ => none)
  | _ => none
def dz_on (o : Option Nat) : Int := match o with
  | none => 0
  | some r => (r : Int) + 1
theorem dz_mdq_ok (hG : dz_G T X S ρ τ h L st) {a : dz_A} {v : cz_V} (hv : dz_vo S.1 ρ τ a v) (hk : Nat.beq a.1 3 = true) (hm : dz_mdq T a.2.2 = true) : ∃ o, v = .inr (.inr o) ∧ (∀ r, o = some r → 192 ≤ r) ∧ dz_ok S.1 ρ a.2.1 (dz_on o) := by
  have hk := Nat.eq_of_beq_eq_true hk
  obtain ⟨v1, v2, v3⟩ := hv
  rw [hk] at v1
  match v, v1, v2, v3 with
  | .inr (.inr none), _, v2, _ => exact ⟨none, rfl, fun r hr => (by cases hr), v2⟩
  | .inr (.inr (some r)), _, v2, v3 =>
    refine ⟨some r, rfl, fun r' hr' => ?_, v2⟩
    cases hr'
    obtain ⟨t1, t2⟩ := v3 r rfl
    unfold dz_mdq at hm
    rw [Bool.or_eq_true] at hm
    rcases hm with hm | hm
    · exact absurd (Nat.eq_of_beq_eq_true hm) t2
    · split at hm
      · rename_i ti hti
        obtain ⟨_, ti', i2, _, i4, _⟩ := hG.2.2.2.2.2.2.2.1 r (by rw [t1]; exact t2)
        rw [t1, hti] at i2
        cases i2
        rcases i4 with i4 | i4
        · rw [i4] at hm; cases hm
        · exact i4
      · cases hm
theorem dz_same_on {a b : Option Nat} (ha : ∀ r, a = some r → 192 ≤ r) (hb : ∀ r, b = some r → 192 ≤ r) : (dz_on a = dz_on b ∧ cz_same a b = some true) ∨ (dz_on a ≠ dz_on b ∧ cz_same a b = some false) := by
  match a, b, ha, hb with
  | none, none, _, _ => exact Or.inl ⟨rfl, rfl⟩
  | none, some r, _, _ => exact Or.inr ⟨by show (0 : Int) ≠ (r : Int) + 1; omega, rfl⟩
  | some r, none, _, _ => exact Or.inr ⟨by show (r : Int) + 1 ≠ (0 : Int); omega, rfl⟩
  | some r, some q, ha, hb =>
    have hsame : cz_same (some r) (some q) = some (Nat.beq r q) := by
      show (bif Nat.ble 192 r && Nat.ble 192 q then some (Nat.beq r q) else none) = _
      rw [Nat.ble_eq.mpr (ha r rfl), Nat.ble_eq.mpr (hb q rfl)]; rfl
    by_cases e : r = q
    · exact Or.inl ⟨by show (r : Int) + 1 = (q : Int) + 1; omega, by rw [hsame, Nat.beq_eq.mpr e]⟩
    · exact Or.inr ⟨by show (r : Int) + 1 ≠ (q : Int) + 1; omega, by rw [hsame, dz_beq_ne e]⟩
theorem dz_acm_ok {nL : Nat} (hG : dz_G T X S ρ τ h L st) {i : Instr} {pc : Nat} {hn : dz_Hn} {R : List (Nat × dz_S)} (hr : dz_acm T i pc hn S = some R) : cz_pure i nL L st = none ∧ ∃ p' S' st', (p', S') ∈ R ∧ cz_br i pc st = some (p', st') ∧ dz_G T X S' ρ τ h L st' ∧ S'.1 = S.1 := by
  have hs := hG.2.2.1
  cases i
  case if_acmp c off =>
    refine ⟨rfl, ?_⟩
    simp only [dz_acm] at hr
    split at hr
    · rename_i b a r he
      rw [he] at hs
      obtain ⟨v2, w1, rfl, hb, h20⟩ := hs.inv
      obtain ⟨v1, w, rfl, ha, h2⟩ := h20.inv
      split at hr
      · rename_i t ht
        cases hk : ((Nat.beq a.1 3 && Nat.beq b.1 3) && (dz_mdq T a.2.2 && dz_mdq T b.2.2)) with
        | false => rw [hk] at hr; cases hr
        | true =>
          rw [hk] at hr
          simp only [Bool.and_eq_true] at hk
          obtain ⟨oa, rfl, ha1, ha2⟩ := dz_mdq_ok hG ha hk.1.1 hk.2.1
          obtain ⟨ob, rfl, hb1, hb2⟩ := dz_mdq_ok hG hb hk.1.2 hk.2.2
          simp only [cond_true, dz_fn_eq] at hr
          have hG2 : dz_G T X (dz_stk S r) ρ τ h L w := hG.stack h2
          obtain ⟨k1, k2⟩ := dz_cmp2_ok hG2 ha2 hb2 hr
          rcases dz_same_on ha1 hb1 with ⟨e, hy⟩ | ⟨e, hy⟩
          · cases c
            · obtain ⟨S', h3, h4, h5⟩ := k1 e
              refine ⟨t, S', w, h3, ?_, h4, h5⟩
              show (match cz_to pc off, cz_same oa ob with
              | some t, some y => some (bif y then t else pc + 3, w)
              | _, _ => none) = _
              rw [ht, hy]; rfl
            · obtain ⟨S', h3, h4, h5⟩ := k2 e
              refine ⟨pc + 3, S', w, h3, ?_, h4, h5⟩
              show (match cz_to pc off, cz_same oa ob with
              | some t, some y => some (bif y then pc + 3 else t, w)
              | _, _ => none) = _
              rw [ht, hy]; rfl
          · cases c
            · obtain ⟨S', h3, h4, h5⟩ := k2 e
              refine ⟨pc + 3, S', w, h3, ?_, h4, h5⟩
              show (match cz_to pc off, cz_same oa ob with
              | some t, some y => some (bif y then t else pc + 3, w)
              | _, _ => none) = _
              rw [ht, hy]; rfl
            · obtain ⟨S', h3, h4, h5⟩ := k1 e
              refine ⟨t, S', w, h3, ?_, h4, h5⟩
              show (match cz_to pc off, cz_same oa ob with
              | some t, some y => some (bif y then pc + 3 else t, w)
              | _, _ => none) = _
              rw [ht, hy]; rfl
      · cases hr
    · cases hr
  all_goals (exact absurd hr (by simp [dz_acm]))
end DzPre2
/-- what may have been written: tags with a slot (its number and 1) or all slots (0) -/
abbrev dz_Md : Type := List (Nat × Nat)
noncomputable def dz_mdf (l : dz_Md) (t i : Nat) : Bool := List.rec false (fun q _ ih => (Nat.beq q.1 t && (Nat.beq q.2 0 || Nat.beq q.2 (Nat.succ i))) || ih) l
noncomputable def dz_mda (l : dz_Md) (t : Nat) : Bool := List.rec false (fun q _ ih => (Nat.beq q.1 t && Nat.beq q.2 0) || ih) l
theorem dz_mda_f {t : Nat} : ∀ {l : dz_Md}, dz_mda l t = true → ∀ i, dz_mdf l t i = true
  | [], h, i => by cases h
  | q :: r, h, i => by
    have h : ((Nat.beq q.1 t && Nat.beq q.2 0) || dz_mda r t) = true := h
    show ((Nat.beq q.1 t && (Nat.beq q.2 0 || Nat.beq q.2 (Nat.succ i))) || dz_mdf r t i) = true
    simp only [Bool.or_eq_true, Bool.and_eq_true] at h ⊢
    rcases h with h | h
    · exact Or.inl ⟨h.1, Or.inl h.2⟩
    · exact Or.inr (dz_mda_f h i)
def dz_Fr (md : dz_Md) (τ0 : Nat → Nat) (h0 : cz_H) (τ : Nat → Nat) (h : cz_H) : Prop := (∀ r, τ0 r ≠ 0 → τ r = τ0 r) ∧ (∀ r, τ0 r ≠ 0 → dz_al (h.2.2 r) = dz_al (h0.2.2 r)) ∧ (∀ r, τ0 r ≠ 0 → ∀ i, dz_mdf md (τ0 r) i = false → dz_get (h.2.2 r) i = dz_get (h0.2.2 r) i) ∧ h0.1 ≤ h.1
theorem dz_Fr.refl (md : dz_Md) (τ : Nat → Nat) (h : cz_H) : dz_Fr md τ h τ h := ⟨fun _ _ => rfl, fun _ _ => rfl, fun _ _ _ _ => rfl, Nat.le_refl _⟩
theorem dz_Fr.trans {md : dz_Md} {τ0 τ1 τ2 : Nat → Nat} {h0 h1 h2 : cz_H} (a : dz_Fr md τ0 h0 τ1 h1) (b : dz_Fr md τ1 h1 τ2 h2) : dz_Fr md τ0 h0 τ2 h2 := by
  obtain ⟨a1, a2, a3, a4⟩ := a
  obtain ⟨b1, b2, b3, b4⟩ := b
  have hn : ∀ r, τ0 r ≠ 0 → τ1 r ≠ 0 := fun r hr => by rw [a1 r hr]; exact hr
  exact ⟨fun r hr => (b1 r (hn r hr)).trans (a1 r hr), fun r hr => (b2 r (hn r hr)).trans (a2 r hr), fun r hr i hi => (b3 r (hn r hr) i (by rw [a1 r hr]; exact hi)).trans (a3 r hr i hi), Nat.le_trans a4 b4⟩
theorem dz_Fr.put {md : dz_Md} {τ : Nat → Nat} {h : cz_H} {r i : Nat} {v old : cz_V} (hg : dz_get (h.2.2 r) i = some old) (hm : dz_mdf md (τ r) i = true) : dz_Fr md τ h τ (dz_put h r i v) := by
  refine ⟨fun _ _ => rfl, fun q _ => ?_, fun q _ j hj => ?_, Nat.le_refl _⟩
  · rw [dz_put_at]
    by_cases e : q = r
    · subst e; rw [if_pos rfl]; exact dz_al_set _ _ _
    · rw [if_neg e]
  · rw [dz_put_at]
    by_cases e : q = r
    · subst e
      rw [if_pos rfl, dz_get_set hg]
      by_cases ej : j = i
      · subst ej; rw [hm] at hj; cases hj
      · rw [if_neg ej]
    · rw [if_neg e]
theorem dz_Fr.new {md : dz_Md} {τ : Nat → Nat} {h : cz_H} {n t : Nat} {c : cz_C} (h1 : ∀ r, τ r ≠ 0 → dz_tn τ h.1 t r = τ r) (h2 : ∀ r, τ r ≠ 0 → (cz_push h n c).2.2 r = h.2.2 r) : dz_Fr md τ h (dz_tn τ h.1 t) (cz_push h n c) :=
  ⟨h1, fun r hr => by rw [h2 r hr], fun r hr i _ => by rw [h2 r hr], by show h.1 ≤ h.1 + 1; omega⟩
theorem dz_Fr.cpy {md : dz_Md} {τ : Nat → Nat} {h : cz_H} {r : Nat} {q : Nat × Nat × (Nat → cz_V)} {f : Nat → cz_V} (hc : h.2.2 r = .inl q) (hm : dz_mda md (τ r) = true) : dz_Fr md τ h τ (cz_setc h r (.inl (q.1, q.2.1, f))) := by
  have hcell : ∀ r', (cz_setc h r (.inl (q.1, q.2.1, f))).2.2 r' = if r' = r then .inl (q.1, q.2.1, f) else h.2.2 r' := fun _ => rfl
  refine ⟨fun _ _ => rfl, fun p _ => ?_, fun p _ j hj => ?_, Nat.le_refl _⟩
  · rw [hcell]
    by_cases e : p = r
    · rw [if_pos e, e, hc]; rfl
    · rw [if_neg e]
  · rw [hcell]
    by_cases e : p = r
    · subst e; rw [dz_mda_f hm j] at hj; cases hj
    · rw [if_neg e]
theorem dz_Fr.weak {md md' : dz_Md} {τ0 τ : Nat → Nat} {h0 h : cz_H} (a : dz_Fr md τ0 h0 τ h) (hs : ∀ t i, dz_mdf md t i = true → dz_mdf md' t i = true) : dz_Fr md' τ0 h0 τ h :=
  ⟨a.1, a.2.1, fun r hr i hi => a.2.2.1 r hr i (Bool.eq_false_iff.mpr (fun w => by rw [hs _ _ w] at hi; cases hi)), a.2.2.2⟩
/-- all of one list in the other -/
noncomputable def dz_mds (l md : dz_Md) : Bool := List.rec true (fun q _ ih => (bif Nat.beq q.2 0 then dz_mda md q.1 else dz_mdf md q.1 (Nat.pred q.2)) && ih) l
theorem dz_mds_ok {md : dz_Md} : ∀ {l : dz_Md}, dz_mds l md = true → ∀ t i, dz_mdf l t i = true → dz_mdf md t i = true
  | [], _, t, i, h => by cases h
  | q :: r, hs, t, i, h => by
    have hs : ((bif Nat.beq q.2 0 then dz_mda md q.1 else dz_mdf md q.1 (Nat.pred q.2)) && dz_mds r md) = true := hs
    have h : ((Nat.beq q.1 t && (Nat.beq q.2 0 || Nat.beq q.2 (Nat.succ i))) || dz_mdf r t i) = true := h
    simp only [Bool.or_eq_true, Bool.and_eq_true] at hs h
    rcases h with ⟨h1, h2⟩ | h
    · have h1 := Nat.eq_of_beq_eq_true h1
      rw [← h1]
      cases hz : Nat.beq q.2 0 with
      | true => rw [hz] at hs; exact dz_mda_f hs.1 i
      | false =>
        rw [hz] at hs h2
        have h2 : Nat.beq q.2 (Nat.succ i) = true := by rcases h2 with h2 | h2; cases h2; exact h2
        have h2 := Nat.eq_of_beq_eq_true h2
        have h3 := hs.1
        rw [h2] at h3
        exact h3
    · exact dz_mds_ok hs.2 t i h
