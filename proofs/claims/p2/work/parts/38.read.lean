/-! L2, part 9: reading slots. -/
noncomputable def dz_ct (hn : dz_Hn) (j : Nat) : dz_Ct := match dz_nth hn.2.1 j with
  | some c => c
  | none => (0, [])
noncomputable def dz_num (hn : dz_Hn) (j : Nat) : Nat := match dz_nth hn.2.2 j with
  | some c => c
  | none => 0
def dz_kc (c : Nat) : Nat := match c with
  | 2 => 2
  | 3 => 3
  | _ => 0
theorem dz_fit_k {c : Nat} {v : cz_V} (h : cz_fitc c v = true) : dz_k v = dz_kc c := by
  obtain x | x | x := v
  · match c, h with
    | 0, _ => rfl
    | 1, _ => rfl
    | 2, h => cases h
    | 3, h => cases h
    | 4, _ => rfl
    | n + 5, h => cases h
  · match c, h with
    | 0, h => cases h
    | 1, h => cases h
    | 2, _ => rfl
    | 3, h => cases h
    | 4, h => cases h
    | n + 5, h => cases h
  · match c, h with
    | 0, h => cases h
    | 1, h => cases h
    | 2, h => cases h
    | 3, _ => rfl
    | 4, h => cases h
    | n + 5, h => cases h
/-- a slot's value on the stack: known, or by its tag, or a new unknown -/
noncomputable def dz_rd (S : dz_S) (p : dz_E) (t : Nat) (ix : dz_E) (D : dz_D) (j : Nat) (r : List dz_A) : Option dz_S :=
  bif Nat.beq j 0 then (bif Nat.beq D.2.2.2.2 2 then none else bif Nat.beq D.2.2.2.2 3 then some (dz_stk S ((dz_kc D.1, dz_plus p 1, D.2.2.2.1) :: r)) else bif Nat.beq D.2.2.2.2 4 then some (dz_stk S ((dz_kc D.1, dz_plus p 2, D.2.2.2.1) :: r)) else bif !(Nat.beq D.1 2) && dz_z (Int.sub D.2.2.1 D.2.1) then some (dz_stk S ((dz_kc D.1, dz_cst D.2.1, D.2.2.2.1) :: r))
    else dz_fn (Nat.add S.1 1) (fun m => some (m, (bif Nat.beq D.1 2 then [] else dz_bd S.1 D.2.1 D.2.2.1) ++ S.2.1, S.2.2.1, (dz_kc D.1, dz_var S.1, D.2.2.2.1) :: r, (p, t, ix, (dz_kc D.1, dz_var S.1, D.2.2.2.1)) :: S.2.2.2.2.1, S.2.2.2.2.2)))
  else (match dz_nth S.2.2.2.2.1 (Nat.pred j) with
    | some m => bif dz_same m.1 p && (Nat.beq m.2.1 t && dz_same m.2.2.1 ix) then some (dz_stk S (m.2.2.2 :: r)) else none
    | none => none)
section DzRd
variable {T : dz_TT} {X : dz_X} {S S' : dz_S} {ρ : Nat → Int} {τ : Nat → Nat} {h : cz_H} {L : List (Nat × cz_V)} {st w : List cz_V}
theorem dz_rd_ok (hG : dz_G T X S ρ τ h L st) {p ix : dz_E} {t rr i j : Nat} {D : dz_D} {v : cz_V} {r : List dz_A} (hr : dz_so S.1 ρ τ r w) (hp : dz_ok S.1 ρ p ((rr : Int) + 1)) (ht : τ rr = t) (h0 : t ≠ 0) (hi : dz_ok S.1 ρ ix (i : Int)) (hg : dz_get (h.2.2 rr) i = some v) (hv : dz_vd τ rr D v) (hd : dz_rd S p t ix D j r = some S') :
    ∃ ρ' a as, dz_G T X S' ρ' τ h L (v :: w) ∧ dz_ext S.1 ρ S'.1 ρ' ∧ S'.2.2.2.1 = a :: as ∧ dz_vo S'.1 ρ' τ a v := by
  obtain ⟨v1, v2, v3, v4⟩ := hv
  unfold dz_rd at hd
  cases hj : Nat.beq j 0 with
  | true =>
    rw [hj] at hd
    simp only [cond_true] at hd
    cases hm2 : Nat.beq D.2.2.2.2 2 with
    | true => rw [hm2] at hd; cases hd
    | false =>
    rw [hm2] at hd
    simp only [cond_false] at hd
    have v3 : dz_tg τ D.2.2.2.1 v := by
      rcases v3 with e | e
      · rw [e] at hm2; cases hm2
      · exact e
    cases hm3 : Nat.beq D.2.2.2.2 3 with
    | true =>
      rw [hm3] at hd
      cases hd
      have e3 := Nat.eq_of_beq_eq_true hm3
      have hn3 : dz_n v = (rr : Int) + 2 := by
        rcases v4.2.1 with e | e
        · exact absurd e3 e
        · exact e
      have hvo : dz_vo S.1 ρ τ (dz_kc D.1, dz_plus p 1, D.2.2.2.1) v := ⟨dz_fit_k v1, by rw [hn3, show (rr : Int) + 2 = (rr : Int) + 1 + 1 by omega]; exact dz_ok_plus 1 hp, v3⟩
      exact ⟨ρ, _, _, hG.stack ⟨hvo, hr⟩, dz_ext.refl _ _, rfl, hvo⟩
    | false =>
    rw [hm3] at hd
    simp only [cond_false] at hd
    cases hm4 : Nat.beq D.2.2.2.2 4 with
    | true =>
      rw [hm4] at hd
      cases hd
      have e4 := Nat.eq_of_beq_eq_true hm4
      have hn4 : dz_n v = (rr : Int) + 3 := by
        rcases v4.2.2 with e | e
        · exact absurd e4 e
        · exact e
      have hvo : dz_vo S.1 ρ τ (dz_kc D.1, dz_plus p 2, D.2.2.2.1) v := ⟨dz_fit_k v1, by rw [hn4, show (rr : Int) + 3 = (rr : Int) + 1 + 2 by omega]; exact dz_ok_plus 2 hp, v3⟩
      exact ⟨ρ, _, _, hG.stack ⟨hvo, hr⟩, dz_ext.refl _ _, rfl, hvo⟩
    | false =>
    rw [hm4] at hd
    simp only [cond_false] at hd
    cases hc : (!(Nat.beq D.1 2) && dz_z (Int.sub D.2.2.1 D.2.1)) with
    | true =>
      rw [hc] at hd
      cases hd
      simp only [Bool.and_eq_true, Bool.not_eq_true'] at hc
      have hz := dz_z_ok hc.2
      have hz : D.2.2.1 - D.2.1 = 0 := hz
      have hb : D.2.1 ≤ dz_n v ∧ dz_n v ≤ D.2.2.1 := by
        rcases v2 with q | q
        · rw [q] at hc; exact absurd hc.1 (by decide)
        · exact q
      have hvo : dz_vo S.1 ρ τ (dz_kc D.1, dz_cst D.2.1, D.2.2.2.1) v := ⟨dz_fit_k v1, by rw [show dz_n v = D.2.1 by omega]; exact dz_ok_cst _, v3⟩
      exact ⟨ρ, _, _, hG.stack ⟨hvo, hr⟩, dz_ext.refl _ _, rfl, hvo⟩
    | false =>
      rw [hc] at hd
      simp only [cond_false, dz_fn_eq] at hd
      cases hd
      have hx := dz_ext.up S.1 ρ (dz_n v)
      have h1 := hG.ext hx
      have hvo : dz_vo (S.1 + 1) (dz_up ρ S.1 (dz_n v)) τ (dz_kc D.1, dz_var S.1, D.2.2.2.1) v := ⟨dz_fit_k v1, dz_ok_new _, v3⟩
      refine ⟨dz_up ρ S.1 (dz_n v), _, _, ⟨h1.1.app ?_, h1.2.1, ⟨hvo, hr.ext hx⟩, ?_, h1.2.2.2.2⟩, hx, rfl, hvo⟩
      · cases hq : Nat.beq D.1 2 with
        | true => exact dz_none_all
        | false =>
          rcases v2 with q | q
          · rw [q] at hq; cases hq
          · exact dz_bd_ok q.1 q.2
      · intro m hm
        rcases List.mem_cons.mp hm with rfl | hm
        · exact ⟨rr, i, v, hp.ext hx, ⟨ht, h0⟩, hi.ext hx, hg, hvo⟩
        · exact h1.2.2.2.1 m hm
  | false =>
    rw [hj] at hd
    simp only [cond_false] at hd
    split at hd
    · rename_i m hm
      cases hc : (dz_same m.1 p && (Nat.beq m.2.1 t && dz_same m.2.2.1 ix)) with
      | false => rw [hc] at hd; cases hd
      | true =>
        rw [hc] at hd
        cases hd
        simp only [Bool.and_eq_true] at hc
        obtain ⟨r', i', v', m1, m2, m3, m4, m5⟩ := hG.2.2.2.1 m (dz_nth_mem hm)
        have e1 := dz_same_ok m1 hp hc.1
        have e2 := dz_same_ok m3 hi hc.2.2
        have e1 : r' = rr := by omega
        have e2 : i' = i := by omega
        subst e1 e2
        rw [hg] at m4
        cases m4
        exact ⟨ρ, _, _, hG.stack ⟨m5, hr⟩, dz_ext.refl _ _, rfl, m5⟩
    · cases hd
/-- an object at hand -/
theorem dz_obj_at (hB : dz_B T X τ h) {r : Nat} {ti : dz_I} (h0 : τ r ≠ 0) (hti : T (τ r) = some ti) (hk : Nat.beq ti.1 0 = true) : ∃ vs, cz_obj h r = some (ti.2.1, vs) ∧ h.2.2 r = .inr (.inl (ti.2.1, vs)) ∧ vs.length = ti.2.2.2.2.length ∧ (ti.2.2.1 = 0 ∨ 192 ≤ r) ∧ ∀ i v, dz_get (h.2.2 r) i = some v → ∃ D, dz_ds ti i = some D ∧ dz_vd τ r D v := by
  obtain ⟨h1, ti', h2, h3, h4, h5⟩ := hB.1 r h0
  rw [hti] at h2
  cases h2
  have hk := Nat.eq_of_beq_eq_true hk
  cases hc : h.2.2 r with
  | inl q => rw [hc] at h3; have := h3.1; omega
  | inr q =>
    obtain q | q := q
    · rw [hc] at h3
      obtain ⟨_, e1, e2⟩ := h3
      refine ⟨q.2, ?_, by rw [← e1], e2, h4, ?_⟩
      · unfold cz_obj
        rw [h1, hc]
        show some q = _
        rw [← e1]
      · rw [hc] at h5; exact h5
    · rw [hc] at h3; have := h3.1; omega
/-- an array at hand -/
theorem dz_arr_at (hB : dz_B T X τ h) {r : Nat} {ti : dz_I} (h0 : τ r ≠ 0) (hti : T (τ r) = some ti) (hk : Nat.beq ti.1 1 = true) (hl : Nat.blt ti.2.1 11 = true) : ∃ n f, cz_arr h r = some (ti.2.1, n, f) ∧ h.2.2 r = .inl (ti.2.1, n, f) ∧ (ti.2.2.2.1.1 ≤ (n : Int) ∧ (n : Int) ≤ ti.2.2.2.1.2) ∧ (ti.2.2.1 = 0 ∨ 192 ≤ r) ∧ ∀ i, i < n → ∃ D, dz_nth ti.2.2.2.2 0 = some D ∧ dz_vd τ r D (f i) := by
  obtain ⟨h1, ti', h2, h3, h4, h5⟩ := hB.1 r h0
  rw [hti] at h2
  cases h2
  have hk := Nat.eq_of_beq_eq_true hk
  cases hc : h.2.2 r with
  | inl q =>
    rw [hc] at h3 h5
    obtain ⟨_, e1, e2, e3⟩ := h3
    refine ⟨q.2.1, q.2.2, ?_, by rw [← e1], ⟨e2, e3⟩, h4, ?_⟩
    · unfold cz_arr
      rw [h1, hc]
      show (bif Nat.blt q.1 11 then some q else none) = _
      rw [e1, hl, ← e1]
      rfl
    · intro i hi
      obtain ⟨D, d1, d2⟩ := h5 i (q.2.2 i) (by show (if i < q.2.1 then some (q.2.2 i) else none) = _; rw [if_pos hi])
      refine ⟨D, ?_, d2⟩
      unfold dz_ds at d1
      rw [hk] at d1
      exact d1
  | inr q =>
    obtain q | q := q
    · rw [hc] at h3; have := h3.1; omega
    · rw [hc] at h3; have := h3.1; omega
theorem dz_nth_eq {α : Type} : ∀ (l : List α) (i : Nat), dz_nth l i = l[i]?
  | [], i => rfl
  | a :: r, 0 => rfl
  | a :: r, i + 1 => by
    show dz_nth r i = (a :: r)[i + 1]?
    rw [dz_nth_eq r i]
    rfl
/-- getfield -/
noncomputable def dz_gf (T : dz_TT) (M : cz_M) (x : Nat) (hn : dz_Hn) (S : dz_S) : Option dz_S := match S.2.2.2.1 with
  | a :: r => bif Nat.beq a.1 3 && dz_pf S.2.1 (dz_ct hn 0) (dz_plus a.2.1 (-1)) then (match cz_lk M x with
    | some q => (match T a.2.2 with
      | some ti => bif Nat.ble q.1 1 && (Nat.beq ti.1 0 && Nat.beq ti.2.1 q.2.1) then (match dz_ds ti q.2.2.1 with
        | some D => dz_rd S a.2.1 a.2.2 (dz_cst (.ofNat q.2.2.1)) D (dz_num hn 0) r
        | none => none) else none
      | none => none)
    | none => none) else none
  | _ => none
theorem dz_gf_ok {P : cz_P} {M : cz_M} {d pc x : Nat} {hn : dz_Hn} (hG : dz_G T X S ρ τ h L st) (hp : dz_gf T M x hn S = some S') : ∃ st' ρ', cz_hp P M d pc st h (.getfield x) = some (pc + 3, st', h) ∧ dz_G T X S' ρ' τ h L st' ∧ dz_ext S.1 ρ S'.1 ρ' := by
  have hs := hG.2.2.1
  unfold dz_gf at hp
  split at hp
  · rename_i a r he
    rw [he] at hs
    obtain ⟨v, w, rfl, ha, h2⟩ := hs.inv
    cases hc : (Nat.beq a.1 3 && dz_pf S.2.1 (dz_ct hn 0) (dz_plus a.2.1 (-1))) with
    | false => rw [hc] at hp; cases hp
    | true =>
      rw [hc] at hp
      simp only [Bool.and_eq_true] at hc
      simp only [cond_true] at hp
      obtain ⟨rr, rfl, k1, k2, k3⟩ := ha.at hc.1 (fun x hx => by have := dz_pf_ok hG.1 (dz_ok_plus (-1) hx) hc.2; omega)
      split at hp
      · rename_i q hq
        split at hp
        · rename_i ti hti
          cases hb : (Nat.ble q.1 1 && (Nat.beq ti.1 0 && Nat.beq ti.2.1 q.2.1)) with
          | false => rw [hb] at hp; cases hp
          | true =>
            rw [hb] at hp
            simp only [Bool.and_eq_true] at hb
            simp only [cond_true] at hp
            split at hp
            · rename_i D hD
              obtain ⟨vs, o1, o2, o3, o4, o5⟩ := dz_obj_at hG.2.2.2.2.2.2.2 (r := rr) (by rw [k2]; exact k3) (by rw [k2]; exact hti) hb.2.1
              have hlen : q.2.2.1 < vs.length := by
                have e0 := Nat.eq_of_beq_eq_true hb.2.1
                unfold dz_ds at hD
                rw [e0] at hD
                have hD : dz_nth ti.2.2.2.2 q.2.2.1 = some D := hD
                rw [dz_nth_eq] at hD
                rw [o3]
                exact (List.getElem?_eq_some_iff.mp hD).1
              have hget : dz_get (h.2.2 rr) q.2.2.1 = some vs[q.2.2.1] := by
                rw [o2]
                exact List.getElem?_eq_getElem hlen
              obtain ⟨D', e1, e2⟩ := o5 _ _ hget
              rw [hD] at e1
              cases e1
              obtain ⟨ρ', _, _, g1, g2, _⟩ := dz_rd_ok hG h2 k1 k2 k3 (dz_ok_cst (.ofNat q.2.2.1)) hget e2 hp
              refine ⟨vs[q.2.2.1] :: w, ρ', ?_, g1, g2⟩
              show cz_hget M x pc (.inr (.inr (some rr)) :: w) h = _
              unfold cz_hget
              simp only [hq, hb.1, cond_true, o1, hb.2.2]
              rw [List.getElem?_eq_getElem hlen]
            · cases hp
        · cases hp
      · cases hp
  · cases hp
/-- the length of an array: by its tag, or known -/
noncomputable def dz_len (S : dz_S) (p : dz_E) (t : Nat) (ti : dz_I) (j : Nat) : Option dz_E := bif Nat.beq j 0 then some (dz_cst ti.2.2.2.1.1) else (match dz_nth S.2.2.2.2.2.1 (Nat.pred j) with
  | some k => bif dz_same k.1 p && Nat.beq k.2.1 t then some k.2.2.1 else none
  | none => none)
/-- at most the length -/
theorem dz_len_ok (hG : dz_G T X S ρ τ h L st) {p e : dz_E} {t rr j n ty : Nat} {f : Nat → cz_V} {ti : dz_I} (hp : dz_ok S.1 ρ p ((rr : Int) + 1)) (hc : h.2.2 rr = .inl (ty, n, f)) (hlo : ti.2.2.2.1.1 ≤ (n : Int)) (hl : dz_len S p t ti j = some e) : ∃ x, dz_ok S.1 ρ e x ∧ x ≤ n := by
  unfold dz_len at hl
  cases hj : Nat.beq j 0 with
  | true => rw [hj] at hl; cases hl; exact ⟨_, dz_ok_cst _, hlo⟩
  | false =>
    rw [hj] at hl
    simp only [cond_false] at hl
    split at hl
    · rename_i k hk
      cases hb : (dz_same k.1 p && Nat.beq k.2.1 t) with
      | false => rw [hb] at hl; cases hl
      | true =>
        rw [hb] at hl; cases hl
        simp only [Bool.and_eq_true] at hb
        obtain ⟨r', q, s, u, lo, hi, h1, h2, h3, h4, _⟩ := hG.2.2.2.2.1 k (dz_nth_mem hk)
        have e1 := dz_same_ok h1 hp hb.1
        have e1 : r' = rr := by omega
        subst e1
        rw [hc] at h3
        cases h3
        exact ⟨_, h4, Int.le_refl _⟩
    · cases hl
/-- bounds known of a stretch -/
noncomputable def dz_kb (S : dz_S) (p : dz_E) (t : Nat) (b e : dz_E) (hn : dz_Hn) (j : Nat) : Option (List dz_E) := bif Nat.beq j 0 then some [] else (match dz_nth S.2.2.2.2.2.1 (Nat.pred j) with
  | some k => bif (dz_same k.1 p && Nat.beq k.2.1 t) && (dz_pf S.2.1 (dz_ct hn 3) (dz_sub b k.2.2.2.1) && dz_pf S.2.1 (dz_ct hn 4) (dz_plus (dz_sub k.2.2.2.2.1 b) (-1))) then some [dz_sub e k.2.2.2.2.2.1, dz_sub k.2.2.2.2.2.2 e] else none
  | none => none)
noncomputable def dz_top (S : dz_S) : dz_E := match S.2.2.2.1 with
  | a :: _ => a.2.1
  | [] => dz_cst 0
/-- an element -/
noncomputable def dz_ld (T : dz_TT) (ok : Nat → Bool) (hn : dz_Hn) (S : dz_S) : Option dz_S := match S.2.2.2.1 with
  | b :: a :: r => bif (Nat.beq a.1 3 && Nat.beq b.1 0) && (dz_pf S.2.1 (dz_ct hn 0) (dz_plus a.2.1 (-1)) && dz_pf S.2.1 (dz_ct hn 1) b.2.1) then (match T a.2.2 with
    | some ti => bif (Nat.beq ti.1 1 && Nat.blt ti.2.1 11) && ok ti.2.1 then (match dz_len S a.2.1 a.2.2 ti (dz_num hn 1), dz_nth ti.2.2.2.2 0 with
      | some n, some D => bif dz_pf S.2.1 (dz_ct hn 2) (dz_plus (dz_sub n b.2.1) (-1)) then (match dz_rd S a.2.1 a.2.2 b.2.1 D (dz_num hn 0) r with
        | some S1 => (match dz_kb S a.2.1 a.2.2 b.2.1 (dz_top S1) hn (dz_num hn 2) with
          | some es => some (dz_gam S1 es)
          | none => none)
        | none => none) else none
      | _, _ => none) else none
    | none => none) else none
  | _ => none
theorem dz_kb_ok (hG : dz_G T X S ρ τ h L st) {p b e : dz_E} {t rr i n ty j n' : Nat} {ρ' : Nat → Int} {f : Nat → cz_V} {hn : dz_Hn} {es : List dz_E} (hx : dz_ext S.1 ρ n' ρ') (hp : dz_ok S.1 ρ p ((rr : Int) + 1)) (hb : dz_ok S.1 ρ b (i : Int)) (hi : i < n) (hc : h.2.2 rr = .inl (ty, n, f)) (he : dz_ok n' ρ' e (dz_n (f i))) (hk : dz_kb S p t b e hn j = some es) : dz_all n' ρ' es := by
  unfold dz_kb at hk
  cases hj : Nat.beq j 0 with
  | true => rw [hj] at hk; cases hk; exact dz_none_all
  | false =>
    rw [hj] at hk
    simp only [cond_false] at hk
    split at hk
    · rename_i k hkk
      cases hq : ((dz_same k.1 p && Nat.beq k.2.1 t) && (dz_pf S.2.1 (dz_ct hn 3) (dz_sub b k.2.2.2.1) && dz_pf S.2.1 (dz_ct hn 4) (dz_plus (dz_sub k.2.2.2.2.1 b) (-1)))) with
      | false => rw [hq] at hk; cases hk
      | true =>
        rw [hq] at hk; cases hk
        simp only [Bool.and_eq_true] at hq
        obtain ⟨r', q, s, u, lo, hi', h1, h2, h3, h4, h5, h6, h7, h8, h9⟩ := hG.2.2.2.2.1 k (dz_nth_mem hkk)
        have e1 := dz_same_ok h1 hp hq.1.1
        have e1 : r' = rr := by omega
        subst e1
        rw [hc] at h3
        cases h3
        have a1 := dz_pf_ok hG.1 (dz_ok_sub hb h5) hq.2.1
        have a2 := dz_pf_ok hG.1 (dz_ok_plus (-1) (dz_ok_sub h6 hb)) hq.2.2
        have a3 : lo ≤ dz_n (f i) ∧ dz_n (f i) ≤ hi' := h9 i (by omega) (by omega) hi
        exact dz_two (dz_ok_sub he (h7.ext hx)) (by have := a3.1; show 0 ≤ dz_n (f i) - lo; omega) (dz_ok_sub (h8.ext hx) he) (by have := a3.2; show 0 ≤ hi' - dz_n (f i); omega)
    · cases hk
theorem dz_ix_ok {x : Int32} {i n : Nat} (h1 : x.toInt = (i : Int)) (h2 : i < n) : cz_ix x n = true ∧ x.toInt.toNat = i := by
  have e : x.toInt.toNat = i := by omega
  refine ⟨?_, e⟩
  unfold cz_ix
  rw [e, decide_eq_true (by omega), Nat.blt_eq.mpr h2]
  rfl
theorem dz_ld_ok {ok : Nat → Bool} {pc : Nat} {hn : dz_Hn} (hG : dz_G T X S ρ τ h L st) (hp : dz_ld T ok hn S = some S') : ∃ st' ρ', cz_hal ok pc st h = some (pc + 1, st', h) ∧ dz_G T X S' ρ' τ h L st' ∧ dz_ext S.1 ρ S'.1 ρ' := by
  have hs := hG.2.2.1
  unfold dz_ld at hp
  split at hp
  · rename_i b a r he
    rw [he] at hs
    obtain ⟨v2, w1, rfl, hb, h20⟩ := hs.inv
    obtain ⟨v1, w, rfl, ha, h2⟩ := h20.inv
    cases hc : ((Nat.beq a.1 3 && Nat.beq b.1 0) && (dz_pf S.2.1 (dz_ct hn 0) (dz_plus a.2.1 (-1)) && dz_pf S.2.1 (dz_ct hn 1) b.2.1)) with
    | false => rw [hc] at hp; cases hp
    | true =>
      rw [hc] at hp
      simp only [Bool.and_eq_true] at hc
      simp only [cond_true] at hp
      obtain ⟨rr, rfl, k1, k2, k3⟩ := ha.at hc.1.1 (fun x hx => by have := dz_pf_ok hG.1 (dz_ok_plus (-1) hx) hc.2.1; omega)
      obtain ⟨x, rfl, hx⟩ := hb.int hc.1.2
      have hx0 := dz_pf_ok hG.1 hx hc.2.2
      split at hp
      · rename_i ti hti
        cases hq : ((Nat.beq ti.1 1 && Nat.blt ti.2.1 11) && ok ti.2.1) with
        | false => rw [hq] at hp; cases hp
        | true =>
          rw [hq] at hp
          simp only [Bool.and_eq_true] at hq
          simp only [cond_true] at hp
          obtain ⟨n, f, o1, o2, o3, o4, o5⟩ := dz_arr_at hG.2.2.2.2.2.2.2 (r := rr) (by rw [k2]; exact k3) (by rw [k2]; exact hti) hq.1.1 hq.1.2
          split at hp
          · rename_i ne D hne hD
            cases hl : dz_pf S.2.1 (dz_ct hn 2) (dz_plus (dz_sub ne b.2.1) (-1)) with
            | false => rw [hl] at hp; cases hp
            | true =>
              rw [hl] at hp
              simp only [cond_true] at hp
              obtain ⟨nx, n1, n2⟩ := dz_len_ok hG k1 o2 o3.1 hne
              have hlt := dz_pf_ok hG.1 (dz_ok_plus (-1) (dz_ok_sub n1 hx)) hl
              have hxi : x.toInt = ((x.toInt.toNat : Nat) : Int) := by omega
              have hi : x.toInt.toNat < n := by omega
              have hx2 : dz_ok S.1 ρ b.2.1 ((x.toInt.toNat : Nat) : Int) := by rw [← hxi]; exact hx
              have hget : dz_get (h.2.2 rr) x.toInt.toNat = some (f x.toInt.toNat) := by
                rw [o2]
                show (if x.toInt.toNat < n then some (f x.toInt.toNat) else none) = _
                rw [if_pos hi]
              obtain ⟨D', d1, d2⟩ := o5 _ hi
              rw [hD] at d1
              cases d1
              split at hp
              · rename_i S1 hS1
                obtain ⟨ρ', av, as, g1, g2, g3, g4⟩ := dz_rd_ok hG h2 k1 k2 k3 hx2 hget d2 hS1
                split at hp
                · rename_i es hes
                  cases hp
                  have htop : dz_top S1 = av.2.1 := by unfold dz_top; rw [g3]
                  have hes2 := dz_kb_ok hG g2 k1 hx2 hi o2 (by rw [htop]; exact g4.2.1) hes
                  refine ⟨_, ρ', ?_, g1.gam hes2, g2⟩
                  show cz_aload pc w h x rr ok = _
                  unfold cz_aload
                  rw [o1]
                  show (bif cz_ix x n && ok ti.2.1 then some (pc + 1, f x.toInt.toNat :: w, h) else none) = _
                  rw [(dz_ix_ok hxi hi).1, hq.2]
                  rfl
                · cases hp
              · cases hp
          · cases hp
      · cases hp
  · cases hp
/-- arraylength: 0 by the tag, 1 a new unknown, more: known -/
noncomputable def dz_al_i (T : dz_TT) (hn : dz_Hn) (S : dz_S) : Option dz_S := match S.2.2.2.1 with
  | a :: r => bif Nat.beq a.1 3 && dz_pf S.2.1 (dz_ct hn 0) (dz_plus a.2.1 (-1)) then (match T a.2.2 with
    | some ti => bif (Nat.beq ti.1 1 && Nat.blt ti.2.1 11) && dz_ile ti.2.2.2.1.2 2147483647 then
        (bif Nat.beq (dz_num hn 0) 0 then (bif dz_z (Int.sub ti.2.2.2.1.2 ti.2.2.2.1.1) then some (dz_stk S ((0, dz_cst ti.2.2.2.1.1, 0) :: r)) else none)
        else bif Nat.beq (dz_num hn 0) 1 then dz_fn (Nat.add S.1 1) (fun m => some (m, dz_bd S.1 ti.2.2.2.1.1 ti.2.2.2.1.2 ++ S.2.1, S.2.2.1, (0, dz_var S.1, 0) :: r, S.2.2.2.2.1, (a.2.1, a.2.2, dz_var S.1, dz_cst 0, dz_cst 0, dz_cst 1, dz_cst 1000000) :: S.2.2.2.2.2.1, S.2.2.2.2.2.2))
        else (match dz_nth S.2.2.2.2.2.1 (Nat.pred (Nat.pred (dz_num hn 0))) with
          | some k => bif dz_same k.1 a.2.1 && Nat.beq k.2.1 a.2.2 then some (dz_stk S ((0, k.2.2.1, 0) :: r)) else none
          | none => none)) else none
    | none => none) else none
  | _ => none
theorem dz_al_i_ok {pc : Nat} {hn : dz_Hn} (hG : dz_G T X S ρ τ h L st) (hp : dz_al_i T hn S = some S') : ∃ st' ρ', cz_hlen pc st h = some (pc + 1, st', h) ∧ dz_G T X S' ρ' τ h L st' ∧ dz_ext S.1 ρ S'.1 ρ' := by
  have hs := hG.2.2.1
  unfold dz_al_i at hp
  split at hp
  · rename_i a r he
    rw [he] at hs
    obtain ⟨v1, w, rfl, ha, h2⟩ := hs.inv
    cases hc : (Nat.beq a.1 3 && dz_pf S.2.1 (dz_ct hn 0) (dz_plus a.2.1 (-1))) with
    | false => rw [hc] at hp; cases hp
    | true =>
      rw [hc] at hp
      simp only [Bool.and_eq_true] at hc
      simp only [cond_true] at hp
      obtain ⟨rr, rfl, k1, k2, k3⟩ := ha.at hc.1 (fun x hx => by have := dz_pf_ok hG.1 (dz_ok_plus (-1) hx) hc.2; omega)
      split at hp
      · rename_i ti hti
        cases hq : ((Nat.beq ti.1 1 && Nat.blt ti.2.1 11) && dz_ile ti.2.2.2.1.2 2147483647) with
        | false => rw [hq] at hp; cases hp
        | true =>
          rw [hq] at hp
          simp only [Bool.and_eq_true] at hq
          simp only [cond_true] at hp
          have hmx := dz_ile_ok hq.2
          obtain ⟨n, f, o1, o2, o3, o4, o5⟩ := dz_arr_at hG.2.2.2.2.2.2.2 (r := rr) (by rw [k2]; exact k3) (by rw [k2]; exact hti) hq.1.1 hq.1.2
          have hn1 : (Int32.ofNat n).toInt = (n : Int) := Int32.toInt_ofNat_of_lt (by show n < 2147483648; omega)
          have hrun : cz_hlen pc (.inr (.inr (some rr)) :: w) h = some (pc + 1, .inl (Int32.ofNat n) :: w, h) := by
            show (match cz_arr h rr with
              | some c => some (pc + 1, Sum.inl (Int32.ofNat c.2.1) :: w, h)
              | none => none) = _
            rw [o1]
          cases h0 : Nat.beq (dz_num hn 0) 0 with
          | true =>
            rw [h0] at hp
            simp only [cond_true] at hp
            cases hz : dz_z (Int.sub ti.2.2.2.1.2 ti.2.2.2.1.1) with
            | false => rw [hz] at hp; cases hp
            | true =>
              rw [hz] at hp; cases hp
              have hz := dz_z_ok hz
              have hz : ti.2.2.2.1.2 - ti.2.2.2.1.1 = 0 := hz
              refine ⟨_, ρ, hrun, hG.stack ⟨⟨rfl, ?_, fun r hr => by cases hr⟩, h2⟩, dz_ext.refl _ _⟩
              show dz_ok S.1 ρ (dz_cst _) (Int32.ofNat n).toInt
              rw [hn1, show (n : Int) = ti.2.2.2.1.1 by omega]
              exact dz_ok_cst _
          | false =>
            rw [h0] at hp
            simp only [cond_false] at hp
            cases h1 : Nat.beq (dz_num hn 0) 1 with
            | true =>
              rw [h1] at hp
              simp only [cond_true, dz_fn_eq] at hp
              cases hp
              have hx := dz_ext.up S.1 ρ (n : Int)
              have g := hG.ext hx
              refine ⟨_, dz_up ρ S.1 (n : Int), hrun, ⟨g.1.app (dz_bd_ok o3.1 o3.2), g.2.1, ⟨⟨rfl, ?_, fun r hr => by cases hr⟩, h2.ext hx⟩, g.2.2.2.1, ?_, g.2.2.2.2.2⟩, hx⟩
              · show dz_ok _ _ _ (Int32.ofNat n).toInt
                rw [hn1]
                exact dz_ok_new _
              · intro k hk
                rcases List.mem_cons.mp hk with rfl | hk
                · exact ⟨rr, (ti.2.1, n, f), 0, 0, 1, 1000000, k1.ext hx, ⟨k2, k3⟩, o2, dz_ok_new _, dz_ok_cst 0, dz_ok_cst 0, dz_ok_cst 1, dz_ok_cst 1000000, fun i a1 a2 _ => by omega⟩
                · exact g.2.2.2.2.1 k hk
            | false =>
              rw [h1] at hp
              simp only [cond_false] at hp
              split at hp
              · rename_i k hk
                cases hb : (dz_same k.1 a.2.1 && Nat.beq k.2.1 a.2.2) with
                | false => rw [hb] at hp; cases hp
                | true =>
                  rw [hb] at hp; cases hp
                  simp only [Bool.and_eq_true] at hb
                  obtain ⟨r', q, s, u, lo, hi, m1, m2, m3, m4, _⟩ := hG.2.2.2.2.1 k (dz_nth_mem hk)
                  have e1 := dz_same_ok m1 k1 hb.1
                  have e1 : r' = rr := by omega
                  subst e1
                  rw [o2] at m3
                  cases m3
                  refine ⟨_, ρ, hrun, hG.stack ⟨⟨rfl, ?_, fun r hr => by cases hr⟩, h2⟩, dz_ext.refl _ _⟩
                  show dz_ok S.1 ρ k.2.2.1 (Int32.ofNat n).toInt
                  rw [hn1]
                  exact m4
              · cases hp
      · cases hp
  · cases hp
end DzRd
