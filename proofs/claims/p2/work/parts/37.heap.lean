/-! L2, part 8: the cells: writing a slot, making a cell. -/
def dz_put (h : cz_H) (r i : Nat) (v : cz_V) : cz_H := cz_setc h r (dz_set (h.2.2 r) i v)
theorem dz_put_at (h : cz_H) (r i : Nat) (v : cz_V) (q : Nat) : (dz_put h r i v).2.2 q = if q = r then dz_set (h.2.2 r) i v else h.2.2 q := rfl
theorem dz_sh_al {ti : dz_I} {c c' : cz_C} (he : dz_al c' = dz_al c) (h : dz_sh ti c) : dz_sh ti c' := by
  obtain q | q | k := c <;> obtain q' | q' | k' := c' <;> simp only [dz_al, reduceCtorEq, Sum.inl.injEq, Sum.inr.injEq, Prod.mk.injEq] at he
  · obtain ⟨h1, h2, h3, h4⟩ := h
    exact ⟨h1, he.1.trans h2, by rw [he.2]; exact h3, by rw [he.2]; exact h4⟩
  · obtain ⟨h1, h2, h3⟩ := h
    exact ⟨h1, he.1.trans h2, he.2.trans h3⟩
  · exact ⟨h.1, he.trans h.2⟩
theorem dz_get_al {c c' : cz_C} (he : dz_al c' = dz_al c) {i : Nat} {v : cz_V} (h : dz_get c i = some v) : ∃ w, dz_get c' i = some w := by
  obtain q | q | k := c <;> obtain q' | q' | k' := c' <;> simp only [dz_al, reduceCtorEq, Sum.inl.injEq, Sum.inr.injEq, Prod.mk.injEq] at he
  · simp only [dz_get] at h ⊢
    by_cases hi : i < q.2.1
    · rw [if_pos (by rw [he.2]; exact hi)]; exact ⟨_, rfl⟩
    · rw [if_neg hi] at h; cases h
  · simp only [dz_get] at h ⊢
    have hi : i < q.2.length := (List.getElem?_eq_some_iff.mp h).1
    exact ⟨_, List.getElem?_eq_some_iff.mpr ⟨by rw [he.2]; exact hi, rfl⟩⟩
  · cases h
theorem dz_B_put {T : dz_TT} {X : dz_X} {τ : Nat → Nat} {h : cz_H} (hB : dz_B T X τ h) {r i : Nat} {v old : cz_V} {ti : dz_I} {D : dz_D} (hti : T (τ r) = some ti) (hg : dz_get (h.2.2 r) i = some old) (hD : dz_ds ti i = some D) (hv : dz_vd τ r D v) (hX : X τ (dz_put h r i v)) : dz_B T X τ (dz_put h r i v) := by
  refine ⟨fun q hq => ?_, hX, hB.2.2⟩
  obtain ⟨h1, ti', h2, h3, h4, h5⟩ := hB.1 q hq
  refine ⟨h1, ti', h2, ?_, h4, ?_⟩
  · rw [dz_put_at]
    by_cases e : q = r
    · subst e; rw [if_pos rfl]; exact dz_sh_al (dz_al_set _ _ _) h3
    · rw [if_neg e]; exact h3
  · intro j w hw
    rw [dz_put_at] at hw
    by_cases e : q = r
    · subst e
      rw [if_pos rfl, dz_get_set hg] at hw
      rw [hti] at h2
      cases h2
      by_cases ej : j = i
      · subst ej
        rw [if_pos rfl] at hw
        cases hw
        exact ⟨D, hD, hv⟩
      · rw [if_neg ej] at hw
        exact h5 j w hw
    · rw [if_neg e] at hw
      exact h5 j w hw
/-- two numbers that differ by a number known not to be 0 -/
noncomputable def dz_apart (a b : dz_E) : Bool := match dz_sub a b with
  | (c, []) => !(dz_z c)
  | _ => false
noncomputable def dz_same (a b : dz_E) : Bool := match dz_sub a b with
  | (c, []) => dz_z c
  | _ => false
theorem dz_apart_ok {n : Nat} {ρ : Nat → Int} {a b : dz_E} {x y : Int} (ha : dz_ok n ρ a x) (hb : dz_ok n ρ b y) (h : dz_apart a b = true) : x ≠ y := by
  have h1 := dz_ok_sub ha hb
  unfold dz_apart at h
  split at h
  · rename_i c hc
    rw [hc] at h1
    have h2 := dz_cst_eq h1
    intro e
    have h3 : c = 0 := by omega
    rw [h3] at h
    cases h
  · cases h
theorem dz_same_ok {n : Nat} {ρ : Nat → Int} {a b : dz_E} {x y : Int} (ha : dz_ok n ρ a x) (hb : dz_ok n ρ b y) (h : dz_same a b = true) : x = y := by
  have h1 := dz_ok_sub ha hb
  unfold dz_same at h
  split at h
  · rename_i c hc
    rw [hc] at h1
    have h2 := dz_cst_eq h1
    have h3 := dz_z_ok h
    omega
  · cases h
/-- what of the known slots outlives a write -/
noncomputable def dz_mk (p : dz_E) (t : Nat) (ix : dz_E) (m : dz_M) : Bool := bif Nat.beq m.2.1 t then dz_apart m.1 p || dz_apart m.2.2.1 ix else true
theorem dz_mo_put {n : Nat} {ρ : Nat → Int} {τ : Nat → Nat} {h : cz_H} {m : dz_M} (hm : dz_mo n ρ τ h m) {p ix : dz_E} {t r i : Nat} {v old : cz_V} (hp : dz_ok n ρ p ((r : Int) + 1)) (ht : τ r = t) (hi : dz_ok n ρ ix (i : Int)) (hg : dz_get (h.2.2 r) i = some old) (hk : dz_mk p t ix m = true) : dz_mo n ρ τ (dz_put h r i v) m := by
  obtain ⟨r', i', v', h1, h2, h3, h4, h5⟩ := hm
  refine ⟨r', i', v', h1, h2, h3, ?_, h5⟩
  rw [dz_put_at]
  by_cases e : r' = r
  · subst e
    rw [if_pos rfl, dz_get_set hg]
    by_cases ei : i' = i
    · exfalso
      subst ei
      unfold dz_mk at hk
      rw [show Nat.beq m.2.1 t = true from Nat.beq_eq.mpr (h2.1.symm.trans ht)] at hk
      simp only [cond_true, Bool.or_eq_true] at hk
      rcases hk with hk | hk
      · exact dz_apart_ok h1 hp hk rfl
      · exact dz_apart_ok h3 hi hk rfl
    · rw [if_neg ei]; exact h4
  · rw [if_neg e]; exact h4
theorem dz_mo_new {n : Nat} {ρ : Nat → Int} {τ : Nat → Nat} {h : cz_H} {p ix : dz_E} {t r i : Nat} {v old : cz_V} {a : dz_A} (hp : dz_ok n ρ p ((r : Int) + 1)) (ht : τ r = t) (h0 : t ≠ 0) (hi : dz_ok n ρ ix (i : Int)) (hg : dz_get (h.2.2 r) i = some old) (ha : dz_vo n ρ τ a v) : dz_mo n ρ τ (dz_put h r i v) (p, t, ix, a) := by
  refine ⟨r, i, v, hp, ⟨ht, h0⟩, hi, ?_, ha⟩
  rw [dz_put_at, if_pos rfl, dz_get_set hg, if_pos rfl]
theorem dz_ko_put {n : Nat} {ρ : Nat → Int} {τ : Nat → Nat} {h : cz_H} {k : dz_K} (hk : dz_ko n ρ τ h k) {r i : Nat} {v old : cz_V} (hg : dz_get (h.2.2 r) i = some old)
    (hv : τ r = k.2.1 → ∀ r' lo hi, dz_ok n ρ k.1 ((r' : Int) + 1) → r' = r → dz_ok n ρ k.2.2.2.2.2.1 lo → dz_ok n ρ k.2.2.2.2.2.2 hi → lo ≤ dz_n v ∧ dz_n v ≤ hi) : dz_ko n ρ τ (dz_put h r i v) k := by
  obtain ⟨r', q, s, u, lo, hi, h1, h2, h3, h4, h5, h6, h7, h8, h9⟩ := hk
  by_cases e : r' = r
  · subst e
    have hb := hv h2.1 r' lo hi h1 rfl h7 h8
    refine ⟨r', (q.1, q.2.1, fun j => if j = i then v else q.2.2 j), s, u, lo, hi, h1, h2, ?_, h4, h5, h6, h7, h8, ?_⟩
    · rw [dz_put_at, if_pos rfl, h3]; rfl
    · intro j a1 a2 a3
      show lo ≤ dz_n (if j = i then v else q.2.2 j) ∧ dz_n (if j = i then v else q.2.2 j) ≤ hi
      by_cases ej : j = i
      · rw [if_pos ej]; exact hb
      · rw [if_neg ej]; exact h9 j a1 a2 a3
  · exact ⟨r', q, s, u, lo, hi, h1, h2, by rw [dz_put_at, if_neg e]; exact h3, h4, h5, h6, h7, h8, h9⟩
/-- the array alone, nothing of what lies in it -/
def dz_kl (k : dz_K) : dz_K := (k.1, k.2.1, k.2.2.1, dz_cst 0, dz_cst 0, k.2.2.2.2.2)
theorem dz_ko_kl {n : Nat} {ρ : Nat → Int} {τ : Nat → Nat} {h h' : cz_H} {k : dz_K} (hk : dz_ko n ρ τ h k) (hal : ∀ r, τ r ≠ 0 → dz_al (h'.2.2 r) = dz_al (h.2.2 r)) : dz_ko n ρ τ h' (dz_kl k) := by
  obtain ⟨r', q, s, u, lo, hi, h1, h2, h3, h4, h5, h6, h7, h8, h9⟩ := hk
  have ha := hal r' (by rw [h2.1]; exact h2.2)
  rw [h3] at ha
  cases hc : h'.2.2 r' with
  | inl q' =>
    rw [hc] at ha
    simp only [dz_al, Sum.inl.injEq, Prod.mk.injEq] at ha
    exact ⟨r', q', 0, 0, lo, hi, h1, h2, hc, by rw [ha.2]; exact h4, dz_ok_cst 0, dz_ok_cst 0, h7, h8, fun i a1 a2 _ => by omega⟩
  | inr q' =>
    rw [hc] at ha
    obtain q' | q' := q' <;> cases ha
/-- of an array written to: what is known of it still -/
noncomputable def dz_kw (Γ : List dz_E) (p : dz_E) (t : Nat) (e : dz_E) (k : dz_K) (c1 c2 : dz_Ct) : dz_K := bif Nat.beq k.2.1 t then (bif dz_apart k.1 p then k else bif dz_pf Γ c1 (dz_sub e k.2.2.2.2.2.1) && dz_pf Γ c2 (dz_sub k.2.2.2.2.2.2 e) then k else dz_kl k) else k
theorem dz_kw_ok {n : Nat} {ρ : Nat → Int} {τ : Nat → Nat} {h : cz_H} {Γ : List dz_E} (hΓ : dz_Gm n ρ Γ) {k : dz_K} (hk : dz_ko n ρ τ h k) {p e : dz_E} {t r i : Nat} {v old : cz_V} (hp : dz_ok n ρ p ((r : Int) + 1)) (ht : τ r = t) (hg : dz_get (h.2.2 r) i = some old) (he : dz_ok n ρ e (dz_n v)) (c1 c2 : dz_Ct) : dz_ko n ρ τ (dz_put h r i v) (dz_kw Γ p t e k c1 c2) := by
  unfold dz_kw
  cases hb : Nat.beq k.2.1 t with
  | false => exact dz_ko_put hk hg (fun w => by rw [ht] at w; rw [w, Nat.beq_refl] at hb; cases hb)
  | true =>
    simp only [cond_true]
    cases ha : dz_apart k.1 p with
    | true => exact dz_ko_put hk hg (fun _ r' lo hi h1 e2 _ _ => absurd (by rw [e2]) (dz_apart_ok h1 hp ha))
    | false =>
      simp only [cond_false]
      cases hc : (dz_pf Γ c1 (dz_sub e k.2.2.2.2.2.1) && dz_pf Γ c2 (dz_sub k.2.2.2.2.2.2 e)) with
      | true =>
        simp only [Bool.and_eq_true] at hc
        refine dz_ko_put hk hg (fun _ r' lo hi _ _ h7 h8 => ?_)
        have a1 := dz_pf_ok hΓ (dz_ok_sub he h7) hc.1
        have a2 := dz_pf_ok hΓ (dz_ok_sub h8 he) hc.2
        omega
      | false =>
        refine dz_ko_kl hk (fun q _ => ?_)
        rw [dz_put_at]
        by_cases e : q = r
        · subst e; rw [if_pos rfl]; exact dz_al_set _ _ _
        · rw [if_neg e]
theorem dz_fil_mem {α : Type} {f : α → Bool} {l : List α} {a : α} (h : a ∈ cz_fil f l) : a ∈ l ∧ f a = true := by
  rw [cz_fil_eq] at h
  exact List.mem_filter.mp h
/-- the cells behind a write -/
noncomputable def dz_ms (S : dz_S) (p : dz_E) (t : Nat) (ix : dz_E) (a : dz_A) : List dz_M := (p, t, ix, a) :: cz_fil (dz_mk p t ix) S.2.2.2.2.1
section DzPut
variable {T : dz_TT} {X : dz_X} {S : dz_S} {ρ : Nat → Int} {τ : Nat → Nat} {h : cz_H} {L : List (Nat × cz_V)} {st w : List cz_V}
theorem dz_G.put (hG : dz_G T X S ρ τ h L st) {p ix : dz_E} {t r i : Nat} {v old : cz_V} {a : dz_A} {ti : dz_I} {D : dz_D} {as : List dz_A} {Ks : List dz_K} (hp : dz_ok S.1 ρ p ((r : Int) + 1)) (ht : τ r = t) (h0 : t ≠ 0) (hi : dz_ok S.1 ρ ix (i : Int)) (hg : dz_get (h.2.2 r) i = some old) (ha : dz_vo S.1 ρ τ a v) (hti : T t = some ti) (hD : dz_ds ti i = some D) (hv : dz_vd τ r D v) (hX : X τ (dz_put h r i v))
    (hs : dz_so S.1 ρ τ as w) (hK : ∀ k ∈ Ks, dz_ko S.1 ρ τ (dz_put h r i v) k) : dz_G T X (S.1, S.2.1, S.2.2.1, as, dz_ms S p t ix a, Ks, S.2.2.2.2.2.2) ρ τ (dz_put h r i v) L w := by
  obtain ⟨g1, g2, g3, g4, g5, g6, g7, g8⟩ := hG
  refine ⟨g1, g2, hs, ?_, hK, g6, g7, dz_B_put g8 (by rw [ht]; exact hti) hg hD hv hX⟩
  intro m hm
  rcases List.mem_cons.mp hm with rfl | hm
  · exact dz_mo_new hp ht h0 hi hg ha
  · obtain ⟨m1, m2⟩ := dz_fil_mem hm
    exact dz_mo_put (g4 m m1) hp ht hi hg m2
end DzPut
/-- a cell more -/
def dz_tn (τ : Nat → Nat) (r t : Nat) : Nat → Nat := fun q => if q = r then t else τ q
theorem dz_here_lt {h : cz_H} {r : Nat} (hh : cz_hereB h r = true) : r < h.1 := by
  simp only [cz_hereB, Bool.and_eq_true] at hh
  exact Nat.blt_eq.mp hh.1
theorem dz_here_push {h : cz_H} {n r : Nat} {c : cz_C} (hh : cz_hereB h r = true) : cz_hereB (cz_push h n c) r = true := by
  simp only [cz_hereB, Bool.and_eq_true] at hh ⊢
  exact ⟨Nat.blt_eq.mpr (by show r < h.1 + 1; have := Nat.blt_eq.mp hh.1; omega), hh.2⟩
theorem dz_vo_tn {n : Nat} {ρ : Nat → Int} {τ τ' : Nat → Nat} (hτ : ∀ r, τ r ≠ 0 → τ' r = τ r) {a : dz_A} {v : cz_V} (h : dz_vo n ρ τ a v) : dz_vo n ρ τ' a v :=
  ⟨h.1, h.2.1, fun r hr => by
    obtain ⟨h1, h2⟩ := h.2.2 r hr
    exact ⟨(hτ r (by rw [h1]; exact h2)).trans h1, h2⟩⟩
theorem dz_so_tn {n : Nat} {ρ : Nat → Int} {τ τ' : Nat → Nat} (hτ : ∀ r, τ r ≠ 0 → τ' r = τ r) : ∀ {l : List dz_A} {s : List cz_V}, dz_so n ρ τ l s → dz_so n ρ τ' l s
  | [], [], _ => trivial
  | a :: r, v :: w, h => ⟨dz_vo_tn hτ h.1, dz_so_tn hτ h.2⟩
theorem dz_lo_tn {n : Nat} {ρ : Nat → Int} {τ τ' : Nat → Nat} (hτ : ∀ r, τ r ≠ 0 → τ' r = τ r) {l : List (Nat × dz_A)} {L : List (Nat × cz_V)} (h : dz_lo n ρ τ l L) : dz_lo n ρ τ' l L := fun q hq => by
  obtain ⟨v, h1, h2⟩ := h q hq
  exact ⟨v, h1, dz_vo_tn hτ h2⟩
theorem dz_vd_tn {τ τ' : Nat → Nat} (hτ : ∀ r, τ r ≠ 0 → τ' r = τ r) {r : Nat} {D : dz_D} {v : cz_V} (h : dz_vd τ r D v) : dz_vd τ' r D v :=
  ⟨h.1, h.2.1, h.2.2.1.imp id (fun g q hq => by
    obtain ⟨h1, h2⟩ := g q hq
    exact ⟨(hτ q (by rw [h1]; exact h2)).trans h1, h2⟩), h.2.2.2⟩
theorem dz_mo_tn {n : Nat} {ρ : Nat → Int} {τ τ' : Nat → Nat} {h h' : cz_H} (hτ : ∀ r, τ r ≠ 0 → τ' r = τ r) (hh : ∀ r, τ r ≠ 0 → h'.2.2 r = h.2.2 r) {m : dz_M} (hm : dz_mo n ρ τ h m) : dz_mo n ρ τ' h' m := by
  obtain ⟨r, i, v, h1, h2, h3, h4, h5⟩ := hm
  have h0 : τ r ≠ 0 := by rw [h2.1]; exact h2.2
  exact ⟨r, i, v, h1, ⟨(hτ r h0).trans h2.1, h2.2⟩, h3, by rw [hh r h0]; exact h4, dz_vo_tn hτ h5⟩
theorem dz_ko_tn {n : Nat} {ρ : Nat → Int} {τ τ' : Nat → Nat} {h h' : cz_H} (hτ : ∀ r, τ r ≠ 0 → τ' r = τ r) (hh : ∀ r, τ r ≠ 0 → h'.2.2 r = h.2.2 r) {k : dz_K} (hk : dz_ko n ρ τ h k) : dz_ko n ρ τ' h' k := by
  obtain ⟨r', q, s, u, lo, hi, h1, h2, h3, h4⟩ := hk
  have h0 : τ r' ≠ 0 := by rw [h2.1]; exact h2.2
  exact ⟨r', q, s, u, lo, hi, h1, ⟨(hτ r' h0).trans h2.1, h2.2⟩, by rw [hh r' h0]; exact h3, h4⟩
/-- all of a new cell's slots as they begin -/
def dz_d0 (D : dz_D) : Bool := (Nat.blt D.1 5 && Nat.blt D.2.2.2.2 3) && (Nat.beq D.1 2 || (dz_ile D.2.1 0 && dz_ile 0 D.2.2.1))
theorem dz_vd0 {τ : Nat → Nat} {r : Nat} {D : dz_D} (h : dz_d0 D = true) : dz_vd τ r D (cz_dflt D.1) := by
  simp only [dz_d0, Bool.and_eq_true, Bool.or_eq_true] at h
  obtain ⟨⟨h1, hy⟩, h2⟩ := h
  have h1 : D.1 < 5 := Nat.blt_eq.mp h1
  have hy : D.2.2.2.2 < 3 := Nat.blt_eq.mp hy
  obtain ⟨c, lo, hi, t, y⟩ := D
  have hy : y < 3 := hy
  have hm : dz_m4 y r 0 := ⟨Or.inr (Or.inl rfl), Or.inl (by omega), Or.inl (by omega)⟩
  have hb : c = 2 ∨ (lo ≤ 0 ∧ (0 : Int) ≤ hi) := by
    rcases h2 with h2 | h2
    · exact Or.inl (Nat.eq_of_beq_eq_true h2)
    · exact Or.inr ⟨dz_ile_ok h2.1, dz_ile_ok h2.2⟩
  have h1 : c < 5 := h1
  match c, h1, hb with
  | 0, _, hb => exact ⟨rfl, hb, Or.inr (fun r hr => (by cases hr)), hm⟩
  | 1, _, hb => exact ⟨rfl, hb, Or.inr (fun r hr => (by cases hr)), hm⟩
  | 2, _, hb => exact ⟨rfl, hb, Or.inr (fun r hr => (by cases hr)), hm⟩
  | 3, _, hb => exact ⟨rfl, hb, Or.inr (fun r hr => (by cases hr)), hm⟩
  | 4, _, hb => exact ⟨rfl, hb, Or.inr (fun r hr => (by cases hr)), hm⟩
section DzNew
variable {T : dz_TT} {X : dz_X} {S : dz_S} {ρ : Nat → Int} {τ : Nat → Nat} {h : cz_H} {L : List (Nat × cz_V)} {st w : List cz_V}
theorem dz_B_new (hB : dz_B T X τ h) {n t : Nat} {c : cz_C} {ti : dz_I} (h0 : t ≠ 0) (hti : T t = some ti) (hsh : dz_sh ti c) (hsl : ∀ i v, dz_get c i = some v → ∃ D, dz_ds ti i = some D ∧ dz_vd τ h.1 D v) (hX : X (dz_tn τ h.1 t) (cz_push h n c)) : dz_B T X (dz_tn τ h.1 t) (cz_push h n c) ∧ (∀ r, τ r ≠ 0 → dz_tn τ h.1 t r = τ r) ∧ (∀ r, τ r ≠ 0 → (cz_push h n c).2.2 r = h.2.2 r) := by
  have hne : ∀ r, τ r ≠ 0 → r ≠ h.1 := fun r hr e => by have := dz_here_lt (hB.1 r hr).1; omega
  have hτ : ∀ r, τ r ≠ 0 → dz_tn τ h.1 t r = τ r := fun r hr => by unfold dz_tn; rw [if_neg (hne r hr)]
  have hh : ∀ r, τ r ≠ 0 → (cz_push h n c).2.2 r = h.2.2 r := fun r hr => by
    show (if r = h.1 then c else h.2.2 r) = _
    rw [if_neg (hne r hr)]
  refine ⟨⟨fun q hq => ?_, hX, by show 192 ≤ h.1 + 1; have := hB.2.2; omega⟩, hτ, hh⟩
  by_cases e : q = h.1
  · subst e
    refine ⟨?_, ti, ?_, ?_, Or.inr hB.2.2, ?_⟩
    · simp only [cz_hereB, Bool.and_eq_true, Bool.or_eq_true]
      exact ⟨Nat.blt_eq.mpr (by show h.1 < h.1 + 1; omega), Or.inl (Nat.ble_eq.mpr hB.2.2)⟩
    · unfold dz_tn; rw [if_pos rfl]; exact hti
    · show dz_sh ti (if h.1 = h.1 then c else h.2.2 h.1)
      rw [if_pos rfl]; exact hsh
    · intro i v hv
      have hv : dz_get (if h.1 = h.1 then c else h.2.2 h.1) i = some v := hv
      rw [if_pos rfl] at hv
      obtain ⟨D, h1, h2⟩ := hsl i v hv
      exact ⟨D, h1, dz_vd_tn hτ h2⟩
  · have hq2 : τ q ≠ 0 := by unfold dz_tn at hq; rw [if_neg e] at hq; exact hq
    obtain ⟨h1, ti', h2, h3, h4, h5⟩ := hB.1 q hq2
    refine ⟨dz_here_push h1, ti', by rw [hτ q hq2]; exact h2, by rw [hh q hq2]; exact h3, h4, fun i v hv => ?_⟩
    rw [hh q hq2] at hv
    obtain ⟨D, h6, h7⟩ := h5 i v hv
    exact ⟨D, h6, dz_vd_tn hτ h7⟩
end DzNew
