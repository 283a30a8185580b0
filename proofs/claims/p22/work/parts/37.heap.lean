/-! L2, part 8: the cells: writing a slot, making a cell. -/
def dz_put (h : cz_H) (r i : Nat) (v : cz_V) : cz_H := cz_setc h r (dz_set (h.2.2 r) i v)
theorem dz_put_at (h : cz_H) (r i : Nat) (v : cz_V) (q : Nat) : (dz_put h r i v).2.2 q = if q = r then dz_set (h.2.2 r) i v else h.2.2 q := rfl
theorem dz_sh_al {ti : dz_I} {c c' : cz_C} (he : dz_al c' = dz_al c) (h : dz_sh ti c) : dz_sh ti c' := by
  obtain q | q | k := c <;> obtain q' | q' | k' := c' <;> simp only [dz_al, reduceCtorEq, Sum.inl.injEq, Sum.inr.injEq, Prod.mk.injEq] at he
  · obtain ⟨h1, h2, h3, h4⟩ := h
    exact ⟨h1, he.1.trans h2, by rw [he.2]; exact h3, by rw [he.2]; exact h4⟩
  · obtain ⟨h1, h2, h3⟩ := h
    exact ⟨h1, he.1.trans h2, he.2.trans h3⟩
  · exact ⟨h.1, he.trans h.2⟩
theorem dz_get_al {c c' : cz_C} (he : dz_al c' = dz_al c) {i : Nat} {v : cz_V} (h : dz_get c i = some v) : ∃ w, dz_get c' i = some w := by
  obtain q | q | k := c <;> obtain q' | q' | k' := c' <;> simp only [dz_al, reduceCtorEq, Sum.inl.injEq, Sum.inr.injEq, Prod.mk.injEq] at he
  · simp only [dz_get] at h ⊢
    by_cases hi : i < q.2.1
    · rw [if_pos (by rw [he.2]; exact hi)]; exact ⟨_, rfl⟩
    · rw [if_neg hi] at h; cases h
  · simp only [dz_get] at h ⊢
    have hi : i < q.2.length := (List.getElem?_eq_some_iff.mp h).1
    exact ⟨_, List.getElem?_eq_some_iff.mpr ⟨by rw [he.2]; exact hi, rfl⟩⟩
  · cases h
theorem dz_B_put {T : dz_TT} {X : dz_X} {τ : Nat → Nat} {h : cz_H} (hB : dz_B T X τ h) {r i : Nat} {v old : cz_V} {ti : dz_I} {D : dz_D} (hti : T (τ r) = some ti) (hg : dz_get (h.2.2 r) i = some old) (hD : dz_ds ti i = some D) (hv : dz_vd τ r D v) (hX : X τ (dz_put h r i v)) : dz_B T X τ (dz_put h r i v) := by
  refine ⟨fun q hq => ?_, hX, hB.2.2⟩
  obtain ⟨h1, ti', h2, h3, h4, h5⟩ := hB.1 q hq
  refine ⟨h1, ti', h2, ?_, h4, ?_⟩
  · rw [dz_put_at]
    by_cases e : q = r
    · subst e; rw [if_pos rfl]; exact dz_sh_al (dz_al_set _ _ _) h3
    · rw [if_neg e]; exact h3
  · intro j w hw
    rw [dz_put_at] at hw
    by_cases e : q = r
    · subst e
      rw [if_pos rfl, dz_get_set hg] at hw
      rw [hti] at h2
      cases h2
      by_cases ej : j = i
      · subst ej
        rw [if_pos rfl] at hw
        cases hw
        exact ⟨D, hD, hv⟩
      · rw [if_neg ej] at hw
        exact h5 j w hw
    · rw [if_neg e] at hw
      exact h5 j w hw
/-- two numbers that differ by a number known not to be 0 -/
noncomputable def dz_apart (a b : dz_E) : Bool := match dz_sub a b with
  | (c, []) => !(dz_z c)
  | _ => false
noncomputable def dz_same (a b : dz_E) : Bool := match dz_sub a b with
  | (c, []) => dz_z c
  | _ => false
theorem dz_apart_ok {n : Nat} {ρ : Nat → Int} {a b : dz_E} {x y : Int} (ha : dz_ok n ρ a x) (hb : dz_ok n ρ b y) (h : dz_apart a b = true) : x ≠ y := by
  have h1 := dz_ok_sub ha hb
  unfold dz_apart at h
  split at h
  · rename_i c hc
    rw [hc] at h1
    have h2 := dz_cst_eq h1
    intro e
    have h3 : c = 0 := by omega
    rw [h3] at h
    cases h
  · cases h
theorem dz_same_ok {n : Nat} {ρ : Nat → Int} {a b : dz_E} {x y : Int} (ha : dz_ok n ρ a x) (hb : dz_ok n ρ b y) (h : dz_same a b = true) : x = y := by
  have h1 := dz_ok_sub ha hb
  unfold dz_same at h
  split at h
  · rename_i c hc
    rw [hc] at h1
    have h2 := dz_cst_eq h1
    have h3 := dz_z_ok h
    omega
  · cases h
/-- what of the known slots outlives a write -/
noncomputable def dz_mk (p : dz_E) (t : Nat) (ix : dz_E) (m : dz_M) : Bool := bif Nat.beq m.2.1 t then dz_apart m.1 p || dz_apart m.2.2.1 ix else true
theorem dz_mo_put {n : Nat} {ρ : Nat → Int} {τ : Nat → Nat} {h : cz_H} {m : dz_M} (hm : dz_mo n ρ τ h m) {p ix : dz_E} {t r i : Nat} {v old : cz_V} (hp : dz_ok n ρ p ((r : Int) + 1)) (ht : τ r = t) (hi : dz_ok n ρ ix (i : Int)) (hg : dz_get (h.2.2 r) i = some old) (hk : dz_mk p t ix m = true) : dz_mo n ρ τ (dz_put h r i v) m := by
  obtain ⟨r', i', v', h1, h2, h3, h4, h5⟩ := hm
  refine ⟨r', i', v', h1, h2, h3, ?_, h5⟩
  rw [dz_put_at]
  by_cases e : r' = r
  · subst e
    rw [if_pos rfl, dz_get_set hg]
    by_cases ei : i' = i
    · exfalso
      subst ei
      unfold dz_mk at hk
      rw [show Nat.beq m.2.1 t = true from Nat.beq_eq.mpr (h2.1.symm.trans ht)] at hk
      simp only [cond_true, Bool.or_eq_true] at hk
      rcases hk with hk | hk
      · exact dz_apart_ok h1 hp hk rfl
      · exact dz_apart_ok h3 hi hk rfl
    · rw [if_neg ei]; exact h4
  · rw [if_neg e]; exact h4
theorem dz_mo_new {n : Nat} {ρ : Nat → Int} {τ : Nat → Nat} {h : cz_H} {p ix : dz_E} {t r i : Nat} {v old : cz_V} {a : dz_A} (hp : dz_ok n ρ p ((r : Int) + 1)) (ht : τ r = t) (h0 : t ≠ 0) (hi : dz_ok n ρ ix (i : Int)) (hg : dz_get (h.2.2 r) i = some old) (ha : dz_vo n ρ τ a v) : dz_mo n ρ τ (dz_put h r i v) (p, t, ix, a) := by
  refine ⟨r, i, v, hp, ⟨ht, h0⟩, hi, ?_, ha⟩
  rw [dz_put_at, if_pos rfl, dz_get_set hg, if_pos rfl]
theorem dz_ko_put {n : Nat} {ρ : Nat → Int} {τ : Nat → Nat} {h : cz_H} {k : dz_K} (hk : dz_ko n ρ τ h k) {r i : Nat} {v old : cz_V} (hg : dz_get (h.2.2 r) i = some old)
    (hv : τ r = k.2.1 → ∀ r' lo hi, dz_ok n ρ k.1 ((r' : Int) + 1) → r' = r → dz_ok n ρ k.2.2.2.2.2.1 lo → dz_ok n ρ k.2.2.2.2.2.2 hi → lo ≤ dz_n v ∧ dz_n v ≤ hi) : dz_ko n ρ τ (dz_put h r i v) k := by
  obtain ⟨r', q, s, u, lo, hi, h1, h2, h3, h4, h5, h6, h7, h8, h9⟩ := hk
  by_cases e : r' = r
  · subst e
    have hb := hv h2.1 r' lo hi h1 rfl h7 h8
    refine ⟨r', (q.1, q.2.1, fun j => if j = i then v else q.2.2 j), s, u, lo, hi, h1, h2, ?_, h4, h5, h6, h7, h8, ?_⟩
    · rw [dz_put_at, if_pos rfl, h3]; rfl
    · intro j a1 a2 a3
      show lo ≤ dz_n (if j = i then v else q.2.2 j) ∧ dz_n (if j = i then v else q.2.2 j) ≤ hi
      by_cases ej : j = i
      · rw [if_pos ej]; exact hb
      · rw [if_neg ej]; exact h9 j a1 a2 a3
  · exact ⟨r', q, s, u, lo, hi, h1, h2, by rw [dz_put_at, if_neg e]; exact h3, h4, h5, h6, h7, h8, h9⟩
/-- the array alone, nothing of what lies in it -/
def dz_kl (k : dz_K) : dz_K := (k.1, k.2.1, k.2.2.1, dz_cst 0, dz_cst 0, k.2.2.2.2.2)
theorem dz_ko_kl {n : Nat} {ρ : Nat → Int} {τ : Nat → Nat} {h h' : cz_H} {k : dz_K} (hk : dz_ko n ρ τ h k) (hal : ∀ r, τ r ≠ 0 → dz_al (h'.2.2 r) = dz_al (h.2.2 r)) : dz_ko n ρ τ h' (dz_kl k) := by
  obtain ⟨r', q, s, u, lo, hi, h1, h2, h3, h4, h5, h6, h7, h8, h9⟩ := hk
  have ha := hal r' (by rw [h2.1]; exact h2.2)
  rw [h3] at ha
  cases hc : h'.2.2 r' with
  | inl q' =>
    rw [hc] at ha
    simp only [dz_al, Sum.inl.injEq, Prod.mk.injEq] at ha
    exact ⟨r', q', 0, 0, lo, hi, h1, h2, hc, by rw [ha.2]; exact h4, dz_ok_cst 0, dz_ok_cst 0, h7, h8, fun i a1 a2 _ => by omega⟩
  | inr q' =>
    rw [hc] at ha
    obtain q' | q' := q' <;> cases ha
/-- of an array written to: what is known of it still -/
noncomputable def dz_kw (Γ : List dz_E) (p : dz_E) (t : Nat) (e : dz_E) (k : dz_K) (c1 c2 : dz_Ct) : dz_K := bif Nat.beq k.2.1 t then (bif dz_apart k.1 p then k else bif dz_pf Γ c1 (dz_sub e k.2.2.2.2.2.1) && dz_pf Γ c2 (dz_sub k.2.2.2.2.2.2 e) then k else dz_kl k) else k
theorem dz_kw_ok {n : Nat} {ρ : Nat → Int} {τ : Nat → Nat} {h : cz_H} {Γ : List dz_E} (hΓ : dz_Gm n ρ Γ) {k : dz_K} (hk : dz_ko n ρ τ h k) {p e : dz_E} {t r i : Nat} {v old : cz_V} (hp : dz_ok n ρ p ((r : Int) + 1)) (ht : τ r = t) (hg : dz_get (h.2.2 r) i = some old) (he : dz_ok n ρ e (dz_n v)) (c1 c2 : dz_Ct) : dz_ko n ρ τ (dz_put h r i v) (dz_kw Γ p t e k c1 c2) := by
  unfold dz_kw
  cases hb : Nat.beq k.2.1 t with
  | false => exact dz_ko_put hk hg (fun w => by rw [ht] at w; rw [w, Nat.beq_refl] at hb; cases hb)
  | true =>
    simp only [cond_true]
    cases ha : dz_apart k.1 p with
    | true => exact dz_ko_put hk hg (fun _ r' lo hi h1 e2 _ _ => absurd (by rw [e2]) (dz_apart_ok h1 hp ha))
    | false =>
      simp only [cond_false]
      cases hc : (dz_pf Γ c1 (dz_sub e k.2.2.2.2.2.1) && dz_pf Γ c2 (dz_sub k.2.2.2.2.2.2 e)) with
      | true =>
        simp only [Bool.and_eq_true] at hc
        refine dz_ko_put hk hg (fun _ r' lo hi _ _ h7 h8 => ?_)
        have a1 := dz_pf_ok hΓ (dz_ok_sub he h7) hc.1
        have a2 := dz_pf_ok hΓ (dz_ok_sub h8 he) hc.2
        omega
      | false =>
        refine dz_ko_kl hk (fun q _ => ?_)
        rw [dz_put_at]
        by_cases e : q = r
        · subst e; rw [if_pos rfl]; exact dz_al_set _ _ _
        · rw [if_neg e]
theorem dz_fil_mem {α : Type} {f : α → Bool} {l : List α} {a : α} (h : a ∈ cz_fil f l) : a ∈ l ∧ f a = true := by
  rw [cz_fil_eq] at h
  exact List.mem_filter.mp h
/-- the cells behind a write -/
noncomputable def dz_ms (S : dz_S) (p : dz_E) (t : Nat) (ix : dz_E) (a : dz_A) : List dz_M := (p, t, ix, a) :: cz_fil (dz_mk p t ix) S.2.2.2.2.1
section DzPut
variable {T : dz_TT} {X : dz_X} {S : dz_S} {ρ : Nat → Int} {τ : Nat → Nat} {h : cz_H} {L : List (Nat × cz_V)} {st w : List cz_V}
theorem dz_G.put (hG : dz_G T X S ρ τ h L st) {p ix : dz_E} {t r i : Nat} {v old : cz_V} {a : dz_A} {ti : dz_I} {D : dz_D} {as : List dz_A} {Ks : List dz_K} (hp : dz_ok S.1 ρ p ((r : Int) + 1)) (ht : τ r = t) (h0 : t ≠ 0) (hi : dz_ok S.1 ρ ix (i : Int)) (hg : dz_get (h.2.2 r) i = some old) (ha : dz_vo S.1 ρ τ a v) (hti : T t = some ti) (hD : dz_ds ti i = some D) (hv : dz_vd τ r D v) (hX : X τ (dz_put h r i v))
    (hs : dz_so S.1 ρ τ as w) (hK : ∀ k ∈ Ks, dz_ko S.1 ρ τ (dz_put h r i v) k) : dz_G T X (S.1, S.2.1, S.2.2.1, as, dz_ms S p t ix a, Ks, S.2.2.2.2.2.2) ρ τ (dz_put h r i v) L w := by
  obtain ⟨g1, g2, g3, g4, g5, g6, g7, g8⟩ := hG
  refine ⟨g1, g2, hs, ?_, hK, g6, g7, dz_B_put g8 (by rw [ht]; exact hti) hg hD hv hX⟩
  intro m hm
  rcases List.mem_cons.mp hm with rfl | hm
  · exact dz_mo_new hp ht h0 hi hg ha
  · obtain ⟨m1, m2⟩ := dz_fil_mem hm
    exact dz_mo_put (g4 m m1) hp ht hi hg m2
end DzPut
/-- a cell more -/
def dz_tn (τ : Nat → Nat) (r t : Nat) : Nat → Nat := fun q => if q = r then t else τ q
theorem dz_here_lt {h : cz_H} {r : Nat} (hh : cz_hereB h r = true) : r < h.1 := by
  simp only [cz_hereB, Bool.and_eq_true] at hh
  exact Nat.blt_eq.mp hh.1
theorem dz_here_push {h : cz_H} {n r : Nat} {c : cz_C} (hh : cz_hereB h r = true) : cz_hereB (cz_push h n c) r = true := by
  simp only [cz_hereB, Bool.and_eq_true] at hh ⊢
  exact ⟨Nat.blt_eq.mpr (by show r < h.1 + 1; have := Nat.blt_eq.mp hh.1; omega), hh.2⟩
theorem dz_vo_tn {n : Nat} {ρ : Nat → Int} {τ τ' : Nat → Nat} (hτ : ∀ r, τ r ≠ 0 → τ' r = τ r) {a : dz_A} {v : cz_V} (h : dz_vo n ρ τ a v) : dz_vo n ρ τ' a v :=
  ⟨h.1, h.2.1, fun r hr => by
    obtain ⟨h1, h2⟩ := h.2.2 r hr
    exact ⟨(hτ r (by rw [h1]; exact h2)).trans h1, h2⟩⟩
theorem dz_so_tn {n : Nat} {ρ : Nat → Int} {τ τ' : Nat → Nat} (hτ : ∀ r, τ r ≠ 0 → τ' r = τ r) : ∀ {l : List dz_A} {s : List cz_V}, dz_so n ρ τ l s → dz_so n ρ τ' l s
  | [], [], _ => trivial
  | a :: r, v :: w, h => ⟨dz_vo_tn hτ h.1, dz_so_tn hτ h.2⟩
theorem dz_lo_tn {n : Nat} {ρ : Nat → Int} {τ τ' : Nat → Nat} (hτ : ∀ r, τ r ≠ 0 → τ' r = τ r) {l : List (Nat × dz_A)} {L : List (Nat × cz_V)} (h : dz_lo n ρ τ l L) : dz_lo n ρ τ' l L := fun q hq => by
  obtain ⟨v, h1, h2⟩ := h q hq
  exact ⟨v, h1, dz_vo_tn hτ h2⟩
theorem dz_vd_tn {τ τ' : Nat → Nat} (hτ : ∀ r, τ r ≠ 0 → τ' r = τ r) {r : Nat} {D : dz_D} {v : cz_V} (h : dz_vd τ r D v) : dz_vd τ' r D v :=
  ⟨h.1, h.2.1, h.2.2.1.imp id (fun g q hq => by
    obtain ⟨h1, h2⟩ := g q hq
    exact ⟨(hτ q (by rw [h1]; exact h2)).trans h1, h2⟩), h.2.2.2⟩
theorem dz_mo_tn {n : Nat} {ρ : Nat → Int} {τ τ' : Nat → Nat} {h h' : cz_H} (hτ : ∀ r, τ r ≠ 0 → τ' r = τ r) (hh : ∀ r, τ r ≠ 0 → h'.2.2 r = h.2.2 r) {m : dz_M} (hm : dz_mo n ρ τ h m) : dz_mo n ρ τ' h' m := by
  obtain ⟨r, i, v, h1, h2, h3, h4, h5⟩ := hm
  have h0 : τ r ≠ 0 := by rw [h2.1]; exact h2.2
  exact ⟨r, i, v, h1, ⟨(hτ r h0).trans h2.1, h2.2⟩, h3, by rw [hh r h0]; exact h4, dz_vo_tn hτ h5⟩
theorem dz_ko_tn {n : Nat} {ρ : Nat → Int} {τ τ' : Nat → Nat} {h h' : cz_H} (hτ : ∀ r, τ r ≠ 0 → τ' r = τ r) (hh : ∀ r, τ r ≠ 0 → h'.2.2 r = h.2.2 r) {k : dz_K} (hk : dz_ko n ρ τ h k) : dz_ko n ρ τ' h' k := by
  obtain ⟨r', q, s, u, lo, hi, h1, h2, h3, h4⟩ := hk
  have h0 : τ r' ≠ 0 := by rw [h2.1]; exact h2.2
  exact ⟨r', q, s, u, lo, hi, h1, ⟨(hτ r' h0).trans h2.1, h2.2⟩, by rw [hh r' h0]; exact h3, h4⟩
/-- all of a new cell's slots as they begin -/
def dz_d0 (D : dz_D) : Bool := (Nat.blt D.1 5 && Nat.blt D.2.2.2.2 3) && (Nat.beq D.1 2 || (dz_ile D.2.1 0 && dz_ile 0 D.2.2.1))
theorem dz_vd0 {τ : Nat → Nat} {r : Nat} {D : dz_D} (h : dz_d0 D = true) : dz_vd τ r D (cz_dflt D.1) := by
  simp only [dz_d0, Bool.and_eq_true, Bool.or_eq_true] at h
  obtain ⟨⟨h1, hy⟩, h2⟩ := h
  have h1 : D.1 < 5 := Nat.blt_eq.mp h1
  have hy : D.2.2.2.2 < 3 := Nat.blt_eq.mp hy
  obtain ⟨c, lo, hi, t, y⟩ := D
  have hy : y < 3 := hy
  have hm : dz_m4 y r 0 := ⟨Or.inr (Or.inl rfl), Or.inl (by omega), Or.inl (by omega)⟩
  have hb : c = 2 ∨ (lo ≤ 0 ∧ (0 : Int) ≤ hi) := by
    rcases h2 with h2 | h2
    · exact Or.inl (Nat.eq_of_beq_eq_true h2)
    · exact Or.inr ⟨dz_ile_ok h2.1, dz_ile_ok h2.2⟩
  have h1 : c < 5 := h1
  match c, h1, hb with
  | 0, _, hb => exact ⟨rfl, hb, Or.inr (fun r hr => (by cases hr)), hm⟩
  | 1, _, hb => exact ⟨rfl, hb, Or.inr (fun r hr => (by cases hr)), hm⟩
  | 2, _, hb => exact ⟨rfl, hb, Or.inr (fun r hr => (by cases hr)), hm⟩
  | 3, _, hb => exact ⟨rfl, hb, Or.inr (fun r hr => (by cases hr)), hm⟩
  | 4, _, hb => exact ⟨rfl, hb, Or.inr (fun r hr => (by cases hr)), hm⟩
section DzNew
variable {T : dz_TT} {X : dz_X} {S : dz_S} {ρ : Nat → Int} {τ : Nat → Nat} {h : cz_H} {L : List (Nat × cz_V)} {st w : List cz_V}
theorem dz_B_new (hB : dz_B T X τ h) {n t : Nat} {c : cz_C} {ti : dz_I} (h0 : t ≠ 0) (hti : T t = some ti) (hsh : dz_sh ti c) (hsl : ∀ i v, dz_get c i = some v → ∃ D, dz_ds ti i = some D ∧ dz_vd τ h.1 D v) (hX : X (dz_tn τ h.1 t) (cz_push h n c)) : dz_B T X (dz_tn τ h.1 t) (cz_push h n c) ∧ (∀ r, τ r ≠ 0 → dz_tn τ h.1 t r = τ r) ∧ (∀ r, τ r ≠ 0 → (cz_push h n c).2.2 r = h.2.2 r) := by
  have hne : ∀ r, τ r ≠ 0 → r ≠ h.1 := fun r hr e => by have := dz_here_lt (hB.1 r hr).1; omega
  have hτ : ∀ r, τ r ≠ 0 → dz_tn τ h.1 t r = τ r := fun r hr => by unfold dz_tn; rw [if_neg (hne r hr)]
  have hh : ∀ r, τ r ≠ 0 → (cz_push h n c).2.2 r = h.2.2 r := fun r hr => by
    show (if r = h.1 then c else h.2.2 r) = _
    rw [if_neg (hne r hr)]
  refine ⟨⟨fun q hq => ?_, hX, by show 192 ≤ h.1 + 1; have := hB.2.2; omega⟩, hτ, hh⟩
  by_cases e : q = h.1
  · subst e
    refine ⟨?_, ti, ?_, ?_, Or.inr hB.2.2, ?_⟩
    · simp only [cz_hereB, Bool.and_eq_true, Bool.or_eq_true]
      exact ⟨Nat.blt_eq.mpr (by show h.1 < h.1 + 1; omega), Or.inl (Nat.ble_eq.mpr hB.2.2)⟩
    · unfold dz_tn; rw [if_pos rfl]; exact hti
    · show dz_sh ti (if h.1 = h.1 then c else h.2.2 h.1)
      rw [if_pos rfl]; exact hsh
    · intro i v hv
      have hv : dz_get (if h.1 = h.1 then c else h.2.2 h.1) i = some v := hv
      rw [if_pos rfl] at hv
      obtain ⟨D, h1, h2⟩ := hsl i v hv
      exact ⟨D, h1, dz_vd_tn hτ h2⟩
  · have hq2 : τ q ≠ 0 := by unfold dz_tn at hq; rw [if_neg e] at hq; exact hq
    obtain ⟨h1, ti', h2, h3, h4, h5⟩ := hB.1 q hq2
    refine ⟨dz_here_push h1, ti', by rw [hτ q hq2]; exact h2, by rw [hh q hq2]; exact h3, h4, fun i v hv => ?_⟩
    rw [hh q hq2] at hv
    obtain ⟨D, h6, h7⟩ := h5 i v hv
    exact ⟨D, h6, dz_vd_tn hτ h7⟩
end DzNew
/-! L2, part 9: reading slots. -/
noncomputable def dz_ct (hn : dz_Hn) (j : Nat) : dz_Ct := match dz_nth hn.2.1 j with
  | some c => c
  | none => (0, [])
noncomputable def dz_num (hn : dz_Hn) (j : Nat) : Nat := match dz_nth hn.2.2 j with
  | some c => c
  | none => 0
def dz_kc (c : Nat) : Nat := match c with
  | 2 => 2
  | 3 => 3
  | _ => 0
theorem dz_fit_k {c : Nat} {v : cz_V} (h : cz_fitc c v = true) : dz_k v = dz_kc c := by
  obtain x | x | x := v
  · match c, h with
    | 0, _ => rfl
    | 1, _ => rfl
    | 2, h => cases h
    | 3, h => cases h
    | 4, _ => rfl
    | n + 5, h => cases h
  · match c, h with
    | 0, h => cases h
    | 1, h => cases h
    | 2, _ => rfl
    | 3, h => cases h
    | 4, h => cases h
    | n + 5, h => cases h
  · match c, h with
    | 0, h => cases h
    | 1, h => cases h
    | 2, h => cases h
    | 3, _ => rfl
    | 4, h => cases h
    | n + 5, h => cases h
/-- a slot's value on the stack: known, or by its tag, or a new unknown -/
noncomputable def dz_rd (S : dz_S) (p : dz_E) (t : Nat) (ix : dz_E) (D : dz_D) (j : Nat) (r : List dz_A) : Option dz_S :=
  bif Nat.beq j 0 then (bif Nat.beq D.2.2.2.2 2 then none else bif Nat.beq D.2.2.2.2 3 then some (dz_stk S ((dz_kc D.1, dz_plus p 1, D.2.2.2.1) :: r)) else bif Nat.beq D.2.2.2.2 4 then some (dz_stk S ((dz_kc D.1, dz_plus p 2, D.2.2.2.1) :: r)) else bif !(Nat.beq D.1 2) && dz_z (Int.sub D.2.2.1 D.2.1) then some (dz_stk S ((dz_kc D.1, dz_cst D.2.1, D.2.2.2.1) :: r))
    else dz_fn (Nat.add S.1 1) (fun m => some (m, (bif Nat.beq D.1 2 then [] else dz_bd S.1 D.2.1 D.2.2.1) ++ S.2.1, S.2.2.1, (dz_kc D.1, dz_var S.1, D.2.2.2.1) :: r, (p, t, ix, (dz_kc D.1, dz_var S.1, D.2.2.2.1)) :: S.2.2.2.2.1, S.2.2.2.2.2)))
  else (match dz_nth S.2.2.2.2.1 (Nat.pred j) with
    | some m => bif dz_same m.1 p && (Nat.beq m.2.1 t && dz_same m.2.2.1 ix) then some (dz_stk S (m.2.2.2 :: r)) else none
    | none => none)
section DzRd
variable {T : dz_TT} {X : dz_X} {S S' : dz_S} {ρ : Nat → Int} {τ : Nat → Nat} {h : cz_H} {L : List (Nat × cz_V)} {st w : List cz_V}
theorem dz_rd_ok (hG : dz_G T X S ρ τ h L st) {p ix : dz_E} {t rr i j : Nat} {D : dz_D} {v : cz_V} {r : List dz_A} (hr : dz_so S.1 ρ τ r w) (hp : dz_ok S.1 ρ p ((rr : Int) + 1)) (ht : τ rr = t) (h0 : t ≠ 0) (hi : dz_ok S.1 ρ ix (i : Int)) (hg : dz_get (h.2.2 rr) i = some v) (hv : dz_vd τ rr D v) (hd : dz_rd S p t ix D j r = some S') :
    ∃ ρ' a as, dz_G T X S' ρ' τ h L (v :: w) ∧ dz_ext S.1 ρ S'.1 ρ' ∧ S'.2.2.2.1 = a :: as ∧ dz_vo S'.1 ρ' τ a v := by
  obtain ⟨v1, v2, v3, v4⟩ := hv
  unfold dz_rd at hd
  cases hj : Nat.beq j 0 with
  | true =>
    rw [hj] at hd
    simp only [cond_true] at hd
    cases hm2 : Nat.beq D.2.2.2.2 2 with
    | true => rw [hm2] at hd; cases hd
    | false =>
    rw [hm2] at hd
    simp only [cond_false] at hd
    have v3 : dz_tg τ D.2.2.2.1 v := by
      rcases v3 with e | e
      · rw [e] at hm2; cases hm2
      · exact e
    cases hm3 : Nat.beq D.2.2.2.2 3 with
    | true =>
      rw [hm3] at hd
      cases hd
      have e3 := Nat.eq_of_beq_eq_true hm3
      have hn3 : dz_n v = (rr : Int) + 2 := by
        rcases v4.2.1 with e | e
        · exact absurd e3 e
        · exact e
      have hvo : dz_vo S.1 ρ τ (dz_kc D.1, dz_plus p 1, D.2.2.2.1) v := ⟨dz_fit_k v1, by rw [hn3, show (rr : Int) + 2 = (rr : Int) + 1 + 1 by omega]; exact dz_ok_plus 1 hp, v3⟩
      exact ⟨ρ, _, _, hG.stack ⟨hvo, hr⟩, dz_ext.refl _ _, rfl, hvo⟩
    | false =>
    rw [hm3] at hd
    simp only [cond_false] at hd
    cases hm4 : Nat.beq D.2.2.2.2 4 with
    | true =>
      rw [hm4] at hd
      cases hd
      have e4 := Nat.eq_of_beq_eq_true hm4
      have hn4 : dz_n v = (rr : Int) + 3 := by
        rcases v4.2.2 with e | e
        · exact absurd e4 e
        · exact e
      have hvo : dz_vo S.1 ρ τ (dz_kc D.1, dz_plus p 2, D.2.2.2.1) v := ⟨dz_fit_k v1, by rw [hn4, show (rr : Int) + 3 = (rr : Int) + 1 + 2 by omega]; exact dz_ok_plus 2 hp, v3⟩
      exact ⟨ρ, _, _, hG.stack ⟨hvo, hr⟩, dz_ext.refl _ _, rfl, hvo⟩
    | false =>
    rw [hm4] at hd
    simp only [cond_false] at hd
    cases hc : (!(Nat.beq D.1 2) && dz_z (Int.sub D.2.2.1 D.2.1)) with
    | true =>
      rw [hc] at hd
      cases hd
      simp only [Bool.and_eq_true, Bool.not_eq_true'] at hc
      have hz := dz_z_ok hc.2
      have hz : D.2.2.1 - D.2.1 = 0 := hz
      have hb : D.2.1 ≤ dz_n v ∧ dz_n v ≤ D.2.2.1 := by
        rcases v2 with q | q
        · rw [q] at hc; exact absurd hc.1 (by decide)
        · exact q
      have hvo : dz_vo S.1 ρ τ (dz_kc D.1, dz_cst D.2.1, D.2.2.2.1) v := ⟨dz_fit_k v1, by rw [show dz_n v = D.2.1 by omega]; exact dz_ok_cst _, v3⟩
      exact ⟨ρ, _, _, hG.stack ⟨hvo, hr⟩, dz_ext.refl _ _, rfl, hvo⟩
    | false =>
      rw [hc] at hd
      simp only [cond_false, dz_fn_eq] at hd
      cases hd
      have hx := dz_ext.up S.1 ρ (dz_n v)
      have h1 := hG.ext hx
      have hvo : dz_vo (S.1 + 1) (dz_up ρ S.1 (dz_n v)) τ (dz_kc D.1, dz_var S.1, D.2.2.2.1) v := ⟨dz_fit_k v1, dz_ok_new _, v3⟩
      refine ⟨dz_up ρ S.1 (dz_n v), _, _, ⟨h1.1.app ?_, h1.2.1, ⟨hvo, hr.ext hx⟩, ?_, h1.2.2.2.2⟩, hx, rfl, hvo⟩
      · cases hq : Nat.beq D.1 2 with
        | true => exact dz_none_all
        | false =>
          rcases v2 with q | q
          · rw [q] at hq; cases hq
          · exact dz_bd_ok q.1 q.2
      · intro m hm
        rcases List.mem_cons.mp hm with rfl | hm
        · exact ⟨rr, i, v, hp.ext hx, ⟨ht, h0⟩, hi.ext hx, hg, hvo⟩
        · exact h1.2.2.2.1 m hm
  | false =>
    rw [hj] at hd
    simp only [cond_false] at hd
    split at hd
    · rename_i m hm
      cases hc : (dz_same m.1 p && (Nat.beq m.2.1 t && dz_same m.2.2.1 ix)) with
      | false => rw [hc] at hd; cases hd
      | true =>
        rw [hc] at hd
        cases hd
        simp only [Bool.and_eq_true] at hc
        obtain ⟨r', i', v', m1, m2, m3, m4, m5⟩ := hG.2.2.2.1 m (dz_nth_mem hm)
        have e1 := dz_same_ok m1 hp hc.1
        have e2 := dz_same_ok m3 hi hc.2.2
        have e1 : r' = rr := by omega
        have e2 : i' = i := by omega
        subst e1 e2
        rw [hg] at m4
        cases m4
        exact ⟨ρ, _, _, hG.stack ⟨m5, hr⟩, dz_ext.refl _ _, rfl, m5⟩
    · cases hd
/-- an object at hand -/
theorem dz_obj_at (hB : dz_B T X τ h) {r : Nat} {ti : dz_I} (h0 : τ r ≠ 0) (hti : T (τ r) = some ti) (hk : Nat.beq ti.1 0 = true) : ∃ vs, cz_obj h r = some (ti.2.1, vs) ∧ h.2.2 r = .inr (.inl (ti.2.1, vs)) ∧ vs.length = ti.2.2.2.2.length ∧ (ti.2.2.1 = 0 ∨ 192 ≤ r) ∧ ∀ i v, dz_get (h.2.2 r) i = some v → ∃ D, dz_ds ti i = some D ∧ dz_vd τ r D v := by
  obtain ⟨h1, ti', h2, h3, h4, h5⟩ := hB.1 r h0
  rw [hti] at h2
  cases h2
  have hk := Nat.eq_of_beq_eq_true hk
  cases hc : h.2.2 r with
  | inl q => rw [hc] at h3; have := h3.1; omega
  | inr q =>
    obtain q | q := q
    · rw [hc] at h3
      obtain ⟨_, e1, e2⟩ := h3
      refine ⟨q.2, ?_, by rw [← e1], e2, h4, ?_⟩
      · unfold cz_obj
        rw [h1, hc]
        show some q = _
        rw [← e1]
      · rw [hc] at h5; exact h5
    · rw [hc] at h3; have := h3.1; omega
/-- an array at hand -/
theorem dz_arr_at (hB : dz_B T X τ h) {r : Nat} {ti : dz_I} (h0 : τ r ≠ 0) (hti : T (τ r) = some ti) (hk : Nat.beq ti.1 1 = true) (hl : Nat.blt ti.2.1 11 = true) : ∃ n f, cz_arr h r = some (ti.2.1, n, f) ∧ h.2.2 r = .inl (ti.2.1, n, f) ∧ (ti.2.2.2.1.1 ≤ (n : Int) ∧ (n : Int) ≤ ti.2.2.2.1.2) ∧ (ti.2.2.1 = 0 ∨ 192 ≤ r) ∧ ∀ i, i < n → ∃ D, dz_nth ti.2.2.2.2 0 = some D ∧ dz_vd τ r D (f i) := by
  obtain ⟨h1, ti', h2, h3, h4, h5⟩ := hB.1 r h0
  rw [hti] at h2
  cases h2
  have hk := Nat.eq_of_beq_eq_true hk
  cases hc : h.2.2 r with
  | inl q =>
    rw [hc] at h3 h5
    obtain ⟨_, e1, e2, e3⟩ := h3
    refine ⟨q.2.1, q.2.2, ?_, by rw [← e1], ⟨e2, e3⟩, h4, ?_⟩
    · unfold cz_arr
      rw [h1, hc]
      show (bif Nat.blt q.1 11 then some q else none) = _
      rw [e1, hl, ← e1]
      rfl
    · intro i hi
      obtain ⟨D, d1, d2⟩ := h5 i (q.2.2 i) (by show (if i < q.2.1 then some (q.2.2 i) else none) = _; rw [if_pos hi])
      refine ⟨D, ?_, d2⟩
      unfold dz_ds at d1
      rw [hk] at d1
      exact d1
  | inr q =>
    obtain q | q := q
    · rw [hc] at h3; have := h3.1; omega
    · rw [hc] at h3; have := h3.1; omega
theorem dz_nth_eq {α : Type} : ∀ (l : List α) (i : Nat), dz_nth l i = l[i]?
  | [], i => rfl
  | a :: r, 0 => rfl
  | a :: r, i + 1 => by
    show dz_nth r i = (a :: r)[i + 1]?
    rw [dz_nth_eq r i]
    rfl
/-- getfield -/
noncomputable def dz_gf (T : dz_TT) (M : cz_M) (x : Nat) (hn : dz_Hn) (S : dz_S) : Option dz_S := match S.2.2.2.1 with
  | a :: r => bif Nat.beq a.1 3 && dz_pf S.2.1 (dz_ct hn 0) (dz_plus a.2.1 (-1)) then (match cz_lk M x with
    | some q => (match T a.2.2 with
      | some ti => bif Nat.ble q.1 1 && (Nat.beq ti.1 0 && Nat.beq ti.2.1 q.2.1) then (match dz_ds ti q.2.2.1 with
        | some D => dz_rd S a.2.1 a.2.2 (dz_cst (.ofNat q.2.2.1)) D (dz_num hn 0) r
        | none => none) else none
      | none => none)
    | none => none) else none
  | _ => none
theorem dz_gf_ok {P : cz_P} {M : cz_M} {d pc x : Nat} {hn : dz_Hn} (hG : dz_G T X S ρ τ h L st) (hp : dz_gf T M x hn S = some S') : ∃ st' ρ', cz_hp P M d pc st h (.getfield x) = some (pc + 3, st', h) ∧ dz_G T X S' ρ' τ h L st' ∧ dz_ext S.1 ρ S'.1 ρ' := by
  have hs := hG.2.2.1
  unfold dz_gf at hp
  split at hp
  · rename_i a r he
    rw [he] at hs
    obtain ⟨v, w, rfl, ha, h2⟩ := hs.inv
    cases hc : (Nat.beq a.1 3 && dz_pf S.2.1 (dz_ct hn 0) (dz_plus a.2.1 (-1))) with
    | false => rw [hc] at hp; cases hp
    | true =>
      rw [hc] at hp
      simp only [Bool.and_eq_true] at hc
      simp only [cond_true] at hp
      obtain ⟨rr, rfl, k1, k2, k3⟩ := ha.at hc.1 (fun x hx => by have := dz_pf_ok hG.1 (dz_ok_plus (-1) hx) hc.2; omega)
      split at hp
      · rename_i q hq
        split at hp
        · rename_i ti hti
          cases hb : (Nat.ble q.1 1 && (Nat.beq ti.1 0 && Nat.beq ti.2.1 q.2.1)) with
          | false => rw [hb] at hp; cases hp
          | true =>
            rw [hb] at hp
            simp only [Bool.and_eq_true] at hb
            simp only [cond_true] at hp
            split at hp
            · rename_i D hD
              obtain ⟨vs, o1, o2, o3, o4, o5⟩ := dz_obj_at hG.2.2.2.2.2.2.2 (r := rr) (by rw [k2]; exact k3) (by rw [k2]; exact hti) hb.2.1
              have hlen : q.2.2.1 < vs.length := by
                have e0 := Nat.eq_of_beq_eq_true hb.2.1
                unfold dz_ds at hD
                rw [e0] at hD
                have hD : dz_nth ti.2.2.2.2 q.2.2.1 = some D := hD
                rw [dz_nth_eq] at hD
                rw [o3]
                exact (List.getElem?_eq_some_iff.mp hD).1
              have hget : dz_get (h.2.2 rr) q.2.2.1 = some vs[q.2.2.1] := by
                rw [o2]
                exact List.getElem?_eq_getElem hlen
              obtain ⟨D', e1, e2⟩ := o5 _ _ hget
              rw [hD] at e1
              cases e1
              obtain ⟨ρ', _, _, g1, g2, _⟩ := dz_rd_ok hG h2 k1 k2 k3 (dz_ok_cst (.ofNat q.2.2.1)) hget e2 hp
              refine ⟨vs[q.2.2.1] :: w, ρ', ?_, g1, g2⟩
              show cz_hget M x pc (.inr (.inr (some rr)) :: w) h = _
              unfold cz_hget
              simp only [hq, hb.1, cond_true, o1, hb.2.2]
              rw [List.getElem?_eq_getElem hlen]
            · cases hp
        · cases hp
      · cases hp
  · cases hp
/-- the length of an array: by its tag, or known -/
noncomputable def dz_len (S : dz_S) (p : dz_E) (t : Nat) (ti : dz_I) (j : Nat) : Option dz_E := bif Nat.beq j 0 then some (dz_cst ti.2.2.2.1.1) else (match dz_nth S.2.2.2.2.2.1 (Nat.pred j) with
  | some k => bif dz_same k.1 p && Nat.beq k.2.1 t then some k.2.2.1 else none
  | none => none)
/-- at most the length -/
theorem dz_len_ok (hG : dz_G T X S ρ τ h L st) {p e : dz_E} {t rr j n ty : Nat} {f : Nat → cz_V} {ti : dz_I} (hp : dz_ok S.1 ρ p ((rr : Int) + 1)) (hc : h.2.2 rr = .inl (ty, n, f)) (hlo : ti.2.2.2.1.1 ≤ (n : Int)) (hl : dz_len S p t ti j = some e) : ∃ x, dz_ok S.1 ρ e x ∧ x ≤ n := by
  unfold dz_len at hl
  cases hj : Nat.beq j 0 with
  | true => rw [hj] at hl; cases hl; exact ⟨_, dz_ok_cst _, hlo⟩
  | false =>
    rw [hj] at hl
    simp only [cond_false] at hl
    split at hl
    · rename_i k hk
      cases hb : (dz_same k.1 p && Nat.beq k.2.1 t) with
      | false => rw [hb] at hl; cases hl
      | true =>
        rw [hb] at hl; cases hl
        simp only [Bool.and_eq_true] at hb
        obtain ⟨r', q, s, u, lo, hi, h1, h2, h3, h4, _⟩ := hG.2.2.2.2.1 k (dz_nth_mem hk)
        have e1 := dz_same_ok h1 hp hb.1
        have e1 : r' = rr := by omega
        subst e1
        rw [hc] at h3
        cases h3
        exact ⟨_, h4, Int.le_refl _⟩
    · cases hl
/-- bounds known of a stretch -/
noncomputable def dz_kb (S : dz_S) (p : dz_E) (t : Nat) (b e : dz_E) (hn : dz_Hn) (j : Nat) : Option (List dz_E) := bif Nat.beq j 0 then some [] else (match dz_nth S.2.2.2.2.2.1 (Nat.pred j) with
  | some k => bif (dz_same k.1 p && Nat.beq k.2.1 t) && (dz_pf S.2.1 (dz_ct hn 3) (dz_sub b k.2.2.2.1) && dz_pf S.2.1 (dz_ct hn 4) (dz_plus (dz_sub k.2.2.2.2.1 b) (-1))) then some [dz_sub e k.2.2.2.2.2.1, dz_sub k.2.2.2.2.2.2 e] else none
  | none => none)
noncomputable def dz_top (S : dz_S) : dz_E := match S.2.2.2.1 with
  | a :: _ => a.2.1
  | [] => dz_cst 0
/-- an element -/
noncomputable def dz_ld (T : dz_TT) (ok : Nat → Bool) (hn : dz_Hn) (S : dz_S) : Option dz_S := match S.2.2.2.1 with
  | b :: a :: r => bif (Nat.beq a.1 3 && Nat.beq b.1 0) && (dz_pf S.2.1 (dz_ct hn 0) (dz_plus a.2.1 (-1)) && dz_pf S.2.1 (dz_ct hn 1) b.2.1) then (match T a.2.2 with
    | some ti => bif (Nat.beq ti.1 1 && Nat.blt ti.2.1 11) && ok ti.2.1 then (match dz_len S a.2.1 a.2.2 ti (dz_num hn 1), dz_nth ti.2.2.2.2 0 with
      | some n, some D => bif dz_pf S.2.1 (dz_ct hn 2) (dz_plus (dz_sub n b.2.1) (-1)) then (match dz_rd S a.2.1 a.2.2 b.2.1 D (dz_num hn 0) r with
        | some S1 => (match dz_kb S a.2.1 a.2.2 b.2.1 (dz_top S1) hn (dz_num hn 2) with
          | some es => some (dz_gam S1 es)
          | none => none)
        | none => none) else none
      | _, _ => none) else none
    | none => none) else none
  | _ => none
theorem dz_kb_ok (hG : dz_G T X S ρ τ h L st) {p b e : dz_E} {t rr i n ty j n' : Nat} {ρ' : Nat → Int} {f : Nat → cz_V} {hn : dz_Hn} {es : List dz_E} (hx : dz_ext S.1 ρ n' ρ') (hp : dz_ok S.1 ρ p ((rr : Int) + 1)) (hb : dz_ok S.1 ρ b (i : Int)) (hi : i < n) (hc : h.2.2 rr = .inl (ty, n, f)) (he : dz_ok n' ρ' e (dz_n (f i))) (hk : dz_kb S p t b e hn j = some es) : dz_all n' ρ' es := by
  unfold dz_kb at hk
  cases hj : Nat.beq j 0 with
  | true => rw [hj] at hk; cases hk; exact dz_none_all
  | false =>
    rw [hj] at hk
    simp only [cond_false] at hk
    split at hk
    · rename_i k hkk
      cases hq : ((dz_same k.1 p && Nat.beq k.2.1 t) && (dz_pf S.2.1 (dz_ct hn 3) (dz_sub b k.2.2.2.1) && dz_pf S.2.1 (dz_ct hn 4) (dz_plus (dz_sub k.2.2.2.2.1 b) (-1)))) with
      | false => rw [hq] at hk; cases hk
      | true =>
        rw [hq] at hk; cases hk
        simp only [Bool.and_eq_true] at hq
        obtain ⟨r', q, s, u, lo, hi', h1, h2, h3, h4, h5, h6, h7, h8, h9⟩ := hG.2.2.2.2.1 k (dz_nth_mem hkk)
        have e1 := dz_same_ok h1 hp hq.1.1
        have e1 : r' = rr := by omega
        subst e1
        rw [hc] at h3
        cases h3
        have a1 := dz_pf_ok hG.1 (dz_ok_sub hb h5) hq.2.1
        have a2 := dz_pf_ok hG.1 (dz_ok_plus (-1) (dz_ok_sub h6 hb)) hq.2.2
        have a3 : lo ≤ dz_n (f i) ∧ dz_n (f i) ≤ hi' := h9 i (by omega) (by omega) hi
        exact dz_two (dz_ok_sub he (h7.ext hx)) (by have := a3.1; show 0 ≤ dz_n (f i) - lo; omega) (dz_ok_sub (h8.ext hx) he) (by have := a3.2; show 0 ≤ hi' - dz_n (f i); omega)
    · cases hk
theorem dz_ix_ok {x : Int32} {i n : Nat} (h1 : x.toInt = (i : Int)) (h2 : i < n) : cz_ix x n = true ∧ x.toInt.toNat = i := by
  have e : x.toInt.toNat = i := by omega
  refine ⟨?_, e⟩
  unfold cz_ix
  rw [e, decide_eq_true (by omega), Nat.blt_eq.mpr h2]
  rfl
theorem dz_ld_ok {ok : Nat → Bool} {pc : Nat} {hn : dz_Hn} (hG : dz_G T X S ρ τ h L st) (hp : dz_ld T ok hn S = some S') : ∃ st' ρ', cz_hal ok pc st h = some (pc + 1, st', h) ∧ dz_G T X S' ρ' τ h L st' ∧ dz_ext S.1 ρ S'.1 ρ' := by
  have hs := hG.2.2.1
  unfold dz_ld at hp
  split at hp
  · rename_i b a r he
    rw [he] at hs
    obtain ⟨v2, w1, rfl, hb, h20⟩ := hs.inv
    obtain ⟨v1, w, rfl, ha, h2⟩ := h20.inv
    cases hc : ((Nat.beq a.1 3 && Nat.beq b.1 0) && (dz_pf S.2.1 (dz_ct hn 0) (dz_plus a.2.1 (-1)) && dz_pf S.2.1 (dz_ct hn 1) b.2.1)) with
    | false => rw [hc] at hp; cases hp
    | true =>
      rw [hc] at hp
      simp only [Bool.and_eq_true] at hc
      simp only [cond_true] at hp
      obtain ⟨rr, rfl, k1, k2, k3⟩ := ha.at hc.1.1 (fun x hx => by have := dz_pf_ok hG.1 (dz_ok_plus (-1) hx) hc.2.1; omega)
      obtain ⟨x, rfl, hx⟩ := hb.int hc.1.2
      have hx0 := dz_pf_ok hG.1 hx hc.2.2
      split at hp
      · rename_i ti hti
        cases hq : ((Nat.beq ti.1 1 && Nat.blt ti.2.1 11) && ok ti.2.1) with
        | false => rw [hq] at hp; cases hp
        | true =>
          rw [hq] at hp
          simp only [Bool.and_eq_true] at hq
          simp only [cond_true] at hp
          obtain ⟨n, f, o1, o2, o3, o4, o5⟩ := dz_arr_at hG.2.2.2.2.2.2.2 (r := rr) (by rw [k2]; exact k3) (by rw [k2]; exact hti) hq.1.1 hq.1.2
          split at hp
          · rename_i ne D hne hD
            cases hl : dz_pf S.2.1 (dz_ct hn 2) (dz_plus (dz_sub ne b.2.1) (-1)) with
            | false => rw [hl] at hp; cases hp
            | true =>
              rw [hl] at hp
              simp only [cond_true] at hp
              obtain ⟨nx, n1, n2⟩ := dz_len_ok hG k1 o2 o3.1 hne
              have hlt := dz_pf_ok hG.1 (dz_ok_plus (-1) (dz_ok_sub n1 hx)) hl
              have hxi : x.toInt = ((x.toInt.toNat : Nat) : Int) := by omega
              have hi : x.toInt.toNat < n := by omega
              have hx2 : dz_ok S.1 ρ b.2.1 ((x.toInt.toNat : Nat) : Int) := by rw [← hxi]; exact hx
              have hget : dz_get (h.2.2 rr) x.toInt.toNat = some (f x.toInt.toNat) := by
                rw [o2]
                show (if x.toInt.toNat < n then some (f x.toInt.toNat) else none) = _
                rw [if_pos hi]
              obtain ⟨D', d1, d2⟩ := o5 _ hi
              rw [hD] at d1
              cases d1
              split at hp
              · rename_i S1 hS1
                obtain ⟨ρ', av, as, g1, g2, g3, g4⟩ := dz_rd_ok hG h2 k1 k2 k3 hx2 hget d2 hS1
                split at hp
                · rename_i es hes
                  cases hp
                  have htop : dz_top S1 = av.2.1 := by unfold dz_top; rw [g3]
                  have hes2 := dz_kb_ok hG g2 k1 hx2 hi o2 (by rw [htop]; exact g4.2.1) hes
                  refine ⟨_, ρ', ?_, g1.gam hes2, g2⟩
                  show cz_aload pc w h x rr ok = _
                  unfold cz_aload
                  rw [o1]
                  show (bif cz_ix x n && ok ti.2.1 then some (pc + 1, f x.toInt.toNat :: w, h) else none) = _
                  rw [(dz_ix_ok hxi hi).1, hq.2]
                  rfl
                · cases hp
              · cases hp
          · cases hp
      · cases hp
  · cases hp
/-- arraylength: 0 by the tag, 1 a new unknown, more: known -/
noncomputable def dz_al_i (T : dz_TT) (hn : dz_Hn) (S : dz_S) : Option dz_S := match S.2.2.2.1 with
  | a :: r => bif Nat.beq a.1 3 && dz_pf S.2.1 (dz_ct hn 0) (dz_plus a.2.1 (-1)) then (match T a.2.2 with
    | some ti => bif (Nat.beq ti.1 1 && Nat.blt ti.2.1 11) && dz_ile ti.2.2.2.1.2 2147483647 then
        (bif Nat.beq (dz_num hn 0) 0 then (bif dz_z (Int.sub ti.2.2.2.1.2 ti.2.2.2.1.1) then some (dz_stk S ((0, dz_cst ti.2.2.2.1.1, 0) :: r)) else none)
        else bif Nat.beq (dz_num hn 0) 1 then dz_fn (Nat.add S.1 1) (fun m => some (m, dz_bd S.1 ti.2.2.2.1.1 ti.2.2.2.1.2 ++ S.2.1, S.2.2.1, (0, dz_var S.1, 0) :: r, S.2.2.2.2.1, (a.2.1, a.2.2, dz_var S.1, dz_cst 0, dz_cst 0, dz_cst 1, dz_cst 1000000) :: S.2.2.2.2.2.1, S.2.2.2.2.2.2))
        else (match dz_nth S.2.2.2.2.2.1 (Nat.pred (Nat.pred (dz_num hn 0))) with
          | some k => bif dz_same k.1 a.2.1 && Nat.beq k.2.1 a.2.2 then some (dz_stk S ((0, k.2.2.1, 0) :: r)) else none
          | none => none)) else none
    | none => none) else none
  | _ => none
theorem dz_al_i_ok {pc : Nat} {hn : dz_Hn} (hG : dz_G T X S ρ τ h L st) (hp : dz_al_i T hn S = some S') : ∃ st' ρ', cz_hlen pc st h = some (pc + 1, st', h) ∧ dz_G T X S' ρ' τ h L st' ∧ dz_ext S.1 ρ S'.1 ρ' := by
  have hs := hG.2.2.1
  unfold dz_al_i at hp
  split at hp
  · rename_i a r he
    rw [he] at hs
    obtain ⟨v1, w, rfl, ha, h2⟩ := hs.inv
    cases hc : (Nat.beq a.1 3 && dz_pf S.2.1 (dz_ct hn 0) (dz_plus a.2.1 (-1))) with
    | false => rw [hc] at hp; cases hp
    | true =>
      rw [hc] at hp
      simp only [Bool.and_eq_true] at hc
      simp only [cond_true] at hp
      obtain ⟨rr, rfl, k1, k2, k3⟩ := ha.at hc.1 (fun x hx => by have := dz_pf_ok hG.1 (dz_ok_plus (-1) hx) hc.2; omega)
      split at hp
      · rename_i ti hti
        cases hq : ((Nat.beq ti.1 1 && Nat.blt ti.2.1 11) && dz_ile ti.2.2.2.1.2 2147483647) with
        | false => rw [hq] at hp; cases hp
        | true =>
          rw [hq] at hp
          simp only [Bool.and_eq_true] at hq
          simp only [cond_true] at hp
          have hmx := dz_ile_ok hq.2
          obtain ⟨n, f, o1, o2, o3, o4, o5⟩ := dz_arr_at hG.2.2.2.2.2.2.2 (r := rr) (by rw [k2]; exact k3) (by rw [k2]; exact hti) hq.1.1 hq.1.2
          have hn1 : (Int32.ofNat n).toInt = (n : Int) := Int32.toInt_ofNat_of_lt (by show n < 2147483648; omega)
          have hrun : cz_hlen pc (.inr (.inr (some rr)) :: w) h = some (pc + 1, .inl (Int32.ofNat n) :: w, h) := by
            show (match cz_arr h rr with
              | some c => some (pc + 1, Sum.inl (Int32.ofNat c.2.1) :: w, h)
              | none => none) = _
            rw [o1]
          cases h0 : Nat.beq (dz_num hn 0) 0 with
          | true =>
            rw [h0] at hp
            simp only [cond_true] at hp
            cases hz : dz_z (Int.sub ti.2.2.2.1.2 ti.2.2.2.1.1) with
            | false => rw [hz] at hp; cases hp
            | true =>
              rw [hz] at hp; cases hp
              have hz := dz_z_ok hz
              have hz : ti.2.2.2.1.2 - ti.2.2.2.1.1 = 0 := hz
              refine ⟨_, ρ, hrun, hG.stack ⟨⟨rfl, ?_, fun r hr => by cases hr⟩, h2⟩, dz_ext.refl _ _⟩
              show dz_ok S.1 ρ (dz_cst _) (Int32.ofNat n).toInt
              rw [hn1, show (n : Int) = ti.2.2.2.1.1 by omega]
              exact dz_ok_cst _
          | false =>
            rw [h0] at hp
            simp only [cond_false] at hp
            cases h1 : Nat.beq (dz_num hn 0) 1 with
            | true =>
              rw [h1] at hp
              simp only [cond_true, dz_fn_eq] at hp
              cases hp
              have hx := dz_ext.up S.1 ρ (n : Int)
              have g := hG.ext hx
              refine ⟨_, dz_up ρ S.1 (n : Int), hrun, ⟨g.1.app (dz_bd_ok o3.1 o3.2), g.2.1, ⟨⟨rfl, ?_, fun r hr => by cases hr⟩, h2.ext hx⟩, g.2.2.2.1, ?_, g.2.2.2.2.2⟩, hx⟩
              · show dz_ok _ _ _ (Int32.ofNat n).toInt
                rw [hn1]
                exact dz_ok_new _
              · intro k hk
                rcases List.mem_cons.mp hk with rfl | hk
                · exact ⟨rr, (ti.2.1, n, f), 0, 0, 1, 1000000, k1.ext hx, ⟨k2, k3⟩, o2, dz_ok_new _, dz_ok_cst 0, dz_ok_cst 0, dz_ok_cst 1, dz_ok_cst 1000000, fun i a1 a2 _ => by omega⟩
                · exact g.2.2.2.2.1 k hk
            | false =>
              rw [h1] at hp
              simp only [cond_false] at hp
              split at hp
              · rename_i k hk
                cases hb : (dz_same k.1 a.2.1 && Nat.beq k.2.1 a.2.2) with
                | false => rw [hb] at hp; cases hp
                | true =>
                  rw [hb] at hp; cases hp
                  simp only [Bool.and_eq_true] at hb
                  obtain ⟨r', q, s, u, lo, hi, m1, m2, m3, m4, _⟩ := hG.2.2.2.2.1 k (dz_nth_mem hk)
                  have e1 := dz_same_ok m1 k1 hb.1
                  have e1 : r' = rr := by omega
                  subst e1
                  rw [o2] at m3
                  cases m3
                  refine ⟨_, ρ, hrun, hG.stack ⟨⟨rfl, ?_, fun r hr => by cases hr⟩, h2⟩, dz_ext.refl _ _⟩
                  show dz_ok S.1 ρ k.2.2.1 (Int32.ofNat n).toInt
                  rw [hn1]
                  exact m4
              · cases hp
      · cases hp
  · cases hp
end DzRd
/-! L2, part 10: writing slots. What the invariant beside the tags needs is asked by sd. -/
abbrev dz_Sd : Type := dz_S → Nat → dz_E → dz_E → dz_A → dz_Hn → Bool
def dz_XW (T : dz_TT) (X : dz_X) (sd : dz_Sd) : Prop := ∀ (S : dz_S) (ρ : Nat → Int) (τ : Nat → Nat) (h : cz_H) (L : List (Nat × cz_V)) (st : List cz_V) (r i t : Nat) (v old : cz_V) (a : dz_A) (p ix : dz_E) (hn : dz_Hn), dz_G T X S ρ τ h L st → dz_ok S.1 ρ p ((r : Int) + 1) → τ r = t → t ≠ 0 → dz_ok S.1 ρ ix (i : Int) → dz_get (h.2.2 r) i = some old → dz_vo S.1 ρ τ a v → sd S t p ix a hn = true → X τ (dz_put h r i v)
noncomputable def dz_is0 (e : dz_E) : Bool := match e with
  | (c, []) => dz_z c
  | _ => false
theorem dz_is0_ok {n : Nat} {ρ : Nat → Int} {e : dz_E} {x : Int} (he : dz_ok n ρ e x) (h : dz_is0 e = true) : x = 0 := by
  obtain ⟨c, l⟩ := e
  cases l with
  | nil => have := dz_cst_eq he; have := dz_z_ok h; omega
  | cons a b => cases h
/-- any int at all -/
noncomputable def dz_fu (D : dz_D) : Bool := Nat.beq D.1 0 && (dz_ile D.2.1 (-2147483648) && dz_ile 2147483647 D.2.2.1)
/-- may the value lie in the slot -/
noncomputable def dz_wr (Γ : List dz_E) (D : dz_D) (p : dz_E) (a : dz_A) (hn : dz_Hn) : Bool :=
  (Nat.blt D.1 5 && Nat.beq a.1 (dz_kc D.1)) && (((Nat.beq D.1 2 || dz_fu D) || (dz_pf Γ (dz_ct hn 3) (dz_plus a.2.1 (-D.2.1)) && dz_pf Γ (dz_ct hn 4) (dz_sub (dz_cst D.2.2.1) a.2.1))) && ((!(Nat.beq D.1 1) || (dz_ile 0 D.2.1 && dz_ile D.2.2.1 1)) && ((!(Nat.beq D.1 4) || (dz_ile (-128) D.2.1 && dz_ile D.2.2.1 127)) && ((Nat.beq D.2.2.2.2 2 || (Nat.beq a.2.2 D.2.2.2.1 || dz_is0 a.2.1)) && ((!(Nat.beq D.2.2.2.2 1) || (dz_is0 a.2.1 || dz_pf Γ (dz_ct hn 5) (dz_plus (dz_sub a.2.1 p) (-1)))) && ((!(Nat.beq D.2.2.2.2 3) || dz_same a.2.1 (dz_plus p 1)) && (!(Nat.beq D.2.2.2.2 4) || dz_same a.2.1 (dz_plus p 2))))))))
theorem dz_wr_ok {n : Nat} {ρ : Nat → Int} {τ : Nat → Nat} {Γ : List dz_E} (hΓ : dz_Gm n ρ Γ) {D : dz_D} {p : dz_E} {a : dz_A} {hn : dz_Hn} {v : cz_V} {r : Nat} (hp : dz_ok n ρ p ((r : Int) + 1)) (ha : dz_vo n ρ τ a v) (h : dz_wr Γ D p a hn = true) : dz_vd τ r D v := by
  simp only [dz_wr, Bool.and_eq_true, Bool.or_eq_true] at h
  obtain ⟨⟨c1, c2⟩, c3, c4, c5, c6, c7, c8, c9⟩ := h
  have c1 : D.1 < 5 := Nat.blt_eq.mp c1
  have c2 := Nat.eq_of_beq_eq_true c2
  obtain ⟨a1, a2, a3⟩ := ha
  have hb : D.1 = 2 ∨ (D.2.1 ≤ dz_n v ∧ dz_n v ≤ D.2.2.1) := by
    rcases c3 with (c3 | c3) | c3
    · exact Or.inl (Nat.eq_of_beq_eq_true c3)
    · simp only [dz_fu, Bool.and_eq_true] at c3
      have f0 := Nat.eq_of_beq_eq_true c3.1
      have f1 := dz_ile_ok c3.2.1
      have f2 := dz_ile_ok c3.2.2
      rw [c2, f0] at a1
      obtain x | x | x := v
      · have hr := dz_rg_v x
        exact Or.inr ⟨by show _ ≤ x.toInt; omega, by show x.toInt ≤ _; omega⟩
      · cases a1
      · cases a1
    · have b1 := dz_pf_ok hΓ (dz_ok_plus (-D.2.1) a2) c3.1
      have b2 := dz_pf_ok hΓ (dz_ok_sub (dz_ok_cst D.2.2.1) a2) c3.2
      exact Or.inr ⟨by omega, by omega⟩
  refine ⟨?_, hb, ?_, ?_⟩
  · rw [c2] at a1
    obtain ⟨c, lo, hi, t, y⟩ := D
    have c1 : c < 5 := c1
    have a1 : dz_k v = dz_kc c := a1
    have hb : c = 2 ∨ (lo ≤ dz_n v ∧ dz_n v ≤ hi) := hb
    match c, c1, a1, hb, c4, c5 with
    | 0, _, a1, _, _, _ => obtain x | x | x := v <;> first | rfl | cases a1
    | 2, _, a1, _, _, _ => obtain x | x | x := v <;> first | rfl | cases a1
    | 3, _, a1, _, _, _ => obtain x | x | x := v <;> first | rfl | cases a1
    | 1, _, a1, hb, c4, _ =>
      rcases c4 with c4 | c4
      · cases c4
      · have d1 := dz_ile_ok c4.1
        have d2 := dz_ile_ok c4.2
        have hb : lo ≤ dz_n v ∧ dz_n v ≤ hi := by rcases hb with q | q; cases q; exact q
        have d1 : 0 ≤ lo := d1
        have d2 : hi ≤ 1 := d2
        obtain x | x | x := v
        · have e : dz_n (.inl x) = x.toInt := rfl
          rw [e] at hb
          show (decide (x = 0) || decide (x = 1)) = true
          by_cases e0 : x.toInt = 0
          · rw [decide_eq_true (Int32.toInt_inj.mp (by rw [e0]; rfl) : x = 0)]; rfl
          · rw [decide_eq_true (Int32.toInt_inj.mp (by rw [show x.toInt = 1 by omega]; rfl) : x = 1), Bool.or_true]
        · cases a1
        · cases a1
    | 4, _, a1, hb, _, c5 =>
      rcases c5 with c5 | c5
      · cases c5
      · have d1 := dz_ile_ok c5.1
        have d2 := dz_ile_ok c5.2
        have hb : lo ≤ dz_n v ∧ dz_n v ≤ hi := by rcases hb with q | q; cases q; exact q
        have d1 : -128 ≤ lo := d1
        have d2 : hi ≤ 127 := d2
        obtain x | x | x := v
        · have e : dz_n (.inl x) = x.toInt := rfl
          rw [e] at hb
          exact decide_eq_true (dz_i2b_s (by omega) (by omega))
        · cases a1
        · cases a1
  · rcases c6 with c6 | c6 | c6
    · exact Or.inl (Nat.eq_of_beq_eq_true c6)
    · have c6 := Nat.eq_of_beq_eq_true c6
      right
      rw [← c6]; exact a3
    · have := dz_is0_ok a2 c6
      right
      intro q hq
      rw [hq] at this
      have : (q : Int) + 1 = 0 := this
      omega
  · refine ⟨?_, ?_, ?_⟩
    · rcases c7 with c7 | c7 | c7
      · left
        intro e
        rw [e] at c7
        cases c7
      · exact Or.inr (Or.inl (dz_is0_ok a2 c7))
      · have b1 := dz_pf_ok hΓ (dz_ok_plus (-1) (dz_ok_sub a2 hp)) c7
        exact Or.inr (Or.inr (by omega))
    · rcases c8 with c8 | c8
      · left
        intro e
        rw [e] at c8
        cases c8
      · right
        have := dz_same_ok a2 (dz_ok_plus 1 hp) c8
        omega
    · rcases c9 with c9 | c9
      · left
        intro e
        rw [e] at c9
        cases c9
      · right
        have := dz_same_ok a2 (dz_ok_plus 2 hp) c9
        omega
/-- putfield -/
noncomputable def dz_pfd (T : dz_TT) (P : cz_P) (sd : dz_Sd) (M : cz_M) (x : Nat) (hn : dz_Hn) (S : dz_S) : Option dz_S := match S.2.2.2.1 with
  | b :: a :: r => bif Nat.beq a.1 3 && dz_pf S.2.1 (dz_ct hn 0) (dz_plus a.2.1 (-1)) then (match cz_lk M x with
    | some q => (match T a.2.2, P.2.1[q.2.1]? with
      | some ti, some ks => bif (Nat.ble q.1 1 && Nat.beq q.2.2.2 1) && ((Nat.beq ti.1 0 && Nat.beq ti.2.1 q.2.1) && Nat.beq ti.2.2.1 1) then (match dz_ds ti q.2.2.1, ks[q.2.2.1]? with
        | some D, some k => bif (Nat.beq k D.1 && dz_wr S.2.1 D a.2.1 b hn) && sd S a.2.2 a.2.1 (dz_cst (.ofNat q.2.2.1)) b hn then some (S.1, S.2.1, S.2.2.1, r, dz_ms S a.2.1 a.2.2 (dz_cst (.ofNat q.2.2.1)) b, S.2.2.2.2.2) else none
        | _, _ => none) else none
      | _, _ => none)
    | none => none) else none
  | _ => none
section DzWr
variable {T : dz_TT} {X : dz_X} {S S' : dz_S} {ρ : Nat → Int} {τ : Nat → Nat} {h : cz_H} {L : List (Nat × cz_V)} {st w : List cz_V}
theorem dz_ko_obj {n : Nat} {k : dz_K} (hk : dz_ko n ρ τ h k) {r i : Nat} {v : cz_V} {q : (Nat × List cz_V) ⊕ Nat} (hc : h.2.2 r = .inr q) : dz_ko n ρ τ (dz_put h r i v) k := by
  obtain ⟨r', qq, s, u, lo, hi, h1, h2, h3, h4⟩ := hk
  have e : r' ≠ r := fun e => by rw [e, hc] at h3; cases h3
  exact ⟨r', qq, s, u, lo, hi, h1, h2, by rw [dz_put_at, if_neg e]; exact h3, h4⟩
theorem dz_pfd_ok {P : cz_P} {sd : dz_Sd} (hX : dz_XW T X sd) {M : cz_M} {d pc x : Nat} {hn : dz_Hn} (hG : dz_G T X S ρ τ h L st) (hp : dz_pfd T P sd M x hn S = some S') : ∃ st' r i v, cz_hp P M d pc st h (.putfield x) = some (pc + 3, st', dz_put h r i v) ∧ dz_G T X S' ρ τ (dz_put h r i v) L st' ∧ S'.1 = S.1 ∧ τ r ≠ 0 ∧ (∃ a b rest q, S.2.2.2.1 = b :: a :: rest ∧ τ r = a.2.2 ∧ cz_lk M x = some q ∧ i = q.2.2.1) ∧ (∃ old, dz_get (h.2.2 r) i = some old) := by
  have hs := hG.2.2.1
  unfold dz_pfd at hp
  split at hp
  · rename_i b a r he
    rw [he] at hs
    obtain ⟨v2, w1, rfl, hb, h20⟩ := hs.inv
    obtain ⟨v1, w, rfl, ha, h2⟩ := h20.inv
    cases hc : (Nat.beq a.1 3 && dz_pf S.2.1 (dz_ct hn 0) (dz_plus a.2.1 (-1))) with
    | false => rw [hc] at hp; cases hp
    | true =>
      rw [hc] at hp
      simp only [Bool.and_eq_true] at hc
      simp only [cond_true] at hp
      obtain ⟨rr, rfl, k1, k2, k3⟩ := ha.at hc.1 (fun x hx => by have := dz_pf_ok hG.1 (dz_ok_plus (-1) hx) hc.2; omega)
      split at hp
      · rename_i q hq
        split at hp
        · rename_i ti ks hti hks
          cases hbb : ((Nat.ble q.1 1 && Nat.beq q.2.2.2 1) && ((Nat.beq ti.1 0 && Nat.beq ti.2.1 q.2.1) && Nat.beq ti.2.2.1 1)) with
          | false => rw [hbb] at hp; cases hp
          | true =>
            rw [hbb] at hp
            simp only [Bool.and_eq_true] at hbb
            simp only [cond_true] at hp
            split at hp
            · rename_i D k hD hk
              cases hw : ((Nat.beq k D.1 && dz_wr S.2.1 D a.2.1 b hn) && sd S a.2.2 a.2.1 (dz_cst (.ofNat q.2.2.1)) b hn) with
              | false => rw [hw] at hp; cases hp
              | true =>
                rw [hw] at hp
                cases hp
                simp only [Bool.and_eq_true] at hw
                obtain ⟨vs, o1, o2, o3, o4, o5⟩ := dz_obj_at hG.2.2.2.2.2.2.2 (r := rr) (by rw [k2]; exact k3) (by rw [k2]; exact hti) hbb.2.1.1
                have h192 : 192 ≤ rr := by
                  rcases o4 with o4 | o4
                  · rw [o4] at hbb; exact absurd hbb.2.2 (by decide)
                  · exact o4
                have hlen : q.2.2.1 < vs.length := by
                  have e0 := Nat.eq_of_beq_eq_true hbb.2.1.1
                  unfold dz_ds at hD
                  rw [e0] at hD
                  have hD : dz_nth ti.2.2.2.2 q.2.2.1 = some D := hD
                  rw [dz_nth_eq] at hD
                  rw [o3]
                  exact (List.getElem?_eq_some_iff.mp hD).1
                have hget : dz_get (h.2.2 rr) q.2.2.1 = some vs[q.2.2.1] := by
                  rw [o2]
                  exact List.getElem?_eq_getElem hlen
                have hvd := dz_wr_ok hG.1 k1 hb hw.1.2
                have hXn := hX S ρ τ h L _ rr q.2.2.1 a.2.2 v2 _ b a.2.1 (dz_cst (.ofNat q.2.2.1)) hn hG k1 k2 k3 (dz_ok_cst _) hget hb hw.2
                have hput : dz_put h rr q.2.2.1 v2 = cz_setc h rr (.inr (.inl (ti.2.1, vs.set q.2.2.1 v2))) := by
                  unfold dz_put
                  rw [o2]
                  rfl
                refine ⟨w, rr, q.2.2.1, v2, ?_, ?_, rfl, by rw [k2]; exact k3, ⟨a, b, r, q, he, k2, hq, rfl⟩, _, hget⟩
                · have e : cz_hput P M x pc (v2 :: .inr (.inr (some rr)) :: w) h = some (pc + 3, w, dz_put h rr q.2.2.1 v2) := by
                    unfold cz_hput
                    simp only [hq]
                    rw [hbb.1.1, hbb.1.2, Nat.ble_eq.mpr h192]
                    simp only [Bool.and_true, cond_true, o1, hks]
                    rw [hbb.2.1.2, List.getElem?_eq_getElem hlen]
                    simp only [Option.isSome, Bool.and_true, cond_true, hk]
                    rw [Nat.eq_of_beq_eq_true hw.1.1, hvd.1, hput]
                    rfl
                  exact e
                · refine hG.put k1 k2 k3 (dz_ok_cst _) hget hb hti hD hvd hXn h2 (fun k hk => ?_)
                  exact dz_ko_obj (hG.2.2.2.2.1 k hk) o2
            · cases hp
        · cases hp
      · cases hp
  · cases hp
/-- what is known of arrays behind a write of one slot -/
noncomputable def dz_kws (Γ : List dz_E) (p : dz_E) (t : Nat) (e : dz_E) (hn : dz_Hn) (l : List dz_K) : Nat → List dz_K := List.rec (fun _ => []) (fun k _ ih j => dz_kw Γ p t e k (dz_ct hn j) (dz_ct hn (Nat.add j 1)) :: ih (Nat.add j 2)) l
theorem dz_kws_ok {n : Nat} {Γ : List dz_E} (hΓ : dz_Gm n ρ Γ) {p e : dz_E} {t r i : Nat} {v old : cz_V} {hn : dz_Hn} (hp : dz_ok n ρ p ((r : Int) + 1)) (ht : τ r = t) (hg : dz_get (h.2.2 r) i = some old) (he : dz_ok n ρ e (dz_n v)) : ∀ {l : List dz_K}, (∀ k ∈ l, dz_ko n ρ τ h k) → ∀ j, ∀ k ∈ dz_kws Γ p t e hn l j, dz_ko n ρ τ (dz_put h r i v) k
  | [], _, j => fun k hk => by cases hk
  | k0 :: r0, hl, j => fun k hk => by
    have hk : k ∈ dz_kw Γ p t e k0 (dz_ct hn j) (dz_ct hn (Nat.add j 1)) :: dz_kws Γ p t e hn r0 (Nat.add j 2) := hk
    rcases List.mem_cons.mp hk with rfl | hk
    · exact dz_kw_ok hΓ (hl k0 List.mem_cons_self) hp ht hg he _ _
    · exact dz_kws_ok hΓ hp ht hg he (fun q hq => hl q (List.mem_cons_of_mem _ hq)) _ k hk
/-- the value as an array takes it: code 1 as it is (and told to be a byte), 0 a new unknown; of other arrays as it is -/
noncomputable def dz_stv (ty : Nat) (hn : dz_Hn) (S : dz_S) (c : dz_A) : Option (dz_S × dz_A) := bif Nat.beq ty 0 then (bif Nat.beq c.1 0 then (bif Nat.beq hn.1 1 then (bif dz_pf S.2.1 (dz_ct hn 3) (dz_plus c.2.1 128) && dz_pf S.2.1 (dz_ct hn 4) (dz_sub (dz_cst 127) c.2.1) then some (S, c) else none)
    else dz_fn (Nat.add S.1 1) (fun m => some ((m, dz_bd S.1 (-128) 127 ++ S.2.1, S.2.2), (0, dz_var S.1, 0)))) else none) else some (S, c)
/-- what an array of references takes -/
noncomputable def dz_elm (T : dz_TT) (P : cz_P) (ty : Nat) (Γ : List dz_E) (hn : dz_Hn) (c : dz_A) : Bool := match P.2.2[ty]?, T c.2.2 with
  | some k, some ti => (Nat.beq ti.1 0 && Nat.beq k.2 ti.2.1) && dz_pf Γ (dz_ct hn 5) (dz_plus c.2.1 (-1))
  | _, _ => false
/-- by the instruction: 0 bytes and booleans, 1 ints, 2 longs, 3 references -/
noncomputable def dz_wh (wh ty : Nat) : Bool := bif Nat.beq wh 0 then Nat.beq ty 0 || Nat.beq ty 3 else bif Nat.beq wh 3 then Nat.ble 4 ty else Nat.beq wh ty
def dz_tyc (ty : Nat) : Nat := match ty with
  | 0 => 4
  | 1 => 0
  | 2 => 2
  | 3 => 1
  | _ => 3
noncomputable def dz_sto (T : dz_TT) (P : cz_P) (sd : dz_Sd) (wh : Nat) (hn : dz_Hn) (S : dz_S) : Option dz_S := match S.2.2.2.1 with
  | c :: b :: a :: r => bif (Nat.beq a.1 3 && Nat.beq b.1 0) && (dz_pf S.2.1 (dz_ct hn 0) (dz_plus a.2.1 (-1)) && dz_pf S.2.1 (dz_ct hn 1) b.2.1) then (match T a.2.2 with
    | some ti => bif ((Nat.beq ti.1 1 && Nat.blt ti.2.1 11) && (Nat.beq ti.2.2.1 1 && dz_wh wh ti.2.1)) && (!(Nat.beq wh 3) || dz_elm T P ti.2.1 S.2.1 hn c) then (match dz_len S a.2.1 a.2.2 ti (dz_num hn 1), dz_nth ti.2.2.2.2 0, dz_stv ti.2.1 hn S c with
      | some n, some D, some (S1, c1) => bif dz_pf S.2.1 (dz_ct hn 2) (dz_plus (dz_sub n b.2.1) (-1)) && ((Nat.beq D.1 (dz_tyc ti.2.1) && dz_wr S1.2.1 D a.2.1 c1 hn) && sd S1 a.2.2 a.2.1 b.2.1 c1 hn) then
          some (S1.1, S1.2.1, S1.2.2.1, r, dz_ms S1 a.2.1 a.2.2 b.2.1 c1, dz_kws S1.2.1 a.2.1 a.2.2 c1.2.1 hn S1.2.2.2.2.2.1 6, S1.2.2.2.2.2.2) else none
      | _, _, _ => none) else none
    | none => none) else none
  | _ => none
theorem dz_stv_ok (hG : dz_G T X S ρ τ h L st) {ty : Nat} {hn : dz_Hn} {c c1 : dz_A} {S1 : dz_S} {v : cz_V} (hc : dz_vo S.1 ρ τ c v) (hs : dz_stv ty hn S c = some (S1, c1)) : ∃ ρ' v1, dz_G T X S1 ρ' τ h L st ∧ dz_ext S.1 ρ S1.1 ρ' ∧ dz_vo S1.1 ρ' τ c1 v1 ∧ ((ty = 0 ∧ ∃ x : Int32, v = .inl x ∧ v1 = .inl x.toInt8.toInt32) ∨ (ty ≠ 0 ∧ v1 = v)) := by
  unfold dz_stv at hs
  cases h0 : Nat.beq ty 0 with
  | false =>
    rw [h0] at hs; cases hs
    exact ⟨ρ, v, hG, dz_ext.refl _ _, hc, Or.inr ⟨fun e => (by rw [e] at h0; cases h0), rfl⟩⟩
  | true =>
    rw [h0] at hs
    have h0 := Nat.eq_of_beq_eq_true h0
    simp only [cond_true] at hs
    cases hk : Nat.beq c.1 0 with
    | false => rw [hk] at hs; cases hs
    | true =>
      rw [hk] at hs
      obtain ⟨x, rfl, hx⟩ := hc.int hk
      simp only [cond_true] at hs
      cases h1 : Nat.beq hn.1 1 with
      | true =>
        rw [h1] at hs
        simp only [cond_true] at hs
        cases hb : (dz_pf S.2.1 (dz_ct hn 3) (dz_plus c.2.1 128) && dz_pf S.2.1 (dz_ct hn 4) (dz_sub (dz_cst 127) c.2.1)) with
        | false => rw [hb] at hs; cases hs
        | true =>
          rw [hb] at hs; cases hs
          simp only [Bool.and_eq_true] at hb
          have b1 := dz_pf_ok hG.1 (dz_ok_plus 128 hx) hb.1
          have b2 := dz_pf_ok hG.1 (dz_ok_sub (dz_ok_cst 127) hx) hb.2
          exact ⟨ρ, .inl x, hG, dz_ext.refl _ _, hc, Or.inl ⟨h0, x, rfl, by rw [dz_i2b_s (by omega) (by omega)]⟩⟩
      | false =>
        rw [h1] at hs
        simp only [cond_false, dz_fn_eq] at hs
        cases hs
        have hx2 := dz_ext.up S.1 ρ (x.toInt8.toInt32).toInt
        have g := hG.ext hx2
        have hb := dz_i2b_v x
        exact ⟨_, .inl x.toInt8.toInt32, ⟨g.1.app (dz_bd_ok hb.1 hb.2), g.2⟩, hx2, ⟨rfl, dz_ok_new _, fun r hr => by cases hr⟩, Or.inl ⟨h0, x, rfl, rfl⟩⟩
set_option maxHeartbeats 4000000 in
theorem dz_sto_ok {P : cz_P} {sd : dz_Sd} (hX : dz_XW T X sd) {pc wh : Nat} {hn : dz_Hn} (hG : dz_G T X S ρ τ h L st) (hwh : wh < 4) (hp : dz_sto T P sd wh hn S = some S') : ∃ st' r i v ρ', cz_hst P wh pc st h = some (pc + 1, st', dz_put h r i v) ∧ dz_G T X S' ρ' τ (dz_put h r i v) L st' ∧ dz_ext S.1 ρ S'.1 ρ' ∧ τ r ≠ 0 ∧ (∃ a b c rest, S.2.2.2.1 = c :: b :: a :: rest ∧ τ r = a.2.2 ∧ dz_ok S.1 ρ b.2.1 (i : Int)) ∧ (∃ old, dz_get (h.2.2 r) i = some old) := by
  have hs := hG.2.2.1
  unfold dz_sto at hp
  split at hp
  · rename_i c b a r he
    rw [he] at hs
    obtain ⟨v3, w2, rfl, hcv, h30⟩ := hs.inv
    obtain ⟨v2, w1, rfl, hb, h20⟩ := h30.inv
    obtain ⟨v1, w, rfl, ha, h2⟩ := h20.inv
    cases hc : ((Nat.beq a.1 3 && Nat.beq b.1 0) && (dz_pf S.2.1 (dz_ct hn 0) (dz_plus a.2.1 (-1)) && dz_pf S.2.1 (dz_ct hn 1) b.2.1)) with
    | false => rw [hc] at hp; cases hp
    | true =>
      rw [hc] at hp
      simp only [Bool.and_eq_true] at hc
      simp only [cond_true] at hp
      obtain ⟨rr, rfl, k1, k2, k3⟩ := ha.at hc.1.1 (fun x hx => by have := dz_pf_ok hG.1 (dz_ok_plus (-1) hx) hc.2.1; omega)
      obtain ⟨x, rfl, hx⟩ := hb.int hc.1.2
      have hx0 := dz_pf_ok hG.1 hx hc.2.2
      split at hp
      · rename_i ti hti
        cases hq : (((Nat.beq ti.1 1 && Nat.blt ti.2.1 11) && (Nat.beq ti.2.2.1 1 && dz_wh wh ti.2.1)) && (!(Nat.beq wh 3) || dz_elm T P ti.2.1 S.2.1 hn c)) with
        | false => rw [hq] at hp; cases hp
        | true =>
          rw [hq] at hp
          simp only [Bool.and_eq_true] at hq
          simp only [cond_true] at hp
          obtain ⟨n, f, o1, o2, o3, o4, o5⟩ := dz_arr_at hG.2.2.2.2.2.2.2 (r := rr) (by rw [k2]; exact k3) (by rw [k2]; exact hti) hq.1.1.1 hq.1.1.2
          have h192 : 192 ≤ rr := by
            rcases o4 with o4 | o4
            · rw [o4] at hq; exact absurd hq.1.2.1 (by decide)
            · exact o4
          split at hp
          · rename_i ne D S1 c1 hne hD hst
            cases hl : (dz_pf S.2.1 (dz_ct hn 2) (dz_plus (dz_sub ne b.2.1) (-1)) && ((Nat.beq D.1 (dz_tyc ti.2.1) && dz_wr S1.2.1 D a.2.1 c1 hn) && sd S1 a.2.2 a.2.1 b.2.1 c1 hn)) with
            | false => rw [hl] at hp; cases hp
            | true =>
              rw [hl] at hp
              cases hp
              simp only [Bool.and_eq_true] at hl
              obtain ⟨nx, n1, n2⟩ := dz_len_ok hG k1 o2 o3.1 hne
              have hlt := dz_pf_ok hG.1 (dz_ok_plus (-1) (dz_ok_sub n1 hx)) hl.1
              have hxi : x.toInt = ((x.toInt.toNat : Nat) : Int) := by omega
              have hi : x.toInt.toNat < n := by omega
              have hx2 : dz_ok S.1 ρ b.2.1 ((x.toInt.toNat : Nat) : Int) := by rw [← hxi]; exact hx
              have hget : dz_get (h.2.2 rr) x.toInt.toNat = some (f x.toInt.toNat) := by
                rw [o2]
                show (if x.toInt.toNat < n then some (f x.toInt.toNat) else none) = _
                rw [if_pos hi]
              obtain ⟨ρ', vv, g1, g2, g3, g4⟩ := dz_stv_ok hG hcv hst
              have hvd := dz_wr_ok g1.1 (k1.ext g2) g3 hl.2.1.2
              have hXn := hX S1 ρ' τ h L _ rr x.toInt.toNat a.2.2 vv _ c1 a.2.1 b.2.1 hn g1 (k1.ext g2) k2 k3 (hx2.ext g2) hget g3 hl.2.2
              have hput : dz_put h rr x.toInt.toNat vv = cz_setc h rr (.inl (ti.2.1, n, fun j => if j = x.toInt.toNat then vv else f j)) := by
                unfold dz_put
                rw [o2]
                rfl
              have hDs : dz_ds ti x.toInt.toNat = some D := by
                unfold dz_ds
                rw [Nat.eq_of_beq_eq_true hq.1.1.1]
                exact hD
              refine ⟨w, rr, x.toInt.toNat, vv, ρ', ?_, ?_, g2, by rw [k2]; exact k3, ⟨a, b, c, r, he, k2, hx2⟩, _, hget⟩
              · have hix := (dz_ix_ok hxi hi).1
                have has : ∀ (ok : Nat → Bool), ok ti.2.1 = true → cz_astore pc w h x rr vv ok = some (pc + 1, w, dz_put h rr x.toInt.toNat vv) := by
                  intro ok hok
                  unfold cz_astore
                  rw [o1]
                  show (bif Nat.ble 192 rr && cz_ix x n && ok ti.2.1 then _ else none) = _
                  rw [Nat.ble_eq.mpr h192, hix, hok, hput]
                  rfl
                have hwt := hq.1.2.2
                have hcode := Nat.eq_of_beq_eq_true hl.2.1.1
                have hfit := hvd.1
                rw [hcode] at hfit
                match wh, hwh, hwt, hq.2 with
                | 0, _, hwt, _ =>
                  have hwt : (Nat.beq ti.2.1 0 || Nat.beq ti.2.1 3) = true := hwt
                  rcases g4 with ⟨e0, y, rfl, rfl⟩ | ⟨e0, rfl⟩
                  · show (match cz_arr h rr with
                      | some c => bif Nat.beq c.1 0 then cz_astore pc w h x rr (.inl y.toInt8.toInt32) (fun t => Nat.beq t 0) else bif decide (y = 0) || decide (y = 1) then cz_astore pc w h x rr (.inl y) (fun t => Nat.beq t 3) else none
                      | none => none) = _
                    rw [o1]
                    show (bif Nat.beq ti.2.1 0 then _ else _) = _
                    rw [e0]
                    exact has (fun t => Nat.beq t 0) (by show Nat.beq ti.2.1 0 = true; rw [e0]; rfl)
                  · have e3 : ti.2.1 = 3 := by
                      simp only [Bool.or_eq_true] at hwt
                      rcases hwt with q | q
                      · exact absurd (Nat.eq_of_beq_eq_true q) e0
                      · exact Nat.eq_of_beq_eq_true q
                    rw [e3] at hfit
                    obtain y | y | y := vv
                    · have hfit : (decide (y = 0) || decide (y = 1)) = true := hfit
                      show (match cz_arr h rr with
                        | some c => bif Nat.beq c.1 0 then cz_astore pc w h x rr (.inl y.toInt8.toInt32) (fun t => Nat.beq t 0) else bif decide (y = 0) || decide (y = 1) then cz_astore pc w h x rr (.inl y) (fun t => Nat.beq t 3) else none
                        | none => none) = _
                      rw [o1]
                      show (bif Nat.beq ti.2.1 0 then _ else _) = _
                      rw [dz_beq_ne e0, hfit]
                      exact has (fun t => Nat.beq t 3) (by show Nat.beq ti.2.1 3 = true; rw [e3]; rfl)
                    · cases hfit
                    · cases hfit
                | 1, _, hwt, _ =>
                  have e1 : 1 = ti.2.1 := Nat.eq_of_beq_eq_true hwt
                  rcases g4 with ⟨e0, _⟩ | ⟨e0, rfl⟩
                  · omega
                  · rw [← e1] at hfit
                    obtain y | y | y := vv
                    · exact has (fun t => Nat.beq t 1) (by show Nat.beq ti.2.1 1 = true; rw [← e1]; rfl)
                    · cases hfit
                    · cases hfit
                | 2, _, hwt, _ =>
                  have e1 : 2 = ti.2.1 := Nat.eq_of_beq_eq_true hwt
                  rcases g4 with ⟨e0, _⟩ | ⟨e0, rfl⟩
                  · omega
                  · rw [← e1] at hfit
                    obtain y | y | y := vv
                    · cases hfit
                    · exact has (fun t => Nat.beq t 2) (by show Nat.beq ti.2.1 2 = true; rw [← e1]; rfl)
                    · cases hfit
                | 3, _, hwt, hel =>
                  have e1 : 4 ≤ ti.2.1 := Nat.ble_eq.mp hwt
                  rcases g4 with ⟨e0, _⟩ | ⟨e0, rfl⟩
                  · omega
                  · have hel : (false || dz_elm T P ti.2.1 S.2.1 hn c) = true := hel
                    rw [Bool.false_or] at hel
                    unfold dz_elm at hel
                    split at hel
                    · rename_i kk ti2 hkk hti2
                      simp only [Bool.and_eq_true] at hel
                      have hk3 : dz_k vv = 3 := by
                        have e6 : dz_tyc ti.2.1 = 3 := by
                          match ti.2.1, e1 with
                          | n + 4, _ => rfl
                        rw [e6] at hfit
                        exact dz_fit_k hfit
                      obtain ⟨vr, rfl, q1, q2, q3⟩ := hcv.at (by rw [← hcv.1, hk3]; rfl) (fun z hz => by have := dz_pf_ok hG.1 (dz_ok_plus (-1) hz) hel.2; omega)
                      obtain ⟨vs, u1, _⟩ := dz_obj_at hG.2.2.2.2.2.2.2 (r := vr) (by rw [q2]; exact q3) (by rw [q2]; exact hti2) hel.1.1
                      refine has (cz_elem P h (some vr)) ?_
                      show (match P.2.2[ti.2.1]? with
                        | some k => (match cz_obj h vr with
                          | some o => Nat.beq k.2 o.1
                          | none => false)
                        | none => false) = true
                      rw [hkk]
                      dsimp only
                      rw [u1]
                      exact hel.1.2
                    · cases hel
              · refine g1.put (k1.ext g2) k2 k3 (hx2.ext g2) hget g3 hti hDs hvd hXn (h2.ext g2) ?_
                exact dz_kws_ok g1.1 (k1.ext g2) k2 hget g3.2.1 g1.2.2.2.2.1 6
          · cases hp
      · cases hp
  · cases hp
end DzWr
