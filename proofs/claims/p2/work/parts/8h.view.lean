/-! What DATA say of each point: class and decomposition, exclusion. -/
/-- a LINE's fields -/
def rz_ff (b : Int → Int) (A : List (Int × Int)) (k : Int) : Int := rz_tl b (A.getD k.toNat (0, 0))
def rz_tt (b : Int → Int) (A : List (Int × Int)) (k : Int) : Int := rz_tr b (A.getD k.toNat (0, 0))
theorem rz_tl_tr (b : Int → Int) (p : Int × Int) (h : p.1 ≤ p.2) : p.1 ≤ rz_tl b p ∧ rz_tl b p ≤ rz_tr b p ∧ rz_tr b p ≤ p.2 := by
  have h1 := rz_skip_le b (p.2 - p.1).toNat p.1
  have e1 : rz_tl b p = rz_skip b (p.2 - p.1).toNat p.1 := rfl
  rw [← e1] at h1
  have h2 := rz_back_le b (p.2 - rz_tl b p).toNat p.2
  have e2 : rz_tr b p = rz_back b (p.2 - rz_tl b p).toNat p.2 := rfl
  rw [← e2] at h2
  omega
theorem rz_seg_le (b : Int → Int) : ∀ (n : Nat) (i s : Int), s ≤ i → ∀ p ∈ rz_seg b n i s, s ≤ p.1 ∧ p.1 ≤ p.2 ∧ p.2 ≤ i + n
  | 0, i, s, hs, p, hp => by
    unfold rz_seg at hp
    rw [List.mem_singleton] at hp
    subst hp
    exact ⟨Int.le_refl _, hs, by omega⟩
  | n + 1, i, s, hs, p, hp => by
    unfold rz_seg at hp
    split at hp
    · rcases List.mem_cons.mp hp with rfl | hp
      · exact ⟨Int.le_refl _, hs, by show i ≤ _; omega⟩
      · have := rz_seg_le b n (i + 1) (i + 1) (by omega) p hp
        omega
    · have := rz_seg_le b n (i + 1) s (by omega) p hp
      omega
/-- fields where they are known -/
theorem rz_flds_at {b : Int → Int} {h : cz_H} {A : List (Int × Int)} (hA : rz_flds b h A) {k : Int} (k0 : 0 ≤ k) (k1 : k < (A.length : Int)) : rz_f h k = rz_ff b A k ∧ rz_t h k = rz_tt b A k := by
  have hk : k.toNat < A.length := by omega
  have e : A[k.toNat]? = some (A.getD k.toNat (0, 0)) := by
    rw [List.getD_eq_getElem?_getD, List.getElem?_eq_getElem hk]
    rfl
  have := hA k.toNat _ e
  rw [Int.toNat_of_nonneg k0] at this
  exact this
theorem rz_F_congr {b f t f' t' : Int → Int} {first last cls : Int} {dec : Option (Int × List Int)} (hf : ∀ k, 0 ≤ k → k ≤ 6 → f k = f' k) (ht : ∀ k, 0 ≤ k → k ≤ 6 → t k = t' k) (h : rz_F b f t first last cls dec) : rz_F b f' t' first last cls dec := by
  unfold rz_F at *
  rw [← hf 0 (by omega) (by omega), ← hf 1 (by omega) (by omega), ← hf 2 (by omega) (by omega), ← hf 3 (by omega) (by omega), ← ht 0 (by omega) (by omega), ← ht 1 (by omega) (by omega), ← ht 2 (by omega) (by omega), ← ht 3 (by omega) (by omega)]
  refine ⟨h.1, h.2.1, h.2.2.1, h.2.2.2.1, fun k k4 k6 => ?_, fun w k k3 k6 => ?_⟩
  · rw [← hf k (by omega) k6, ← ht k (by omega) k6]; exact h.2.2.2.2.1 k k4 k6
  · rw [← hf k (by omega) k6, ← ht k (by omega) k6]; exact h.2.2.2.2.2 w k k3 k6
/-- a tape of n bytes is a LINE with w fields, these -/
def rz_A (b : Int → Int) (n : Int) (w : Nat) (A : List (Int × Int)) : Prop := ∃ c, rz_plain b n ∧ rz_hash b n c ∧ A = rz_seg b c.toNat 0 0 ∧ A.length = w
theorem rz_A_uniq {b : Int → Int} {n : Int} {w : Nat} {A A' : List (Int × Int)} (h : rz_A b n w A) (h' : rz_A b n w A') : A = A' := by
  obtain ⟨c, -, h2, h3, -⟩ := h
  obtain ⟨c', -, h2', h3', -⟩ := h'
  rw [h3, h3', rz_hash_uniq h2 h2']
theorem rz_A_pos {b : Int → Int} {n : Int} {w : Nat} {A : List (Int × Int)} (hw : 2 ≤ w) (h : rz_A b n w A) : 0 < n := by
  obtain ⟨c, -, h2, h3, h4⟩ := h
  by_cases e : c = 0
  · subst e
    rw [h3] at h4
    unfold rz_seg at h4
    simp at h4
    omega
  · have := h2.1
    have := h2.2.1
    omega
/-- a LINE 0 -/
def rz_L0 (b : Int → Int) (n first last cls : Int) (dec : Option (Int × List Int)) : Prop := ∃ A, rz_A b n 7 A ∧ rz_F b (rz_ff b A) (rz_tt b A) first last cls dec
/-- a LINE 3 that names Composition_Exclusion -/
def rz_L3 (b : Int → Int) (n first last : Int) : Prop := ∃ A, rz_A b n 2 A ∧ (first = rz_first b (rz_ff b A 0) (rz_tt b A 0) ∧ last = rz_last b (rz_ff b A 0) (rz_tt b A 0) ∧ first ≠ -1 ∧ first ≤ last) ∧ rz_CE b (rz_ff b A 1) (rz_tt b A 1)
theorem rz_F_uniq {b f t : Int → Int} {first last cls first' last' cls' : Int} {dec dec' : Option (Int × List Int)} (h : rz_F b f t first last cls dec) (h' : rz_F b f t first' last' cls' dec') : first = first' ∧ last = last' ∧ cls = cls' ∧ dec = dec' := by
  refine ⟨h.1.1.trans h'.1.1.symm, h.1.2.1.trans h'.1.2.1.symm, h.2.2.1.2.2.trans h'.2.2.1.2.2.symm, ?_⟩
  rcases h.2.2.2.1 with ⟨a1, a2⟩ | ⟨a1, cp, bg, vs, a2, a3, a4⟩
  · rcases h'.2.2.2.1 with ⟨b1, b2⟩ | ⟨b1, -⟩
    · rw [a2, b2]
    · exact absurd a1 b1
  · rcases h'.2.2.2.1 with ⟨b1, b2⟩ | ⟨b1, cp', bg', vs', b2, b3, b4⟩
    · exact absurd b1 a1
    · rw [a2] at b2; cases b2
      rw [a3] at b3; cases b3
      rw [a4, b4]
theorem rz_L0_uniq {b : Int → Int} {n first last cls first' last' cls' : Int} {dec dec' : Option (Int × List Int)} (h : rz_L0 b n first last cls dec) (h' : rz_L0 b n first' last' cls' dec') : first = first' ∧ last = last' ∧ cls = cls' ∧ dec = dec' := by
  obtain ⟨A, a1, a2⟩ := h
  obtain ⟨A', b1, b2⟩ := h'
  rw [← rz_A_uniq a1 b1] at b2
  exact rz_F_uniq a2 b2
theorem rz_L3_uniq {b : Int → Int} {n first last first' last' : Int} (h : rz_L3 b n first last) (h' : rz_L3 b n first' last') : first = first' ∧ last = last' := by
  obtain ⟨A, a1, a2, -⟩ := h
  obtain ⟨A', b1, b2, -⟩ := h'
  rw [← rz_A_uniq a1 b1] at b2
  exact ⟨a2.1.trans b2.1.symm, a2.2.1.trans b2.2.1.symm⟩
/-- what is told of each point: class and decomposition; Composition_Exclusion -/
abbrev rz_W : Type := Int → Int × Option (Int × List Int)
/-- what a LINE does to it -/
def rz_step (b : Int → Int) (n kind : Int) (F : rz_W) (E : Int → Prop) (F' : rz_W) (E' : Int → Prop) : Prop :=
  (kind = 0 → ((∃ first last cls dec, rz_L0 b n first last cls dec ∧ (∀ x, F' x = if first ≤ x ∧ x ≤ last then (cls, dec) else F x) ∧ E' = E) ∨ ((¬ ∃ first last cls dec, rz_L0 b n first last cls dec) ∧ F' = F ∧ E' = E))) ∧
  (kind = 3 → ((∃ first last, rz_L3 b n first last ∧ F' = F ∧ (∀ x, E' x ↔ (E x ∨ (first ≤ x ∧ x ≤ last)))) ∨ ((¬ ∃ first last, rz_L3 b n first last) ∧ F' = F ∧ E' = E))) ∧
  (kind ≠ 0 → kind ≠ 3 → F' = F ∧ E' = E)
theorem rz_step_uniq {b : Int → Int} {n kind : Int} {F F1 F2 : rz_W} {E E1 E2 : Int → Prop} (h1 : rz_step b n kind F E F1 E1) (h2 : rz_step b n kind F E F2 E2) : F1 = F2 ∧ E1 = E2 := by
  by_cases k0 : kind = 0
  · rcases h1.1 k0 with ⟨f, l, c, dd, a1, a2, a3⟩ | ⟨a1, a2, a3⟩
    · rcases h2.1 k0 with ⟨f', l', c', d', b1, b2, b3⟩ | ⟨b1, -⟩
      · obtain ⟨rfl, rfl, rfl, rfl⟩ := rz_L0_uniq a1 b1
        exact ⟨funext fun x => (a2 x).trans (b2 x).symm, a3.trans b3.symm⟩
      · exact absurd ⟨f, l, c, dd, a1⟩ b1
    · rcases h2.1 k0 with ⟨f', l', c', d', b1, -⟩ | ⟨b1, b2, b3⟩
      · exact absurd ⟨f', l', c', d', b1⟩ a1
      · exact ⟨a2.trans b2.symm, a3.trans b3.symm⟩
  · by_cases k3 : kind = 3
    · rcases h1.2.1 k3 with ⟨f, l, a1, a2, a3⟩ | ⟨a1, a2, a3⟩
      · rcases h2.2.1 k3 with ⟨f', l', b1, b2, b3⟩ | ⟨b1, -⟩
        · obtain ⟨rfl, rfl⟩ := rz_L3_uniq a1 b1
          exact ⟨a2.trans b2.symm, funext fun x => propext ((a3 x).trans (b3 x).symm)⟩
        · exact absurd ⟨f, l, a1⟩ b1
      · rcases h2.2.1 k3 with ⟨f', l', b1, -⟩ | ⟨b1, b2, b3⟩
        · exact absurd ⟨f', l', b1⟩ a1
        · exact ⟨a2.trans b2.symm, a3.trans b3.symm⟩
    · obtain ⟨a1, a2⟩ := h1.2.2 k0 k3
      obtain ⟨b1, b2⟩ := h2.2.2 k0 k3
      exact ⟨a1.trans b1.symm, a2.trans b2.symm⟩
/-- DATA's view -/
def sz_fp (h : cz_H) (k : Int) : Nat := qz_P h (sz_p h k) 1
def sz_D (τ : Nat → Nat) (h : cz_H) (F : rz_W) (E : Int → Prop) : Prop := ∀ x k, 0 ≤ x → x ≤ 1114111 → sz_at h x k → (qz_I h (sz_fp h k) 2 = (F x).1 ∧ rz_D τ h (sz_fp h k) (F x).2 ∧ ((F x).2 ≠ none → qz_I h (sz_fp h k) 0 = x)) ∧ (sz_t0 (qz_I h (sz_p h k) 2) ↔ E x)
theorem sz_fp_t {τ : Nat → Nat} {h : cz_H} (hB : ez_B τ h) (t202 : τ 202 = 48) (t203 : τ 203 = 49) {x k : Int} (hk : sz_at h x k) : τ (sz_p h k) = 4 ∧ τ (sz_fp h k) = 3 ∧ qz_I h (sz_p h k) 1 = (sz_fp h k : Int) + 1 := by
  have bn := sz_R_n1 hB t202
  have k1 := hk.2.1
  have t4 := sz_tag hB t203 hk.1 (show k < 513 by omega)
  have b1 : 1 ≤ qz_I h (sz_p h k) 1 ∧ qz_I h (sz_p h k) 1 ≤ 1000000 := ez_fB (cl := 4) hB t4 tq_4 rfl rfl (by decide)
  have e : qz_I h (sz_p h k) 1 = (sz_fp h k : Int) + 1 := by unfold sz_fp qz_P; omega
  exact ⟨t4, (ez_old (cl := 4) hB t4 tq_4 rfl rfl (by decide) e).1, e⟩
/-- a Fact's view where its cells are the same -/
theorem rz_D_tr {τ τ1 : Nat → Nat} {h g : cz_H} {r : Nat} {dec : Option (Int × List Int)} (hD : rz_D τ h r dec) (e3 : qz_I g r 3 = qz_I h r 3) (e4 : qz_I g r 4 = qz_I h r 4) (ep : ∀ p, τ p = 5 → τ1 p = 5 ∧ g.2.2 p = h.2.2 p) : rz_D τ1 g r dec := by
  match dec with
  | none => exact e3.trans hD
  | some (cp, vs) =>
    obtain ⟨p, p1, p2, p3, p4, p5⟩ := hD
    obtain ⟨q1, q2⟩ := ep p p1
    exact ⟨p, q1, e3.trans p2, e4.trans p3, by unfold qz_N; rw [q2]; exact p4, fun j v hj => by unfold qz_I; rw [q2]; exact p5 j v hj⟩
/-- the view where nothing of it changes -/
theorem sz_D_tr {τ τ1 : Nat → Nat} {h g : cz_H} {F : rz_W} {E : Int → Prop} (hB : ez_B τ h) (t202 : τ 202 = 48) (t203 : τ 203 = 49) (hD : sz_D τ h F E) (e2 : qz_I g 202 1 = qz_I h 202 1) (e3 : g.2.2 203 = h.2.2 203) (e4 : ∀ q, τ q = 4 → g.2.2 q = h.2.2 q) (ef : ∀ q, τ q = 3 → qz_I g q 0 = qz_I h q 0 ∧ qz_I g q 2 = qz_I h q 2 ∧ qz_I g q 3 = qz_I h q 3 ∧ qz_I g q 4 = qz_I h q 4) (ep : ∀ p, τ p = 5 → τ1 p = 5 ∧ g.2.2 p = h.2.2 p) : sz_D τ1 g F E := by
  have bn := sz_R_n1 hB t202
  have hp : ∀ k, sz_p g k = sz_p h k := fun k => by unfold sz_p qz_P qz_I; rw [e3]
  have hs : ∀ k, 0 ≤ k → k < 513 → ∀ j, qz_I g (sz_p g k) j = qz_I h (sz_p h k) j := fun k k0 k1 j => by
    rw [hp]
    unfold qz_I
    rw [e4 _ (sz_tag hB t203 k0 k1)]
  intro x k x0 x1 hk
  have k0 := hk.1
  have k1 := hk.2.1
  have hk' : sz_at h x k := by
    obtain ⟨c0, c1, c2, c3⟩ := hk
    rw [e2] at c1 c3
    unfold sz_f at c2 c3
    refine ⟨c0, c1, ?_, fun w => ?_⟩
    · unfold sz_f; rw [← hs k c0 (by omega)]; exact c2
    · unfold sz_f; rw [← hs (k + 1) (by omega) (by omega)]; exact c3 w
  rw [e2] at k1
  obtain ⟨⟨d1, d2, d3⟩, d4⟩ := hD x k x0 x1 hk'
  obtain ⟨-, t3, -⟩ := sz_fp_t hB t202 t203 hk'
  have hfp : sz_fp g k = sz_fp h k := by unfold sz_fp qz_P; rw [hs k k0 (by omega)]
  obtain ⟨f0, f2, f3, f4⟩ := ef _ t3
  refine ⟨⟨?_, ?_, fun w => ?_⟩, ?_⟩
  · rw [hfp, f2]; exact d1
  · rw [hfp]; exact rz_D_tr d2 f3 f4 ep
  · rw [hfp, f0]; exact d3 w
  · rw [hs k k0 (by omega)]; exact d4
/-- behind a cut and what is told of the points of a span -/
theorem sz_D_R {τ : Nat → Nat} {h g : cz_H} {F : rz_W} {E E' : Int → Prop} {first last : Int} {Rl : Prop → Nat → Int → Int → Prop} (hB : ez_B τ h) (t202 : τ 202 = 48) (t203 : τ 203 = 49) (hD : sz_D τ h F E) (ht : sz_toldR τ h g first last Rl) (h1 : ∀ P u v, Rl P 1 u v → v = u) (h2 : ∀ x u v, Rl (first ≤ x ∧ x ≤ last) 2 u v → (sz_t0 u ↔ E x) → (sz_t0 v ↔ E' x)) : sz_D τ g F E' := by
  obtain ⟨-, -, hf, -, -, hx⟩ := ht
  intro x k x0 x1 hk
  obtain ⟨k', w1, w2⟩ := hx x k x0 x1 hk
  obtain ⟨⟨d1, d2, d3⟩, d4⟩ := hD x k' x0 x1 w1
  obtain ⟨-, t3, -⟩ := sz_fp_t hB t202 t203 w1
  have e1 := h1 _ _ _ (w2 1 (by omega) (by omega))
  have hfp : sz_fp g k = sz_fp h k' := by unfold sz_fp qz_P; rw [e1]
  have pf : ∀ q, τ q = 3 ∨ τ q = 5 → sz_PS τ q = false := fun q hq => by
    unfold sz_PS
    rw [dz_beq_ne (fun e => by rw [e, t202] at hq; omega), dz_beq_ne (fun e => by rw [e, t203] at hq; omega)]
    rcases hq with hq | hq <;> (rw [hq]; rfl)
  have fI : ∀ j, qz_I g (sz_fp h k') j = qz_I h (sz_fp h k') j := fun j => hf.I (pf _ (Or.inl t3)) j
  refine ⟨⟨?_, ?_, fun w => ?_⟩, ?_⟩
  · rw [hfp, fI]; exact d1
  · rw [hfp]; exact rz_D_tr d2 (fI 3) (fI 4) (fun p hp => ⟨hp, hf.2.2 p (pf p (Or.inr hp))⟩)
  · rw [hfp, fI]; exact d3 w
  · exact h2 x _ _ (w2 2 (by omega) (by omega)) d4
/-- a new fact for the points from first to last -/
theorem sz_D_F {τ : Nat → Nat} {h g : cz_H} {F F' : rz_W} {E : Int → Prop} {first last cls : Int} {dec : Option (Int × List Int)} {r : Nat} (hB : ez_B τ h) (t202 : τ 202 = 48) (t203 : τ 203 = 49) (tr : τ r = 3) (hD : sz_D τ h F E) (ht : sz_told τ h g first last r) (r0 : qz_I h r 0 = first) (r2 : qz_I h r 2 = cls) (rd : rz_D τ h r dec) (hone : dec ≠ none → first = last) (hF : ∀ x, F' x = if first ≤ x ∧ x ≤ last then (cls, dec) else F x) : sz_D τ g F' E := by
  obtain ⟨-, -, hf, -, -, hx⟩ := ht
  intro x k x0 x1 hk
  obtain ⟨k', w1, w2, w3⟩ := hx x k x0 x1 hk
  obtain ⟨⟨d1, d2, d3⟩, d4⟩ := hD x k' x0 x1 w1
  obtain ⟨-, t3, ef⟩ := sz_fp_t hB t202 t203 w1
  have pf : ∀ q, τ q = 3 ∨ τ q = 5 → sz_PS τ q = false := fun q hq => by
    unfold sz_PS
    rw [dz_beq_ne (fun e => by rw [e, t202] at hq; omega), dz_beq_ne (fun e => by rw [e, t203] at hq; omega)]
    rcases hq with hq | hq <;> (rw [hq]; rfl)
  have e2 := w2 2 (by omega) (by omega)
  by_cases e : first ≤ x ∧ x ≤ last
  · rw [if_pos e] at w3
    have hfp : sz_fp g k = r := by unfold sz_fp qz_P; omega
    have fI : ∀ j, qz_I g r j = qz_I h r j := fun j => hf.I (pf _ (Or.inl tr)) j
    have hFx := hF x
    rw [if_pos e] at hFx
    refine ⟨⟨?_, ?_, fun w => ?_⟩, ?_⟩
    · rw [hfp, fI, hFx]; exact r2
    · rw [hfp, hFx]; exact rz_D_tr rd (fI 3) (fI 4) (fun p hp => ⟨hp, hf.2.2 p (pf p (Or.inr hp))⟩)
    · rw [hFx] at w
      have := hone w
      rw [hfp, fI, r0]; omega
    · rw [e2]; exact d4
  · rw [if_neg e] at w3
    have hfp : sz_fp g k = sz_fp h k' := by unfold sz_fp qz_P; rw [w3]
    have fI : ∀ j, qz_I g (sz_fp h k') j = qz_I h (sz_fp h k') j := fun j => hf.I (pf _ (Or.inl t3)) j
    have hFx := hF x
    rw [if_neg e] at hFx
    refine ⟨⟨?_, ?_, fun w => ?_⟩, ?_⟩
    · rw [hfp, fI, hFx]; exact d1
    · rw [hfp, hFx]; exact rz_D_tr d2 (fI 3) (fI 4) (fun p hp => ⟨hp, hf.2.2 p (pf p (Or.inr hp))⟩)
    · rw [hFx] at w; rw [hfp, fI]; exact d3 w
    · rw [e2]; exact d4
/-- cells that a LINE may change -/
def fz_P (t : Nat) : Bool := Nat.beq t 4 || (Nat.beq t 6 || (Nat.ble 48 t && Nat.ble t 54))
def fz (τ : Nat → Nat) (h : cz_H) (τ1 : Nat → Nat) (g : cz_H) (dc ds : Nat) : Prop := (∀ q, τ q ≠ 0 → τ1 q = τ q ∧ (fz_P (τ q) = false → g.2.2 q = h.2.2 q)) ∧ (h.1 ≤ g.1 ∧ g.1 ≤ h.1 + dc) ∧ (h.2.1 ≤ g.2.1 ∧ g.2.1 ≤ h.2.1 + ds)
theorem fz.refl (τ : Nat → Nat) (h : cz_H) (dc ds : Nat) : fz τ h τ h dc ds := ⟨fun _ _ => ⟨rfl, fun _ => rfl⟩, ⟨Nat.le_refl _, Nat.le_add_right _ _⟩, Nat.le_refl _, Nat.le_add_right _ _⟩
theorem fz.trans {τ τ1 τ2 : Nat → Nat} {h g1 g2 : cz_H} {a b c e : Nat} (x : fz τ h τ1 g1 a b) (y : fz τ1 g1 τ2 g2 c e) : fz τ h τ2 g2 (a + c) (b + e) := by
  have h1 := x.2
  have h2 := y.2
  refine ⟨fun q hq => ?_, by omega, by omega⟩
  have q1 := x.1 q hq
  have q2 := y.1 q (by rw [q1.1]; exact hq)
  refine ⟨q2.1.trans q1.1, fun w => ?_⟩
  rw [q2.2 (by rw [q1.1]; exact w), q1.2 w]
theorem fz.mono {τ τ1 : Nat → Nat} {h g1 : cz_H} {a b c e : Nat} (x : fz τ h τ1 g1 a b) (h1 : a ≤ c) (h2 : b ≤ e) : fz τ h τ1 g1 c e := by
  have := x.2
  exact ⟨x.1, by omega, by omega⟩
theorem fz_fr {P : Nat → Bool} {τ : Nat → Nat} {h g : cz_H} (hf : ez_fr P h g) (hP : ∀ q, τ q ≠ 0 → fz_P (τ q) = false → P q = false) : fz τ h τ g 0 0 := ⟨fun q hq => ⟨rfl, fun w => hf.2.2 q (hP q hq w)⟩, by rw [hf.1]; omega, by rw [hf.2.1]; omega⟩
theorem fz_xr {τ τ1 : Nat → Nat} {h g : cz_H} {dc ds : Nat} (t720 : τ 720 = 52) (hx : ez_xr τ h τ1 g 720 dc ds) : fz τ h τ1 g dc ds := ⟨fun q hq => ⟨(hx.1 q hq).1, fun w => (hx.1 q hq).2 (fun e => by rw [e, t720] at w; cases w)⟩, hx.2⟩
theorem fz_xt {τ τ1 : Nat → Nat} {h g : cz_H} {dc ds : Nat} (hx : ez_xt τ h τ1 g dc ds) : fz τ h τ1 g dc ds := ⟨fun q hq => ⟨(hx.1 q hq).1, fun _ => (hx.1 q hq).2⟩, hx.2⟩
theorem fz_ft {τ : Nat → Nat} {h g : cz_H} (t721 : τ 721 = 53) (t722 : τ 722 = 54) (hf : ez_fr rz_ft h g) : fz τ h τ g 0 0 := fz_fr hf (fun q _ w => by
  unfold rz_ft
  rw [dz_beq_ne (fun e => by rw [e, t721] at w; cases w), dz_beq_ne (fun e => by rw [e, t722] at w; cases w)]
  rfl)
theorem fz_PS {τ : Nat → Nat} {h g : cz_H} (t202 : τ 202 = 48) (t203 : τ 203 = 49) (hf : ez_fr (sz_PS τ) h g) : fz τ h τ g 0 0 := fz_fr hf (fun q _ w => by
  unfold sz_PS
  rw [dz_beq_ne (fun e => by rw [e, t202] at w; cases w), dz_beq_ne (fun e => by rw [e, t203] at w; cases w), dz_beq_ne (fun e => by rw [e] at w; cases w)]
  rfl)
theorem fz_P6 {τ : Nat → Nat} {h g : cz_H} (hf : ez_fr (sz_P6 τ) h g) : fz τ h τ g 0 0 := fz_fr hf (fun q _ w => by
  unfold sz_P6
  rw [dz_beq_ne (fun e => by rw [e] at w; cases w)])
theorem fz_PE {τ : Nat → Nat} {h g : cz_H} (t202 : τ 202 = 48) (t204 : τ 204 = 50) (t205 : τ 205 = 51) (hf : ez_fr nz_PE h g) : fz τ h τ g 0 0 := fz_fr hf (fun q _ w => by
  unfold nz_PE
  rw [dz_beq_ne (fun e => by rw [e, t202] at w; cases w), dz_beq_ne (fun e => by rw [e, t204] at w; cases w), dz_beq_ne (fun e => by rw [e, t205] at w; cases w)]
  rfl)
theorem fz_1 {τ : Nat → Nat} {h g : cz_H} {r t : Nat} (hr : τ r = t) (ht : fz_P t = true) (hf : ez_fr (ez_one r) h g) : fz τ h τ g 0 0 := fz_fr hf (fun q _ w => dz_beq_ne (fun e => by rw [e, hr, ht] at w; cases w))
/-- fixed places -/
def jz_X (τ : Nat → Nat) : Prop := ∀ r, tz_ex r ≠ 0 → τ r = tz_ex r
theorem jz_X.fz {τ τ1 : Nat → Nat} {h g : cz_H} {a b : Nat} (hX : jz_X τ) (x : fz τ h τ1 g a b) : jz_X τ1 := fun r hr => (x.1 r (by rw [hX r hr]; exact hr)).1.trans (hX r hr)
theorem nz_27 : ∀ s, s < 51 → 0 < s → tz_ex s = 27 := by decide
theorem nzL_lt {s : Nat} {l : List Int} (h : nzL s = some l) : 0 < s ∧ s < 51 := by
  unfold nzL at h
  split at h <;> first | omega | cases h
theorem nz_hz {τ : Nat → Nat} {h : cz_H} (hB : ez_B τ h) (hX : jz_X τ) : ∀ s l, nzL s = some l → τ s = 27 ∧ τ (qz_P h s 0) = 28 := by
  intro s l hl
  obtain ⟨s0, s1⟩ := nzL_lt hl
  have e := nz_27 s s1 s0
  have ts : τ s = 27 := (hX s (by rw [e]; decide)).trans e
  have b : 1 ≤ qz_I h s 0 ∧ qz_I h s 0 ≤ 1000000 := ez_fB (cl := 15) hB ts tq_27 rfl rfl (by decide)
  exact ⟨ts, (ez_old (cl := 15) hB ts tq_27 rfl rfl (by decide) (show qz_I h s 0 = (qz_P h s 0 : Int) + 1 by unfold qz_P; omega)).1⟩
theorem nz_Z_fz {τ τ1 : Nat → Nat} {h g : cz_H} {a b : Nat} (hB : ez_B τ h) (hX : jz_X τ) (hZ : nz_Z h) (x : fz τ h τ1 g a b) : nz_Z g := by
  intro s l hl
  obtain ⟨y1, y2, y3⟩ := hZ s l hl
  obtain ⟨z1, z2⟩ := nz_hz hB hX s l hl
  have e1 := (x.1 s (by rw [z1]; decide)).2 (by rw [z1]; rfl)
  have e2 := (x.1 _ (by rw [z2]; decide)).2 (by rw [z2]; rfl)
  have e3 : qz_P g s 0 = qz_P h s 0 := by unfold qz_P qz_I; rw [e1]
  refine ⟨?_, y2, by rw [e3]; exact y3⟩
  unfold nz_S at *
  rw [e3]
  unfold qz_N qz_I at *
  rw [e2]
  exact y1
/-- the class between calls of line -/
def jz_I (τ : Nat → Nat) (h : cz_H) (F : rz_W) (E : Int → Prop) : Prop := ez_B τ h ∧ jz_X τ ∧ (sz_ok h ∧ sz_inj h) ∧ (∀ i : Nat, (i : Int) < qz_I h 202 4 → 1 ≤ qz_I h 205 i) ∧ qz_I h 202 1 ≤ 1 + 2 * qz_I h 202 5 ∧ nz_Z h ∧ sz_D τ h F E ∧ ∃ Xs : List Int, (Xs.length : Int) ≤ qz_I h 202 5 ∧ ∀ x, (F x).2 ≠ none → x ∈ Xs
