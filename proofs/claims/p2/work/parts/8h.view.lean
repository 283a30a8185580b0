/-! What DATA say of each point: class and decomposition, exclusion. -/
/-- a LINE's fields -/
def rz_ff (b : Int → Int) (A : List (Int × Int)) (k : Int) : Int := rz_tl b (A.getD k.toNat (0, 0))
def rz_tt (b : Int → Int) (A : List (Int × Int)) (k : Int) : Int := rz_tr b (A.getD k.toNat (0, 0))
theorem rz_tl_tr (b : Int → Int) (p : Int × Int) (h : p.1 ≤ p.2) : p.1 ≤ rz_tl b p ∧ rz_tl b p ≤ rz_tr b p ∧ rz_tr b p ≤ p.2 := by
  have h1 := rz_skip_le b (p.2 - p.1).toNat p.1
  have e1 : rz_tl b p = rz_skip b (p.2 - p.1).toNat p.1 := rfl
  rw [← e1] at h1
  have h2 := rz_back_le b (p.2 - rz_tl b p).toNat p.2
  have e2 : rz_tr b p = rz_back b (p.2 - rz_tl b p).toNat p.2 := rfl
  rw [← e2] at h2
  omega
theorem rz_seg_le (b : Int → Int) : ∀ (n : Nat) (i s : Int), s ≤ i → ∀ p ∈ rz_seg b n i s, s ≤ p.1 ∧ p.1 ≤ p.2 ∧ p.2 ≤ i + n
  | 0, i, s, hs, p, hp => by
    unfold rz_seg at hp
    rw [List.mem_singleton] at hp
    subst hp
    exact ⟨Int.le_refl _, hs, by omega⟩
  | n + 1, i, s, hs, p, hp => by
    unfold rz_seg at hp
    split at hp
    · rcases List.mem_cons.mp hp with rfl | hp
      · exact ⟨Int.le_refl _, hs, by show i ≤ _; omega⟩
      · have := rz_seg_le b n (i + 1) (i + 1) (by omega) p hp
        omega
    · have := rz_seg_le b n (i + 1) s (by omega) p hp
      omega
/-- fields where they are known -/
theorem rz_flds_at {b : Int → Int} {h : cz_H} {A : List (Int × Int)} (hA : rz_flds b h A) {k : Int} (k0 : 0 ≤ k) (k1 : k < (A.length : Int)) : rz_f h k = rz_ff b A k ∧ rz_t h k = rz_tt b A k := by
  have hk : k.toNat < A.length := by omega
  have e : A[k.toNat]? = some (A.getD k.toNat (0, 0)) := by
    rw [List.getD_eq_getElem?_getD, List.getElem?_eq_getElem hk]
    rfl
  have := hA k.toNat _ e
  rw [Int.toNat_of_nonneg k0] at this
  exact this
theorem rz_F_congr {b f t f' t' : Int → Int} {first last cls : Int} {dec : Option (Int × List Int)} (hf : ∀ k, 0 ≤ k → k ≤ 6 → f k = f' k) (ht : ∀ k, 0 ≤ k → k ≤ 6 → t k = t' k) (h : rz_F b f t first last cls dec) : rz_F b f' t' first last cls dec := by
  unfold rz_F at *
  rw [← hf 0 (by omega) (by omega), ← hf 1 (by omega) (by omega), ← hf 2 (by omega) (by omega), ← hf 3 (by omega) (by omega), ← ht 0 (by omega) (by omega), ← ht 1 (by omega) (by omega), ← ht 2 (by omega) (by omega), ← ht 3 (by omega) (by omega)]
  refine ⟨h.1, h.2.1, h.2.2.1, h.2.2.2.1, fun k k4 k6 => ?_, fun w k k3 k6 => ?_⟩
  · rw [← hf k (by omega) k6, ← ht k (by omega) k6]; exact h.2.2.2.2.1 k k4 k6
  · rw [← hf k (by omega) k6, ← ht k (by omega) k6]; exact h.2.2.2.2.2 w k k3 k6
/-- a tape of n bytes is a LINE with w fields, these -/
def rz_A (b : Int → Int) (n : Int) (w : Nat) (A : List (Int × Int)) : Prop := ∃ c, rz_plain b n ∧ rz_hash b n c ∧ A = rz_seg b c.toNat 0 0 ∧ A.length = w
theorem rz_A_uniq {b : Int → Int} {n : Int} {w : Nat} {A A' : List (Int × Int)} (h : rz_A b n w A) (h' : rz_A b n w A') : A = A' := by
  obtain ⟨c, -, h2, h3, -⟩ := h
  obtain ⟨c', -, h2', h3', -⟩ := h'
  rw [h3, h3', rz_hash_uniq h2 h2']
theorem rz_A_pos {b : Int → Int} {n : Int} {w : Nat} {A : List (Int × Int)} (hw : 2 ≤ w) (h : rz_A b n w A) : 0 < n := by
  obtain ⟨c, -, h2, h3, h4⟩ := h
  by_cases e : c = 0
  · subst e
    rw [h3] at h4
    unfold rz_seg at h4
    simp at h4
    omega
  · have := h2.1
    have := h2.2.1
    omega
/-- a LINE 0 -/
def rz_L0 (b : Int → Int) (n first last cls : Int) (dec : Option (Int × List Int)) : Prop := ∃ A, rz_A b n 7 A ∧ rz_F b (rz_ff b A) (rz_tt b A) first last cls dec
/-- a LINE 3 that names Composition_Exclusion -/
def rz_L3 (b : Int → Int) (n first last : Int) : Prop := ∃ A, rz_A b n 2 A ∧ (first = rz_first b (rz_ff b A 0) (rz_tt b A 0) ∧ last = rz_last b (rz_ff b A 0) (rz_tt b A 0) ∧ first ≠ -1 ∧ first ≤ last) ∧ rz_CE b (rz_ff b A 1) (rz_tt b A 1)
theorem rz_F_uniq {b f t : Int → Int} {first last cls first' last' cls' : Int} {dec dec' : Option (Int × List Int)} (h : rz_F b f t first last cls dec) (h' : rz_F b f t first' last' cls' dec') : first = first' ∧ last = last' ∧ cls = cls' ∧ dec = dec' := by
  refine ⟨h.1.1.trans h'.1.1.symm, h.1.2.1.trans h'.1.2.1.symm, h.2.2.1.2.2.trans h'.2.2.1.2.2.symm, ?_⟩
  rcases h.2.2.2.1 with ⟨a1, a2⟩ | ⟨a1, cp, bg, vs, a2, a3, a4⟩
  · rcases h'.2.2.2.1 with ⟨b1, b2⟩ | ⟨b1, -⟩
    · rw [a2, b2]
    · exact absurd a1 b1
  · rcases h'.2.2.2.1 with ⟨b1, b2⟩ | ⟨b1, cp', bg', vs', b2, b3, b4⟩
    · exact absurd b1 a1
    · rw [a2] at b2; cases b2
      rw [a3] at b3; cases b3
      rw [a4, b4]
theorem rz_L0_uniq {b : Int → Int} {n first last cls first' last' cls' : Int} {dec dec' : Option (Int × List Int)} (h : rz_L0 b n first last cls dec) (h' : rz_L0 b n first' last' cls' dec') : first = first' ∧ last = last' ∧ cls = cls' ∧ dec = dec' := by
  obtain ⟨A, a1, a2⟩ := h
  obtain ⟨A', b1, b2⟩ := h'
  rw [← rz_A_uniq a1 b1] at b2
  exact rz_F_uniq a2 b2
theorem rz_L3_uniq {b : Int → Int} {n first last first' last' : Int} (h : rz_L3 b n first last) (h' : rz_L3 b n first' last') : first = first' ∧ last = last' := by
  obtain ⟨A, a1, a2, -⟩ := h
  obtain ⟨A', b1, b2, -⟩ := h'
  rw [← rz_A_uniq a1 b1] at b2
  exact ⟨a2.1.trans b2.1.symm, a2.2.1.trans b2.2.1.symm⟩
/-- what is told of each point: class and decomposition; Composition_Exclusion -/
abbrev rz_W : Type := Int → Int × Option (Int × List Int)
/-- what a LINE does to it -/
def rz_step (b : Int → Int) (n kind : Int) (F : rz_W) (E : Int → Prop) (F' : rz_W) (E' : Int → Prop) : Prop :=
  (kind = 0 → ((∃ first last cls dec, rz_L0 b n first last cls dec ∧ (∀ x, F' x = if first ≤ x ∧ x ≤ last then (cls, dec) else F x) ∧ E' = E) ∨ ((¬ ∃ first last cls dec, rz_L0 b n first last cls dec) ∧ F' = F ∧ E' = E))) ∧
  (kind = 3 → ((∃ first last, rz_L3 b n first last ∧ F' = F ∧ (∀ x, E' x ↔ (E x ∨ (first ≤ x ∧ x ≤ last)))) ∨ ((¬ ∃ first last, rz_L3 b n first last) ∧ F' = F ∧ E' = E))) ∧
  (kind ≠ 0 → kind ≠ 3 → F' = F ∧ E' = E)
theorem rz_step_uniq {b : Int → Int} {n kind : Int} {F F1 F2 : rz_W} {E E1 E2 : Int → Prop} (h1 : rz_step b n kind F E F1 E1) (h2 : rz_step b n kind F E F2 E2) : F1 = F2 ∧ E1 = E2 := by
  by_cases k0 : kind = 0
  · rcases h1.1 k0 with ⟨f, l, c, dd, a1, a2, a3⟩ | ⟨a1, a2, a3⟩
    · rcases h2.1 k0 with ⟨f', l', c', d', b1, b2, b3⟩ | ⟨b1, -⟩
      · obtain ⟨rfl, rfl, rfl, rfl⟩ := rz_L0_uniq a1 b1
        exact ⟨funext fun x => (a2 x).trans (b2 x).symm, a3.trans b3.symm⟩
      · exact absurd ⟨f, l, c, dd, a1⟩ b1
    · rcases h2.1 k0 with ⟨f', l', c', d', b1, -⟩ | ⟨b1, b2, b3⟩
      · exact absurd ⟨f', l', c', d', b1⟩ a1
      · exact ⟨a2.trans b2.symm, a3.trans b3.symm⟩
  · by_cases k3 : kind = 3
    · rcases h1.2.1 k3 with ⟨f, l, a1, a2, a3⟩ | ⟨a1, a2, a3⟩
      · rcases h2.2.1 k3 with ⟨f', l', b1, b2, b3⟩ | ⟨b1, -⟩
        · obtain ⟨rfl, rfl⟩ := rz_L3_uniq a1 b1
          exact ⟨a2.trans b2.symm, funext fun x => propext ((a3 x).trans (b3 x).symm)⟩
        · exact absurd ⟨f, l, a1⟩ b1
      · rcases h2.2.1 k3 with ⟨f', l', b1, -⟩ | ⟨b1, b2, b3⟩
        · exact absurd ⟨f', l', b1⟩ a1
        · exact ⟨a2.trans b2.symm, a3.trans b3.symm⟩
    · obtain ⟨a1, a2⟩ := h1.2.2 k0 k3
      obtain ⟨b1, b2⟩ := h2.2.2 k0 k3
      exact ⟨a1.trans b1.symm, a2.trans b2.symm⟩
/-- DATA's view -/
def sz_fp (h : cz_H) (k : Int) : Nat := qz_P h (sz_p h k) 1
def sz_D (τ : Nat → Nat) (h : cz_H) (F : rz_W) (E : Int → Prop) : Prop := ∀ x k, 0 ≤ x → x ≤ 1114111 → sz_at h x k → (qz_I h (sz_fp h k) 2 = (F x).1 ∧ rz_D τ h (sz_fp h k) (F x).2 ∧ ((F x).2 ≠ none → qz_I h (sz_fp h k) 0 = x)) ∧ (sz_t0 (qz_I h (sz_p h k) 2) ↔ E x)
theorem sz_fp_t {τ : Nat → Nat} {h : cz_H} (hB : ez_B τ h) (t202 : τ 202 = 48) (t203 : τ 203 = 49) {x k : Int} (hk : sz_at h x k) : τ (sz_p h k) = 4 ∧ τ (sz_fp h k) = 3 ∧ qz_I h (sz_p h k) 1 = (sz_fp h k : Int) + 1 := by
  have bn := sz_R_n1 hB t202
  have k1 := hk.2.1
  have t4 := sz_tag hB t203 hk.1 (show k < 513 by omega)
  have b1 : 1 ≤ qz_I h (sz_p h k) 1 ∧ qz_I h (sz_p h k) 1 ≤ 1000000 := ez_fB (cl := 4) hB t4 tq_4 rfl rfl (by decide)
  have e : qz_I h (sz_p h k) 1 = (sz_fp h k : Int) + 1 := by unfold sz_fp qz_P; omega
  exact ⟨t4, (ez_old (cl := 4) hB t4 tq_4 rfl rfl (by decide) e).1, e⟩
/-- a Fact's view where its cells are the same -/
theorem rz_D_tr {τ τ1 : Nat → Nat} {h g : cz_H} {r : Nat} {dec : Option (Int × List Int)} (hD : rz_D τ h r dec) (e3 : qz_I g r 3 = qz_I h r 3) (e4 : qz_I g r 4 = qz_I h r 4) (ep : ∀ p, τ p = 5 → τ1 p = 5 ∧ g.2.2 p = h.2.2 p) : rz_D τ1 g r dec := by
  match dec with
  | none => exact e3.trans hD
  | some (cp, vs) =>
    obtain ⟨p, p1, p2, p3, p4, p5⟩ := hD
    obtain ⟨q1, q2⟩ := ep p p1
    exact ⟨p, q1, e3.trans p2, e4.trans p3, by unfold qz_N; rw [q2]; exact p4, fun j v hj => by unfold qz_I; rw [q2]; exact p5 j v hj⟩
/-- the view where nothing of it changes -/
theorem sz_D_tr {τ τ1 : Nat → Nat} {h g : cz_H} {F : rz_W} {E : Int → Prop} (hB : ez_B τ h) (t202 : τ 202 = 48) (t203 : τ 203 = 49) (hD : sz_D τ h F E) (e2 : qz_I g 202 1 = qz_I h 202 1) (e3 : g.2.2 203 = h.2.2 203) (e4 : ∀ q, τ q = 4 → g.2.2 q = h.2.2 q) (ef : ∀ q, τ q = 3 → qz_I g q 0 = qz_I h q 0 ∧ qz_I g q 2 = qz_I h q 2 ∧ qz_I g q 3 = qz_I h q 3 ∧ qz_I g q 4 = qz_I h q 4) (ep : ∀ p, τ p = 5 → τ1 p = 5 ∧ g.2.2 p = h.2.2 p) : sz_D τ1 g F E := by
  have bn := sz_R_n1 hB t202
  have hp : ∀ k, sz_p g k = sz_p h k := fun k => by unfold sz_p qz_P qz_I; rw [e3]
  have hs : ∀ k, 0 ≤ k → k < 513 → ∀ j, qz_I g (sz_p g k) j = qz_I h (sz_p h k) j := fun k k0 k1 j => by
    rw [hp]
    unfold qz_I
    rw [e4 _ (sz_tag hB t203 k0 k1)]
  intro x k x0 x1 hk
  have k0 := hk.1
  have k1 := hk.2.1
  have hk' : sz_at h x k := by
    obtain ⟨c0, c1, c2, c3⟩ := hk
    rw [e2] at c1 c3
    unfold sz_f at c2 c3
    refine ⟨c0, c1, ?_, fun w => ?_⟩
    · unfold sz_f; rw [← hs k c0 (by omega)]; exact c2
    · unfold sz_f; rw [← hs (k + 1) (by omega) (by omega)]; exact c3 w
  rw [e2] at k1
  obtain ⟨⟨d1, d2, d3⟩, d4⟩ := hD x k x0 x1 hk'
  obtain ⟨-, t3, -⟩ := sz_fp_t hB t202 t203 hk'
  have hfp : sz_fp g k = sz_fp h k := by unfold sz_fp qz_P; rw [hs k k0 (by omega)]
  obtain ⟨f0, f2, f3, f4⟩ := ef _ t3
  refine ⟨⟨?_, ?_, fun w => ?_⟩, ?_⟩
  · rw [hfp, f2]; exact d1
  · rw [hfp]; exact rz_D_tr d2 f3 f4 ep
  · rw [hfp, f0]; exact d3 w
  · rw [hs k k0 (by omega)]; exact d4
/-- behind a cut and what is told of the points of a span -/
theorem sz_D_R {τ : Nat → Nat} {h g : cz_H} {F : rz_W} {E E' : Int → Prop} {first last : Int} {Rl : Prop → Nat → Int → Int → Prop} (hB : ez_B τ h) (t202 : τ 202 = 48) (t203 : τ 203 = 49) (hD : sz_D τ h F E) (ht : sz_toldR τ h g first last Rl) (h1 : ∀ P u v, Rl P 1 u v → v = u) (h2 : ∀ x u v, Rl (first ≤ x ∧ x ≤ last) 2 u v → (sz_t0 u ↔ E x) → (sz_t0 v ↔ E' x)) : sz_D τ g F E' := by
  obtain ⟨-, -, hf, -, -, hx⟩ := ht
  intro x k x0 x1 hk
  obtain ⟨k', w1, w2⟩ := hx x k x0 x1 hk
  obtain ⟨⟨d1, d2, d3⟩, d4⟩ := hD x k' x0 x1 w1
  obtain ⟨-, t3, -⟩ := sz_fp_t hB t202 t203 w1
  have e1 := h1 _ _ _ (w2 1 (by omega) (by omega))
  have hfp : sz_fp g k = sz_fp h k' := by unfold sz_fp qz_P; rw [e1]
  have pf : ∀ q, τ q = 3 ∨ τ q = 5 → sz_PS τ q = false := fun q hq => by
    unfold sz_PS
    rw [dz_beq_ne (fun e => by rw [e, t202] at hq; omega), dz_beq_ne (fun e => by rw [e, t203] at hq; omega)]
    rcases hq with hq | hq <;> (rw [hq]; rfl)
  have fI : ∀ j, qz_I g (sz_fp h k') j = qz_I h (sz_fp h k') j := fun j => hf.I (pf _ (Or.inl t3)) j
  refine ⟨⟨?_, ?_, fun w => ?_⟩, ?_⟩
  · rw [hfp, fI]; exact d1
  · rw [hfp]; exact rz_D_tr d2 (fI 3) (fI 4) (fun p hp => ⟨hp, hf.2.2 p (pf p (Or.inr hp))⟩)
  · rw [hfp, fI]; exact d3 w
  · exact h2 x _ _ (w2 2 (by omega) (by omega)) d4
/-- a new fact for the points from first to last -/
theorem sz_D_F {τ : Nat → Nat} {h g : cz_H} {F F' : rz_W} {E : Int → Prop} {first last cls : Int} {dec : Option (Int × List Int)} {r : Nat} (hB : ez_B τ h) (t202 : τ 202 = 48) (t203 : τ 203 = 49) (tr : τ r = 3) (hD : sz_D τ h F E) (ht : sz_told τ h g first last r) (r0 : qz_I h r 0 = first) (r2 : qz_I h r 2 = cls) (rd : rz_D τ h r dec) (hone : dec ≠ none → first = last) (hF : ∀ x, F' x = if first ≤ x ∧ x ≤ last then (cls, dec) else F x) : sz_D τ g F' E := by
  obtain ⟨-, -, hf, -, -, hx⟩ := ht
  intro x k x0 x1 hk
  obtain ⟨k', w1, w2, w3⟩ := hx x k x0 x1 hk
  obtain ⟨⟨d1, d2, d3⟩, d4⟩ := hD x k' x0 x1 w1
  obtain ⟨-, t3, ef⟩ := sz_fp_t hB t202 t203 w1
  have pf : ∀ q, τ q = 3 ∨ τ q = 5 → sz_PS τ q = false := fun q hq => by
    unfold sz_PS
    rw [dz_beq_ne (fun e => by rw [e, t202] at hq; omega), dz_beq_ne (fun e => by rw [e, t203] at hq; omega)]
    rcases hq with hq | hq <;> (rw [hq]; rfl)
  have e2 := w2 2 (by omega) (by omega)
  by_cases e : first ≤ x ∧ x ≤ last
  · rw [if_pos e] at w3
    have hfp : sz_fp g k = r := by unfold sz_fp qz_P; omega
    have fI : ∀ j, qz_I g r j = qz_I h r j := fun j => hf.I (pf _ (Or.inl tr)) j
    have hFx := hF x
    rw [if_pos e] at hFx
    refine ⟨⟨?_, ?_, fun w => ?_⟩, ?_⟩
    · rw [hfp, fI, hFx]; exact r2
    · rw [hfp, hFx]; exact rz_D_tr rd (fI 3) (fI 4) (fun p hp => ⟨hp, hf.2.2 p (pf p (Or.inr hp))⟩)
    · rw [hFx] at w
      have := hone w
      rw [hfp, fI, r0]; omega
    · rw [e2]; exact d4
  · rw [if_neg e] at w3
    have hfp : sz_fp g k = sz_fp h k' := by unfold sz_fp qz_P; rw [w3]
    have fI : ∀ j, qz_I g (sz_fp h k') j = qz_I h (sz_fp h k') j := fun j => hf.I (pf _ (Or.inl t3)) j
    have hFx := hF x
    rw [if_neg e] at hFx
    refine ⟨⟨?_, ?_, fun w => ?_⟩, ?_⟩
    · rw [hfp, fI, hFx]; exact d1
    · rw [hfp, hFx]; exact rz_D_tr d2 (fI 3) (fI 4) (fun p hp => ⟨hp, hf.2.2 p (pf p (Or.inr hp))⟩)
    · rw [hFx] at w; rw [hfp, fI]; exact d3 w
    · rw [e2]; exact d4
/-- cells that a LINE may change -/
def fz_P (t : Nat) : Bool := Nat.beq t 4 || (Nat.beq t 6 || (Nat.ble 48 t && Nat.ble t 54))
def fz (τ : Nat → Nat) (h : cz_H) (τ1 : Nat → Nat) (g : cz_H) (dc ds : Nat) : Prop := (∀ q, τ q ≠ 0 → τ1 q = τ q ∧ (fz_P (τ q) = false → g.2.2 q = h.2.2 q)) ∧ (h.1 ≤ g.1 ∧ g.1 ≤ h.1 + dc) ∧ (h.2.1 ≤ g.2.1 ∧ g.2.1 ≤ h.2.1 + ds)
theorem fz.refl (τ : Nat → Nat) (h : cz_H) (dc ds : Nat) : fz τ h τ h dc ds := ⟨fun _ _ => ⟨rfl, fun _ => rfl⟩, ⟨Nat.le_refl _, Nat.le_add_right _ _⟩, Nat.le_refl _, Nat.le_add_right _ _⟩
theorem fz.trans {τ τ1 τ2 : Nat → Nat} {h g1 g2 : cz_H} {a b c e : Nat} (x : fz τ h τ1 g1 a b) (y : fz τ1 g1 τ2 g2 c e) : fz τ h τ2 g2 (a + c) (b + e) := by
  have h1 := x.2
  have h2 := y.2
  refine ⟨fun q hq => ?_, by omega, by omega⟩
  have q1 := x.1 q hq
  have q2 := y.1 q (by rw [q1.1]; exact hq)
  refine ⟨q2.1.trans q1.1, fun w => ?_⟩
  rw [q2.2 (by rw [q1.1]; exact w), q1.2 w]
theorem fz.mono {τ τ1 : Nat → Nat} {h g1 : cz_H} {a b c e : Nat} (x : fz τ h τ1 g1 a b) (h1 : a ≤ c) (h2 : b ≤ e) : fz τ h τ1 g1 c e := by
  have := x.2
  exact ⟨x.1, by omega, by omega⟩
theorem fz_fr {P : Nat → Bool} {τ : Nat → Nat} {h g : cz_H} (hf : ez_fr P h g) (hP : ∀ q, τ q ≠ 0 → fz_P (τ q) = false → P q = false) : fz τ h τ g 0 0 := ⟨fun q hq => ⟨rfl, fun w => hf.2.2 q (hP q hq w)⟩, by rw [hf.1]; omega, by rw [hf.2.1]; omega⟩
theorem fz_xr {τ τ1 : Nat → Nat} {h g : cz_H} {dc ds : Nat} (t720 : τ 720 = 52) (hx : ez_xr τ h τ1 g 720 dc ds) : fz τ h τ1 g dc ds := ⟨fun q hq => ⟨(hx.1 q hq).1, fun w => (hx.1 q hq).2 (fun e => by rw [e, t720] at w; cases w)⟩, hx.2⟩
theorem fz_xt {τ τ1 : Nat → Nat} {h g : cz_H} {dc ds : Nat} (hx : ez_xt τ h τ1 g dc ds) : fz τ h τ1 g dc ds := ⟨fun q hq => ⟨(hx.1 q hq).1, fun _ => (hx.1 q hq).2⟩, hx.2⟩
theorem fz_ft {τ : Nat → Nat} {h g : cz_H} (t721 : τ 721 = 53) (t722 : τ 722 = 54) (hf : ez_fr rz_ft h g) : fz τ h τ g 0 0 := fz_fr hf (fun q _ w => by
  unfold rz_ft
  rw [dz_beq_ne (fun e => by rw [e, t721] at w; cases w), dz_beq_ne (fun e => by rw [e, t722] at w; cases w)]
  rfl)
theorem fz_PS {τ : Nat → Nat} {h g : cz_H} (t202 : τ 202 = 48) (t203 : τ 203 = 49) (hf : ez_fr (sz_PS τ) h g) : fz τ h τ g 0 0 := fz_fr hf (fun q _ w => by
  unfold sz_PS
  rw [dz_beq_ne (fun e => by rw [e, t202] at w; cases w), dz_beq_ne (fun e => by rw [e, t203] at w; cases w), dz_beq_ne (fun e => by rw [e] at w; cases w)]
  rfl)
theorem fz_P6 {τ : Nat → Nat} {h g : cz_H} (hf : ez_fr (sz_P6 τ) h g) : fz τ h τ g 0 0 := fz_fr hf (fun q _ w => by
  unfold sz_P6
  rw [dz_beq_ne (fun e => by rw [e] at w; cases w)])
theorem fz_PE {τ : Nat → Nat} {h g : cz_H} (t202 : τ 202 = 48) (t204 : τ 204 = 50) (t205 : τ 205 = 51) (hf : ez_fr nz_PE h g) : fz τ h τ g 0 0 := fz_fr hf (fun q _ w => by
  unfold nz_PE
  rw [dz_beq_ne (fun e => by rw [e, t202] at w; cases w), dz_beq_ne (fun e => by rw [e, t204] at w; cases w), dz_beq_ne (fun e => by rw [e, t205] at w; cases w)]
  rfl)
theorem fz_1 {τ : Nat → Nat} {h g : cz_H} {r t : Nat} (hr : τ r = t) (ht : fz_P t = true) (hf : ez_fr (ez_one r) h g) : fz τ h τ g 0 0 := fz_fr hf (fun q _ w => dz_beq_ne (fun e => by rw [e, hr, ht] at w; cases w))
/-- fixed places -/
def jz_X (τ : Nat → Nat) : Prop := ∀ r, tz_ex r ≠ 0 → τ r = tz_ex r
theorem jz_X.fz {τ τ1 : Nat → Nat} {h g : cz_H} {a b : Nat} (hX : jz_X τ) (x : fz τ h τ1 g a b) : jz_X τ1 := fun r hr => (x.1 r (by rw [hX r hr]; exact hr)).1.trans (hX r hr)
theorem nz_27 : ∀ s, s < 51 → 0 < s → tz_ex s = 27 := by decide
theorem nzL_lt {s : Nat} {l : List Int} (h : nzL s = some l) : 0 < s ∧ s < 51 := by
  unfold nzL at h
  split at h <;> first | omega | cases h
theorem nz_hz {τ : Nat → Nat} {h : cz_H} (hB : ez_B τ h) (hX : jz_X τ) : ∀ s l, nzL s = some l → τ s = 27 ∧ τ (qz_P h s 0) = 28 := by
  intro s l hl
  obtain ⟨s0, s1⟩ := nzL_lt hl
  have e := nz_27 s s1 s0
  have ts : τ s = 27 := (hX s (by rw [e]; decide)).trans e
  have b : 1 ≤ qz_I h s 0 ∧ qz_I h s 0 ≤ 1000000 := ez_fB (cl := 15) hB ts tq_27 rfl rfl (by decide)
  exact ⟨ts, (ez_old (cl := 15) hB ts tq_27 rfl rfl (by decide) (show qz_I h s 0 = (qz_P h s 0 : Int) + 1 by unfold qz_P; omega)).1⟩
theorem nz_Z_fz {τ τ1 : Nat → Nat} {h g : cz_H} {a b : Nat} (hB : ez_B τ h) (hX : jz_X τ) (hZ : nz_Z h) (x : fz τ h τ1 g a b) : nz_Z g := by
  intro s l hl
  obtain ⟨y1, y2, y3⟩ := hZ s l hl
  obtain ⟨z1, z2⟩ := nz_hz hB hX s l hl
  have e1 := (x.1 s (by rw [z1]; decide)).2 (by rw [z1]; rfl)
  have e2 := (x.1 _ (by rw [z2]; decide)).2 (by rw [z2]; rfl)
  have e3 : qz_P g s 0 = qz_P h s 0 := by unfold qz_P qz_I; rw [e1]
  refine ⟨?_, y2, by rw [e3]; exact y3⟩
  unfold nz_S at *
  rw [e3]
  unfold qz_N qz_I at *
  rw [e2]
  exact y1
/-- the class between calls of line -/
def jz_I (τ : Nat → Nat) (h : cz_H) (F : rz_W) (E : Int → Prop) : Prop := ez_B τ h ∧ jz_X τ ∧ (sz_ok h ∧ sz_inj h) ∧ (∀ i : Nat, (i : Int) < qz_I h 202 4 → 1 ≤ qz_I h 205 i) ∧ qz_I h 202 1 ≤ 1 + 2 * qz_I h 202 5 ∧ nz_Z h ∧ sz_D τ h F E ∧ ∃ Xs : List Int, (Xs.length : Int) ≤ qz_I h 202 5 ∧ ∀ x, (F x).2 ≠ none → x ∈ Xs
/-! The class: take. (Written by wip/p2/py/pv26.py.) -/
section EzTa
variable {d : Nat} {h : cz_H} {τ : Nat → Nat} {Q : cz_F → Prop}
theorem rd_fieldsOf0 (k : Q (.inl (some (ez_v (.inl 7))), h)) : ez_W d cm_150 0 [(0, .inl (0))] [] h Q := by
  refine ez_go (n := 1) (pc' := 1) (L' := [(0, .inl (0))]) (st' := [.inl (0)]) rfl ?_
  refine ez_sw rfl ⟨by decide, by decide⟩ ⟨_, rfl, rfl⟩ ?_
  refine ez_go (n := 1) (pc' := 30) (L' := [(0, .inl (0))]) (st' := [.inl (7)]) rfl ?_
  exact ez_retI rfl rfl k

theorem rd_fieldsOf1 (k : Q (.inl (some (ez_v (.inl 5))), h)) : ez_W d cm_150 0 [(0, .inl (1))] [] h Q := by
  refine ez_go (n := 1) (pc' := 1) (L' := [(0, .inl (1))]) (st' := [.inl (1)]) rfl ?_
  refine ez_sw rfl ⟨by decide, by decide⟩ ⟨_, rfl, rfl⟩ ?_
  refine ez_go (n := 1) (pc' := 32) (L' := [(0, .inl (1))]) (st' := [.inl (5)]) rfl ?_
  exact ez_retI rfl rfl k

theorem rd_fieldsOf2 (k : Q (.inl (some (ez_v (.inl 3))), h)) : ez_W d cm_150 0 [(0, .inl (2))] [] h Q := by
  refine ez_go (n := 1) (pc' := 1) (L' := [(0, .inl (2))]) (st' := [.inl (2)]) rfl ?_
  refine ez_sw rfl ⟨by decide, by decide⟩ ⟨_, rfl, rfl⟩ ?_
  refine ez_go (n := 1) (pc' := 34) (L' := [(0, .inl (2))]) (st' := [.inl (3)]) rfl ?_
  exact ez_retI rfl rfl k

theorem rd_fieldsOf3 (k : Q (.inl (some (ez_v (.inl 2))), h)) : ez_W d cm_150 0 [(0, .inl (3))] [] h Q := by
  refine ez_go (n := 1) (pc' := 1) (L' := [(0, .inl (3))]) (st' := [.inl (3)]) rfl ?_
  refine ez_sw rfl ⟨by decide, by decide⟩ ⟨_, rfl, rfl⟩ ?_
  refine ez_go (n := 1) (pc' := 36) (L' := [(0, .inl (3))]) (st' := [.inl (2)]) rfl ?_
  exact ez_retI rfl rfl k

theorem rd_fieldsOf4 (k : Q (.inl (some (ez_v (.inl 2))), h)) : ez_W d cm_150 0 [(0, .inl (4))] [] h Q := by
  refine ez_go (n := 1) (pc' := 1) (L' := [(0, .inl (4))]) (st' := [.inl (4)]) rfl ?_
  refine ez_sw rfl ⟨by decide, by decide⟩ ⟨_, rfl, rfl⟩ ?_
  refine ez_go (n := 1) (pc' := 36) (L' := [(0, .inl (4))]) (st' := [.inl (2)]) rfl ?_
  exact ez_retI rfl rfl k

theorem rd_take_e {v kd n : Int} (hB : ez_B τ h) (t720 : τ 720 = 52) (t202 : τ 202 = 48) (v0 : -1 ≤ v) (v1 : v ≤ 1114112) (hl : v = -1 ∨ qz_I h 202 5 ≤ 255) (k : ∀ g, ez_B τ g → ez_fr (ez_one 202) h g → (∀ j, j ≠ 5 → qz_I g 202 j = qz_I h 202 j) → qz_I g 202 5 = qz_I h 202 5 + (if v = -1 then 0 else 1) → Q (.inl (some (ez_v (.inl v))), g)) : ez_W (d + 1) cm_174 97 [(3, .inl (v)), (0, .inr (.inr (some (720)))), (1, .inl (kd)), (2, .inl (n))] [] h Q := by
  refine ez_go (n := 1) (pc' := 98) (L' := [(3, .inl (v)), (0, .inr (.inr (some (720)))), (1, .inl (kd)), (2, .inl (n))]) (st' := [.inr (.inr (some (720)))]) rfl ?_
  refine ez_gC (p := 202) (tg := 48) hB t720 rfl rfl tq_52 rfl rfl (fun (t202 : _ = 48) => ?_)
  refine ez_go (n := 1) (pc' := 102) (L' := [(3, .inl (v)), (0, .inr (.inr (some (720)))), (1, .inl (kd)), (2, .inl (n))]) (st' := [.inr (.inr (some (202))), .inr (.inr (some (202)))]) rfl ?_
  refine ez_gI hB t202 rfl rfl tq_48 rfl rfl (fun (b1 : 0 ≤ qz_I h 202 5) (b1' : qz_I h 202 5 ≤ 256) => ?_)
  refine ez_go (n := 2) (pc' := 107) (L' := [(3, .inl (v)), (0, .inr (.inr (some (720)))), (1, .inl (kd)), (2, .inl (n))]) (st' := [.inl (-1), .inl (v), .inl (qz_I h 202 5), .inr (.inr (some (202)))]) rfl ?_
  refine ez_icmp rfl rfl ⟨by first | omega | exact (sz_i32 _).1, by first | omega | exact (sz_i32 _).2⟩ ⟨by first | omega | exact (sz_i32 _).1, by first | omega | exact (sz_i32 _).2⟩ (fun (c2 : (v) = (-1)) => ?_) (fun (c2 : ¬((v) = (-1))) => ?_)
  · skip
    refine ez_go (n := 2) (pc' := 116) (L' := [(3, .inl (v)), (0, .inr (.inr (some (720)))), (1, .inl (kd)), (2, .inl (n))]) (st' := [.inl ((qz_I h 202 5) + (0)), .inr (.inr (some (202)))]) rfl ?_
    refine ez_pf hB t202 rfl rfl tq_48 rfl rfl rfl rfl (ez_vdI rfl rfl (by omega) (by omega)) (fun hB3 w4 => ?_)
    refine ez_go (n := 1) (pc' := 120) (L' := [(3, .inl (v)), (0, .inr (.inr (some (720)))), (1, .inl (kd)), (2, .inl (n))]) (st' := [.inl (v)]) rfl ?_
    exact ez_retI rfl rfl (k _ hB3 ((ez_fr.refl (ez_one 202) h).put (show Nat.beq 202 202 = true from rfl) _ _) (fun j hj => ez_put_I (fun w => hj w.2)) (by rw [w4, rz_rd ⟨by omega, by omega⟩]; split <;> omega))
  · skip
    refine ez_go (n := 3) (pc' := 116) (L' := [(3, .inl (v)), (0, .inr (.inr (some (720)))), (1, .inl (kd)), (2, .inl (n))]) (st' := [.inl ((qz_I h 202 5) + (1)), .inr (.inr (some (202)))]) rfl ?_
    refine ez_pf hB t202 rfl rfl tq_48 rfl rfl rfl rfl (ez_vdI rfl rfl (by omega) (by omega)) (fun hB5 w6 => ?_)
    refine ez_go (n := 1) (pc' := 120) (L' := [(3, .inl (v)), (0, .inr (.inr (some (720)))), (1, .inl (kd)), (2, .inl (n))]) (st' := [.inl (v)]) rfl ?_
    exact ez_retI rfl rfl (k _ hB5 ((ez_fr.refl (ez_one 202) h).put (show Nat.beq 202 202 = true from rfl) _ _) (fun j hj => ez_put_I (fun w => hj w.2)) (by rw [w6, rz_rd ⟨by omega, by omega⟩]; split <;> omega))

/-- behind a LINE that is none: nothing of DATA has changed -/
theorem jz_no {τ1 : Nat → Nat} {g : cz_H} {F : rz_W} {E : Int → Prop} {a b : Nat} (hI : jz_I τ h F E) (hB : ez_B τ1 g) (x : fz τ h τ1 g a b) (e2 : ∀ j, qz_I g 202 j = qz_I h 202 j) (e3 : g.2.2 203 = h.2.2 203) (e5 : g.2.2 205 = h.2.2 205) (e4 : ∀ q, τ q = 4 → g.2.2 q = h.2.2 q) : jz_I τ1 g F E := by
  obtain ⟨i1, i2, ⟨i3, i4⟩, i5, i6, i7, i8, Xs, i9, i10⟩ := hI
  have t202 : τ 202 = 48 := i2 202 (by decide)
  have t203 : τ 203 = 49 := i2 203 (by decide)
  have bn := sz_R_n1 i1 t202
  have hp : ∀ k, sz_p g k = sz_p h k := fun k => by unfold sz_p qz_P qz_I; rw [e3]
  have hs : ∀ k, 0 ≤ k → k < 513 → ∀ j, qz_I g (sz_p g k) j = qz_I h (sz_p h k) j := fun k k0 k1 j => by
    rw [hp]
    unfold qz_I
    rw [e4 _ (sz_tag i1 t203 k0 k1)]
  refine ⟨hB, i2.fz x, ⟨⟨?_, fun i j i0 ij jn => ?_⟩, fun i j i0 i1' j0 j1 e => ?_⟩, fun i hi => ?_, ?_, nz_Z_fz i1 i2 i7 x, ?_, Xs, ?_, i10⟩
  · unfold sz_f; rw [hs 0 (by omega) (by omega)]; exact i3.1
  · rw [e2] at jn
    unfold sz_f
    rw [hs i i0 (by omega), hs j (by omega) (by omega)]
    exact i3.2 i j i0 ij jn
  · rw [hp, hp] at e; exact i4 i j i0 i1' j0 j1 e
  · rw [e2] at hi; unfold qz_I; rw [e5]; exact i5 i hi
  · rw [e2, e2]; exact i6
  · refine sz_D_tr i1 t202 t203 i8 (e2 1) e3 e4 (fun q hq => ?_) (fun p hp => ?_)
    · have := (x.1 q (by rw [hq]; decide)).2 (by rw [hq]; rfl)
      unfold qz_I; rw [this]; exact ⟨rfl, rfl, rfl, rfl⟩
    · have := x.1 p (by rw [hp]; decide)
      exact ⟨this.1.trans hp, this.2 (by rw [hp]; rfl)⟩
  · rw [e2]; exact i9
/-- behind a LINE that was taken -/
theorem jz_yes {τ1 : Nat → Nat} {g g2 : cz_H} {F F' : rz_W} {E E' : Int → Prop} {a b : Nat} (hI : jz_I τ h F E) (hB2 : ez_B τ1 g2) (x : fz τ h τ1 g2 a b) (hBg : ez_B τ1 g) (ok : sz_ok g ∧ sz_inj g) (hE : ∀ i : Nat, (i : Int) < qz_I g 202 4 → 1 ≤ qz_I g 205 i) (hn : qz_I g 202 1 ≤ qz_I h 202 1 + 2) (h5 : qz_I g 202 5 = qz_I h 202 5) (hD : sz_D τ1 g F' E') (hf : ez_fr (ez_one 202) g g2) (hj : ∀ j, j ≠ 5 → qz_I g2 202 j = qz_I g 202 j) (hl : qz_I g2 202 5 = qz_I g 202 5 + 1) (hXs : ∃ y, ∀ x, (F' x).2 ≠ none → (F x).2 ≠ none ∨ x = y) : jz_I τ1 g2 F' E' := by
  obtain ⟨i1, i2, -, -, i6, i7, -, Xs, i9, i10⟩ := hI
  have X1 := i2.fz x
  have t202 : τ1 202 = 48 := X1 202 (by decide)
  have t203 : τ1 203 = 49 := X1 203 (by decide)
  have fr : ∀ q, q ≠ 202 → g2.2.2 q = g.2.2 q := fun q hq => hf.2.2 q (dz_beq_ne hq)
  have h3 := fr 203 (by decide)
  have h4 : ∀ q, τ1 q = 4 → g2.2.2 q = g.2.2 q := fun q hq => fr q (fun e => by rw [e, t202] at hq; cases hq)
  have bn := sz_R_n1 hBg t202
  have hp : ∀ k, sz_p g2 k = sz_p g k := fun k => by unfold sz_p qz_P qz_I; rw [h3]
  have hs : ∀ k, 0 ≤ k → k < 513 → ∀ j, qz_I g2 (sz_p g2 k) j = qz_I g (sz_p g k) j := fun k k0 k1 j => by
    rw [hp]
    unfold qz_I
    rw [h4 _ (sz_tag hBg t203 k0 k1)]
  refine ⟨hB2, X1, ⟨⟨?_, fun i j i0 ij jn => ?_⟩, fun i j i0 i1' j0 j1 e => ?_⟩, fun i hi => ?_, ?_, nz_Z_fz i1 i2 i7 x, ?_, ?_⟩
  · unfold sz_f; rw [hs 0 (by omega) (by omega)]; exact ok.1.1
  · rw [hj 1 (by decide)] at jn
    unfold sz_f
    rw [hs i i0 (by omega), hs j (by omega) (by omega)]
    exact ok.1.2 i j i0 ij jn
  · rw [hp, hp] at e; exact ok.2 i j i0 i1' j0 j1 e
  · rw [hj 4 (by decide)] at hi; unfold qz_I; rw [fr 205 (by decide)]; exact hE i hi
  · rw [hj 1 (by decide), hl]; omega
  · refine sz_D_tr hBg t202 t203 hD (hj 1 (by decide)) h3 h4 (fun q hq => ?_) (fun p hp => ⟨hp, fr p (fun e => by rw [e, t202] at hp; cases hp)⟩)
    have := fr q (fun e => by rw [e, t202] at hq; cases hq)
    unfold qz_I; rw [this]; exact ⟨rfl, rfl, rfl, rfl⟩
  · obtain ⟨y, hy⟩ := hXs
    refine ⟨y :: Xs, by rw [hl]; simp only [List.length_cons]; omega, fun x hx => ?_⟩
    rcases hy x hx with w | w
    · exact List.mem_cons_of_mem _ (i10 x w)
    · rw [w]; exact List.mem_cons_self
theorem rz_A_ff {b : Int → Int} {n : Int} {w : Nat} {A : List (Int × Int)} (hA : rz_A b n w A) {k : Int} (k0 : 0 ≤ k) (k1 : k < (A.length : Int)) : rz_ff b A k ≤ rz_tt b A k := by
  obtain ⟨c, -, h2, rfl, -⟩ := hA
  have hk : k.toNat < (rz_seg b c.toNat 0 0).length := by omega
  have hm : (rz_seg b c.toNat 0 0).getD k.toNat (0, 0) ∈ rz_seg b c.toNat 0 0 := by
    rw [List.getD_eq_getElem?_getD, List.getElem?_eq_getElem hk]
    exact List.getElem_mem hk
  have := rz_seg_le b c.toNat 0 0 (Int.le_refl _) _ hm
  exact (rz_tl_tr b _ this.2.1).2.1
theorem sz_pe_ok {g : cz_H} (hB : ez_B τ h) (t203 : τ 203 = 49) (t202 : τ 202 = 48) (e2 : qz_I g 202 1 = qz_I h 202 1) (e3 : g.2.2 203 = h.2.2 203) (e4 : ∀ q, τ q = 4 → g.2.2 q = h.2.2 q) (hs : sz_ok h) (hi : sz_inj h) : sz_ok g ∧ sz_inj g := by
  have bn := sz_R_n1 hB t202
  have hp : ∀ k, sz_p g k = sz_p h k := fun k => by unfold sz_p qz_P qz_I; rw [e3]
  have hss : ∀ k, 0 ≤ k → k < 513 → ∀ j, qz_I g (sz_p g k) j = qz_I h (sz_p h k) j := fun k k0 k1 j => by
    rw [hp]
    unfold qz_I
    rw [e4 _ (sz_tag hB t203 k0 k1)]
  refine ⟨⟨?_, fun i j i0 ij jn => ?_⟩, fun i j i0 i1' j0 j1 e => ?_⟩
  · unfold sz_f; rw [hss 0 (by omega) (by omega)]; exact hs.1
  · rw [e2] at jn
    unfold sz_f
    rw [hss i i0 (by omega), hss j (by omega) (by omega)]
    exact hs.2 i j i0 ij jn
  · rw [hp, hp] at e; exact hi i j i0 i1' j0 j1 e
theorem rd_take0 {F : rz_W} {E : Int → Prop} {n : Int} (hI : jz_I τ h F E) (n0 : 0 ≤ n) (n1 : n ≤ 4096) (hl : n = 0 ∨ qz_I h 202 5 ≤ 255) (hr1 : h.1 + 4 ≤ 600192) (hr2 : h.2.1 + 59 ≤ 7302232) (k : ∀ g τ1 F2 E2 (v : Int), jz_I τ1 g F2 E2 → fz τ h τ1 g 4 59 → rz_step (rz_b h) n 0 F E F2 E2 → ((v = -1 ∧ qz_I g 202 5 = qz_I h 202 5) ∨ (0 ≤ v ∧ v ≤ 1114112 ∧ 0 < n ∧ qz_I g 202 5 = qz_I h 202 5 + 1)) → (∀ j, j ≠ 1 → j ≠ 4 → j ≠ 5 → qz_I g 202 j = qz_I h 202 j) → Q (.inl (some (ez_v (.inl v))), g)) : ez_W (d + 8) cm_174 0 [(0, .inr (.inr (some (720)))), (1, .inl (0)), (2, .inl (n))] [] h Q := by
  have t193 : τ 193 = 45 := hI.2.1 193 (by decide)
  have t202 : τ 202 = 48 := hI.2.1 202 (by decide)
  have t203 : τ 203 = 49 := hI.2.1 203 (by decide)
  have t204 : τ 204 = 50 := hI.2.1 204 (by decide)
  have t205 : τ 205 = 51 := hI.2.1 205 (by decide)
  have t720 : τ 720 = 52 := hI.2.1 720 (by decide)
  have t721 : τ 721 = 53 := hI.2.1 721 (by decide)
  have t722 : τ 722 = 54 := hI.2.1 722 (by decide)
  have hB := hI.1
  refine ez_go (n := 1) (pc' := 1) (L' := [(0, .inr (.inr (some (720)))), (1, .inl (0)), (2, .inl (n))]) (st' := [.inr (.inr (some (720)))]) rfl ?_
  refine ez_gC (p := 202) (tg := 48) hB t720 rfl rfl tq_52 rfl rfl (fun (t202 : _ = 48) => ?_)
  refine ez_gI hB t202 rfl rfl tq_48 rfl rfl (fun (b1 : 0 ≤ qz_I h 202 5) (b1' : qz_I h 202 5 ≤ 256) => ?_)
  refine ez_go (n := 1) (pc' := 10) (L' := [(0, .inr (.inr (some (720)))), (1, .inl (0)), (2, .inl (n))]) (st' := [.inl (256), .inl (qz_I h 202 5)]) rfl ?_
  refine ez_icmp rfl rfl ⟨by first | omega | exact (sz_i32 _).1, by first | omega | exact (sz_i32 _).2⟩ ⟨by first | omega | exact (sz_i32 _).1, by first | omega | exact (sz_i32 _).2⟩ (fun (c2 : (256) ≤ (qz_I h 202 5)) => ?_) (fun (c2 : ¬((256) ≤ (qz_I h 202 5))) => ?_)
  · skip
    refine ez_go (n := 1) (pc' := 26) (L' := [(0, .inr (.inr (some (720)))), (1, .inl (0)), (2, .inl (n))]) (st' := [.inl (-1)]) rfl ?_
    exact ez_retI rfl rfl (k h τ F E (-1) hI (fz.refl _ _ _ _) ⟨fun _ => Or.inr ⟨(fun ⟨_, _, _, _, A, hA, _⟩ => by have := rz_A_pos (by decide) hA; omega), rfl, rfl⟩, fun w => absurd w (by decide), fun w _ => absurd rfl w⟩ (Or.inl ⟨rfl, rfl⟩) (fun _ _ _ _ => rfl))
  · skip
    refine ez_go (n := 3) (pc' := 16) (L' := [(0, .inr (.inr (some (720)))), (1, .inl (0)), (2, .inl (n))]) (st' := [.inl (0), .inl (n), .inr (.inr (some (720)))]) rfl ?_
    refine ez_cs hB.2.1 rfl rfl rfl rfl rfl (rd_fieldsOf0 (ez_K1 ?_))
    refine ez_cv hB t720 rfl rfl rfl tq_52 rfl rfl rfl (rd_split hB t720 t721 t722 n0 n1 (by omega) (by omega) (fun g0 hB0 f0 hno => ez_K1 ?_) (fun g0 c hB0 f0 hpl hha hlen hfl => ez_K1 ?_))
    · skip
      have x0 := fz_ft t721 t722 f0
      have q202 : ∀ j, qz_I g0 202 j = qz_I h 202 j := fun j => f0.I rfl j
      have hI0 : jz_I τ g0 F E := jz_no hI hB0 x0 q202 (f0.2.2 203 rfl) (f0.2.2 205 rfl) (fun q hq => f0.2.2 q (by unfold rz_ft; rw [dz_beq_ne (fun e => by rw [e, t721] at hq; cases hq), dz_beq_ne (fun e => by rw [e, t722] at hq; cases hq)]; rfl))
      have b0 : rz_b g0 = rz_b h := rz_b_fr f0 rfl
      refine ez_if rfl rfl ⟨by decide, by decide⟩ (fun (c3 : (0 : Int) ≠ (0)) => absurd c3 (by decide)) (fun _ => ?_)
      refine ez_go (n := 1) (pc' := 26) (L' := [(0, .inr (.inr (some (720)))), (1, .inl (0)), (2, .inl (n))]) (st' := [.inl (-1)]) rfl ?_
      exact ez_retI rfl rfl (k g0 τ F E (-1) hI0 (x0.mono (by omega) (by omega)) ⟨fun _ => Or.inr ⟨(fun ⟨_, _, _, _, A, hA, _⟩ => by obtain ⟨c, c1, c2, c3, c4⟩ := hA; exact hno c1 c c2.1 c2.2.1 c2.2.2.1 c2.2.2.2 (by rw [← c3]; exact c4)), rfl, rfl⟩, fun w => absurd w (by decide), fun w _ => absurd rfl w⟩ (Or.inl ⟨rfl, q202 5⟩) (fun j _ _ _ => q202 j))
    · skip
      have x0 := fz_ft t721 t722 f0
      have q202 : ∀ j, qz_I g0 202 j = qz_I h 202 j := fun j => f0.I rfl j
      have hI0 : jz_I τ g0 F E := jz_no hI hB0 x0 q202 (f0.2.2 203 rfl) (f0.2.2 205 rfl) (fun q hq => f0.2.2 q (by unfold rz_ft; rw [dz_beq_ne (fun e => by rw [e, t721] at hq; cases hq), dz_beq_ne (fun e => by rw [e, t722] at hq; cases hq)]; rfl))
      have b0 : rz_b g0 = rz_b h := rz_b_fr f0 rfl
      have hA : rz_A (rz_b h) n 7 (rz_seg (rz_b h) c.toNat 0 0) := ⟨c, hpl, hha, rfl, hlen⟩
      generalize rz_seg (rz_b h) c.toNat 0 0 = A at hA hfl hlen
      have hlen : (A.length : Int) = 7 := by rw [hlen]; rfl
      have hfa : ∀ k, 0 ≤ k → k ≤ 6 → rz_f g0 k = rz_ff (rz_b h) A k ∧ rz_t g0 k = rz_tt (rz_b h) A k := fun k k0 k1 => rz_flds_at hfl k0 (by omega)
      have hft : ∀ k, 0 ≤ k → k ≤ 6 → rz_f g0 k ≤ rz_t g0 k := fun k k0 k1 => by
        obtain ⟨w1, w2⟩ := hfa k k0 k1
        rw [w1, w2]
        exact rz_A_ff hA (by omega) (by omega)
      have hlt : qz_I h 202 5 ≤ 255 := by omega
      have hnp := rz_A_pos (by decide) hA
      have fc0 := x0.2
      have i6 := hI.2.2.2.2.1
      have hsp : qz_I g0 202 1 + 2 ≤ 513 := by rw [q202]; omega
      refine ez_if rfl rfl ⟨by decide, by decide⟩ (fun _ => ?_) (fun (c4 : ¬((1 : Int) ≠ (0))) => absurd c4 (by decide))
      refine ez_go (n := 1) (pc' := 28) (L' := [(0, .inr (.inr (some (720)))), (1, .inl (0)), (2, .inl (n))]) (st' := [.inl (0)]) rfl ?_
      refine ez_sw rfl ⟨by decide, by decide⟩ ⟨_, rfl, rfl⟩ ?_
      refine ez_go (n := 1) (pc' := 61) (L' := [(0, .inr (.inr (some (720)))), (1, .inl (0)), (2, .inl (n))]) (st' := [.inr (.inr (some (720)))]) rfl ?_
      refine ez_cv hB0 t720 rfl rfl rfl tq_52 rfl rfl rfl (rd_takeFact hB0 t193 t202 t203 t720 t721 t722 hI0.2.2.1.1 hI0.2.2.1.2 hft hsp (by omega) (by omega) (fun g1 τ1 hB1 hx hno => ez_K1 ?_) (fun g1 h1 τ1 first last cls dec hB1 hBh hx t3 hF r0 r2 hD ht => ez_K1 ?_))
      · skip
        have xx := x0.trans (fz_xr t720 hx)
        have w202 : ∀ j, qz_I g1 202 j = qz_I g0 202 j := fun j => hx.I (by rw [t202]; decide) (by decide) j
        have hI1 : jz_I τ1 g1 F E := jz_no hI0 hB1 (fz_xr t720 hx) w202 ((hx.1 203 (by rw [t203]; decide)).2 (by decide)) ((hx.1 205 (by rw [t205]; decide)).2 (by decide)) (fun q hq => (hx.1 q (by rw [hq]; decide)).2 (fun e => by rw [e, t720] at hq; cases hq))
        have u202 : τ1 202 = 48 := hI1.2.1 202 (by decide)
        have u720 : τ1 720 = 52 := hI1.2.1 720 (by decide)
        have hnone : ¬ ∃ first last cls dec, rz_L0 (rz_b h) n first last cls dec := fun ⟨f, l, c2, dd, A2, hA2, w⟩ => hno ⟨f, l, c2, dd, by rw [← rz_A_uniq hA hA2] at w; rw [b0]; exact rz_F_congr (fun k k0 k1 => (hfa k k0 k1).1.symm) (fun k k0 k1 => (hfa k k0 k1).2.symm) w⟩
        refine ez_go (n := 2) (pc' := 97) (L' := [(3, .inl (-1)), (0, .inr (.inr (some (720)))), (1, .inl (0)), (2, .inl (n))]) (st' := []) rfl ?_
        refine ez_less [(3, .inl (-1)), (0, .inr (.inr (some (720)))), (1, .inl (0)), (2, .inl (n))] rfl ⟨rfl, rfl, rfl, rfl, trivial⟩ ?_
        refine rd_take_e hB1 u720 u202 (by omega) (by omega) (Or.inl rfl) (fun g9 hB9 f9 j9 l9 => ?_)
        rw [if_pos rfl] at l9
        have y9 := fz_1 u202 rfl f9
        have e9 : ∀ j, qz_I g9 202 j = qz_I g1 202 j := fun j => by by_cases w : j = 5; (· rw [w, l9]; omega); (· exact j9 j w)
        have hI9 : jz_I τ1 g9 F E := jz_no hI1 hB9 y9 e9 (f9.2.2 203 rfl) (f9.2.2 205 rfl) (fun q hq => f9.2.2 q (rz_ne hq u202 rfl))
        exact k g9 _ F E (-1) hI9 ((xx.trans y9).mono (by omega) (by omega)) ⟨fun _ => Or.inr ⟨hnone, rfl, rfl⟩, fun w => absurd w (by decide), fun w _ => absurd rfl w⟩ (Or.inl ⟨rfl, by rw [e9, w202, q202]⟩) (fun j _ _ _ => by rw [e9, w202, q202])
      · skip
        have xr := fz_xr t720 hx
        have X1 := hI0.2.1.fz xr
        have u202 : τ1 202 = 48 := X1 202 (by decide)
        have u203 : τ1 203 = 49 := X1 203 (by decide)
        have u204 : τ1 204 = 50 := X1 204 (by decide)
        have u205 : τ1 205 = 51 := X1 205 (by decide)
        have u720 : τ1 720 = 52 := X1 720 (by decide)
        have w202 : ∀ j, qz_I h1 202 j = qz_I g0 202 j := fun j => hx.I (by rw [t202]; decide) (by decide) j
        have c205 : h1.2.2 205 = g0.2.2 205 := (hx.1 205 (by rw [t205]; decide)).2 (by decide)
        have c203 : h1.2.2 203 = g0.2.2 203 := (hx.1 203 (by rw [t203]; decide)).2 (by decide)
        have c4 : ∀ q, τ q = 4 → h1.2.2 q = g0.2.2 q := fun q hq => (hx.1 q (by rw [hq]; decide)).2 (fun e => by rw [e, t720] at hq; cases hq)
        have hDh : sz_D τ1 h1 F E := sz_D_tr hB0 t202 t203 hI0.2.2.2.2.2.2.1 (w202 1) c203 c4 (fun q hq => by have := (xr.1 q (by rw [hq]; decide)).2 (by rw [hq]; rfl); unfold qz_I; rw [this]; exact ⟨rfl, rfl, rfl, rfl⟩) (fun p hp => by have := xr.1 p (by rw [hp]; decide); exact ⟨this.1.trans hp, this.2 (by rw [hp]; rfl)⟩)
        have hok9 : sz_ok g1 ∧ sz_inj g1 := ⟨ht.1, ht.2.1⟩
        have p205 : sz_PS τ1 205 = false := by unfold sz_PS; rw [u205]; rfl
        have hE9 : ∀ i : Nat, (i : Int) < qz_I g1 202 4 → 1 ≤ qz_I g1 205 i := fun i hi => by rw [ht.2.2.2.1 4 (by decide), w202] at hi; rw [ht.2.2.1.I p205]; unfold qz_I; rw [c205]; exact hI0.2.2.2.1 i hi
        have hn9 : qz_I g1 202 1 ≤ qz_I g0 202 1 + 2 := by have := ht.2.2.2.2.1; rw [w202] at this; exact this
        have h59 : qz_I g1 202 5 = qz_I g0 202 5 := (ht.2.2.2.1 5 (by decide)).trans (w202 5)
        have ho9 : ∀ j, j ≠ 1 → j ≠ 4 → qz_I g1 202 j = qz_I g0 202 j := fun j j1 _ => (ht.2.2.2.1 j j1).trans (w202 j)
        have xg := xr.trans (fz_PS u202 u203 ht.2.2.1)
        rw [b0] at hF
        have hF := rz_F_congr (fun k k0 k1 => (hfa k k0 k1).1) (fun k k0 k1 => (hfa k k0 k1).2) hF
        have hF1 := hF.1
        have bl := rz_last_bd (rz_b h) (rz_ff (rz_b h) A 0) (rz_tt (rz_b h) A 0)
        have bf := rz_code_bd (rz_b h) (rz_ff (rz_b h) A 0) (rz_dots (rz_b h) (rz_tt (rz_b h) A 0 - rz_ff (rz_b h) A 0).toNat (rz_ff (rz_b h) A 0))
        have ef2 : rz_first (rz_b h) (rz_ff (rz_b h) A 0) (rz_tt (rz_b h) A 0) = rz_code (rz_b h) (rz_ff (rz_b h) A 0) (rz_dots (rz_b h) (rz_tt (rz_b h) A 0 - rz_ff (rz_b h) A 0).toNat (rz_ff (rz_b h) A 0)) := rfl
        have hone : dec ≠ none → first = last := fun w => by
          by_cases e : first < last
          · exfalso
            rcases hF.2.2.2.1 with ⟨_, w2⟩ | ⟨w2, _⟩
            · exact w w2
            · exact w2 (hF.2.2.2.2.2 e 3 (by omega) (by omega))
          · omega
        obtain ⟨F2, hF2⟩ : ∃ F2 : rz_W, ∀ x, F2 x = if first ≤ x ∧ x ≤ last then (cls, dec) else F x := ⟨fun x => if first ≤ x ∧ x ≤ last then (cls, dec) else F x, fun x => rfl⟩
        obtain ⟨E2, hE2⟩ : ∃ E2, E2 = E := ⟨E, rfl⟩
        have hD9 : sz_D τ1 g1 F2 E2 := by rw [hE2]; exact sz_D_F hBh u202 u203 t3 hDh ht r0 r2 hD hone hF2
        have hXs : ∃ y, ∀ x, (F2 x).2 ≠ none → (F x).2 ≠ none ∨ x = y := ⟨first, fun x hx => by
          rw [hF2 x] at hx
          by_cases e : first ≤ x ∧ x ≤ last
          · rw [if_pos e] at hx; have := hone hx; exact Or.inr (by omega)
          · rw [if_neg e] at hx; exact Or.inl hx⟩
        have hstep : rz_step (rz_b h) n 0 F E F2 E2 := ⟨fun _ => Or.inl ⟨first, last, cls, dec, ⟨A, hA, hF⟩, hF2, hE2⟩, fun w => absurd w (by decide), fun w _ => absurd rfl w⟩
        refine ez_go (n := 2) (pc' := 97) (L' := [(3, .inl (last - first + 1)), (0, .inr (.inr (some (720)))), (1, .inl (0)), (2, .inl (n))]) (st' := []) rfl ?_
        refine ez_less [(3, .inl (last - first + 1)), (0, .inr (.inr (some (720)))), (1, .inl (0)), (2, .inl (n))] rfl ⟨rfl, rfl, rfl, rfl, trivial⟩ ?_
        refine rd_take_e hB1 u720 u202 (by omega) (by omega) (Or.inr (by rw [h59, q202]; exact hlt)) (fun g9 hB9 f9 j9 l9 => ?_)
        rw [if_neg (by omega)] at l9
        have y9 := fz_1 u202 rfl f9
        refine k g9 _ F2 E2 _ (jz_yes hI0 hB9 (xg.trans y9) hB1 hok9 hE9 hn9 h59 hD9 f9 j9 l9 hXs) (((x0.trans xg).trans y9).mono (by omega) (by omega)) hstep (Or.inr ⟨by omega, by omega, hnp, by rw [l9, h59, q202]⟩) (fun j j1 j4 j5 => by rw [j9 j j5, ho9 j j1 j4, q202])

theorem rd_take1 {F : rz_W} {E : Int → Prop} {n : Int} (hI : jz_I τ h F E) (n0 : 0 ≤ n) (n1 : n ≤ 4096) (hl : n = 0 ∨ qz_I h 202 5 ≤ 255) (hr1 : h.1 + 4 ≤ 600192) (hr2 : h.2.1 + 59 ≤ 7302232) (k : ∀ g τ1 F2 E2 (v : Int), jz_I τ1 g F2 E2 → fz τ h τ1 g 4 59 → rz_step (rz_b h) n 1 F E F2 E2 → ((v = -1 ∧ qz_I g 202 5 = qz_I h 202 5) ∨ (0 ≤ v ∧ v ≤ 1114112 ∧ 0 < n ∧ qz_I g 202 5 = qz_I h 202 5 + 1)) → (∀ j, j ≠ 1 → j ≠ 4 → j ≠ 5 → qz_I g 202 j = qz_I h 202 j) → Q (.inl (some (ez_v (.inl v))), g)) : ez_W (d + 8) cm_174 0 [(0, .inr (.inr (some (720)))), (1, .inl (1)), (2, .inl (n))] [] h Q := by
  have t193 : τ 193 = 45 := hI.2.1 193 (by decide)
  have t202 : τ 202 = 48 := hI.2.1 202 (by decide)
  have t203 : τ 203 = 49 := hI.2.1 203 (by decide)
  have t204 : τ 204 = 50 := hI.2.1 204 (by decide)
  have t205 : τ 205 = 51 := hI.2.1 205 (by decide)
  have t720 : τ 720 = 52 := hI.2.1 720 (by decide)
  have t721 : τ 721 = 53 := hI.2.1 721 (by decide)
  have t722 : τ 722 = 54 := hI.2.1 722 (by decide)
  have hB := hI.1
  refine ez_go (n := 1) (pc' := 1) (L' := [(0, .inr (.inr (some (720)))), (1, .inl (1)), (2, .inl (n))]) (st' := [.inr (.inr (some (720)))]) rfl ?_
  refine ez_gC (p := 202) (tg := 48) hB t720 rfl rfl tq_52 rfl rfl (fun (t202 : _ = 48) => ?_)
  refine ez_gI hB t202 rfl rfl tq_48 rfl rfl (fun (b1 : 0 ≤ qz_I h 202 5) (b1' : qz_I h 202 5 ≤ 256) => ?_)
  refine ez_go (n := 1) (pc' := 10) (L' := [(0, .inr (.inr (some (720)))), (1, .inl (1)), (2, .inl (n))]) (st' := [.inl (256), .inl (qz_I h 202 5)]) rfl ?_
  refine ez_icmp rfl rfl ⟨by first | omega | exact (sz_i32 _).1, by first | omega | exact (sz_i32 _).2⟩ ⟨by first | omega | exact (sz_i32 _).1, by first | omega | exact (sz_i32 _).2⟩ (fun (c2 : (256) ≤ (qz_I h 202 5)) => ?_) (fun (c2 : ¬((256) ≤ (qz_I h 202 5))) => ?_)
  · skip
    refine ez_go (n := 1) (pc' := 26) (L' := [(0, .inr (.inr (some (720)))), (1, .inl (1)), (2, .inl (n))]) (st' := [.inl (-1)]) rfl ?_
    exact ez_retI rfl rfl (k h τ F E (-1) hI (fz.refl _ _ _ _) ⟨fun w => absurd w (by decide), fun w => absurd w (by decide), fun _ _ => ⟨rfl, rfl⟩⟩ (Or.inl ⟨rfl, rfl⟩) (fun _ _ _ _ => rfl))
  · skip
    refine ez_go (n := 3) (pc' := 16) (L' := [(0, .inr (.inr (some (720)))), (1, .inl (1)), (2, .inl (n))]) (st' := [.inl (1), .inl (n), .inr (.inr (some (720)))]) rfl ?_
    refine ez_cs hB.2.1 rfl rfl rfl rfl rfl (rd_fieldsOf1 (ez_K1 ?_))
    refine ez_cv hB t720 rfl rfl rfl tq_52 rfl rfl rfl (rd_split hB t720 t721 t722 n0 n1 (by omega) (by omega) (fun g0 hB0 f0 hno => ez_K1 ?_) (fun g0 c hB0 f0 hpl hha hlen hfl => ez_K1 ?_))
    · skip
      have x0 := fz_ft t721 t722 f0
      have q202 : ∀ j, qz_I g0 202 j = qz_I h 202 j := fun j => f0.I rfl j
      have hI0 : jz_I τ g0 F E := jz_no hI hB0 x0 q202 (f0.2.2 203 rfl) (f0.2.2 205 rfl) (fun q hq => f0.2.2 q (by unfold rz_ft; rw [dz_beq_ne (fun e => by rw [e, t721] at hq; cases hq), dz_beq_ne (fun e => by rw [e, t722] at hq; cases hq)]; rfl))
      have b0 : rz_b g0 = rz_b h := rz_b_fr f0 rfl
      refine ez_if rfl rfl ⟨by decide, by decide⟩ (fun (c3 : (0 : Int) ≠ (0)) => absurd c3 (by decide)) (fun _ => ?_)
      refine ez_go (n := 1) (pc' := 26) (L' := [(0, .inr (.inr (some (720)))), (1, .inl (1)), (2, .inl (n))]) (st' := [.inl (-1)]) rfl ?_
      exact ez_retI rfl rfl (k g0 τ F E (-1) hI0 (x0.mono (by omega) (by omega)) ⟨fun w => absurd w (by decide), fun w => absurd w (by decide), fun _ _ => ⟨rfl, rfl⟩⟩ (Or.inl ⟨rfl, q202 5⟩) (fun j _ _ _ => q202 j))
    · skip
      have x0 := fz_ft t721 t722 f0
      have q202 : ∀ j, qz_I g0 202 j = qz_I h 202 j := fun j => f0.I rfl j
      have hI0 : jz_I τ g0 F E := jz_no hI hB0 x0 q202 (f0.2.2 203 rfl) (f0.2.2 205 rfl) (fun q hq => f0.2.2 q (by unfold rz_ft; rw [dz_beq_ne (fun e => by rw [e, t721] at hq; cases hq), dz_beq_ne (fun e => by rw [e, t722] at hq; cases hq)]; rfl))
      have b0 : rz_b g0 = rz_b h := rz_b_fr f0 rfl
      have hA : rz_A (rz_b h) n 5 (rz_seg (rz_b h) c.toNat 0 0) := ⟨c, hpl, hha, rfl, hlen⟩
      generalize rz_seg (rz_b h) c.toNat 0 0 = A at hA hfl hlen
      have hlen : (A.length : Int) = 5 := by rw [hlen]; rfl
      have hfa : ∀ k, 0 ≤ k → k ≤ 4 → rz_f g0 k = rz_ff (rz_b h) A k ∧ rz_t g0 k = rz_tt (rz_b h) A k := fun k k0 k1 => rz_flds_at hfl k0 (by omega)
      have hft : ∀ k, 0 ≤ k → k ≤ 4 → rz_f g0 k ≤ rz_t g0 k := fun k k0 k1 => by
        obtain ⟨w1, w2⟩ := hfa k k0 k1
        rw [w1, w2]
        exact rz_A_ff hA (by omega) (by omega)
      have hlt : qz_I h 202 5 ≤ 255 := by omega
      have hnp := rz_A_pos (by decide) hA
      have fc0 := x0.2
      have i6 := hI.2.2.2.2.1
      have hsp : qz_I g0 202 1 + 2 ≤ 513 := by rw [q202]; omega
      refine ez_if rfl rfl ⟨by decide, by decide⟩ (fun _ => ?_) (fun (c4 : ¬((1 : Int) ≠ (0))) => absurd c4 (by decide))
      refine ez_go (n := 1) (pc' := 28) (L' := [(0, .inr (.inr (some (720)))), (1, .inl (1)), (2, .inl (n))]) (st' := [.inl (1)]) rfl ?_
      refine ez_sw rfl ⟨by decide, by decide⟩ ⟨_, rfl, rfl⟩ ?_
      refine ez_go (n := 1) (pc' := 69) (L' := [(0, .inr (.inr (some (720)))), (1, .inl (1)), (2, .inl (n))]) (st' := [.inr (.inr (some (720)))]) rfl ?_
      refine ez_cv hB0 t720 rfl rfl rfl tq_52 rfl rfl rfl (rd_takeSpecial hB0 t193 t202 t203 t720 t721 t722 hI0.2.2.1.1 hI0.2.2.1.2 hft hsp hI0.2.2.2.2.2.1 (nz_hz hB0 hI0.2.1) (hI0.2.1 1 (by decide)) (by omega) (by omega) (fun g1 τ1 hB1 hx => ez_K1 ?_) (fun g1 g3 h1 τ1 p hB1 hBh hB3 hx ht h6 => ez_K1 ?_))
      · skip
        have xx := x0.trans (fz_xt hx)
        have w202 : ∀ j, qz_I g1 202 j = qz_I g0 202 j := fun j => hx.I (by rw [t202]; decide) j
        have hI1 : jz_I τ1 g1 F E := jz_no hI0 hB1 (fz_xt hx) w202 ((hx.1 203 (by rw [t203]; decide)).2) ((hx.1 205 (by rw [t205]; decide)).2) (fun q hq => (hx.1 q (by rw [hq]; decide)).2)
        have u202 : τ1 202 = 48 := hI1.2.1 202 (by decide)
        have u720 : τ1 720 = 52 := hI1.2.1 720 (by decide)
        refine ez_go (n := 2) (pc' := 97) (L' := [(3, .inl (-1)), (0, .inr (.inr (some (720)))), (1, .inl (1)), (2, .inl (n))]) (st' := []) rfl ?_
        refine ez_less [(3, .inl (-1)), (0, .inr (.inr (some (720)))), (1, .inl (1)), (2, .inl (n))] rfl ⟨rfl, rfl, rfl, rfl, trivial⟩ ?_
        refine rd_take_e hB1 u720 u202 (by omega) (by omega) (Or.inl rfl) (fun g9 hB9 f9 j9 l9 => ?_)
        rw [if_pos rfl] at l9
        have y9 := fz_1 u202 rfl f9
        have e9 : ∀ j, qz_I g9 202 j = qz_I g1 202 j := fun j => by by_cases w : j = 5; (· rw [w, l9]; omega); (· exact j9 j w)
        have hI9 : jz_I τ1 g9 F E := jz_no hI1 hB9 y9 e9 (f9.2.2 203 rfl) (f9.2.2 205 rfl) (fun q hq => f9.2.2 q (rz_ne hq u202 rfl))
        exact k g9 _ F E (-1) hI9 ((xx.trans y9).mono (by omega) (by omega)) ⟨fun w => absurd w (by decide), fun w => absurd w (by decide), fun _ _ => ⟨rfl, rfl⟩⟩ (Or.inl ⟨rfl, by rw [e9, w202, q202]⟩) (fun j _ _ _ => by rw [e9, w202, q202])
      · skip
        have xr := fz_xt hx
        have X1 := hI0.2.1.fz xr
        have u202 : τ1 202 = 48 := X1 202 (by decide)
        have u203 : τ1 203 = 49 := X1 203 (by decide)
        have u204 : τ1 204 = 50 := X1 204 (by decide)
        have u205 : τ1 205 = 51 := X1 205 (by decide)
        have u720 : τ1 720 = 52 := X1 720 (by decide)
        have w202 : ∀ j, qz_I h1 202 j = qz_I g0 202 j := fun j => hx.I (by rw [t202]; decide) j
        have c205 : h1.2.2 205 = g0.2.2 205 := (hx.1 205 (by rw [t205]; decide)).2
        have c203 : h1.2.2 203 = g0.2.2 203 := (hx.1 203 (by rw [t203]; decide)).2
        have c4 : ∀ q, τ q = 4 → h1.2.2 q = g0.2.2 q := fun q hq => (hx.1 q (by rw [hq]; decide)).2
        have hDh : sz_D τ1 h1 F E := sz_D_tr hB0 t202 t203 hI0.2.2.2.2.2.2.1 (w202 1) c203 c4 (fun q hq => by have := (xr.1 q (by rw [hq]; decide)).2 (by rw [hq]; rfl); unfold qz_I; rw [this]; exact ⟨rfl, rfl, rfl, rfl⟩) (fun p hp => by have := xr.1 p (by rw [hp]; decide); exact ⟨this.1.trans hp, this.2 (by rw [hp]; rfl)⟩)
        have F2e : ∃ F2, F2 = F := ⟨F, rfl⟩
        obtain ⟨F2, hF2⟩ := F2e
        have E2e : ∃ E2, E2 = E := ⟨E, rfl⟩
        obtain ⟨E2, hE2⟩ := E2e
        have hXs : ∃ y, ∀ x, (F2 x).2 ≠ none → (F x).2 ≠ none ∨ x = y := ⟨0, fun x hx => Or.inl (by rw [hF2] at hx; exact hx)⟩
        have hstep : rz_step (rz_b h) n 1 F E F2 E2 := ⟨fun w => absurd w (by decide), fun w => absurd w (by decide), fun _ _ => ⟨hF2, hE2⟩⟩
        have hok9 : sz_ok g3 ∧ sz_inj g3 := ⟨ht.1, ht.2.1⟩
        have p205 : sz_PS τ1 205 = false := by unfold sz_PS; rw [u205]; rfl
        have hE9 : ∀ i : Nat, (i : Int) < qz_I g3 202 4 → 1 ≤ qz_I g3 205 i := fun i hi => by rw [ht.2.2.2.1 4 (by decide), w202] at hi; rw [ht.2.2.1.I p205]; unfold qz_I; rw [c205]; exact hI0.2.2.2.1 i hi
        have hn9 : qz_I g3 202 1 ≤ qz_I g0 202 1 + 2 := by have := ht.2.2.2.2.1; rw [w202] at this; exact this
        have h59 : qz_I g3 202 5 = qz_I g0 202 5 := (ht.2.2.2.1 5 (by decide)).trans (w202 5)
        have ho9 : ∀ j, j ≠ 1 → j ≠ 4 → qz_I g3 202 j = qz_I g0 202 j := fun j j1 _ => (ht.2.2.2.1 j j1).trans (w202 j)
        have p6 : ∀ q, τ1 q ≠ 6 → g1.2.2 q = g3.2.2 q := fun q hq => h6.2.2 q (dz_beq_ne hq)
        have xg := (xr.trans (fz_PS u202 u203 ht.2.2.1)).trans (fz_P6 h6)
        have z202 : ∀ j, qz_I g1 202 j = qz_I g3 202 j := fun j => by unfold qz_I; rw [p6 202 (by rw [u202]; decide)]
        have hD9 : sz_D τ1 g1 F2 E2 := by
          rw [hF2, hE2]
          refine sz_D_tr hB3 u202 u203 (sz_D_R hBh u202 u203 hDh ht (fun P u v w => w (by decide)) (fun x u v w wu => by rw [w (by decide)]; exact wu)) (z202 1) (p6 203 (by rw [u203]; decide)) (fun q hq => p6 q (by rw [hq]; decide)) (fun q hq => ?_) (fun p hp => ⟨hp, p6 p (by rw [hp]; decide)⟩)
          unfold qz_I; rw [p6 q (by rw [hq]; decide)]; exact ⟨rfl, rfl, rfl, rfl⟩
        have hok9 := sz_same_ok hB3 u203 u202 (p6 202 (by rw [u202]; decide)) (p6 203 (by rw [u203]; decide)) (fun q hq => p6 q (by rw [hq]; decide)) hok9.1 hok9.2
        have hE9 : ∀ i : Nat, (i : Int) < qz_I g1 202 4 → 1 ≤ qz_I g1 205 i := fun i hi => by rw [z202] at hi; unfold qz_I; rw [p6 205 (by rw [u205]; decide)]; exact hE9 i hi
        have hn9 : qz_I g1 202 1 ≤ qz_I g0 202 1 + 2 := by rw [z202]; exact hn9
        have h59 : qz_I g1 202 5 = qz_I g0 202 5 := (z202 5).trans h59
        have ho9 : ∀ j, j ≠ 1 → j ≠ 4 → qz_I g1 202 j = qz_I g0 202 j := fun j j1 j4 => (z202 j).trans (ho9 j j1 j4)
        refine ez_go (n := 2) (pc' := 97) (L' := [(3, .inl (1)), (0, .inr (.inr (some (720)))), (1, .inl (1)), (2, .inl (n))]) (st' := []) rfl ?_
        refine ez_less [(3, .inl (1)), (0, .inr (.inr (some (720)))), (1, .inl (1)), (2, .inl (n))] rfl ⟨rfl, rfl, rfl, rfl, trivial⟩ ?_
        refine rd_take_e hB1 u720 u202 (by omega) (by omega) (Or.inr (by rw [h59, q202]; exact hlt)) (fun g9 hB9 f9 j9 l9 => ?_)
        rw [if_neg (by omega)] at l9
        have y9 := fz_1 u202 rfl f9
        refine k g9 _ F2 E2 _ (jz_yes hI0 hB9 (xg.trans y9) hB1 hok9 hE9 hn9 h59 hD9 f9 j9 l9 hXs) (((x0.trans xg).trans y9).mono (by omega) (by omega)) hstep (Or.inr ⟨by omega, by omega, hnp, by rw [l9, h59, q202]⟩) (fun j j1 j4 j5 => by rw [j9 j j5, ho9 j j1 j4, q202])

theorem rd_take2 {F : rz_W} {E : Int → Prop} {n : Int} (hI : jz_I τ h F E) (n0 : 0 ≤ n) (n1 : n ≤ 4096) (hl : n = 0 ∨ qz_I h 202 5 ≤ 255) (hr1 : h.1 + 4 ≤ 600192) (hr2 : h.2.1 + 59 ≤ 7302232) (k : ∀ g τ1 F2 E2 (v : Int), jz_I τ1 g F2 E2 → fz τ h τ1 g 4 59 → rz_step (rz_b h) n 2 F E F2 E2 → ((v = -1 ∧ qz_I g 202 5 = qz_I h 202 5) ∨ (0 ≤ v ∧ v ≤ 1114112 ∧ 0 < n ∧ qz_I g 202 5 = qz_I h 202 5 + 1)) → (∀ j, j ≠ 1 → j ≠ 4 → j ≠ 5 → qz_I g 202 j = qz_I h 202 j) → Q (.inl (some (ez_v (.inl v))), g)) : ez_W (d + 8) cm_174 0 [(0, .inr (.inr (some (720)))), (1, .inl (2)), (2, .inl (n))] [] h Q := by
  have t193 : τ 193 = 45 := hI.2.1 193 (by decide)
  have t202 : τ 202 = 48 := hI.2.1 202 (by decide)
  have t203 : τ 203 = 49 := hI.2.1 203 (by decide)
  have t204 : τ 204 = 50 := hI.2.1 204 (by decide)
  have t205 : τ 205 = 51 := hI.2.1 205 (by decide)
  have t720 : τ 720 = 52 := hI.2.1 720 (by decide)
  have t721 : τ 721 = 53 := hI.2.1 721 (by decide)
  have t722 : τ 722 = 54 := hI.2.1 722 (by decide)
  have hB := hI.1
  refine ez_go (n := 1) (pc' := 1) (L' := [(0, .inr (.inr (some (720)))), (1, .inl (2)), (2, .inl (n))]) (st' := [.inr (.inr (some (720)))]) rfl ?_
  refine ez_gC (p := 202) (tg := 48) hB t720 rfl rfl tq_52 rfl rfl (fun (t202 : _ = 48) => ?_)
  refine ez_gI hB t202 rfl rfl tq_48 rfl rfl (fun (b1 : 0 ≤ qz_I h 202 5) (b1' : qz_I h 202 5 ≤ 256) => ?_)
  refine ez_go (n := 1) (pc' := 10) (L' := [(0, .inr (.inr (some (720)))), (1, .inl (2)), (2, .inl (n))]) (st' := [.inl (256), .inl (qz_I h 202 5)]) rfl ?_
  refine ez_icmp rfl rfl ⟨by first | omega | exact (sz_i32 _).1, by first | omega | exact (sz_i32 _).2⟩ ⟨by first | omega | exact (sz_i32 _).1, by first | omega | exact (sz_i32 _).2⟩ (fun (c2 : (256) ≤ (qz_I h 202 5)) => ?_) (fun (c2 : ¬((256) ≤ (qz_I h 202 5))) => ?_)
  · skip
    refine ez_go (n := 1) (pc' := 26) (L' := [(0, .inr (.inr (some (720)))), (1, .inl (2)), (2, .inl (n))]) (st' := [.inl (-1)]) rfl ?_
    exact ez_retI rfl rfl (k h τ F E (-1) hI (fz.refl _ _ _ _) ⟨fun w => absurd w (by decide), fun w => absurd w (by decide), fun _ _ => ⟨rfl, rfl⟩⟩ (Or.inl ⟨rfl, rfl⟩) (fun _ _ _ _ => rfl))
  · skip
    refine ez_go (n := 3) (pc' := 16) (L' := [(0, .inr (.inr (some (720)))), (1, .inl (2)), (2, .inl (n))]) (st' := [.inl (2), .inl (n), .inr (.inr (some (720)))]) rfl ?_
    refine ez_cs hB.2.1 rfl rfl rfl rfl rfl (rd_fieldsOf2 (ez_K1 ?_))
    refine ez_cv hB t720 rfl rfl rfl tq_52 rfl rfl rfl (rd_split hB t720 t721 t722 n0 n1 (by omega) (by omega) (fun g0 hB0 f0 hno => ez_K1 ?_) (fun g0 c hB0 f0 hpl hha hlen hfl => ez_K1 ?_))
    · skip
      have x0 := fz_ft t721 t722 f0
      have q202 : ∀ j, qz_I g0 202 j = qz_I h 202 j := fun j => f0.I rfl j
      have hI0 : jz_I τ g0 F E := jz_no hI hB0 x0 q202 (f0.2.2 203 rfl) (f0.2.2 205 rfl) (fun q hq => f0.2.2 q (by unfold rz_ft; rw [dz_beq_ne (fun e => by rw [e, t721] at hq; cases hq), dz_beq_ne (fun e => by rw [e, t722] at hq; cases hq)]; rfl))
      have b0 : rz_b g0 = rz_b h := rz_b_fr f0 rfl
      refine ez_if rfl rfl ⟨by decide, by decide⟩ (fun (c3 : (0 : Int) ≠ (0)) => absurd c3 (by decide)) (fun _ => ?_)
      refine ez_go (n := 1) (pc' := 26) (L' := [(0, .inr (.inr (some (720)))), (1, .inl (2)), (2, .inl (n))]) (st' := [.inl (-1)]) rfl ?_
      exact ez_retI rfl rfl (k g0 τ F E (-1) hI0 (x0.mono (by omega) (by omega)) ⟨fun w => absurd w (by decide), fun w => absurd w (by decide), fun _ _ => ⟨rfl, rfl⟩⟩ (Or.inl ⟨rfl, q202 5⟩) (fun j _ _ _ => q202 j))
    · skip
      have x0 := fz_ft t721 t722 f0
      have q202 : ∀ j, qz_I g0 202 j = qz_I h 202 j := fun j => f0.I rfl j
      have hI0 : jz_I τ g0 F E := jz_no hI hB0 x0 q202 (f0.2.2 203 rfl) (f0.2.2 205 rfl) (fun q hq => f0.2.2 q (by unfold rz_ft; rw [dz_beq_ne (fun e => by rw [e, t721] at hq; cases hq), dz_beq_ne (fun e => by rw [e, t722] at hq; cases hq)]; rfl))
      have b0 : rz_b g0 = rz_b h := rz_b_fr f0 rfl
      have hA : rz_A (rz_b h) n 3 (rz_seg (rz_b h) c.toNat 0 0) := ⟨c, hpl, hha, rfl, hlen⟩
      generalize rz_seg (rz_b h) c.toNat 0 0 = A at hA hfl hlen
      have hlen : (A.length : Int) = 3 := by rw [hlen]; rfl
      have hfa : ∀ k, 0 ≤ k → k ≤ 2 → rz_f g0 k = rz_ff (rz_b h) A k ∧ rz_t g0 k = rz_tt (rz_b h) A k := fun k k0 k1 => rz_flds_at hfl k0 (by omega)
      have hft : ∀ k, 0 ≤ k → k ≤ 2 → rz_f g0 k ≤ rz_t g0 k := fun k k0 k1 => by
        obtain ⟨w1, w2⟩ := hfa k k0 k1
        rw [w1, w2]
        exact rz_A_ff hA (by omega) (by omega)
      have hlt : qz_I h 202 5 ≤ 255 := by omega
      have hnp := rz_A_pos (by decide) hA
      have fc0 := x0.2
      have i6 := hI.2.2.2.2.1
      have hsp : qz_I g0 202 1 + 2 ≤ 513 := by rw [q202]; omega
      refine ez_if rfl rfl ⟨by decide, by decide⟩ (fun _ => ?_) (fun (c4 : ¬((1 : Int) ≠ (0))) => absurd c4 (by decide))
      refine ez_go (n := 1) (pc' := 28) (L' := [(0, .inr (.inr (some (720)))), (1, .inl (2)), (2, .inl (n))]) (st' := [.inl (2)]) rfl ?_
      refine ez_sw rfl ⟨by decide, by decide⟩ ⟨_, rfl, rfl⟩ ?_
      refine ez_go (n := 1) (pc' := 77) (L' := [(0, .inr (.inr (some (720)))), (1, .inl (2)), (2, .inl (n))]) (st' := [.inr (.inr (some (720)))]) rfl ?_
      refine ez_cv hB0 t720 rfl rfl rfl tq_52 rfl rfl rfl (rd_takeFold hB0 t193 t202 t203 t720 t721 t722 hI0.2.2.1.1 hI0.2.2.1.2 hft hsp (by omega) (by omega) (fun g1 τ1 hB1 hx => ez_K1 ?_) (fun g1 h1 τ1 p hB1 hBh hx ht => ez_K1 ?_))
      · skip
        have xx := x0.trans (fz_xt hx)
        have w202 : ∀ j, qz_I g1 202 j = qz_I g0 202 j := fun j => hx.I (by rw [t202]; decide) j
        have hI1 : jz_I τ1 g1 F E := jz_no hI0 hB1 (fz_xt hx) w202 ((hx.1 203 (by rw [t203]; decide)).2) ((hx.1 205 (by rw [t205]; decide)).2) (fun q hq => (hx.1 q (by rw [hq]; decide)).2)
        have u202 : τ1 202 = 48 := hI1.2.1 202 (by decide)
        have u720 : τ1 720 = 52 := hI1.2.1 720 (by decide)
        refine ez_go (n := 2) (pc' := 97) (L' := [(3, .inl (-1)), (0, .inr (.inr (some (720)))), (1, .inl (2)), (2, .inl (n))]) (st' := []) rfl ?_
        refine ez_less [(3, .inl (-1)), (0, .inr (.inr (some (720)))), (1, .inl (2)), (2, .inl (n))] rfl ⟨rfl, rfl, rfl, rfl, trivial⟩ ?_
        refine rd_take_e hB1 u720 u202 (by omega) (by omega) (Or.inl rfl) (fun g9 hB9 f9 j9 l9 => ?_)
        rw [if_pos rfl] at l9
        have y9 := fz_1 u202 rfl f9
        have e9 : ∀ j, qz_I g9 202 j = qz_I g1 202 j := fun j => by by_cases w : j = 5; (· rw [w, l9]; omega); (· exact j9 j w)
        have hI9 : jz_I τ1 g9 F E := jz_no hI1 hB9 y9 e9 (f9.2.2 203 rfl) (f9.2.2 205 rfl) (fun q hq => f9.2.2 q (rz_ne hq u202 rfl))
        exact k g9 _ F E (-1) hI9 ((xx.trans y9).mono (by omega) (by omega)) ⟨fun w => absurd w (by decide), fun w => absurd w (by decide), fun _ _ => ⟨rfl, rfl⟩⟩ (Or.inl ⟨rfl, by rw [e9, w202, q202]⟩) (fun j _ _ _ => by rw [e9, w202, q202])
      · skip
        have xr := fz_xt hx
        have X1 := hI0.2.1.fz xr
        have u202 : τ1 202 = 48 := X1 202 (by decide)
        have u203 : τ1 203 = 49 := X1 203 (by decide)
        have u204 : τ1 204 = 50 := X1 204 (by decide)
        have u205 : τ1 205 = 51 := X1 205 (by decide)
        have u720 : τ1 720 = 52 := X1 720 (by decide)
        have w202 : ∀ j, qz_I h1 202 j = qz_I g0 202 j := fun j => hx.I (by rw [t202]; decide) j
        have c205 : h1.2.2 205 = g0.2.2 205 := (hx.1 205 (by rw [t205]; decide)).2
        have c203 : h1.2.2 203 = g0.2.2 203 := (hx.1 203 (by rw [t203]; decide)).2
        have c4 : ∀ q, τ q = 4 → h1.2.2 q = g0.2.2 q := fun q hq => (hx.1 q (by rw [hq]; decide)).2
        have hDh : sz_D τ1 h1 F E := sz_D_tr hB0 t202 t203 hI0.2.2.2.2.2.2.1 (w202 1) c203 c4 (fun q hq => by have := (xr.1 q (by rw [hq]; decide)).2 (by rw [hq]; rfl); unfold qz_I; rw [this]; exact ⟨rfl, rfl, rfl, rfl⟩) (fun p hp => by have := xr.1 p (by rw [hp]; decide); exact ⟨this.1.trans hp, this.2 (by rw [hp]; rfl)⟩)
        have F2e : ∃ F2, F2 = F := ⟨F, rfl⟩
        obtain ⟨F2, hF2⟩ := F2e
        have E2e : ∃ E2, E2 = E := ⟨E, rfl⟩
        obtain ⟨E2, hE2⟩ := E2e
        have hXs : ∃ y, ∀ x, (F2 x).2 ≠ none → (F x).2 ≠ none ∨ x = y := ⟨0, fun x hx => Or.inl (by rw [hF2] at hx; exact hx)⟩
        have hstep : rz_step (rz_b h) n 2 F E F2 E2 := ⟨fun w => absurd w (by decide), fun w => absurd w (by decide), fun _ _ => ⟨hF2, hE2⟩⟩
        have hok9 : sz_ok g1 ∧ sz_inj g1 := ⟨ht.1, ht.2.1⟩
        have p205 : sz_PS τ1 205 = false := by unfold sz_PS; rw [u205]; rfl
        have hE9 : ∀ i : Nat, (i : Int) < qz_I g1 202 4 → 1 ≤ qz_I g1 205 i := fun i hi => by rw [ht.2.2.2.1 4 (by decide), w202] at hi; rw [ht.2.2.1.I p205]; unfold qz_I; rw [c205]; exact hI0.2.2.2.1 i hi
        have hn9 : qz_I g1 202 1 ≤ qz_I g0 202 1 + 2 := by have := ht.2.2.2.2.1; rw [w202] at this; exact this
        have h59 : qz_I g1 202 5 = qz_I g0 202 5 := (ht.2.2.2.1 5 (by decide)).trans (w202 5)
        have ho9 : ∀ j, j ≠ 1 → j ≠ 4 → qz_I g1 202 j = qz_I g0 202 j := fun j j1 _ => (ht.2.2.2.1 j j1).trans (w202 j)
        have xg := xr.trans (fz_PS u202 u203 ht.2.2.1)
        have hD9 : sz_D τ1 g1 F2 E2 := by rw [hF2, hE2]; exact sz_D_R hBh u202 u203 hDh ht (fun P u v w => w (by decide)) (fun x u v w wu => by rw [w (by decide)]; exact wu)
        refine ez_go (n := 2) (pc' := 97) (L' := [(3, .inl (1)), (0, .inr (.inr (some (720)))), (1, .inl (2)), (2, .inl (n))]) (st' := []) rfl ?_
        refine ez_less [(3, .inl (1)), (0, .inr (.inr (some (720)))), (1, .inl (2)), (2, .inl (n))] rfl ⟨rfl, rfl, rfl, rfl, trivial⟩ ?_
        refine rd_take_e hB1 u720 u202 (by omega) (by omega) (Or.inr (by rw [h59, q202]; exact hlt)) (fun g9 hB9 f9 j9 l9 => ?_)
        rw [if_neg (by omega)] at l9
        have y9 := fz_1 u202 rfl f9
        refine k g9 _ F2 E2 _ (jz_yes hI0 hB9 (xg.trans y9) hB1 hok9 hE9 hn9 h59 hD9 f9 j9 l9 hXs) (((x0.trans xg).trans y9).mono (by omega) (by omega)) hstep (Or.inr ⟨by omega, by omega, hnp, by rw [l9, h59, q202]⟩) (fun j j1 j4 j5 => by rw [j9 j j5, ho9 j j1 j4, q202])

theorem rd_take3 {F : rz_W} {E : Int → Prop} {n : Int} (hI : jz_I τ h F E) (n0 : 0 ≤ n) (n1 : n ≤ 4096) (hl : n = 0 ∨ qz_I h 202 5 ≤ 255) (hr1 : h.1 + 4 ≤ 600192) (hr2 : h.2.1 + 59 ≤ 7302232) (k : ∀ g τ1 F2 E2 (v : Int), jz_I τ1 g F2 E2 → fz τ h τ1 g 4 59 → rz_step (rz_b h) n 3 F E F2 E2 → ((v = -1 ∧ qz_I g 202 5 = qz_I h 202 5) ∨ (0 ≤ v ∧ v ≤ 1114112 ∧ 0 < n ∧ qz_I g 202 5 = qz_I h 202 5 + 1)) → (∀ j, j ≠ 1 → j ≠ 4 → j ≠ 5 → qz_I g 202 j = qz_I h 202 j) → Q (.inl (some (ez_v (.inl v))), g)) : ez_W (d + 8) cm_174 0 [(0, .inr (.inr (some (720)))), (1, .inl (3)), (2, .inl (n))] [] h Q := by
  have t193 : τ 193 = 45 := hI.2.1 193 (by decide)
  have t202 : τ 202 = 48 := hI.2.1 202 (by decide)
  have t203 : τ 203 = 49 := hI.2.1 203 (by decide)
  have t204 : τ 204 = 50 := hI.2.1 204 (by decide)
  have t205 : τ 205 = 51 := hI.2.1 205 (by decide)
  have t720 : τ 720 = 52 := hI.2.1 720 (by decide)
  have t721 : τ 721 = 53 := hI.2.1 721 (by decide)
  have t722 : τ 722 = 54 := hI.2.1 722 (by decide)
  have hB := hI.1
  refine ez_go (n := 1) (pc' := 1) (L' := [(0, .inr (.inr (some (720)))), (1, .inl (3)), (2, .inl (n))]) (st' := [.inr (.inr (some (720)))]) rfl ?_
  refine ez_gC (p := 202) (tg := 48) hB t720 rfl rfl tq_52 rfl rfl (fun (t202 : _ = 48) => ?_)
  refine ez_gI hB t202 rfl rfl tq_48 rfl rfl (fun (b1 : 0 ≤ qz_I h 202 5) (b1' : qz_I h 202 5 ≤ 256) => ?_)
  refine ez_go (n := 1) (pc' := 10) (L' := [(0, .inr (.inr (some (720)))), (1, .inl (3)), (2, .inl (n))]) (st' := [.inl (256), .inl (qz_I h 202 5)]) rfl ?_
  refine ez_icmp rfl rfl ⟨by first | omega | exact (sz_i32 _).1, by first | omega | exact (sz_i32 _).2⟩ ⟨by first | omega | exact (sz_i32 _).1, by first | omega | exact (sz_i32 _).2⟩ (fun (c2 : (256) ≤ (qz_I h 202 5)) => ?_) (fun (c2 : ¬((256) ≤ (qz_I h 202 5))) => ?_)
  · skip
    refine ez_go (n := 1) (pc' := 26) (L' := [(0, .inr (.inr (some (720)))), (1, .inl (3)), (2, .inl (n))]) (st' := [.inl (-1)]) rfl ?_
    exact ez_retI rfl rfl (k h τ F E (-1) hI (fz.refl _ _ _ _) ⟨fun w => absurd w (by decide), fun _ => Or.inr ⟨(fun ⟨_, _, A, hA, _⟩ => by have := rz_A_pos (by decide) hA; omega), rfl, rfl⟩, fun _ w => absurd rfl w⟩ (Or.inl ⟨rfl, rfl⟩) (fun _ _ _ _ => rfl))
  · skip
    refine ez_go (n := 3) (pc' := 16) (L' := [(0, .inr (.inr (some (720)))), (1, .inl (3)), (2, .inl (n))]) (st' := [.inl (3), .inl (n), .inr (.inr (some (720)))]) rfl ?_
    refine ez_cs hB.2.1 rfl rfl rfl rfl rfl (rd_fieldsOf3 (ez_K1 ?_))
    refine ez_cv hB t720 rfl rfl rfl tq_52 rfl rfl rfl (rd_split hB t720 t721 t722 n0 n1 (by omega) (by omega) (fun g0 hB0 f0 hno => ez_K1 ?_) (fun g0 c hB0 f0 hpl hha hlen hfl => ez_K1 ?_))
    · skip
      have x0 := fz_ft t721 t722 f0
      have q202 : ∀ j, qz_I g0 202 j = qz_I h 202 j := fun j => f0.I rfl j
      have hI0 : jz_I τ g0 F E := jz_no hI hB0 x0 q202 (f0.2.2 203 rfl) (f0.2.2 205 rfl) (fun q hq => f0.2.2 q (by unfold rz_ft; rw [dz_beq_ne (fun e => by rw [e, t721] at hq; cases hq), dz_beq_ne (fun e => by rw [e, t722] at hq; cases hq)]; rfl))
      have b0 : rz_b g0 = rz_b h := rz_b_fr f0 rfl
      refine ez_if rfl rfl ⟨by decide, by decide⟩ (fun (c3 : (0 : Int) ≠ (0)) => absurd c3 (by decide)) (fun _ => ?_)
      refine ez_go (n := 1) (pc' := 26) (L' := [(0, .inr (.inr (some (720)))), (1, .inl (3)), (2, .inl (n))]) (st' := [.inl (-1)]) rfl ?_
      exact ez_retI rfl rfl (k g0 τ F E (-1) hI0 (x0.mono (by omega) (by omega)) ⟨fun w => absurd w (by decide), fun _ => Or.inr ⟨(fun ⟨_, _, A, hA, _⟩ => by obtain ⟨c, c1, c2, c3, c4⟩ := hA; exact hno c1 c c2.1 c2.2.1 c2.2.2.1 c2.2.2.2 (by rw [← c3]; exact c4)), rfl, rfl⟩, fun _ w => absurd rfl w⟩ (Or.inl ⟨rfl, q202 5⟩) (fun j _ _ _ => q202 j))
    · skip
      have x0 := fz_ft t721 t722 f0
      have q202 : ∀ j, qz_I g0 202 j = qz_I h 202 j := fun j => f0.I rfl j
      have hI0 : jz_I τ g0 F E := jz_no hI hB0 x0 q202 (f0.2.2 203 rfl) (f0.2.2 205 rfl) (fun q hq => f0.2.2 q (by unfold rz_ft; rw [dz_beq_ne (fun e => by rw [e, t721] at hq; cases hq), dz_beq_ne (fun e => by rw [e, t722] at hq; cases hq)]; rfl))
      have b0 : rz_b g0 = rz_b h := rz_b_fr f0 rfl
      have hA : rz_A (rz_b h) n 2 (rz_seg (rz_b h) c.toNat 0 0) := ⟨c, hpl, hha, rfl, hlen⟩
      generalize rz_seg (rz_b h) c.toNat 0 0 = A at hA hfl hlen
      have hlen : (A.length : Int) = 2 := by rw [hlen]; rfl
      have hfa : ∀ k, 0 ≤ k → k ≤ 1 → rz_f g0 k = rz_ff (rz_b h) A k ∧ rz_t g0 k = rz_tt (rz_b h) A k := fun k k0 k1 => rz_flds_at hfl k0 (by omega)
      have hft : ∀ k, 0 ≤ k → k ≤ 1 → rz_f g0 k ≤ rz_t g0 k := fun k k0 k1 => by
        obtain ⟨w1, w2⟩ := hfa k k0 k1
        rw [w1, w2]
        exact rz_A_ff hA (by omega) (by omega)
      have hlt : qz_I h 202 5 ≤ 255 := by omega
      have hnp := rz_A_pos (by decide) hA
      have fc0 := x0.2
      have i6 := hI.2.2.2.2.1
      have hsp : qz_I g0 202 1 + 2 ≤ 513 := by rw [q202]; omega
      refine ez_if rfl rfl ⟨by decide, by decide⟩ (fun _ => ?_) (fun (c4 : ¬((1 : Int) ≠ (0))) => absurd c4 (by decide))
      refine ez_go (n := 1) (pc' := 28) (L' := [(0, .inr (.inr (some (720)))), (1, .inl (3)), (2, .inl (n))]) (st' := [.inl (3)]) rfl ?_
      refine ez_sw rfl ⟨by decide, by decide⟩ ⟨_, rfl, rfl⟩ ?_
      refine ez_go (n := 1) (pc' := 85) (L' := [(0, .inr (.inr (some (720)))), (1, .inl (3)), (2, .inl (n))]) (st' := [.inr (.inr (some (720)))]) rfl ?_
      refine ez_cv hB0 t720 rfl rfl rfl tq_52 rfl rfl rfl (rd_takeProperty hB0 hI0.2.2.2.2.2.1 (hI0.2.1 2 (by decide)) (hI0.2.1 3 (by decide)) (hI0.2.1 4 (by decide)) (hI0.2.1 5 (by decide)) (hI0.2.1 6 (by decide)) t193 t202 t203 t720 t721 t722 hI0.2.2.1.1 hI0.2.2.1.2 hft hsp (fun g1 hB1 f1 hno => ez_K1 ?_) (fun g1 h1 first last hB1 hBh f1 ef el f1n fl ht => ez_K1 ?_))
      · skip
        obtain ⟨τ1, eτ⟩ : ∃ τ1, τ1 = τ := ⟨τ, rfl⟩
        rw [← eτ] at hB1
        have hx : ez_xr τ g0 τ1 g1 720 0 0 := by rw [eτ]; exact ⟨fun q hq => ⟨rfl, fun w => f1.2.2 q (dz_beq_ne w)⟩, by rw [f1.1]; omega, by rw [f1.2.1]; omega⟩
        have xx := x0.trans (fz_xr t720 hx)
        have w202 : ∀ j, qz_I g1 202 j = qz_I g0 202 j := fun j => hx.I (by rw [t202]; decide) (by decide) j
        have hI1 : jz_I τ1 g1 F E := jz_no hI0 hB1 (fz_xr t720 hx) w202 ((hx.1 203 (by rw [t203]; decide)).2 (by decide)) ((hx.1 205 (by rw [t205]; decide)).2 (by decide)) (fun q hq => (hx.1 q (by rw [hq]; decide)).2 (fun e => by rw [e, t720] at hq; cases hq))
        have u202 : τ1 202 = 48 := hI1.2.1 202 (by decide)
        have u720 : τ1 720 = 52 := hI1.2.1 720 (by decide)
        have hnone : ¬ ∃ first last, rz_L3 (rz_b h) n first last := fun ⟨f, l, A2, hA2, w1, w2⟩ => hno (by rw [← rz_A_uniq hA hA2] at w1 w2; rw [b0, (hfa 0 (by omega) (by omega)).1, (hfa 0 (by omega) (by omega)).2, (hfa 1 (by omega) (by omega)).1, (hfa 1 (by omega) (by omega)).2]; exact ⟨⟨by rw [← w1.1]; exact w1.2.2.1, by rw [← w1.1, ← w1.2.1]; exact w1.2.2.2⟩, w2⟩)
        refine ez_go (n := 2) (pc' := 97) (L' := [(3, .inl (-1)), (0, .inr (.inr (some (720)))), (1, .inl (3)), (2, .inl (n))]) (st' := []) rfl ?_
        refine ez_less [(3, .inl (-1)), (0, .inr (.inr (some (720)))), (1, .inl (3)), (2, .inl (n))] rfl ⟨rfl, rfl, rfl, rfl, trivial⟩ ?_
        refine rd_take_e hB1 u720 u202 (by omega) (by omega) (Or.inl rfl) (fun g9 hB9 f9 j9 l9 => ?_)
        rw [if_pos rfl] at l9
        have y9 := fz_1 u202 rfl f9
        have e9 : ∀ j, qz_I g9 202 j = qz_I g1 202 j := fun j => by by_cases w : j = 5; (· rw [w, l9]; omega); (· exact j9 j w)
        have hI9 : jz_I τ1 g9 F E := jz_no hI1 hB9 y9 e9 (f9.2.2 203 rfl) (f9.2.2 205 rfl) (fun q hq => f9.2.2 q (rz_ne hq u202 rfl))
        exact k g9 _ F E (-1) hI9 ((xx.trans y9).mono (by omega) (by omega)) ⟨fun w => absurd w (by decide), fun _ => Or.inr ⟨hnone, rfl, rfl⟩, fun _ w => absurd rfl w⟩ (Or.inl ⟨rfl, by rw [e9, w202, q202]⟩) (fun j _ _ _ => by rw [e9, w202, q202])
      · skip
        obtain ⟨τ1, eτ⟩ : ∃ τ1, τ1 = τ := ⟨τ, rfl⟩
        rw [← eτ] at hB1 hBh ht
        have hx : ez_xr τ g0 τ1 h1 720 0 0 := by rw [eτ]; exact ⟨fun q hq => ⟨rfl, fun w => f1.2.2 q (dz_beq_ne w)⟩, by rw [f1.1]; omega, by rw [f1.2.1]; omega⟩
        rw [b0, (hfa 0 (by omega) (by omega)).1, (hfa 0 (by omega) (by omega)).2] at ef el
        rw [b0, (hfa 1 (by omega) (by omega)).1, (hfa 1 (by omega) (by omega)).2] at ht
        have xr := fz_xr t720 hx
        have X1 := hI0.2.1.fz xr
        have u202 : τ1 202 = 48 := X1 202 (by decide)
        have u203 : τ1 203 = 49 := X1 203 (by decide)
        have u204 : τ1 204 = 50 := X1 204 (by decide)
        have u205 : τ1 205 = 51 := X1 205 (by decide)
        have u720 : τ1 720 = 52 := X1 720 (by decide)
        have w202 : ∀ j, qz_I h1 202 j = qz_I g0 202 j := fun j => hx.I (by rw [t202]; decide) (by decide) j
        have c205 : h1.2.2 205 = g0.2.2 205 := (hx.1 205 (by rw [t205]; decide)).2 (by decide)
        have c203 : h1.2.2 203 = g0.2.2 203 := (hx.1 203 (by rw [t203]; decide)).2 (by decide)
        have c4 : ∀ q, τ q = 4 → h1.2.2 q = g0.2.2 q := fun q hq => (hx.1 q (by rw [hq]; decide)).2 (fun e => by rw [e, t720] at hq; cases hq)
        have hDh : sz_D τ1 h1 F E := sz_D_tr hB0 t202 t203 hI0.2.2.2.2.2.2.1 (w202 1) c203 c4 (fun q hq => by have := (xr.1 q (by rw [hq]; decide)).2 (by rw [hq]; rfl); unfold qz_I; rw [this]; exact ⟨rfl, rfl, rfl, rfl⟩) (fun p hp => by have := xr.1 p (by rw [hp]; decide); exact ⟨this.1.trans hp, this.2 (by rw [hp]; rfl)⟩)
        have hok9 : sz_ok g1 ∧ sz_inj g1 := ⟨ht.1, ht.2.1⟩
        have p205 : sz_PS τ1 205 = false := by unfold sz_PS; rw [u205]; rfl
        have hE9 : ∀ i : Nat, (i : Int) < qz_I g1 202 4 → 1 ≤ qz_I g1 205 i := fun i hi => by rw [ht.2.2.2.1 4 (by decide), w202] at hi; rw [ht.2.2.1.I p205]; unfold qz_I; rw [c205]; exact hI0.2.2.2.1 i hi
        have hn9 : qz_I g1 202 1 ≤ qz_I g0 202 1 + 2 := by have := ht.2.2.2.2.1; rw [w202] at this; exact this
        have h59 : qz_I g1 202 5 = qz_I g0 202 5 := (ht.2.2.2.1 5 (by decide)).trans (w202 5)
        have ho9 : ∀ j, j ≠ 1 → j ≠ 4 → qz_I g1 202 j = qz_I g0 202 j := fun j j1 _ => (ht.2.2.2.1 j j1).trans (w202 j)
        have xg := xr.trans (fz_PS u202 u203 ht.2.2.1)
        have bl := rz_last_bd (rz_b h) (rz_ff (rz_b h) A 0) (rz_tt (rz_b h) A 0)
        have bf := rz_code_bd (rz_b h) (rz_ff (rz_b h) A 0) (rz_dots (rz_b h) (rz_tt (rz_b h) A 0 - rz_ff (rz_b h) A 0).toNat (rz_ff (rz_b h) A 0))
        have ef2 : rz_first (rz_b h) (rz_ff (rz_b h) A 0) (rz_tt (rz_b h) A 0) = rz_code (rz_b h) (rz_ff (rz_b h) A 0) (rz_dots (rz_b h) (rz_tt (rz_b h) A 0 - rz_ff (rz_b h) A 0).toNat (rz_ff (rz_b h) A 0)) := rfl
        obtain ⟨F2, hF2⟩ : ∃ F2, F2 = F := ⟨F, rfl⟩
        obtain ⟨E2, hE2⟩ : ∃ E2 : Int → Prop, ∀ x, E2 x ↔ (E x ∨ ((first ≤ x ∧ x ≤ last) ∧ rz_CE (rz_b h) (rz_ff (rz_b h) A 1) (rz_tt (rz_b h) A 1))) := ⟨_, fun x => Iff.rfl⟩
        have hD9 : sz_D τ1 g1 F2 E2 := by rw [hF2]; exact sz_D_R hBh u202 u203 hDh ht (fun P u v w => w.1 rfl) (fun x u v w wu => by rw [w.2 rfl, wu]; exact (hE2 x).symm)
        have hXs : ∃ y, ∀ x, (F2 x).2 ≠ none → (F x).2 ≠ none ∨ x = y := ⟨0, fun x hx => Or.inl (by rw [hF2] at hx; exact hx)⟩
        have hstep : rz_step (rz_b h) n 3 F E F2 E2 := by
          refine ⟨fun w => absurd w (by decide), fun _ => ?_, fun _ w => absurd rfl w⟩
          by_cases hce : rz_CE (rz_b h) (rz_ff (rz_b h) A 1) (rz_tt (rz_b h) A 1)
          · exact Or.inl ⟨first, last, ⟨A, hA, ⟨ef, el, f1n, fl⟩, hce⟩, hF2, fun x => (hE2 x).trans ⟨fun w => w.imp id (fun w => w.1), fun w => w.imp id (fun w => ⟨w, hce⟩)⟩⟩
          · refine Or.inr ⟨fun ⟨_, _, A2, hA2, _, w⟩ => hce (by rw [rz_A_uniq hA hA2]; exact w), hF2, funext fun x => propext ((hE2 x).trans ⟨fun w => w.elim id (fun w => absurd w.2 hce), Or.inl⟩)⟩
        refine ez_go (n := 2) (pc' := 97) (L' := [(3, .inl (last - first + 1)), (0, .inr (.inr (some (720)))), (1, .inl (3)), (2, .inl (n))]) (st' := []) rfl ?_
        refine ez_less [(3, .inl (last - first + 1)), (0, .inr (.inr (some (720)))), (1, .inl (3)), (2, .inl (n))] rfl ⟨rfl, rfl, rfl, rfl, trivial⟩ ?_
        refine rd_take_e hB1 u720 u202 (by omega) (by omega) (Or.inr (by rw [h59, q202]; exact hlt)) (fun g9 hB9 f9 j9 l9 => ?_)
        rw [if_neg (by omega)] at l9
        have y9 := fz_1 u202 rfl f9
        refine k g9 _ F2 E2 _ (jz_yes hI0 hB9 (xg.trans y9) hB1 hok9 hE9 hn9 h59 hD9 f9 j9 l9 hXs) (((x0.trans xg).trans y9).mono (by omega) (by omega)) hstep (Or.inr ⟨by omega, by omega, hnp, by rw [l9, h59, q202]⟩) (fun j j1 j4 j5 => by rw [j9 j j5, ho9 j j1 j4, q202])

theorem rd_take4 {F : rz_W} {E : Int → Prop} {n : Int} (hI : jz_I τ h F E) (n0 : 0 ≤ n) (n1 : n ≤ 4096) (hl : n = 0 ∨ qz_I h 202 5 ≤ 255) (hr1 : h.1 + 4 ≤ 600192) (hr2 : h.2.1 + 59 ≤ 7302232) (k : ∀ g τ1 F2 E2 (v : Int), jz_I τ1 g F2 E2 → fz τ h τ1 g 4 59 → rz_step (rz_b h) n 4 F E F2 E2 → ((v = -1 ∧ qz_I g 202 5 = qz_I h 202 5) ∨ (0 ≤ v ∧ v ≤ 1114112 ∧ 0 < n ∧ qz_I g 202 5 = qz_I h 202 5 + 1)) → (∀ j, j ≠ 1 → j ≠ 4 → j ≠ 5 → qz_I g 202 j = qz_I h 202 j) → Q (.inl (some (ez_v (.inl v))), g)) : ez_W (d + 8) cm_174 0 [(0, .inr (.inr (some (720)))), (1, .inl (4)), (2, .inl (n))] [] h Q := by
  have t193 : τ 193 = 45 := hI.2.1 193 (by decide)
  have t202 : τ 202 = 48 := hI.2.1 202 (by decide)
  have t203 : τ 203 = 49 := hI.2.1 203 (by decide)
  have t204 : τ 204 = 50 := hI.2.1 204 (by decide)
  have t205 : τ 205 = 51 := hI.2.1 205 (by decide)
  have t720 : τ 720 = 52 := hI.2.1 720 (by decide)
  have t721 : τ 721 = 53 := hI.2.1 721 (by decide)
  have t722 : τ 722 = 54 := hI.2.1 722 (by decide)
  have hB := hI.1
  refine ez_go (n := 1) (pc' := 1) (L' := [(0, .inr (.inr (some (720)))), (1, .inl (4)), (2, .inl (n))]) (st' := [.inr (.inr (some (720)))]) rfl ?_
  refine ez_gC (p := 202) (tg := 48) hB t720 rfl rfl tq_52 rfl rfl (fun (t202 : _ = 48) => ?_)
  refine ez_gI hB t202 rfl rfl tq_48 rfl rfl (fun (b1 : 0 ≤ qz_I h 202 5) (b1' : qz_I h 202 5 ≤ 256) => ?_)
  refine ez_go (n := 1) (pc' := 10) (L' := [(0, .inr (.inr (some (720)))), (1, .inl (4)), (2, .inl (n))]) (st' := [.inl (256), .inl (qz_I h 202 5)]) rfl ?_
  refine ez_icmp rfl rfl ⟨by first | omega | exact (sz_i32 _).1, by first | omega | exact (sz_i32 _).2⟩ ⟨by first | omega | exact (sz_i32 _).1, by first | omega | exact (sz_i32 _).2⟩ (fun (c2 : (256) ≤ (qz_I h 202 5)) => ?_) (fun (c2 : ¬((256) ≤ (qz_I h 202 5))) => ?_)
  · skip
    refine ez_go (n := 1) (pc' := 26) (L' := [(0, .inr (.inr (some (720)))), (1, .inl (4)), (2, .inl (n))]) (st' := [.inl (-1)]) rfl ?_
    exact ez_retI rfl rfl (k h τ F E (-1) hI (fz.refl _ _ _ _) ⟨fun w => absurd w (by decide), fun w => absurd w (by decide), fun _ _ => ⟨rfl, rfl⟩⟩ (Or.inl ⟨rfl, rfl⟩) (fun _ _ _ _ => rfl))
  · skip
    refine ez_go (n := 3) (pc' := 16) (L' := [(0, .inr (.inr (some (720)))), (1, .inl (4)), (2, .inl (n))]) (st' := [.inl (4), .inl (n), .inr (.inr (some (720)))]) rfl ?_
    refine ez_cs hB.2.1 rfl rfl rfl rfl rfl (rd_fieldsOf4 (ez_K1 ?_))
    refine ez_cv hB t720 rfl rfl rfl tq_52 rfl rfl rfl (rd_split hB t720 t721 t722 n0 n1 (by omega) (by omega) (fun g0 hB0 f0 hno => ez_K1 ?_) (fun g0 c hB0 f0 hpl hha hlen hfl => ez_K1 ?_))
    · skip
      have x0 := fz_ft t721 t722 f0
      have q202 : ∀ j, qz_I g0 202 j = qz_I h 202 j := fun j => f0.I rfl j
      have hI0 : jz_I τ g0 F E := jz_no hI hB0 x0 q202 (f0.2.2 203 rfl) (f0.2.2 205 rfl) (fun q hq => f0.2.2 q (by unfold rz_ft; rw [dz_beq_ne (fun e => by rw [e, t721] at hq; cases hq), dz_beq_ne (fun e => by rw [e, t722] at hq; cases hq)]; rfl))
      have b0 : rz_b g0 = rz_b h := rz_b_fr f0 rfl
      refine ez_if rfl rfl ⟨by decide, by decide⟩ (fun (c3 : (0 : Int) ≠ (0)) => absurd c3 (by decide)) (fun _ => ?_)
      refine ez_go (n := 1) (pc' := 26) (L' := [(0, .inr (.inr (some (720)))), (1, .inl (4)), (2, .inl (n))]) (st' := [.inl (-1)]) rfl ?_
      exact ez_retI rfl rfl (k g0 τ F E (-1) hI0 (x0.mono (by omega) (by omega)) ⟨fun w => absurd w (by decide), fun w => absurd w (by decide), fun _ _ => ⟨rfl, rfl⟩⟩ (Or.inl ⟨rfl, q202 5⟩) (fun j _ _ _ => q202 j))
    · skip
      have x0 := fz_ft t721 t722 f0
      have q202 : ∀ j, qz_I g0 202 j = qz_I h 202 j := fun j => f0.I rfl j
      have hI0 : jz_I τ g0 F E := jz_no hI hB0 x0 q202 (f0.2.2 203 rfl) (f0.2.2 205 rfl) (fun q hq => f0.2.2 q (by unfold rz_ft; rw [dz_beq_ne (fun e => by rw [e, t721] at hq; cases hq), dz_beq_ne (fun e => by rw [e, t722] at hq; cases hq)]; rfl))
      have b0 : rz_b g0 = rz_b h := rz_b_fr f0 rfl
      have hA : rz_A (rz_b h) n 2 (rz_seg (rz_b h) c.toNat 0 0) := ⟨c, hpl, hha, rfl, hlen⟩
      generalize rz_seg (rz_b h) c.toNat 0 0 = A at hA hfl hlen
      have hlen : (A.length : Int) = 2 := by rw [hlen]; rfl
      have hfa : ∀ k, 0 ≤ k → k ≤ 1 → rz_f g0 k = rz_ff (rz_b h) A k ∧ rz_t g0 k = rz_tt (rz_b h) A k := fun k k0 k1 => rz_flds_at hfl k0 (by omega)
      have hft : ∀ k, 0 ≤ k → k ≤ 1 → rz_f g0 k ≤ rz_t g0 k := fun k k0 k1 => by
        obtain ⟨w1, w2⟩ := hfa k k0 k1
        rw [w1, w2]
        exact rz_A_ff hA (by omega) (by omega)
      have hlt : qz_I h 202 5 ≤ 255 := by omega
      have hnp := rz_A_pos (by decide) hA
      have fc0 := x0.2
      have i6 := hI.2.2.2.2.1
      have hsp : qz_I g0 202 1 + 2 ≤ 513 := by rw [q202]; omega
      refine ez_if rfl rfl ⟨by decide, by decide⟩ (fun _ => ?_) (fun (c4 : ¬((1 : Int) ≠ (0))) => absurd c4 (by decide))
      refine ez_go (n := 1) (pc' := 28) (L' := [(0, .inr (.inr (some (720)))), (1, .inl (4)), (2, .inl (n))]) (st' := [.inl (4)]) rfl ?_
      refine ez_sw rfl ⟨by decide, by decide⟩ ⟨_, rfl, rfl⟩ ?_
      refine ez_go (n := 1) (pc' := 93) (L' := [(0, .inr (.inr (some (720)))), (1, .inl (4)), (2, .inl (n))]) (st' := [.inr (.inr (some (720)))]) rfl ?_
      refine ez_cv hB0 t720 rfl rfl rfl tq_52 rfl rfl rfl (rd_takeEntry hB0 t193 t202 t203 t720 t721 t722 hI0.2.2.1.1 hI0.2.2.1.2 hft hsp t204 t205 hI0.2.2.2.1 (by omega) (by omega) (fun g1 τ1 hB1 hx => ez_K1 ?_) (fun g1 h1 τ1 v v1 v3 hB1 hBh hx fe j9 hE9 => ez_K1 ?_))
      · skip
        have xx := x0.trans (fz_xt hx)
        have w202 : ∀ j, qz_I g1 202 j = qz_I g0 202 j := fun j => hx.I (by rw [t202]; decide) j
        have hI1 : jz_I τ1 g1 F E := jz_no hI0 hB1 (fz_xt hx) w202 ((hx.1 203 (by rw [t203]; decide)).2) ((hx.1 205 (by rw [t205]; decide)).2) (fun q hq => (hx.1 q (by rw [hq]; decide)).2)
        have u202 : τ1 202 = 48 := hI1.2.1 202 (by decide)
        have u720 : τ1 720 = 52 := hI1.2.1 720 (by decide)
        refine ez_go (n := 1) (pc' := 97) (L' := [(3, .inl (-1)), (0, .inr (.inr (some (720)))), (1, .inl (4)), (2, .inl (n))]) (st' := []) rfl ?_
        refine ez_less [(3, .inl (-1)), (0, .inr (.inr (some (720)))), (1, .inl (4)), (2, .inl (n))] rfl ⟨rfl, rfl, rfl, rfl, trivial⟩ ?_
        refine rd_take_e hB1 u720 u202 (by omega) (by omega) (Or.inl rfl) (fun g9 hB9 f9 j9 l9 => ?_)
        rw [if_pos rfl] at l9
        have y9 := fz_1 u202 rfl f9
        have e9 : ∀ j, qz_I g9 202 j = qz_I g1 202 j := fun j => by by_cases w : j = 5; (· rw [w, l9]; omega); (· exact j9 j w)
        have hI9 : jz_I τ1 g9 F E := jz_no hI1 hB9 y9 e9 (f9.2.2 203 rfl) (f9.2.2 205 rfl) (fun q hq => f9.2.2 q (rz_ne hq u202 rfl))
        exact k g9 _ F E (-1) hI9 ((xx.trans y9).mono (by omega) (by omega)) ⟨fun w => absurd w (by decide), fun w => absurd w (by decide), fun _ _ => ⟨rfl, rfl⟩⟩ (Or.inl ⟨rfl, by rw [e9, w202, q202]⟩) (fun j _ _ _ => by rw [e9, w202, q202])
      · skip
        have xr := fz_xt hx
        have X1 := hI0.2.1.fz xr
        have u202 : τ1 202 = 48 := X1 202 (by decide)
        have u203 : τ1 203 = 49 := X1 203 (by decide)
        have u204 : τ1 204 = 50 := X1 204 (by decide)
        have u205 : τ1 205 = 51 := X1 205 (by decide)
        have u720 : τ1 720 = 52 := X1 720 (by decide)
        have w202 : ∀ j, qz_I h1 202 j = qz_I g0 202 j := fun j => hx.I (by rw [t202]; decide) j
        have c205 : h1.2.2 205 = g0.2.2 205 := (hx.1 205 (by rw [t205]; decide)).2
        have c203 : h1.2.2 203 = g0.2.2 203 := (hx.1 203 (by rw [t203]; decide)).2
        have c4 : ∀ q, τ q = 4 → h1.2.2 q = g0.2.2 q := fun q hq => (hx.1 q (by rw [hq]; decide)).2
        have hDh : sz_D τ1 h1 F E := sz_D_tr hB0 t202 t203 hI0.2.2.2.2.2.2.1 (w202 1) c203 c4 (fun q hq => by have := (xr.1 q (by rw [hq]; decide)).2 (by rw [hq]; rfl); unfold qz_I; rw [this]; exact ⟨rfl, rfl, rfl, rfl⟩) (fun p hp => by have := xr.1 p (by rw [hp]; decide); exact ⟨this.1.trans hp, this.2 (by rw [hp]; rfl)⟩)
        have F2e : ∃ F2, F2 = F := ⟨F, rfl⟩
        obtain ⟨F2, hF2⟩ := F2e
        have E2e : ∃ E2, E2 = E := ⟨E, rfl⟩
        obtain ⟨E2, hE2⟩ := E2e
        have hXs : ∃ y, ∀ x, (F2 x).2 ≠ none → (F x).2 ≠ none ∨ x = y := ⟨0, fun x hx => Or.inl (by rw [hF2] at hx; exact hx)⟩
        have hstep : rz_step (rz_b h) n 4 F E F2 E2 := ⟨fun w => absurd w (by decide), fun w => absurd w (by decide), fun _ _ => ⟨hF2, hE2⟩⟩
        have xg := xr.trans (fz_PE u202 u204 u205 fe)
        have pe : ∀ q, τ1 q = 3 ∨ τ1 q = 4 ∨ τ1 q = 5 → nz_PE q = false := fun q hq => by unfold nz_PE; rw [dz_beq_ne (fun e => by rw [e, u202] at hq; omega), dz_beq_ne (fun e => by rw [e, u204] at hq; omega), dz_beq_ne (fun e => by rw [e, u205] at hq; omega)]; rfl
        have hD9 : sz_D τ1 g1 F2 E2 := by
          rw [hF2, hE2]
          refine sz_D_tr hBh u202 u203 hDh (j9 1 (by decide)) (fe.2.2 203 rfl) (fun q hq => fe.2.2 q (pe q (Or.inr (Or.inl hq)))) (fun q hq => ?_) (fun p hp => ⟨hp, fe.2.2 p (pe p (Or.inr (Or.inr hp)))⟩)
          unfold qz_I; rw [fe.2.2 q (pe q (Or.inl hq))]; exact ⟨rfl, rfl, rfl, rfl⟩
        have okh := sz_same_ok hB0 t203 t202 (hx.1 202 (by rw [t202]; decide)).2 (hx.1 203 (by rw [t203]; decide)).2 (fun q hq => (hx.1 q (by rw [hq]; decide)).2) hI0.2.2.1.1 hI0.2.2.1.2
        have hok9 := sz_pe_ok hBh u203 u202 (j9 1 (by decide)) (fe.2.2 203 rfl) (fun q hq => fe.2.2 q (pe q (Or.inr (Or.inl hq)))) okh.1 okh.2
        have hn9 : qz_I g1 202 1 ≤ qz_I g0 202 1 + 2 := by rw [j9 1 (by decide), w202]; omega
        have h59 : qz_I g1 202 5 = qz_I g0 202 5 := (j9 5 (by decide)).trans (w202 5)
        have ho9 : ∀ j, j ≠ 1 → j ≠ 4 → qz_I g1 202 j = qz_I g0 202 j := fun j _ j4 => (j9 j j4).trans (w202 j)
        refine ez_go (n := 1) (pc' := 97) (L' := [(3, .inl (v)), (0, .inr (.inr (some (720)))), (1, .inl (4)), (2, .inl (n))]) (st' := []) rfl ?_
        refine ez_less [(3, .inl (v)), (0, .inr (.inr (some (720)))), (1, .inl (4)), (2, .inl (n))] rfl ⟨rfl, rfl, rfl, rfl, trivial⟩ ?_
        refine rd_take_e hB1 u720 u202 (by omega) (by omega) (Or.inr (by rw [h59, q202]; exact hlt)) (fun g9 hB9 f9 j9 l9 => ?_)
        rw [if_neg (by omega)] at l9
        have y9 := fz_1 u202 rfl f9
        refine k g9 _ F2 E2 _ (jz_yes hI0 hB9 (xg.trans y9) hB1 hok9 hE9 hn9 h59 hD9 f9 j9 l9 hXs) (((x0.trans xg).trans y9).mono (by omega) (by omega)) hstep (Or.inr ⟨by omega, by omega, hnp, by rw [l9, h59, q202]⟩) (fun j j1 j4 j5 => by rw [j9 j j5, ho9 j j1 j4, q202])

end EzTa
section EzDv
variable {d : Nat} {M : cz_M} {pc : Nat} {L : List (Nat × ez_V)} {st : List ez_V} {h : cz_H} {Q : cz_F → Prop}
theorem nz_div {a b : Int} (a0 : 0 ≤ a) (a1 : a ≤ 2147483647) (b0 : 0 < b) (b1 : b ≤ 2147483647) : Int32.ofInt a / Int32.ofInt b = Int32.ofInt (a / b) := by
  apply Int32.toInt_inj.mp
  have ea : (Int32.ofInt a).toInt = a := dz_toInt_i (by omega) (by omega)
  have eb : (Int32.ofInt b).toInt = b := dz_toInt_i (by omega) (by omega)
  have hq : 0 ≤ a / b := Int.ediv_nonneg a0 (by omega)
  have hq2 : a / b ≤ a := Int.ediv_le_self b a0
  rw [Int32.toInt_div, ea, eb, dz_toInt_i (n := a / b) (by omega) (by omega), Int.tdiv_eq_ediv_of_nonneg a0]
  rw [Int.bmod_eq_of_le (by omega) (by omega)]
theorem nz_rem {a b : Int} (a0 : 0 ≤ a) (a1 : a ≤ 2147483647) (b0 : 0 < b) (b1 : b ≤ 2147483647) : Int32.ofInt a - Int32.ofInt a / Int32.ofInt b * Int32.ofInt b = Int32.ofInt (a % b) := by
  rw [nz_div a0 a1 b0 b1, ← Int32.ofInt_mul, ← Int32.ofInt_sub, Int.emod_def, Int.mul_comm]
theorem ez_div {a b : Int} (hc : cz_code M pc = some (.idiv, 1)) (a0 : 0 ≤ a) (a1 : a ≤ 2147483647) (b0 : 0 < b) (b1 : b ≤ 2147483647) (k : ez_W d M (pc + 1) L (.inl (a / b) :: st) h Q) : ez_W d M pc L (.inl b :: .inl a :: st) h Q := by
  have eb : (Int32.ofInt b).toInt = b := dz_toInt_i (by omega) (by omega)
  have hb : Int32.ofInt b ≠ 0 := fun e => by rw [e] at eb; have : (0 : Int32).toInt = 0 := rfl; omega
  refine dz_wp_pure (q := (ez_L L, .inl (Int32.ofInt (a / b)) :: st.map ez_v)) hc rfl ?_ k
  show (bif decide (Int32.ofInt b = 0) then none else some (ez_L L, (.inl (Int32.ofInt a / Int32.ofInt b) : cz_V) :: st.map ez_v)) = _
  rw [decide_eq_false hb, nz_div a0 a1 b0 b1]
  rfl
theorem ez_rem {a b : Int} (hc : cz_code M pc = some (.irem, 1)) (a0 : 0 ≤ a) (a1 : a ≤ 2147483647) (b0 : 0 < b) (b1 : b ≤ 2147483647) (k : ez_W d M (pc + 1) L (.inl (a % b) :: st) h Q) : ez_W d M pc L (.inl b :: .inl a :: st) h Q := by
  have eb : (Int32.ofInt b).toInt = b := dz_toInt_i (by omega) (by omega)
  have hb : Int32.ofInt b ≠ 0 := fun e => by rw [e] at eb; have : (0 : Int32).toInt = 0 := rfl; omega
  refine dz_wp_pure (q := (ez_L L, .inl (Int32.ofInt (a % b)) :: st.map ez_v)) hc rfl ?_ k
  show (bif decide (Int32.ofInt b = 0) then none else some (ez_L L, (.inl (Int32.ofInt a - Int32.ofInt a / Int32.ofInt b * Int32.ofInt b) : cz_V) :: st.map ez_v)) = _
  rw [decide_eq_false hb, nz_rem a0 a1 b0 b1]
  rfl
end EzDv
/-! SOUND, as a property of what is told of each point. -/
abbrev hz (x : Int) : Prop := 44032 ≤ x ∧ x ≤ 55203
def hz_sy (x : Int) : List Int := if (x - 44032) % 28 = 0 then [4352 + (x - 44032) / 588, 4449 + (x - 44032) % 588 / 28] else [4352 + (x - 44032) / 588, 4449 + (x - 44032) % 588 / 28, 4519 + (x - 44032) % 28]
def hz_pair (a b : Int) : Prop := ((4352 ≤ a ∧ a ≤ 4370) ∧ 4449 ≤ b ∧ b ≤ 4469) ∨ (hz a ∧ (a - 44032) % 28 = 0 ∧ 4520 ≤ b ∧ b ≤ 4546)
def uz_L (f : Int → Option (List Int)) : List Int → Option (List Int)
  | [] => some []
  | v :: vs => match f v, uz_L f vs with
    | some a, some b => some (a ++ b)
    | _, _ => none
/-- the full decomposition, with so much fuel -/
def uz_f (F : rz_W) (c : Bool) : Nat → Int → Option (List Int)
  | 0, _ => none
  | n + 1, x => if hz x then some (hz_sy x) else match (F x).2 with
    | none => some [x]
    | some q => if c = true ∨ q.1 = 0 then uz_L (uz_f F c n) q.2 else some [x]
def uz_F (F : rz_W) (c : Bool) (x : Int) (l : List Int) : Prop := ∃ n, uz_f F c n x = some l
def uz_FL (F : rz_W) (c : Bool) (vs l : List Int) : Prop := ∃ n, uz_L (uz_f F c n) vs = some l
theorem uz_L_mono {f g : Int → Option (List Int)} (h : ∀ x l, f x = some l → g x = some l) : ∀ vs l, uz_L f vs = some l → uz_L g vs = some l
  | [], l, hl => hl
  | v :: vs, l, hl => by
    unfold uz_L at hl ⊢
    cases h1 : f v with
    | none => rw [h1] at hl; cases hl
    | some a =>
      cases h2 : uz_L f vs with
      | none => rw [h1, h2] at hl; cases hl
      | some b =>
        rw [h1, h2] at hl
        rw [h v a h1, uz_L_mono h vs b h2]
        exact hl
theorem uz_f_succ (F : rz_W) (c : Bool) : ∀ n x l, uz_f F c n x = some l → uz_f F c (n + 1) x = some l
  | 0, x, l, h => by cases h
  | n + 1, x, l, h => by
    unfold uz_f at h ⊢
    split at h
    · rename_i e; rw [if_pos e]; exact h
    · rename_i e
      rw [if_neg e]
      split at h
      · exact h
      · rename_i q _
        split at h
        · rename_i e2
          rw [if_pos e2]
          exact uz_L_mono (fun x l => uz_f_succ F c n x l) _ _ h
        · rename_i e2
          rw [if_neg e2]; exact h
theorem uz_f_mono (F : rz_W) (c : Bool) (n : Nat) (x : Int) (l : List Int) (h : uz_f F c n x = some l) : ∀ k, uz_f F c (n + k) x = some l
  | 0 => h
  | k + 1 => uz_f_succ F c (n + k) x l (uz_f_mono F c n x l h k)
theorem uz_FL_mono {F : rz_W} {c : Bool} {n : Nat} {vs l : List Int} (h : uz_L (uz_f F c n) vs = some l) (k : Nat) : uz_L (uz_f F c (n + k)) vs = some l := uz_L_mono (fun x l w => uz_f_mono F c n x l w k) vs l h
theorem uz_uniq {F : rz_W} {c : Bool} {x : Int} {l l' : List Int} (h : uz_F F c x l) (h' : uz_F F c x l') : l = l' := by
  obtain ⟨n, h⟩ := h
  obtain ⟨m, h'⟩ := h'
  have e := uz_f_mono F c n x l h m
  have e' := uz_f_mono F c m x l' h' n
  rw [Nat.add_comm m n, e] at e'
  cases e'
  rfl
theorem uz_L_uniq {F : rz_W} {c : Bool} {vs l l' : List Int} (h : uz_FL F c vs l) (h' : uz_FL F c vs l') : l = l' := by
  obtain ⟨n, h⟩ := h
  obtain ⟨m, h'⟩ := h'
  have e := uz_FL_mono h m
  have e' := uz_FL_mono h' n
  rw [Nat.add_comm m n, e] at e'
  cases e'
  rfl
theorem uz_nil (F : rz_W) (c : Bool) : uz_FL F c [] [] := ⟨0, rfl⟩
theorem uz_cons {F : rz_W} {c : Bool} {v : Int} {vs a b : List Int} (h1 : uz_F F c v a) (h2 : uz_FL F c vs b) : uz_FL F c (v :: vs) (a ++ b) := by
  obtain ⟨n, h1⟩ := h1
  obtain ⟨m, h2⟩ := h2
  refine ⟨n + m, ?_⟩
  unfold uz_L
  have e1 := uz_f_mono F c n v a h1 m
  have e2 := uz_FL_mono h2 n
  rw [Nat.add_comm m n] at e2
  rw [e1, e2]
theorem uz_cons_inv {F : rz_W} {c : Bool} {v : Int} {vs l : List Int} (h : uz_FL F c (v :: vs) l) : ∃ a b, uz_F F c v a ∧ uz_FL F c vs b ∧ l = a ++ b := by
  obtain ⟨n, h⟩ := h
  unfold uz_L at h
  cases h1 : uz_f F c n v with
  | none => rw [h1] at h; cases h
  | some a =>
    cases h2 : uz_L (uz_f F c n) vs with
    | none => rw [h1, h2] at h; cases h
    | some b => rw [h1, h2] at h; cases h; exact ⟨a, b, ⟨n, h1⟩, ⟨n, h2⟩, rfl⟩
theorem uz_snoc {F : rz_W} {c : Bool} {v : Int} {b : List Int} (h2 : uz_F F c v b) : ∀ {vs a : List Int}, uz_FL F c vs a → uz_FL F c (vs ++ [v]) (a ++ b)
  | [], a, h1 => by
    have e : a = [] := uz_L_uniq h1 (uz_nil F c)
    subst e
    have := uz_cons h2 (uz_nil F c)
    rw [List.append_nil] at this
    exact this
  | w :: vs, a, h1 => by
    obtain ⟨p, q, p1, p2, rfl⟩ := uz_cons_inv h1
    rw [List.append_assoc]
    exact uz_cons p1 (uz_snoc h2 p2)
theorem uz_syl {F : rz_W} {c : Bool} {x : Int} (h : hz x) : uz_F F c x (hz_sy x) := ⟨1, by unfold uz_f; rw [if_pos h]⟩
theorem uz_leaf {F : rz_W} {c : Bool} {x : Int} (h : ¬ hz x) (h1 : (F x).2 = none) : uz_F F c x [x] := ⟨1, by unfold uz_f; rw [if_neg h, h1]⟩
theorem uz_row {F : rz_W} {c : Bool} {x cp : Int} {vs l : List Int} (h : ¬ hz x) (h1 : (F x).2 = some (cp, vs)) (h2 : c = true ∨ cp = 0) (h3 : uz_FL F c vs l) : uz_F F c x l := by
  obtain ⟨n, h3⟩ := h3
  refine ⟨n + 1, ?_⟩
  unfold uz_f
  rw [if_neg h, h1]
  dsimp only
  rw [if_pos h2]
  exact h3
theorem uz_keep {F : rz_W} {c : Bool} {x cp : Int} {vs : List Int} (h : ¬ hz x) (h1 : (F x).2 = some (cp, vs)) (h2 : ¬ (c = true ∨ cp = 0)) : uz_F F c x [x] := by
  refine ⟨1, ?_⟩
  unfold uz_f
  rw [if_neg h, h1]
  dsimp only
  rw [if_neg h2]
theorem uz_row_inv {F : rz_W} {c : Bool} {x cp : Int} {vs l : List Int} (h : ¬ hz x) (h1 : (F x).2 = some (cp, vs)) (h2 : c = true ∨ cp = 0) (h3 : uz_F F c x l) : uz_FL F c vs l := by
  obtain ⟨n, h3⟩ := h3
  cases n with
  | zero => cases h3
  | succ n =>
    unfold uz_f at h3
    rw [if_neg h, h1] at h3
    dsimp only at h3
    rw [if_pos h2] at h3
    exact ⟨n, h3⟩
/-- no chain of decompositions without end from there -/
def az (F : rz_W) : Nat → Int → Prop
  | 0, _ => False
  | n + 1, x => hz x ∨ (F x).2 = none ∨ ∃ cp vs, (F x).2 = some (cp, vs) ∧ ∀ v ∈ vs, az F n v
theorem az_succ (F : rz_W) : ∀ n x, az F n x → az F (n + 1) x
  | 0, x, h => h.elim
  | n + 1, x, h => by
    rcases h with h | h | ⟨cp, vs, h1, h2⟩
    · exact Or.inl h
    · exact Or.inr (Or.inl h)
    · exact Or.inr (Or.inr ⟨cp, vs, h1, fun v hv => az_succ F n v (h2 v hv)⟩)
theorem az_mono (F : rz_W) (n : Nat) (x : Int) (h : az F n x) : ∀ k, az F (n + k) x
  | 0 => h
  | k + 1 => az_succ F (n + k) x (az_mono F n x h k)
def az_e (F : rz_W) (x : Int) : Prop := ∃ n, az F n x
theorem az_list (F : rz_W) : ∀ vs : List Int, (∀ v ∈ vs, az_e F v) → ∃ n, ∀ v ∈ vs, az F n v
  | [], _ => ⟨0, fun v hv => by cases hv⟩
  | w :: vs, h => by
    obtain ⟨n, hn⟩ := az_list F vs (fun v hv => h v (List.mem_cons_of_mem _ hv))
    obtain ⟨m, hm⟩ := h w List.mem_cons_self
    refine ⟨n + m, fun v hv => ?_⟩
    rcases List.mem_cons.mp hv with rfl | hv
    · rw [Nat.add_comm]; exact az_mono F m _ hm n
    · exact az_mono F n v (hn v hv) m
theorem az_row {F : rz_W} {x cp : Int} {vs : List Int} (h1 : (F x).2 = some (cp, vs)) (h : ∀ v ∈ vs, az_e F v) : az_e F x := by
  obtain ⟨n, hn⟩ := az_list F vs h
  exact ⟨n + 1, Or.inr (Or.inr ⟨cp, vs, h1, hn⟩)⟩
theorem az_leaf {F : rz_W} {x : Int} (h : hz x ∨ (F x).2 = none) : az_e F x := ⟨1, h.elim Or.inl (fun w => Or.inr (Or.inl w))⟩
theorem az_row_inv {F : rz_W} {x cp : Int} {vs : List Int} (h0 : ¬ hz x) (h1 : (F x).2 = some (cp, vs)) (h : az_e F x) : ∀ v ∈ vs, az_e F v := by
  obtain ⟨n, h⟩ := h
  cases n with
  | zero => exact h.elim
  | succ n =>
    rcases h with h | h | ⟨cp', vs', h2, h3⟩
    · exact absurd h h0
    · rw [h1] at h; cases h
    · rw [h1] at h2; cases h2
      exact fun v hv => ⟨n, h3 v hv⟩
/-- a set without end -/
theorem az_cycle {F : rz_W} {Z : Int → Prop} (h : ∀ z, Z z → ¬ hz z ∧ ∃ cp vs, (F z).2 = some (cp, vs) ∧ ∃ v ∈ vs, Z v) : ∀ n z, Z z → ¬ az F n z
  | 0, z, _, w => w
  | n + 1, z, hz', w => by
    obtain ⟨h0, cp, vs, h1, v, h2, h3⟩ := h z hz'
    rcases w with w | w | ⟨cp', vs', w1, w2⟩
    · exact h0 w
    · rw [h1] at w; cases w
    · rw [h1] at w1; cases w1
      exact az_cycle h n v h3 (w2 v h2)
theorem az_ful (F : rz_W) (c : Bool) : ∀ n x, az F n x → ∃ l, uz_F F c x l
  | 0, x, h => h.elim
  | n + 1, x, h => by
    by_cases e : hz x
    · exact ⟨_, uz_syl e⟩
    · rcases h with h | h | ⟨cp, vs, h1, h2⟩
      · exact absurd h e
      · exact ⟨_, uz_leaf e h⟩
      · by_cases e2 : c = true ∨ cp = 0
        · have : ∀ ws : List Int, (∀ v ∈ ws, az F n v) → ∃ l, uz_FL F c ws l := by
            intro ws
            induction ws with
            | nil => intro _; exact ⟨_, uz_nil F c⟩
            | cons w ws ih =>
              intro hw
              obtain ⟨b, hb⟩ := ih (fun v hv => hw v (List.mem_cons_of_mem _ hv))
              obtain ⟨a, ha⟩ := az_ful F c n w (hw w List.mem_cons_self)
              exact ⟨_, uz_cons ha hb⟩
          obtain ⟨l, hl⟩ := this vs h2
          exact ⟨l, uz_row e h1 e2 hl⟩
        · exact ⟨_, uz_keep e h1 e2⟩
/-- excluded from composition -/
def ez_x (F : rz_W) (E : Int → Prop) (x : Int) : Prop := (E x ∨ 0 < (F x).1) ∨ ∃ a b, (F x).2 = some (0, [a, b]) ∧ 0 < (F a).1
/-- a primary composite with its pair -/
def ez_p (F : rz_W) (E : Int → Prop) (x a b : Int) : Prop := (F x).2 = some (0, [a, b]) ∧ ¬ ez_x F E x
def uz_S1 (F : rz_W) : Prop := ∀ x cp vs, (F x).2 = some (cp, vs) → ¬ hz x ∧ (cp = 0 → vs.length ≤ 2)
def uz_S2 (F : rz_W) : Prop := ∀ x, (F x).2 ≠ none → az_e F x
def uz_S3 (F : rz_W) : Prop := ∀ x, (F x).2 ≠ none → ∀ c, ∃ l, uz_F F c x l ∧ l.length ≤ 40
def uz_S4 (F : rz_W) (E : Int → Prop) : Prop := (∀ x a b, ez_p F E x a b → ¬ hz_pair a b) ∧ ∀ x y a b, ez_p F E x a b → ez_p F E y a b → x = y
def uz_S (F : rz_W) (E : Int → Prop) : Prop := uz_S1 F ∧ uz_S2 F ∧ uz_S3 F ∧ uz_S4 F E
/-- what is told is of the right kind -/
def uz_wf (F : rz_W) : Prop := ∀ x, 0 ≤ (F x).1 ∧ ∀ cp vs, (F x).2 = some (cp, vs) → (cp = 0 ∨ cp = 1) ∧ (1 ≤ vs.length ∧ vs.length ≤ 18) ∧ (∀ v ∈ vs, 0 ≤ v ∧ v ≤ 1114111) ∧ 0 ≤ x ∧ x ≤ 1114111
theorem rz_row_bd (b : Int → Int) : ∀ (m : Nat) (a t : Int) (l : List Int), rz_row b m a t = some l → ∀ v ∈ l, 0 ≤ v ∧ v ≤ 1114111
  | 0, a, t, l, h, v, hv => by
    unfold rz_row at h
    cases h
    cases hv
  | m + 1, a, t, l, h, v, hv => by
    unfold rz_row at h
    split at h
    · cases h
    · rename_i e
      obtain ⟨l', h1, h2⟩ := Option.map_eq_some_iff.mp h
      subst h2
      rcases List.mem_cons.mp hv with rfl | hv
      · have := rz_code_bd b (rz_skip b (t - a).toNat a) (rz_tok b (t - rz_skip b (t - a).toNat a).toNat (rz_skip b (t - a).toNat a))
        omega
      · exact rz_row_bd b m _ t _ h1 v hv
theorem uz_wf_step {b : Int → Int} {n kind : Int} {F F' : rz_W} {E E' : Int → Prop} (hw : uz_wf F) (h : rz_step b n kind F E F' E') : uz_wf F' := by
  by_cases k0 : kind = 0
  · rcases h.1 k0 with ⟨f, l, c, dd, a1, a2, a3⟩ | ⟨a1, a2, a3⟩
    · intro x
      rw [a2 x]
      split
      · rename_i hx
        obtain ⟨A, hA, hF⟩ := a1
        refine ⟨hF.2.2.1.2.1.1, fun cp vs e => ?_⟩
        dsimp only at e
        rcases hF.2.2.2.1 with ⟨w1, w2⟩ | ⟨w1, cp', bg, vs', w2, w3, w4⟩
        · rw [w2] at e; cases e
        · rw [w4] at e; cases e
          have hc := rz_db_cp w2
          have hl := rz_rw_len w3
          unfold rz_rw at w3
          split at w3
          · rename_i hb
            have bl := rz_last_bd b (rz_ff b A 0) (rz_tt b A 0)
            have bf := rz_code_bd b (rz_ff b A 0) (rz_dots b (rz_tt b A 0 - rz_ff b A 0).toNat (rz_ff b A 0))
            have ef2 : rz_first b (rz_ff b A 0) (rz_tt b A 0) = rz_code b (rz_ff b A 0) (rz_dots b (rz_tt b A 0 - rz_ff b A 0).toNat (rz_ff b A 0)) := rfl
            have q := hF.1
            refine ⟨hc, by omega, rz_row_bd b _ _ _ _ w3, by omega, by omega⟩
          · cases w3
      · exact hw x
    · rw [a2]; exact hw
  · by_cases k3 : kind = 3
    · rcases h.2.1 k3 with ⟨f, l, a1, a2, a3⟩ | ⟨a1, a2, a3⟩
      · rw [a2]; exact hw
      · rw [a2]; exact hw
    · rw [(h.2.2 k0 k3).1]; exact hw
/-- sums of weights -/
def wz (W : Int → Nat) : List Int → Nat
  | [] => 0
  | x :: xs => W x + wz W xs
theorem wz_le {W W' : Int → Nat} : ∀ {xs : List Int}, (∀ x, W' x ≤ W x) → wz W' xs ≤ wz W xs
  | [], _ => Nat.le_refl _
  | x :: xs, h => by
    have := wz_le (xs := xs) h
    have := h x
    unfold wz
    omega
theorem wz_lt {W W' : Int → Nat} {y : Int} {k : Nat} : ∀ {xs : List Int}, (∀ x, W' x ≤ W x) → y ∈ xs → W' y + k ≤ W y → wz W' xs + k ≤ wz W xs
  | x :: xs, h, hy, hk => by
    unfold wz
    rcases List.mem_cons.mp hy with rfl | hy
    · have := wz_le (xs := xs) h
      omega
    · have := wz_lt (xs := xs) h hy hk
      have := h x
      omega
theorem wz_const {k : Nat} : ∀ (xs : List Int), wz (fun _ => k) xs = k * xs.length
  | [] => by unfold wz; simp
  | x :: xs => by
    unfold wz
    rw [wz_const xs, List.length_cons, Nat.mul_add]
    omega
/-! The class while it seals. -/
/-- cells that sealing may change -/
def pz (τ : Nat → Nat) (h g : cz_H) : Prop := (g.1 = h.1 ∧ g.2.1 = h.2.1) ∧ (∀ q, τ q ≠ 3 → (q < 723 ∨ 728 < q) → g.2.2 q = h.2.2 q) ∧ ∀ q, τ q = 3 → ∀ j, j < 8 → qz_I g q j = qz_I h q j
theorem pz.refl (τ : Nat → Nat) (h : cz_H) : pz τ h h := ⟨⟨rfl, rfl⟩, fun _ _ _ => rfl, fun _ _ _ _ => rfl⟩
theorem pz.trans {τ : Nat → Nat} {h g k : cz_H} (a : pz τ h g) (b : pz τ g k) : pz τ h k := ⟨⟨b.1.1.trans a.1.1, b.1.2.trans a.1.2⟩, fun q q1 q2 => (b.2.1 q q1 q2).trans (a.2.1 q q1 q2), fun q q1 j j1 => (b.2.2 q q1 j j1).trans (a.2.2 q q1 j j1)⟩
theorem pz_fr {P : Nat → Bool} {τ : Nat → Nat} {h g : cz_H} (hf : ez_fr P h g) (hP : ∀ q, P q = true → 723 ≤ q ∧ q ≤ 728 ∧ τ q ≠ 3) : pz τ h g := by
  have hn : ∀ q, ¬(723 ≤ q ∧ q ≤ 728 ∧ τ q ≠ 3) → P q = false := fun q hq => by
    cases e : P q with
    | true => exact absurd (hP q e) hq
    | false => rfl
  exact ⟨⟨hf.1, hf.2.1⟩, fun q _ q2 => hf.2.2 q (hn q (fun w => by omega)), fun q q1 j _ => hf.I (hn q (fun w => w.2.2 q1)) j⟩
theorem pz_put3 {τ : Nat → Nat} {h : cz_H} {r i : Nat} {v : cz_V} (tr : τ r = 3) (hi : 8 ≤ i) : pz τ h (dz_put h r i v) := by
  refine ⟨⟨rfl, rfl⟩, fun q q1 _ => qz_put_at h r i v (fun e => by rw [e] at q1; exact q1 tr), fun q _ j j8 => ez_put_I (fun w => by omega)⟩
theorem pz_put {τ : Nat → Nat} {h : cz_H} {r i : Nat} {v : cz_V} (h1 : 723 ≤ r) (h2 : r ≤ 728) (hr : τ r ≠ 3) : pz τ h (dz_put h r i v) := by
  refine ⟨⟨rfl, rfl⟩, fun q _ q2 => qz_put_at h r i v (fun e => by omega), fun q q1 j _ => ez_put_I (fun w => by rw [w.1] at q1; exact hr q1)⟩
/-- a Fact of a point -/
def pz_F (τ : Nat → Nat) (g : cz_H) (r : Nat) (x : Int) (q : Int × Option (Int × List Int)) : Prop := τ r = 3 ∧ qz_I g r 2 = q.1 ∧ (q.2 = none → qz_I g r 3 = 0) ∧ ∀ cp vs, q.2 = some (cp, vs) → qz_I g r 0 = x ∧ qz_I g r 4 = cp ∧ 1 ≤ qz_I g r 3 ∧ τ (qz_P g r 3) = 5 ∧ qz_N g (qz_P g r 3) = (vs.length : Int) ∧ ∀ (j : Nat) v, vs[j]? = some v → qz_I g (qz_P g r 3) j = v
/-- where the fact of each point is -/
def pz_C (τ : Nat → Nat) (g : cz_H) (T : Int → Nat) (F : rz_W) (E : Int → Prop) : Prop := ez_B τ g ∧ jz_X τ ∧ sz_ok g ∧ (∀ x k, 0 ≤ x → x ≤ 1114111 → sz_at g x k → qz_I g (sz_p g k) 1 = (T x : Int) + 1 ∧ (sz_t0 (qz_I g (sz_p g k) 2) ↔ E x)) ∧ ∀ x, 0 ≤ x → x ≤ 1114111 → pz_F τ g (T x) x (F x)
theorem pz_X {τ : Nat → Nat} (hX : jz_X τ) {q : Nat} (h1 : 723 ≤ q) (h2 : q ≤ 728) : τ q ≠ 3 ∧ τ q ≠ 4 ∧ τ q ≠ 5 := by
  have : q = 723 ∨ q = 724 ∨ q = 725 ∨ q = 726 ∨ q = 727 ∨ q = 728 := by omega
  rcases this with rfl | rfl | rfl | rfl | rfl | rfl <;> (rw [hX _ (by decide)]; decide)
theorem sz_ok_tr {τ : Nat → Nat} {h g : cz_H} (hB : ez_B τ h) (t203 : τ 203 = 49) (t202 : τ 202 = 48) (e2 : qz_I g 202 1 = qz_I h 202 1) (e3 : g.2.2 203 = h.2.2 203) (e4 : ∀ q, τ q = 4 → g.2.2 q = h.2.2 q) (hs : sz_ok h) : sz_ok g := by
  have bn := sz_R_n1 hB t202
  have hp : ∀ k, sz_p g k = sz_p h k := fun k => by unfold sz_p qz_P qz_I; rw [e3]
  have hss : ∀ k, 0 ≤ k → k < 513 → ∀ j, qz_I g (sz_p g k) j = qz_I h (sz_p h k) j := fun k k0 k1 j => by
    rw [hp]
    unfold qz_I
    rw [e4 _ (sz_tag hB t203 k0 k1)]
  refine ⟨?_, fun i j i0 ij jn => ?_⟩
  · unfold sz_f; rw [hss 0 (by omega) (by omega)]; exact hs.1
  · rw [e2] at jn
    unfold sz_f
    rw [hss i i0 (by omega), hss j (by omega) (by omega)]
    exact hs.2 i j i0 ij jn
theorem pz_C.fr {τ : Nat → Nat} {h g : cz_H} {T : Int → Nat} {F : rz_W} {E : Int → Prop} (hC : pz_C τ h T F E) (hB : ez_B τ g) (x : pz τ h g) : pz_C τ g T F E := by
  obtain ⟨c1, c2, c3, c4, c5⟩ := hC
  have t202 : τ 202 = 48 := c2 202 (by decide)
  have t203 : τ 203 = 49 := c2 203 (by decide)
  have e202 := x.2.1 202 (by rw [t202]; decide) (by omega)
  have e203 := x.2.1 203 (by rw [t203]; decide) (by omega)
  have out : ∀ q, τ q = 4 ∨ τ q = 5 → q < 723 ∨ 728 < q := fun q hq => by
    by_cases e : 723 ≤ q ∧ q ≤ 728
    · have := pz_X c2 e.1 e.2; omega
    · omega
  have e4 : ∀ q, τ q = 4 → g.2.2 q = h.2.2 q := fun q hq => x.2.1 q (by rw [hq]; decide) (out q (Or.inl hq))
  have e5 : ∀ q, τ q = 5 → g.2.2 q = h.2.2 q := fun q hq => x.2.1 q (by rw [hq]; decide) (out q (Or.inr hq))
  obtain ⟨a1, a2, a3⟩ := sz_same c1 t203 t202 e202 e203 e4
  have bn := sz_R_n1 c1 t202
  refine ⟨hB, c2, (sz_ok_tr c1 t203 t202 (a3 1) e203 e4 c3), fun y k y0 y1 hk => ?_, fun y y0 y1 => ?_⟩
  · have k0 := hk.1
    have k1 := hk.2.1
    rw [a3] at k1
    have hk' : sz_at h y k := by
      obtain ⟨d0, d1, d2, d3⟩ := hk
      rw [a3] at d1 d3
      unfold sz_f at d2 d3
      refine ⟨d0, d1, ?_, fun w => ?_⟩
      · unfold sz_f; rw [← a2 k d0 (by omega)]; exact d2
      · unfold sz_f; rw [← a2 (k + 1) (by omega) (by omega)]; exact d3 w
    rw [a2 k k0 (by omega), a2 k k0 (by omega)]
    exact c4 y k y0 y1 hk'
  · obtain ⟨f1, f2, f3, f4⟩ := c5 y y0 y1
    have e3 : ∀ j, j < 8 → qz_I g (T y) j = qz_I h (T y) j := fun j hj => x.2.2 _ f1 j hj
    have ep : qz_P g (T y) 3 = qz_P h (T y) 3 := by unfold qz_P; rw [e3 3 (by decide)]
    refine ⟨f1, by rw [e3 2 (by decide)]; exact f2, fun w => by rw [e3 3 (by decide)]; exact f3 w, fun cp vs w => ?_⟩
    obtain ⟨g0, g1, g2, g3, g4, g5⟩ := f4 cp vs w
    rw [e3 0 (by decide), e3 4 (by decide), e3 3 (by decide), ep]
    refine ⟨g0, g1, g2, g3, ?_, fun j v hj => ?_⟩
    · unfold qz_N; rw [e5 _ g3]; exact g4
    · unfold qz_I; rw [e5 _ g3]; exact g5 j v hj
/-- the span of a point -/
def sz_ixn (h : cz_H) (x : Int) : Nat → Int
  | 0 => 0
  | n + 1 => if sz_f h (n : Int) ≤ x then (n : Int) else sz_ixn h x n
theorem sz_ixn_ok {h : cz_H} {x : Int} (hs : sz_ok h) (x0 : 0 ≤ x) : ∀ n : Nat, (n : Int) ≤ qz_I h 202 1 → 1 ≤ n → (0 ≤ sz_ixn h x n ∧ sz_ixn h x n < (n : Int)) ∧ sz_f h (sz_ixn h x n) ≤ x ∧ (sz_ixn h x n + 1 < (n : Int) → x < sz_f h (sz_ixn h x n + 1))
  | 0, _, h1 => by omega
  | n + 1, hn, _ => by
    unfold sz_ixn
    by_cases e : sz_f h (n : Int) ≤ x
    · rw [if_pos e]
      exact ⟨⟨by omega, by omega⟩, e, fun w => by omega⟩
    · rw [if_neg e]
      by_cases e0 : n = 0
      · subst e0
        have := hs.1
        exact absurd (show sz_f h ((0 : Nat) : Int) ≤ x by show sz_f h 0 ≤ x; omega) e
      · obtain ⟨⟨a0, a1⟩, a2, a3⟩ := sz_ixn_ok hs x0 n (by omega) (by omega)
        refine ⟨⟨a0, by omega⟩, a2, fun w => ?_⟩
        by_cases e2 : sz_ixn h x n + 1 < (n : Int)
        · exact a3 e2
        · rw [show sz_ixn h x n + 1 = (n : Int) by omega]; omega
theorem sz_at_ex {h : cz_H} {x : Int} (hs : sz_ok h) (hn : 1 ≤ qz_I h 202 1) (x0 : 0 ≤ x) : ∃ k, sz_at h x k := by
  obtain ⟨a, b, c⟩ := sz_ixn_ok hs x0 (qz_I h 202 1).toNat (by omega) (by omega)
  exact ⟨_, a.1, by omega, b, fun w => c (by omega)⟩
theorem sz_at_uniq {h : cz_H} {x k k' : Int} (hs : sz_ok h) (a : sz_at h x k) (b : sz_at h x k') : k = k' := by
  obtain ⟨a0, a1, a2, a3⟩ := a
  obtain ⟨b0, b1, b2, b3⟩ := b
  by_cases e : k < k'
  · exfalso
    have h1 := a3 (by omega)
    by_cases e2 : k + 1 = k'
    · rw [e2] at h1; omega
    · have := hs.2 (k + 1) k' (by omega) (by omega) b1; omega
  · by_cases e' : k' < k
    · exfalso
      have h1 := b3 (by omega)
      by_cases e2 : k' + 1 = k
      · rw [e2] at h1; omega
      · have := hs.2 (k' + 1) k (by omega) (by omega) a1; omega
    · omega
theorem pz_C_of {τ : Nat → Nat} {h : cz_H} {F : rz_W} {E : Int → Prop} (hI : jz_I τ h F E) : ∃ T, pz_C τ h T F E := by
  obtain ⟨i1, i2, ⟨i3, i4⟩, i5, i6, i7, i8, i9⟩ := hI
  have t202 : τ 202 = 48 := i2 202 (by decide)
  have t203 : τ 203 = 49 := i2 203 (by decide)
  have bn := sz_R_n1 i1 t202
  refine ⟨fun x => sz_fp h (sz_ixn h x (qz_I h 202 1).toNat), i1, i2, i3, fun x k x0 x1 hk => ?_, fun x x0 x1 => ?_⟩
  · obtain ⟨a, b, c⟩ := sz_ixn_ok i3 x0 (qz_I h 202 1).toNat (by omega) (by omega)
    have e : k = sz_ixn h x (qz_I h 202 1).toNat := sz_at_uniq i3 hk ⟨a.1, by omega, b, fun w => c (by omega)⟩
    refine ⟨?_, (i8 x k x0 x1 hk).2⟩
    show qz_I h (sz_p h k) 1 = (sz_fp h (sz_ixn h x (qz_I h 202 1).toNat) : Int) + 1
    rw [← e]
    exact (sz_fp_t i1 t202 t203 hk).2.2
  · obtain ⟨a, b, c⟩ := sz_ixn_ok i3 x0 (qz_I h 202 1).toNat (by omega) (by omega)
    have hk : sz_at h x (sz_ixn h x (qz_I h 202 1).toNat) := ⟨a.1, by omega, b, fun w => c (by omega)⟩
    obtain ⟨⟨d1, d2, d3⟩, -⟩ := i8 x _ x0 x1 hk
    refine ⟨(sz_fp_t i1 t202 t203 hk).2.1, d1, fun w => ?_, fun cp vs w => ?_⟩
    · rw [w] at d2; exact d2
    · rw [w] at d2
      obtain ⟨p, p1, p2, p3, p4, p5⟩ := d2
      have ep : qz_P h (sz_fp h (sz_ixn h x (qz_I h 202 1).toNat)) 3 = p := by unfold qz_P; omega
      rw [ep]
      exact ⟨d3 (by rw [w]; exact fun e => by cases e), p3, (by show 1 ≤ qz_I h (sz_fp h (sz_ixn h x (qz_I h 202 1).toNat)) 3; omega), p1, p4, p5⟩
/-! The class: pooling. (Written by wip/p2/py/pv27.py.) -/
/-- what is appended to the pool -/
def nz_PP (q : Nat) : Bool := Nat.beq q 723 || Nat.beq q 724
def ap (τ : Nat → Nat) (g g2 : cz_H) (l : List Int) : Prop := ez_B τ g2 ∧ ez_fr nz_PP g g2 ∧ (∀ j, j ≠ 2 → qz_I g2 723 j = qz_I g 723 j) ∧ qz_I g2 723 2 = qz_I g 723 2 + (l.length : Int) ∧ ∀ j : Int, 0 ≤ j → qz_I g2 724 j.toNat = if qz_I g 723 2 ≤ j ∧ j < qz_I g 723 2 + (l.length : Int) then l.getD (j - qz_I g 723 2).toNat 0 else qz_I g 724 j.toNat
theorem ap.nil {τ : Nat → Nat} {g : cz_H} (hB : ez_B τ g) : ap τ g g [] := ⟨hB, ez_fr.refl _ _, fun _ _ => rfl, by simp, fun j _ => by rw [if_neg (by simp only [List.length_nil]; omega)]⟩
theorem ap.trans {τ : Nat → Nat} {g g1 g2 : cz_H} {a b : List Int} (x : ap τ g g1 a) (y : ap τ g1 g2 b) : ap τ g g2 (a ++ b) := by
  obtain ⟨x1, x2, x3, x4, x5⟩ := x
  obtain ⟨y1, y2, y3, y4, y5⟩ := y
  refine ⟨y1, x2.trans y2, fun j hj => (y3 j hj).trans (x3 j hj), ?_, fun j j0 => ?_⟩
  · rw [y4, x4, List.length_append]; omega
  · rw [y5 j j0, x4, List.length_append]
    by_cases e : qz_I g 723 2 + (a.length : Int) ≤ j ∧ j < qz_I g 723 2 + (a.length : Int) + (b.length : Int)
    · rw [if_pos e, if_pos (by omega), List.getD_eq_getElem?_getD, List.getD_eq_getElem?_getD, List.getElem?_append_right (by omega)]
      congr 2
      omega
    · rw [if_neg e, x5 j j0]
      by_cases e2 : qz_I g 723 2 ≤ j ∧ j < qz_I g 723 2 + (a.length : Int)
      · rw [if_pos e2, if_pos (by omega), List.getD_eq_getElem?_getD, List.getD_eq_getElem?_getD, List.getElem?_append_left (by omega)]
      · rw [if_neg e2, if_neg (by omega)]
theorem ap.pz {τ : Nat → Nat} {g g2 : cz_H} {l : List Int} (hX : jz_X τ) (x : ap τ g g2 l) : pz τ g g2 := pz_fr x.2.1 (fun q hq => by
  unfold nz_PP at hq
  have : q = 723 ∨ q = 724 := by
    rw [Bool.or_eq_true] at hq
    exact hq.imp Nat.eq_of_beq_eq_true Nat.eq_of_beq_eq_true
  rcases this with rfl | rfl
  · exact ⟨by omega, by omega, (pz_X hX (by omega) (by omega)).1⟩
  · exact ⟨by omega, by omega, (pz_X hX (by omega) (by omega)).1⟩)
section EzPo
variable {d : Nat} {h : cz_H} {τ : Nat → Nat} {Q : cz_F → Prop} {T : Int → Nat} {F : rz_W} {E : Int → Prop}
theorem rd_isSyl {x : Int} (x0 : -2147483648 ≤ x) (x1 : x ≤ 2147483647) (k1 : hz x → Q (.inl (some (ez_v (.inl 1))), h)) (k0 : ¬ hz x → Q (.inl (some (ez_v (.inl 0))), h)) : ez_W d cm_123 0 [(0, .inl (x))] [] h Q := by
  refine ez_go (n := 1) (pc' := 1) (L' := [(0, .inl (x))]) (st' := [.inl (x)]) rfl ?_
  refine ez_ldc (44032) rfl rfl rfl ?_
  refine ez_icmp rfl rfl ⟨by first | omega | exact (sz_i32 _).1, by first | omega | exact (sz_i32 _).2⟩ ⟨by first | omega | exact (sz_i32 _).1, by first | omega | exact (sz_i32 _).2⟩ (fun (c1 : (x) < (44032)) => ?_) (fun (c1 : ¬((x) < (44032))) => ?_)
  · skip
    refine ez_go (n := 1) (pc' := 17) (L' := [(0, .inl (x))]) (st' := [.inl (0)]) rfl ?_
    exact ez_retZ rfl rfl (by decide) (k0 (fun w => by have w1 := w.1; have w2 := w.2; omega))
  · skip
    refine ez_go (n := 1) (pc' := 7) (L' := [(0, .inl (x))]) (st' := [.inl (x)]) rfl ?_
    refine ez_ldc (55203) rfl rfl rfl ?_
    refine ez_icmp rfl rfl ⟨by first | omega | exact (sz_i32 _).1, by first | omega | exact (sz_i32 _).2⟩ ⟨by first | omega | exact (sz_i32 _).1, by first | omega | exact (sz_i32 _).2⟩ (fun (c2 : (55203) < (x)) => ?_) (fun (c2 : ¬((55203) < (x))) => ?_)
    · skip
      refine ez_go (n := 1) (pc' := 17) (L' := [(0, .inl (x))]) (st' := [.inl (0)]) rfl ?_
      exact ez_retZ rfl rfl (by decide) (k0 (fun w => by have w1 := w.1; have w2 := w.2; omega))
    · skip
      refine ez_go (n := 2) (pc' := 17) (L' := [(0, .inl (x))]) (st' := [.inl (1)]) rfl ?_
      exact ez_retZ rfl rfl (by decide) (k1 ⟨by omega, by omega⟩)

theorem rd_sylLen {x : Int} (hx : hz x) (k : Q (.inl (some (ez_v (.inl ((hz_sy x).length : Int)))), h)) : ez_W d cm_130 0 [(0, .inl (x))] [] h Q := by
  have x0 := hx.1
  have x1 := hx.2
  refine ez_go (n := 1) (pc' := 1) (L' := [(0, .inl (x))]) (st' := [.inl (x)]) rfl ?_
  refine ez_ldc (44032) rfl rfl rfl ?_
  refine ez_go (n := 2) (pc' := 6) (L' := [(0, .inl (x))]) (st' := [.inl (28), .inl ((x) - (44032))]) rfl ?_
  refine ez_rem rfl (by omega) (by omega) (by omega) (by omega) ?_
  refine ez_if rfl rfl ⟨by first | omega | exact (sz_i32 _).1, by first | omega | exact (sz_i32 _).2⟩ (fun (c1 : (((x) - (44032)) % (28)) ≠ (0)) => ?_) (fun (c1 : ¬((((x) - (44032)) % (28)) ≠ (0))) => ?_)
  · skip
    refine ez_go (n := 1) (pc' := 15) (L' := [(0, .inl (x))]) (st' := [.inl (3)]) rfl ?_
    have e : ((hz_sy x).length : Int) = 3 := by unfold hz_sy; rw [if_neg (by omega)]; rfl
    rw [e] at k
    exact ez_retI rfl rfl k
  · skip
    refine ez_go (n := 2) (pc' := 15) (L' := [(0, .inl (x))]) (st' := [.inl (2)]) rfl ?_
    have e : ((hz_sy x).length : Int) = 2 := by unfold hz_sy; rw [if_pos (by omega)]; rfl
    rw [e] at k
    exact ez_retI rfl rfl k

theorem rd_sylPart {x i : Int} (hx : hz x) (i0 : 0 ≤ i) (i1 : i < ((hz_sy x).length : Int)) (k : ∀ v, (hz_sy x)[i.toNat]? = some v → Q (.inl (some (ez_v (.inl v))), h)) : ez_W d cm_132 0 [(0, .inl (x)), (1, .inl (i))] [] h Q := by
  have x0 := hx.1
  have x1 := hx.2
  have i3 : i < 3 := by unfold hz_sy at i1; split at i1; (· have i1 : i < 2 := i1; omega); (· have i1 : i < 3 := i1; omega)
  refine ez_go (n := 1) (pc' := 1) (L' := [(0, .inl (x)), (1, .inl (i))]) (st' := [.inl (x)]) rfl ?_
  refine ez_ldc (44032) rfl rfl rfl ?_
  refine ez_go (n := 3) (pc' := 6) (L' := [(2, .inl ((x) - (44032))), (0, .inl (x)), (1, .inl (i))]) (st' := [.inl (i)]) rfl ?_
  refine ez_if rfl rfl ⟨by first | omega | exact (sz_i32 _).1, by first | omega | exact (sz_i32 _).2⟩ (fun (c1 : (i) ≠ (0)) => ?_) (fun (c1 : ¬((i) ≠ (0))) => ?_)
  · skip
    refine ez_go (n := 2) (pc' := 21) (L' := [(2, .inl ((x) - (44032))), (0, .inl (x)), (1, .inl (i))]) (st' := [.inl (1), .inl (i)]) rfl ?_
    refine ez_icmp rfl rfl ⟨by first | omega | exact (sz_i32 _).1, by first | omega | exact (sz_i32 _).2⟩ ⟨by first | omega | exact (sz_i32 _).1, by first | omega | exact (sz_i32 _).2⟩ (fun (c2 : (i) ≠ (1)) => ?_) (fun (c2 : ¬((i) ≠ (1))) => ?_)
    · skip
      refine ez_go (n := 3) (pc' := 45) (L' := [(2, .inl ((x) - (44032))), (0, .inl (x)), (1, .inl (i))]) (st' := [.inl (28), .inl ((x) - (44032)), .inl (4519)]) rfl ?_
      refine ez_rem rfl (by omega) (by omega) (by omega) (by omega) ?_
      refine ez_go (n := 1) (pc' := 47) (L' := [(2, .inl ((x) - (44032))), (0, .inl (x)), (1, .inl (i))]) (st' := [.inl ((4519) + (((x) - (44032)) % (28)))]) rfl ?_
      refine ez_retI rfl rfl (k _ ?_)
      unfold hz_sy at i1 ⊢
      split
      · first | (rw [show i = 0 by omega]; rfl) | (rw [show i = 1 by omega]; rfl) | (rw [show i = 2 by (rename_i e; first | omega | (rw [if_pos e] at i1; have i1 : i < 2 := i1; omega) | (rw [if_neg e] at i1; have i1 : i < 3 := i1; omega))]; first | rfl | (exfalso; rename_i e; rw [if_pos e] at i1; have i1 : i < 2 := i1; omega)) | (exfalso; rename_i e; rw [if_pos e] at i1; have i1 : i < 2 := i1; omega)
      · first | (rw [show i = 0 by omega]; rfl) | (rw [show i = 1 by omega]; rfl) | (rw [show i = 2 by (rename_i e; first | omega | (rw [if_pos e] at i1; have i1 : i < 2 := i1; omega) | (rw [if_neg e] at i1; have i1 : i < 3 := i1; omega))]; first | rfl | (exfalso; rename_i e; rw [if_pos e] at i1; have i1 : i < 2 := i1; omega)) | (exfalso; rename_i e; rw [if_pos e] at i1; have i1 : i < 2 := i1; omega)
    · skip
      refine ez_go (n := 3) (pc' := 31) (L' := [(2, .inl ((x) - (44032))), (0, .inl (x)), (1, .inl (i))]) (st' := [.inl (588), .inl ((x) - (44032)), .inl (4449)]) rfl ?_
      refine ez_rem rfl (by omega) (by omega) (by omega) (by omega) ?_
      refine ez_go (n := 1) (pc' := 34) (L' := [(2, .inl ((x) - (44032))), (0, .inl (x)), (1, .inl (i))]) (st' := [.inl (28), .inl (((x) - (44032)) % (588)), .inl (4449)]) rfl ?_
      refine ez_div rfl (by omega) (by omega) (by omega) (by omega) ?_
      refine ez_go (n := 2) (pc' := 47) (L' := [(2, .inl ((x) - (44032))), (0, .inl (x)), (1, .inl (i))]) (st' := [.inl ((4449) + ((((x) - (44032)) % (588)) / (28)))]) rfl ?_
      refine ez_retI rfl rfl (k _ ?_)
      unfold hz_sy at i1 ⊢
      split
      · first | (rw [show i = 0 by omega]; rfl) | (rw [show i = 1 by omega]; rfl) | (rw [show i = 2 by (rename_i e; first | omega | (rw [if_pos e] at i1; have i1 : i < 2 := i1; omega) | (rw [if_neg e] at i1; have i1 : i < 3 := i1; omega))]; first | rfl | (exfalso; rename_i e; rw [if_pos e] at i1; have i1 : i < 2 := i1; omega)) | (exfalso; rename_i e; rw [if_pos e] at i1; have i1 : i < 2 := i1; omega)
      · first | (rw [show i = 0 by omega]; rfl) | (rw [show i = 1 by omega]; rfl) | (rw [show i = 2 by (rename_i e; first | omega | (rw [if_pos e] at i1; have i1 : i < 2 := i1; omega) | (rw [if_neg e] at i1; have i1 : i < 3 := i1; omega))]; first | rfl | (exfalso; rename_i e; rw [if_pos e] at i1; have i1 : i < 2 := i1; omega)) | (exfalso; rename_i e; rw [if_pos e] at i1; have i1 : i < 2 := i1; omega)
  · skip
    refine ez_go (n := 3) (pc' := 16) (L' := [(2, .inl ((x) - (44032))), (0, .inl (x)), (1, .inl (i))]) (st' := [.inl (588), .inl ((x) - (44032)), .inl (4352)]) rfl ?_
    refine ez_div rfl (by omega) (by omega) (by omega) (by omega) ?_
    refine ez_go (n := 1) (pc' := 18) (L' := [(2, .inl ((x) - (44032))), (0, .inl (x)), (1, .inl (i))]) (st' := [.inl ((4352) + (((x) - (44032)) / (588)))]) rfl ?_
    refine ez_retI rfl rfl (k _ ?_)
    unfold hz_sy at i1 ⊢
    split
    · first | (rw [show i = 0 by omega]; rfl) | (rw [show i = 1 by omega]; rfl) | (rw [show i = 2 by (rename_i e; first | omega | (rw [if_pos e] at i1; have i1 : i < 2 := i1; omega) | (rw [if_neg e] at i1; have i1 : i < 3 := i1; omega))]; first | rfl | (exfalso; rename_i e; rw [if_pos e] at i1; have i1 : i < 2 := i1; omega)) | (exfalso; rename_i e; rw [if_pos e] at i1; have i1 : i < 2 := i1; omega)
    · first | (rw [show i = 0 by omega]; rfl) | (rw [show i = 1 by omega]; rfl) | (rw [show i = 2 by (rename_i e; first | omega | (rw [if_pos e] at i1; have i1 : i < 2 := i1; omega) | (rw [if_neg e] at i1; have i1 : i < 3 := i1; omega))]; first | rfl | (exfalso; rename_i e; rw [if_pos e] at i1; have i1 : i < 2 := i1; omega)) | (exfalso; rename_i e; rw [if_pos e] at i1; have i1 : i < 2 := i1; omega)

theorem rd_poolPoint {p s : Int} (hB : ez_B τ h) (t723 : τ 723 = 55) (p0 : -2147483648 ≤ p) (p1 : p ≤ 2147483647) (s0 : 0 ≤ s) (s1 : s ≤ 20440) (u0 : s ≤ qz_I h 723 2) (u1 : qz_I h 723 2 ≤ s + 40) (k0 : qz_I h 723 2 = s + 40 → Q (.inl (some (ez_v (.inl 0))), h)) (k1 : qz_I h 723 2 < s + 40 → ∀ g, ap τ h g [p] → Q (.inl (some (ez_v (.inl 1))), g)) : ez_W d cm_127 0 [(0, .inr (.inr (some (723)))), (1, .inl (p)), (2, .inl (s))] [] h Q := by
  refine ez_go (n := 1) (pc' := 1) (L' := [(0, .inr (.inr (some (723)))), (1, .inl (p)), (2, .inl (s))]) (st' := [.inr (.inr (some (723)))]) rfl ?_
  refine ez_gI hB t723 rfl rfl tq_55 rfl rfl (fun (b1 : 0 ≤ qz_I h 723 2) (b1' : qz_I h 723 2 ≤ 20480) => ?_)
  refine ez_go (n := 3) (pc' := 8) (L' := [(0, .inr (.inr (some (723)))), (1, .inl (p)), (2, .inl (s))]) (st' := [.inl (40), .inl ((qz_I h 723 2) - (s))]) rfl ?_
  refine ez_icmp rfl rfl ⟨by first | omega | exact (sz_i32 _).1, by first | omega | exact (sz_i32 _).2⟩ ⟨by first | omega | exact (sz_i32 _).1, by first | omega | exact (sz_i32 _).2⟩ (fun (c2 : (40) ≤ ((qz_I h 723 2) - (s))) => ?_) (fun (c2 : ¬((40) ≤ ((qz_I h 723 2) - (s)))) => ?_)
  · skip
    refine ez_go (n := 1) (pc' := 24) (L' := [(0, .inr (.inr (some (723)))), (1, .inl (p)), (2, .inl (s))]) (st' := [.inl (0)]) rfl ?_
    exact ez_retZ rfl rfl (by decide) (k0 (by omega))
  · skip
    refine ez_go (n := 1) (pc' := 12) (L' := [(0, .inr (.inr (some (723)))), (1, .inl (p)), (2, .inl (s))]) (st' := [.inr (.inr (some (723)))]) rfl ?_
    refine ez_gI hB t723 rfl rfl tq_55 rfl rfl (fun (b3 : 0 ≤ qz_I h 723 2) (b3' : qz_I h 723 2 ≤ 20480) => ?_)
    refine ez_go (n := 1) (pc' := 16) (L' := [(0, .inr (.inr (some (723)))), (1, .inl (p)), (2, .inl (s))]) (st' := [.inr (.inr (some (723))), .inl (qz_I h 723 2)]) rfl ?_
    refine ez_gC (p := 724) (tg := 56) hB t723 rfl rfl tq_55 rfl rfl (fun (t724 : _ = 56) => ?_)
    refine ez_al hB t724 rfl tq_56 rfl (fun (b4 : 20480 ≤ qz_N h 724) (b4' : qz_N h 724 ≤ 20480) => ?_)
    refine ez_icmp rfl rfl ⟨by first | omega | exact (sz_i32 _).1, by first | omega | exact (sz_i32 _).2⟩ ⟨by first | omega | exact (sz_i32 _).1, by first | omega | exact (sz_i32 _).2⟩ (fun (c5 : (qz_I h 723 2) < (qz_N h 724)) => ?_) (fun (c5 : ¬((qz_I h 723 2) < (qz_N h 724))) => ?_)
    · skip
      refine ez_go (n := 1) (pc' := 26) (L' := [(0, .inr (.inr (some (723)))), (1, .inl (p)), (2, .inl (s))]) (st' := [.inr (.inr (some (723)))]) rfl ?_
      refine ez_gC (p := 724) (tg := 56) hB t723 rfl rfl tq_55 rfl rfl (fun (t724 : _ = 56) => ?_)
      refine ez_go (n := 1) (pc' := 30) (L' := [(0, .inr (.inr (some (723)))), (1, .inl (p)), (2, .inl (s))]) (st' := [.inr (.inr (some (723))), .inr (.inr (some (724)))]) rfl ?_
      refine ez_gI hB t723 rfl rfl tq_55 rfl rfl (fun (b6 : 0 ≤ qz_I h 723 2) (b6' : qz_I h 723 2 ≤ 20480) => ?_)
      refine ez_go (n := 1) (pc' := 34) (L' := [(0, .inr (.inr (some (723)))), (1, .inl (p)), (2, .inl (s))]) (st' := [.inl (p), .inl (qz_I h 723 2), .inr (.inr (some (724)))]) rfl ?_
      have n9 : 20480 ≤ qz_N h 724 ∧ qz_N h 724 ≤ 20480 := ez_len hB t724 tq_56 rfl
      refine ez_as hB t724 rfl tq_56 rfl rfl (by omega) (by omega) (ez_vdI rfl rfl (by omega) (by omega)) (fun hB7 w8 => ?_)
      refine ez_go (n := 2) (pc' := 37) (L' := [(0, .inr (.inr (some (723)))), (1, .inl (p)), (2, .inl (s))]) (st' := [.inr (.inr (some (723))), .inr (.inr (some (723)))]) rfl ?_
      refine ez_gI hB7 t723 rfl rfl tq_55 rfl rfl (fun (b10 : 0 ≤ qz_I (dz_put h 724 (qz_I h 723 2).toNat (ez_v (.inl (p)))) 723 2) (b10' : qz_I (dz_put h 724 (qz_I h 723 2).toNat (ez_v (.inl (p)))) 723 2 ≤ 20480) => ?_)
      have hu9 : qz_I (dz_put h 724 (qz_I h 723 2).toNat (ez_v (.inl (p)))) 723 2 = qz_I h 723 2 := ez_put_I (by omega)
      refine ez_go (n := 2) (pc' := 42) (L' := [(0, .inr (.inr (some (723)))), (1, .inl (p)), (2, .inl (s))]) (st' := [.inl ((qz_I (dz_put h 724 (qz_I h 723 2).toNat (ez_v (.inl (p)))) 723 2) + (1)), .inr (.inr (some (723)))]) rfl ?_
      refine ez_pf hB7 t723 rfl rfl tq_55 rfl rfl rfl rfl (ez_vdI rfl rfl (by omega) (by omega)) (fun hB11 w12 => ?_)
      refine ez_go (n := 1) (pc' := 46) (L' := [(0, .inr (.inr (some (723)))), (1, .inl (p)), (2, .inl (s))]) (st' := [.inl (1)]) rfl ?_
      have u1 : qz_I (dz_put (dz_put h 724 (qz_I h 723 2).toNat (ez_v (.inl (p)))) 723 2 (ez_v (.inl ((qz_I (dz_put h 724 (qz_I h 723 2).toNat (ez_v (.inl (p)))) 723 2) + (1))))) 723 2 = qz_I h 723 2 + 1 := by rw [w12, rz_rd ⟨by omega, by omega⟩, ez_put_I (by omega)]
      refine ez_retZ rfl rfl (by decide) (k1 (by omega) _ ⟨hB11, (((ez_fr.refl nz_PP h).put (show nz_PP 724 = true from rfl) _ _).put (show nz_PP 723 = true from rfl) _ _), fun j hj => by rw [ez_put_I (fun w => hj w.2), ez_put_I (by omega)], by rw [u1]; rfl, fun j j0 => ?_⟩)
      rw [ez_put_I (by omega)]
      by_cases e : j = qz_I h 723 2
      · rw [if_pos (by simp only [List.length_singleton]; omega), e, w8, rz_rd ⟨by omega, by omega⟩]; rw [show (qz_I h 723 2 - qz_I h 723 2).toNat = 0 by omega]; rfl
      · rw [if_neg (by simp only [List.length_singleton]; omega), ez_put_I (by omega)]
    · skip
      refine ez_go (n := 1) (pc' := 24) (L' := [(0, .inr (.inr (some (723)))), (1, .inl (p)), (2, .inl (s))]) (st' := [.inl (0)]) rfl ?_
      exact ez_retZ rfl rfl (by decide) (k0 (by omega))

theorem hz_sy_bd {x : Int} (hx : hz x) : ∀ (j : Nat) v, (hz_sy x)[j]? = some v → 0 ≤ v ∧ v ≤ 1114111 := by
  have x0 := hx.1
  have x1 := hx.2
  intro j v hv
  unfold hz_sy at hv
  split at hv
  · match j with
    | 0 => cases hv; omega
    | 1 => cases hv; omega
    | j + 2 => cases hv
  · match j with
    | 0 => cases hv; omega
    | 1 => cases hv; omega
    | 2 => cases hv; omega
    | j + 3 => cases hv
theorem hz_sy_len (x : Int) : (hz_sy x).length ≤ 3 := by
  unfold hz_sy
  split
  · show 2 ≤ 3; omega
  · show 3 ≤ 3; omega
theorem ap_snoc {g g1 g2 : cz_H} {l : List Int} {i : Nat} {v : Int} (x : ap τ g g1 (l.take i)) (hv : l[i]? = some v) (y : ap τ g1 g2 [v]) : ap τ g g2 (l.take (i + 1)) := by
  have := x.trans y
  rw [List.take_add_one, hv]
  exact this
theorem rd_poolSyl_l {x s : Int} (t723 : τ 723 = 55) (hx : hz x) (s0 : 0 ≤ s) (s1 : s ≤ 20440) (u0 : s ≤ qz_I h 723 2) (u1 : qz_I h 723 2 ≤ s + 40) (k1 : ∀ g, ap τ h g (hz_sy x) → qz_I h 723 2 + ((hz_sy x).length : Int) ≤ s + 40 → Q (.inl (some (ez_v (.inl 1))), g)) (k0 : ∀ g l2, ap τ h g l2 → s + 40 < qz_I h 723 2 + ((hz_sy x).length : Int) → Q (.inl (some (ez_v (.inl 0))), g)) : ∀ (m : Nat) (i : Int) (g : cz_H), m = (((hz_sy x).length : Int) - i).toNat → 0 ≤ i → i ≤ ((hz_sy x).length : Int) → qz_I h 723 2 + i ≤ s + 40 → ap τ h g ((hz_sy x).take i.toNat) → ez_W (d + 1) cm_128 2 [(3, .inl (i)), (0, .inr (.inr (some (723)))), (1, .inl (x)), (2, .inl (s))] [] g Q := by
  intro m
  induction m with
  | zero =>
    intro i g hm i0 i1 i2 ha
    have hlen := hz_sy_len x
    have ha4 := ha.2.2.2.1
    rw [List.length_take] at ha4
    refine ez_go (n := 2) (pc' := 4) (L' := [(3, .inl (i)), (0, .inr (.inr (some (723)))), (1, .inl (x)), (2, .inl (s))]) (st' := [.inl (x), .inl (i)]) rfl ?_
    refine ez_cs ha.1.2.1 rfl rfl rfl rfl rfl (rd_sylLen hx (ez_K1 ?_))
    refine ez_icmp rfl rfl ⟨by first | omega | exact (sz_i32 _).1, by first | omega | exact (sz_i32 _).2⟩ ⟨by first | omega | exact (sz_i32 _).1, by first | omega | exact (sz_i32 _).2⟩ (fun (c1 : (((hz_sy x).length : Int)) ≤ (i)) => ?_) (fun (c1 : ¬((((hz_sy x).length : Int)) ≤ (i))) => ?_)
    · skip
      refine ez_go (n := 1) (pc' := 32) (L' := [(3, .inl (i)), (0, .inr (.inr (some (723)))), (1, .inl (x)), (2, .inl (s))]) (st' := [.inl (1)]) rfl ?_
      exact ez_retZ rfl rfl (by decide) (k1 g (by rw [List.take_of_length_le (by omega)] at ha; exact ha) (by omega))
    · exfalso; omega
  | succ m ih =>
    intro i g hm i0 i1 i2 ha
    have hlen := hz_sy_len x
    have ha4 := ha.2.2.2.1
    rw [List.length_take] at ha4
    refine ez_go (n := 2) (pc' := 4) (L' := [(3, .inl (i)), (0, .inr (.inr (some (723)))), (1, .inl (x)), (2, .inl (s))]) (st' := [.inl (x), .inl (i)]) rfl ?_
    refine ez_cs ha.1.2.1 rfl rfl rfl rfl rfl (rd_sylLen hx (ez_K1 ?_))
    refine ez_icmp rfl rfl ⟨by first | omega | exact (sz_i32 _).1, by first | omega | exact (sz_i32 _).2⟩ ⟨by first | omega | exact (sz_i32 _).1, by first | omega | exact (sz_i32 _).2⟩ (fun (c1 : (((hz_sy x).length : Int)) ≤ (i)) => ?_) (fun (c1 : ¬((((hz_sy x).length : Int)) ≤ (i))) => ?_)
    · exfalso; omega
    · skip
      refine ez_go (n := 3) (pc' := 13) (L' := [(3, .inl (i)), (0, .inr (.inr (some (723)))), (1, .inl (x)), (2, .inl (s))]) (st' := [.inl (i), .inl (x), .inr (.inr (some (723)))]) rfl ?_
      refine ez_cs ha.1.2.1 rfl rfl rfl rfl rfl (rd_sylPart hx i0 (by omega) (fun v hv => ez_K1 ?_))
      have vb := hz_sy_bd hx _ _ hv
      refine ez_go (n := 1) (pc' := 17) (L' := [(3, .inl (i)), (0, .inr (.inr (some (723)))), (1, .inl (x)), (2, .inl (s))]) (st' := [.inl (s), .inl (v), .inr (.inr (some (723)))]) rfl ?_
      refine ez_cv ha.1 t723 rfl rfl rfl tq_55 rfl rfl rfl (rd_poolPoint ha.1 t723 (by omega) (by omega) s0 s1 (by omega) (by omega) (fun e => ez_K1 ?_) (fun e g2 ha2 => ez_K1 ?_))
      · skip
        refine ez_if rfl rfl ⟨by decide, by decide⟩ (fun (c2 : (0 : Int) ≠ (0)) => absurd c2 (by decide)) (fun _ => ?_)
        refine ez_go (n := 1) (pc' := 24) (L' := [(3, .inl (i)), (0, .inr (.inr (some (723)))), (1, .inl (x)), (2, .inl (s))]) (st' := [.inl (0)]) rfl ?_
        exact ez_retZ rfl rfl (by decide) (k0 g _ ha (by omega))
      · skip
        have hB2 := ha2.1
        have ha3 := ap_snoc ha hv ha2
        have ha5 := ha3.2.2.2.1
        rw [List.length_take] at ha5
        refine ez_if rfl rfl ⟨by decide, by decide⟩ (fun _ => ?_) (fun (c3 : ¬((1 : Int) ≠ (0))) => absurd c3 (by decide))
        refine ez_go (n := 2) (pc' := 2) (L' := [(3, .inl (i + 1)), (0, .inr (.inr (some (723)))), (1, .inl (x)), (2, .inl (s))]) (st' := []) rfl ?_
        refine ez_less [(3, .inl (i + 1)), (0, .inr (.inr (some (723)))), (1, .inl (x)), (2, .inl (s))] rfl ⟨rfl, rfl, rfl, rfl, trivial⟩ ?_
        refine ih (i + 1) g2 (by omega) (by omega) (by omega) (by omega) (by rw [show (i + 1).toNat = i.toNat + 1 by omega]; exact ha3)
theorem rd_poolSyl {x s : Int} (hB : ez_B τ h) (t723 : τ 723 = 55) (hx : hz x) (s0 : 0 ≤ s) (s1 : s ≤ 20440) (u0 : s ≤ qz_I h 723 2) (u1 : qz_I h 723 2 ≤ s + 40) (k1 : ∀ g, ap τ h g (hz_sy x) → qz_I h 723 2 + ((hz_sy x).length : Int) ≤ s + 40 → Q (.inl (some (ez_v (.inl 1))), g)) (k0 : ∀ g l2, ap τ h g l2 → s + 40 < qz_I h 723 2 + ((hz_sy x).length : Int) → Q (.inl (some (ez_v (.inl 0))), g)) : ez_W (d + 1) cm_128 0 [(0, .inr (.inr (some (723)))), (1, .inl (x)), (2, .inl (s))] [] h Q := by
  refine ez_go (n := 2) (pc' := 2) (L' := [(3, .inl (0)), (0, .inr (.inr (some (723)))), (1, .inl (x)), (2, .inl (s))]) (st' := []) rfl ?_
  refine ez_less [(3, .inl (0)), (0, .inr (.inr (some (723)))), (1, .inl (x)), (2, .inl (s))] rfl ⟨rfl, rfl, rfl, rfl, trivial⟩ ?_
  exact rd_poolSyl_l t723 hx s0 s1 u0 u1 k1 k0 _ 0 h rfl (by omega) (by omega) (by omega) (ap.nil hB)

theorem rd_spanOf {x : Int} (hC : pz_C τ h T F E) (x0 : 0 ≤ x) (x1 : x ≤ 1114111) (k : ∀ z, τ z = 4 → qz_I h z 1 = (T x : Int) + 1 → (sz_t0 (qz_I h z 2) ↔ E x) → Q (.inl (some (.inr (.inr (some z)))), h)) : ez_W (d + 1) cm_103 0 [(0, .inr (.inr (some (202)))), (1, .inl (x))] [] h Q := by
  have t202 : τ 202 = 48 := hC.2.1 202 (by decide)
  have t203 : τ 203 = 49 := hC.2.1 203 (by decide)
  refine ez_go (n := 1) (pc' := 1) (L' := [(0, .inr (.inr (some (202)))), (1, .inl (x))]) (st' := [.inr (.inr (some (202)))]) rfl ?_
  refine ez_gC (p := 203) (tg := 49) hC.1 t202 rfl rfl tq_48 rfl rfl (fun (t203 : _ = 49) => ?_)
  refine ez_go (n := 2) (pc' := 6) (L' := [(0, .inr (.inr (some (202)))), (1, .inl (x))]) (st' := [.inl (x), .inr (.inr (some (202))), .inr (.inr (some (203)))]) rfl ?_
  have bn := sz_R_n1 hC.1 t202
  refine ez_cv hC.1 t202 rfl rfl rfl tq_48 rfl rfl rfl (rd_spanIndex hC.1 t202 hC.2.2.1 x0 (by omega) (fun i i0 i1 i2 i3 => ez_K1 ?_))
  have n2 : 513 ≤ qz_N h 203 ∧ qz_N h 203 ≤ 513 := ez_len hC.1 t203 tq_49 rfl
  have y3 : 1 ≤ qz_I h 203 (i).toNat ∧ qz_I h 203 (i).toNat ≤ 1000000 := ez_aB hC.1 t203 tq_49 rfl rfl (by decide) (by omega) (by omega)
  have y3' : ((qz_P h 203 (i).toNat : Nat) : Int) + 1 = qz_I h 203 (i).toNat := by unfold qz_P; omega
  refine ez_aR hC.1 t203 rfl tq_49 rfl rfl (by omega) (by omega) (by omega) (fun (t1 : _ = 4) => ?_)
  obtain ⟨w1, w2⟩ := hC.2.2.2.1 x i x0 x1 ⟨i0, i1, i2, i3⟩
  exact ez_retA rfl rfl rfl (k _ t1 w1 w2)

end EzPo
/-! The class: poolFull, close. (Written by wip/p2/py/pv28.py.) -/
def sa (c : Bool) : Nat := bif c then 11 else 9
def sl (c : Bool) : Nat := bif c then 12 else 10
/-- what lies in the pool for a fact -/
def sg (g : cz_H) (r : Nat) (c : Bool) (l : List Int) : Prop := qz_I g r (sl c) = (l.length : Int) ∧ 0 ≤ qz_I g r (sa c) ∧ qz_I g r (sa c) + (l.length : Int) ≤ qz_I g 723 2 ∧ ∀ (j : Nat) v, l[j]? = some v → qz_I g 724 (qz_I g r (sa c) + (j : Int)).toNat = v
/-- what is pooled for a point -/
def dn (g : cz_H) (T : Int → Nat) (F : rz_W) (c : Bool) (x : Int) (l : List Int) : Prop := (hz x ∧ l = hz_sy x) ∨ (¬ hz x ∧ (F x).2 = none ∧ l = [x]) ∨ (¬ hz x ∧ (F x).2 ≠ none ∧ sg g (T x) c l)
theorem sg_ap {τ : Nat → Nat} {g g2 : cz_H} {r : Nat} {c : Bool} {l l2 : List Int} (tr : τ r = 3) (t723 : τ 723 = 55) (t724 : τ 724 = 56) (h : sg g r c l) (x : ap τ g g2 l2) : sg g2 r c l := by
  obtain ⟨h1, h2, h3, h4⟩ := h
  have hf : ∀ j, qz_I g2 r j = qz_I g r j := fun j => x.2.1.I (by unfold nz_PP; rw [dz_beq_ne (fun e => by rw [e, t723] at tr; cases tr), dz_beq_ne (fun e => by rw [e, t724] at tr; cases tr)]; rfl) j
  refine ⟨by rw [hf]; exact h1, by rw [hf]; exact h2, by rw [hf, x.2.2.2.1]; omega, fun j v hj => ?_⟩
  have hl : j < l.length := (List.getElem?_eq_some_iff.mp hj).1
  rw [hf, x.2.2.2.2 _ (by omega), if_neg (by omega)]
  exact h4 j v hj
theorem dn_ap {τ : Nat → Nat} {g g2 : cz_H} {T : Int → Nat} {F : rz_W} {c : Bool} {v : Int} {l l2 : List Int} (tr : τ (T v) = 3) (t723 : τ 723 = 55) (t724 : τ 724 = 56) (h : dn g T F c v l) (x : ap τ g g2 l2) : dn g2 T F c v l := by
  rcases h with h | h | ⟨h1, h2, h3⟩
  · exact Or.inl h
  · exact Or.inr (Or.inl h)
  · exact Or.inr (Or.inr ⟨h1, h2, sg_ap tr t723 t724 h3 x⟩)
section EzPf
variable {d : Nat} {h : cz_H} {τ : Nat → Nat} {Q : cz_F → Prop} {T : Int → Nat} {F : rz_W} {E : Int → Prop}
theorem rd_poolFull_l1 {x s a m : Int} {r : Nat} {l : List Int} (t723 : τ 723 = 55) (t724 : τ 724 = 56) (s0 : 0 ≤ s) (s1 : s ≤ 20440) (u0 : s ≤ qz_I h 723 2) (u1 : qz_I h 723 2 ≤ s + 40) (hm : m = (l.length : Int)) (a0 : 0 ≤ a) (a1 : a + m ≤ qz_I h 723 2) (hl : ∀ (j : Nat) v, l[j]? = some v → qz_I h 724 (a + (j : Int)).toNat = v) (k1 : ∀ g, ap τ h g l → qz_I h 723 2 + (l.length : Int) ≤ s + 40 → Q (.inl (some (ez_v (.inl 1))), g)) (k0 : ∀ g l2, ap τ h g l2 → s + 40 < qz_I h 723 2 + (l.length : Int) → Q (.inl (some (ez_v (.inl 0))), g)) : ∀ (n : Nat) (i : Int) (g : cz_H), n = (m - i).toNat → 0 ≤ i → i ≤ m → qz_I h 723 2 + i ≤ s + 40 → ap τ h g (l.take i.toNat) → ez_W (d + 1) cm_126 83 [(7, .inl (i)), (6, .inl (m)), (5, .inl (a)), (4, .inr (.inr (some (r)))), (0, .inr (.inr (some (723)))), (1, .inl (x)), (2, .inl (s)), (3, .inl (1))] [] g Q := by
  intro n
  induction n with
  | zero =>
    intro i g hm i0 i1 i2 ha
    have ha4 := ha.2.2.2.1
    rw [List.length_take] at ha4
    refine ez_go (n := 2) (pc' := 87) (L' := [(7, .inl (i)), (6, .inl (m)), (5, .inl (a)), (4, .inr (.inr (some (r)))), (0, .inr (.inr (some (723)))), (1, .inl (x)), (2, .inl (s)), (3, .inl (1))]) (st' := [.inl (m), .inl (i)]) rfl ?_
    refine ez_icmp rfl rfl ⟨by first | omega | exact (sz_i32 _).1, by first | omega | exact (sz_i32 _).2⟩ ⟨by first | omega | exact (sz_i32 _).1, by first | omega | exact (sz_i32 _).2⟩ (fun (c1 : (m) ≤ (i)) => ?_) (fun (c1 : ¬((m) ≤ (i))) => ?_)
    · skip
      refine ez_go (n := 1) (pc' := 117) (L' := [(7, .inl (i)), (6, .inl (m)), (5, .inl (a)), (4, .inr (.inr (some (r)))), (0, .inr (.inr (some (723)))), (1, .inl (x)), (2, .inl (s)), (3, .inl (1))]) (st' := [.inl (1)]) rfl ?_
      exact ez_retZ rfl rfl (by decide) (k1 g (by rw [List.take_of_length_le (by omega)] at ha; exact ha) (by omega))
    · exfalso; omega
  | succ n ih =>
    intro i g hm i0 i1 i2 ha
    have ha4 := ha.2.2.2.1
    rw [List.length_take] at ha4
    refine ez_go (n := 2) (pc' := 87) (L' := [(7, .inl (i)), (6, .inl (m)), (5, .inl (a)), (4, .inr (.inr (some (r)))), (0, .inr (.inr (some (723)))), (1, .inl (x)), (2, .inl (s)), (3, .inl (1))]) (st' := [.inl (m), .inl (i)]) rfl ?_
    refine ez_icmp rfl rfl ⟨by first | omega | exact (sz_i32 _).1, by first | omega | exact (sz_i32 _).2⟩ ⟨by first | omega | exact (sz_i32 _).1, by first | omega | exact (sz_i32 _).2⟩ (fun (c1 : (m) ≤ (i)) => ?_) (fun (c1 : ¬((m) ≤ (i))) => ?_)
    · exfalso; omega
    · skip
      refine ez_go (n := 2) (pc' := 92) (L' := [(7, .inl (i)), (6, .inl (m)), (5, .inl (a)), (4, .inr (.inr (some (r)))), (0, .inr (.inr (some (723)))), (1, .inl (x)), (2, .inl (s)), (3, .inl (1))]) (st' := [.inr (.inr (some (723))), .inr (.inr (some (723)))]) rfl ?_
      refine ez_gC (p := 724) (tg := 56) ha.1 t723 rfl rfl tq_55 rfl rfl (fun (t724 : _ = 56) => ?_)
      refine ez_go (n := 3) (pc' := 100) (L' := [(7, .inl (i)), (6, .inl (m)), (5, .inl (a)), (4, .inr (.inr (some (r)))), (0, .inr (.inr (some (723)))), (1, .inl (x)), (2, .inl (s)), (3, .inl (1))]) (st' := [.inl ((a) + (i)), .inr (.inr (some (724))), .inr (.inr (some (723)))]) rfl ?_
      have n3 : 20480 ≤ qz_N g 724 ∧ qz_N g 724 ≤ 20480 := ez_len ha.1 t724 tq_56 rfl
      refine ez_aI ha.1 t724 rfl tq_56 rfl rfl (by omega) (by omega) (fun (b2 : -2147483648 ≤ qz_I g 724 ((a) + (i)).toNat) (b2' : qz_I g 724 ((a) + (i)).toNat ≤ 2147483647) => ?_)
      have hlt : i.toNat < l.length := by omega
      have hv : qz_I g 724 ((a) + (i)).toNat = l[i.toNat] := by
        rw [ha.2.2.2.2 _ (by omega), if_neg (by rw [List.length_take]; omega)]
        have := hl i.toNat _ (List.getElem?_eq_getElem hlt)
        rw [← this]; congr 2; omega
      have hv2 : l[i.toNat]? = some (qz_I g 724 ((a) + (i)).toNat) := by rw [hv]; exact List.getElem?_eq_getElem hlt
      refine ez_go (n := 1) (pc' := 102) (L' := [(7, .inl (i)), (6, .inl (m)), (5, .inl (a)), (4, .inr (.inr (some (r)))), (0, .inr (.inr (some (723)))), (1, .inl (x)), (2, .inl (s)), (3, .inl (1))]) (st' := [.inl (s), .inl (qz_I g 724 ((a) + (i)).toNat), .inr (.inr (some (723)))]) rfl ?_
      refine ez_cv ha.1 t723 rfl rfl rfl tq_55 rfl rfl rfl (rd_poolPoint ha.1 t723 (by omega) (by omega) s0 s1 (by omega) (by omega) (fun e => ez_K1 ?_) (fun e g2 ha2 => ez_K1 ?_))
      · skip
        refine ez_if rfl rfl ⟨by decide, by decide⟩ (fun (c4 : (0 : Int) ≠ (0)) => absurd c4 (by decide)) (fun _ => ?_)
        refine ez_go (n := 1) (pc' := 109) (L' := [(7, .inl (i)), (6, .inl (m)), (5, .inl (a)), (4, .inr (.inr (some (r)))), (0, .inr (.inr (some (723)))), (1, .inl (x)), (2, .inl (s)), (3, .inl (1))]) (st' := [.inl (0)]) rfl ?_
        exact ez_retZ rfl rfl (by decide) (k0 g _ ha (by omega))
      · skip
        have hB2 := ha2.1
        have ha3 := ap_snoc ha hv2 ha2
        refine ez_if rfl rfl ⟨by decide, by decide⟩ (fun _ => ?_) (fun (c5 : ¬((1 : Int) ≠ (0))) => absurd c5 (by decide))
        refine ez_go (n := 2) (pc' := 83) (L' := [(7, .inl (i + 1)), (6, .inl (m)), (5, .inl (a)), (4, .inr (.inr (some (r)))), (0, .inr (.inr (some (723)))), (1, .inl (x)), (2, .inl (s)), (3, .inl (1))]) (st' := []) rfl ?_
        refine ez_less [(7, .inl (i + 1)), (6, .inl (m)), (5, .inl (a)), (4, .inr (.inr (some (r)))), (0, .inr (.inr (some (723)))), (1, .inl (x)), (2, .inl (s)), (3, .inl (1))] rfl ⟨rfl, rfl, rfl, rfl, rfl, rfl, rfl, rfl, trivial⟩ ?_
        refine ih (i + 1) g2 (by omega) (by omega) (by omega) (by omega) (by rw [show (i + 1).toNat = i.toNat + 1 by omega]; exact ha3)
theorem rd_poolFull1 {x s : Int} {l : List Int} (hC : pz_C τ h T F E) (x0 : 0 ≤ x) (x1 : x ≤ 1114111) (s0 : 0 ≤ s) (s1 : s ≤ 20440) (u0 : s ≤ qz_I h 723 2) (u1 : qz_I h 723 2 ≤ s + 40) (hd : dn h T F true x l) (k1 : ∀ g, ap τ h g l → qz_I h 723 2 + (l.length : Int) ≤ s + 40 → Q (.inl (some (ez_v (.inl 1))), g)) (k0 : ∀ g l2, ap τ h g l2 → s + 40 < qz_I h 723 2 + (l.length : Int) → Q (.inl (some (ez_v (.inl 0))), g)) : ez_W (d + 2) cm_126 0 [(0, .inr (.inr (some (723)))), (1, .inl (x)), (2, .inl (s)), (3, .inl (1))] [] h Q := by
  have t723 : τ 723 = 55 := hC.2.1 723 (by decide)
  have t724 : τ 724 = 56 := hC.2.1 724 (by decide)
  refine ez_go (n := 1) (pc' := 1) (L' := [(0, .inr (.inr (some (723)))), (1, .inl (x)), (2, .inl (s)), (3, .inl (1))]) (st' := [.inl (x)]) rfl ?_
  refine ez_cs hC.1.2.1 rfl rfl rfl rfl rfl (rd_isSyl (by omega) (by omega) (fun e => ez_K1 ?_) (fun e => ez_K1 ?_))
  · skip
    refine ez_if rfl rfl ⟨by decide, by decide⟩ (fun (c1 : (1 : Int) = (0)) => absurd c1 (by decide)) (fun _ => ?_)
    refine ez_go (n := 3) (pc' := 10) (L' := [(0, .inr (.inr (some (723)))), (1, .inl (x)), (2, .inl (s)), (3, .inl (1))]) (st' := [.inl (s), .inl (x), .inr (.inr (some (723)))]) rfl ?_
    have hl : l = hz_sy x := by rcases hd with w | w | w; (· exact w.2); (· exact absurd e w.1); (· exact absurd e w.1)
    subst hl
    refine ez_cv hC.1 t723 rfl rfl rfl tq_55 rfl rfl rfl (rd_poolSyl hC.1 t723 e s0 s1 u0 u1 (fun g w1 w2 => ez_K1 ?_) (fun g l2 w1 w2 => ez_K1 ?_))
    · exact ez_retZ rfl rfl (by decide) (k1 g w1 w2)
    · exact ez_retZ rfl rfl (by decide) (k0 g l2 w1 w2)
  · skip
    refine ez_if rfl rfl ⟨by decide, by decide⟩ (fun _ => ?_) (fun (c2 : ¬((0 : Int) = (0))) => absurd c2 (by decide))
    refine ez_go (n := 1) (pc' := 15) (L' := [(0, .inr (.inr (some (723)))), (1, .inl (x)), (2, .inl (s)), (3, .inl (1))]) (st' := [.inr (.inr (some (723)))]) rfl ?_
    refine ez_gC (p := 202) (tg := 48) hC.1 t723 rfl rfl tq_55 rfl rfl (fun (t202 : _ = 48) => ?_)
    refine ez_go (n := 1) (pc' := 19) (L' := [(0, .inr (.inr (some (723)))), (1, .inl (x)), (2, .inl (s)), (3, .inl (1))]) (st' := [.inl (x), .inr (.inr (some (202)))]) rfl ?_
    refine ez_cv hC.1 t202 rfl rfl rfl tq_48 rfl rfl rfl (rd_spanOf hC x0 x1 (fun z tz z1 _ => ez_KA ?_))
    refine ez_gR hC.1 tz rfl rfl tq_4 rfl rfl (fun (t3 : _ = 3) (t3' : 1 ≤ qz_I h z 1) => ?_)
    have eT : qz_P h z 1 = T x := by unfold qz_P; omega
    rw [eT]
    have tT := (hC.2.2.2.2 x x0 x1).1
    refine ez_go (n := 2) (pc' := 29) (L' := [(4, .inr (.inr (some ((T x))))), (0, .inr (.inr (some (723)))), (1, .inl (x)), (2, .inl (s)), (3, .inl (1))]) (st' := [.inr (.inr (some ((T x))))]) rfl ?_
    refine ez_gN hC.1 tT rfl rfl tq_3 rfl rfl (fun (t4 : qz_I h ((T x)) 3 = 0) => ?_) (fun (t4 : _ = 5) (t4' : 1 ≤ qz_I h ((T x)) 3) => ?_)
    · skip
      refine ez_nonn0 rfl ?_
      refine ez_go (n := 3) (pc' := 38) (L' := [(4, .inr (.inr (some ((T x))))), (0, .inr (.inr (some (723)))), (1, .inl (x)), (2, .inl (s)), (3, .inl (1))]) (st' := [.inl (s), .inl (x), .inr (.inr (some (723)))]) rfl ?_
      have hnone : (F x).2 = none := by
        cases hq : (F x).2 with
        | none => rfl
        | some q => have := ((hC.2.2.2.2 x x0 x1).2.2.2 q.1 q.2 hq).2.2.1; omega
      have hl : l = [x] := by rcases hd with w | w | w; (· exact absurd w.1 e); (· exact w.2.2); (· exact absurd hnone w.2.1)
      subst hl
      refine ez_cv hC.1 t723 rfl rfl rfl tq_55 rfl rfl rfl (rd_poolPoint hC.1 t723 (by omega) (by omega) s0 s1 u0 u1 (fun w => ez_K1 ?_) (fun w g w1 => ez_K1 ?_))
      · exact ez_retZ rfl rfl (by decide) (k0 h [] (ap.nil hC.1) (by simp only [List.length_singleton]; omega))
      · exact ez_retZ rfl rfl (by decide) (k1 g w1 (by simp only [List.length_singleton]; omega))
    · skip
      refine ez_nonn1 rfl rfl ?_
      refine ez_go (n := 1) (pc' := 43) (L' := [(4, .inr (.inr (some ((T x))))), (0, .inr (.inr (some (723)))), (1, .inl (x)), (2, .inl (s)), (3, .inl (1))]) (st' := [.inl (1)]) rfl ?_
      refine ez_if rfl rfl ⟨by decide, by decide⟩ (fun (c5 : (1 : Int) = (0)) => absurd c5 (by decide)) (fun _ => ?_)
      refine ez_go (n := 1) (pc' := 48) (L' := [(4, .inr (.inr (some ((T x))))), (0, .inr (.inr (some (723)))), (1, .inl (x)), (2, .inl (s)), (3, .inl (1))]) (st' := [.inr (.inr (some ((T x))))]) rfl ?_
      refine ez_gI hC.1 tT rfl rfl tq_3 rfl rfl (fun (b6 : 0 ≤ qz_I h ((T x)) 11) (b6' : qz_I h ((T x)) 11 ≤ 20480) => ?_)
      refine ez_go (n := 3) (pc' := 62) (L' := [(5, .inl (qz_I h ((T x)) 11)), (4, .inr (.inr (some ((T x))))), (0, .inr (.inr (some (723)))), (1, .inl (x)), (2, .inl (s)), (3, .inl (1))]) (st' := [.inl (1)]) rfl ?_
      refine ez_if rfl rfl ⟨by decide, by decide⟩ (fun (c7 : (1 : Int) = (0)) => absurd c7 (by decide)) (fun _ => ?_)
      refine ez_go (n := 1) (pc' := 67) (L' := [(5, .inl (qz_I h ((T x)) 11)), (4, .inr (.inr (some ((T x))))), (0, .inr (.inr (some (723)))), (1, .inl (x)), (2, .inl (s)), (3, .inl (1))]) (st' := [.inr (.inr (some ((T x))))]) rfl ?_
      refine ez_gI hC.1 tT rfl rfl tq_3 rfl rfl (fun (b8 : 0 ≤ qz_I h ((T x)) 12) (b8' : qz_I h ((T x)) 12 ≤ 20480) => ?_)
      refine ez_go (n := 4) (pc' := 83) (L' := [(7, .inl (0)), (6, .inl (qz_I h ((T x)) 12)), (5, .inl (qz_I h ((T x)) 11)), (4, .inr (.inr (some ((T x))))), (0, .inr (.inr (some (723)))), (1, .inl (x)), (2, .inl (s)), (3, .inl (1))]) (st' := []) rfl ?_
      refine ez_less [(7, .inl (0)), (6, .inl (qz_I h ((T x)) 12)), (5, .inl (qz_I h ((T x)) 11)), (4, .inr (.inr (some ((T x))))), (0, .inr (.inr (some (723)))), (1, .inl (x)), (2, .inl (s)), (3, .inl (1))] rfl ⟨rfl, rfl, rfl, rfl, rfl, rfl, rfl, rfl, trivial⟩ ?_
      have hsg : sg h (T x) true l := by
        rcases hd with w | w | w
        · exact absurd w.1 e
        · have := (hC.2.2.2.2 x x0 x1).2.2.1 w.2.1; omega
        · exact w.2.2
      obtain ⟨q1, q2, q3, q4⟩ := hsg
      have q1 : qz_I h (T x) 12 = (l.length : Int) := q1
      have q2 : 0 ≤ qz_I h (T x) 11 := q2
      have q3 : qz_I h (T x) 11 + (l.length : Int) ≤ qz_I h 723 2 := q3
      have q4 : ∀ (j : Nat) v, l[j]? = some v → qz_I h 724 (qz_I h (T x) 11 + (j : Int)).toNat = v := q4
      exact rd_poolFull_l1 t723 t724 s0 s1 u0 u1 q1 (by omega) (by omega) q4 k1 k0 _ 0 h rfl (by omega) (by omega) (by omega) (ap.nil hC.1)

theorem rd_poolFull_l0 {x s a m : Int} {r : Nat} {l : List Int} (t723 : τ 723 = 55) (t724 : τ 724 = 56) (s0 : 0 ≤ s) (s1 : s ≤ 20440) (u0 : s ≤ qz_I h 723 2) (u1 : qz_I h 723 2 ≤ s + 40) (hm : m = (l.length : Int)) (a0 : 0 ≤ a) (a1 : a + m ≤ qz_I h 723 2) (hl : ∀ (j : Nat) v, l[j]? = some v → qz_I h 724 (a + (j : Int)).toNat = v) (k1 : ∀ g, ap τ h g l → qz_I h 723 2 + (l.length : Int) ≤ s + 40 → Q (.inl (some (ez_v (.inl 1))), g)) (k0 : ∀ g l2, ap τ h g l2 → s + 40 < qz_I h 723 2 + (l.length : Int) → Q (.inl (some (ez_v (.inl 0))), g)) : ∀ (n : Nat) (i : Int) (g : cz_H), n = (m - i).toNat → 0 ≤ i → i ≤ m → qz_I h 723 2 + i ≤ s + 40 → ap τ h g (l.take i.toNat) → ez_W (d + 1) cm_126 83 [(7, .inl (i)), (6, .inl (m)), (5, .inl (a)), (4, .inr (.inr (some (r)))), (0, .inr (.inr (some (723)))), (1, .inl (x)), (2, .inl (s)), (3, .inl (0))] [] g Q := by
  intro n
  induction n with
  | zero =>
    intro i g hm i0 i1 i2 ha
    have ha4 := ha.2.2.2.1
    rw [List.length_take] at ha4
    refine ez_go (n := 2) (pc' := 87) (L' := [(7, .inl (i)), (6, .inl (m)), (5, .inl (a)), (4, .inr (.inr (some (r)))), (0, .inr (.inr (some (723)))), (1, .inl (x)), (2, .inl (s)), (3, .inl (0))]) (st' := [.inl (m), .inl (i)]) rfl ?_
    refine ez_icmp rfl rfl ⟨by first | omega | exact (sz_i32 _).1, by first | omega | exact (sz_i32 _).2⟩ ⟨by first | omega | exact (sz_i32 _).1, by first | omega | exact (sz_i32 _).2⟩ (fun (c1 : (m) ≤ (i)) => ?_) (fun (c1 : ¬((m) ≤ (i))) => ?_)
    · skip
      refine ez_go (n := 1) (pc' := 117) (L' := [(7, .inl (i)), (6, .inl (m)), (5, .inl (a)), (4, .inr (.inr (some (r)))), (0, .inr (.inr (some (723)))), (1, .inl (x)), (2, .inl (s)), (3, .inl (0))]) (st' := [.inl (1)]) rfl ?_
      exact ez_retZ rfl rfl (by decide) (k1 g (by rw [List.take_of_length_le (by omega)] at ha; exact ha) (by omega))
    · exfalso; omega
  | succ n ih =>
    intro i g hm i0 i1 i2 ha
    have ha4 := ha.2.2.2.1
    rw [List.length_take] at ha4
    refine ez_go (n := 2) (pc' := 87) (L' := [(7, .inl (i)), (6, .inl (m)), (5, .inl (a)), (4, .inr (.inr (some (r)))), (0, .inr (.inr (some (723)))), (1, .inl (x)), (2, .inl (s)), (3, .inl (0))]) (st' := [.inl (m), .inl (i)]) rfl ?_
    refine ez_icmp rfl rfl ⟨by first | omega | exact (sz_i32 _).1, by first | omega | exact (sz_i32 _).2⟩ ⟨by first | omega | exact (sz_i32 _).1, by first | omega | exact (sz_i32 _).2⟩ (fun (c1 : (m) ≤ (i)) => ?_) (fun (c1 : ¬((m) ≤ (i))) => ?_)
    · exfalso; omega
    · skip
      refine ez_go (n := 2) (pc' := 92) (L' := [(7, .inl (i)), (6, .inl (m)), (5, .inl (a)), (4, .inr (.inr (some (r)))), (0, .inr (.inr (some (723)))), (1, .inl (x)), (2, .inl (s)), (3, .inl (0))]) (st' := [.inr (.inr (some (723))), .inr (.inr (some (723)))]) rfl ?_
      refine ez_gC (p := 724) (tg := 56) ha.1 t723 rfl rfl tq_55 rfl rfl (fun (t724 : _ = 56) => ?_)
      refine ez_go (n := 3) (pc' := 100) (L' := [(7, .inl (i)), (6, .inl (m)), (5, .inl (a)), (4, .inr (.inr (some (r)))), (0, .inr (.inr (some (723)))), (1, .inl (x)), (2, .inl (s)), (3, .inl (0))]) (st' := [.inl ((a) + (i)), .inr (.inr (some (724))), .inr (.inr (some (723)))]) rfl ?_
      have n3 : 20480 ≤ qz_N g 724 ∧ qz_N g 724 ≤ 20480 := ez_len ha.1 t724 tq_56 rfl
      refine ez_aI ha.1 t724 rfl tq_56 rfl rfl (by omega) (by omega) (fun (b2 : -2147483648 ≤ qz_I g 724 ((a) + (i)).toNat) (b2' : qz_I g 724 ((a) + (i)).toNat ≤ 2147483647) => ?_)
      have hlt : i.toNat < l.length := by omega
      have hv : qz_I g 724 ((a) + (i)).toNat = l[i.toNat] := by
        rw [ha.2.2.2.2 _ (by omega), if_neg (by rw [List.length_take]; omega)]
        have := hl i.toNat _ (List.getElem?_eq_getElem hlt)
        rw [← this]; congr 2; omega
      have hv2 : l[i.toNat]? = some (qz_I g 724 ((a) + (i)).toNat) := by rw [hv]; exact List.getElem?_eq_getElem hlt
      refine ez_go (n := 1) (pc' := 102) (L' := [(7, .inl (i)), (6, .inl (m)), (5, .inl (a)), (4, .inr (.inr (some (r)))), (0, .inr (.inr (some (723)))), (1, .inl (x)), (2, .inl (s)), (3, .inl (0))]) (st' := [.inl (s), .inl (qz_I g 724 ((a) + (i)).toNat), .inr (.inr (some (723)))]) rfl ?_
      refine ez_cv ha.1 t723 rfl rfl rfl tq_55 rfl rfl rfl (rd_poolPoint ha.1 t723 (by omega) (by omega) s0 s1 (by omega) (by omega) (fun e => ez_K1 ?_) (fun e g2 ha2 => ez_K1 ?_))
      · skip
        refine ez_if rfl rfl ⟨by decide, by decide⟩ (fun (c4 : (0 : Int) ≠ (0)) => absurd c4 (by decide)) (fun _ => ?_)
        refine ez_go (n := 1) (pc' := 109) (L' := [(7, .inl (i)), (6, .inl (m)), (5, .inl (a)), (4, .inr (.inr (some (r)))), (0, .inr (.inr (some (723)))), (1, .inl (x)), (2, .inl (s)), (3, .inl (0))]) (st' := [.inl (0)]) rfl ?_
        exact ez_retZ rfl rfl (by decide) (k0 g _ ha (by omega))
      · skip
        have hB2 := ha2.1
        have ha3 := ap_snoc ha hv2 ha2
        refine ez_if rfl rfl ⟨by decide, by decide⟩ (fun _ => ?_) (fun (c5 : ¬((1 : Int) ≠ (0))) => absurd c5 (by decide))
        refine ez_go (n := 2) (pc' := 83) (L' := [(7, .inl (i + 1)), (6, .inl (m)), (5, .inl (a)), (4, .inr (.inr (some (r)))), (0, .inr (.inr (some (723)))), (1, .inl (x)), (2, .inl (s)), (3, .inl (0))]) (st' := []) rfl ?_
        refine ez_less [(7, .inl (i + 1)), (6, .inl (m)), (5, .inl (a)), (4, .inr (.inr (some (r)))), (0, .inr (.inr (some (723)))), (1, .inl (x)), (2, .inl (s)), (3, .inl (0))] rfl ⟨rfl, rfl, rfl, rfl, rfl, rfl, rfl, rfl, trivial⟩ ?_
        refine ih (i + 1) g2 (by omega) (by omega) (by omega) (by omega) (by rw [show (i + 1).toNat = i.toNat + 1 by omega]; exact ha3)
theorem rd_poolFull0 {x s : Int} {l : List Int} (hC : pz_C τ h T F E) (x0 : 0 ≤ x) (x1 : x ≤ 1114111) (s0 : 0 ≤ s) (s1 : s ≤ 20440) (u0 : s ≤ qz_I h 723 2) (u1 : qz_I h 723 2 ≤ s + 40) (hd : dn h T F false x l) (k1 : ∀ g, ap τ h g l → qz_I h 723 2 + (l.length : Int) ≤ s + 40 → Q (.inl (some (ez_v (.inl 1))), g)) (k0 : ∀ g l2, ap τ h g l2 → s + 40 < qz_I h 723 2 + (l.length : Int) → Q (.inl (some (ez_v (.inl 0))), g)) : ez_W (d + 2) cm_126 0 [(0, .inr (.inr (some (723)))), (1, .inl (x)), (2, .inl (s)), (3, .inl (0))] [] h Q := by
  have t723 : τ 723 = 55 := hC.2.1 723 (by decide)
  have t724 : τ 724 = 56 := hC.2.1 724 (by decide)
  refine ez_go (n := 1) (pc' := 1) (L' := [(0, .inr (.inr (some (723)))), (1, .inl (x)), (2, .inl (s)), (3, .inl (0))]) (st' := [.inl (x)]) rfl ?_
  refine ez_cs hC.1.2.1 rfl rfl rfl rfl rfl (rd_isSyl (by omega) (by omega) (fun e => ez_K1 ?_) (fun e => ez_K1 ?_))
  · skip
    refine ez_if rfl rfl ⟨by decide, by decide⟩ (fun (c1 : (1 : Int) = (0)) => absurd c1 (by decide)) (fun _ => ?_)
    refine ez_go (n := 3) (pc' := 10) (L' := [(0, .inr (.inr (some (723)))), (1, .inl (x)), (2, .inl (s)), (3, .inl (0))]) (st' := [.inl (s), .inl (x), .inr (.inr (some (723)))]) rfl ?_
    have hl : l = hz_sy x := by rcases hd with w | w | w; (· exact w.2); (· exact absurd e w.1); (· exact absurd e w.1)
    subst hl
    refine ez_cv hC.1 t723 rfl rfl rfl tq_55 rfl rfl rfl (rd_poolSyl hC.1 t723 e s0 s1 u0 u1 (fun g w1 w2 => ez_K1 ?_) (fun g l2 w1 w2 => ez_K1 ?_))
    · exact ez_retZ rfl rfl (by decide) (k1 g w1 w2)
    · exact ez_retZ rfl rfl (by decide) (k0 g l2 w1 w2)
  · skip
    refine ez_if rfl rfl ⟨by decide, by decide⟩ (fun _ => ?_) (fun (c2 : ¬((0 : Int) = (0))) => absurd c2 (by decide))
    refine ez_go (n := 1) (pc' := 15) (L' := [(0, .inr (.inr (some (723)))), (1, .inl (x)), (2, .inl (s)), (3, .inl (0))]) (st' := [.inr (.inr (some (723)))]) rfl ?_
    refine ez_gC (p := 202) (tg := 48) hC.1 t723 rfl rfl tq_55 rfl rfl (fun (t202 : _ = 48) => ?_)
    refine ez_go (n := 1) (pc' := 19) (L' := [(0, .inr (.inr (some (723)))), (1, .inl (x)), (2, .inl (s)), (3, .inl (0))]) (st' := [.inl (x), .inr (.inr (some (202)))]) rfl ?_
    refine ez_cv hC.1 t202 rfl rfl rfl tq_48 rfl rfl rfl (rd_spanOf hC x0 x1 (fun z tz z1 _ => ez_KA ?_))
    refine ez_gR hC.1 tz rfl rfl tq_4 rfl rfl (fun (t3 : _ = 3) (t3' : 1 ≤ qz_I h z 1) => ?_)
    have eT : qz_P h z 1 = T x := by unfold qz_P; omega
    rw [eT]
    have tT := (hC.2.2.2.2 x x0 x1).1
    refine ez_go (n := 2) (pc' := 29) (L' := [(4, .inr (.inr (some ((T x))))), (0, .inr (.inr (some (723)))), (1, .inl (x)), (2, .inl (s)), (3, .inl (0))]) (st' := [.inr (.inr (some ((T x))))]) rfl ?_
    refine ez_gN hC.1 tT rfl rfl tq_3 rfl rfl (fun (t4 : qz_I h ((T x)) 3 = 0) => ?_) (fun (t4 : _ = 5) (t4' : 1 ≤ qz_I h ((T x)) 3) => ?_)
    · skip
      refine ez_nonn0 rfl ?_
      refine ez_go (n := 3) (pc' := 38) (L' := [(4, .inr (.inr (some ((T x))))), (0, .inr (.inr (some (723)))), (1, .inl (x)), (2, .inl (s)), (3, .inl (0))]) (st' := [.inl (s), .inl (x), .inr (.inr (some (723)))]) rfl ?_
      have hnone : (F x).2 = none := by
        cases hq : (F x).2 with
        | none => rfl
        | some q => have := ((hC.2.2.2.2 x x0 x1).2.2.2 q.1 q.2 hq).2.2.1; omega
      have hl : l = [x] := by rcases hd with w | w | w; (· exact absurd w.1 e); (· exact w.2.2); (· exact absurd hnone w.2.1)
      subst hl
      refine ez_cv hC.1 t723 rfl rfl rfl tq_55 rfl rfl rfl (rd_poolPoint hC.1 t723 (by omega) (by omega) s0 s1 u0 u1 (fun w => ez_K1 ?_) (fun w g w1 => ez_K1 ?_))
      · exact ez_retZ rfl rfl (by decide) (k0 h [] (ap.nil hC.1) (by simp only [List.length_singleton]; omega))
      · exact ez_retZ rfl rfl (by decide) (k1 g w1 (by simp only [List.length_singleton]; omega))
    · skip
      refine ez_nonn1 rfl rfl ?_
      refine ez_go (n := 1) (pc' := 43) (L' := [(4, .inr (.inr (some ((T x))))), (0, .inr (.inr (some (723)))), (1, .inl (x)), (2, .inl (s)), (3, .inl (0))]) (st' := [.inl (0)]) rfl ?_
      refine ez_if rfl rfl ⟨by decide, by decide⟩ (fun _ => ?_) (fun (c5 : ¬((0 : Int) = (0))) => absurd c5 (by decide))
      refine ez_go (n := 1) (pc' := 56) (L' := [(4, .inr (.inr (some ((T x))))), (0, .inr (.inr (some (723)))), (1, .inl (x)), (2, .inl (s)), (3, .inl (0))]) (st' := [.inr (.inr (some ((T x))))]) rfl ?_
      refine ez_gI hC.1 tT rfl rfl tq_3 rfl rfl (fun (b6 : 0 ≤ qz_I h ((T x)) 9) (b6' : qz_I h ((T x)) 9 ≤ 20480) => ?_)
      refine ez_go (n := 2) (pc' := 62) (L' := [(5, .inl (qz_I h ((T x)) 9)), (4, .inr (.inr (some ((T x))))), (0, .inr (.inr (some (723)))), (1, .inl (x)), (2, .inl (s)), (3, .inl (0))]) (st' := [.inl (0)]) rfl ?_
      refine ez_if rfl rfl ⟨by decide, by decide⟩ (fun _ => ?_) (fun (c7 : ¬((0 : Int) = (0))) => absurd c7 (by decide))
      refine ez_go (n := 1) (pc' := 75) (L' := [(5, .inl (qz_I h ((T x)) 9)), (4, .inr (.inr (some ((T x))))), (0, .inr (.inr (some (723)))), (1, .inl (x)), (2, .inl (s)), (3, .inl (0))]) (st' := [.inr (.inr (some ((T x))))]) rfl ?_
      refine ez_gI hC.1 tT rfl rfl tq_3 rfl rfl (fun (b8 : 0 ≤ qz_I h ((T x)) 10) (b8' : qz_I h ((T x)) 10 ≤ 20480) => ?_)
      refine ez_go (n := 3) (pc' := 83) (L' := [(7, .inl (0)), (6, .inl (qz_I h ((T x)) 10)), (5, .inl (qz_I h ((T x)) 9)), (4, .inr (.inr (some ((T x))))), (0, .inr (.inr (some (723)))), (1, .inl (x)), (2, .inl (s)), (3, .inl (0))]) (st' := []) rfl ?_
      refine ez_less [(7, .inl (0)), (6, .inl (qz_I h ((T x)) 10)), (5, .inl (qz_I h ((T x)) 9)), (4, .inr (.inr (some ((T x))))), (0, .inr (.inr (some (723)))), (1, .inl (x)), (2, .inl (s)), (3, .inl (0))] rfl ⟨rfl, rfl, rfl, rfl, rfl, rfl, rfl, rfl, trivial⟩ ?_
      have hsg : sg h (T x) false l := by
        rcases hd with w | w | w
        · exact absurd w.1 e
        · have := (hC.2.2.2.2 x x0 x1).2.2.1 w.2.1; omega
        · exact w.2.2
      obtain ⟨q1, q2, q3, q4⟩ := hsg
      have q1 : qz_I h (T x) 10 = (l.length : Int) := q1
      have q2 : 0 ≤ qz_I h (T x) 9 := q2
      have q3 : qz_I h (T x) 9 + (l.length : Int) ≤ qz_I h 723 2 := q3
      have q4 : ∀ (j : Nat) v, l[j]? = some v → qz_I h 724 (qz_I h (T x) 9 + (j : Int)).toNat = v := q4
      exact rd_poolFull_l0 t723 t724 s0 s1 u0 u1 q1 (by omega) (by omega) q4 k1 k0 _ 0 h rfl (by omega) (by omega) (by omega) (ap.nil hC.1)

end EzPf
/-! The class: close. (Written by wip/p2/py/pv29.py.) -/
def ct (f : Int → List Int) : List Int → List Int
  | [] => []
  | v :: vs => f v ++ ct f vs
theorem ct_app (f : Int → List Int) : ∀ a b, ct f (a ++ b) = ct f a ++ ct f b
  | [], b => rfl
  | v :: a, b => by show f v ++ ct f (a ++ b) = _; rw [ct_app f a b]; show _ = f v ++ ct f a ++ ct f b; rw [List.append_assoc]
theorem ct_take {f : Int → List Int} {vs : List Int} {k : Nat} {v : Int} (h : vs[k]? = some v) : ct f (vs.take (k + 1)) = ct f (vs.take k) ++ f v := by
  rw [List.take_add_one, h, ct_app]
  show _ ++ (f v ++ []) = _
  rw [List.append_nil]
theorem ct_len {f : Int → List Int} (vs : List Int) (k : Nat) : (ct f (vs.take k)).length ≤ (ct f vs).length := by
  have : ct f vs = ct f (vs.take k) ++ ct f (vs.drop k) := by rw [← ct_app, List.take_append_drop]
  rw [this, List.length_append]
  omega
/-- lists that belong to the children: together they are the whole -/
theorem ct_FL {F : rz_W} {c : Bool} {f : Int → List Int} : ∀ {vs : List Int}, (∀ v ∈ vs, uz_F F c v (f v)) → uz_FL F c vs (ct f vs)
  | [], _ => uz_nil F c
  | v :: vs, h => uz_cons (h v List.mem_cons_self) (ct_FL (fun w hw => h w (List.mem_cons_of_mem _ hw)))
def nz_PR (r q : Nat) : Bool := Nat.beq q r || nz_PP q
theorem nz_PR_ap {τ : Nat → Nat} {r : Nat} {g g2 : cz_H} {l : List Int} (x : ap τ g g2 l) : ez_fr (nz_PR r) g g2 := ⟨x.2.1.1, x.2.1.2.1, fun q hq => x.2.1.2.2 q (by unfold nz_PR at hq; exact (Bool.or_eq_false_iff.mp hq).2)⟩
theorem nz_PR_r (r : Nat) : nz_PR r r = true := by unfold nz_PR; rw [Nat.beq_refl]; rfl
theorem nz_PR_pz {τ : Nat → Nat} {r : Nat} {h g : cz_H} (hX : jz_X τ) (tr : τ r = 3) (hf : ez_fr (nz_PR r) h g) (h8 : ∀ j, j < 8 → qz_I g r j = qz_I h r j) : pz τ h g := by
  refine ⟨⟨hf.1, hf.2.1⟩, fun q q1 q2 => hf.2.2 q ?_, fun q q1 j j8 => ?_⟩
  · unfold nz_PR nz_PP
    rw [dz_beq_ne (fun e => by rw [e] at q1; exact q1 tr), dz_beq_ne (by omega), dz_beq_ne (by omega)]
    rfl
  · by_cases e : q = r
    · rw [e]; exact h8 j j8
    · refine hf.I ?_ j
      unfold nz_PR nz_PP
      rw [dz_beq_ne e, dz_beq_ne (fun e => by rw [e] at q1; exact (pz_X hX (by omega) (by omega)).1 q1), dz_beq_ne (fun e => by rw [e] at q1; exact (pz_X hX (by omega) (by omega)).1 q1)]
      rfl
section EzCl
variable {d : Nat} {h : cz_H} {τ : Nat → Nat} {Q : cz_F → Prop} {T : Int → Nat} {F : rz_W} {E : Int → Prop}
theorem rd_close_l1 {x s cp : Int} {vs : List Int} {f : Int → List Int} (hC : pz_C τ h T F E) (x0 : 0 ≤ x) (x1 : x ≤ 1114111) (hdec : (F x).2 = some (cp, vs)) (hwf : ∀ v ∈ vs, 0 ≤ v ∧ v ≤ 1114111) (s0 : 0 ≤ s) (s1 : s ≤ 20440) (u0 : s ≤ qz_I h 723 2) (hs : qz_I h (T x) 11 = s) (hdn : ∀ v ∈ vs, dn h T F true v (f v)) (kF : ∀ g {l2}, ez_B τ g → ap τ h g l2 → s + 40 < qz_I h 723 2 + ((ct f vs).length : Int) → Q (.inl (some (ez_v (.inl 0))), g)) (kx : ∀ g, ap τ h g (ct f vs) → qz_I h 723 2 + ((ct f vs).length : Int) ≤ s + 40 → ez_W (d + 3) cm_113 45 [(0, .inr (.inr (some (723)))), (1, .inr (.inr (some ((T x)))))] [] g Q) : ∀ (n : Nat) (k : Int) (g : cz_H), n = ((vs.length : Int) - k).toNat → 0 ≤ k → k ≤ (vs.length : Int) → qz_I h 723 2 + ((ct f (vs.take k.toNat)).length : Int) ≤ s + 40 → ap τ h g (ct f (vs.take k.toNat)) → ez_W (d + 3) cm_113 10 [(2, .inl (k)), (0, .inr (.inr (some (723)))), (1, .inr (.inr (some ((T x)))))] [] g Q := by
  intro n
  induction n with
  | zero =>
    intro k g hm k0' k1' k2 ha
    have ha4 := ha.2.2.2.1
    have hCg := hC.fr ha.1 (ha.pz hC.2.1)
    have t723 : τ 723 = 55 := hC.2.1 723 (by decide)
    have t724 : τ 724 = 56 := hC.2.1 724 (by decide)
    obtain ⟨tT, -, -, f4⟩ := hCg.2.2.2.2 x x0 x1
    obtain ⟨f40, f41, f42, f43, f44, f45⟩ := f4 cp vs hdec
    have hs9 : qz_I g (T x) 11 = s := by rw [ha.2.1.I (by unfold nz_PP; rw [dz_beq_ne (fun e => by rw [e, t723] at tT; cases tT), dz_beq_ne (fun e => by rw [e, t724] at tT; cases tT)]; rfl)]; exact hs
    refine ez_go (n := 2) (pc' := 12) (L' := [(2, .inl (k)), (0, .inr (.inr (some (723)))), (1, .inr (.inr (some ((T x)))))]) (st' := [.inr (.inr (some ((T x)))), .inl (k)]) rfl ?_
    refine ez_gN ha.1 tT rfl rfl tq_3 rfl rfl (fun (t1 : qz_I g ((T x)) 3 = 0) => ?_) (fun (t1 : _ = 5) (t1' : 1 ≤ qz_I g ((T x)) 3) => ?_)
    · exfalso; omega
    · skip
      refine ez_al ha.1 t1 rfl tq_5 rfl (fun (b2 : 0 ≤ qz_N g (qz_P g ((T x)) 3)) (b2' : qz_N g (qz_P g ((T x)) 3) ≤ 18) => ?_)
      refine ez_icmp rfl rfl ⟨by first | omega | exact (sz_i32 _).1, by first | omega | exact (sz_i32 _).2⟩ ⟨by first | omega | exact (sz_i32 _).1, by first | omega | exact (sz_i32 _).2⟩ (fun (c3 : (qz_N g (qz_P g ((T x)) 3)) ≤ (k)) => ?_) (fun (c3 : ¬((qz_N g (qz_P g ((T x)) 3)) ≤ (k))) => ?_)
      · skip
        refine ez_less [(0, .inr (.inr (some (723)))), (1, .inr (.inr (some ((T x)))))] rfl ⟨rfl, rfl, trivial⟩ ?_
        rw [List.take_of_length_le (by omega)] at ha k2
        exact kx g ha k2
      · exfalso; omega
  | succ n ih =>
    intro k g hm k0' k1' k2 ha
    have ha4 := ha.2.2.2.1
    have hCg := hC.fr ha.1 (ha.pz hC.2.1)
    have t723 : τ 723 = 55 := hC.2.1 723 (by decide)
    have t724 : τ 724 = 56 := hC.2.1 724 (by decide)
    obtain ⟨tT, -, -, f4⟩ := hCg.2.2.2.2 x x0 x1
    obtain ⟨f40, f41, f42, f43, f44, f45⟩ := f4 cp vs hdec
    have hs9 : qz_I g (T x) 11 = s := by rw [ha.2.1.I (by unfold nz_PP; rw [dz_beq_ne (fun e => by rw [e, t723] at tT; cases tT), dz_beq_ne (fun e => by rw [e, t724] at tT; cases tT)]; rfl)]; exact hs
    refine ez_go (n := 2) (pc' := 12) (L' := [(2, .inl (k)), (0, .inr (.inr (some (723)))), (1, .inr (.inr (some ((T x)))))]) (st' := [.inr (.inr (some ((T x)))), .inl (k)]) rfl ?_
    refine ez_gN ha.1 tT rfl rfl tq_3 rfl rfl (fun (t1 : qz_I g ((T x)) 3 = 0) => ?_) (fun (t1 : _ = 5) (t1' : 1 ≤ qz_I g ((T x)) 3) => ?_)
    · exfalso; omega
    · skip
      refine ez_al ha.1 t1 rfl tq_5 rfl (fun (b2 : 0 ≤ qz_N g (qz_P g ((T x)) 3)) (b2' : qz_N g (qz_P g ((T x)) 3) ≤ 18) => ?_)
      refine ez_icmp rfl rfl ⟨by first | omega | exact (sz_i32 _).1, by first | omega | exact (sz_i32 _).2⟩ ⟨by first | omega | exact (sz_i32 _).1, by first | omega | exact (sz_i32 _).2⟩ (fun (c3 : (qz_N g (qz_P g ((T x)) 3)) ≤ (k)) => ?_) (fun (c3 : ¬((qz_N g (qz_P g ((T x)) 3)) ≤ (k))) => ?_)
      · exfalso; omega
      · skip
        refine ez_go (n := 2) (pc' := 21) (L' := [(2, .inl (k)), (0, .inr (.inr (some (723)))), (1, .inr (.inr (some ((T x)))))]) (st' := [.inr (.inr (some ((T x)))), .inr (.inr (some (723)))]) rfl ?_
        refine ez_gN ha.1 tT rfl rfl tq_3 rfl rfl (fun (t4 : qz_I g ((T x)) 3 = 0) => ?_) (fun (t4 : _ = 5) (t4' : 1 ≤ qz_I g ((T x)) 3) => ?_)
        · exfalso; omega
        · skip
          refine ez_go (n := 1) (pc' := 25) (L' := [(2, .inl (k)), (0, .inr (.inr (some (723)))), (1, .inr (.inr (some ((T x)))))]) (st' := [.inl (k), .inr (.inr (some (qz_P g ((T x)) 3))), .inr (.inr (some (723)))]) rfl ?_
          have n6 : 0 ≤ qz_N g (qz_P g ((T x)) 3) ∧ qz_N g (qz_P g ((T x)) 3) ≤ 18 := ez_len ha.1 t4 tq_5 rfl
          refine ez_aI ha.1 t4 rfl tq_5 rfl rfl (by omega) (by omega) (fun (b5 : -2147483648 ≤ qz_I g (qz_P g ((T x)) 3) (k).toNat) (b5' : qz_I g (qz_P g ((T x)) 3) (k).toNat ≤ 2147483647) => ?_)
          have hlt : k.toNat < vs.length := by omega
          have hv2 := List.getElem?_eq_getElem hlt
          have hv : qz_I g (qz_P g ((T x)) 3) (k).toNat = vs[k.toNat] := f45 _ _ hv2
          have hmem : vs[k.toNat] ∈ vs := List.getElem_mem hlt
          obtain ⟨bv0, bv1⟩ := hwf _ hmem
          rw [hv]
          generalize vs[k.toNat] = v at *
          refine ez_go (n := 1) (pc' := 27) (L' := [(2, .inl (k)), (0, .inr (.inr (some (723)))), (1, .inr (.inr (some ((T x)))))]) (st' := [.inr (.inr (some ((T x)))), .inl (v), .inr (.inr (some (723)))]) rfl ?_
          refine ez_gI ha.1 tT rfl rfl tq_3 rfl rfl (fun (b7 : 0 ≤ qz_I g ((T x)) 11) (b7' : qz_I g ((T x)) 11 ≤ 20480) => ?_)
          refine ez_go (n := 1) (pc' := 31) (L' := [(2, .inl (k)), (0, .inr (.inr (some (723)))), (1, .inr (.inr (some ((T x)))))]) (st' := [.inl (1), .inl (qz_I g ((T x)) 11), .inl (v), .inr (.inr (some (723)))]) rfl ?_
          rw [hs9]
          refine ez_cv ha.1 t723 rfl rfl rfl tq_55 rfl rfl rfl (rd_poolFull1 hCg bv0 bv1 s0 s1 (by omega) (by omega) (dn_ap ((hC.2.2.2.2 v bv0 bv1).1) t723 t724 (hdn v hmem) ha) (fun g2 w1 w2 => ez_K1 ?_) (fun g2 l2 w1 w2 => ez_K1 ?_))
          · skip
            refine ez_if rfl rfl ⟨by decide, by decide⟩ (fun _ => ?_) (fun (c8 : ¬((1 : Int) ≠ (0))) => absurd c8 (by decide))
            refine ez_go (n := 2) (pc' := 10) (L' := [(2, .inl (k + 1)), (0, .inr (.inr (some (723)))), (1, .inr (.inr (some ((T x)))))]) (st' := []) rfl ?_
            refine ez_less [(2, .inl (k + 1)), (0, .inr (.inr (some (723)))), (1, .inr (.inr (some ((T x)))))] rfl ⟨rfl, rfl, rfl, trivial⟩ ?_
            refine ih (k + 1) g2 (by omega) (by omega) (by omega) ?_ ?_
            · rw [show (k + 1).toNat = k.toNat + 1 by omega, ct_take hv2, List.length_append]; omega
            · rw [show (k + 1).toNat = k.toNat + 1 by omega, ct_take hv2]; exact ha.trans w1
          · skip
            refine ez_if rfl rfl ⟨by decide, by decide⟩ (fun (c9 : (0 : Int) ≠ (0)) => absurd c9 (by decide)) (fun _ => ?_)
            refine ez_go (n := 1) (pc' := 38) (L' := [(2, .inl (k)), (0, .inr (.inr (some (723)))), (1, .inr (.inr (some ((T x)))))]) (st' := [.inl (0)]) rfl ?_
            refine ez_retZ rfl rfl (by decide) (kF g2 w1.1 (ha.trans w1) ?_)
            have := ct_len (f := f) vs (k.toNat + 1)
            rw [ct_take hv2, List.length_append] at this
            omega
theorem rd_close_l0 {x s cp : Int} {vs : List Int} {f : Int → List Int} (hC : pz_C τ h T F E) (x0 : 0 ≤ x) (x1 : x ≤ 1114111) (hdec : (F x).2 = some (cp, vs)) (hwf : ∀ v ∈ vs, 0 ≤ v ∧ v ≤ 1114111) (s0 : 0 ≤ s) (s1 : s ≤ 20440) (u0 : s ≤ qz_I h 723 2) (hs : qz_I h (T x) 9 = s) (hdn : ∀ v ∈ vs, dn h T F false v (f v)) (kF : ∀ g {l2}, ez_B τ g → ap τ h g l2 → s + 40 < qz_I h 723 2 + ((ct f vs).length : Int) → Q (.inl (some (ez_v (.inl 0))), g)) (kx : ∀ g, ap τ h g (ct f vs) → qz_I h 723 2 + ((ct f vs).length : Int) ≤ s + 40 → ez_W (d + 3) cm_113 126 [(0, .inr (.inr (some (723)))), (1, .inr (.inr (some ((T x)))))] [] g Q) : ∀ (n : Nat) (k : Int) (g : cz_H), n = ((vs.length : Int) - k).toNat → 0 ≤ k → k ≤ (vs.length : Int) → qz_I h 723 2 + ((ct f (vs.take k.toNat)).length : Int) ≤ s + 40 → ap τ h g (ct f (vs.take k.toNat)) → ez_W (d + 3) cm_113 91 [(2, .inl (k)), (0, .inr (.inr (some (723)))), (1, .inr (.inr (some ((T x)))))] [] g Q := by
  intro n
  induction n with
  | zero =>
    intro k g hm k0' k1' k2 ha
    have ha4 := ha.2.2.2.1
    have hCg := hC.fr ha.1 (ha.pz hC.2.1)
    have t723 : τ 723 = 55 := hC.2.1 723 (by decide)
    have t724 : τ 724 = 56 := hC.2.1 724 (by decide)
    obtain ⟨tT, -, -, f4⟩ := hCg.2.2.2.2 x x0 x1
    obtain ⟨f40, f41, f42, f43, f44, f45⟩ := f4 cp vs hdec
    have hs9 : qz_I g (T x) 9 = s := by rw [ha.2.1.I (by unfold nz_PP; rw [dz_beq_ne (fun e => by rw [e, t723] at tT; cases tT), dz_beq_ne (fun e => by rw [e, t724] at tT; cases tT)]; rfl)]; exact hs
    refine ez_go (n := 2) (pc' := 93) (L' := [(2, .inl (k)), (0, .inr (.inr (some (723)))), (1, .inr (.inr (some ((T x)))))]) (st' := [.inr (.inr (some ((T x)))), .inl (k)]) rfl ?_
    refine ez_gN ha.1 tT rfl rfl tq_3 rfl rfl (fun (t1 : qz_I g ((T x)) 3 = 0) => ?_) (fun (t1 : _ = 5) (t1' : 1 ≤ qz_I g ((T x)) 3) => ?_)
    · exfalso; omega
    · skip
      refine ez_al ha.1 t1 rfl tq_5 rfl (fun (b2 : 0 ≤ qz_N g (qz_P g ((T x)) 3)) (b2' : qz_N g (qz_P g ((T x)) 3) ≤ 18) => ?_)
      refine ez_icmp rfl rfl ⟨by first | omega | exact (sz_i32 _).1, by first | omega | exact (sz_i32 _).2⟩ ⟨by first | omega | exact (sz_i32 _).1, by first | omega | exact (sz_i32 _).2⟩ (fun (c3 : (qz_N g (qz_P g ((T x)) 3)) ≤ (k)) => ?_) (fun (c3 : ¬((qz_N g (qz_P g ((T x)) 3)) ≤ (k))) => ?_)
      · skip
        refine ez_less [(0, .inr (.inr (some (723)))), (1, .inr (.inr (some ((T x)))))] rfl ⟨rfl, rfl, trivial⟩ ?_
        rw [List.take_of_length_le (by omega)] at ha k2
        exact kx g ha k2
      · exfalso; omega
  | succ n ih =>
    intro k g hm k0' k1' k2 ha
    have ha4 := ha.2.2.2.1
    have hCg := hC.fr ha.1 (ha.pz hC.2.1)
    have t723 : τ 723 = 55 := hC.2.1 723 (by decide)
    have t724 : τ 724 = 56 := hC.2.1 724 (by decide)
    obtain ⟨tT, -, -, f4⟩ := hCg.2.2.2.2 x x0 x1
    obtain ⟨f40, f41, f42, f43, f44, f45⟩ := f4 cp vs hdec
    have hs9 : qz_I g (T x) 9 = s := by rw [ha.2.1.I (by unfold nz_PP; rw [dz_beq_ne (fun e => by rw [e, t723] at tT; cases tT), dz_beq_ne (fun e => by rw [e, t724] at tT; cases tT)]; rfl)]; exact hs
    refine ez_go (n := 2) (pc' := 93) (L' := [(2, .inl (k)), (0, .inr (.inr (some (723)))), (1, .inr (.inr (some ((T x)))))]) (st' := [.inr (.inr (some ((T x)))), .inl (k)]) rfl ?_
    refine ez_gN ha.1 tT rfl rfl tq_3 rfl rfl (fun (t1 : qz_I g ((T x)) 3 = 0) => ?_) (fun (t1 : _ = 5) (t1' : 1 ≤ qz_I g ((T x)) 3) => ?_)
    · exfalso; omega
    · skip
      refine ez_al ha.1 t1 rfl tq_5 rfl (fun (b2 : 0 ≤ qz_N g (qz_P g ((T x)) 3)) (b2' : qz_N g (qz_P g ((T x)) 3) ≤ 18) => ?_)
      refine ez_icmp rfl rfl ⟨by first | omega | exact (sz_i32 _).1, by first | omega | exact (sz_i32 _).2⟩ ⟨by first | omega | exact (sz_i32 _).1, by first | omega | exact (sz_i32 _).2⟩ (fun (c3 : (qz_N g (qz_P g ((T x)) 3)) ≤ (k)) => ?_) (fun (c3 : ¬((qz_N g (qz_P g ((T x)) 3)) ≤ (k))) => ?_)
      · exfalso; omega
      · skip
        refine ez_go (n := 2) (pc' := 102) (L' := [(2, .inl (k)), (0, .inr (.inr (some (723)))), (1, .inr (.inr (some ((T x)))))]) (st' := [.inr (.inr (some ((T x)))), .inr (.inr (some (723)))]) rfl ?_
        refine ez_gN ha.1 tT rfl rfl tq_3 rfl rfl (fun (t4 : qz_I g ((T x)) 3 = 0) => ?_) (fun (t4 : _ = 5) (t4' : 1 ≤ qz_I g ((T x)) 3) => ?_)
        · exfalso; omega
        · skip
          refine ez_go (n := 1) (pc' := 106) (L' := [(2, .inl (k)), (0, .inr (.inr (some (723)))), (1, .inr (.inr (some ((T x)))))]) (st' := [.inl (k), .inr (.inr (some (qz_P g ((T x)) 3))), .inr (.inr (some (723)))]) rfl ?_
          have n6 : 0 ≤ qz_N g (qz_P g ((T x)) 3) ∧ qz_N g (qz_P g ((T x)) 3) ≤ 18 := ez_len ha.1 t4 tq_5 rfl
          refine ez_aI ha.1 t4 rfl tq_5 rfl rfl (by omega) (by omega) (fun (b5 : -2147483648 ≤ qz_I g (qz_P g ((T x)) 3) (k).toNat) (b5' : qz_I g (qz_P g ((T x)) 3) (k).toNat ≤ 2147483647) => ?_)
          have hlt : k.toNat < vs.length := by omega
          have hv2 := List.getElem?_eq_getElem hlt
          have hv : qz_I g (qz_P g ((T x)) 3) (k).toNat = vs[k.toNat] := f45 _ _ hv2
          have hmem : vs[k.toNat] ∈ vs := List.getElem_mem hlt
          obtain ⟨bv0, bv1⟩ := hwf _ hmem
          rw [hv]
          generalize vs[k.toNat] = v at *
          refine ez_go (n := 1) (pc' := 108) (L' := [(2, .inl (k)), (0, .inr (.inr (some (723)))), (1, .inr (.inr (some ((T x)))))]) (st' := [.inr (.inr (some ((T x)))), .inl (v), .inr (.inr (some (723)))]) rfl ?_
          refine ez_gI ha.1 tT rfl rfl tq_3 rfl rfl (fun (b7 : 0 ≤ qz_I g ((T x)) 9) (b7' : qz_I g ((T x)) 9 ≤ 20480) => ?_)
          refine ez_go (n := 1) (pc' := 112) (L' := [(2, .inl (k)), (0, .inr (.inr (some (723)))), (1, .inr (.inr (some ((T x)))))]) (st' := [.inl (0), .inl (qz_I g ((T x)) 9), .inl (v), .inr (.inr (some (723)))]) rfl ?_
          rw [hs9]
          refine ez_cv ha.1 t723 rfl rfl rfl tq_55 rfl rfl rfl (rd_poolFull0 hCg bv0 bv1 s0 s1 (by omega) (by omega) (dn_ap ((hC.2.2.2.2 v bv0 bv1).1) t723 t724 (hdn v hmem) ha) (fun g2 w1 w2 => ez_K1 ?_) (fun g2 l2 w1 w2 => ez_K1 ?_))
          · skip
            refine ez_if rfl rfl ⟨by decide, by decide⟩ (fun _ => ?_) (fun (c8 : ¬((1 : Int) ≠ (0))) => absurd c8 (by decide))
            refine ez_go (n := 2) (pc' := 91) (L' := [(2, .inl (k + 1)), (0, .inr (.inr (some (723)))), (1, .inr (.inr (some ((T x)))))]) (st' := []) rfl ?_
            refine ez_less [(2, .inl (k + 1)), (0, .inr (.inr (some (723)))), (1, .inr (.inr (some ((T x)))))] rfl ⟨rfl, rfl, rfl, trivial⟩ ?_
            refine ih (k + 1) g2 (by omega) (by omega) (by omega) ?_ ?_
            · rw [show (k + 1).toNat = k.toNat + 1 by omega, ct_take hv2, List.length_append]; omega
            · rw [show (k + 1).toNat = k.toNat + 1 by omega, ct_take hv2]; exact ha.trans w1
          · skip
            refine ez_if rfl rfl ⟨by decide, by decide⟩ (fun (c9 : (0 : Int) ≠ (0)) => absurd c9 (by decide)) (fun _ => ?_)
            refine ez_go (n := 1) (pc' := 119) (L' := [(2, .inl (k)), (0, .inr (.inr (some (723)))), (1, .inr (.inr (some ((T x)))))]) (st' := [.inl (0)]) rfl ?_
            refine ez_retZ rfl rfl (by decide) (kF g2 w1.1 (ha.trans w1) ?_)
            have := ct_len (f := f) vs (k.toNat + 1)
            rw [ct_take hv2, List.length_append] at this
            omega
end EzCl
/-! The class: close, all of it. (Written by wip/p2/py/pv30.py.) -/
theorem sg_one {g g2 : cz_H} {q r : Nat} {c : Bool} {l : List Int} (h : sg g q c l) (hf : ez_fr (ez_one r) g g2) (h1 : q ≠ r) (h2 : r ≠ 723) (h3 : r ≠ 724) : sg g2 q c l := by
  obtain ⟨a1, a2, a3, a4⟩ := h
  have f1 : ∀ j, qz_I g2 q j = qz_I g q j := fun j => hf.I (dz_beq_ne h1) j
  have f2 : ∀ j, qz_I g2 723 j = qz_I g 723 j := fun j => hf.I (dz_beq_ne (Ne.symm h2)) j
  have f3 : ∀ j, qz_I g2 724 j = qz_I g 724 j := fun j => hf.I (dz_beq_ne (Ne.symm h3)) j
  exact ⟨by rw [f1]; exact a1, by rw [f1]; exact a2, by rw [f1, f2]; exact a3, fun j v hj => by rw [f1, f3]; exact a4 j v hj⟩
theorem dn_one {T : Int → Nat} {F : rz_W} {g g2 : cz_H} {r : Nat} {c : Bool} {v : Int} {l : List Int} (h : dn g T F c v l) (hf : ez_fr (ez_one r) g g2) (h1 : ¬ hz v → (F v).2 ≠ none → T v ≠ r) (h2 : r ≠ 723) (h3 : r ≠ 724) : dn g2 T F c v l := by
  rcases h with h | h | ⟨a1, a2, a3⟩
  · exact Or.inl h
  · exact Or.inr (Or.inl h)
  · exact Or.inr (Or.inr ⟨a1, a2, sg_one a3 hf (h1 a1 a2) h2 h3⟩)
section EzCm
variable {d : Nat} {h : cz_H} {τ : Nat → Nat} {Q : cz_F → Prop} {T : Int → Nat} {F : rz_W} {E : Int → Prop}
theorem rd_close_c {x : Int} (hB : ez_B τ h) (t723 : τ 723 = 55) (tT : τ (T x) = 3) (hl : qz_I h (T x) 9 ≤ qz_I h 723 2) (k : ∀ g, ez_B τ g → ez_fr (ez_one (T x)) h g → qz_I g (T x) 10 = qz_I h 723 2 - qz_I h (T x) 9 → qz_I g (T x) 8 = 2 → (∀ j, j ≠ 10 → j ≠ 8 → qz_I g (T x) j = qz_I h (T x) j) → Q (.inl (some (ez_v (.inl 1))), g)) : ez_W (d + 3) cm_113 126 [(0, .inr (.inr (some (723)))), (1, .inr (.inr (some ((T x)))))] [] h Q := by
  refine ez_go (n := 2) (pc' := 128) (L' := [(0, .inr (.inr (some (723)))), (1, .inr (.inr (some ((T x)))))]) (st' := [.inr (.inr (some (723))), .inr (.inr (some ((T x))))]) rfl ?_
  refine ez_gI hB t723 rfl rfl tq_55 rfl rfl (fun (b1 : 0 ≤ qz_I h 723 2) (b1' : qz_I h 723 2 ≤ 20480) => ?_)
  refine ez_go (n := 1) (pc' := 132) (L' := [(0, .inr (.inr (some (723)))), (1, .inr (.inr (some ((T x)))))]) (st' := [.inr (.inr (some ((T x)))), .inl (qz_I h 723 2), .inr (.inr (some ((T x))))]) rfl ?_
  refine ez_gI hB tT rfl rfl tq_3 rfl rfl (fun (b2 : 0 ≤ qz_I h ((T x)) 9) (b2' : qz_I h ((T x)) 9 ≤ 20480) => ?_)
  refine ez_go (n := 1) (pc' := 136) (L' := [(0, .inr (.inr (some (723)))), (1, .inr (.inr (some ((T x)))))]) (st' := [.inl ((qz_I h 723 2) - (qz_I h ((T x)) 9)), .inr (.inr (some ((T x))))]) rfl ?_
  refine ez_pf hB tT rfl rfl tq_3 rfl rfl rfl rfl (ez_vdI rfl rfl (by omega) (by omega)) (fun hB3 w4 => ?_)
  refine ez_go (n := 2) (pc' := 141) (L' := [(0, .inr (.inr (some (723)))), (1, .inr (.inr (some ((T x)))))]) (st' := [.inl (2), .inr (.inr (some ((T x))))]) rfl ?_
  refine ez_pf hB3 tT rfl rfl tq_3 rfl rfl rfl rfl (ez_vdI rfl rfl (by omega) (by omega)) (fun hB5 w6 => ?_)
  refine ez_go (n := 1) (pc' := 145) (L' := [(0, .inr (.inr (some (723)))), (1, .inr (.inr (some ((T x)))))]) (st' := [.inl (1)]) rfl ?_
  exact ez_retZ rfl rfl (by decide) (k _ hB5 (((ez_fr.refl (ez_one (T x)) h).put (show Nat.beq (T x) (T x) = true from Nat.beq_refl _) _ _).put (show Nat.beq (T x) (T x) = true from Nat.beq_refl _) _ _) (by rw [ez_put_I (by omega), w4, rz_rd ⟨by omega, by omega⟩]) (by rw [w6]; rfl) (fun j j1 j2 => by rw [ez_put_I (by omega), ez_put_I (by omega)]))

theorem rd_close_b {x : Int} (hB : ez_B τ h) (t723 : τ 723 = 55) (t724 : τ 724 = 56) (tT : τ (T x) = 3) (x0 : 0 ≤ x) (x1 : x ≤ 1114111) (hx0 : qz_I h (T x) 0 = x) (hl : 0 ≤ qz_I h (T x) 11) (hl2 : qz_I h (T x) 11 ≤ qz_I h 723 2) (hu : qz_I h 723 2 ≤ 20440) (kA : qz_I h (T x) 4 ≠ 0 → ∀ g g2, ez_B τ g → ez_fr (ez_one (T x)) h g → qz_I g (T x) 12 = qz_I h 723 2 - qz_I h (T x) 11 → qz_I g (T x) 9 = qz_I h 723 2 → (∀ j, j ≠ 12 → j ≠ 9 → qz_I g (T x) j = qz_I h (T x) j) → ap τ g g2 [x] → ez_W (d + 3) cm_113 126 [(0, .inr (.inr (some (723)))), (1, .inr (.inr (some ((T x)))))] [] g2 Q) (kB : qz_I h (T x) 4 = 0 → ∀ g, ez_B τ g → ez_fr (ez_one (T x)) h g → qz_I g (T x) 12 = qz_I h 723 2 - qz_I h (T x) 11 → qz_I g (T x) 9 = qz_I h 723 2 → (∀ j, j ≠ 12 → j ≠ 9 → qz_I g (T x) j = qz_I h (T x) j) → ez_W (d + 3) cm_113 91 [(2, .inl (0)), (0, .inr (.inr (some (723)))), (1, .inr (.inr (some ((T x)))))] [] g Q) : ez_W (d + 3) cm_113 45 [(0, .inr (.inr (some (723)))), (1, .inr (.inr (some ((T x)))))] [] h Q := by
  refine ez_go (n := 2) (pc' := 47) (L' := [(0, .inr (.inr (some (723)))), (1, .inr (.inr (some ((T x)))))]) (st' := [.inr (.inr (some (723))), .inr (.inr (some ((T x))))]) rfl ?_
  refine ez_gI hB t723 rfl rfl tq_55 rfl rfl (fun (b1 : 0 ≤ qz_I h 723 2) (b1' : qz_I h 723 2 ≤ 20480) => ?_)
  refine ez_go (n := 1) (pc' := 51) (L' := [(0, .inr (.inr (some (723)))), (1, .inr (.inr (some ((T x)))))]) (st' := [.inr (.inr (some ((T x)))), .inl (qz_I h 723 2), .inr (.inr (some ((T x))))]) rfl ?_
  refine ez_gI hB tT rfl rfl tq_3 rfl rfl (fun (b2 : 0 ≤ qz_I h ((T x)) 11) (b2' : qz_I h ((T x)) 11 ≤ 20480) => ?_)
  refine ez_go (n := 1) (pc' := 55) (L' := [(0, .inr (.inr (some (723)))), (1, .inr (.inr (some ((T x)))))]) (st' := [.inl ((qz_I h 723 2) - (qz_I h ((T x)) 11)), .inr (.inr (some ((T x))))]) rfl ?_
  refine ez_pf hB tT rfl rfl tq_3 rfl rfl rfl rfl (ez_vdI rfl rfl (by omega) (by omega)) (fun hB3 w4 => ?_)
  refine ez_go (n := 2) (pc' := 60) (L' := [(0, .inr (.inr (some (723)))), (1, .inr (.inr (some ((T x)))))]) (st' := [.inr (.inr (some (723))), .inr (.inr (some ((T x))))]) rfl ?_
  refine ez_gI hB3 t723 rfl rfl tq_55 rfl rfl (fun (b5 : 0 ≤ qz_I (dz_put h ((T x)) 12 (ez_v (.inl ((qz_I h 723 2) - (qz_I h ((T x)) 11))))) 723 2) (b5' : qz_I (dz_put h ((T x)) 12 (ez_v (.inl ((qz_I h 723 2) - (qz_I h ((T x)) 11))))) 723 2 ≤ 20480) => ?_)
  refine ez_pf hB3 tT rfl rfl tq_3 rfl rfl rfl rfl (ez_vdI rfl rfl (by omega) (by omega)) (fun hB6 w7 => ?_)
  refine ez_go (n := 1) (pc' := 67) (L' := [(0, .inr (.inr (some (723)))), (1, .inr (.inr (some ((T x)))))]) (st' := [.inr (.inr (some ((T x))))]) rfl ?_
  refine ez_gI hB6 tT rfl rfl tq_3 rfl rfl (fun (b8 : 0 ≤ qz_I (dz_put (dz_put h ((T x)) 12 (ez_v (.inl ((qz_I h 723 2) - (qz_I h ((T x)) 11))))) ((T x)) 9 (ez_v (.inl (qz_I (dz_put h ((T x)) 12 (ez_v (.inl ((qz_I h 723 2) - (qz_I h ((T x)) 11))))) 723 2)))) ((T x)) 4) (b8' : qz_I (dz_put (dz_put h ((T x)) 12 (ez_v (.inl ((qz_I h 723 2) - (qz_I h ((T x)) 11))))) ((T x)) 9 (ez_v (.inl (qz_I (dz_put h ((T x)) 12 (ez_v (.inl ((qz_I h 723 2) - (qz_I h ((T x)) 11))))) 723 2)))) ((T x)) 4 ≤ 1) => ?_)
  have g9 : ez_fr (ez_one (T x)) h (dz_put (dz_put h ((T x)) 12 (ez_v (.inl ((qz_I h 723 2) - (qz_I h ((T x)) 11))))) ((T x)) 9 (ez_v (.inl (qz_I (dz_put h ((T x)) 12 (ez_v (.inl ((qz_I h 723 2) - (qz_I h ((T x)) 11))))) 723 2)))) := ((ez_fr.refl (ez_one (T x)) h).put (show Nat.beq (T x) (T x) = true from Nat.beq_refl _) _ _).put (show Nat.beq (T x) (T x) = true from Nat.beq_refl _) _ _
  have n723 : T x ≠ 723 := fun e => by rw [e, t723] at tT; cases tT
  have e12 : qz_I (dz_put (dz_put h ((T x)) 12 (ez_v (.inl ((qz_I h 723 2) - (qz_I h ((T x)) 11))))) ((T x)) 9 (ez_v (.inl (qz_I (dz_put h ((T x)) 12 (ez_v (.inl ((qz_I h 723 2) - (qz_I h ((T x)) 11))))) 723 2)))) (T x) 12 = qz_I h 723 2 - qz_I h (T x) 11 := by rw [ez_put_I (by omega), w4, rz_rd ⟨by omega, by omega⟩]
  have e9 : qz_I (dz_put (dz_put h ((T x)) 12 (ez_v (.inl ((qz_I h 723 2) - (qz_I h ((T x)) 11))))) ((T x)) 9 (ez_v (.inl (qz_I (dz_put h ((T x)) 12 (ez_v (.inl ((qz_I h 723 2) - (qz_I h ((T x)) 11))))) 723 2)))) (T x) 9 = qz_I h 723 2 := by rw [w7, rz_rd ⟨by omega, by omega⟩, ez_put_I (by omega)]
  have ej : ∀ j, j ≠ 12 → j ≠ 9 → qz_I (dz_put (dz_put h ((T x)) 12 (ez_v (.inl ((qz_I h 723 2) - (qz_I h ((T x)) 11))))) ((T x)) 9 (ez_v (.inl (qz_I (dz_put h ((T x)) 12 (ez_v (.inl ((qz_I h 723 2) - (qz_I h ((T x)) 11))))) 723 2)))) (T x) j = qz_I h (T x) j := fun j j1 j2 => by rw [ez_put_I (by omega), ez_put_I (by omega)]
  have eu : qz_I (dz_put (dz_put h ((T x)) 12 (ez_v (.inl ((qz_I h 723 2) - (qz_I h ((T x)) 11))))) ((T x)) 9 (ez_v (.inl (qz_I (dz_put h ((T x)) 12 (ez_v (.inl ((qz_I h 723 2) - (qz_I h ((T x)) 11))))) 723 2)))) 723 2 = qz_I h 723 2 := g9.I (dz_beq_ne (Ne.symm n723)) 2
  generalize (dz_put (dz_put h ((T x)) 12 (ez_v (.inl ((qz_I h 723 2) - (qz_I h ((T x)) 11))))) ((T x)) 9 (ez_v (.inl (qz_I (dz_put h ((T x)) 12 (ez_v (.inl ((qz_I h 723 2) - (qz_I h ((T x)) 11))))) 723 2)))) = g at *
  refine ez_if rfl rfl ⟨by first | omega | exact (sz_i32 _).1, by first | omega | exact (sz_i32 _).2⟩ (fun (c9 : (qz_I g (T x) 4) = (0)) => ?_) (fun (c9 : ¬((qz_I g (T x) 4) = (0))) => ?_)
  · skip
    refine ez_go (n := 2) (pc' := 91) (L' := [(2, .inl (0)), (0, .inr (.inr (some (723)))), (1, .inr (.inr (some ((T x)))))]) (st' := []) rfl ?_
    refine ez_less [(2, .inl (0)), (0, .inr (.inr (some (723)))), (1, .inr (.inr (some ((T x)))))] rfl ⟨rfl, rfl, rfl, trivial⟩ ?_
    exact kB (by rw [← ej 4 (by decide) (by decide)]; omega) g hB6 g9 e12 e9 ej
  · skip
    refine ez_go (n := 2) (pc' := 75) (L' := [(0, .inr (.inr (some (723)))), (1, .inr (.inr (some ((T x)))))]) (st' := [.inr (.inr (some ((T x)))), .inr (.inr (some (723)))]) rfl ?_
    refine ez_gI hB6 tT rfl rfl tq_3 rfl rfl (fun (b10 : -2147483648 ≤ qz_I g ((T x)) 0) (b10' : qz_I g ((T x)) 0 ≤ 2147483647) => ?_)
    refine ez_go (n := 1) (pc' := 79) (L' := [(0, .inr (.inr (some (723)))), (1, .inr (.inr (some ((T x)))))]) (st' := [.inr (.inr (some ((T x)))), .inl (qz_I g ((T x)) 0), .inr (.inr (some (723)))]) rfl ?_
    refine ez_gI hB6 tT rfl rfl tq_3 rfl rfl (fun (b11 : 0 ≤ qz_I g ((T x)) 9) (b11' : qz_I g ((T x)) 9 ≤ 20480) => ?_)
    have fst : qz_I g (T x) 0 = x := by rw [ej 0 (by decide) (by decide)]; exact hx0
    rw [fst, e9]
    refine ez_cv hB6 t723 rfl rfl rfl tq_55 rfl rfl rfl (rd_poolPoint hB6 t723 (by omega) (by omega) (by omega) (by omega) (by omega) (by omega) (fun w => by omega) (fun w g2 ha => ez_K1 ?_))
    refine ez_go (n := 2) (pc' := 126) (L' := [(0, .inr (.inr (some (723)))), (1, .inr (.inr (some ((T x)))))]) (st' := []) rfl ?_
    refine ez_less [(0, .inr (.inr (some (723)))), (1, .inr (.inr (some ((T x)))))] rfl ⟨rfl, rfl, trivial⟩ ?_
    exact kA (by rw [← ej 4 (by decide) (by decide)]; omega) g g2 hB6 g9 e12 e9 ej ha

theorem rd_close_a {x : Int} (hB : ez_B τ h) (t723 : τ 723 = 55) (tT : τ (T x) = 3) (k : ∀ g, ez_B τ g → ez_fr (ez_one (T x)) h g → qz_I g (T x) 11 = qz_I h 723 2 → (∀ j, j ≠ 11 → qz_I g (T x) j = qz_I h (T x) j) → ez_W (d + 3) cm_113 10 [(2, .inl (0)), (0, .inr (.inr (some (723)))), (1, .inr (.inr (some ((T x)))))] [] g Q) : ez_W (d + 3) cm_113 0 [(0, .inr (.inr (some (723)))), (1, .inr (.inr (some ((T x)))))] [] h Q := by
  refine ez_go (n := 2) (pc' := 2) (L' := [(0, .inr (.inr (some (723)))), (1, .inr (.inr (some ((T x)))))]) (st' := [.inr (.inr (some (723))), .inr (.inr (some ((T x))))]) rfl ?_
  refine ez_gI hB t723 rfl rfl tq_55 rfl rfl (fun (b1 : 0 ≤ qz_I h 723 2) (b1' : qz_I h 723 2 ≤ 20480) => ?_)
  refine ez_pf hB tT rfl rfl tq_3 rfl rfl rfl rfl (ez_vdI rfl rfl (by omega) (by omega)) (fun hB2 w3 => ?_)
  refine ez_go (n := 2) (pc' := 10) (L' := [(2, .inl (0)), (0, .inr (.inr (some (723)))), (1, .inr (.inr (some ((T x)))))]) (st' := []) rfl ?_
  refine ez_less [(2, .inl (0)), (0, .inr (.inr (some (723)))), (1, .inr (.inr (some ((T x)))))] rfl ⟨rfl, rfl, rfl, trivial⟩ ?_
  exact k _ hB2 ((ez_fr.refl (ez_one (T x)) h).put (show Nat.beq (T x) (T x) = true from Nat.beq_refl _) _ _) (by rw [w3, rz_rd ⟨by omega, by omega⟩]) (fun j hj => ez_put_I (fun w => hj w.2))

theorem pz_one {r : Nat} {g : cz_H} (tr : τ r = 3) (hf : ez_fr (ez_one r) h g) (h8 : ∀ j, j < 8 → qz_I g r j = qz_I h r j) : pz τ h g :=
  ⟨⟨hf.1, hf.2.1⟩, fun q q1 _ => hf.2.2 q (dz_beq_ne (fun e => by rw [e] at q1; exact q1 tr)), fun q _ j j8 => by
    by_cases e : q = r
    · rw [e]; exact h8 j j8
    · exact hf.I (dz_beq_ne e) j⟩
/-- the pool up to what is used -/
def pl_same (h g : cz_H) : Prop := ∀ j : Int, 0 ≤ j → j < qz_I h 723 2 → qz_I g 724 j.toNat = qz_I h 724 j.toNat
theorem pl_ap {g g2 : cz_H} {l : List Int} (x : ap τ g g2 l) : pl_same g g2 := fun j j0 j1 => by rw [x.2.2.2.2 j j0, if_neg (by omega)]
theorem nz_PR_one {r : Nat} {g : cz_H} (hf : ez_fr (ez_one r) h g) : ez_fr (nz_PR r) h g := ⟨hf.1, hf.2.1, fun q hq => hf.2.2 q (by unfold nz_PR at hq; exact (Bool.or_eq_false_iff.mp hq).1)⟩
theorem rd_close {x cp : Int} {vs l2 : List Int} {f1 f2 : Int → List Int} (hC : pz_C τ h T F E) (x0 : 0 ≤ x) (x1 : x ≤ 1114111) (hdec : (F x).2 = some (cp, vs)) (hwf : ∀ v ∈ vs, 0 ≤ v ∧ v ≤ 1114111) (hcp : cp = 0 ∨ cp = 1) (hu : qz_I h 723 2 ≤ 20400) (hd1 : ∀ v ∈ vs, dn h T F true v (f1 v)) (hd2 : ∀ v ∈ vs, dn h T F false v (f2 v)) (hne : ∀ v ∈ vs, ¬ hz v → (F v).2 ≠ none → T v ≠ T x) (hl2 : l2 = if cp = 1 then [x] else ct f2 vs) (k1 : ∀ g, ez_B τ g → ez_fr (nz_PR (T x)) h g → (∀ j, j < 8 → qz_I g (T x) j = qz_I h (T x) j) → (∀ j, j ≠ 2 → qz_I g 723 j = qz_I h 723 j) → pl_same h g → qz_I g 723 2 = qz_I h 723 2 + ((ct f1 vs).length : Int) + (l2.length : Int) → sg g (T x) true (ct f1 vs) → sg g (T x) false l2 → qz_I g (T x) 8 = 2 → (ct f1 vs).length ≤ 40 → l2.length ≤ 40 → Q (.inl (some (ez_v (.inl 1))), g)) (k0 : 40 < (ct f1 vs).length ∨ (cp = 0 ∧ 40 < l2.length) → ∀ g, ez_B τ g → pz τ h g → Q (.inl (some (ez_v (.inl 0))), g)) : ez_W (d + 3) cm_113 0 [(0, .inr (.inr (some (723)))), (1, .inr (.inr (some ((T x)))))] [] h Q := by
  have t723 : τ 723 = 55 := hC.2.1 723 (by decide)
  have t724 : τ 724 = 56 := hC.2.1 724 (by decide)
  obtain ⟨tT, -, -, f4⟩ := hC.2.2.2.2 x x0 x1
  obtain ⟨q0, q4, -⟩ := f4 cp vs hdec
  have n723 : T x ≠ 723 := fun e => by rw [e, t723] at tT; cases tT
  have n724 : T x ≠ 724 := fun e => by rw [e, t724] at tT; cases tT
  have b2 : 0 ≤ qz_I h 723 2 ∧ qz_I h 723 2 ≤ 20480 := ez_fB (cl := 6) hC.1 t723 tq_55 rfl rfl (by decide)
  refine rd_close_a hC.1 t723 tT (fun ga hBa fa ea ja => ?_)
  have ua : qz_I ga 723 2 = qz_I h 723 2 := fa.I (dz_beq_ne (Ne.symm n723)) 2
  have pza : pz τ h ga := pz_one tT fa (fun j j8 => ja j (by omega))
  have hCa := hC.fr hBa pza
  have ppq : nz_PP (T x) = false := by unfold nz_PP; rw [dz_beq_ne n723, dz_beq_ne n724]; rfl
  refine rd_close_l1 hCa x0 x1 hdec hwf (s := qz_I h 723 2) (f := f1) (by omega) (by omega) (by omega) ea (fun v hv => dn_one (hd1 v hv) fa (hne v hv) n723 n724) (fun g l2 hBg hap hlt => ?_) (fun gb apb hb => ?_) _ 0 ga rfl (by omega) (by omega) (by show qz_I ga 723 2 + (((ct f1 ([] : List Int)).length : Nat) : Int) ≤ _; simp only [ct, List.length_nil]; omega) (by show ap τ ga ga (ct f1 (vs.take 0)); rw [List.take_zero]; exact ap.nil hBa)
  · exact k0 (Or.inl (by omega)) g hBg (pza.trans (hap.pz hC.2.1))
  have hCb := hCa.fr apb.1 (apb.pz hC.2.1)
  have ub := apb.2.2.2.1
  have jb : ∀ j, qz_I gb (T x) j = qz_I ga (T x) j := fun j => apb.2.1.I ppq j
  have pzb : pz τ h gb := pza.trans (apb.pz hC.2.1)
  have frb : ez_fr (nz_PR (T x)) h gb := (nz_PR_one fa).trans (nz_PR_ap apb)
  have plb : pl_same h gb := fun j j0 j1 => by rw [pl_ap apb j j0 (by omega)]; exact fa.I (dz_beq_ne (Ne.symm n724)) _
  refine rd_close_b hCb.1 t723 t724 tT x0 x1 (by rw [jb, ja 0 (by decide)]; exact q0) (by rw [jb, ea]; omega) (by rw [jb, ea]; omega) (by omega) (fun hc4 gc gd hBc fc e12 e9 jc apd => ?_) (fun hc4 gc hBc fc e12 e9 jc => ?_)
  · have hc1 : cp = 1 := by rw [jb, ja 4 (by decide), q4] at hc4; omega
    rw [if_pos hc1] at hl2
    have uc : qz_I gc 723 2 = qz_I gb 723 2 := fc.I (dz_beq_ne (Ne.symm n723)) 2
    have ud := apd.2.2.2.1
    have jd : ∀ j, qz_I gd (T x) j = qz_I gc (T x) j := fun j => apd.2.1.I ppq j
    refine rd_close_c apd.1 t723 tT (by rw [jd, e9]; omega) (fun g hBg fg e10 e8 jg => ?_)
    have ug : qz_I g 723 2 = qz_I gd 723 2 := fg.I (dz_beq_ne (Ne.symm n723)) 2
    have pg : ∀ j, qz_I g 724 j = qz_I gd 724 j := fun j => fg.I (dz_beq_ne (Ne.symm n724)) j
    have pc : ∀ j, qz_I gc 724 j = qz_I gb 724 j := fun j => fc.I (dz_beq_ne (Ne.symm n724)) j
    refine k1 g hBg (((frb.trans (nz_PR_one fc)).trans (nz_PR_ap apd)).trans (nz_PR_one fg)) (fun j j8 => by rw [jg j (by omega) (by omega), jd, jc j (by omega) (by omega), jb, ja j (by omega)]) (fun j hj => by rw [fg.I (dz_beq_ne (Ne.symm n723)) j, apd.2.2.1 j hj, fc.I (dz_beq_ne (Ne.symm n723)) j, apb.2.2.1 j hj, fa.I (dz_beq_ne (Ne.symm n723)) j]) (fun j j0 j1 => by rw [pg, pl_ap apd j j0 (by omega), pc, plb j j0 j1]) (by rw [ug, ud, uc, ub, ua, hl2]) ⟨?_, ?_, ?_, ?_⟩ ⟨?_, ?_, ?_, ?_⟩ e8 (by omega) (by rw [hl2]; simp only [List.length_singleton]; omega)
    · show qz_I g (T x) 12 = _; rw [jg 12 (by decide) (by decide), jd, e12, jb, ea]; omega
    · show 0 ≤ qz_I g (T x) 11; rw [jg 11 (by decide) (by decide), jd, jc 11 (by decide) (by decide), jb, ea]; omega
    · show qz_I g (T x) 11 + _ ≤ _; rw [jg 11 (by decide) (by decide), jd, jc 11 (by decide) (by decide), jb, ea, ug, ud, uc, ub]; omega
    · intro j v hj
      have hjl := (List.getElem?_eq_some_iff.mp hj).1
      show qz_I g 724 (qz_I g (T x) 11 + (j : Int)).toNat = v
      rw [jg 11 (by decide) (by decide), jd, jc 11 (by decide) (by decide), jb, ea, pg, pl_ap apd _ (by omega) (by omega), pc, apb.2.2.2.2 _ (by omega), if_pos (by omega), ua, show (qz_I h 723 2 + (j : Int) - qz_I h 723 2).toNat = j by omega, List.getD_eq_getElem?_getD, hj]
      rfl
    · show qz_I g (T x) 10 = _; rw [e10, jd, e9, ud, uc, hl2]; omega
    · show 0 ≤ qz_I g (T x) 9; rw [jg 9 (by decide) (by decide), jd, e9]; omega
    · show qz_I g (T x) 9 + _ ≤ _; rw [jg 9 (by decide) (by decide), jd, e9, ug, ud, uc, hl2]; omega
    · intro j v hj
      rw [hl2] at hj
      have hjl := (List.getElem?_eq_some_iff.mp hj).1
      show qz_I g 724 (qz_I g (T x) 9 + (j : Int)).toNat = v
      rw [jg 9 (by decide) (by decide), jd, e9, pg, apd.2.2.2.2 _ (by omega), if_pos (by omega), uc, show (qz_I gb 723 2 + (j : Int) - qz_I gb 723 2).toNat = j by omega, List.getD_eq_getElem?_getD, hj]
      rfl
  · have hc0 : cp = 0 := by rw [jb, ja 4 (by decide), q4] at hc4; omega
    rw [if_neg (by omega)] at hl2
    have uc : qz_I gc 723 2 = qz_I gb 723 2 := fc.I (dz_beq_ne (Ne.symm n723)) 2
    have pzc : pz τ gb gc := pz_one tT fc (fun j j8 => jc j (by omega) (by omega))
    have hCc := hCb.fr hBc pzc
    refine rd_close_l0 hCc x0 x1 hdec hwf (s := qz_I gb 723 2) (f := f2) (by omega) (by omega) (by omega) e9 (fun v hv => dn_one (dn_ap (hC.2.2.2.2 v (hwf v hv).1 (hwf v hv).2).1 t723 t724 (dn_one (hd2 v hv) fa (hne v hv) n723 n724) apb) fc (hne v hv) n723 n724) (fun g l2' hBg hap hlt => ?_) (fun gd apd hdl => ?_) _ 0 gc rfl (by omega) (by omega) (by show qz_I gc 723 2 + (((ct f2 ([] : List Int)).length : Nat) : Int) ≤ _; simp only [ct, List.length_nil]; omega) (by show ap τ gc gc (ct f2 (vs.take 0)); rw [List.take_zero]; exact ap.nil hBc)
    · exact k0 (Or.inr ⟨hc0, by rw [hl2]; omega⟩) g hBg ((pzb.trans pzc).trans (hap.pz hC.2.1))
    have ud := apd.2.2.2.1
    have jd : ∀ j, qz_I gd (T x) j = qz_I gc (T x) j := fun j => apd.2.1.I ppq j
    refine rd_close_c apd.1 t723 tT (by rw [jd, e9]; omega) (fun g hBg fg e10 e8 jg => ?_)
    have ug : qz_I g 723 2 = qz_I gd 723 2 := fg.I (dz_beq_ne (Ne.symm n723)) 2
    have pg : ∀ j, qz_I g 724 j = qz_I gd 724 j := fun j => fg.I (dz_beq_ne (Ne.symm n724)) j
    have pc : ∀ j, qz_I gc 724 j = qz_I gb 724 j := fun j => fc.I (dz_beq_ne (Ne.symm n724)) j
    refine k1 g hBg (((frb.trans (nz_PR_one fc)).trans (nz_PR_ap apd)).trans (nz_PR_one fg)) (fun j j8 => by rw [jg j (by omega) (by omega), jd, jc j (by omega) (by omega), jb, ja j (by omega)]) (fun j hj => by rw [fg.I (dz_beq_ne (Ne.symm n723)) j, apd.2.2.1 j hj, fc.I (dz_beq_ne (Ne.symm n723)) j, apb.2.2.1 j hj, fa.I (dz_beq_ne (Ne.symm n723)) j]) (fun j j0 j1 => by rw [pg, pl_ap apd j j0 (by omega), pc, plb j j0 j1]) (by rw [ug, ud, uc, ub, ua, hl2]) ⟨?_, ?_, ?_, ?_⟩ ⟨?_, ?_, ?_, ?_⟩ e8 (by omega) (by rw [hl2]; omega)
    · show qz_I g (T x) 12 = _; rw [jg 12 (by decide) (by decide), jd, e12, jb, ea]; omega
    · show 0 ≤ qz_I g (T x) 11; rw [jg 11 (by decide) (by decide), jd, jc 11 (by decide) (by decide), jb, ea]; omega
    · show qz_I g (T x) 11 + _ ≤ _; rw [jg 11 (by decide) (by decide), jd, jc 11 (by decide) (by decide), jb, ea, ug, ud, uc, ub]; omega
    · intro j v hj
      have hjl := (List.getElem?_eq_some_iff.mp hj).1
      show qz_I g 724 (qz_I g (T x) 11 + (j : Int)).toNat = v
      rw [jg 11 (by decide) (by decide), jd, jc 11 (by decide) (by decide), jb, ea, pg, pl_ap apd _ (by omega) (by omega), pc, apb.2.2.2.2 _ (by omega), if_pos (by omega), ua, show (qz_I h 723 2 + (j : Int) - qz_I h 723 2).toNat = j by omega, List.getD_eq_getElem?_getD, hj]
      rfl
    · show qz_I g (T x) 10 = _; rw [e10, jd, e9, ud, uc, hl2]; omega
    · show 0 ≤ qz_I g (T x) 9; rw [jg 9 (by decide) (by decide), jd, e9]; omega
    · show qz_I g (T x) 9 + _ ≤ _; rw [jg 9 (by decide) (by decide), jd, e9, ug, ud, uc, hl2]; omega
    · intro j v hj
      rw [hl2] at hj
      have hjl := (List.getElem?_eq_some_iff.mp hj).1
      show qz_I g 724 (qz_I g (T x) 9 + (j : Int)).toNat = v
      rw [jg 9 (by decide) (by decide), jd, e9, pg, apd.2.2.2.2 _ (by omega), if_pos (by omega), uc, show (qz_I gb 723 2 + (j : Int) - qz_I gb 723 2).toNat = j by omega, List.getD_eq_getElem?_getD, hj]
      rfl
end EzCm
