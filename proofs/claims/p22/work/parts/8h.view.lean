/-! What DATA say of each point: class and decomposition, exclusion. -/
/-- a LINE's fields -/
def rz_ff (b : Int → Int) (A : List (Int × Int)) (k : Int) : Int := rz_tl b (A.getD k.toNat (0, 0))
def rz_tt (b : Int → Int) (A : List (Int × Int)) (k : Int) : Int := rz_tr b (A.getD k.toNat (0, 0))
theorem rz_tl_tr (b : Int → Int) (p : Int × Int) (h : p.1 ≤ p.2) : p.1 ≤ rz_tl b p ∧ rz_tl b p ≤ rz_tr b p ∧ rz_tr b p ≤ p.2 := by
  have h1 := rz_skip_le b (p.2 - p.1).toNat p.1
  have e1 : rz_tl b p = rz_skip b (p.2 - p.1).toNat p.1 := rfl
  rw [← e1] at h1
  have h2 := rz_back_le b (p.2 - rz_tl b p).toNat p.2
  have e2 : rz_tr b p = rz_back b (p.2 - rz_tl b p).toNat p.2 := rfl
  rw [← e2] at h2
  omega
theorem rz_seg_le (b : Int → Int) : ∀ (n : Nat) (i s : Int), s ≤ i → ∀ p ∈ rz_seg b n i s, s ≤ p.1 ∧ p.1 ≤ p.2 ∧ p.2 ≤ i + n
  | 0, i, s, hs, p, hp => by
    unfold rz_seg at hp
    rw [List.mem_singleton] at hp
    subst hp
    exact ⟨Int.le_refl _, hs, by omega⟩
  | n + 1, i, s, hs, p, hp => by
    unfold rz_seg at hp
    split at hp
    · rcases List.mem_cons.mp hp with rfl | hp
      · exact ⟨Int.le_refl _, hs, by show i ≤ _; omega⟩
      · have := rz_seg_le b n (i + 1) (i + 1) (by omega) p hp
        omega
    · have := rz_seg_le b n (i + 1) s (by omega) p hp
      omega
/-- fields where they are known -/
theorem rz_flds_at {b : Int → Int} {h : cz_H} {A : List (Int × Int)} (hA : rz_flds b h A) {k : Int} (k0 : 0 ≤ k) (k1 : k < (A.length : Int)) : rz_f h k = rz_ff b A k ∧ rz_t h k = rz_tt b A k := by
  have hk : k.toNat < A.length := by omega
  have e : A[k.toNat]? = some (A.getD k.toNat (0, 0)) := by
    rw [List.getD_eq_getElem?_getD, List.getElem?_eq_getElem hk]
    rfl
  have := hA k.toNat _ e
  rw [Int.toNat_of_nonneg k0] at this
  exact this
theorem rz_F_congr {b f t f' t' : Int → Int} {first last cls : Int} {dec : Option (Int × List Int)} (hf : ∀ k, 0 ≤ k → k ≤ 6 → f k = f' k) (ht : ∀ k, 0 ≤ k → k ≤ 6 → t k = t' k) (h : rz_F b f t first last cls dec) : rz_F b f' t' first last cls dec := by
  unfold rz_F at *
  rw [← hf 0 (by omega) (by omega), ← hf 1 (by omega) (by omega), ← hf 2 (by omega) (by omega), ← hf 3 (by omega) (by omega), ← ht 0 (by omega) (by omega), ← ht 1 (by omega) (by omega), ← ht 2 (by omega) (by omega), ← ht 3 (by omega) (by omega)]
  refine ⟨h.1, h.2.1, h.2.2.1, h.2.2.2.1, fun k k4 k6 => ?_, fun w k k3 k6 => ?_⟩
  · rw [← hf k (by omega) k6, ← ht k (by omega) k6]; exact h.2.2.2.2.1 k k4 k6
  · rw [← hf k (by omega) k6, ← ht k (by omega) k6]; exact h.2.2.2.2.2 w k k3 k6
/-- a tape of n bytes is a LINE with w fields, these -/
def rz_A (b : Int → Int) (n : Int) (w : Nat) (A : List (Int × Int)) : Prop := ∃ c, rz_plain b n ∧ rz_hash b n c ∧ A = rz_seg b c.toNat 0 0 ∧ A.length = w
theorem rz_A_uniq {b : Int → Int} {n : Int} {w : Nat} {A A' : List (Int × Int)} (h : rz_A b n w A) (h' : rz_A b n w A') : A = A' := by
  obtain ⟨c, -, h2, h3, -⟩ := h
  obtain ⟨c', -, h2', h3', -⟩ := h'
  rw [h3, h3', rz_hash_uniq h2 h2']
theorem rz_A_pos {b : Int → Int} {n : Int} {w : Nat} {A : List (Int × Int)} (hw : 2 ≤ w) (h : rz_A b n w A) : 0 < n := by
  obtain ⟨c, -, h2, h3, h4⟩ := h
  by_cases e : c = 0
  · subst e
    rw [h3] at h4
    unfold rz_seg at h4
    simp at h4
    omega
  · have := h2.1
    have := h2.2.1
    omega
/-- a LINE 0 -/
def rz_L0 (b : Int → Int) (n first last cls : Int) (dec : Option (Int × List Int)) : Prop := ∃ A, rz_A b n 7 A ∧ rz_F b (rz_ff b A) (rz_tt b A) first last cls dec
/-- a LINE 3 that names Composition_Exclusion -/
def rz_L3 (b : Int → Int) (n first last : Int) : Prop := ∃ A, rz_A b n 2 A ∧ (first = rz_first b (rz_ff b A 0) (rz_tt b A 0) ∧ last = rz_last b (rz_ff b A 0) (rz_tt b A 0) ∧ first ≠ -1 ∧ first ≤ last) ∧ rz_CE b (rz_ff b A 1) (rz_tt b A 1)
theorem rz_F_uniq {b f t : Int → Int} {first last cls first' last' cls' : Int} {dec dec' : Option (Int × List Int)} (h : rz_F b f t first last cls dec) (h' : rz_F b f t first' last' cls' dec') : first = first' ∧ last = last' ∧ cls = cls' ∧ dec = dec' := by
  refine ⟨h.1.1.trans h'.1.1.symm, h.1.2.1.trans h'.1.2.1.symm, h.2.2.1.2.2.trans h'.2.2.1.2.2.symm, ?_⟩
  rcases h.2.2.2.1 with ⟨a1, a2⟩ | ⟨a1, cp, bg, vs, a2, a3, a4⟩
  · rcases h'.2.2.2.1 with ⟨b1, b2⟩ | ⟨b1, -⟩
    · rw [a2, b2]
    · exact absurd a1 b1
  · rcases h'.2.2.2.1 with ⟨b1, b2⟩ | ⟨b1, cp', bg', vs', b2, b3, b4⟩
    · exact absurd b1 a1
    · rw [a2] at b2; cases b2
      rw [a3] at b3; cases b3
      rw [a4, b4]
theorem rz_L0_uniq {b : Int → Int} {n first last cls first' last' cls' : Int} {dec dec' : Option (Int × List Int)} (h : rz_L0 b n first last cls dec) (h' : rz_L0 b n first' last' cls' dec') : first = first' ∧ last = last' ∧ cls = cls' ∧ dec = dec' := by
  obtain ⟨A, a1, a2⟩ := h
  obtain ⟨A', b1, b2⟩ := h'
  rw [← rz_A_uniq a1 b1] at b2
  exact rz_F_uniq a2 b2
theorem rz_L3_uniq {b : Int → Int} {n first last first' last' : Int} (h : rz_L3 b n first last) (h' : rz_L3 b n first' last') : first = first' ∧ last = last' := by
  obtain ⟨A, a1, a2, -⟩ := h
  obtain ⟨A', b1, b2, -⟩ := h'
  rw [← rz_A_uniq a1 b1] at b2
  exact ⟨a2.1.trans b2.1.symm, a2.2.1.trans b2.2.1.symm⟩
/-- what is told of each point: class and decomposition; Composition_Exclusion -/
abbrev rz_W : Type := Int → Int × Option (Int × List Int)
/-- what a LINE does to it -/
def rz_step (b : Int → Int) (n kind : Int) (F : rz_W) (E : Int → Prop) (F' : rz_W) (E' : Int → Prop) : Prop :=
  (kind = 0 → ((∃ first last cls dec, rz_L0 b n first last cls dec ∧ (∀ x, F' x = if first ≤ x ∧ x ≤ last then (cls, dec) else F x) ∧ E' = E) ∨ ((¬ ∃ first last cls dec, rz_L0 b n first last cls dec) ∧ F' = F ∧ E' = E))) ∧
  (kind = 3 → ((∃ first last, rz_L3 b n first last ∧ F' = F ∧ (∀ x, E' x ↔ (E x ∨ (first ≤ x ∧ x ≤ last)))) ∨ ((¬ ∃ first last, rz_L3 b n first last) ∧ F' = F ∧ E' = E))) ∧
  (kind ≠ 0 → kind ≠ 3 → F' = F ∧ E' = E)
theorem rz_step_uniq {b : Int → Int} {n kind : Int} {F F1 F2 : rz_W} {E E1 E2 : Int → Prop} (h1 : rz_step b n kind F E F1 E1) (h2 : rz_step b n kind F E F2 E2) : F1 = F2 ∧ E1 = E2 := by
  by_cases k0 : kind = 0
  · rcases h1.1 k0 with ⟨f, l, c, dd, a1, a2, a3⟩ | ⟨a1, a2, a3⟩
    · rcases h2.1 k0 with ⟨f', l', c', d', b1, b2, b3⟩ | ⟨b1, -⟩
      · obtain ⟨rfl, rfl, rfl, rfl⟩ := rz_L0_uniq a1 b1
        exact ⟨funext fun x => (a2 x).trans (b2 x).symm, a3.trans b3.symm⟩
      · exact absurd ⟨f, l, c, dd, a1⟩ b1
    · rcases h2.1 k0 with ⟨f', l', c', d', b1, -⟩ | ⟨b1, b2, b3⟩
      · exact absurd ⟨f', l', c', d', b1⟩ a1
      · exact ⟨a2.trans b2.symm, a3.trans b3.symm⟩
  · by_cases k3 : kind = 3
    · rcases h1.2.1 k3 with ⟨f, l, a1, a2, a3⟩ | ⟨a1, a2, a3⟩
      · rcases h2.2.1 k3 with ⟨f', l', b1, b2, b3⟩ | ⟨b1, -⟩
        · obtain ⟨rfl, rfl⟩ := rz_L3_uniq a1 b1
          exact ⟨a2.trans b2.symm, funext fun x => propext ((a3 x).trans (b3 x).symm)⟩
        · exact absurd ⟨f, l, a1⟩ b1
      · rcases h2.2.1 k3 with ⟨f', l', b1, -⟩ | ⟨b1, b2, b3⟩
        · exact absurd ⟨f', l', b1⟩ a1
        · exact ⟨a2.trans b2.symm, a3.trans b3.symm⟩
    · obtain ⟨a1, a2⟩ := h1.2.2 k0 k3
      obtain ⟨b1, b2⟩ := h2.2.2 k0 k3
      exact ⟨a1.trans b1.symm, a2.trans b2.symm⟩
/-- DATA's view -/
def sz_fp (h : cz_H) (k : Int) : Nat := qz_P h (sz_p h k) 1
def sz_D (τ : Nat → Nat) (h : cz_H) (F : rz_W) (E : Int → Prop) : Prop := ∀ x k, 0 ≤ x → x ≤ 1114111 → sz_at h x k → (qz_I h (sz_fp h k) 2 = (F x).1 ∧ rz_D τ h (sz_fp h k) (F x).2 ∧ ((F x).2 ≠ none → qz_I h (sz_fp h k) 0 = x)) ∧ (sz_t0 (qz_I h (sz_p h k) 2) ↔ E x)
theorem sz_fp_t {τ : Nat → Nat} {h : cz_H} (hB : ez_B τ h) (t202 : τ 202 = 48) (t203 : τ 203 = 49) {x k : Int} (hk : sz_at h x k) : τ (sz_p h k) = 4 ∧ τ (sz_fp h k) = 3 ∧ qz_I h (sz_p h k) 1 = (sz_fp h k : Int) + 1 := by
  have bn := sz_R_n1 hB t202
  have k1 := hk.2.1
  have t4 := sz_tag hB t203 hk.1 (show k < 513 by omega)
  have b1 : 1 ≤ qz_I h (sz_p h k) 1 ∧ qz_I h (sz_p h k) 1 ≤ 1000000 := ez_fB (cl := 4) hB t4 tq_4 rfl rfl (by decide)
  have e : qz_I h (sz_p h k) 1 = (sz_fp h k : Int) + 1 := by unfold sz_fp qz_P; omega
  exact ⟨t4, (ez_old (cl := 4) hB t4 tq_4 rfl rfl (by decide) e).1, e⟩
/-- a Fact's view where its cells are the same -/
theorem rz_D_tr {τ τ1 : Nat → Nat} {h g : cz_H} {r : Nat} {dec : Option (Int × List Int)} (hD : rz_D τ h r dec) (e3 : qz_I g r 3 = qz_I h r 3) (e4 : qz_I g r 4 = qz_I h r 4) (ep : ∀ p, τ p = 5 → τ1 p = 5 ∧ g.2.2 p = h.2.2 p) : rz_D τ1 g r dec := by
  match dec with
  | none => exact e3.trans hD
  | some (cp, vs) =>
    obtain ⟨p, p1, p2, p3, p4, p5⟩ := hD
    obtain ⟨q1, q2⟩ := ep p p1
    exact ⟨p, q1, e3.trans p2, e4.trans p3, by unfold qz_N; rw [q2]; exact p4, fun j v hj => by unfold qz_I; rw [q2]; exact p5 j v hj⟩
/-- the view where nothing of it changes -/
theorem sz_D_tr {τ τ1 : Nat → Nat} {h g : cz_H} {F : rz_W} {E : Int → Prop} (hB : ez_B τ h) (t202 : τ 202 = 48) (t203 : τ 203 = 49) (hD : sz_D τ h F E) (e2 : qz_I g 202 1 = qz_I h 202 1) (e3 : g.2.2 203 = h.2.2 203) (e4 : ∀ q, τ q = 4 → g.2.2 q = h.2.2 q) (ef : ∀ q, τ q = 3 → qz_I g q 0 = qz_I h q 0 ∧ qz_I g q 2 = qz_I h q 2 ∧ qz_I g q 3 = qz_I h q 3 ∧ qz_I g q 4 = qz_I h q 4) (ep : ∀ p, τ p = 5 → τ1 p = 5 ∧ g.2.2 p = h.2.2 p) : sz_D τ1 g F E := by
  have bn := sz_R_n1 hB t202
  have hp : ∀ k, sz_p g k = sz_p h k := fun k => by unfold sz_p qz_P qz_I; rw [e3]
  have hs : ∀ k, 0 ≤ k → k < 513 → ∀ j, qz_I g (sz_p g k) j = qz_I h (sz_p h k) j := fun k k0 k1 j => by
    rw [hp]
    unfold qz_I
    rw [e4 _ (sz_tag hB t203 k0 k1)]
  intro x k x0 x1 hk
  have k0 := hk.1
  have k1 := hk.2.1
  have hk' : sz_at h x k := by
    obtain ⟨c0, c1, c2, c3⟩ := hk
    rw [e2] at c1 c3
    unfold sz_f at c2 c3
    refine ⟨c0, c1, ?_, fun w => ?_⟩
    · unfold sz_f; rw [← hs k c0 (by omega)]; exact c2
    · unfold sz_f; rw [← hs (k + 1) (by omega) (by omega)]; exact c3 w
  rw [e2] at k1
  obtain ⟨⟨d1, d2, d3⟩, d4⟩ := hD x k x0 x1 hk'
  obtain ⟨-, t3, -⟩ := sz_fp_t hB t202 t203 hk'
  have hfp : sz_fp g k = sz_fp h k := by unfold sz_fp qz_P; rw [hs k k0 (by omega)]
  obtain ⟨f0, f2, f3, f4⟩ := ef _ t3
  refine ⟨⟨?_, ?_, fun w => ?_⟩, ?_⟩
  · rw [hfp, f2]; exact d1
  · rw [hfp]; exact rz_D_tr d2 f3 f4 ep
  · rw [hfp, f0]; exact d3 w
  · rw [hs k k0 (by omega)]; exact d4
/-- behind a cut and what is told of the points of a span -/
theorem sz_D_R {τ : Nat → Nat} {h g : cz_H} {F : rz_W} {E E' : Int → Prop} {first last : Int} {Rl : Prop → Nat → Int → Int → Prop} (hB : ez_B τ h) (t202 : τ 202 = 48) (t203 : τ 203 = 49) (hD : sz_D τ h F E) (ht : sz_toldR τ h g first last Rl) (h1 : ∀ P u v, Rl P 1 u v → v = u) (h2 : ∀ x u v, Rl (first ≤ x ∧ x ≤ last) 2 u v → (sz_t0 u ↔ E x) → (sz_t0 v ↔ E' x)) : sz_D τ g F E' := by
  obtain ⟨-, -, hf, -, -, hx⟩ := ht
  intro x k x0 x1 hk
  obtain ⟨k', w1, w2⟩ := hx x k x0 x1 hk
  obtain ⟨⟨d1, d2, d3⟩, d4⟩ := hD x k' x0 x1 w1
  obtain ⟨-, t3, -⟩ := sz_fp_t hB t202 t203 w1
  have e1 := h1 _ _ _ (w2 1 (by omega) (by omega))
  have hfp : sz_fp g k = sz_fp h k' := by unfold sz_fp qz_P; rw [e1]
  have pf : ∀ q, τ q = 3 ∨ τ q = 5 → sz_PS τ q = false := fun q hq => by
    unfold sz_PS
    rw [dz_beq_ne (fun e => by rw [e, t202] at hq; omega), dz_beq_ne (fun e => by rw [e, t203] at hq; omega)]
    rcases hq with hq | hq <;> (rw [hq]; rfl)
  have fI : ∀ j, qz_I g (sz_fp h k') j = qz_I h (sz_fp h k') j := fun j => hf.I (pf _ (Or.inl t3)) j
  refine ⟨⟨?_, ?_, fun w => ?_⟩, ?_⟩
  · rw [hfp, fI]; exact d1
  · rw [hfp]; exact rz_D_tr d2 (fI 3) (fI 4) (fun p hp => ⟨hp, hf.2.2 p (pf p (Or.inr hp))⟩)
  · rw [hfp, fI]; exact d3 w
  · exact h2 x _ _ (w2 2 (by omega) (by omega)) d4
/-- a new fact for the points from first to last -/
theorem sz_D_F {τ : Nat → Nat} {h g : cz_H} {F F' : rz_W} {E : Int → Prop} {first last cls : Int} {dec : Option (Int × List Int)} {r : Nat} (hB : ez_B τ h) (t202 : τ 202 = 48) (t203 : τ 203 = 49) (tr : τ r = 3) (hD : sz_D τ h F E) (ht : sz_told τ h g first last r) (r0 : qz_I h r 0 = first) (r2 : qz_I h r 2 = cls) (rd : rz_D τ h r dec) (hone : dec ≠ none → first = last) (hF : ∀ x, F' x = if first ≤ x ∧ x ≤ last then (cls, dec) else F x) : sz_D τ g F' E := by
  obtain ⟨-, -, hf, -, -, hx⟩ := ht
  intro x k x0 x1 hk
  obtain ⟨k', w1, w2, w3⟩ := hx x k x0 x1 hk
  obtain ⟨⟨d1, d2, d3⟩, d4⟩ := hD x k' x0 x1 w1
  obtain ⟨-, t3, ef⟩ := sz_fp_t hB t202 t203 w1
  have pf : ∀ q, τ q = 3 ∨ τ q = 5 → sz_PS τ q = false := fun q hq => by
    unfold sz_PS
    rw [dz_beq_ne (fun e => by rw [e, t202] at hq; omega), dz_beq_ne (fun e => by rw [e, t203] at hq; omega)]
    rcases hq with hq | hq <;> (rw [hq]; rfl)
  have e2 := w2 2 (by omega) (by omega)
  by_cases e : first ≤ x ∧ x ≤ last
  · rw [if_pos e] at w3
    have hfp : sz_fp g k = r := by unfold sz_fp qz_P; omega
    have fI : ∀ j, qz_I g r j = qz_I h r j := fun j => hf.I (pf _ (Or.inl tr)) j
    have hFx := hF x
    rw [if_pos e] at hFx
    refine ⟨⟨?_, ?_, fun w => ?_⟩, ?_⟩
    · rw [hfp, fI, hFx]; exact r2
    · rw [hfp, hFx]; exact rz_D_tr rd (fI 3) (fI 4) (fun p hp => ⟨hp, hf.2.2 p (pf p (Or.inr hp))⟩)
    · rw [hFx] at w
      have := hone w
      rw [hfp, fI, r0]; omega
    · rw [e2]; exact d4
  · rw [if_neg e] at w3
    have hfp : sz_fp g k = sz_fp h k' := by unfold sz_fp qz_P; rw [w3]
    have fI : ∀ j, qz_I g (sz_fp h k') j = qz_I h (sz_fp h k') j := fun j => hf.I (pf _ (Or.inl t3)) j
    have hFx := hF x
    rw [if_neg e] at hFx
    refine ⟨⟨?_, ?_, fun w => ?_⟩, ?_⟩
    · rw [hfp, fI, hFx]; exact d1
    · rw [hfp, hFx]; exact rz_D_tr d2 (fI 3) (fI 4) (fun p hp => ⟨hp, hf.2.2 p (pf p (Or.inr hp))⟩)
    · rw [hFx] at w; rw [hfp, fI]; exact d3 w
    · rw [e2]; exact d4
/-- cells that a LINE may change -/
def fz_P (t : Nat) : Bool := Nat.beq t 4 || (Nat.beq t 6 || (Nat.ble 48 t && Nat.ble t 54))
def fz (τ : Nat → Nat) (h : cz_H) (τ1 : Nat → Nat) (g : cz_H) (dc ds : Nat) : Prop := (∀ q, τ q ≠ 0 → τ1 q = τ q ∧ (fz_P (τ q) = false → g.2.2 q = h.2.2 q)) ∧ (h.1 ≤ g.1 ∧ g.1 ≤ h.1 + dc) ∧ (h.2.1 ≤ g.2.1 ∧ g.2.1 ≤ h.2.1 + ds)
theorem fz.refl (τ : Nat → Nat) (h : cz_H) (dc ds : Nat) : fz τ h τ h dc ds := ⟨fun _ _ => ⟨rfl, fun _ => rfl⟩, ⟨Nat.le_refl _, Nat.le_add_right _ _⟩, Nat.le_refl _, Nat.le_add_right _ _⟩
theorem fz.trans {τ τ1 τ2 : Nat → Nat} {h g1 g2 : cz_H} {a b c e : Nat} (x : fz τ h τ1 g1 a b) (y : fz τ1 g1 τ2 g2 c e) : fz τ h τ2 g2 (a + c) (b + e) := by
  have h1 := x.2
  have h2 := y.2
  refine ⟨fun q hq => ?_, by omega, by omega⟩
  have q1 := x.1 q hq
  have q2 := y.1 q (by rw [q1.1]; exact hq)
  refine ⟨q2.1.trans q1.1, fun w => ?_⟩
  rw [q2.2 (by rw [q1.1]; exact w), q1.2 w]
theorem fz.mono {τ τ1 : Nat → Nat} {h g1 : cz_H} {a b c e : Nat} (x : fz τ h τ1 g1 a b) (h1 : a ≤ c) (h2 : b ≤ e) : fz τ h τ1 g1 c e := by
  have := x.2
  exact ⟨x.1, by omega, by omega⟩
theorem fz_fr {P : Nat → Bool} {τ : Nat → Nat} {h g : cz_H} (hf : ez_fr P h g) (hP : ∀ q, τ q ≠ 0 → fz_P (τ q) = false → P q = false) : fz τ h τ g 0 0 := ⟨fun q hq => ⟨rfl, fun w => hf.2.2 q (hP q hq w)⟩, by rw [hf.1]; omega, by rw [hf.2.1]; omega⟩
theorem fz_xr {τ τ1 : Nat → Nat} {h g : cz_H} {dc ds : Nat} (t720 : τ 720 = 52) (hx : ez_xr τ h τ1 g 720 dc ds) : fz τ h τ1 g dc ds := ⟨fun q hq => ⟨(hx.1 q hq).1, fun w => (hx.1 q hq).2 (fun e => by rw [e, t720] at w; cases w)⟩, hx.2⟩
theorem fz_xt {τ τ1 : Nat → Nat} {h g : cz_H} {dc ds : Nat} (hx : ez_xt τ h τ1 g dc ds) : fz τ h τ1 g dc ds := ⟨fun q hq => ⟨(hx.1 q hq).1, fun _ => (hx.1 q hq).2⟩, hx.2⟩
theorem fz_ft {τ : Nat → Nat} {h g : cz_H} (t721 : τ 721 = 53) (t722 : τ 722 = 54) (hf : ez_fr rz_ft h g) : fz τ h τ g 0 0 := fz_fr hf (fun q _ w => by
  unfold rz_ft
  rw [dz_beq_ne (fun e => by rw [e, t721] at w; cases w), dz_beq_ne (fun e => by rw [e, t722] at w; cases w)]
  rfl)
theorem fz_PS {τ : Nat → Nat} {h g : cz_H} (t202 : τ 202 = 48) (t203 : τ 203 = 49) (hf : ez_fr (sz_PS τ) h g) : fz τ h τ g 0 0 := fz_fr hf (fun q _ w => by
  unfold sz_PS
  rw [dz_beq_ne (fun e => by rw [e, t202] at w; cases w), dz_beq_ne (fun e => by rw [e, t203] at w; cases w), dz_beq_ne (fun e => by rw [e] at w; cases w)]
  rfl)
theorem fz_P6 {τ : Nat → Nat} {h g : cz_H} (hf : ez_fr (sz_P6 τ) h g) : fz τ h τ g 0 0 := fz_fr hf (fun q _ w => by
  unfold sz_P6
  rw [dz_beq_ne (fun e => by rw [e] at w; cases w)])
theorem fz_PE {τ : Nat → Nat} {h g : cz_H} (t202 : τ 202 = 48) (t204 : τ 204 = 50) (t205 : τ 205 = 51) (hf : ez_fr nz_PE h g) : fz τ h τ g 0 0 := fz_fr hf (fun q _ w => by
  unfold nz_PE
  rw [dz_beq_ne (fun e => by rw [e, t202] at w; cases w), dz_beq_ne (fun e => by rw [e, t204] at w; cases w), dz_beq_ne (fun e => by rw [e, t205] at w; cases w)]
  rfl)
theorem fz_1 {τ : Nat → Nat} {h g : cz_H} {r t : Nat} (hr : τ r = t) (ht : fz_P t = true) (hf : ez_fr (ez_one r) h g) : fz τ h τ g 0 0 := fz_fr hf (fun q _ w => dz_beq_ne (fun e => by rw [e, hr, ht] at w; cases w))
/-- fixed places -/
def jz_X (τ : Nat → Nat) : Prop := ∀ r, tz_ex r ≠ 0 → τ r = tz_ex r
theorem jz_X.fz {τ τ1 : Nat → Nat} {h g : cz_H} {a b : Nat} (hX : jz_X τ) (x : fz τ h τ1 g a b) : jz_X τ1 := fun r hr => (x.1 r (by rw [hX r hr]; exact hr)).1.trans (hX r hr)
theorem nz_27 : ∀ s, s < 51 → 0 < s → tz_ex s = 27 := by decide
theorem nzL_lt {s : Nat} {l : List Int} (h : nzL s = some l) : 0 < s ∧ s < 51 := by
  unfold nzL at h
  split at h <;> first | omega | cases h
theorem nz_hz {τ : Nat → Nat} {h : cz_H} (hB : ez_B τ h) (hX : jz_X τ) : ∀ s l, nzL s = some l → τ s = 27 ∧ τ (qz_P h s 0) = 28 := by
  intro s l hl
  obtain ⟨s0, s1⟩ := nzL_lt hl
  have e := nz_27 s s1 s0
  have ts : τ s = 27 := (hX s (by rw [e]; decide)).trans e
  have b : 1 ≤ qz_I h s 0 ∧ qz_I h s 0 ≤ 1000000 := ez_fB (cl := 15) hB ts tq_27 rfl rfl (by decide)
  exact ⟨ts, (ez_old (cl := 15) hB ts tq_27 rfl rfl (by decide) (show qz_I h s 0 = (qz_P h s 0 : Int) + 1 by unfold qz_P; omega)).1⟩
theorem nz_Z_fz {τ τ1 : Nat → Nat} {h g : cz_H} {a b : Nat} (hB : ez_B τ h) (hX : jz_X τ) (hZ : nz_Z h) (x : fz τ h τ1 g a b) : nz_Z g := by
  intro s l hl
  obtain ⟨y1, y2, y3⟩ := hZ s l hl
  obtain ⟨z1, z2⟩ := nz_hz hB hX s l hl
  have e1 := (x.1 s (by rw [z1]; decide)).2 (by rw [z1]; rfl)
  have e2 := (x.1 _ (by rw [z2]; decide)).2 (by rw [z2]; rfl)
  have e3 : qz_P g s 0 = qz_P h s 0 := by unfold qz_P qz_I; rw [e1]
  refine ⟨?_, y2, by rw [e3]; exact y3⟩
  unfold nz_S at *
  rw [e3]
  unfold qz_N qz_I at *
  rw [e2]
  exact y1
/-- the class between calls of line -/
def jz_I (τ : Nat → Nat) (h : cz_H) (F : rz_W) (E : Int → Prop) : Prop := ez_B τ h ∧ jz_X τ ∧ (sz_ok h ∧ sz_inj h) ∧ (∀ i : Nat, (i : Int) < qz_I h 202 4 → 1 ≤ qz_I h 205 i) ∧ qz_I h 202 1 ≤ 1 + 2 * qz_I h 202 5 ∧ nz_Z h ∧ sz_D τ h F E ∧ ∃ Xs : List Int, (Xs.length : Int) ≤ qz_I h 202 5 ∧ ∀ x, (F x).2 ≠ none → x ∈ Xs
/-! What DATA say of each point besides: category, case, traits, breaks, folds, special cases. -/
/-- (category, upper, lower, title), (traits, cluster, word), folds by C, F, T, special cases -/
abbrev xD : Type := (Int × Int × Int × Int) × (Int × Int × Int) × (Option (List Int) × Option (List Int) × Option (List Int)) × List spz
def xO (τ : Nat → Nat) (h : cz_H) (v : Int) (o : Option (List Int)) : Prop := (o = none → v = 0) ∧ ∀ l, o = some l → rw5 τ h v l
theorem xO.tr {τ τ1 : Nat → Nat} {h g : cz_H} {v : Int} {o : Option (List Int)} (a : xO τ h v o) (e : ∀ q, τ q = 5 → τ1 q = 5 ∧ g.2.2 q = h.2.2 q) : xO τ1 g v o := ⟨a.1, fun l hl => (a.2 l hl).tr e⟩
/-- a point's fact and span hold it -/
def xQ (τ : Nat → Nat) (h : cz_H) (O : Nat → Int) (x : Int) (D : xD) (f z : Nat) : Prop := (qz_I h f 1 = D.1.1 ∧ qz_I h f 5 = D.1.2.1 ∧ qz_I h f 6 = D.1.2.2.1 ∧ qz_I h f 7 = D.1.2.2.2) ∧ (qz_I h z 2 = D.2.1.1 ∧ qz_I h z 3 = D.2.1.2.1 ∧ qz_I h z 4 = D.2.1.2.2) ∧ (xO τ h (qz_I h z 5) D.2.2.1.1 ∧ xO τ h (qz_I h z 6) D.2.2.1.2.1 ∧ xO τ h (qz_I h z 7) D.2.2.1.2.2) ∧ sC τ h (fun q => τ q = 6 ∧ O q = x) D.2.2.2 (qz_I h z 8)
def sz_X (τ : Nat → Nat) (h : cz_H) (O : Nat → Int) (D : Int → xD) : Prop := ∀ x k, 0 ≤ x → x ≤ 1114111 → sz_at h x k → xQ τ h O x (D x) (sz_fp h k) (sz_p h k)
def jx (τ : Nat → Nat) (h : cz_H) (D : Int → xD) : Prop := ∃ O, sz_X τ h O D
theorem sz_at_tr {τ : Nat → Nat} {h g : cz_H} (hB : ez_B τ h) (t202 : τ 202 = 48) (t203 : τ 203 = 49) (e2 : qz_I g 202 1 = qz_I h 202 1) (e3 : g.2.2 203 = h.2.2 203) (e4 : ∀ q, τ q = 4 → g.2.2 q = h.2.2 q) {x k : Int} (hk : sz_at g x k) : sz_at h x k ∧ sz_p g k = sz_p h k ∧ sz_fp g k = sz_fp h k ∧ ∀ j, qz_I g (sz_p h k) j = qz_I h (sz_p h k) j := by
  have bn := sz_R_n1 hB t202
  have hp : ∀ k, sz_p g k = sz_p h k := fun k => by unfold sz_p qz_P qz_I; rw [e3]
  have hs : ∀ k, 0 ≤ k → k < 513 → ∀ j, qz_I g (sz_p g k) j = qz_I h (sz_p h k) j := fun k k0 k1 j => by
    rw [hp]
    unfold qz_I
    rw [e4 _ (sz_tag hB t203 k0 k1)]
  have k0 := hk.1
  have k1 := hk.2.1
  have hk' : sz_at h x k := by
    obtain ⟨c0, c1, c2, c3⟩ := hk
    rw [e2] at c1 c3
    unfold sz_f at c2 c3
    refine ⟨c0, c1, ?_, fun w => ?_⟩
    · unfold sz_f; rw [← hs k c0 (by omega)]; exact c2
    · unfold sz_f; rw [← hs (k + 1) (by omega) (by omega)]; exact c3 w
  rw [e2] at k1
  refine ⟨hk', hp k, ?_, fun j => ?_⟩
  · unfold sz_fp qz_P; rw [hs k k0 (by omega)]
  · have := hs k k0 (by omega) j
    rw [hp] at this
    exact this
theorem xQ.tr {τ τ1 : Nat → Nat} {h g : cz_H} {O O1 : Nat → Int} {x : Int} {D : xD} {f z : Nat} (a : xQ τ h O x D f z) (ef : ∀ j, qz_I g f j = qz_I h f j) (ez : ∀ j, qz_I g z j = qz_I h z j) (e5 : ∀ q, τ q = 5 → τ1 q = 5 ∧ g.2.2 q = h.2.2 q) (e6 : ∀ q, τ q = 6 → O q = x → τ1 q = 6 ∧ O1 q = x ∧ g.2.2 q = h.2.2 q) : xQ τ1 g O1 x D f z := by
  obtain ⟨⟨a1, a2, a3, a4⟩, ⟨b1, b2, b3⟩, ⟨c1, c2, c3⟩, d⟩ := a
  refine ⟨⟨by rw [ef]; exact a1, by rw [ef]; exact a2, by rw [ef]; exact a3, by rw [ef]; exact a4⟩, ⟨by rw [ez]; exact b1, by rw [ez]; exact b2, by rw [ez]; exact b3⟩, ⟨by rw [ez]; exact c1.tr e5, by rw [ez]; exact c2.tr e5, by rw [ez]; exact c3.tr e5⟩, ?_⟩
  rw [ez]
  refine sC.tr (fun p p1 p2 => ?_) (fun q hq => ?_) d
  · obtain ⟨u1, u2, -⟩ := e6 p p2.1 p2.2
    exact ⟨u1, u2⟩
  · rcases hq with hq | ⟨-, hq⟩
    · obtain ⟨u1, u2⟩ := e5 q hq
      exact ⟨u1.trans hq.symm, u2⟩
    · obtain ⟨u1, -, u2⟩ := e6 q hq.1 hq.2
      exact ⟨u1.trans hq.1.symm, u2⟩
theorem sz_X_tr {τ τ1 : Nat → Nat} {h g : cz_H} {O O1 : Nat → Int} {D : Int → xD} (hB : ez_B τ h) (t202 : τ 202 = 48) (t203 : τ 203 = 49) (hX : sz_X τ h O D) (e2 : qz_I g 202 1 = qz_I h 202 1) (e3 : g.2.2 203 = h.2.2 203) (e4 : ∀ q, τ q = 3 ∨ τ q = 4 ∨ τ q = 5 ∨ τ q = 6 → τ1 q = τ q ∧ g.2.2 q = h.2.2 q) (eo : ∀ q, τ q = 6 → O1 q = O q) : sz_X τ1 g O1 D := by
  intro x k x0 x1 hk
  obtain ⟨hk', hp, hf, hz⟩ := sz_at_tr hB t202 t203 e2 e3 (fun q hq => (e4 q (by omega)).2) hk
  obtain ⟨-, t3, -⟩ := sz_fp_t hB t202 t203 hk'
  rw [hp, hf]
  refine (hX x k x0 x1 hk').tr (fun j => ?_) hz (fun q hq => ?_) (fun q hq ho => ?_)
  · unfold qz_I; rw [(e4 _ (Or.inl t3)).2]
  · obtain ⟨u1, u2⟩ := e4 q (by omega)
    exact ⟨u1.trans hq, u2⟩
  · obtain ⟨u1, u2⟩ := e4 q (by omega)
    exact ⟨u1.trans hq, (eo q hq).trans ho, u2⟩
theorem jx_tr {τ τ1 : Nat → Nat} {h g : cz_H} {D : Int → xD} (hB : ez_B τ h) (t202 : τ 202 = 48) (t203 : τ 203 = 49) (hX : jx τ h D) (e2 : qz_I g 202 1 = qz_I h 202 1) (e3 : g.2.2 203 = h.2.2 203) (e4 : ∀ q, τ q = 3 ∨ τ q = 4 ∨ τ q = 5 ∨ τ q = 6 → τ1 q = τ q ∧ g.2.2 q = h.2.2 q) : jx τ1 g D := by
  obtain ⟨O, hX⟩ := hX
  exact ⟨O, sz_X_tr hB t202 t203 hX e2 e3 e4 (fun _ _ => rfl)⟩
theorem sz_PSf {τ : Nat → Nat} (t202 : τ 202 = 48) (t203 : τ 203 = 49) {q : Nat} (hq : τ q = 3 ∨ τ q = 5 ∨ τ q = 6) : sz_PS τ q = false := by
  unfold sz_PS
  rw [dz_beq_ne (fun e => by rw [e, t202] at hq; omega), dz_beq_ne (fun e => by rw [e, t203] at hq; omega)]
  rcases hq with hq | hq | hq <;> (rw [hq]; rfl)
/-- a new fact -/
theorem jx_F {τ : Nat → Nat} {h g : cz_H} {D D' : Int → xD} {first last : Int} {c : Int × Int × Int × Int} {r : Nat} (hB : ez_B τ h) (t202 : τ 202 = 48) (t203 : τ 203 = 49) (tr : τ r = 3) (hX : jx τ h D) (ht : sz_told τ h g first last r) (r1 : qz_I h r 1 = c.1 ∧ qz_I h r 5 = c.2.1 ∧ qz_I h r 6 = c.2.2.1 ∧ qz_I h r 7 = c.2.2.2) (hD : ∀ x, D' x = if first ≤ x ∧ x ≤ last then (c, (D x).2) else D x) : jx τ g D' := by
  obtain ⟨O, hX⟩ := hX
  obtain ⟨-, -, hf, -, -, hx⟩ := ht
  refine ⟨O, fun x k x0 x1 hk => ?_⟩
  obtain ⟨k', w1, w2, w3⟩ := hx x k x0 x1 hk
  have a := hX x k' x0 x1 w1
  obtain ⟨-, t3, ef⟩ := sz_fp_t hB t202 t203 w1
  have e5 : ∀ q, τ q = 5 → τ q = 5 ∧ g.2.2 q = h.2.2 q := fun q hq => ⟨hq, hf.2.2 q (sz_PSf t202 t203 (by omega))⟩
  have e6 : ∀ q, τ q = 6 → g.2.2 q = h.2.2 q := fun q hq => hf.2.2 q (sz_PSf t202 t203 (by omega))
  have fI : ∀ q, τ q = 3 → ∀ j, qz_I g q j = qz_I h q j := fun q hq j => hf.I (sz_PSf t202 t203 (Or.inl hq)) j
  obtain ⟨⟨a1, a2, a3, a4⟩, ⟨b1, b2, b3⟩, ⟨c1, c2, c3⟩, d⟩ := a
  have rest : (qz_I g (sz_p g k) 2 = (D x).2.1.1 ∧ qz_I g (sz_p g k) 3 = (D x).2.1.2.1 ∧ qz_I g (sz_p g k) 4 = (D x).2.1.2.2) ∧ (xO τ g (qz_I g (sz_p g k) 5) (D x).2.2.1.1 ∧ xO τ g (qz_I g (sz_p g k) 6) (D x).2.2.1.2.1 ∧ xO τ g (qz_I g (sz_p g k) 7) (D x).2.2.1.2.2) ∧ sC τ g (fun q => τ q = 6 ∧ O q = x) (D x).2.2.2 (qz_I g (sz_p g k) 8) := by
    rw [w2 2 (by omega) (by omega), w2 3 (by omega) (by omega), w2 4 (by omega) (by omega), w2 5 (by omega) (by omega), w2 6 (by omega) (by omega), w2 7 (by omega) (by omega), w2 8 (by omega) (by omega)]
    refine ⟨⟨b1, b2, b3⟩, ⟨c1.tr e5, c2.tr e5, c3.tr e5⟩, sC.tr (fun _ _ w => w) (fun q hq => ⟨rfl, ?_⟩) d⟩
    rcases hq with hq | ⟨hq, -⟩
    · exact (e5 q hq).2
    · exact e6 q hq
  have hDx := hD x
  by_cases e : first ≤ x ∧ x ≤ last
  · rw [if_pos e] at w3 hDx
    have hfp : sz_fp g k = r := by unfold sz_fp qz_P; omega
    rw [hDx, hfp]
    exact ⟨by rw [fI r tr, fI r tr, fI r tr, fI r tr]; exact r1, rest⟩
  · rw [if_neg e] at w3 hDx
    have hfp : sz_fp g k = sz_fp h k' := by unfold sz_fp qz_P; rw [w3]
    rw [hDx, hfp]
    exact ⟨by rw [fI _ t3, fI _ t3, fI _ t3, fI _ t3]; exact ⟨a1, a2, a3, a4⟩, rest⟩
/-- what is told of the points of a span, their fact apart -/
theorem sz_X_R {τ : Nat → Nat} {h g : cz_H} {O : Nat → Int} {D D' : Int → xD} {first last : Int} {Rl : Prop → Nat → Int → Int → Prop} (hB : ez_B τ h) (t202 : τ 202 = 48) (t203 : τ 203 = 49) (hX : sz_X τ h O D) (ht : sz_toldR τ h g first last Rl) (h1 : ∀ P u v, Rl P 1 u v → v = u) (h2 : ∀ (x : Int) (a b : Nat → Int), (∀ j, 1 ≤ j → j ≤ 8 → Rl (first ≤ x ∧ x ≤ last) j (a j) (b j)) → (D' x).1 = (D x).1 ∧ ((a 2 = (D x).2.1.1 ∧ a 3 = (D x).2.1.2.1 ∧ a 4 = (D x).2.1.2.2) → (b 2 = (D' x).2.1.1 ∧ b 3 = (D' x).2.1.2.1 ∧ b 4 = (D' x).2.1.2.2)) ∧ ((xO τ g (a 5) (D x).2.2.1.1 ∧ xO τ g (a 6) (D x).2.2.1.2.1 ∧ xO τ g (a 7) (D x).2.2.1.2.2) → (xO τ g (b 5) (D' x).2.2.1.1 ∧ xO τ g (b 6) (D' x).2.2.1.2.1 ∧ xO τ g (b 7) (D' x).2.2.1.2.2)) ∧ (sC τ g (fun q => τ q = 6 ∧ O q = x) (D x).2.2.2 (a 8) → sC τ g (fun q => τ q = 6 ∧ O q = x) (D' x).2.2.2 (b 8))) : sz_X τ g O D' := by
  obtain ⟨-, -, hf, -, -, hx⟩ := ht
  intro x k x0 x1 hk
  obtain ⟨k', w1, w2⟩ := hx x k x0 x1 hk
  obtain ⟨-, t3, ef⟩ := sz_fp_t hB t202 t203 w1
  have e5 : ∀ q, τ q = 5 → τ q = 5 ∧ g.2.2 q = h.2.2 q := fun q hq => ⟨hq, hf.2.2 q (sz_PSf t202 t203 (by omega))⟩
  have e6 : ∀ q, τ q = 6 → g.2.2 q = h.2.2 q := fun q hq => hf.2.2 q (sz_PSf t202 t203 (by omega))
  have fI : ∀ j, qz_I g (sz_fp h k') j = qz_I h (sz_fp h k') j := fun j => hf.I (sz_PSf t202 t203 (Or.inl t3)) j
  have e1 := h1 _ _ _ (w2 1 (by omega) (by omega))
  have hfp : sz_fp g k = sz_fp h k' := by unfold sz_fp qz_P; rw [e1]
  obtain ⟨a, b, ⟨c1, c2, c3⟩, d⟩ := hX x k' x0 x1 w1
  obtain ⟨y1, y2, y3, y4⟩ := h2 x (fun j => qz_I h (sz_p h k') j) (fun j => qz_I g (sz_p g k) j) w2
  refine ⟨?_, y2 b, y3 ⟨c1.tr e5, c2.tr e5, c3.tr e5⟩, y4 (sC.tr (fun _ _ w => w) (fun q hq => ⟨rfl, ?_⟩) d)⟩
  · rw [hfp, y1, fI, fI, fI, fI]; exact a
  · rcases hq with hq | ⟨hq, -⟩
    · exact (e5 q hq).2
    · exact e6 q hq
/-- a property -/
theorem sz_X_P {τ : Nat → Nat} {h g : cz_H} {O : Nat → Int} {D D' : Int → xD} {first last gr nm : Int} (hB : ez_B τ h) (t202 : τ 202 = 48) (t203 : τ 203 = 49) (hX : sz_X τ h O D) (ht : sz_toldR τ h g first last (sz_RP gr nm)) (hD : ∀ x, D' x = if first ≤ x ∧ x ≤ last then ((D x).1, (sz_set gr nm 2 (D x).2.1.1, sz_set gr nm 3 (D x).2.1.2.1, sz_set gr nm 4 (D x).2.1.2.2), (D x).2.2) else D x) : sz_X τ g O D' := by
  have hj : ∀ (j : Nat) (u : Int), j ≠ 2 → j ≠ 3 → j ≠ 4 → sz_set gr nm j u = u := fun j u a b c => by
    unfold sz_set
    rw [if_neg (fun w => a w.1), if_neg (fun w => b w.1), if_neg (fun w => c w.1)]
  refine sz_X_R hB t202 t203 hX ht (fun P u v w => ?_) (fun x a b w => ?_)
  · by_cases hP : P
    · rw [w.1 hP]; exact hj 1 u (by decide) (by decide) (by decide)
    · exact w.2 hP
  · by_cases e : first ≤ x ∧ x ≤ last
    · have hDx := hD x
      rw [if_pos e] at hDx
      have v : ∀ j, 1 ≤ j → j ≤ 8 → b j = sz_set gr nm j (a j) := fun j j1 j8 => (w j j1 j8).1 e
      rw [hDx]
      refine ⟨rfl, fun y => ⟨?_, ?_, ?_⟩, fun y => ?_, fun y => ?_⟩
      · rw [v 2 (by decide) (by decide), y.1]
      · rw [v 3 (by decide) (by decide), y.2.1]
      · rw [v 4 (by decide) (by decide), y.2.2]
      · rw [v 5 (by decide) (by decide), v 6 (by decide) (by decide), v 7 (by decide) (by decide), hj 5 _ (by decide) (by decide) (by decide), hj 6 _ (by decide) (by decide) (by decide), hj 7 _ (by decide) (by decide) (by decide)]
        exact y
      · rw [v 8 (by decide) (by decide), hj 8 _ (by decide) (by decide) (by decide)]
        exact y
    · have hDx := hD x
      rw [if_neg e] at hDx
      have v : ∀ j, 1 ≤ j → j ≤ 8 → b j = a j := fun j j1 j8 => (w j j1 j8).2 e
      rw [hDx, v 2 (by decide) (by decide), v 3 (by decide) (by decide), v 4 (by decide) (by decide), v 5 (by decide) (by decide), v 6 (by decide) (by decide), v 7 (by decide) (by decide), v 8 (by decide) (by decide)]
      exact ⟨rfl, id, id, id⟩
/-- a fold -/
def xf (c : Int) (l : List Int) (D : xD) : xD := (D.1, D.2.1, (if c = 67 then some l else D.2.2.1.1, if c = 70 then some l else D.2.2.1.2.1, if c = 84 then some l else D.2.2.1.2.2), D.2.2.2)
theorem xO_s {τ : Nat → Nat} {h : cz_H} {v : Int} {l : List Int} (a : rw5 τ h v l) : xO τ h v (some l) := ⟨fun e => (by cases e), fun l2 e => (by cases e; exact a)⟩
theorem sz_X_S {τ : Nat → Nat} {h g : cz_H} {O : Nat → Int} {D D' : Int → xD} {p c w : Int} {J : Nat} {l : List Int} (hB : ez_B τ h) (t202 : τ 202 = 48) (t203 : τ 203 = 49) (hX : sz_X τ h O D) (hJ : fJ c J) (ht : sz_toldR τ h g p p (sz_RS J w)) (hr : rw5 τ h w l) (hD : ∀ x, D' x = if p ≤ x ∧ x ≤ p then xf c l (D x) else D x) : sz_X τ g O D' := by
  have hf := ht.2.2.1
  have e5 : ∀ q, τ q = 5 → τ q = 5 ∧ g.2.2 q = h.2.2 q := fun q hq => ⟨hq, hf.2.2 q (sz_PSf t202 t203 (by omega))⟩
  have hr2 : xO τ g w (some l) := xO_s (hr.tr e5)
  have J5 : 5 ≤ J := by rcases hJ with h | h | h | h <;> omega
  have J8 : J ≠ 8 := by rcases hJ with h | h | h | h <;> omega
  refine sz_X_R hB t202 t203 hX ht (fun P u v q => ?_) (fun x a b q => ?_)
  · by_cases hP : P
    · rw [q.1 hP, if_neg (by omega)]
    · exact q.2 hP
  · by_cases e : p ≤ x ∧ x ≤ p
    · have hDx := hD x
      rw [if_pos e] at hDx
      have v : ∀ j, 1 ≤ j → j ≤ 8 → b j = if j = J then w else a j := fun j j1 j8 => (q j j1 j8).1 e
      have v2 := v 2 (by decide) (by decide)
      have v3 := v 3 (by decide) (by decide)
      have v4 := v 4 (by decide) (by decide)
      have v5 := v 5 (by decide) (by decide)
      have v6 := v 6 (by decide) (by decide)
      have v7 := v 7 (by decide) (by decide)
      have v8 := v 8 (by decide) (by decide)
      rw [if_neg (by omega)] at v2 v3 v4 v8
      rw [hDx, v2, v3, v4, v8]
      refine ⟨rfl, fun y => y, fun y => ?_, fun y => y⟩
      show xO τ g (b 5) (if c = 67 then some l else (D x).2.2.1.1) ∧ xO τ g (b 6) (if c = 70 then some l else (D x).2.2.1.2.1) ∧ xO τ g (b 7) (if c = 84 then some l else (D x).2.2.1.2.2)
      rcases hJ with ⟨u1, u2⟩ | ⟨u1, u2⟩ | ⟨u1, u2⟩ | ⟨u1, u2, u3, u4⟩
      · rw [u2] at v5 v6 v7
        rw [if_pos rfl] at v5
        rw [if_neg (by decide)] at v6 v7
        rw [if_pos u1, if_neg (by omega), if_neg (by omega), v5, v6, v7]
        exact ⟨hr2, y.2⟩
      · rw [u2] at v5 v6 v7
        rw [if_pos rfl] at v6
        rw [if_neg (by decide)] at v5 v7
        rw [if_neg (by omega), if_pos u1, if_neg (by omega), v5, v6, v7]
        exact ⟨y.1, hr2, y.2.2⟩
      · rw [u2] at v5 v6 v7
        rw [if_pos rfl] at v7
        rw [if_neg (by decide)] at v5 v6
        rw [if_neg (by omega), if_neg (by omega), if_pos u1, v5, v6, v7]
        exact ⟨y.1, y.2.1, hr2⟩
      · rw [u4] at v5 v6 v7
        rw [if_neg (by decide)] at v5 v6 v7
        rw [if_neg u1, if_neg u2, if_neg u3, v5, v6, v7]
        exact y
    · have hDx := hD x
      rw [if_neg e] at hDx
      have v : ∀ j, 1 ≤ j → j ≤ 8 → b j = a j := fun j j1 j8 => (q j j1 j8).2 e
      rw [hDx, v 2 (by decide) (by decide), v 3 (by decide) (by decide), v 4 (by decide) (by decide), v 5 (by decide) (by decide), v 6 (by decide) (by decide), v 7 (by decide) (by decide), v 8 (by decide) (by decide)]
      exact ⟨rfl, id, id, id⟩
/-- a special case: the first of its point, or one more -/
theorem sz_X_C {τ : Nat → Nat} {h g1 g : cz_H} {O : Nat → Int} {D D' : Int → xD} {p : Int} {r : Nat} {n : spz} (hB : ez_B τ h) (hB1 : ez_B τ g1) (t202 : τ 202 = 48) (t203 : τ 203 = 49) (hX : sz_X τ h O D) (tr : τ r = 6) (orp : O r = p) (nr : nod τ h r n) (r4 : qz_I h r 4 = 0) (ha : ((D p).2.2.2 = [] ∧ sz_toldR τ h g1 p p (sz_RS 8 ((r : Int) + 1)) ∧ g = g1) ∨ (sz_toldR τ h g1 p p (sz_RS 9 0) ∧ ∃ t : Nat, (τ t = 6 ∧ O t = p) ∧ (∀ y, y ≠ t → g.2.2 y = g1.2.2 y) ∧ ∀ k, sz_at h p k → sC τ g (fun q => τ q = 6 ∧ O q = p) ((D p).2.2.2 ++ [n]) (qz_I h (sz_p h k) 8))) (hD : ∀ x, D' x = if p ≤ x ∧ x ≤ p then ((D x).1, (D x).2.1, (D x).2.2.1, (D x).2.2.2 ++ [n]) else D x) : sz_X τ g O D' := by
  rcases ha with ⟨hn, ht, eg⟩ | ⟨ht, t, ⟨t6, to⟩, hg, hc⟩
  · rw [← eg] at ht
    have hf := ht.2.2.1
    have e5 : ∀ q, τ q = 5 → τ q = 5 ∧ g.2.2 q = h.2.2 q := fun q hq => ⟨hq, hf.2.2 q (sz_PSf t202 t203 (by omega))⟩
    have er : ∀ j, qz_I g r j = qz_I h r j := fun j => hf.I (sz_PSf t202 t203 (by omega)) j
    refine sz_X_R hB t202 t203 hX ht (fun P u v q => ?_) (fun x a b q => ?_)
    · by_cases hP : P
      · rw [q.1 hP, if_neg (by decide)]
      · exact q.2 hP
    · by_cases e : p ≤ x ∧ x ≤ p
      · have hDx := hD x
        rw [if_pos e] at hDx
        have ex : x = p := by omega
        have v : ∀ j, 1 ≤ j → j ≤ 8 → b j = if j = 8 then (r : Int) + 1 else a j := fun j j1 j8 => (q j j1 j8).1 e
        have v7 : ∀ j, 1 ≤ j → j ≤ 7 → b j = a j := fun j j1 j8 => by rw [v j j1 (by omega), if_neg (by omega)]
        have v8 := v 8 (by decide) (by decide)
        rw [if_pos rfl] at v8
        rw [hDx, v7 2 (by decide) (by decide), v7 3 (by decide) (by decide), v7 4 (by decide) (by decide), v7 5 (by decide) (by decide), v7 6 (by decide) (by decide), v7 7 (by decide) (by decide), v8]
        refine ⟨rfl, id, id, fun _ => ?_⟩
        show sC τ g (fun q => τ q = 6 ∧ O q = x) ((D x).2.2.2 ++ [n]) ((r : Int) + 1)
        rw [ex, hn]
        exact ⟨r, rfl, ⟨tr, orp⟩, nr.tr tr (fun j _ => er j) e5, by rw [er]; exact r4⟩
      · have hDx := hD x
        rw [if_neg e] at hDx
        have v : ∀ j, 1 ≤ j → j ≤ 8 → b j = a j := fun j j1 j8 => (q j j1 j8).2 e
        rw [hDx, v 2 (by decide) (by decide), v 3 (by decide) (by decide), v 4 (by decide) (by decide), v 5 (by decide) (by decide), v 6 (by decide) (by decide), v 7 (by decide) (by decide), v 8 (by decide) (by decide)]
        exact ⟨rfl, id, id, id⟩
  · have hX1 : sz_X τ g1 O D := by
      refine sz_X_R hB t202 t203 hX ht (fun P u v q => ?_) (fun x a b q => ?_)
      · by_cases hP : P
        · rw [q.1 hP, if_neg (by decide)]
        · exact q.2 hP
      · have v : ∀ j, 1 ≤ j → j ≤ 8 → b j = a j := fun j j1 j8 => by
          by_cases e : p ≤ x ∧ x ≤ p
          · rw [(q j j1 j8).1 e, if_neg (by omega)]
          · exact (q j j1 j8).2 e
        rw [v 2 (by decide) (by decide), v 3 (by decide) (by decide), v 4 (by decide) (by decide), v 5 (by decide) (by decide), v 6 (by decide) (by decide), v 7 (by decide) (by decide), v 8 (by decide) (by decide)]
        exact ⟨rfl, id, id, id⟩
    have n6 : ∀ q, τ q ≠ 6 → g.2.2 q = g1.2.2 q := fun q hq => hg q (fun e => by rw [e, t6] at hq; exact hq rfl)
    intro x k x0 x1 hk
    obtain ⟨hk', hp, hfp, hz⟩ := sz_at_tr hB1 t202 t203 (show qz_I g 202 1 = qz_I g1 202 1 by unfold qz_I; rw [n6 202 (by rw [t202]; decide)]) (n6 203 (by rw [t203]; decide)) (fun q hq => n6 q (by rw [hq]; decide)) hk
    obtain ⟨-, t3, -⟩ := sz_fp_t hB1 t202 t203 hk'
    have ef : ∀ j, qz_I g (sz_fp g1 k) j = qz_I g1 (sz_fp g1 k) j := fun j => by unfold qz_I; rw [n6 _ (by rw [t3]; decide)]
    have e5 : ∀ q, τ q = 5 → τ q = 5 ∧ g.2.2 q = g1.2.2 q := fun q hq => ⟨hq, n6 q (by rw [hq]; decide)⟩
    have a := hX1 x k x0 x1 hk'
    rw [hp, hfp]
    have hDx := hD x
    by_cases e : p ≤ x ∧ x ≤ p
    · rw [if_pos e] at hDx
      have ex : x = p := by omega
      obtain ⟨k', w1, w2⟩ := ht.2.2.2.2.2 x k x0 x1 hk'
      have w8 : qz_I g1 (sz_p g1 k) 8 = qz_I h (sz_p h k') 8 := by
        have := (w2 8 (by decide) (by decide)).1 e
        rw [if_neg (by decide)] at this
        exact this
      obtain ⟨⟨a1, a2, a3, a4⟩, ⟨b1, b2, b3⟩, ⟨c1, c2, c3⟩, -⟩ := a
      rw [hDx]
      refine ⟨⟨by rw [ef]; exact a1, by rw [ef]; exact a2, by rw [ef]; exact a3, by rw [ef]; exact a4⟩, ⟨by rw [hz]; exact b1, by rw [hz]; exact b2, by rw [hz]; exact b3⟩, ⟨by rw [hz]; exact c1.tr e5, by rw [hz]; exact c2.tr e5, by rw [hz]; exact c3.tr e5⟩, ?_⟩
      rw [hz, w8, ex]
      rw [ex] at w1
      exact hc k' w1
    · rw [if_neg e] at hDx
      rw [hDx]
      exact a.tr ef hz e5 (fun q hq ho => ⟨hq, ho, hg q (fun e2 => e (by rw [e2, to] at ho; omega))⟩)
/-! A LINE, as both sides keep it. -/
/-- (kind, from, to), (category, upper, lower, title), (group, name or letter), (conditions, rows) -/
abbrev vy : Type := (Int × Int × Int) × (Int × Int × Int × Int) × (Int × Int) × spz
def lyE (b : Int → Int) (n kind : Int) (v : vy) : Prop :=
  (kind = 0 ∧ ∃ A, rz_A b n 7 A ∧ v = ((0, rz_first b (rz_ff b A 0) (rz_tt b A 0), rz_last b (rz_ff b A 0) (rz_tt b A 0)), (b (rz_ff b A 1) * 256 + b (rz_ff b A 1 + 1), rz_code b (rz_ff b A 4) (rz_tt b A 4), rz_code b (rz_ff b A 5) (rz_tt b A 5), rz_code b (rz_ff b A 6) (rz_tt b A 6)), (0, 0), (0, [], [], []))) ∨
  (kind = 1 ∧ ∃ A, rz_A b n 5 A ∧ v = ((1, rz_code b (rz_ff b A 0) (rz_tt b A 0), rz_code b (rz_ff b A 0) (rz_tt b A 0)), (0, 0, 0, 0), (0, 0), (nz_cd b (rz_tt b A 4) (rz_ct b (rz_ff b A 4) (rz_tt b A 4 - rz_ff b A 4).toNat (rz_ff b A 4)) (rz_ff b A 4) 0, rz_rn b (rz_ff b A 1) (rz_tt b A 1), rz_rn b (rz_ff b A 2) (rz_tt b A 2), rz_rn b (rz_ff b A 3) (rz_tt b A 3)))) ∨
  (kind = 2 ∧ ∃ A vs, rz_A b n 3 A ∧ rz_rw b 18 (rz_ff b A 2) (rz_tt b A 2) = some vs ∧ v = ((2, rz_code b (rz_ff b A 0) (rz_tt b A 0), rz_code b (rz_ff b A 0) (rz_tt b A 0)), (0, 0, 0, 0), (b (rz_ff b A 1), 0), (0, vs, [], []))) ∨
  (kind = 3 ∧ ∃ A gr nm, rz_A b n 2 A ∧ rz_PV b (rz_ff b A 1) (rz_tt b A 1) gr nm ∧ v = ((3, rz_first b (rz_ff b A 0) (rz_tt b A 0), rz_last b (rz_ff b A 0) (rz_tt b A 0)), (0, 0, 0, 0), (gr, nm), (0, [], [], []))) ∨
  (kind = 4 ∧ v = ((4, 0, 0), (0, 0, 0, 0), (0, 0), (0, [], [], [])))
theorem rz_PV_uniq {b : Int → Int} {s t gr nm gr' nm' : Int} (h : rz_PV b s t gr nm) (h' : rz_PV b s t gr' nm') : gr = gr' ∧ nm = nm' := by
  rcases h with ⟨a, e1, e2⟩ | ⟨a, b, e1, e2⟩ | ⟨a, b, e1, e2⟩ <;> rcases h' with ⟨a', f1, f2⟩ | ⟨a', b', f1, f2⟩ | ⟨a', b', f1, f2⟩ <;> first | exact ⟨e1.trans f1.symm, e2.trans f2.symm⟩ | exact absurd a a' | exact absurd a' a | exact absurd b b' | exact absurd b' b
theorem lyE_uniq {b : Int → Int} {n kind : Int} {v v' : vy} (h : lyE b n kind v) (h' : lyE b n kind v') : v = v' := by
  rcases h with ⟨k, A, a1, a2⟩ | ⟨k, A, a1, a2⟩ | ⟨k, A, vs, a1, a2, a3⟩ | ⟨k, A, gr, nm, a1, a2, a3⟩ | ⟨k, a2⟩ <;> rcases h' with ⟨k', A', b1, b2⟩ | ⟨k', A', b1, b2⟩ | ⟨k', A', vs', b1, b2, b3⟩ | ⟨k', A', gr', nm', b1, b2, b3⟩ | ⟨k', b2⟩ <;> first | omega | skip
  · rw [← rz_A_uniq a1 b1] at b2; exact a2.trans b2.symm
  · rw [← rz_A_uniq a1 b1] at b2; exact a2.trans b2.symm
  · rw [← rz_A_uniq a1 b1] at b2 b3
    rw [a2] at b2; cases b2
    exact a3.trans b3.symm
  · rw [← rz_A_uniq a1 b1] at b2 b3
    obtain ⟨rfl, rfl⟩ := rz_PV_uniq a2 b2
    exact a3.trans b3.symm
  · exact a2.trans b2.symm
/-- what it tells -/
def xd (D : Int → xD) (v : vy) : Int → xD := fun y => if v.1.2.1 ≤ y ∧ y ≤ v.1.2.2 then (if v.1.1 = 0 then (v.2.1, (D y).2) else if v.1.1 = 1 then ((D y).1, (D y).2.1, (D y).2.2.1, (D y).2.2.2 ++ [v.2.2.2]) else if v.1.1 = 2 then xf v.2.2.1.1 v.2.2.2.2.1 (D y) else if v.1.1 = 3 then ((D y).1, (sz_set v.2.2.1.1 v.2.2.1.2 2 (D y).2.1.1, sz_set v.2.2.1.1 v.2.2.1.2 3 (D y).2.1.2.1, sz_set v.2.2.1.1 v.2.2.1.2 4 (D y).2.1.2.2), (D y).2.2) else D y) else D y
theorem xd_0 (D : Int → xD) (a c : Int) (t : Int × Int × Int × Int) (u : Int × Int) (s : spz) (y : Int) : xd D ((0, a, c), t, u, s) y = if a ≤ y ∧ y ≤ c then (t, (D y).2) else D y := by
  show (if a ≤ y ∧ y ≤ c then (if (0 : Int) = 0 then (t, (D y).2) else if (0 : Int) = 1 then ((D y).1, (D y).2.1, (D y).2.2.1, (D y).2.2.2 ++ [s]) else if (0 : Int) = 2 then xf u.1 s.2.1 (D y) else if (0 : Int) = 3 then ((D y).1, (sz_set u.1 u.2 2 (D y).2.1.1, sz_set u.1 u.2 3 (D y).2.1.2.1, sz_set u.1 u.2 4 (D y).2.1.2.2), (D y).2.2) else D y) else D y) = _
  rw [if_pos (show (0 : Int) = 0 from rfl)]
theorem xd_1 (D : Int → xD) (a c : Int) (t : Int × Int × Int × Int) (u : Int × Int) (s : spz) (y : Int) : xd D ((1, a, c), t, u, s) y = if a ≤ y ∧ y ≤ c then ((D y).1, (D y).2.1, (D y).2.2.1, (D y).2.2.2 ++ [s]) else D y := by
  show (if a ≤ y ∧ y ≤ c then (if (1 : Int) = 0 then (t, (D y).2) else if (1 : Int) = 1 then ((D y).1, (D y).2.1, (D y).2.2.1, (D y).2.2.2 ++ [s]) else if (1 : Int) = 2 then xf u.1 s.2.1 (D y) else if (1 : Int) = 3 then ((D y).1, (sz_set u.1 u.2 2 (D y).2.1.1, sz_set u.1 u.2 3 (D y).2.1.2.1, sz_set u.1 u.2 4 (D y).2.1.2.2), (D y).2.2) else D y) else D y) = _
  rw [if_neg (show ¬ (1 : Int) = 0 by decide), if_pos (show (1 : Int) = 1 from rfl)]
theorem xd_2 (D : Int → xD) (a c : Int) (t : Int × Int × Int × Int) (u : Int × Int) (s : spz) (y : Int) : xd D ((2, a, c), t, u, s) y = if a ≤ y ∧ y ≤ c then xf u.1 s.2.1 (D y) else D y := by
  show (if a ≤ y ∧ y ≤ c then (if (2 : Int) = 0 then (t, (D y).2) else if (2 : Int) = 1 then ((D y).1, (D y).2.1, (D y).2.2.1, (D y).2.2.2 ++ [s]) else if (2 : Int) = 2 then xf u.1 s.2.1 (D y) else if (2 : Int) = 3 then ((D y).1, (sz_set u.1 u.2 2 (D y).2.1.1, sz_set u.1 u.2 3 (D y).2.1.2.1, sz_set u.1 u.2 4 (D y).2.1.2.2), (D y).2.2) else D y) else D y) = _
  rw [if_neg (show ¬ (2 : Int) = 0 by decide), if_neg (show ¬ (2 : Int) = 1 by decide), if_pos (show (2 : Int) = 2 from rfl)]
theorem xd_3 (D : Int → xD) (a c : Int) (t : Int × Int × Int × Int) (u : Int × Int) (s : spz) (y : Int) : xd D ((3, a, c), t, u, s) y = if a ≤ y ∧ y ≤ c then ((D y).1, (sz_set u.1 u.2 2 (D y).2.1.1, sz_set u.1 u.2 3 (D y).2.1.2.1, sz_set u.1 u.2 4 (D y).2.1.2.2), (D y).2.2) else D y := by
  show (if a ≤ y ∧ y ≤ c then (if (3 : Int) = 0 then (t, (D y).2) else if (3 : Int) = 1 then ((D y).1, (D y).2.1, (D y).2.2.1, (D y).2.2.2 ++ [s]) else if (3 : Int) = 2 then xf u.1 s.2.1 (D y) else if (3 : Int) = 3 then ((D y).1, (sz_set u.1 u.2 2 (D y).2.1.1, sz_set u.1 u.2 3 (D y).2.1.2.1, sz_set u.1 u.2 4 (D y).2.1.2.2), (D y).2.2) else D y) else D y) = _
  rw [if_neg (show ¬ (3 : Int) = 0 by decide), if_neg (show ¬ (3 : Int) = 1 by decide), if_neg (show ¬ (3 : Int) = 2 by decide), if_pos (show (3 : Int) = 3 from rfl)]
theorem xd_4 (D : Int → xD) (a c : Int) (t : Int × Int × Int × Int) (u : Int × Int) (s : spz) : xd D ((4, a, c), t, u, s) = D := by
  funext y
  show (if a ≤ y ∧ y ≤ c then (if (4 : Int) = 0 then (t, (D y).2) else if (4 : Int) = 1 then ((D y).1, (D y).2.1, (D y).2.2.1, (D y).2.2.2 ++ [s]) else if (4 : Int) = 2 then xf u.1 s.2.1 (D y) else if (4 : Int) = 3 then ((D y).1, (sz_set u.1 u.2 2 (D y).2.1.1, sz_set u.1 u.2 3 (D y).2.1.2.1, sz_set u.1 u.2 4 (D y).2.1.2.2), (D y).2.2) else D y) else D y) = _
  rw [if_neg (show ¬ (4 : Int) = 0 by decide), if_neg (show ¬ (4 : Int) = 1 by decide), if_neg (show ¬ (4 : Int) = 2 by decide), if_neg (show ¬ (4 : Int) = 3 by decide)]
  split <;> rfl
def xD0 : Int → xD := fun _ => ((17262, -1, -1, -1), (0, 0, 0), (none, none, none), [])
def xDs (Es : List vy) : Int → xD := Es.foldl xd xD0
theorem xDs_app (Es : List vy) (v : vy) : xDs (Es ++ [v]) = xd (xDs Es) v := by unfold xDs; rw [List.foldl_append]; rfl
/-- a call of line: D becomes D2 -/
def xsl (b : Int → Int) (n kind : Int) (D : Int → xD) (v : Int) (D2 : Int → xD) : Prop := (v = -1 ∧ D2 = D) ∨ (v ≠ -1 ∧ ∃ y, lyE b n kind y ∧ D2 = xd D y)
/-! The class: take. (Written by wip/p2/py/pv26.py.) -/
/-- what a LINE answers, by what it must hold; -1 where it is none -/
def rz_an (b : Int → Int) (n : Int) (w : Nat) (G : List (Int × Int) → Int → Prop) (v : Int) : Prop := (∃ A, rz_A b n w A ∧ G A v) ∨ ((¬ ∃ A v2, rz_A b n w A ∧ G A v2) ∧ v = -1)
def rz_g0 (b : Int → Int) (A : List (Int × Int)) (v : Int) : Prop := ∃ first last cls dec, rz_F b (rz_ff b A) (rz_tt b A) first last cls dec ∧ v = last - first + 1
def rz_g1 (b : Int → Int) (A : List (Int × Int)) (v : Int) : Prop := rz_G1 b (rz_ff b A) (rz_tt b A) ∧ v = 1
def rz_g2 (b : Int → Int) (A : List (Int × Int)) (v : Int) : Prop := rz_G2 b (rz_ff b A) (rz_tt b A) ∧ v = 1
def rz_g3 (b : Int → Int) (A : List (Int × Int)) (v : Int) : Prop := (rz_first b (rz_ff b A 0) (rz_tt b A 0) ≠ -1 ∧ rz_first b (rz_ff b A 0) (rz_tt b A 0) ≤ rz_last b (rz_ff b A 0) (rz_tt b A 0)) ∧ rz_PK b (rz_ff b A 1) (rz_tt b A 1) ∧ v = rz_last b (rz_ff b A 0) (rz_tt b A 0) - rz_first b (rz_ff b A 0) (rz_tt b A 0) + 1
def rz_g4 (b : Int → Int) (A : List (Int × Int)) (v : Int) : Prop := rz_G4 b (rz_ff b A) (rz_tt b A) ∧ ∀ vs, rz_rw b 3 (rz_ff b A 0) (rz_tt b A 0) = some vs → v = (vs.length : Int)
theorem rz_an_n {b : Int → Int} {n : Int} {w : Nat} {G : List (Int × Int) → Int → Prop} (h : ¬ ∃ A, rz_A b n w A) : rz_an b n w G (-1) := Or.inr ⟨fun ⟨A, _, hA, _⟩ => h ⟨A, hA⟩, rfl⟩
theorem rz_an_f {b : Int → Int} {n : Int} {w : Nat} {G : List (Int × Int) → Int → Prop} {A : List (Int × Int)} (hA : rz_A b n w A) (h : ∀ v, ¬ G A v) : rz_an b n w G (-1) := Or.inr ⟨fun ⟨A2, v, hA2, hg⟩ => h v (by rw [rz_A_uniq hA hA2]; exact hg), rfl⟩
theorem rz_an_u {b : Int → Int} {n : Int} {w : Nat} {G : List (Int × Int) → Int → Prop} (hG : ∀ A v v2, G A v → G A v2 → v = v2) {v v2 : Int} (h1 : rz_an b n w G v) (h2 : rz_an b n w G v2) : v = v2 := by
  rcases h1 with ⟨A, a1, a2⟩ | ⟨a1, a2⟩
  · rcases h2 with ⟨A2, b1, b2⟩ | ⟨b1, b2⟩
    · rw [← rz_A_uniq a1 b1] at b2; exact hG A v v2 a2 b2
    · exact absurd ⟨A, v, a1, a2⟩ b1
  · rcases h2 with ⟨A2, b1, b2⟩ | ⟨b1, b2⟩
    · exact absurd ⟨A2, v2, b1, b2⟩ a1
    · rw [a2, b2]
section EzTa
variable {d : Nat} {h : cz_H} {τ : Nat → Nat} {Q : cz_F → Prop}
theorem rd_fieldsOf0 (k : Q (.inl (some (ez_v (.inl 7))), h)) : ez_W d cm_150 0 [(0, .inl (0))] [] h Q := by
  refine ez_go (n := 1) (pc' := 1) (L' := [(0, .inl (0))]) (st' := [.inl (0)]) rfl ?_
  refine ez_sw rfl ⟨by decide, by decide⟩ ⟨_, rfl, rfl⟩ ?_
  refine ez_go (n := 1) (pc' := 30) (L' := [(0, .inl (0))]) (st' := [.inl (7)]) rfl ?_
  exact ez_retI rfl rfl k

theorem rd_fieldsOf1 (k : Q (.inl (some (ez_v (.inl 5))), h)) : ez_W d cm_150 0 [(0, .inl (1))] [] h Q := by
  refine ez_go (n := 1) (pc' := 1) (L' := [(0, .inl (1))]) (st' := [.inl (1)]) rfl ?_
  refine ez_sw rfl ⟨by decide, by decide⟩ ⟨_, rfl, rfl⟩ ?_
  refine ez_go (n := 1) (pc' := 32) (L' := [(0, .inl (1))]) (st' := [.inl (5)]) rfl ?_
  exact ez_retI rfl rfl k

theorem rd_fieldsOf2 (k : Q (.inl (some (ez_v (.inl 3))), h)) : ez_W d cm_150 0 [(0, .inl (2))] [] h Q := by
  refine ez_go (n := 1) (pc' := 1) (L' := [(0, .inl (2))]) (st' := [.inl (2)]) rfl ?_
  refine ez_sw rfl ⟨by decide, by decide⟩ ⟨_, rfl, rfl⟩ ?_
  refine ez_go (n := 1) (pc' := 34) (L' := [(0, .inl (2))]) (st' := [.inl (3)]) rfl ?_
  exact ez_retI rfl rfl k

theorem rd_fieldsOf3 (k : Q (.inl (some (ez_v (.inl 2))), h)) : ez_W d cm_150 0 [(0, .inl (3))] [] h Q := by
  refine ez_go (n := 1) (pc' := 1) (L' := [(0, .inl (3))]) (st' := [.inl (3)]) rfl ?_
  refine ez_sw rfl ⟨by decide, by decide⟩ ⟨_, rfl, rfl⟩ ?_
  refine ez_go (n := 1) (pc' := 36) (L' := [(0, .inl (3))]) (st' := [.inl (2)]) rfl ?_
  exact ez_retI rfl rfl k

theorem rd_fieldsOf4 (k : Q (.inl (some (ez_v (.inl 2))), h)) : ez_W d cm_150 0 [(0, .inl (4))] [] h Q := by
  refine ez_go (n := 1) (pc' := 1) (L' := [(0, .inl (4))]) (st' := [.inl (4)]) rfl ?_
  refine ez_sw rfl ⟨by decide, by decide⟩ ⟨_, rfl, rfl⟩ ?_
  refine ez_go (n := 1) (pc' := 36) (L' := [(0, .inl (4))]) (st' := [.inl (2)]) rfl ?_
  exact ez_retI rfl rfl k

theorem rd_take_e {v kd n : Int} (hB : ez_B τ h) (t720 : τ 720 = 52) (t202 : τ 202 = 48) (v0 : -1 ≤ v) (v1 : v ≤ 1114112) (hl : v = -1 ∨ qz_I h 202 5 ≤ 255) (k : ∀ g, ez_B τ g → ez_fr (ez_one 202) h g → (∀ j, j ≠ 5 → qz_I g 202 j = qz_I h 202 j) → qz_I g 202 5 = qz_I h 202 5 + (if v = -1 then 0 else 1) → Q (.inl (some (ez_v (.inl v))), g)) : ez_W (d + 1) cm_174 97 [(3, .inl (v)), (0, .inr (.inr (some (720)))), (1, .inl (kd)), (2, .inl (n))] [] h Q := by
  refine ez_go (n := 1) (pc' := 98) (L' := [(3, .inl (v)), (0, .inr (.inr (some (720)))), (1, .inl (kd)), (2, .inl (n))]) (st' := [.inr (.inr (some (720)))]) rfl ?_
  refine ez_gC (p := 202) (tg := 48) hB t720 rfl rfl tq_52 rfl rfl (fun (t202 : _ = 48) => ?_)
  refine ez_go (n := 1) (pc' := 102) (L' := [(3, .inl (v)), (0, .inr (.inr (some (720)))), (1, .inl (kd)), (2, .inl (n))]) (st' := [.inr (.inr (some (202))), .inr (.inr (some (202)))]) rfl ?_
  refine ez_gI hB t202 rfl rfl tq_48 rfl rfl (fun (b1 : 0 ≤ qz_I h 202 5) (b1' : qz_I h 202 5 ≤ 256) => ?_)
  refine ez_go (n := 2) (pc' := 107) (L' := [(3, .inl (v)), (0, .inr (.inr (some (720)))), (1, .inl (kd)), (2, .inl (n))]) (st' := [.inl (-1), .inl (v), .inl (qz_I h 202 5), .inr (.inr (some (202)))]) rfl ?_
  refine ez_icmp rfl rfl ⟨by first | omega | exact (sz_i32 _).1, by first | omega | exact (sz_i32 _).2⟩ ⟨by first | omega | exact (sz_i32 _).1, by first | omega | exact (sz_i32 _).2⟩ (fun (c2 : (v) = (-1)) => ?_) (fun (c2 : ¬((v) = (-1))) => ?_)
  · skip
    refine ez_go (n := 2) (pc' := 116) (L' := [(3, .inl (v)), (0, .inr (.inr (some (720)))), (1, .inl (kd)), (2, .inl (n))]) (st' := [.inl ((qz_I h 202 5) + (0)), .inr (.inr (some (202)))]) rfl ?_
    refine ez_pf hB t202 rfl rfl tq_48 rfl rfl rfl rfl (ez_vdI rfl rfl (by omega) (by omega)) (fun hB3 w4 => ?_)
    refine ez_go (n := 1) (pc' := 120) (L' := [(3, .inl (v)), (0, .inr (.inr (some (720)))), (1, .inl (kd)), (2, .inl (n))]) (st' := [.inl (v)]) rfl ?_
    exact ez_retI rfl rfl (k _ hB3 ((ez_fr.refl (ez_one 202) h).put (show Nat.beq 202 202 = true from rfl) _ _) (fun j hj => ez_put_I (fun w => hj w.2)) (by rw [w4, rz_rd ⟨by omega, by omega⟩]; split <;> omega))
  · skip
    refine ez_go (n := 3) (pc' := 116) (L' := [(3, .inl (v)), (0, .inr (.inr (some (720)))), (1, .inl (kd)), (2, .inl (n))]) (st' := [.inl ((qz_I h 202 5) + (1)), .inr (.inr (some (202)))]) rfl ?_
    refine ez_pf hB t202 rfl rfl tq_48 rfl rfl rfl rfl (ez_vdI rfl rfl (by omega) (by omega)) (fun hB5 w6 => ?_)
    refine ez_go (n := 1) (pc' := 120) (L' := [(3, .inl (v)), (0, .inr (.inr (some (720)))), (1, .inl (kd)), (2, .inl (n))]) (st' := [.inl (v)]) rfl ?_
    exact ez_retI rfl rfl (k _ hB5 ((ez_fr.refl (ez_one 202) h).put (show Nat.beq 202 202 = true from rfl) _ _) (fun j hj => ez_put_I (fun w => hj w.2)) (by rw [w6, rz_rd ⟨by omega, by omega⟩]; split <;> omega))

/-- behind a LINE that is none: nothing of DATA has changed -/
theorem jz_no {τ1 : Nat → Nat} {g : cz_H} {F : rz_W} {E : Int → Prop} {a b : Nat} (hI : jz_I τ h F E) (hB : ez_B τ1 g) (x : fz τ h τ1 g a b) (e2 : ∀ j, qz_I g 202 j = qz_I h 202 j) (e3 : g.2.2 203 = h.2.2 203) (e5 : g.2.2 205 = h.2.2 205) (e4 : ∀ q, τ q = 4 → g.2.2 q = h.2.2 q) : jz_I τ1 g F E := by
  obtain ⟨i1, i2, ⟨i3, i4⟩, i5, i6, i7, i8, Xs, i9, i10⟩ := hI
  have t202 : τ 202 = 48 := i2 202 (by decide)
  have t203 : τ 203 = 49 := i2 203 (by decide)
  have bn := sz_R_n1 i1 t202
  have hp : ∀ k, sz_p g k = sz_p h k := fun k => by unfold sz_p qz_P qz_I; rw [e3]
  have hs : ∀ k, 0 ≤ k → k < 513 → ∀ j, qz_I g (sz_p g k) j = qz_I h (sz_p h k) j := fun k k0 k1 j => by
    rw [hp]
    unfold qz_I
    rw [e4 _ (sz_tag i1 t203 k0 k1)]
  refine ⟨hB, i2.fz x, ⟨⟨?_, fun i j i0 ij jn => ?_⟩, fun i j i0 i1' j0 j1 e => ?_⟩, fun i hi => ?_, ?_, nz_Z_fz i1 i2 i7 x, ?_, Xs, ?_, i10⟩
  · unfold sz_f; rw [hs 0 (by omega) (by omega)]; exact i3.1
  · rw [e2] at jn
    unfold sz_f
    rw [hs i i0 (by omega), hs j (by omega) (by omega)]
    exact i3.2 i j i0 ij jn
  · rw [hp, hp] at e; exact i4 i j i0 i1' j0 j1 e
  · rw [e2] at hi; unfold qz_I; rw [e5]; exact i5 i hi
  · rw [e2, e2]; exact i6
  · refine sz_D_tr i1 t202 t203 i8 (e2 1) e3 e4 (fun q hq => ?_) (fun p hp => ?_)
    · have := (x.1 q (by rw [hq]; decide)).2 (by rw [hq]; rfl)
      unfold qz_I; rw [this]; exact ⟨rfl, rfl, rfl, rfl⟩
    · have := x.1 p (by rw [hp]; decide)
      exact ⟨this.1.trans hp, this.2 (by rw [hp]; rfl)⟩
  · rw [e2]; exact i9
/-- behind a LINE that was taken -/
theorem jz_yes {τ1 : Nat → Nat} {g g2 : cz_H} {F F' : rz_W} {E E' : Int → Prop} {a b : Nat} (hI : jz_I τ h F E) (hB2 : ez_B τ1 g2) (x : fz τ h τ1 g2 a b) (hBg : ez_B τ1 g) (ok : sz_ok g ∧ sz_inj g) (hE : ∀ i : Nat, (i : Int) < qz_I g 202 4 → 1 ≤ qz_I g 205 i) (hn : qz_I g 202 1 ≤ qz_I h 202 1 + 2) (h5 : qz_I g 202 5 = qz_I h 202 5) (hD : sz_D τ1 g F' E') (hf : ez_fr (ez_one 202) g g2) (hj : ∀ j, j ≠ 5 → qz_I g2 202 j = qz_I g 202 j) (hl : qz_I g2 202 5 = qz_I g 202 5 + 1) (hXs : ∃ y, ∀ x, (F' x).2 ≠ none → (F x).2 ≠ none ∨ x = y) : jz_I τ1 g2 F' E' := by
  obtain ⟨i1, i2, -, -, i6, i7, -, Xs, i9, i10⟩ := hI
  have X1 := i2.fz x
  have t202 : τ1 202 = 48 := X1 202 (by decide)
  have t203 : τ1 203 = 49 := X1 203 (by decide)
  have fr : ∀ q, q ≠ 202 → g2.2.2 q = g.2.2 q := fun q hq => hf.2.2 q (dz_beq_ne hq)
  have h3 := fr 203 (by decide)
  have h4 : ∀ q, τ1 q = 4 → g2.2.2 q = g.2.2 q := fun q hq => fr q (fun e => by rw [e, t202] at hq; cases hq)
  have bn := sz_R_n1 hBg t202
  have hp : ∀ k, sz_p g2 k = sz_p g k := fun k => by unfold sz_p qz_P qz_I; rw [h3]
  have hs : ∀ k, 0 ≤ k → k < 513 → ∀ j, qz_I g2 (sz_p g2 k) j = qz_I g (sz_p g k) j := fun k k0 k1 j => by
    rw [hp]
    unfold qz_I
    rw [h4 _ (sz_tag hBg t203 k0 k1)]
  refine ⟨hB2, X1, ⟨⟨?_, fun i j i0 ij jn => ?_⟩, fun i j i0 i1' j0 j1 e => ?_⟩, fun i hi => ?_, ?_, nz_Z_fz i1 i2 i7 x, ?_, ?_⟩
  · unfold sz_f; rw [hs 0 (by omega) (by omega)]; exact ok.1.1
  · rw [hj 1 (by decide)] at jn
    unfold sz_f
    rw [hs i i0 (by omega), hs j (by omega) (by omega)]
    exact ok.1.2 i j i0 ij jn
  · rw [hp, hp] at e; exact ok.2 i j i0 i1' j0 j1 e
  · rw [hj 4 (by decide)] at hi; unfold qz_I; rw [fr 205 (by decide)]; exact hE i hi
  · rw [hj 1 (by decide), hl]; omega
  · refine sz_D_tr hBg t202 t203 hD (hj 1 (by decide)) h3 h4 (fun q hq => ?_) (fun p hp => ⟨hp, fr p (fun e => by rw [e, t202] at hp; cases hp)⟩)
    have := fr q (fun e => by rw [e, t202] at hq; cases hq)
    unfold qz_I; rw [this]; exact ⟨rfl, rfl, rfl, rfl⟩
  · obtain ⟨y, hy⟩ := hXs
    refine ⟨y :: Xs, by rw [hl]; simp only [List.length_cons]; omega, fun x hx => ?_⟩
    rcases hy x hx with w | w
    · exact List.mem_cons_of_mem _ (i10 x w)
    · rw [w]; exact List.mem_cons_self
theorem rz_A_ff {b : Int → Int} {n : Int} {w : Nat} {A : List (Int × Int)} (hA : rz_A b n w A) {k : Int} (k0 : 0 ≤ k) (k1 : k < (A.length : Int)) : rz_ff b A k ≤ rz_tt b A k := by
  obtain ⟨c, -, h2, rfl, -⟩ := hA
  have hk : k.toNat < (rz_seg b c.toNat 0 0).length := by omega
  have hm : (rz_seg b c.toNat 0 0).getD k.toNat (0, 0) ∈ rz_seg b c.toNat 0 0 := by
    rw [List.getD_eq_getElem?_getD, List.getElem?_eq_getElem hk]
    exact List.getElem_mem hk
  have := rz_seg_le b c.toNat 0 0 (Int.le_refl _) _ hm
  exact (rz_tl_tr b _ this.2.1).2.1
theorem sz_pe_ok {g : cz_H} (hB : ez_B τ h) (t203 : τ 203 = 49) (t202 : τ 202 = 48) (e2 : qz_I g 202 1 = qz_I h 202 1) (e3 : g.2.2 203 = h.2.2 203) (e4 : ∀ q, τ q = 4 → g.2.2 q = h.2.2 q) (hs : sz_ok h) (hi : sz_inj h) : sz_ok g ∧ sz_inj g := by
  have bn := sz_R_n1 hB t202
  have hp : ∀ k, sz_p g k = sz_p h k := fun k => by unfold sz_p qz_P qz_I; rw [e3]
  have hss : ∀ k, 0 ≤ k → k < 513 → ∀ j, qz_I g (sz_p g k) j = qz_I h (sz_p h k) j := fun k k0 k1 j => by
    rw [hp]
    unfold qz_I
    rw [e4 _ (sz_tag hB t203 k0 k1)]
  refine ⟨⟨?_, fun i j i0 ij jn => ?_⟩, fun i j i0 i1' j0 j1 e => ?_⟩
  · unfold sz_f; rw [hss 0 (by omega) (by omega)]; exact hs.1
  · rw [e2] at jn
    unfold sz_f
    rw [hss i i0 (by omega), hss j (by omega) (by omega)]
    exact hs.2 i j i0 ij jn
  · rw [hp, hp] at e; exact hi i j i0 i1' j0 j1 e
theorem rd_take0 {F : rz_W} {E : Int → Prop} {n : Int} {D : Int → xD} (hI : jz_I τ h F E) (hX : jx τ h D) (n0 : 0 ≤ n) (n1 : n ≤ 4096) (hl : n = 0 ∨ qz_I h 202 5 ≤ 255) (hr1 : h.1 + 4 ≤ 600192) (hr2 : h.2.1 + 59 ≤ 7302232) (k : ∀ g τ1 F2 E2 (v : Int) D2, jz_I τ1 g F2 E2 → fz τ h τ1 g 4 59 → rz_step (rz_b h) n 0 F E F2 E2 → ((v = -1 ∧ qz_I g 202 5 = qz_I h 202 5) ∨ (0 ≤ v ∧ v ≤ 1114112 ∧ 0 < n ∧ qz_I g 202 5 = qz_I h 202 5 + 1)) → (∀ j, j ≠ 1 → j ≠ 4 → j ≠ 5 → qz_I g 202 j = qz_I h 202 j) → rz_an (rz_b h) n 7 (rz_g0 (rz_b h)) v → xsl (rz_b h) n 0 D v D2 → jx τ1 g D2 → Q (.inl (some (ez_v (.inl v))), g)) : ez_W (d + 8) cm_174 0 [(0, .inr (.inr (some (720)))), (1, .inl (0)), (2, .inl (n))] [] h Q := by
  have t193 : τ 193 = 45 := hI.2.1 193 (by decide)
  have t202 : τ 202 = 48 := hI.2.1 202 (by decide)
  have t203 : τ 203 = 49 := hI.2.1 203 (by decide)
  have t204 : τ 204 = 50 := hI.2.1 204 (by decide)
  have t205 : τ 205 = 51 := hI.2.1 205 (by decide)
  have t720 : τ 720 = 52 := hI.2.1 720 (by decide)
  have t721 : τ 721 = 53 := hI.2.1 721 (by decide)
  have t722 : τ 722 = 54 := hI.2.1 722 (by decide)
  have hB := hI.1
  refine ez_go (n := 1) (pc' := 1) (L' := [(0, .inr (.inr (some (720)))), (1, .inl (0)), (2, .inl (n))]) (st' := [.inr (.inr (some (720)))]) rfl ?_
  refine ez_gC (p := 202) (tg := 48) hB t720 rfl rfl tq_52 rfl rfl (fun (t202 : _ = 48) => ?_)
  refine ez_gI hB t202 rfl rfl tq_48 rfl rfl (fun (b1 : 0 ≤ qz_I h 202 5) (b1' : qz_I h 202 5 ≤ 256) => ?_)
  refine ez_go (n := 1) (pc' := 10) (L' := [(0, .inr (.inr (some (720)))), (1, .inl (0)), (2, .inl (n))]) (st' := [.inl (256), .inl (qz_I h 202 5)]) rfl ?_
  refine ez_icmp rfl rfl ⟨by first | omega | exact (sz_i32 _).1, by first | omega | exact (sz_i32 _).2⟩ ⟨by first | omega | exact (sz_i32 _).1, by first | omega | exact (sz_i32 _).2⟩ (fun (c2 : (256) ≤ (qz_I h 202 5)) => ?_) (fun (c2 : ¬((256) ≤ (qz_I h 202 5))) => ?_)
  · skip
    refine ez_go (n := 1) (pc' := 26) (L' := [(0, .inr (.inr (some (720)))), (1, .inl (0)), (2, .inl (n))]) (st' := [.inl (-1)]) rfl ?_
    exact ez_retI rfl rfl (k h τ F E (-1) D hI (fz.refl _ _ _ _) ⟨fun _ => Or.inr ⟨(fun ⟨_, _, _, _, A, hA, _⟩ => by have := rz_A_pos (by decide) hA; omega), rfl, rfl⟩, fun w => absurd w (by decide), fun w _ => absurd rfl w⟩ (Or.inl ⟨rfl, rfl⟩) (fun _ _ _ _ => rfl) (rz_an_n (fun ⟨A, hA⟩ => by have := rz_A_pos (by decide) hA; omega)) (Or.inl ⟨rfl, rfl⟩) hX)
  · skip
    refine ez_go (n := 3) (pc' := 16) (L' := [(0, .inr (.inr (some (720)))), (1, .inl (0)), (2, .inl (n))]) (st' := [.inl (0), .inl (n), .inr (.inr (some (720)))]) rfl ?_
    refine ez_cs hB.2.1 rfl rfl rfl rfl rfl (rd_fieldsOf0 (ez_K1 ?_))
    refine ez_cv hB t720 rfl rfl rfl tq_52 rfl rfl rfl (rd_split hB t720 t721 t722 n0 n1 (by omega) (by omega) (fun g0 hB0 f0 hno => ez_K1 ?_) (fun g0 c hB0 f0 hpl hha hlen hfl => ez_K1 ?_))
    · skip
      have x0 := fz_ft t721 t722 f0
      have q202 : ∀ j, qz_I g0 202 j = qz_I h 202 j := fun j => f0.I rfl j
      have hI0 : jz_I τ g0 F E := jz_no hI hB0 x0 q202 (f0.2.2 203 rfl) (f0.2.2 205 rfl) (fun q hq => f0.2.2 q (by unfold rz_ft; rw [dz_beq_ne (fun e => by rw [e, t721] at hq; cases hq), dz_beq_ne (fun e => by rw [e, t722] at hq; cases hq)]; rfl))
      have hX0 : jx τ g0 D := jx_tr hI.1 t202 t203 hX (q202 1) (f0.2.2 203 rfl) (fun q hq => ⟨rfl, f0.2.2 q (by unfold rz_ft; rw [dz_beq_ne (fun e => by rw [e, t721] at hq; omega), dz_beq_ne (fun e => by rw [e, t722] at hq; omega)]; rfl)⟩)
      have b0 : rz_b g0 = rz_b h := rz_b_fr f0 rfl
      refine ez_if rfl rfl ⟨by decide, by decide⟩ (fun (c3 : (0 : Int) ≠ (0)) => absurd c3 (by decide)) (fun _ => ?_)
      refine ez_go (n := 1) (pc' := 26) (L' := [(0, .inr (.inr (some (720)))), (1, .inl (0)), (2, .inl (n))]) (st' := [.inl (-1)]) rfl ?_
      exact ez_retI rfl rfl (k g0 τ F E (-1) D hI0 (x0.mono (by omega) (by omega)) ⟨fun _ => Or.inr ⟨(fun ⟨_, _, _, _, A, hA, _⟩ => by obtain ⟨c, c1, c2, c3, c4⟩ := hA; exact hno c1 c c2.1 c2.2.1 c2.2.2.1 c2.2.2.2 (by rw [← c3]; exact c4)), rfl, rfl⟩, fun w => absurd w (by decide), fun w _ => absurd rfl w⟩ (Or.inl ⟨rfl, q202 5⟩) (fun j _ _ _ => q202 j) (rz_an_n (fun ⟨A, hA⟩ => by obtain ⟨c, c1, c2, c3, c4⟩ := hA; exact hno c1 c c2.1 c2.2.1 c2.2.2.1 c2.2.2.2 (by rw [← c3]; exact c4))) (Or.inl ⟨rfl, rfl⟩) hX0)
    · skip
      have x0 := fz_ft t721 t722 f0
      have q202 : ∀ j, qz_I g0 202 j = qz_I h 202 j := fun j => f0.I rfl j
      have hI0 : jz_I τ g0 F E := jz_no hI hB0 x0 q202 (f0.2.2 203 rfl) (f0.2.2 205 rfl) (fun q hq => f0.2.2 q (by unfold rz_ft; rw [dz_beq_ne (fun e => by rw [e, t721] at hq; cases hq), dz_beq_ne (fun e => by rw [e, t722] at hq; cases hq)]; rfl))
      have hX0 : jx τ g0 D := jx_tr hI.1 t202 t203 hX (q202 1) (f0.2.2 203 rfl) (fun q hq => ⟨rfl, f0.2.2 q (by unfold rz_ft; rw [dz_beq_ne (fun e => by rw [e, t721] at hq; omega), dz_beq_ne (fun e => by rw [e, t722] at hq; omega)]; rfl)⟩)
      have b0 : rz_b g0 = rz_b h := rz_b_fr f0 rfl
      have hA : rz_A (rz_b h) n 7 (rz_seg (rz_b h) c.toNat 0 0) := ⟨c, hpl, hha, rfl, hlen⟩
      generalize rz_seg (rz_b h) c.toNat 0 0 = A at hA hfl hlen
      have hlen : (A.length : Int) = 7 := by rw [hlen]; rfl
      have hfa : ∀ k, 0 ≤ k → k ≤ 6 → rz_f g0 k = rz_ff (rz_b h) A k ∧ rz_t g0 k = rz_tt (rz_b h) A k := fun k k0 k1 => rz_flds_at hfl k0 (by omega)
      have hft : ∀ k, 0 ≤ k → k ≤ 6 → rz_f g0 k ≤ rz_t g0 k := fun k k0 k1 => by
        obtain ⟨w1, w2⟩ := hfa k k0 k1
        rw [w1, w2]
        exact rz_A_ff hA (by omega) (by omega)
      have hlt : qz_I h 202 5 ≤ 255 := by omega
      have hnp := rz_A_pos (by decide) hA
      have fc0 := x0.2
      have i6 := hI.2.2.2.2.1
      have hsp : qz_I g0 202 1 + 2 ≤ 513 := by rw [q202]; omega
      refine ez_if rfl rfl ⟨by decide, by decide⟩ (fun _ => ?_) (fun (c4 : ¬((1 : Int) ≠ (0))) => absurd c4 (by decide))
      refine ez_go (n := 1) (pc' := 28) (L' := [(0, .inr (.inr (some (720)))), (1, .inl (0)), (2, .inl (n))]) (st' := [.inl (0)]) rfl ?_
      refine ez_sw rfl ⟨by decide, by decide⟩ ⟨_, rfl, rfl⟩ ?_
      refine ez_go (n := 1) (pc' := 61) (L' := [(0, .inr (.inr (some (720)))), (1, .inl (0)), (2, .inl (n))]) (st' := [.inr (.inr (some (720)))]) rfl ?_
      refine ez_cv hB0 t720 rfl rfl rfl tq_52 rfl rfl rfl (rd_takeFact hB0 t193 t202 t203 t720 t721 t722 hI0.2.2.1.1 hI0.2.2.1.2 hft hsp (by omega) (by omega) (fun g1 τ1 hB1 hx hno => ez_K1 ?_) (fun g1 h1 τ1 first last cls dec hB1 hBh hx t3 hF r0 r2 hD hrE ht => ez_K1 ?_))
      · skip
        have xx := x0.trans (fz_xr t720 hx)
        have w202 : ∀ j, qz_I g1 202 j = qz_I g0 202 j := fun j => hx.I (by rw [t202]; decide) (by decide) j
        have hI1 : jz_I τ1 g1 F E := jz_no hI0 hB1 (fz_xr t720 hx) w202 ((hx.1 203 (by rw [t203]; decide)).2 (by decide)) ((hx.1 205 (by rw [t205]; decide)).2 (by decide)) (fun q hq => (hx.1 q (by rw [hq]; decide)).2 (fun e => by rw [e, t720] at hq; cases hq))
        have u202 : τ1 202 = 48 := hI1.2.1 202 (by decide)
        have u720 : τ1 720 = 52 := hI1.2.1 720 (by decide)
        have u203 : τ1 203 = 49 := hI1.2.1 203 (by decide)
        have hX1 : jx τ1 g1 D := jx_tr hI0.1 t202 t203 hX0 (w202 1) ((hx.1 203 (by rw [t203]; decide)).2 (by decide)) (fun q hq => ⟨(hx.1 q (by omega)).1, (hx.1 q (by omega)).2 (fun e => by rw [e, t720] at hq; omega)⟩)
        have hnone : ¬ ∃ first last cls dec, rz_L0 (rz_b h) n first last cls dec := fun ⟨f, l, c2, dd, A2, hA2, w⟩ => hno ⟨f, l, c2, dd, by rw [← rz_A_uniq hA hA2] at w; rw [b0]; exact rz_F_congr (fun k k0 k1 => (hfa k k0 k1).1.symm) (fun k k0 k1 => (hfa k k0 k1).2.symm) w⟩
        have hans : rz_an (rz_b h) n 7 (rz_g0 (rz_b h)) (-1) := rz_an_f hA (fun v w => by obtain ⟨f, l, c2, dd, w1, -⟩ := w; exact hnone ⟨f, l, c2, dd, A, hA, w1⟩)
        refine ez_go (n := 2) (pc' := 97) (L' := [(3, .inl (-1)), (0, .inr (.inr (some (720)))), (1, .inl (0)), (2, .inl (n))]) (st' := []) rfl ?_
        refine ez_less [(3, .inl (-1)), (0, .inr (.inr (some (720)))), (1, .inl (0)), (2, .inl (n))] rfl ⟨rfl, rfl, rfl, rfl, trivial⟩ ?_
        refine rd_take_e hB1 u720 u202 (by omega) (by omega) (Or.inl rfl) (fun g9 hB9 f9 j9 l9 => ?_)
        rw [if_pos rfl] at l9
        have y9 := fz_1 u202 rfl f9
        have e9 : ∀ j, qz_I g9 202 j = qz_I g1 202 j := fun j => by by_cases w : j = 5; (· rw [w, l9]; omega); (· exact j9 j w)
        have hI9 : jz_I τ1 g9 F E := jz_no hI1 hB9 y9 e9 (f9.2.2 203 rfl) (f9.2.2 205 rfl) (fun q hq => f9.2.2 q (rz_ne hq u202 rfl))
        have hX9 : jx τ1 g9 D := jx_tr hB1 u202 u203 hX1 (e9 1) (f9.2.2 203 rfl) (fun q hq => ⟨rfl, f9.2.2 q (dz_beq_ne (fun e => by rw [e, u202] at hq; omega))⟩)
        exact k g9 _ F E (-1) D hI9 ((xx.trans y9).mono (by omega) (by omega)) ⟨fun _ => Or.inr ⟨hnone, rfl, rfl⟩, fun w => absurd w (by decide), fun w _ => absurd rfl w⟩ (Or.inl ⟨rfl, by rw [e9, w202, q202]⟩) (fun j _ _ _ => by rw [e9, w202, q202]) hans (Or.inl ⟨rfl, rfl⟩) hX9
      · skip
        have xr := fz_xr t720 hx
        have X1 := hI0.2.1.fz xr
        have u202 : τ1 202 = 48 := X1 202 (by decide)
        have u203 : τ1 203 = 49 := X1 203 (by decide)
        have u204 : τ1 204 = 50 := X1 204 (by decide)
        have u205 : τ1 205 = 51 := X1 205 (by decide)
        have u720 : τ1 720 = 52 := X1 720 (by decide)
        have w202 : ∀ j, qz_I h1 202 j = qz_I g0 202 j := fun j => hx.I (by rw [t202]; decide) (by decide) j
        have c205 : h1.2.2 205 = g0.2.2 205 := (hx.1 205 (by rw [t205]; decide)).2 (by decide)
        have c203 : h1.2.2 203 = g0.2.2 203 := (hx.1 203 (by rw [t203]; decide)).2 (by decide)
        have c4 : ∀ q, τ q = 4 → h1.2.2 q = g0.2.2 q := fun q hq => (hx.1 q (by rw [hq]; decide)).2 (fun e => by rw [e, t720] at hq; cases hq)
        have hXh : jx τ1 h1 D := jx_tr hB0 t202 t203 hX0 (w202 1) c203 (fun q hq => ⟨(hx.1 q (by omega)).1, (hx.1 q (by omega)).2 (fun e => by rw [e, t720] at hq; omega)⟩)
        have hDh : sz_D τ1 h1 F E := sz_D_tr hB0 t202 t203 hI0.2.2.2.2.2.2.1 (w202 1) c203 c4 (fun q hq => by have := (xr.1 q (by rw [hq]; decide)).2 (by rw [hq]; rfl); unfold qz_I; rw [this]; exact ⟨rfl, rfl, rfl, rfl⟩) (fun p hp => by have := xr.1 p (by rw [hp]; decide); exact ⟨this.1.trans hp, this.2 (by rw [hp]; rfl)⟩)
        have hok9 : sz_ok g1 ∧ sz_inj g1 := ⟨ht.1, ht.2.1⟩
        have p205 : sz_PS τ1 205 = false := by unfold sz_PS; rw [u205]; rfl
        have hE9 : ∀ i : Nat, (i : Int) < qz_I g1 202 4 → 1 ≤ qz_I g1 205 i := fun i hi => by rw [ht.2.2.2.1 4 (by decide), w202] at hi; rw [ht.2.2.1.I p205]; unfold qz_I; rw [c205]; exact hI0.2.2.2.1 i hi
        have hn9 : qz_I g1 202 1 ≤ qz_I g0 202 1 + 2 := by have := ht.2.2.2.2.1; rw [w202] at this; exact this
        have h59 : qz_I g1 202 5 = qz_I g0 202 5 := (ht.2.2.2.1 5 (by decide)).trans (w202 5)
        have ho9 : ∀ j, j ≠ 1 → j ≠ 4 → qz_I g1 202 j = qz_I g0 202 j := fun j j1 _ => (ht.2.2.2.1 j j1).trans (w202 j)
        have xg := xr.trans (fz_PS u202 u203 ht.2.2.1)
        rw [b0] at hF
        have hF := rz_F_congr (fun k k0 k1 => (hfa k k0 k1).1) (fun k k0 k1 => (hfa k k0 k1).2) hF
        have hF1 := hF.1
        have bl := rz_last_bd (rz_b h) (rz_ff (rz_b h) A 0) (rz_tt (rz_b h) A 0)
        have bf := rz_code_bd (rz_b h) (rz_ff (rz_b h) A 0) (rz_dots (rz_b h) (rz_tt (rz_b h) A 0 - rz_ff (rz_b h) A 0).toNat (rz_ff (rz_b h) A 0))
        have ef2 : rz_first (rz_b h) (rz_ff (rz_b h) A 0) (rz_tt (rz_b h) A 0) = rz_code (rz_b h) (rz_ff (rz_b h) A 0) (rz_dots (rz_b h) (rz_tt (rz_b h) A 0 - rz_ff (rz_b h) A 0).toNat (rz_ff (rz_b h) A 0)) := rfl
        have hone : dec ≠ none → first = last := fun w => by
          by_cases e : first < last
          · exfalso
            rcases hF.2.2.2.1 with ⟨_, w2⟩ | ⟨w2, _⟩
            · exact w w2
            · exact w2 (hF.2.2.2.2.2 e 3 (by omega) (by omega))
          · omega
        obtain ⟨F2, hF2⟩ : ∃ F2 : rz_W, ∀ x, F2 x = if first ≤ x ∧ x ≤ last then (cls, dec) else F x := ⟨fun x => if first ≤ x ∧ x ≤ last then (cls, dec) else F x, fun x => rfl⟩
        obtain ⟨E2, hE2⟩ : ∃ E2, E2 = E := ⟨E, rfl⟩
        have hD9 : sz_D τ1 g1 F2 E2 := by rw [hE2]; exact sz_D_F hBh u202 u203 t3 hDh ht r0 r2 hD hone hF2
        have hXs : ∃ y, ∀ x, (F2 x).2 ≠ none → (F x).2 ≠ none ∨ x = y := ⟨first, fun x hx => by
          rw [hF2 x] at hx
          by_cases e : first ≤ x ∧ x ≤ last
          · rw [if_pos e] at hx; have := hone hx; exact Or.inr (by omega)
          · rw [if_neg e] at hx; exact Or.inl hx⟩
        have hstep : rz_step (rz_b h) n 0 F E F2 E2 := ⟨fun _ => Or.inl ⟨first, last, cls, dec, ⟨A, hA, hF⟩, hF2, hE2⟩, fun w => absurd w (by decide), fun w _ => absurd rfl w⟩
        have hans : rz_an (rz_b h) n 7 (rz_g0 (rz_b h)) (last - first + 1) := Or.inl ⟨A, hA, first, last, cls, dec, hF, rfl⟩
        unfold rz_E at hrE; rw [b0, (hfa 1 (by omega) (by omega)).1, (hfa 4 (by omega) (by omega)).1, (hfa 5 (by omega) (by omega)).1, (hfa 6 (by omega) (by omega)).1, (hfa 4 (by omega) (by omega)).2, (hfa 5 (by omega) (by omega)).2, (hfa 6 (by omega) (by omega)).2] at hrE
        obtain ⟨D2, hD2⟩ : ∃ D2, D2 = xd D ((0, rz_first (rz_b h) (rz_ff (rz_b h) A 0) (rz_tt (rz_b h) A 0), rz_last (rz_b h) (rz_ff (rz_b h) A 0) (rz_tt (rz_b h) A 0)), (rz_b h (rz_ff (rz_b h) A 1) * 256 + rz_b h (rz_ff (rz_b h) A 1 + 1), rz_code (rz_b h) (rz_ff (rz_b h) A 4) (rz_tt (rz_b h) A 4), rz_code (rz_b h) (rz_ff (rz_b h) A 5) (rz_tt (rz_b h) A 5), rz_code (rz_b h) (rz_ff (rz_b h) A 6) (rz_tt (rz_b h) A 6)), (0, 0), (0, [], [], [])) := ⟨_, rfl⟩
        have hxs : xsl (rz_b h) n 0 D (last - first + 1) D2 := Or.inr ⟨by omega, _, Or.inl ⟨rfl, A, hA, rfl⟩, hD2⟩
        have hX1 : jx τ1 g1 D2 := jx_F hBh u202 u203 t3 hXh ht hrE (fun x => by rw [hD2, xd_0, ← hF1.1, ← hF1.2.1])
        refine ez_go (n := 2) (pc' := 97) (L' := [(3, .inl (last - first + 1)), (0, .inr (.inr (some (720)))), (1, .inl (0)), (2, .inl (n))]) (st' := []) rfl ?_
        refine ez_less [(3, .inl (last - first + 1)), (0, .inr (.inr (some (720)))), (1, .inl (0)), (2, .inl (n))] rfl ⟨rfl, rfl, rfl, rfl, trivial⟩ ?_
        refine rd_take_e hB1 u720 u202 (by omega) (by omega) (Or.inr (by rw [h59, q202]; exact hlt)) (fun g9 hB9 f9 j9 l9 => ?_)
        rw [if_neg (by omega)] at l9
        have y9 := fz_1 u202 rfl f9
        have hX9 : jx τ1 g9 D2 := jx_tr hB1 u202 u203 hX1 (j9 1 (by decide)) (f9.2.2 203 rfl) (fun q hq => ⟨rfl, f9.2.2 q (dz_beq_ne (fun e => by rw [e, u202] at hq; omega))⟩)
        refine k g9 _ F2 E2 _ D2 (jz_yes hI0 hB9 (xg.trans y9) hB1 hok9 hE9 hn9 h59 hD9 f9 j9 l9 hXs) (((x0.trans xg).trans y9).mono (by omega) (by omega)) hstep (Or.inr ⟨by omega, by omega, hnp, by rw [l9, h59, q202]⟩) (fun j j1 j4 j5 => by rw [j9 j j5, ho9 j j1 j4, q202]) hans hxs hX9

theorem rd_take1 {F : rz_W} {E : Int → Prop} {n : Int} {D : Int → xD} (hI : jz_I τ h F E) (hX : jx τ h D) (n0 : 0 ≤ n) (n1 : n ≤ 4096) (hl : n = 0 ∨ qz_I h 202 5 ≤ 255) (hr1 : h.1 + 4 ≤ 600192) (hr2 : h.2.1 + 59 ≤ 7302232) (k : ∀ g τ1 F2 E2 (v : Int) D2, jz_I τ1 g F2 E2 → fz τ h τ1 g 4 59 → rz_step (rz_b h) n 1 F E F2 E2 → ((v = -1 ∧ qz_I g 202 5 = qz_I h 202 5) ∨ (0 ≤ v ∧ v ≤ 1114112 ∧ 0 < n ∧ qz_I g 202 5 = qz_I h 202 5 + 1)) → (∀ j, j ≠ 1 → j ≠ 4 → j ≠ 5 → qz_I g 202 j = qz_I h 202 j) → rz_an (rz_b h) n 5 (rz_g1 (rz_b h)) v → xsl (rz_b h) n 1 D v D2 → jx τ1 g D2 → Q (.inl (some (ez_v (.inl v))), g)) : ez_W (d + 8) cm_174 0 [(0, .inr (.inr (some (720)))), (1, .inl (1)), (2, .inl (n))] [] h Q := by
  have t193 : τ 193 = 45 := hI.2.1 193 (by decide)
  have t202 : τ 202 = 48 := hI.2.1 202 (by decide)
  have t203 : τ 203 = 49 := hI.2.1 203 (by decide)
  have t204 : τ 204 = 50 := hI.2.1 204 (by decide)
  have t205 : τ 205 = 51 := hI.2.1 205 (by decide)
  have t720 : τ 720 = 52 := hI.2.1 720 (by decide)
  have t721 : τ 721 = 53 := hI.2.1 721 (by decide)
  have t722 : τ 722 = 54 := hI.2.1 722 (by decide)
  have hB := hI.1
  refine ez_go (n := 1) (pc' := 1) (L' := [(0, .inr (.inr (some (720)))), (1, .inl (1)), (2, .inl (n))]) (st' := [.inr (.inr (some (720)))]) rfl ?_
  refine ez_gC (p := 202) (tg := 48) hB t720 rfl rfl tq_52 rfl rfl (fun (t202 : _ = 48) => ?_)
  refine ez_gI hB t202 rfl rfl tq_48 rfl rfl (fun (b1 : 0 ≤ qz_I h 202 5) (b1' : qz_I h 202 5 ≤ 256) => ?_)
  refine ez_go (n := 1) (pc' := 10) (L' := [(0, .inr (.inr (some (720)))), (1, .inl (1)), (2, .inl (n))]) (st' := [.inl (256), .inl (qz_I h 202 5)]) rfl ?_
  refine ez_icmp rfl rfl ⟨by first | omega | exact (sz_i32 _).1, by first | omega | exact (sz_i32 _).2⟩ ⟨by first | omega | exact (sz_i32 _).1, by first | omega | exact (sz_i32 _).2⟩ (fun (c2 : (256) ≤ (qz_I h 202 5)) => ?_) (fun (c2 : ¬((256) ≤ (qz_I h 202 5))) => ?_)
  · skip
    refine ez_go (n := 1) (pc' := 26) (L' := [(0, .inr (.inr (some (720)))), (1, .inl (1)), (2, .inl (n))]) (st' := [.inl (-1)]) rfl ?_
    exact ez_retI rfl rfl (k h τ F E (-1) D hI (fz.refl _ _ _ _) ⟨fun w => absurd w (by decide), fun w => absurd w (by decide), fun _ _ => ⟨rfl, rfl⟩⟩ (Or.inl ⟨rfl, rfl⟩) (fun _ _ _ _ => rfl) (rz_an_n (fun ⟨A, hA⟩ => by have := rz_A_pos (by decide) hA; omega)) (Or.inl ⟨rfl, rfl⟩) hX)
  · skip
    refine ez_go (n := 3) (pc' := 16) (L' := [(0, .inr (.inr (some (720)))), (1, .inl (1)), (2, .inl (n))]) (st' := [.inl (1), .inl (n), .inr (.inr (some (720)))]) rfl ?_
    refine ez_cs hB.2.1 rfl rfl rfl rfl rfl (rd_fieldsOf1 (ez_K1 ?_))
    refine ez_cv hB t720 rfl rfl rfl tq_52 rfl rfl rfl (rd_split hB t720 t721 t722 n0 n1 (by omega) (by omega) (fun g0 hB0 f0 hno => ez_K1 ?_) (fun g0 c hB0 f0 hpl hha hlen hfl => ez_K1 ?_))
    · skip
      have x0 := fz_ft t721 t722 f0
      have q202 : ∀ j, qz_I g0 202 j = qz_I h 202 j := fun j => f0.I rfl j
      have hI0 : jz_I τ g0 F E := jz_no hI hB0 x0 q202 (f0.2.2 203 rfl) (f0.2.2 205 rfl) (fun q hq => f0.2.2 q (by unfold rz_ft; rw [dz_beq_ne (fun e => by rw [e, t721] at hq; cases hq), dz_beq_ne (fun e => by rw [e, t722] at hq; cases hq)]; rfl))
      have hX0 : jx τ g0 D := jx_tr hI.1 t202 t203 hX (q202 1) (f0.2.2 203 rfl) (fun q hq => ⟨rfl, f0.2.2 q (by unfold rz_ft; rw [dz_beq_ne (fun e => by rw [e, t721] at hq; omega), dz_beq_ne (fun e => by rw [e, t722] at hq; omega)]; rfl)⟩)
      have b0 : rz_b g0 = rz_b h := rz_b_fr f0 rfl
      refine ez_if rfl rfl ⟨by decide, by decide⟩ (fun (c3 : (0 : Int) ≠ (0)) => absurd c3 (by decide)) (fun _ => ?_)
      refine ez_go (n := 1) (pc' := 26) (L' := [(0, .inr (.inr (some (720)))), (1, .inl (1)), (2, .inl (n))]) (st' := [.inl (-1)]) rfl ?_
      exact ez_retI rfl rfl (k g0 τ F E (-1) D hI0 (x0.mono (by omega) (by omega)) ⟨fun w => absurd w (by decide), fun w => absurd w (by decide), fun _ _ => ⟨rfl, rfl⟩⟩ (Or.inl ⟨rfl, q202 5⟩) (fun j _ _ _ => q202 j) (rz_an_n (fun ⟨A, hA⟩ => by obtain ⟨c, c1, c2, c3, c4⟩ := hA; exact hno c1 c c2.1 c2.2.1 c2.2.2.1 c2.2.2.2 (by rw [← c3]; exact c4))) (Or.inl ⟨rfl, rfl⟩) hX0)
    · skip
      have x0 := fz_ft t721 t722 f0
      have q202 : ∀ j, qz_I g0 202 j = qz_I h 202 j := fun j => f0.I rfl j
      have hI0 : jz_I τ g0 F E := jz_no hI hB0 x0 q202 (f0.2.2 203 rfl) (f0.2.2 205 rfl) (fun q hq => f0.2.2 q (by unfold rz_ft; rw [dz_beq_ne (fun e => by rw [e, t721] at hq; cases hq), dz_beq_ne (fun e => by rw [e, t722] at hq; cases hq)]; rfl))
      have hX0 : jx τ g0 D := jx_tr hI.1 t202 t203 hX (q202 1) (f0.2.2 203 rfl) (fun q hq => ⟨rfl, f0.2.2 q (by unfold rz_ft; rw [dz_beq_ne (fun e => by rw [e, t721] at hq; omega), dz_beq_ne (fun e => by rw [e, t722] at hq; omega)]; rfl)⟩)
      have b0 : rz_b g0 = rz_b h := rz_b_fr f0 rfl
      have hA : rz_A (rz_b h) n 5 (rz_seg (rz_b h) c.toNat 0 0) := ⟨c, hpl, hha, rfl, hlen⟩
      generalize rz_seg (rz_b h) c.toNat 0 0 = A at hA hfl hlen
      have hlen : (A.length : Int) = 5 := by rw [hlen]; rfl
      have hfa : ∀ k, 0 ≤ k → k ≤ 4 → rz_f g0 k = rz_ff (rz_b h) A k ∧ rz_t g0 k = rz_tt (rz_b h) A k := fun k k0 k1 => rz_flds_at hfl k0 (by omega)
      have hft : ∀ k, 0 ≤ k → k ≤ 4 → rz_f g0 k ≤ rz_t g0 k := fun k k0 k1 => by
        obtain ⟨w1, w2⟩ := hfa k k0 k1
        rw [w1, w2]
        exact rz_A_ff hA (by omega) (by omega)
      have hlt : qz_I h 202 5 ≤ 255 := by omega
      have hnp := rz_A_pos (by decide) hA
      have fc0 := x0.2
      have i6 := hI.2.2.2.2.1
      have hsp : qz_I g0 202 1 + 2 ≤ 513 := by rw [q202]; omega
      refine ez_if rfl rfl ⟨by decide, by decide⟩ (fun _ => ?_) (fun (c4 : ¬((1 : Int) ≠ (0))) => absurd c4 (by decide))
      refine ez_go (n := 1) (pc' := 28) (L' := [(0, .inr (.inr (some (720)))), (1, .inl (1)), (2, .inl (n))]) (st' := [.inl (1)]) rfl ?_
      refine ez_sw rfl ⟨by decide, by decide⟩ ⟨_, rfl, rfl⟩ ?_
      refine ez_go (n := 1) (pc' := 69) (L' := [(0, .inr (.inr (some (720)))), (1, .inl (1)), (2, .inl (n))]) (st' := [.inr (.inr (some (720)))]) rfl ?_
      obtain ⟨O9, hXO⟩ := hX0
      have hX0 : jx τ g0 D := ⟨O9, hXO⟩
      refine ez_cv hB0 t720 rfl rfl rfl tq_52 rfl rfl rfl (rd_takeSpecial (O := O9) (SP := fun x => (D x).2.2.2) hB0 t193 t202 t203 t720 t721 t722 hI0.2.2.1.1 hI0.2.2.1.2 hft hsp hI0.2.2.2.2.2.1 (nz_hz hB0 hI0.2.1) (hI0.2.1 1 (by decide)) (by omega) (by omega) (fun x k x0 x1 hk => (hXO x k x0 x1 hk).2.2.2) (fun g1 τ1 hB1 hx hno2 => ez_K1 ?_) (fun g1 g3 h1 τ1 p r9 n9 hB1 hBh hB3 hx z9 t9 nd9 r49 en9 ep9 ha9 hG9 => ez_K1 ?_))
      · skip
        have xx := x0.trans (fz_xt hx)
        have w202 : ∀ j, qz_I g1 202 j = qz_I g0 202 j := fun j => hx.I (by rw [t202]; decide) j
        have hI1 : jz_I τ1 g1 F E := jz_no hI0 hB1 (fz_xt hx) w202 ((hx.1 203 (by rw [t203]; decide)).2) ((hx.1 205 (by rw [t205]; decide)).2) (fun q hq => (hx.1 q (by rw [hq]; decide)).2)
        have u202 : τ1 202 = 48 := hI1.2.1 202 (by decide)
        have u720 : τ1 720 = 52 := hI1.2.1 720 (by decide)
        have u203 : τ1 203 = 49 := hI1.2.1 203 (by decide)
        have hX1 : jx τ1 g1 D := jx_tr hI0.1 t202 t203 hX0 (w202 1) ((hx.1 203 (by rw [t203]; decide)).2) (fun q hq => ⟨(hx.1 q (by omega)).1, (hx.1 q (by omega)).2⟩)
        have hans : rz_an (rz_b h) n 5 (rz_g1 (rz_b h)) (-1) := rz_an_f hA (fun v w => hno2 (by have w1 := w.1; unfold rz_G1 at w1 ⊢; rw [b0, (hfa 0 (by omega) (by omega)).1, (hfa 0 (by omega) (by omega)).2, (hfa 1 (by omega) (by omega)).1, (hfa 1 (by omega) (by omega)).2, (hfa 2 (by omega) (by omega)).1, (hfa 2 (by omega) (by omega)).2, (hfa 3 (by omega) (by omega)).1, (hfa 3 (by omega) (by omega)).2, (hfa 4 (by omega) (by omega)).1, (hfa 4 (by omega) (by omega)).2]; exact w1))
        refine ez_go (n := 2) (pc' := 97) (L' := [(3, .inl (-1)), (0, .inr (.inr (some (720)))), (1, .inl (1)), (2, .inl (n))]) (st' := []) rfl ?_
        refine ez_less [(3, .inl (-1)), (0, .inr (.inr (some (720)))), (1, .inl (1)), (2, .inl (n))] rfl ⟨rfl, rfl, rfl, rfl, trivial⟩ ?_
        refine rd_take_e hB1 u720 u202 (by omega) (by omega) (Or.inl rfl) (fun g9 hB9 f9 j9 l9 => ?_)
        rw [if_pos rfl] at l9
        have y9 := fz_1 u202 rfl f9
        have e9 : ∀ j, qz_I g9 202 j = qz_I g1 202 j := fun j => by by_cases w : j = 5; (· rw [w, l9]; omega); (· exact j9 j w)
        have hI9 : jz_I τ1 g9 F E := jz_no hI1 hB9 y9 e9 (f9.2.2 203 rfl) (f9.2.2 205 rfl) (fun q hq => f9.2.2 q (rz_ne hq u202 rfl))
        have hX9 : jx τ1 g9 D := jx_tr hB1 u202 u203 hX1 (e9 1) (f9.2.2 203 rfl) (fun q hq => ⟨rfl, f9.2.2 q (dz_beq_ne (fun e => by rw [e, u202] at hq; omega))⟩)
        exact k g9 _ F E (-1) D hI9 ((xx.trans y9).mono (by omega) (by omega)) ⟨fun w => absurd w (by decide), fun w => absurd w (by decide), fun _ _ => ⟨rfl, rfl⟩⟩ (Or.inl ⟨rfl, by rw [e9, w202, q202]⟩) (fun j _ _ _ => by rw [e9, w202, q202]) hans (Or.inl ⟨rfl, rfl⟩) hX9
      · skip
        have h6 : ez_fr (sz_P6 τ1) g3 g1 := by rcases ha9 with ⟨-, -, e⟩ | ⟨-, t, t1, t2, t3, t4, -⟩; (· rw [e]; exact ez_fr.refl _ _); (· exact ⟨t3, t4, fun q hq => t2 q (fun e => by rw [e] at hq; unfold sz_P6 at hq; rw [t1.1] at hq; cases hq)⟩)
        have ht : sz_toldR τ1 h1 g3 p p sz_RW := by rcases ha9 with ⟨-, a, -⟩ | ⟨a, -⟩ <;> exact sz_RS_W (by omega) a
        have xr := fz_xt hx
        have X1 := hI0.2.1.fz xr
        have u202 : τ1 202 = 48 := X1 202 (by decide)
        have u203 : τ1 203 = 49 := X1 203 (by decide)
        have u204 : τ1 204 = 50 := X1 204 (by decide)
        have u205 : τ1 205 = 51 := X1 205 (by decide)
        have u720 : τ1 720 = 52 := X1 720 (by decide)
        have w202 : ∀ j, qz_I h1 202 j = qz_I g0 202 j := fun j => hx.I (by rw [t202]; decide) j
        have c205 : h1.2.2 205 = g0.2.2 205 := (hx.1 205 (by rw [t205]; decide)).2
        have c203 : h1.2.2 203 = g0.2.2 203 := (hx.1 203 (by rw [t203]; decide)).2
        have c4 : ∀ q, τ q = 4 → h1.2.2 q = g0.2.2 q := fun q hq => (hx.1 q (by rw [hq]; decide)).2
        have hXh : jx τ1 h1 D := jx_tr hB0 t202 t203 hX0 (w202 1) c203 (fun q hq => ⟨(hx.1 q (by omega)).1, (hx.1 q (by omega)).2⟩)
        have hDh : sz_D τ1 h1 F E := sz_D_tr hB0 t202 t203 hI0.2.2.2.2.2.2.1 (w202 1) c203 c4 (fun q hq => by have := (xr.1 q (by rw [hq]; decide)).2 (by rw [hq]; rfl); unfold qz_I; rw [this]; exact ⟨rfl, rfl, rfl, rfl⟩) (fun p hp => by have := xr.1 p (by rw [hp]; decide); exact ⟨this.1.trans hp, this.2 (by rw [hp]; rfl)⟩)
        have F2e : ∃ F2, F2 = F := ⟨F, rfl⟩
        obtain ⟨F2, hF2⟩ := F2e
        have E2e : ∃ E2, E2 = E := ⟨E, rfl⟩
        obtain ⟨E2, hE2⟩ := E2e
        have hXs : ∃ y, ∀ x, (F2 x).2 ≠ none → (F x).2 ≠ none ∨ x = y := ⟨0, fun x hx => Or.inl (by rw [hF2] at hx; exact hx)⟩
        have hstep : rz_step (rz_b h) n 1 F E F2 E2 := ⟨fun w => absurd w (by decide), fun w => absurd w (by decide), fun _ _ => ⟨hF2, hE2⟩⟩
        have hok9 : sz_ok g3 ∧ sz_inj g3 := ⟨ht.1, ht.2.1⟩
        have p205 : sz_PS τ1 205 = false := by unfold sz_PS; rw [u205]; rfl
        have hE9 : ∀ i : Nat, (i : Int) < qz_I g3 202 4 → 1 ≤ qz_I g3 205 i := fun i hi => by rw [ht.2.2.2.1 4 (by decide), w202] at hi; rw [ht.2.2.1.I p205]; unfold qz_I; rw [c205]; exact hI0.2.2.2.1 i hi
        have hn9 : qz_I g3 202 1 ≤ qz_I g0 202 1 + 2 := by have := ht.2.2.2.2.1; rw [w202] at this; exact this
        have h59 : qz_I g3 202 5 = qz_I g0 202 5 := (ht.2.2.2.1 5 (by decide)).trans (w202 5)
        have ho9 : ∀ j, j ≠ 1 → j ≠ 4 → qz_I g3 202 j = qz_I g0 202 j := fun j j1 _ => (ht.2.2.2.1 j j1).trans (w202 j)
        have p6 : ∀ q, τ1 q ≠ 6 → g1.2.2 q = g3.2.2 q := fun q hq => h6.2.2 q (dz_beq_ne hq)
        have xg := (xr.trans (fz_PS u202 u203 ht.2.2.1)).trans (fz_P6 h6)
        have z202 : ∀ j, qz_I g1 202 j = qz_I g3 202 j := fun j => by unfold qz_I; rw [p6 202 (by rw [u202]; decide)]
        have hD9 : sz_D τ1 g1 F2 E2 := by
          rw [hF2, hE2]
          refine sz_D_tr hB3 u202 u203 (sz_D_R hBh u202 u203 hDh ht (fun P u v w => w (by decide)) (fun x u v w wu => by rw [w (by decide)]; exact wu)) (z202 1) (p6 203 (by rw [u203]; decide)) (fun q hq => p6 q (by rw [hq]; decide)) (fun q hq => ?_) (fun p hp => ⟨hp, p6 p (by rw [hp]; decide)⟩)
          unfold qz_I; rw [p6 q (by rw [hq]; decide)]; exact ⟨rfl, rfl, rfl, rfl⟩
        have hok9 := sz_same_ok hB3 u203 u202 (p6 202 (by rw [u202]; decide)) (p6 203 (by rw [u203]; decide)) (fun q hq => p6 q (by rw [hq]; decide)) hok9.1 hok9.2
        have hE9 : ∀ i : Nat, (i : Int) < qz_I g1 202 4 → 1 ≤ qz_I g1 205 i := fun i hi => by rw [z202] at hi; unfold qz_I; rw [p6 205 (by rw [u205]; decide)]; exact hE9 i hi
        have hn9 : qz_I g1 202 1 ≤ qz_I g0 202 1 + 2 := by rw [z202]; exact hn9
        have h59 : qz_I g1 202 5 = qz_I g0 202 5 := (z202 5).trans h59
        have ho9 : ∀ j, j ≠ 1 → j ≠ 4 → qz_I g1 202 j = qz_I g0 202 j := fun j j1 j4 => (z202 j).trans (ho9 j j1 j4)
        unfold rz_G1 at hG9; rw [b0, (hfa 0 (by omega) (by omega)).1, (hfa 0 (by omega) (by omega)).2, (hfa 1 (by omega) (by omega)).1, (hfa 1 (by omega) (by omega)).2, (hfa 2 (by omega) (by omega)).1, (hfa 2 (by omega) (by omega)).2, (hfa 3 (by omega) (by omega)).1, (hfa 3 (by omega) (by omega)).2, (hfa 4 (by omega) (by omega)).1, (hfa 4 (by omega) (by omega)).2] at hG9
        have hans : rz_an (rz_b h) n 5 (rz_g1 (rz_b h)) 1 := Or.inl ⟨A, hA, hG9, rfl⟩
        rw [b0, (hfa 0 (by omega) (by omega)).1, (hfa 0 (by omega) (by omega)).2] at ep9
        rw [b0, (hfa 1 (by omega) (by omega)).1, (hfa 1 (by omega) (by omega)).2, (hfa 2 (by omega) (by omega)).1, (hfa 2 (by omega) (by omega)).2, (hfa 3 (by omega) (by omega)).1, (hfa 3 (by omega) (by omega)).2, (hfa 4 (by omega) (by omega)).1, (hfa 4 (by omega) (by omega)).2] at en9
        obtain ⟨D2, hD2⟩ : ∃ D2, D2 = xd D ((1, rz_code (rz_b h) (rz_ff (rz_b h) A 0) (rz_tt (rz_b h) A 0), rz_code (rz_b h) (rz_ff (rz_b h) A 0) (rz_tt (rz_b h) A 0)), (0, 0, 0, 0), (0, 0), n9) := ⟨_, rfl⟩
        have hxs : xsl (rz_b h) n 1 D 1 D2 := Or.inr ⟨by omega, _, Or.inr (Or.inl ⟨rfl, A, hA, by rw [en9]⟩), hD2⟩
        have nr9 : ∀ q, τ q = 6 → q ≠ r9 := fun q hq e => by rw [e, z9] at hq; cases hq
        have hXh9 : sz_X τ1 h1 (fun q => if q = r9 then p else O9 q) D := sz_X_tr hB0 t202 t203 hXO (w202 1) c203 (fun q hq => ⟨(hx.1 q (by omega)).1, (hx.1 q (by omega)).2⟩) (fun q hq => if_neg (nr9 q hq))
        have hX1 : jx τ1 g1 D2 := ⟨_, sz_X_C hBh hB3 u202 u203 hXh9 t9 (if_pos rfl) nd9 r49 (by
          rcases ha9 with w | ⟨w, t, ⟨t1, t2, t3⟩, t4, -, -, t5⟩
          · exact Or.inl w
          · refine Or.inr ⟨w, t, ⟨t1, (if_neg (nr9 t t2)).trans t3⟩, t4, fun k hk => ?_⟩
            refine sC.tr (fun q q1 q2 => ?_) (fun _ _ => ⟨rfl, rfl⟩) (t5 k hk)
            rcases q2 with q2 | q2
            · exact ⟨q1, (if_neg (nr9 q q2.1)).trans q2.2⟩
            · exact ⟨q1, if_pos q2⟩) (fun x => by rw [hD2, xd_1, ← ep9])⟩
        refine ez_go (n := 2) (pc' := 97) (L' := [(3, .inl (1)), (0, .inr (.inr (some (720)))), (1, .inl (1)), (2, .inl (n))]) (st' := []) rfl ?_
        refine ez_less [(3, .inl (1)), (0, .inr (.inr (some (720)))), (1, .inl (1)), (2, .inl (n))] rfl ⟨rfl, rfl, rfl, rfl, trivial⟩ ?_
        refine rd_take_e hB1 u720 u202 (by omega) (by omega) (Or.inr (by rw [h59, q202]; exact hlt)) (fun g9 hB9 f9 j9 l9 => ?_)
        rw [if_neg (by omega)] at l9
        have y9 := fz_1 u202 rfl f9
        have hX9 : jx τ1 g9 D2 := jx_tr hB1 u202 u203 hX1 (j9 1 (by decide)) (f9.2.2 203 rfl) (fun q hq => ⟨rfl, f9.2.2 q (dz_beq_ne (fun e => by rw [e, u202] at hq; omega))⟩)
        refine k g9 _ F2 E2 _ D2 (jz_yes hI0 hB9 (xg.trans y9) hB1 hok9 hE9 hn9 h59 hD9 f9 j9 l9 hXs) (((x0.trans xg).trans y9).mono (by omega) (by omega)) hstep (Or.inr ⟨by omega, by omega, hnp, by rw [l9, h59, q202]⟩) (fun j j1 j4 j5 => by rw [j9 j j5, ho9 j j1 j4, q202]) hans hxs hX9

theorem rd_take2 {F : rz_W} {E : Int → Prop} {n : Int} {D : Int → xD} (hI : jz_I τ h F E) (hX : jx τ h D) (n0 : 0 ≤ n) (n1 : n ≤ 4096) (hl : n = 0 ∨ qz_I h 202 5 ≤ 255) (hr1 : h.1 + 4 ≤ 600192) (hr2 : h.2.1 + 59 ≤ 7302232) (k : ∀ g τ1 F2 E2 (v : Int) D2, jz_I τ1 g F2 E2 → fz τ h τ1 g 4 59 → rz_step (rz_b h) n 2 F E F2 E2 → ((v = -1 ∧ qz_I g 202 5 = qz_I h 202 5) ∨ (0 ≤ v ∧ v ≤ 1114112 ∧ 0 < n ∧ qz_I g 202 5 = qz_I h 202 5 + 1)) → (∀ j, j ≠ 1 → j ≠ 4 → j ≠ 5 → qz_I g 202 j = qz_I h 202 j) → rz_an (rz_b h) n 3 (rz_g2 (rz_b h)) v → xsl (rz_b h) n 2 D v D2 → jx τ1 g D2 → Q (.inl (some (ez_v (.inl v))), g)) : ez_W (d + 8) cm_174 0 [(0, .inr (.inr (some (720)))), (1, .inl (2)), (2, .inl (n))] [] h Q := by
  have t193 : τ 193 = 45 := hI.2.1 193 (by decide)
  have t202 : τ 202 = 48 := hI.2.1 202 (by decide)
  have t203 : τ 203 = 49 := hI.2.1 203 (by decide)
  have t204 : τ 204 = 50 := hI.2.1 204 (by decide)
  have t205 : τ 205 = 51 := hI.2.1 205 (by decide)
  have t720 : τ 720 = 52 := hI.2.1 720 (by decide)
  have t721 : τ 721 = 53 := hI.2.1 721 (by decide)
  have t722 : τ 722 = 54 := hI.2.1 722 (by decide)
  have hB := hI.1
  refine ez_go (n := 1) (pc' := 1) (L' := [(0, .inr (.inr (some (720)))), (1, .inl (2)), (2, .inl (n))]) (st' := [.inr (.inr (some (720)))]) rfl ?_
  refine ez_gC (p := 202) (tg := 48) hB t720 rfl rfl tq_52 rfl rfl (fun (t202 : _ = 48) => ?_)
  refine ez_gI hB t202 rfl rfl tq_48 rfl rfl (fun (b1 : 0 ≤ qz_I h 202 5) (b1' : qz_I h 202 5 ≤ 256) => ?_)
  refine ez_go (n := 1) (pc' := 10) (L' := [(0, .inr (.inr (some (720)))), (1, .inl (2)), (2, .inl (n))]) (st' := [.inl (256), .inl (qz_I h 202 5)]) rfl ?_
  refine ez_icmp rfl rfl ⟨by first | omega | exact (sz_i32 _).1, by first | omega | exact (sz_i32 _).2⟩ ⟨by first | omega | exact (sz_i32 _).1, by first | omega | exact (sz_i32 _).2⟩ (fun (c2 : (256) ≤ (qz_I h 202 5)) => ?_) (fun (c2 : ¬((256) ≤ (qz_I h 202 5))) => ?_)
  · skip
    refine ez_go (n := 1) (pc' := 26) (L' := [(0, .inr (.inr (some (720)))), (1, .inl (2)), (2, .inl (n))]) (st' := [.inl (-1)]) rfl ?_
    exact ez_retI rfl rfl (k h τ F E (-1) D hI (fz.refl _ _ _ _) ⟨fun w => absurd w (by decide), fun w => absurd w (by decide), fun _ _ => ⟨rfl, rfl⟩⟩ (Or.inl ⟨rfl, rfl⟩) (fun _ _ _ _ => rfl) (rz_an_n (fun ⟨A, hA⟩ => by have := rz_A_pos (by decide) hA; omega)) (Or.inl ⟨rfl, rfl⟩) hX)
  · skip
    refine ez_go (n := 3) (pc' := 16) (L' := [(0, .inr (.inr (some (720)))), (1, .inl (2)), (2, .inl (n))]) (st' := [.inl (2), .inl (n), .inr (.inr (some (720)))]) rfl ?_
    refine ez_cs hB.2.1 rfl rfl rfl rfl rfl (rd_fieldsOf2 (ez_K1 ?_))
    refine ez_cv hB t720 rfl rfl rfl tq_52 rfl rfl rfl (rd_split hB t720 t721 t722 n0 n1 (by omega) (by omega) (fun g0 hB0 f0 hno => ez_K1 ?_) (fun g0 c hB0 f0 hpl hha hlen hfl => ez_K1 ?_))
    · skip
      have x0 := fz_ft t721 t722 f0
      have q202 : ∀ j, qz_I g0 202 j = qz_I h 202 j := fun j => f0.I rfl j
      have hI0 : jz_I τ g0 F E := jz_no hI hB0 x0 q202 (f0.2.2 203 rfl) (f0.2.2 205 rfl) (fun q hq => f0.2.2 q (by unfold rz_ft; rw [dz_beq_ne (fun e => by rw [e, t721] at hq; cases hq), dz_beq_ne (fun e => by rw [e, t722] at hq; cases hq)]; rfl))
      have hX0 : jx τ g0 D := jx_tr hI.1 t202 t203 hX (q202 1) (f0.2.2 203 rfl) (fun q hq => ⟨rfl, f0.2.2 q (by unfold rz_ft; rw [dz_beq_ne (fun e => by rw [e, t721] at hq; omega), dz_beq_ne (fun e => by rw [e, t722] at hq; omega)]; rfl)⟩)
      have b0 : rz_b g0 = rz_b h := rz_b_fr f0 rfl
      refine ez_if rfl rfl ⟨by decide, by decide⟩ (fun (c3 : (0 : Int) ≠ (0)) => absurd c3 (by decide)) (fun _ => ?_)
      refine ez_go (n := 1) (pc' := 26) (L' := [(0, .inr (.inr (some (720)))), (1, .inl (2)), (2, .inl (n))]) (st' := [.inl (-1)]) rfl ?_
      exact ez_retI rfl rfl (k g0 τ F E (-1) D hI0 (x0.mono (by omega) (by omega)) ⟨fun w => absurd w (by decide), fun w => absurd w (by decide), fun _ _ => ⟨rfl, rfl⟩⟩ (Or.inl ⟨rfl, q202 5⟩) (fun j _ _ _ => q202 j) (rz_an_n (fun ⟨A, hA⟩ => by obtain ⟨c, c1, c2, c3, c4⟩ := hA; exact hno c1 c c2.1 c2.2.1 c2.2.2.1 c2.2.2.2 (by rw [← c3]; exact c4))) (Or.inl ⟨rfl, rfl⟩) hX0)
    · skip
      have x0 := fz_ft t721 t722 f0
      have q202 : ∀ j, qz_I g0 202 j = qz_I h 202 j := fun j => f0.I rfl j
      have hI0 : jz_I τ g0 F E := jz_no hI hB0 x0 q202 (f0.2.2 203 rfl) (f0.2.2 205 rfl) (fun q hq => f0.2.2 q (by unfold rz_ft; rw [dz_beq_ne (fun e => by rw [e, t721] at hq; cases hq), dz_beq_ne (fun e => by rw [e, t722] at hq; cases hq)]; rfl))
      have hX0 : jx τ g0 D := jx_tr hI.1 t202 t203 hX (q202 1) (f0.2.2 203 rfl) (fun q hq => ⟨rfl, f0.2.2 q (by unfold rz_ft; rw [dz_beq_ne (fun e => by rw [e, t721] at hq; omega), dz_beq_ne (fun e => by rw [e, t722] at hq; omega)]; rfl)⟩)
      have b0 : rz_b g0 = rz_b h := rz_b_fr f0 rfl
      have hA : rz_A (rz_b h) n 3 (rz_seg (rz_b h) c.toNat 0 0) := ⟨c, hpl, hha, rfl, hlen⟩
      generalize rz_seg (rz_b h) c.toNat 0 0 = A at hA hfl hlen
      have hlen : (A.length : Int) = 3 := by rw [hlen]; rfl
      have hfa : ∀ k, 0 ≤ k → k ≤ 2 → rz_f g0 k = rz_ff (rz_b h) A k ∧ rz_t g0 k = rz_tt (rz_b h) A k := fun k k0 k1 => rz_flds_at hfl k0 (by omega)
      have hft : ∀ k, 0 ≤ k → k ≤ 2 → rz_f g0 k ≤ rz_t g0 k := fun k k0 k1 => by
        obtain ⟨w1, w2⟩ := hfa k k0 k1
        rw [w1, w2]
        exact rz_A_ff hA (by omega) (by omega)
      have hlt : qz_I h 202 5 ≤ 255 := by omega
      have hnp := rz_A_pos (by decide) hA
      have fc0 := x0.2
      have i6 := hI.2.2.2.2.1
      have hsp : qz_I g0 202 1 + 2 ≤ 513 := by rw [q202]; omega
      refine ez_if rfl rfl ⟨by decide, by decide⟩ (fun _ => ?_) (fun (c4 : ¬((1 : Int) ≠ (0))) => absurd c4 (by decide))
      refine ez_go (n := 1) (pc' := 28) (L' := [(0, .inr (.inr (some (720)))), (1, .inl (2)), (2, .inl (n))]) (st' := [.inl (2)]) rfl ?_
      refine ez_sw rfl ⟨by decide, by decide⟩ ⟨_, rfl, rfl⟩ ?_
      refine ez_go (n := 1) (pc' := 77) (L' := [(0, .inr (.inr (some (720)))), (1, .inl (2)), (2, .inl (n))]) (st' := [.inr (.inr (some (720)))]) rfl ?_
      refine ez_cv hB0 t720 rfl rfl rfl tq_52 rfl rfl rfl (rd_takeFold hB0 t193 t202 t203 t720 t721 t722 hI0.2.2.1.1 hI0.2.2.1.2 hft hsp (by omega) (by omega) (fun g1 τ1 hB1 hx hno2 => ez_K1 ?_) (fun g1 h1 τ1 p J r9 hB1 hBh hx hJ9 ht0 ep hvs hG9 => ez_K1 ?_))
      · skip
        have xx := x0.trans (fz_xt hx)
        have w202 : ∀ j, qz_I g1 202 j = qz_I g0 202 j := fun j => hx.I (by rw [t202]; decide) j
        have hI1 : jz_I τ1 g1 F E := jz_no hI0 hB1 (fz_xt hx) w202 ((hx.1 203 (by rw [t203]; decide)).2) ((hx.1 205 (by rw [t205]; decide)).2) (fun q hq => (hx.1 q (by rw [hq]; decide)).2)
        have u202 : τ1 202 = 48 := hI1.2.1 202 (by decide)
        have u720 : τ1 720 = 52 := hI1.2.1 720 (by decide)
        have u203 : τ1 203 = 49 := hI1.2.1 203 (by decide)
        have hX1 : jx τ1 g1 D := jx_tr hI0.1 t202 t203 hX0 (w202 1) ((hx.1 203 (by rw [t203]; decide)).2) (fun q hq => ⟨(hx.1 q (by omega)).1, (hx.1 q (by omega)).2⟩)
        have hans : rz_an (rz_b h) n 3 (rz_g2 (rz_b h)) (-1) := rz_an_f hA (fun v w => hno2 (by have w1 := w.1; unfold rz_G2 at w1 ⊢; rw [b0, (hfa 0 (by omega) (by omega)).1, (hfa 0 (by omega) (by omega)).2, (hfa 1 (by omega) (by omega)).1, (hfa 1 (by omega) (by omega)).2, (hfa 2 (by omega) (by omega)).1, (hfa 2 (by omega) (by omega)).2]; exact w1))
        refine ez_go (n := 2) (pc' := 97) (L' := [(3, .inl (-1)), (0, .inr (.inr (some (720)))), (1, .inl (2)), (2, .inl (n))]) (st' := []) rfl ?_
        refine ez_less [(3, .inl (-1)), (0, .inr (.inr (some (720)))), (1, .inl (2)), (2, .inl (n))] rfl ⟨rfl, rfl, rfl, rfl, trivial⟩ ?_
        refine rd_take_e hB1 u720 u202 (by omega) (by omega) (Or.inl rfl) (fun g9 hB9 f9 j9 l9 => ?_)
        rw [if_pos rfl] at l9
        have y9 := fz_1 u202 rfl f9
        have e9 : ∀ j, qz_I g9 202 j = qz_I g1 202 j := fun j => by by_cases w : j = 5; (· rw [w, l9]; omega); (· exact j9 j w)
        have hI9 : jz_I τ1 g9 F E := jz_no hI1 hB9 y9 e9 (f9.2.2 203 rfl) (f9.2.2 205 rfl) (fun q hq => f9.2.2 q (rz_ne hq u202 rfl))
        have hX9 : jx τ1 g9 D := jx_tr hB1 u202 u203 hX1 (e9 1) (f9.2.2 203 rfl) (fun q hq => ⟨rfl, f9.2.2 q (dz_beq_ne (fun e => by rw [e, u202] at hq; omega))⟩)
        exact k g9 _ F E (-1) D hI9 ((xx.trans y9).mono (by omega) (by omega)) ⟨fun w => absurd w (by decide), fun w => absurd w (by decide), fun _ _ => ⟨rfl, rfl⟩⟩ (Or.inl ⟨rfl, by rw [e9, w202, q202]⟩) (fun j _ _ _ => by rw [e9, w202, q202]) hans (Or.inl ⟨rfl, rfl⟩) hX9
      · skip
        have ht := sz_RS_W (by rcases hJ9 with w | w | w | w <;> omega) ht0
        have xr := fz_xt hx
        have X1 := hI0.2.1.fz xr
        have u202 : τ1 202 = 48 := X1 202 (by decide)
        have u203 : τ1 203 = 49 := X1 203 (by decide)
        have u204 : τ1 204 = 50 := X1 204 (by decide)
        have u205 : τ1 205 = 51 := X1 205 (by decide)
        have u720 : τ1 720 = 52 := X1 720 (by decide)
        have w202 : ∀ j, qz_I h1 202 j = qz_I g0 202 j := fun j => hx.I (by rw [t202]; decide) j
        have c205 : h1.2.2 205 = g0.2.2 205 := (hx.1 205 (by rw [t205]; decide)).2
        have c203 : h1.2.2 203 = g0.2.2 203 := (hx.1 203 (by rw [t203]; decide)).2
        have c4 : ∀ q, τ q = 4 → h1.2.2 q = g0.2.2 q := fun q hq => (hx.1 q (by rw [hq]; decide)).2
        have hXh : jx τ1 h1 D := jx_tr hB0 t202 t203 hX0 (w202 1) c203 (fun q hq => ⟨(hx.1 q (by omega)).1, (hx.1 q (by omega)).2⟩)
        have hDh : sz_D τ1 h1 F E := sz_D_tr hB0 t202 t203 hI0.2.2.2.2.2.2.1 (w202 1) c203 c4 (fun q hq => by have := (xr.1 q (by rw [hq]; decide)).2 (by rw [hq]; rfl); unfold qz_I; rw [this]; exact ⟨rfl, rfl, rfl, rfl⟩) (fun p hp => by have := xr.1 p (by rw [hp]; decide); exact ⟨this.1.trans hp, this.2 (by rw [hp]; rfl)⟩)
        have F2e : ∃ F2, F2 = F := ⟨F, rfl⟩
        obtain ⟨F2, hF2⟩ := F2e
        have E2e : ∃ E2, E2 = E := ⟨E, rfl⟩
        obtain ⟨E2, hE2⟩ := E2e
        have hXs : ∃ y, ∀ x, (F2 x).2 ≠ none → (F x).2 ≠ none ∨ x = y := ⟨0, fun x hx => Or.inl (by rw [hF2] at hx; exact hx)⟩
        have hstep : rz_step (rz_b h) n 2 F E F2 E2 := ⟨fun w => absurd w (by decide), fun w => absurd w (by decide), fun _ _ => ⟨hF2, hE2⟩⟩
        have hok9 : sz_ok g1 ∧ sz_inj g1 := ⟨ht.1, ht.2.1⟩
        have p205 : sz_PS τ1 205 = false := by unfold sz_PS; rw [u205]; rfl
        have hE9 : ∀ i : Nat, (i : Int) < qz_I g1 202 4 → 1 ≤ qz_I g1 205 i := fun i hi => by rw [ht.2.2.2.1 4 (by decide), w202] at hi; rw [ht.2.2.1.I p205]; unfold qz_I; rw [c205]; exact hI0.2.2.2.1 i hi
        have hn9 : qz_I g1 202 1 ≤ qz_I g0 202 1 + 2 := by have := ht.2.2.2.2.1; rw [w202] at this; exact this
        have h59 : qz_I g1 202 5 = qz_I g0 202 5 := (ht.2.2.2.1 5 (by decide)).trans (w202 5)
        have ho9 : ∀ j, j ≠ 1 → j ≠ 4 → qz_I g1 202 j = qz_I g0 202 j := fun j j1 _ => (ht.2.2.2.1 j j1).trans (w202 j)
        have xg := xr.trans (fz_PS u202 u203 ht.2.2.1)
        have hD9 : sz_D τ1 g1 F2 E2 := by rw [hF2, hE2]; exact sz_D_R hBh u202 u203 hDh ht (fun P u v w => w (by decide)) (fun x u v w wu => by rw [w (by decide)]; exact wu)
        unfold rz_G2 at hG9; rw [b0, (hfa 0 (by omega) (by omega)).1, (hfa 0 (by omega) (by omega)).2, (hfa 1 (by omega) (by omega)).1, (hfa 1 (by omega) (by omega)).2, (hfa 2 (by omega) (by omega)).1, (hfa 2 (by omega) (by omega)).2] at hG9
        have hans : rz_an (rz_b h) n 3 (rz_g2 (rz_b h)) 1 := Or.inl ⟨A, hA, hG9, rfl⟩
        obtain ⟨vs, evs, hvs⟩ := hvs
        rw [b0, (hfa 0 (by omega) (by omega)).1, (hfa 0 (by omega) (by omega)).2] at ep
        rw [b0, (hfa 1 (by omega) (by omega)).1] at hJ9
        rw [b0, (hfa 2 (by omega) (by omega)).1, (hfa 2 (by omega) (by omega)).2] at evs
        obtain ⟨D2, hD2⟩ : ∃ D2, D2 = xd D ((2, rz_code (rz_b h) (rz_ff (rz_b h) A 0) (rz_tt (rz_b h) A 0), rz_code (rz_b h) (rz_ff (rz_b h) A 0) (rz_tt (rz_b h) A 0)), (0, 0, 0, 0), (rz_b h (rz_ff (rz_b h) A 1), 0), (0, vs, [], [])) := ⟨_, rfl⟩
        have hxs : xsl (rz_b h) n 2 D 1 D2 := Or.inr ⟨by omega, _, Or.inr (Or.inr (Or.inl ⟨rfl, A, vs, hA, evs, rfl⟩)), hD2⟩
        have hX1 : jx τ1 g1 D2 := by obtain ⟨O9, hXO⟩ := hXh; exact ⟨O9, sz_X_S hBh u202 u203 hXO hJ9 ht0 hvs (fun x => by rw [hD2, xd_2, ← ep])⟩
        refine ez_go (n := 2) (pc' := 97) (L' := [(3, .inl (1)), (0, .inr (.inr (some (720)))), (1, .inl (2)), (2, .inl (n))]) (st' := []) rfl ?_
        refine ez_less [(3, .inl (1)), (0, .inr (.inr (some (720)))), (1, .inl (2)), (2, .inl (n))] rfl ⟨rfl, rfl, rfl, rfl, trivial⟩ ?_
        refine rd_take_e hB1 u720 u202 (by omega) (by omega) (Or.inr (by rw [h59, q202]; exact hlt)) (fun g9 hB9 f9 j9 l9 => ?_)
        rw [if_neg (by omega)] at l9
        have y9 := fz_1 u202 rfl f9
        have hX9 : jx τ1 g9 D2 := jx_tr hB1 u202 u203 hX1 (j9 1 (by decide)) (f9.2.2 203 rfl) (fun q hq => ⟨rfl, f9.2.2 q (dz_beq_ne (fun e => by rw [e, u202] at hq; omega))⟩)
        refine k g9 _ F2 E2 _ D2 (jz_yes hI0 hB9 (xg.trans y9) hB1 hok9 hE9 hn9 h59 hD9 f9 j9 l9 hXs) (((x0.trans xg).trans y9).mono (by omega) (by omega)) hstep (Or.inr ⟨by omega, by omega, hnp, by rw [l9, h59, q202]⟩) (fun j j1 j4 j5 => by rw [j9 j j5, ho9 j j1 j4, q202]) hans hxs hX9

theorem rd_take3 {F : rz_W} {E : Int → Prop} {n : Int} {D : Int → xD} (hI : jz_I τ h F E) (hX : jx τ h D) (n0 : 0 ≤ n) (n1 : n ≤ 4096) (hl : n = 0 ∨ qz_I h 202 5 ≤ 255) (hr1 : h.1 + 4 ≤ 600192) (hr2 : h.2.1 + 59 ≤ 7302232) (k : ∀ g τ1 F2 E2 (v : Int) D2, jz_I τ1 g F2 E2 → fz τ h τ1 g 4 59 → rz_step (rz_b h) n 3 F E F2 E2 → ((v = -1 ∧ qz_I g 202 5 = qz_I h 202 5) ∨ (0 ≤ v ∧ v ≤ 1114112 ∧ 0 < n ∧ qz_I g 202 5 = qz_I h 202 5 + 1)) → (∀ j, j ≠ 1 → j ≠ 4 → j ≠ 5 → qz_I g 202 j = qz_I h 202 j) → rz_an (rz_b h) n 2 (rz_g3 (rz_b h)) v → xsl (rz_b h) n 3 D v D2 → jx τ1 g D2 → Q (.inl (some (ez_v (.inl v))), g)) : ez_W (d + 8) cm_174 0 [(0, .inr (.inr (some (720)))), (1, .inl (3)), (2, .inl (n))] [] h Q := by
  have t193 : τ 193 = 45 := hI.2.1 193 (by decide)
  have t202 : τ 202 = 48 := hI.2.1 202 (by decide)
  have t203 : τ 203 = 49 := hI.2.1 203 (by decide)
  have t204 : τ 204 = 50 := hI.2.1 204 (by decide)
  have t205 : τ 205 = 51 := hI.2.1 205 (by decide)
  have t720 : τ 720 = 52 := hI.2.1 720 (by decide)
  have t721 : τ 721 = 53 := hI.2.1 721 (by decide)
  have t722 : τ 722 = 54 := hI.2.1 722 (by decide)
  have hB := hI.1
  refine ez_go (n := 1) (pc' := 1) (L' := [(0, .inr (.inr (some (720)))), (1, .inl (3)), (2, .inl (n))]) (st' := [.inr (.inr (some (720)))]) rfl ?_
  refine ez_gC (p := 202) (tg := 48) hB t720 rfl rfl tq_52 rfl rfl (fun (t202 : _ = 48) => ?_)
  refine ez_gI hB t202 rfl rfl tq_48 rfl rfl (fun (b1 : 0 ≤ qz_I h 202 5) (b1' : qz_I h 202 5 ≤ 256) => ?_)
  refine ez_go (n := 1) (pc' := 10) (L' := [(0, .inr (.inr (some (720)))), (1, .inl (3)), (2, .inl (n))]) (st' := [.inl (256), .inl (qz_I h 202 5)]) rfl ?_
  refine ez_icmp rfl rfl ⟨by first | omega | exact (sz_i32 _).1, by first | omega | exact (sz_i32 _).2⟩ ⟨by first | omega | exact (sz_i32 _).1, by first | omega | exact (sz_i32 _).2⟩ (fun (c2 : (256) ≤ (qz_I h 202 5)) => ?_) (fun (c2 : ¬((256) ≤ (qz_I h 202 5))) => ?_)
  · skip
    refine ez_go (n := 1) (pc' := 26) (L' := [(0, .inr (.inr (some (720)))), (1, .inl (3)), (2, .inl (n))]) (st' := [.inl (-1)]) rfl ?_
    exact ez_retI rfl rfl (k h τ F E (-1) D hI (fz.refl _ _ _ _) ⟨fun w => absurd w (by decide), fun _ => Or.inr ⟨(fun ⟨_, _, A, hA, _⟩ => by have := rz_A_pos (by decide) hA; omega), rfl, rfl⟩, fun _ w => absurd rfl w⟩ (Or.inl ⟨rfl, rfl⟩) (fun _ _ _ _ => rfl) (rz_an_n (fun ⟨A, hA⟩ => by have := rz_A_pos (by decide) hA; omega)) (Or.inl ⟨rfl, rfl⟩) hX)
  · skip
    refine ez_go (n := 3) (pc' := 16) (L' := [(0, .inr (.inr (some (720)))), (1, .inl (3)), (2, .inl (n))]) (st' := [.inl (3), .inl (n), .inr (.inr (some (720)))]) rfl ?_
    refine ez_cs hB.2.1 rfl rfl rfl rfl rfl (rd_fieldsOf3 (ez_K1 ?_))
    refine ez_cv hB t720 rfl rfl rfl tq_52 rfl rfl rfl (rd_split hB t720 t721 t722 n0 n1 (by omega) (by omega) (fun g0 hB0 f0 hno => ez_K1 ?_) (fun g0 c hB0 f0 hpl hha hlen hfl => ez_K1 ?_))
    · skip
      have x0 := fz_ft t721 t722 f0
      have q202 : ∀ j, qz_I g0 202 j = qz_I h 202 j := fun j => f0.I rfl j
      have hI0 : jz_I τ g0 F E := jz_no hI hB0 x0 q202 (f0.2.2 203 rfl) (f0.2.2 205 rfl) (fun q hq => f0.2.2 q (by unfold rz_ft; rw [dz_beq_ne (fun e => by rw [e, t721] at hq; cases hq), dz_beq_ne (fun e => by rw [e, t722] at hq; cases hq)]; rfl))
      have hX0 : jx τ g0 D := jx_tr hI.1 t202 t203 hX (q202 1) (f0.2.2 203 rfl) (fun q hq => ⟨rfl, f0.2.2 q (by unfold rz_ft; rw [dz_beq_ne (fun e => by rw [e, t721] at hq; omega), dz_beq_ne (fun e => by rw [e, t722] at hq; omega)]; rfl)⟩)
      have b0 : rz_b g0 = rz_b h := rz_b_fr f0 rfl
      refine ez_if rfl rfl ⟨by decide, by decide⟩ (fun (c3 : (0 : Int) ≠ (0)) => absurd c3 (by decide)) (fun _ => ?_)
      refine ez_go (n := 1) (pc' := 26) (L' := [(0, .inr (.inr (some (720)))), (1, .inl (3)), (2, .inl (n))]) (st' := [.inl (-1)]) rfl ?_
      exact ez_retI rfl rfl (k g0 τ F E (-1) D hI0 (x0.mono (by omega) (by omega)) ⟨fun w => absurd w (by decide), fun _ => Or.inr ⟨(fun ⟨_, _, A, hA, _⟩ => by obtain ⟨c, c1, c2, c3, c4⟩ := hA; exact hno c1 c c2.1 c2.2.1 c2.2.2.1 c2.2.2.2 (by rw [← c3]; exact c4)), rfl, rfl⟩, fun _ w => absurd rfl w⟩ (Or.inl ⟨rfl, q202 5⟩) (fun j _ _ _ => q202 j) (rz_an_n (fun ⟨A, hA⟩ => by obtain ⟨c, c1, c2, c3, c4⟩ := hA; exact hno c1 c c2.1 c2.2.1 c2.2.2.1 c2.2.2.2 (by rw [← c3]; exact c4))) (Or.inl ⟨rfl, rfl⟩) hX0)
    · skip
      have x0 := fz_ft t721 t722 f0
      have q202 : ∀ j, qz_I g0 202 j = qz_I h 202 j := fun j => f0.I rfl j
      have hI0 : jz_I τ g0 F E := jz_no hI hB0 x0 q202 (f0.2.2 203 rfl) (f0.2.2 205 rfl) (fun q hq => f0.2.2 q (by unfold rz_ft; rw [dz_beq_ne (fun e => by rw [e, t721] at hq; cases hq), dz_beq_ne (fun e => by rw [e, t722] at hq; cases hq)]; rfl))
      have hX0 : jx τ g0 D := jx_tr hI.1 t202 t203 hX (q202 1) (f0.2.2 203 rfl) (fun q hq => ⟨rfl, f0.2.2 q (by unfold rz_ft; rw [dz_beq_ne (fun e => by rw [e, t721] at hq; omega), dz_beq_ne (fun e => by rw [e, t722] at hq; omega)]; rfl)⟩)
      have b0 : rz_b g0 = rz_b h := rz_b_fr f0 rfl
      have hA : rz_A (rz_b h) n 2 (rz_seg (rz_b h) c.toNat 0 0) := ⟨c, hpl, hha, rfl, hlen⟩
      generalize rz_seg (rz_b h) c.toNat 0 0 = A at hA hfl hlen
      have hlen : (A.length : Int) = 2 := by rw [hlen]; rfl
      have hfa : ∀ k, 0 ≤ k → k ≤ 1 → rz_f g0 k = rz_ff (rz_b h) A k ∧ rz_t g0 k = rz_tt (rz_b h) A k := fun k k0 k1 => rz_flds_at hfl k0 (by omega)
      have hft : ∀ k, 0 ≤ k → k ≤ 1 → rz_f g0 k ≤ rz_t g0 k := fun k k0 k1 => by
        obtain ⟨w1, w2⟩ := hfa k k0 k1
        rw [w1, w2]
        exact rz_A_ff hA (by omega) (by omega)
      have hlt : qz_I h 202 5 ≤ 255 := by omega
      have hnp := rz_A_pos (by decide) hA
      have fc0 := x0.2
      have i6 := hI.2.2.2.2.1
      have hsp : qz_I g0 202 1 + 2 ≤ 513 := by rw [q202]; omega
      refine ez_if rfl rfl ⟨by decide, by decide⟩ (fun _ => ?_) (fun (c4 : ¬((1 : Int) ≠ (0))) => absurd c4 (by decide))
      refine ez_go (n := 1) (pc' := 28) (L' := [(0, .inr (.inr (some (720)))), (1, .inl (3)), (2, .inl (n))]) (st' := [.inl (3)]) rfl ?_
      refine ez_sw rfl ⟨by decide, by decide⟩ ⟨_, rfl, rfl⟩ ?_
      refine ez_go (n := 1) (pc' := 85) (L' := [(0, .inr (.inr (some (720)))), (1, .inl (3)), (2, .inl (n))]) (st' := [.inr (.inr (some (720)))]) rfl ?_
      refine ez_cv hB0 t720 rfl rfl rfl tq_52 rfl rfl rfl (rd_takeProperty hB0 hI0.2.2.2.2.2.1 (hI0.2.1 2 (by decide)) (hI0.2.1 3 (by decide)) (hI0.2.1 4 (by decide)) (hI0.2.1 5 (by decide)) (hI0.2.1 6 (by decide)) t193 t202 t203 t720 t721 t722 hI0.2.2.1.1 hI0.2.2.1.2 hft hsp (fun g1 hB1 f1 hno hno2 => ez_K1 ?_) (fun g1 h1 first last hB1 hBh f1 ef el f1n fl ht hpk gr nm hPV nm0 nm1 htP => ez_K1 ?_))
      · skip
        obtain ⟨τ1, eτ⟩ : ∃ τ1, τ1 = τ := ⟨τ, rfl⟩
        rw [← eτ] at hB1
        have hx : ez_xr τ g0 τ1 g1 720 0 0 := by rw [eτ]; exact ⟨fun q hq => ⟨rfl, fun w => f1.2.2 q (dz_beq_ne w)⟩, by rw [f1.1]; omega, by rw [f1.2.1]; omega⟩
        have xx := x0.trans (fz_xr t720 hx)
        have w202 : ∀ j, qz_I g1 202 j = qz_I g0 202 j := fun j => hx.I (by rw [t202]; decide) (by decide) j
        have hI1 : jz_I τ1 g1 F E := jz_no hI0 hB1 (fz_xr t720 hx) w202 ((hx.1 203 (by rw [t203]; decide)).2 (by decide)) ((hx.1 205 (by rw [t205]; decide)).2 (by decide)) (fun q hq => (hx.1 q (by rw [hq]; decide)).2 (fun e => by rw [e, t720] at hq; cases hq))
        have u202 : τ1 202 = 48 := hI1.2.1 202 (by decide)
        have u720 : τ1 720 = 52 := hI1.2.1 720 (by decide)
        have u203 : τ1 203 = 49 := hI1.2.1 203 (by decide)
        have hX1 : jx τ1 g1 D := jx_tr hI0.1 t202 t203 hX0 (w202 1) ((hx.1 203 (by rw [t203]; decide)).2 (by decide)) (fun q hq => ⟨(hx.1 q (by omega)).1, (hx.1 q (by omega)).2 (fun e => by rw [e, t720] at hq; omega)⟩)
        have hnone : ¬ ∃ first last, rz_L3 (rz_b h) n first last := fun ⟨f, l, A2, hA2, w1, w2⟩ => hno (by rw [← rz_A_uniq hA hA2] at w1 w2; rw [b0, (hfa 0 (by omega) (by omega)).1, (hfa 0 (by omega) (by omega)).2, (hfa 1 (by omega) (by omega)).1, (hfa 1 (by omega) (by omega)).2]; exact ⟨⟨by rw [← w1.1]; exact w1.2.2.1, by rw [← w1.1, ← w1.2.1]; exact w1.2.2.2⟩, w2⟩)
        have hans : rz_an (rz_b h) n 2 (rz_g3 (rz_b h)) (-1) := rz_an_f hA (fun v w => hno2 (by rw [b0, (hfa 0 (by omega) (by omega)).1, (hfa 0 (by omega) (by omega)).2, (hfa 1 (by omega) (by omega)).1, (hfa 1 (by omega) (by omega)).2]; exact ⟨w.1, w.2.1⟩))
        refine ez_go (n := 2) (pc' := 97) (L' := [(3, .inl (-1)), (0, .inr (.inr (some (720)))), (1, .inl (3)), (2, .inl (n))]) (st' := []) rfl ?_
        refine ez_less [(3, .inl (-1)), (0, .inr (.inr (some (720)))), (1, .inl (3)), (2, .inl (n))] rfl ⟨rfl, rfl, rfl, rfl, trivial⟩ ?_
        refine rd_take_e hB1 u720 u202 (by omega) (by omega) (Or.inl rfl) (fun g9 hB9 f9 j9 l9 => ?_)
        rw [if_pos rfl] at l9
        have y9 := fz_1 u202 rfl f9
        have e9 : ∀ j, qz_I g9 202 j = qz_I g1 202 j := fun j => by by_cases w : j = 5; (· rw [w, l9]; omega); (· exact j9 j w)
        have hI9 : jz_I τ1 g9 F E := jz_no hI1 hB9 y9 e9 (f9.2.2 203 rfl) (f9.2.2 205 rfl) (fun q hq => f9.2.2 q (rz_ne hq u202 rfl))
        have hX9 : jx τ1 g9 D := jx_tr hB1 u202 u203 hX1 (e9 1) (f9.2.2 203 rfl) (fun q hq => ⟨rfl, f9.2.2 q (dz_beq_ne (fun e => by rw [e, u202] at hq; omega))⟩)
        exact k g9 _ F E (-1) D hI9 ((xx.trans y9).mono (by omega) (by omega)) ⟨fun w => absurd w (by decide), fun _ => Or.inr ⟨hnone, rfl, rfl⟩, fun _ w => absurd rfl w⟩ (Or.inl ⟨rfl, by rw [e9, w202, q202]⟩) (fun j _ _ _ => by rw [e9, w202, q202]) hans (Or.inl ⟨rfl, rfl⟩) hX9
      · skip
        obtain ⟨τ1, eτ⟩ : ∃ τ1, τ1 = τ := ⟨τ, rfl⟩
        rw [← eτ] at hB1 hBh ht htP
        have hx : ez_xr τ g0 τ1 h1 720 0 0 := by rw [eτ]; exact ⟨fun q hq => ⟨rfl, fun w => f1.2.2 q (dz_beq_ne w)⟩, by rw [f1.1]; omega, by rw [f1.2.1]; omega⟩
        rw [b0, (hfa 0 (by omega) (by omega)).1, (hfa 0 (by omega) (by omega)).2] at ef el
        rw [b0, (hfa 1 (by omega) (by omega)).1, (hfa 1 (by omega) (by omega)).2] at ht
        rw [b0, (hfa 1 (by omega) (by omega)).1, (hfa 1 (by omega) (by omega)).2] at hpk
        rw [b0, (hfa 1 (by omega) (by omega)).1, (hfa 1 (by omega) (by omega)).2] at hPV
        have xr := fz_xr t720 hx
        have X1 := hI0.2.1.fz xr
        have u202 : τ1 202 = 48 := X1 202 (by decide)
        have u203 : τ1 203 = 49 := X1 203 (by decide)
        have u204 : τ1 204 = 50 := X1 204 (by decide)
        have u205 : τ1 205 = 51 := X1 205 (by decide)
        have u720 : τ1 720 = 52 := X1 720 (by decide)
        have w202 : ∀ j, qz_I h1 202 j = qz_I g0 202 j := fun j => hx.I (by rw [t202]; decide) (by decide) j
        have c205 : h1.2.2 205 = g0.2.2 205 := (hx.1 205 (by rw [t205]; decide)).2 (by decide)
        have c203 : h1.2.2 203 = g0.2.2 203 := (hx.1 203 (by rw [t203]; decide)).2 (by decide)
        have c4 : ∀ q, τ q = 4 → h1.2.2 q = g0.2.2 q := fun q hq => (hx.1 q (by rw [hq]; decide)).2 (fun e => by rw [e, t720] at hq; cases hq)
        have hXh : jx τ1 h1 D := jx_tr hB0 t202 t203 hX0 (w202 1) c203 (fun q hq => ⟨(hx.1 q (by omega)).1, (hx.1 q (by omega)).2 (fun e => by rw [e, t720] at hq; omega)⟩)
        have hDh : sz_D τ1 h1 F E := sz_D_tr hB0 t202 t203 hI0.2.2.2.2.2.2.1 (w202 1) c203 c4 (fun q hq => by have := (xr.1 q (by rw [hq]; decide)).2 (by rw [hq]; rfl); unfold qz_I; rw [this]; exact ⟨rfl, rfl, rfl, rfl⟩) (fun p hp => by have := xr.1 p (by rw [hp]; decide); exact ⟨this.1.trans hp, this.2 (by rw [hp]; rfl)⟩)
        have hok9 : sz_ok g1 ∧ sz_inj g1 := ⟨ht.1, ht.2.1⟩
        have p205 : sz_PS τ1 205 = false := by unfold sz_PS; rw [u205]; rfl
        have hE9 : ∀ i : Nat, (i : Int) < qz_I g1 202 4 → 1 ≤ qz_I g1 205 i := fun i hi => by rw [ht.2.2.2.1 4 (by decide), w202] at hi; rw [ht.2.2.1.I p205]; unfold qz_I; rw [c205]; exact hI0.2.2.2.1 i hi
        have hn9 : qz_I g1 202 1 ≤ qz_I g0 202 1 + 2 := by have := ht.2.2.2.2.1; rw [w202] at this; exact this
        have h59 : qz_I g1 202 5 = qz_I g0 202 5 := (ht.2.2.2.1 5 (by decide)).trans (w202 5)
        have ho9 : ∀ j, j ≠ 1 → j ≠ 4 → qz_I g1 202 j = qz_I g0 202 j := fun j j1 _ => (ht.2.2.2.1 j j1).trans (w202 j)
        have xg := xr.trans (fz_PS u202 u203 ht.2.2.1)
        have bl := rz_last_bd (rz_b h) (rz_ff (rz_b h) A 0) (rz_tt (rz_b h) A 0)
        have bf := rz_code_bd (rz_b h) (rz_ff (rz_b h) A 0) (rz_dots (rz_b h) (rz_tt (rz_b h) A 0 - rz_ff (rz_b h) A 0).toNat (rz_ff (rz_b h) A 0))
        have ef2 : rz_first (rz_b h) (rz_ff (rz_b h) A 0) (rz_tt (rz_b h) A 0) = rz_code (rz_b h) (rz_ff (rz_b h) A 0) (rz_dots (rz_b h) (rz_tt (rz_b h) A 0 - rz_ff (rz_b h) A 0).toNat (rz_ff (rz_b h) A 0)) := rfl
        obtain ⟨F2, hF2⟩ : ∃ F2, F2 = F := ⟨F, rfl⟩
        obtain ⟨E2, hE2⟩ : ∃ E2 : Int → Prop, ∀ x, E2 x ↔ (E x ∨ ((first ≤ x ∧ x ≤ last) ∧ rz_CE (rz_b h) (rz_ff (rz_b h) A 1) (rz_tt (rz_b h) A 1))) := ⟨_, fun x => Iff.rfl⟩
        have hD9 : sz_D τ1 g1 F2 E2 := by rw [hF2]; exact sz_D_R hBh u202 u203 hDh ht (fun P u v w => w.1 rfl) (fun x u v w wu => by rw [w.2 rfl, wu]; exact (hE2 x).symm)
        have hXs : ∃ y, ∀ x, (F2 x).2 ≠ none → (F x).2 ≠ none ∨ x = y := ⟨0, fun x hx => Or.inl (by rw [hF2] at hx; exact hx)⟩
        have hstep : rz_step (rz_b h) n 3 F E F2 E2 := by
          refine ⟨fun w => absurd w (by decide), fun _ => ?_, fun _ w => absurd rfl w⟩
          by_cases hce : rz_CE (rz_b h) (rz_ff (rz_b h) A 1) (rz_tt (rz_b h) A 1)
          · exact Or.inl ⟨first, last, ⟨A, hA, ⟨ef, el, f1n, fl⟩, hce⟩, hF2, fun x => (hE2 x).trans ⟨fun w => w.imp id (fun w => w.1), fun w => w.imp id (fun w => ⟨w, hce⟩)⟩⟩
          · refine Or.inr ⟨fun ⟨_, _, A2, hA2, _, w⟩ => hce (by rw [rz_A_uniq hA hA2]; exact w), hF2, funext fun x => propext ((hE2 x).trans ⟨fun w => w.elim id (fun w => absurd w.2 hce), Or.inl⟩)⟩
        have hans : rz_an (rz_b h) n 2 (rz_g3 (rz_b h)) (last - first + 1) := Or.inl ⟨A, hA, ⟨by rw [← ef]; exact f1n, by rw [← ef, ← el]; exact fl⟩, hpk, by rw [← ef, ← el]⟩
        obtain ⟨D2, hD2⟩ : ∃ D2, D2 = xd D ((3, rz_first (rz_b h) (rz_ff (rz_b h) A 0) (rz_tt (rz_b h) A 0), rz_last (rz_b h) (rz_ff (rz_b h) A 0) (rz_tt (rz_b h) A 0)), (0, 0, 0, 0), (gr, nm), (0, [], [], [])) := ⟨_, rfl⟩
        have hxs : xsl (rz_b h) n 3 D (last - first + 1) D2 := Or.inr ⟨by omega, _, Or.inr (Or.inr (Or.inr (Or.inl ⟨rfl, A, gr, nm, hA, hPV, rfl⟩))), hD2⟩
        have hX1 : jx τ1 g1 D2 := by obtain ⟨O9, hXO⟩ := hXh; exact ⟨O9, sz_X_P hBh u202 u203 hXO htP (fun x => by rw [hD2, xd_3, ← ef, ← el])⟩
        refine ez_go (n := 2) (pc' := 97) (L' := [(3, .inl (last - first + 1)), (0, .inr (.inr (some (720)))), (1, .inl (3)), (2, .inl (n))]) (st' := []) rfl ?_
        refine ez_less [(3, .inl (last - first + 1)), (0, .inr (.inr (some (720)))), (1, .inl (3)), (2, .inl (n))] rfl ⟨rfl, rfl, rfl, rfl, trivial⟩ ?_
        refine rd_take_e hB1 u720 u202 (by omega) (by omega) (Or.inr (by rw [h59, q202]; exact hlt)) (fun g9 hB9 f9 j9 l9 => ?_)
        rw [if_neg (by omega)] at l9
        have y9 := fz_1 u202 rfl f9
        have hX9 : jx τ1 g9 D2 := jx_tr hB1 u202 u203 hX1 (j9 1 (by decide)) (f9.2.2 203 rfl) (fun q hq => ⟨rfl, f9.2.2 q (dz_beq_ne (fun e => by rw [e, u202] at hq; omega))⟩)
        refine k g9 _ F2 E2 _ D2 (jz_yes hI0 hB9 (xg.trans y9) hB1 hok9 hE9 hn9 h59 hD9 f9 j9 l9 hXs) (((x0.trans xg).trans y9).mono (by omega) (by omega)) hstep (Or.inr ⟨by omega, by omega, hnp, by rw [l9, h59, q202]⟩) (fun j j1 j4 j5 => by rw [j9 j j5, ho9 j j1 j4, q202]) hans hxs hX9

theorem rd_take4 {F : rz_W} {E : Int → Prop} {n : Int} {D : Int → xD} (hI : jz_I τ h F E) (hX : jx τ h D) (n0 : 0 ≤ n) (n1 : n ≤ 4096) (hl : n = 0 ∨ qz_I h 202 5 ≤ 255) (hr1 : h.1 + 4 ≤ 600192) (hr2 : h.2.1 + 59 ≤ 7302232) (k : ∀ g τ1 F2 E2 (v : Int) D2, jz_I τ1 g F2 E2 → fz τ h τ1 g 4 59 → rz_step (rz_b h) n 4 F E F2 E2 → ((v = -1 ∧ qz_I g 202 5 = qz_I h 202 5) ∨ (0 ≤ v ∧ v ≤ 1114112 ∧ 0 < n ∧ qz_I g 202 5 = qz_I h 202 5 + 1)) → (∀ j, j ≠ 1 → j ≠ 4 → j ≠ 5 → qz_I g 202 j = qz_I h 202 j) → rz_an (rz_b h) n 2 (rz_g4 (rz_b h)) v → xsl (rz_b h) n 4 D v D2 → jx τ1 g D2 → Q (.inl (some (ez_v (.inl v))), g)) : ez_W (d + 8) cm_174 0 [(0, .inr (.inr (some (720)))), (1, .inl (4)), (2, .inl (n))] [] h Q := by
  have t193 : τ 193 = 45 := hI.2.1 193 (by decide)
  have t202 : τ 202 = 48 := hI.2.1 202 (by decide)
  have t203 : τ 203 = 49 := hI.2.1 203 (by decide)
  have t204 : τ 204 = 50 := hI.2.1 204 (by decide)
  have t205 : τ 205 = 51 := hI.2.1 205 (by decide)
  have t720 : τ 720 = 52 := hI.2.1 720 (by decide)
  have t721 : τ 721 = 53 := hI.2.1 721 (by decide)
  have t722 : τ 722 = 54 := hI.2.1 722 (by decide)
  have hB := hI.1
  refine ez_go (n := 1) (pc' := 1) (L' := [(0, .inr (.inr (some (720)))), (1, .inl (4)), (2, .inl (n))]) (st' := [.inr (.inr (some (720)))]) rfl ?_
  refine ez_gC (p := 202) (tg := 48) hB t720 rfl rfl tq_52 rfl rfl (fun (t202 : _ = 48) => ?_)
  refine ez_gI hB t202 rfl rfl tq_48 rfl rfl (fun (b1 : 0 ≤ qz_I h 202 5) (b1' : qz_I h 202 5 ≤ 256) => ?_)
  refine ez_go (n := 1) (pc' := 10) (L' := [(0, .inr (.inr (some (720)))), (1, .inl (4)), (2, .inl (n))]) (st' := [.inl (256), .inl (qz_I h 202 5)]) rfl ?_
  refine ez_icmp rfl rfl ⟨by first | omega | exact (sz_i32 _).1, by first | omega | exact (sz_i32 _).2⟩ ⟨by first | omega | exact (sz_i32 _).1, by first | omega | exact (sz_i32 _).2⟩ (fun (c2 : (256) ≤ (qz_I h 202 5)) => ?_) (fun (c2 : ¬((256) ≤ (qz_I h 202 5))) => ?_)
  · skip
    refine ez_go (n := 1) (pc' := 26) (L' := [(0, .inr (.inr (some (720)))), (1, .inl (4)), (2, .inl (n))]) (st' := [.inl (-1)]) rfl ?_
    exact ez_retI rfl rfl (k h τ F E (-1) D hI (fz.refl _ _ _ _) ⟨fun w => absurd w (by decide), fun w => absurd w (by decide), fun _ _ => ⟨rfl, rfl⟩⟩ (Or.inl ⟨rfl, rfl⟩) (fun _ _ _ _ => rfl) (rz_an_n (fun ⟨A, hA⟩ => by have := rz_A_pos (by decide) hA; omega)) (Or.inl ⟨rfl, rfl⟩) hX)
  · skip
    refine ez_go (n := 3) (pc' := 16) (L' := [(0, .inr (.inr (some (720)))), (1, .inl (4)), (2, .inl (n))]) (st' := [.inl (4), .inl (n), .inr (.inr (some (720)))]) rfl ?_
    refine ez_cs hB.2.1 rfl rfl rfl rfl rfl (rd_fieldsOf4 (ez_K1 ?_))
    refine ez_cv hB t720 rfl rfl rfl tq_52 rfl rfl rfl (rd_split hB t720 t721 t722 n0 n1 (by omega) (by omega) (fun g0 hB0 f0 hno => ez_K1 ?_) (fun g0 c hB0 f0 hpl hha hlen hfl => ez_K1 ?_))
    · skip
      have x0 := fz_ft t721 t722 f0
      have q202 : ∀ j, qz_I g0 202 j = qz_I h 202 j := fun j => f0.I rfl j
      have hI0 : jz_I τ g0 F E := jz_no hI hB0 x0 q202 (f0.2.2 203 rfl) (f0.2.2 205 rfl) (fun q hq => f0.2.2 q (by unfold rz_ft; rw [dz_beq_ne (fun e => by rw [e, t721] at hq; cases hq), dz_beq_ne (fun e => by rw [e, t722] at hq; cases hq)]; rfl))
      have hX0 : jx τ g0 D := jx_tr hI.1 t202 t203 hX (q202 1) (f0.2.2 203 rfl) (fun q hq => ⟨rfl, f0.2.2 q (by unfold rz_ft; rw [dz_beq_ne (fun e => by rw [e, t721] at hq; omega), dz_beq_ne (fun e => by rw [e, t722] at hq; omega)]; rfl)⟩)
      have b0 : rz_b g0 = rz_b h := rz_b_fr f0 rfl
      refine ez_if rfl rfl ⟨by decide, by decide⟩ (fun (c3 : (0 : Int) ≠ (0)) => absurd c3 (by decide)) (fun _ => ?_)
      refine ez_go (n := 1) (pc' := 26) (L' := [(0, .inr (.inr (some (720)))), (1, .inl (4)), (2, .inl (n))]) (st' := [.inl (-1)]) rfl ?_
      exact ez_retI rfl rfl (k g0 τ F E (-1) D hI0 (x0.mono (by omega) (by omega)) ⟨fun w => absurd w (by decide), fun w => absurd w (by decide), fun _ _ => ⟨rfl, rfl⟩⟩ (Or.inl ⟨rfl, q202 5⟩) (fun j _ _ _ => q202 j) (rz_an_n (fun ⟨A, hA⟩ => by obtain ⟨c, c1, c2, c3, c4⟩ := hA; exact hno c1 c c2.1 c2.2.1 c2.2.2.1 c2.2.2.2 (by rw [← c3]; exact c4))) (Or.inl ⟨rfl, rfl⟩) hX0)
    · skip
      have x0 := fz_ft t721 t722 f0
      have q202 : ∀ j, qz_I g0 202 j = qz_I h 202 j := fun j => f0.I rfl j
      have hI0 : jz_I τ g0 F E := jz_no hI hB0 x0 q202 (f0.2.2 203 rfl) (f0.2.2 205 rfl) (fun q hq => f0.2.2 q (by unfold rz_ft; rw [dz_beq_ne (fun e => by rw [e, t721] at hq; cases hq), dz_beq_ne (fun e => by rw [e, t722] at hq; cases hq)]; rfl))
      have hX0 : jx τ g0 D := jx_tr hI.1 t202 t203 hX (q202 1) (f0.2.2 203 rfl) (fun q hq => ⟨rfl, f0.2.2 q (by unfold rz_ft; rw [dz_beq_ne (fun e => by rw [e, t721] at hq; omega), dz_beq_ne (fun e => by rw [e, t722] at hq; omega)]; rfl)⟩)
      have b0 : rz_b g0 = rz_b h := rz_b_fr f0 rfl
      have hA : rz_A (rz_b h) n 2 (rz_seg (rz_b h) c.toNat 0 0) := ⟨c, hpl, hha, rfl, hlen⟩
      generalize rz_seg (rz_b h) c.toNat 0 0 = A at hA hfl hlen
      have hlen : (A.length : Int) = 2 := by rw [hlen]; rfl
      have hfa : ∀ k, 0 ≤ k → k ≤ 1 → rz_f g0 k = rz_ff (rz_b h) A k ∧ rz_t g0 k = rz_tt (rz_b h) A k := fun k k0 k1 => rz_flds_at hfl k0 (by omega)
      have hft : ∀ k, 0 ≤ k → k ≤ 1 → rz_f g0 k ≤ rz_t g0 k := fun k k0 k1 => by
        obtain ⟨w1, w2⟩ := hfa k k0 k1
        rw [w1, w2]
        exact rz_A_ff hA (by omega) (by omega)
      have hlt : qz_I h 202 5 ≤ 255 := by omega
      have hnp := rz_A_pos (by decide) hA
      have fc0 := x0.2
      have i6 := hI.2.2.2.2.1
      have hsp : qz_I g0 202 1 + 2 ≤ 513 := by rw [q202]; omega
      refine ez_if rfl rfl ⟨by decide, by decide⟩ (fun _ => ?_) (fun (c4 : ¬((1 : Int) ≠ (0))) => absurd c4 (by decide))
      refine ez_go (n := 1) (pc' := 28) (L' := [(0, .inr (.inr (some (720)))), (1, .inl (4)), (2, .inl (n))]) (st' := [.inl (4)]) rfl ?_
      refine ez_sw rfl ⟨by decide, by decide⟩ ⟨_, rfl, rfl⟩ ?_
      refine ez_go (n := 1) (pc' := 93) (L' := [(0, .inr (.inr (some (720)))), (1, .inl (4)), (2, .inl (n))]) (st' := [.inr (.inr (some (720)))]) rfl ?_
      refine ez_cv hB0 t720 rfl rfl rfl tq_52 rfl rfl rfl (rd_takeEntry hB0 t193 t202 t203 t720 t721 t722 hI0.2.2.1.1 hI0.2.2.1.2 hft hsp t204 t205 hI0.2.2.2.1 (by omega) (by omega) (fun g1 τ1 hB1 hx hno2 => ez_K1 ?_) (fun g1 h1 τ1 v v1 v3 hB1 hBh hx fe j9 hE9 hG9 hv9 => ez_K1 ?_))
      · skip
        have xx := x0.trans (fz_xt hx)
        have w202 : ∀ j, qz_I g1 202 j = qz_I g0 202 j := fun j => hx.I (by rw [t202]; decide) j
        have hI1 : jz_I τ1 g1 F E := jz_no hI0 hB1 (fz_xt hx) w202 ((hx.1 203 (by rw [t203]; decide)).2) ((hx.1 205 (by rw [t205]; decide)).2) (fun q hq => (hx.1 q (by rw [hq]; decide)).2)
        have u202 : τ1 202 = 48 := hI1.2.1 202 (by decide)
        have u720 : τ1 720 = 52 := hI1.2.1 720 (by decide)
        have u203 : τ1 203 = 49 := hI1.2.1 203 (by decide)
        have hX1 : jx τ1 g1 D := jx_tr hI0.1 t202 t203 hX0 (w202 1) ((hx.1 203 (by rw [t203]; decide)).2) (fun q hq => ⟨(hx.1 q (by omega)).1, (hx.1 q (by omega)).2⟩)
        have hans : rz_an (rz_b h) n 2 (rz_g4 (rz_b h)) (-1) := rz_an_f hA (fun v w => hno2 (by have w1 := w.1; unfold rz_G4 at w1 ⊢; rw [b0, (hfa 0 (by omega) (by omega)).1, (hfa 0 (by omega) (by omega)).2, (hfa 1 (by omega) (by omega)).1, (hfa 1 (by omega) (by omega)).2]; exact w1))
        refine ez_go (n := 1) (pc' := 97) (L' := [(3, .inl (-1)), (0, .inr (.inr (some (720)))), (1, .inl (4)), (2, .inl (n))]) (st' := []) rfl ?_
        refine ez_less [(3, .inl (-1)), (0, .inr (.inr (some (720)))), (1, .inl (4)), (2, .inl (n))] rfl ⟨rfl, rfl, rfl, rfl, trivial⟩ ?_
        refine rd_take_e hB1 u720 u202 (by omega) (by omega) (Or.inl rfl) (fun g9 hB9 f9 j9 l9 => ?_)
        rw [if_pos rfl] at l9
        have y9 := fz_1 u202 rfl f9
        have e9 : ∀ j, qz_I g9 202 j = qz_I g1 202 j := fun j => by by_cases w : j = 5; (· rw [w, l9]; omega); (· exact j9 j w)
        have hI9 : jz_I τ1 g9 F E := jz_no hI1 hB9 y9 e9 (f9.2.2 203 rfl) (f9.2.2 205 rfl) (fun q hq => f9.2.2 q (rz_ne hq u202 rfl))
        have hX9 : jx τ1 g9 D := jx_tr hB1 u202 u203 hX1 (e9 1) (f9.2.2 203 rfl) (fun q hq => ⟨rfl, f9.2.2 q (dz_beq_ne (fun e => by rw [e, u202] at hq; omega))⟩)
        exact k g9 _ F E (-1) D hI9 ((xx.trans y9).mono (by omega) (by omega)) ⟨fun w => absurd w (by decide), fun w => absurd w (by decide), fun _ _ => ⟨rfl, rfl⟩⟩ (Or.inl ⟨rfl, by rw [e9, w202, q202]⟩) (fun j _ _ _ => by rw [e9, w202, q202]) hans (Or.inl ⟨rfl, rfl⟩) hX9
      · skip
        have xr := fz_xt hx
        have X1 := hI0.2.1.fz xr
        have u202 : τ1 202 = 48 := X1 202 (by decide)
        have u203 : τ1 203 = 49 := X1 203 (by decide)
        have u204 : τ1 204 = 50 := X1 204 (by decide)
        have u205 : τ1 205 = 51 := X1 205 (by decide)
        have u720 : τ1 720 = 52 := X1 720 (by decide)
        have w202 : ∀ j, qz_I h1 202 j = qz_I g0 202 j := fun j => hx.I (by rw [t202]; decide) j
        have c205 : h1.2.2 205 = g0.2.2 205 := (hx.1 205 (by rw [t205]; decide)).2
        have c203 : h1.2.2 203 = g0.2.2 203 := (hx.1 203 (by rw [t203]; decide)).2
        have c4 : ∀ q, τ q = 4 → h1.2.2 q = g0.2.2 q := fun q hq => (hx.1 q (by rw [hq]; decide)).2
        have hXh : jx τ1 h1 D := jx_tr hB0 t202 t203 hX0 (w202 1) c203 (fun q hq => ⟨(hx.1 q (by omega)).1, (hx.1 q (by omega)).2⟩)
        have hDh : sz_D τ1 h1 F E := sz_D_tr hB0 t202 t203 hI0.2.2.2.2.2.2.1 (w202 1) c203 c4 (fun q hq => by have := (xr.1 q (by rw [hq]; decide)).2 (by rw [hq]; rfl); unfold qz_I; rw [this]; exact ⟨rfl, rfl, rfl, rfl⟩) (fun p hp => by have := xr.1 p (by rw [hp]; decide); exact ⟨this.1.trans hp, this.2 (by rw [hp]; rfl)⟩)
        have F2e : ∃ F2, F2 = F := ⟨F, rfl⟩
        obtain ⟨F2, hF2⟩ := F2e
        have E2e : ∃ E2, E2 = E := ⟨E, rfl⟩
        obtain ⟨E2, hE2⟩ := E2e
        have hXs : ∃ y, ∀ x, (F2 x).2 ≠ none → (F x).2 ≠ none ∨ x = y := ⟨0, fun x hx => Or.inl (by rw [hF2] at hx; exact hx)⟩
        have hstep : rz_step (rz_b h) n 4 F E F2 E2 := ⟨fun w => absurd w (by decide), fun w => absurd w (by decide), fun _ _ => ⟨hF2, hE2⟩⟩
        have xg := xr.trans (fz_PE u202 u204 u205 fe)
        have pe : ∀ q, τ1 q = 3 ∨ τ1 q = 4 ∨ τ1 q = 5 → nz_PE q = false := fun q hq => by unfold nz_PE; rw [dz_beq_ne (fun e => by rw [e, u202] at hq; omega), dz_beq_ne (fun e => by rw [e, u204] at hq; omega), dz_beq_ne (fun e => by rw [e, u205] at hq; omega)]; rfl
        have hD9 : sz_D τ1 g1 F2 E2 := by
          rw [hF2, hE2]
          refine sz_D_tr hBh u202 u203 hDh (j9 1 (by decide)) (fe.2.2 203 rfl) (fun q hq => fe.2.2 q (pe q (Or.inr (Or.inl hq)))) (fun q hq => ?_) (fun p hp => ⟨hp, fe.2.2 p (pe p (Or.inr (Or.inr hp)))⟩)
          unfold qz_I; rw [fe.2.2 q (pe q (Or.inl hq))]; exact ⟨rfl, rfl, rfl, rfl⟩
        have okh := sz_same_ok hB0 t203 t202 (hx.1 202 (by rw [t202]; decide)).2 (hx.1 203 (by rw [t203]; decide)).2 (fun q hq => (hx.1 q (by rw [hq]; decide)).2) hI0.2.2.1.1 hI0.2.2.1.2
        have hok9 := sz_pe_ok hBh u203 u202 (j9 1 (by decide)) (fe.2.2 203 rfl) (fun q hq => fe.2.2 q (pe q (Or.inr (Or.inl hq)))) okh.1 okh.2
        have hn9 : qz_I g1 202 1 ≤ qz_I g0 202 1 + 2 := by rw [j9 1 (by decide), w202]; omega
        have h59 : qz_I g1 202 5 = qz_I g0 202 5 := (j9 5 (by decide)).trans (w202 5)
        have ho9 : ∀ j, j ≠ 1 → j ≠ 4 → qz_I g1 202 j = qz_I g0 202 j := fun j _ j4 => (j9 j j4).trans (w202 j)
        unfold rz_G4 at hG9; rw [b0, (hfa 0 (by omega) (by omega)).1, (hfa 0 (by omega) (by omega)).2, (hfa 1 (by omega) (by omega)).1, (hfa 1 (by omega) (by omega)).2] at hG9
        rw [b0, (hfa 0 (by omega) (by omega)).1, (hfa 0 (by omega) (by omega)).2] at hv9
        have hans : rz_an (rz_b h) n 2 (rz_g4 (rz_b h)) v := Or.inl ⟨A, hA, hG9, hv9⟩
        obtain ⟨D2, hD2⟩ : ∃ D2, D2 = xd D ((4, 0, 0), (0, 0, 0, 0), (0, 0), (0, [], [], [])) := ⟨_, rfl⟩
        have hxs : xsl (rz_b h) n 4 D v D2 := Or.inr ⟨by omega, _, Or.inr (Or.inr (Or.inr (Or.inr ⟨rfl, rfl⟩))), hD2⟩
        have hX1 : jx τ1 g1 D2 := by
          rw [hD2, xd_4]
          exact jx_tr hBh u202 u203 hXh (j9 1 (by decide)) (fe.2.2 203 rfl) (fun q hq => ⟨rfl, fe.2.2 q (by unfold nz_PE; rw [dz_beq_ne (fun e => by rw [e, u202] at hq; omega), dz_beq_ne (fun e => by rw [e, u204] at hq; omega), dz_beq_ne (fun e => by rw [e, u205] at hq; omega)]; rfl)⟩)
        refine ez_go (n := 1) (pc' := 97) (L' := [(3, .inl (v)), (0, .inr (.inr (some (720)))), (1, .inl (4)), (2, .inl (n))]) (st' := []) rfl ?_
        refine ez_less [(3, .inl (v)), (0, .inr (.inr (some (720)))), (1, .inl (4)), (2, .inl (n))] rfl ⟨rfl, rfl, rfl, rfl, trivial⟩ ?_
        refine rd_take_e hB1 u720 u202 (by omega) (by omega) (Or.inr (by rw [h59, q202]; exact hlt)) (fun g9 hB9 f9 j9 l9 => ?_)
        rw [if_neg (by omega)] at l9
        have y9 := fz_1 u202 rfl f9
        have hX9 : jx τ1 g9 D2 := jx_tr hB1 u202 u203 hX1 (j9 1 (by decide)) (f9.2.2 203 rfl) (fun q hq => ⟨rfl, f9.2.2 q (dz_beq_ne (fun e => by rw [e, u202] at hq; omega))⟩)
        refine k g9 _ F2 E2 _ D2 (jz_yes hI0 hB9 (xg.trans y9) hB1 hok9 hE9 hn9 h59 hD9 f9 j9 l9 hXs) (((x0.trans xg).trans y9).mono (by omega) (by omega)) hstep (Or.inr ⟨by omega, by omega, hnp, by rw [l9, h59, q202]⟩) (fun j j1 j4 j5 => by rw [j9 j j5, ho9 j j1 j4, q202]) hans hxs hX9

end EzTa
section EzDv
variable {d : Nat} {M : cz_M} {pc : Nat} {L : List (Nat × ez_V)} {st : List ez_V} {h : cz_H} {Q : cz_F → Prop}
theorem nz_div {a b : Int} (a0 : 0 ≤ a) (a1 : a ≤ 2147483647) (b0 : 0 < b) (b1 : b ≤ 2147483647) : Int32.ofInt a / Int32.ofInt b = Int32.ofInt (a / b) := by
  apply Int32.toInt_inj.mp
  have ea : (Int32.ofInt a).toInt = a := dz_toInt_i (by omega) (by omega)
  have eb : (Int32.ofInt b).toInt = b := dz_toInt_i (by omega) (by omega)
  have hq : 0 ≤ a / b := Int.ediv_nonneg a0 (by omega)
  have hq2 : a / b ≤ a := Int.ediv_le_self b a0
  rw [Int32.toInt_div, ea, eb, dz_toInt_i (n := a / b) (by omega) (by omega), Int.tdiv_eq_ediv_of_nonneg a0]
  rw [Int.bmod_eq_of_le (by omega) (by omega)]
theorem nz_rem {a b : Int} (a0 : 0 ≤ a) (a1 : a ≤ 2147483647) (b0 : 0 < b) (b1 : b ≤ 2147483647) : Int32.ofInt a - Int32.ofInt a / Int32.ofInt b * Int32.ofInt b = Int32.ofInt (a % b) := by
  rw [nz_div a0 a1 b0 b1, ← Int32.ofInt_mul, ← Int32.ofInt_sub, Int.emod_def, Int.mul_comm]
theorem ez_div {a b : Int} (hc : cz_code M pc = some (.idiv, 1)) (a0 : 0 ≤ a) (a1 : a ≤ 2147483647) (b0 : 0 < b) (b1 : b ≤ 2147483647) (k : ez_W d M (pc + 1) L (.inl (a / b) :: st) h Q) : ez_W d M pc L (.inl b :: .inl a :: st) h Q := by
  have eb : (Int32.ofInt b).toInt = b := dz_toInt_i (by omega) (by omega)
  have hb : Int32.ofInt b ≠ 0 := fun e => by rw [e] at eb; have : (0 : Int32).toInt = 0 := rfl; omega
  refine dz_wp_pure (q := (ez_L L, .inl (Int32.ofInt (a / b)) :: st.map ez_v)) hc rfl ?_ k
  show (bif decide (Int32.ofInt b = 0) then none else some (ez_L L, (.inl (Int32.ofInt a / Int32.ofInt b) : cz_V) :: st.map ez_v)) = _
  rw [decide_eq_false hb, nz_div a0 a1 b0 b1]
  rfl
theorem ez_rem {a b : Int} (hc : cz_code M pc = some (.irem, 1)) (a0 : 0 ≤ a) (a1 : a ≤ 2147483647) (b0 : 0 < b) (b1 : b ≤ 2147483647) (k : ez_W d M (pc + 1) L (.inl (a % b) :: st) h Q) : ez_W d M pc L (.inl b :: .inl a :: st) h Q := by
  have eb : (Int32.ofInt b).toInt = b := dz_toInt_i (by omega) (by omega)
  have hb : Int32.ofInt b ≠ 0 := fun e => by rw [e] at eb; have : (0 : Int32).toInt = 0 := rfl; omega
  refine dz_wp_pure (q := (ez_L L, .inl (Int32.ofInt (a % b)) :: st.map ez_v)) hc rfl ?_ k
  show (bif decide (Int32.ofInt b = 0) then none else some (ez_L L, (.inl (Int32.ofInt a - Int32.ofInt a / Int32.ofInt b * Int32.ofInt b) : cz_V) :: st.map ez_v)) = _
  rw [decide_eq_false hb, nz_rem a0 a1 b0 b1]
  rfl
end EzDv
/-! SOUND, as a property of what is told of each point. -/
abbrev hz (x : Int) : Prop := 44032 ≤ x ∧ x ≤ 55203
def hz_sy (x : Int) : List Int := if (x - 44032) % 28 = 0 then [4352 + (x - 44032) / 588, 4449 + (x - 44032) % 588 / 28] else [4352 + (x - 44032) / 588, 4449 + (x - 44032) % 588 / 28, 4519 + (x - 44032) % 28]
def hz_pair (a b : Int) : Prop := ((4352 ≤ a ∧ a ≤ 4370) ∧ 4449 ≤ b ∧ b ≤ 4469) ∨ (hz a ∧ (a - 44032) % 28 = 0 ∧ 4520 ≤ b ∧ b ≤ 4546)
def uz_L (f : Int → Option (List Int)) : List Int → Option (List Int)
  | [] => some []
  | v :: vs => match f v, uz_L f vs with
    | some a, some b => some (a ++ b)
    | _, _ => none
/-- the full decomposition, with so much fuel -/
def uz_f (F : rz_W) (c : Bool) : Nat → Int → Option (List Int)
  | 0, _ => none
  | n + 1, x => if hz x then some (hz_sy x) else match (F x).2 with
    | none => some [x]
    | some q => if c = true ∨ q.1 = 0 then uz_L (uz_f F c n) q.2 else some [x]
def uz_F (F : rz_W) (c : Bool) (x : Int) (l : List Int) : Prop := ∃ n, uz_f F c n x = some l
def uz_FL (F : rz_W) (c : Bool) (vs l : List Int) : Prop := ∃ n, uz_L (uz_f F c n) vs = some l
theorem uz_L_mono {f g : Int → Option (List Int)} (h : ∀ x l, f x = some l → g x = some l) : ∀ vs l, uz_L f vs = some l → uz_L g vs = some l
  | [], l, hl => hl
  | v :: vs, l, hl => by
    unfold uz_L at hl ⊢
    cases h1 : f v with
    | none => rw [h1] at hl; cases hl
    | some a =>
      cases h2 : uz_L f vs with
      | none => rw [h1, h2] at hl; cases hl
      | some b =>
        rw [h1, h2] at hl
        rw [h v a h1, uz_L_mono h vs b h2]
        exact hl
theorem uz_f_succ (F : rz_W) (c : Bool) : ∀ n x l, uz_f F c n x = some l → uz_f F c (n + 1) x = some l
  | 0, x, l, h => by cases h
  | n + 1, x, l, h => by
    unfold uz_f at h ⊢
    split at h
    · rename_i e; rw [if_pos e]; exact h
    · rename_i e
      rw [if_neg e]
      split at h
      · exact h
      · rename_i q _
        split at h
        · rename_i e2
          rw [if_pos e2]
          exact uz_L_mono (fun x l => uz_f_succ F c n x l) _ _ h
        · rename_i e2
          rw [if_neg e2]; exact h
theorem uz_f_mono (F : rz_W) (c : Bool) (n : Nat) (x : Int) (l : List Int) (h : uz_f F c n x = some l) : ∀ k, uz_f F c (n + k) x = some l
  | 0 => h
  | k + 1 => uz_f_succ F c (n + k) x l (uz_f_mono F c n x l h k)
theorem uz_FL_mono {F : rz_W} {c : Bool} {n : Nat} {vs l : List Int} (h : uz_L (uz_f F c n) vs = some l) (k : Nat) : uz_L (uz_f F c (n + k)) vs = some l := uz_L_mono (fun x l w => uz_f_mono F c n x l w k) vs l h
theorem uz_uniq {F : rz_W} {c : Bool} {x : Int} {l l' : List Int} (h : uz_F F c x l) (h' : uz_F F c x l') : l = l' := by
  obtain ⟨n, h⟩ := h
  obtain ⟨m, h'⟩ := h'
  have e := uz_f_mono F c n x l h m
  have e' := uz_f_mono F c m x l' h' n
  rw [Nat.add_comm m n, e] at e'
  cases e'
  rfl
theorem uz_L_uniq {F : rz_W} {c : Bool} {vs l l' : List Int} (h : uz_FL F c vs l) (h' : uz_FL F c vs l') : l = l' := by
  obtain ⟨n, h⟩ := h
  obtain ⟨m, h'⟩ := h'
  have e := uz_FL_mono h m
  have e' := uz_FL_mono h' n
  rw [Nat.add_comm m n, e] at e'
  cases e'
  rfl
theorem uz_nil (F : rz_W) (c : Bool) : uz_FL F c [] [] := ⟨0, rfl⟩
theorem uz_cons {F : rz_W} {c : Bool} {v : Int} {vs a b : List Int} (h1 : uz_F F c v a) (h2 : uz_FL F c vs b) : uz_FL F c (v :: vs) (a ++ b) := by
  obtain ⟨n, h1⟩ := h1
  obtain ⟨m, h2⟩ := h2
  refine ⟨n + m, ?_⟩
  unfold uz_L
  have e1 := uz_f_mono F c n v a h1 m
  have e2 := uz_FL_mono h2 n
  rw [Nat.add_comm m n] at e2
  rw [e1, e2]
theorem uz_cons_inv {F : rz_W} {c : Bool} {v : Int} {vs l : List Int} (h : uz_FL F c (v :: vs) l) : ∃ a b, uz_F F c v a ∧ uz_FL F c vs b ∧ l = a ++ b := by
  obtain ⟨n, h⟩ := h
  unfold uz_L at h
  cases h1 : uz_f F c n v with
  | none => rw [h1] at h; cases h
  | some a =>
    cases h2 : uz_L (uz_f F c n) vs with
    | none => rw [h1, h2] at h; cases h
    | some b => rw [h1, h2] at h; cases h; exact ⟨a, b, ⟨n, h1⟩, ⟨n, h2⟩, rfl⟩
theorem uz_snoc {F : rz_W} {c : Bool} {v : Int} {b : List Int} (h2 : uz_F F c v b) : ∀ {vs a : List Int}, uz_FL F c vs a → uz_FL F c (vs ++ [v]) (a ++ b)
  | [], a, h1 => by
    have e : a = [] := uz_L_uniq h1 (uz_nil F c)
    subst e
    have := uz_cons h2 (uz_nil F c)
    rw [List.append_nil] at this
    exact this
  | w :: vs, a, h1 => by
    obtain ⟨p, q, p1, p2, rfl⟩ := uz_cons_inv h1
    rw [List.append_assoc]
    exact uz_cons p1 (uz_snoc h2 p2)
theorem uz_syl {F : rz_W} {c : Bool} {x : Int} (h : hz x) : uz_F F c x (hz_sy x) := ⟨1, by unfold uz_f; rw [if_pos h]⟩
theorem uz_leaf {F : rz_W} {c : Bool} {x : Int} (h : ¬ hz x) (h1 : (F x).2 = none) : uz_F F c x [x] := ⟨1, by unfold uz_f; rw [if_neg h, h1]⟩
theorem uz_row {F : rz_W} {c : Bool} {x cp : Int} {vs l : List Int} (h : ¬ hz x) (h1 : (F x).2 = some (cp, vs)) (h2 : c = true ∨ cp = 0) (h3 : uz_FL F c vs l) : uz_F F c x l := by
  obtain ⟨n, h3⟩ := h3
  refine ⟨n + 1, ?_⟩
  unfold uz_f
  rw [if_neg h, h1]
  dsimp only
  rw [if_pos h2]
  exact h3
theorem uz_keep {F : rz_W} {c : Bool} {x cp : Int} {vs : List Int} (h : ¬ hz x) (h1 : (F x).2 = some (cp, vs)) (h2 : ¬ (c = true ∨ cp = 0)) : uz_F F c x [x] := by
  refine ⟨1, ?_⟩
  unfold uz_f
  rw [if_neg h, h1]
  dsimp only
  rw [if_neg h2]
theorem uz_row_inv {F : rz_W} {c : Bool} {x cp : Int} {vs l : List Int} (h : ¬ hz x) (h1 : (F x).2 = some (cp, vs)) (h2 : c = true ∨ cp = 0) (h3 : uz_F F c x l) : uz_FL F c vs l := by
  obtain ⟨n, h3⟩ := h3
  cases n with
  | zero => cases h3
  | succ n =>
    unfold uz_f at h3
    rw [if_neg h, h1] at h3
    dsimp only at h3
    rw [if_pos h2] at h3
    exact ⟨n, h3⟩
/-- no chain of decompositions without end from there -/
def az (F : rz_W) : Nat → Int → Prop
  | 0, _ => False
  | n + 1, x => hz x ∨ (F x).2 = none ∨ ∃ cp vs, (F x).2 = some (cp, vs) ∧ ∀ v ∈ vs, az F n v
theorem az_succ (F : rz_W) : ∀ n x, az F n x → az F (n + 1) x
  | 0, x, h => h.elim
  | n + 1, x, h => by
    rcases h with h | h | ⟨cp, vs, h1, h2⟩
    · exact Or.inl h
    · exact Or.inr (Or.inl h)
    · exact Or.inr (Or.inr ⟨cp, vs, h1, fun v hv => az_succ F n v (h2 v hv)⟩)
theorem az_mono (F : rz_W) (n : Nat) (x : Int) (h : az F n x) : ∀ k, az F (n + k) x
  | 0 => h
  | k + 1 => az_succ F (n + k) x (az_mono F n x h k)
def az_e (F : rz_W) (x : Int) : Prop := ∃ n, az F n x
theorem az_list (F : rz_W) : ∀ vs : List Int, (∀ v ∈ vs, az_e F v) → ∃ n, ∀ v ∈ vs, az F n v
  | [], _ => ⟨0, fun v hv => by cases hv⟩
  | w :: vs, h => by
    obtain ⟨n, hn⟩ := az_list F vs (fun v hv => h v (List.mem_cons_of_mem _ hv))
    obtain ⟨m, hm⟩ := h w List.mem_cons_self
    refine ⟨n + m, fun v hv => ?_⟩
    rcases List.mem_cons.mp hv with rfl | hv
    · rw [Nat.add_comm]; exact az_mono F m _ hm n
    · exact az_mono F n v (hn v hv) m
theorem az_row {F : rz_W} {x cp : Int} {vs : List Int} (h1 : (F x).2 = some (cp, vs)) (h : ∀ v ∈ vs, az_e F v) : az_e F x := by
  obtain ⟨n, hn⟩ := az_list F vs h
  exact ⟨n + 1, Or.inr (Or.inr ⟨cp, vs, h1, hn⟩)⟩
theorem az_leaf {F : rz_W} {x : Int} (h : hz x ∨ (F x).2 = none) : az_e F x := ⟨1, h.elim Or.inl (fun w => Or.inr (Or.inl w))⟩
theorem az_row_inv {F : rz_W} {x cp : Int} {vs : List Int} (h0 : ¬ hz x) (h1 : (F x).2 = some (cp, vs)) (h : az_e F x) : ∀ v ∈ vs, az_e F v := by
  obtain ⟨n, h⟩ := h
  cases n with
  | zero => exact h.elim
  | succ n =>
    rcases h with h | h | ⟨cp', vs', h2, h3⟩
    · exact absurd h h0
    · rw [h1] at h; cases h
    · rw [h1] at h2; cases h2
      exact fun v hv => ⟨n, h3 v hv⟩
/-- a set without end -/
theorem az_cycle {F : rz_W} {Z : Int → Prop} (h : ∀ z, Z z → ¬ hz z ∧ ∃ cp vs, (F z).2 = some (cp, vs) ∧ ∃ v ∈ vs, Z v) : ∀ n z, Z z → ¬ az F n z
  | 0, z, _, w => w
  | n + 1, z, hz', w => by
    obtain ⟨h0, cp, vs, h1, v, h2, h3⟩ := h z hz'
    rcases w with w | w | ⟨cp', vs', w1, w2⟩
    · exact h0 w
    · rw [h1] at w; cases w
    · rw [h1] at w1; cases w1
      exact az_cycle h n v h3 (w2 v h2)
theorem az_ful (F : rz_W) (c : Bool) : ∀ n x, az F n x → ∃ l, uz_F F c x l
  | 0, x, h => h.elim
  | n + 1, x, h => by
    by_cases e : hz x
    · exact ⟨_, uz_syl e⟩
    · rcases h with h | h | ⟨cp, vs, h1, h2⟩
      · exact absurd h e
      · exact ⟨_, uz_leaf e h⟩
      · by_cases e2 : c = true ∨ cp = 0
        · have : ∀ ws : List Int, (∀ v ∈ ws, az F n v) → ∃ l, uz_FL F c ws l := by
            intro ws
            induction ws with
            | nil => intro _; exact ⟨_, uz_nil F c⟩
            | cons w ws ih =>
              intro hw
              obtain ⟨b, hb⟩ := ih (fun v hv => hw v (List.mem_cons_of_mem _ hv))
              obtain ⟨a, ha⟩ := az_ful F c n w (hw w List.mem_cons_self)
              exact ⟨_, uz_cons ha hb⟩
          obtain ⟨l, hl⟩ := this vs h2
          exact ⟨l, uz_row e h1 e2 hl⟩
        · exact ⟨_, uz_keep e h1 e2⟩
/-- excluded from composition -/
def ez_x (F : rz_W) (E : Int → Prop) (x : Int) : Prop := (E x ∨ 0 < (F x).1) ∨ ∃ a b, (F x).2 = some (0, [a, b]) ∧ 0 < (F a).1
/-- a primary composite with its pair -/
def ez_p (F : rz_W) (E : Int → Prop) (x a b : Int) : Prop := (F x).2 = some (0, [a, b]) ∧ ¬ ez_x F E x
def uz_S1 (F : rz_W) : Prop := ∀ x cp vs, (F x).2 = some (cp, vs) → ¬ hz x ∧ (cp = 0 → vs.length ≤ 2)
def uz_S2 (F : rz_W) : Prop := ∀ x, (F x).2 ≠ none → az_e F x
def uz_S3 (F : rz_W) : Prop := ∀ x, (F x).2 ≠ none → ∀ c, ∃ l, uz_F F c x l ∧ l.length ≤ 40
def uz_S4 (F : rz_W) (E : Int → Prop) : Prop := (∀ x a b, ez_p F E x a b → ¬ hz_pair a b) ∧ ∀ x y a b, ez_p F E x a b → ez_p F E y a b → x = y
def uz_S (F : rz_W) (E : Int → Prop) : Prop := uz_S1 F ∧ uz_S2 F ∧ uz_S3 F ∧ uz_S4 F E
/-- what is told is of the right kind -/
def uz_wf (F : rz_W) : Prop := ∀ x, 0 ≤ (F x).1 ∧ ∀ cp vs, (F x).2 = some (cp, vs) → (cp = 0 ∨ cp = 1) ∧ (1 ≤ vs.length ∧ vs.length ≤ 18) ∧ (∀ v ∈ vs, 0 ≤ v ∧ v ≤ 1114111) ∧ 0 ≤ x ∧ x ≤ 1114111
theorem rz_row_bd (b : Int → Int) : ∀ (m : Nat) (a t : Int) (l : List Int), rz_row b m a t = some l → ∀ v ∈ l, 0 ≤ v ∧ v ≤ 1114111
  | 0, a, t, l, h, v, hv => by
    unfold rz_row at h
    cases h
    cases hv
  | m + 1, a, t, l, h, v, hv => by
    unfold rz_row at h
    split at h
    · cases h
    · rename_i e
      obtain ⟨l', h1, h2⟩ := Option.map_eq_some_iff.mp h
      subst h2
      rcases List.mem_cons.mp hv with rfl | hv
      · have := rz_code_bd b (rz_skip b (t - a).toNat a) (rz_tok b (t - rz_skip b (t - a).toNat a).toNat (rz_skip b (t - a).toNat a))
        omega
      · exact rz_row_bd b m _ t _ h1 v hv
theorem uz_wf_step {b : Int → Int} {n kind : Int} {F F' : rz_W} {E E' : Int → Prop} (hw : uz_wf F) (h : rz_step b n kind F E F' E') : uz_wf F' := by
  by_cases k0 : kind = 0
  · rcases h.1 k0 with ⟨f, l, c, dd, a1, a2, a3⟩ | ⟨a1, a2, a3⟩
    · intro x
      rw [a2 x]
      split
      · rename_i hx
        obtain ⟨A, hA, hF⟩ := a1
        refine ⟨hF.2.2.1.2.1.1, fun cp vs e => ?_⟩
        dsimp only at e
        rcases hF.2.2.2.1 with ⟨w1, w2⟩ | ⟨w1, cp', bg, vs', w2, w3, w4⟩
        · rw [w2] at e; cases e
        · rw [w4] at e; cases e
          have hc := rz_db_cp w2
          have hl := rz_rw_len w3
          unfold rz_rw at w3
          split at w3
          · rename_i hb
            have bl := rz_last_bd b (rz_ff b A 0) (rz_tt b A 0)
            have bf := rz_code_bd b (rz_ff b A 0) (rz_dots b (rz_tt b A 0 - rz_ff b A 0).toNat (rz_ff b A 0))
            have ef2 : rz_first b (rz_ff b A 0) (rz_tt b A 0) = rz_code b (rz_ff b A 0) (rz_dots b (rz_tt b A 0 - rz_ff b A 0).toNat (rz_ff b A 0)) := rfl
            have q := hF.1
            refine ⟨hc, by omega, rz_row_bd b _ _ _ _ w3, by omega, by omega⟩
          · cases w3
      · exact hw x
    · rw [a2]; exact hw
  · by_cases k3 : kind = 3
    · rcases h.2.1 k3 with ⟨f, l, a1, a2, a3⟩ | ⟨a1, a2, a3⟩
      · rw [a2]; exact hw
      · rw [a2]; exact hw
    · rw [(h.2.2 k0 k3).1]; exact hw
/-- sums of weights -/
def wz (W : Int → Nat) : List Int → Nat
  | [] => 0
  | x :: xs => W x + wz W xs
theorem wz_le {W W' : Int → Nat} : ∀ {xs : List Int}, (∀ x, W' x ≤ W x) → wz W' xs ≤ wz W xs
  | [], _ => Nat.le_refl _
  | x :: xs, h => by
    have := wz_le (xs := xs) h
    have := h x
    unfold wz
    omega
theorem wz_lt {W W' : Int → Nat} {y : Int} {k : Nat} : ∀ {xs : List Int}, (∀ x, W' x ≤ W x) → y ∈ xs → W' y + k ≤ W y → wz W' xs + k ≤ wz W xs
  | x :: xs, h, hy, hk => by
    unfold wz
    rcases List.mem_cons.mp hy with rfl | hy
    · have := wz_le (xs := xs) h
      omega
    · have := wz_lt (xs := xs) h hy hk
      have := h x
      omega
theorem wz_const {k : Nat} : ∀ (xs : List Int), wz (fun _ => k) xs = k * xs.length
  | [] => by unfold wz; simp
  | x :: xs => by
    unfold wz
    rw [wz_const xs, List.length_cons, Nat.mul_add]
    omega
/-! The class while it seals. -/
/-- cells that sealing may change -/
def pz (τ : Nat → Nat) (h g : cz_H) : Prop := (g.1 = h.1 ∧ g.2.1 = h.2.1) ∧ (∀ q, τ q ≠ 3 → (q < 723 ∨ 728 < q) → g.2.2 q = h.2.2 q) ∧ ∀ q, τ q = 3 → ∀ j, j < 8 → qz_I g q j = qz_I h q j
theorem pz.refl (τ : Nat → Nat) (h : cz_H) : pz τ h h := ⟨⟨rfl, rfl⟩, fun _ _ _ => rfl, fun _ _ _ _ => rfl⟩
theorem pz.trans {τ : Nat → Nat} {h g k : cz_H} (a : pz τ h g) (b : pz τ g k) : pz τ h k := ⟨⟨b.1.1.trans a.1.1, b.1.2.trans a.1.2⟩, fun q q1 q2 => (b.2.1 q q1 q2).trans (a.2.1 q q1 q2), fun q q1 j j1 => (b.2.2 q q1 j j1).trans (a.2.2 q q1 j j1)⟩
theorem pz_fr {P : Nat → Bool} {τ : Nat → Nat} {h g : cz_H} (hf : ez_fr P h g) (hP : ∀ q, P q = true → 723 ≤ q ∧ q ≤ 728 ∧ τ q ≠ 3) : pz τ h g := by
  have hn : ∀ q, ¬(723 ≤ q ∧ q ≤ 728 ∧ τ q ≠ 3) → P q = false := fun q hq => by
    cases e : P q with
    | true => exact absurd (hP q e) hq
    | false => rfl
  exact ⟨⟨hf.1, hf.2.1⟩, fun q _ q2 => hf.2.2 q (hn q (fun w => by omega)), fun q q1 j _ => hf.I (hn q (fun w => w.2.2 q1)) j⟩
theorem pz_put3 {τ : Nat → Nat} {h : cz_H} {r i : Nat} {v : cz_V} (tr : τ r = 3) (hi : 8 ≤ i) : pz τ h (dz_put h r i v) := by
  refine ⟨⟨rfl, rfl⟩, fun q q1 _ => qz_put_at h r i v (fun e => by rw [e] at q1; exact q1 tr), fun q _ j j8 => ez_put_I (fun w => by omega)⟩
theorem pz_put {τ : Nat → Nat} {h : cz_H} {r i : Nat} {v : cz_V} (h1 : 723 ≤ r) (h2 : r ≤ 728) (hr : τ r ≠ 3) : pz τ h (dz_put h r i v) := by
  refine ⟨⟨rfl, rfl⟩, fun q _ q2 => qz_put_at h r i v (fun e => by omega), fun q q1 j _ => ez_put_I (fun w => by rw [w.1] at q1; exact hr q1)⟩
/-- a Fact of a point -/
def pz_F (τ : Nat → Nat) (g : cz_H) (r : Nat) (x : Int) (q : Int × Option (Int × List Int)) : Prop := τ r = 3 ∧ qz_I g r 2 = q.1 ∧ (q.2 = none → qz_I g r 3 = 0) ∧ ∀ cp vs, q.2 = some (cp, vs) → qz_I g r 0 = x ∧ qz_I g r 4 = cp ∧ 1 ≤ qz_I g r 3 ∧ τ (qz_P g r 3) = 5 ∧ qz_N g (qz_P g r 3) = (vs.length : Int) ∧ ∀ (j : Nat) v, vs[j]? = some v → qz_I g (qz_P g r 3) j = v
/-- where the fact of each point is -/
def pz_C (τ : Nat → Nat) (g : cz_H) (T : Int → Nat) (F : rz_W) (E : Int → Prop) : Prop := ez_B τ g ∧ jz_X τ ∧ sz_ok g ∧ (∀ x k, 0 ≤ x → x ≤ 1114111 → sz_at g x k → qz_I g (sz_p g k) 1 = (T x : Int) + 1 ∧ (sz_t0 (qz_I g (sz_p g k) 2) ↔ E x)) ∧ ∀ x, 0 ≤ x → x ≤ 1114111 → pz_F τ g (T x) x (F x)
theorem pz_X {τ : Nat → Nat} (hX : jz_X τ) {q : Nat} (h1 : 723 ≤ q) (h2 : q ≤ 728) : τ q ≠ 3 ∧ τ q ≠ 4 ∧ τ q ≠ 5 := by
  have : q = 723 ∨ q = 724 ∨ q = 725 ∨ q = 726 ∨ q = 727 ∨ q = 728 := by omega
  rcases this with rfl | rfl | rfl | rfl | rfl | rfl <;> (rw [hX _ (by decide)]; decide)
theorem sz_ok_tr {τ : Nat → Nat} {h g : cz_H} (hB : ez_B τ h) (t203 : τ 203 = 49) (t202 : τ 202 = 48) (e2 : qz_I g 202 1 = qz_I h 202 1) (e3 : g.2.2 203 = h.2.2 203) (e4 : ∀ q, τ q = 4 → g.2.2 q = h.2.2 q) (hs : sz_ok h) : sz_ok g := by
  have bn := sz_R_n1 hB t202
  have hp : ∀ k, sz_p g k = sz_p h k := fun k => by unfold sz_p qz_P qz_I; rw [e3]
  have hss : ∀ k, 0 ≤ k → k < 513 → ∀ j, qz_I g (sz_p g k) j = qz_I h (sz_p h k) j := fun k k0 k1 j => by
    rw [hp]
    unfold qz_I
    rw [e4 _ (sz_tag hB t203 k0 k1)]
  refine ⟨?_, fun i j i0 ij jn => ?_⟩
  · unfold sz_f; rw [hss 0 (by omega) (by omega)]; exact hs.1
  · rw [e2] at jn
    unfold sz_f
    rw [hss i i0 (by omega), hss j (by omega) (by omega)]
    exact hs.2 i j i0 ij jn
theorem pz_C.fr {τ : Nat → Nat} {h g : cz_H} {T : Int → Nat} {F : rz_W} {E : Int → Prop} (hC : pz_C τ h T F E) (hB : ez_B τ g) (x : pz τ h g) : pz_C τ g T F E := by
  obtain ⟨c1, c2, c3, c4, c5⟩ := hC
  have t202 : τ 202 = 48 := c2 202 (by decide)
  have t203 : τ 203 = 49 := c2 203 (by decide)
  have e202 := x.2.1 202 (by rw [t202]; decide) (by omega)
  have e203 := x.2.1 203 (by rw [t203]; decide) (by omega)
  have out : ∀ q, τ q = 4 ∨ τ q = 5 → q < 723 ∨ 728 < q := fun q hq => by
    by_cases e : 723 ≤ q ∧ q ≤ 728
    · have := pz_X c2 e.1 e.2; omega
    · omega
  have e4 : ∀ q, τ q = 4 → g.2.2 q = h.2.2 q := fun q hq => x.2.1 q (by rw [hq]; decide) (out q (Or.inl hq))
  have e5 : ∀ q, τ q = 5 → g.2.2 q = h.2.2 q := fun q hq => x.2.1 q (by rw [hq]; decide) (out q (Or.inr hq))
  obtain ⟨a1, a2, a3⟩ := sz_same c1 t203 t202 e202 e203 e4
  have bn := sz_R_n1 c1 t202
  refine ⟨hB, c2, (sz_ok_tr c1 t203 t202 (a3 1) e203 e4 c3), fun y k y0 y1 hk => ?_, fun y y0 y1 => ?_⟩
  · have k0 := hk.1
    have k1 := hk.2.1
    rw [a3] at k1
    have hk' : sz_at h y k := by
      obtain ⟨d0, d1, d2, d3⟩ := hk
      rw [a3] at d1 d3
      unfold sz_f at d2 d3
      refine ⟨d0, d1, ?_, fun w => ?_⟩
      · unfold sz_f; rw [← a2 k d0 (by omega)]; exact d2
      · unfold sz_f; rw [← a2 (k + 1) (by omega) (by omega)]; exact d3 w
    rw [a2 k k0 (by omega), a2 k k0 (by omega)]
    exact c4 y k y0 y1 hk'
  · obtain ⟨f1, f2, f3, f4⟩ := c5 y y0 y1
    have e3 : ∀ j, j < 8 → qz_I g (T y) j = qz_I h (T y) j := fun j hj => x.2.2 _ f1 j hj
    have ep : qz_P g (T y) 3 = qz_P h (T y) 3 := by unfold qz_P; rw [e3 3 (by decide)]
    refine ⟨f1, by rw [e3 2 (by decide)]; exact f2, fun w => by rw [e3 3 (by decide)]; exact f3 w, fun cp vs w => ?_⟩
    obtain ⟨g0, g1, g2, g3, g4, g5⟩ := f4 cp vs w
    rw [e3 0 (by decide), e3 4 (by decide), e3 3 (by decide), ep]
    refine ⟨g0, g1, g2, g3, ?_, fun j v hj => ?_⟩
    · unfold qz_N; rw [e5 _ g3]; exact g4
    · unfold qz_I; rw [e5 _ g3]; exact g5 j v hj
/-- the span of a point -/
def sz_ixn (h : cz_H) (x : Int) : Nat → Int
  | 0 => 0
  | n + 1 => if sz_f h (n : Int) ≤ x then (n : Int) else sz_ixn h x n
theorem sz_ixn_ok {h : cz_H} {x : Int} (hs : sz_ok h) (x0 : 0 ≤ x) : ∀ n : Nat, (n : Int) ≤ qz_I h 202 1 → 1 ≤ n → (0 ≤ sz_ixn h x n ∧ sz_ixn h x n < (n : Int)) ∧ sz_f h (sz_ixn h x n) ≤ x ∧ (sz_ixn h x n + 1 < (n : Int) → x < sz_f h (sz_ixn h x n + 1))
  | 0, _, h1 => by omega
  | n + 1, hn, _ => by
    unfold sz_ixn
    by_cases e : sz_f h (n : Int) ≤ x
    · rw [if_pos e]
      exact ⟨⟨by omega, by omega⟩, e, fun w => by omega⟩
    · rw [if_neg e]
      by_cases e0 : n = 0
      · subst e0
        have := hs.1
        exact absurd (show sz_f h ((0 : Nat) : Int) ≤ x by show sz_f h 0 ≤ x; omega) e
      · obtain ⟨⟨a0, a1⟩, a2, a3⟩ := sz_ixn_ok hs x0 n (by omega) (by omega)
        refine ⟨⟨a0, by omega⟩, a2, fun w => ?_⟩
        by_cases e2 : sz_ixn h x n + 1 < (n : Int)
        · exact a3 e2
        · rw [show sz_ixn h x n + 1 = (n : Int) by omega]; omega
theorem sz_at_ex {h : cz_H} {x : Int} (hs : sz_ok h) (hn : 1 ≤ qz_I h 202 1) (x0 : 0 ≤ x) : ∃ k, sz_at h x k := by
  obtain ⟨a, b, c⟩ := sz_ixn_ok hs x0 (qz_I h 202 1).toNat (by omega) (by omega)
  exact ⟨_, a.1, by omega, b, fun w => c (by omega)⟩
theorem sz_at_uniq {h : cz_H} {x k k' : Int} (hs : sz_ok h) (a : sz_at h x k) (b : sz_at h x k') : k = k' := by
  obtain ⟨a0, a1, a2, a3⟩ := a
  obtain ⟨b0, b1, b2, b3⟩ := b
  by_cases e : k < k'
  · exfalso
    have h1 := a3 (by omega)
    by_cases e2 : k + 1 = k'
    · rw [e2] at h1; omega
    · have := hs.2 (k + 1) k' (by omega) (by omega) b1; omega
  · by_cases e' : k' < k
    · exfalso
      have h1 := b3 (by omega)
      by_cases e2 : k' + 1 = k
      · rw [e2] at h1; omega
      · have := hs.2 (k' + 1) k (by omega) (by omega) a1; omega
    · omega
theorem pz_C_of {τ : Nat → Nat} {h : cz_H} {F : rz_W} {E : Int → Prop} (hI : jz_I τ h F E) : ∃ T, pz_C τ h T F E := by
  obtain ⟨i1, i2, ⟨i3, i4⟩, i5, i6, i7, i8, i9⟩ := hI
  have t202 : τ 202 = 48 := i2 202 (by decide)
  have t203 : τ 203 = 49 := i2 203 (by decide)
  have bn := sz_R_n1 i1 t202
  refine ⟨fun x => sz_fp h (sz_ixn h x (qz_I h 202 1).toNat), i1, i2, i3, fun x k x0 x1 hk => ?_, fun x x0 x1 => ?_⟩
  · obtain ⟨a, b, c⟩ := sz_ixn_ok i3 x0 (qz_I h 202 1).toNat (by omega) (by omega)
    have e : k = sz_ixn h x (qz_I h 202 1).toNat := sz_at_uniq i3 hk ⟨a.1, by omega, b, fun w => c (by omega)⟩
    refine ⟨?_, (i8 x k x0 x1 hk).2⟩
    show qz_I h (sz_p h k) 1 = (sz_fp h (sz_ixn h x (qz_I h 202 1).toNat) : Int) + 1
    rw [← e]
    exact (sz_fp_t i1 t202 t203 hk).2.2
  · obtain ⟨a, b, c⟩ := sz_ixn_ok i3 x0 (qz_I h 202 1).toNat (by omega) (by omega)
    have hk : sz_at h x (sz_ixn h x (qz_I h 202 1).toNat) := ⟨a.1, by omega, b, fun w => c (by omega)⟩
    obtain ⟨⟨d1, d2, d3⟩, -⟩ := i8 x _ x0 x1 hk
    refine ⟨(sz_fp_t i1 t202 t203 hk).2.1, d1, fun w => ?_, fun cp vs w => ?_⟩
    · rw [w] at d2; exact d2
    · rw [w] at d2
      obtain ⟨p, p1, p2, p3, p4, p5⟩ := d2
      have ep : qz_P h (sz_fp h (sz_ixn h x (qz_I h 202 1).toNat)) 3 = p := by unfold qz_P; omega
      rw [ep]
      exact ⟨d3 (by rw [w]; exact fun e => by cases e), p3, (by show 1 ≤ qz_I h (sz_fp h (sz_ixn h x (qz_I h 202 1).toNat)) 3; omega), p1, p4, p5⟩
/-! The class: pooling. (Written by wip/p2/py/pv27.py.) -/
/-- what is appended to the pool -/
def nz_PP (q : Nat) : Bool := Nat.beq q 723 || Nat.beq q 724
def ap (τ : Nat → Nat) (g g2 : cz_H) (l : List Int) : Prop := ez_B τ g2 ∧ ez_fr nz_PP g g2 ∧ (∀ j, j ≠ 2 → qz_I g2 723 j = qz_I g 723 j) ∧ qz_I g2 723 2 = qz_I g 723 2 + (l.length : Int) ∧ ∀ j : Int, 0 ≤ j → qz_I g2 724 j.toNat = if qz_I g 723 2 ≤ j ∧ j < qz_I g 723 2 + (l.length : Int) then l.getD (j - qz_I g 723 2).toNat 0 else qz_I g 724 j.toNat
theorem ap.nil {τ : Nat → Nat} {g : cz_H} (hB : ez_B τ g) : ap τ g g [] := ⟨hB, ez_fr.refl _ _, fun _ _ => rfl, by simp, fun j _ => by rw [if_neg (by simp only [List.length_nil]; omega)]⟩
theorem ap.trans {τ : Nat → Nat} {g g1 g2 : cz_H} {a b : List Int} (x : ap τ g g1 a) (y : ap τ g1 g2 b) : ap τ g g2 (a ++ b) := by
  obtain ⟨x1, x2, x3, x4, x5⟩ := x
  obtain ⟨y1, y2, y3, y4, y5⟩ := y
  refine ⟨y1, x2.trans y2, fun j hj => (y3 j hj).trans (x3 j hj), ?_, fun j j0 => ?_⟩
  · rw [y4, x4, List.length_append]; omega
  · rw [y5 j j0, x4, List.length_append]
    by_cases e : qz_I g 723 2 + (a.length : Int) ≤ j ∧ j < qz_I g 723 2 + (a.length : Int) + (b.length : Int)
    · rw [if_pos e, if_pos (by omega), List.getD_eq_getElem?_getD, List.getD_eq_getElem?_getD, List.getElem?_append_right (by omega)]
      congr 2
      omega
    · rw [if_neg e, x5 j j0]
      by_cases e2 : qz_I g 723 2 ≤ j ∧ j < qz_I g 723 2 + (a.length : Int)
      · rw [if_pos e2, if_pos (by omega), List.getD_eq_getElem?_getD, List.getD_eq_getElem?_getD, List.getElem?_append_left (by omega)]
      · rw [if_neg e2, if_neg (by omega)]
theorem ap.pz {τ : Nat → Nat} {g g2 : cz_H} {l : List Int} (hX : jz_X τ) (x : ap τ g g2 l) : pz τ g g2 := pz_fr x.2.1 (fun q hq => by
  unfold nz_PP at hq
  have : q = 723 ∨ q = 724 := by
    rw [Bool.or_eq_true] at hq
    exact hq.imp Nat.eq_of_beq_eq_true Nat.eq_of_beq_eq_true
  rcases this with rfl | rfl
  · exact ⟨by omega, by omega, (pz_X hX (by omega) (by omega)).1⟩
  · exact ⟨by omega, by omega, (pz_X hX (by omega) (by omega)).1⟩)
section EzPo
variable {d : Nat} {h : cz_H} {τ : Nat → Nat} {Q : cz_F → Prop} {T : Int → Nat} {F : rz_W} {E : Int → Prop}
theorem rd_isSyl {x : Int} (x0 : -2147483648 ≤ x) (x1 : x ≤ 2147483647) (k1 : hz x → Q (.inl (some (ez_v (.inl 1))), h)) (k0 : ¬ hz x → Q (.inl (some (ez_v (.inl 0))), h)) : ez_W d cm_123 0 [(0, .inl (x))] [] h Q := by
  refine ez_go (n := 1) (pc' := 1) (L' := [(0, .inl (x))]) (st' := [.inl (x)]) rfl ?_
  refine ez_ldc (44032) rfl rfl rfl ?_
  refine ez_icmp rfl rfl ⟨by first | omega | exact (sz_i32 _).1, by first | omega | exact (sz_i32 _).2⟩ ⟨by first | omega | exact (sz_i32 _).1, by first | omega | exact (sz_i32 _).2⟩ (fun (c1 : (x) < (44032)) => ?_) (fun (c1 : ¬((x) < (44032))) => ?_)
  · skip
    refine ez_go (n := 1) (pc' := 17) (L' := [(0, .inl (x))]) (st' := [.inl (0)]) rfl ?_
    exact ez_retZ rfl rfl (by decide) (k0 (fun w => by have w1 := w.1; have w2 := w.2; omega))
  · skip
    refine ez_go (n := 1) (pc' := 7) (L' := [(0, .inl (x))]) (st' := [.inl (x)]) rfl ?_
    refine ez_ldc (55203) rfl rfl rfl ?_
    refine ez_icmp rfl rfl ⟨by first | omega | exact (sz_i32 _).1, by first | omega | exact (sz_i32 _).2⟩ ⟨by first | omega | exact (sz_i32 _).1, by first | omega | exact (sz_i32 _).2⟩ (fun (c2 : (55203) < (x)) => ?_) (fun (c2 : ¬((55203) < (x))) => ?_)
    · skip
      refine ez_go (n := 1) (pc' := 17) (L' := [(0, .inl (x))]) (st' := [.inl (0)]) rfl ?_
      exact ez_retZ rfl rfl (by decide) (k0 (fun w => by have w1 := w.1; have w2 := w.2; omega))
    · skip
      refine ez_go (n := 2) (pc' := 17) (L' := [(0, .inl (x))]) (st' := [.inl (1)]) rfl ?_
      exact ez_retZ rfl rfl (by decide) (k1 ⟨by omega, by omega⟩)

theorem rd_sylLen {x : Int} (hx : hz x) (k : Q (.inl (some (ez_v (.inl ((hz_sy x).length : Int)))), h)) : ez_W d cm_130 0 [(0, .inl (x))] [] h Q := by
  have x0 := hx.1
  have x1 := hx.2
  refine ez_go (n := 1) (pc' := 1) (L' := [(0, .inl (x))]) (st' := [.inl (x)]) rfl ?_
  refine ez_ldc (44032) rfl rfl rfl ?_
  refine ez_go (n := 2) (pc' := 6) (L' := [(0, .inl (x))]) (st' := [.inl (28), .inl ((x) - (44032))]) rfl ?_
  refine ez_rem rfl (by omega) (by omega) (by omega) (by omega) ?_
  refine ez_if rfl rfl ⟨by first | omega | exact (sz_i32 _).1, by first | omega | exact (sz_i32 _).2⟩ (fun (c1 : (((x) - (44032)) % (28)) ≠ (0)) => ?_) (fun (c1 : ¬((((x) - (44032)) % (28)) ≠ (0))) => ?_)
  · skip
    refine ez_go (n := 1) (pc' := 15) (L' := [(0, .inl (x))]) (st' := [.inl (3)]) rfl ?_
    have e : ((hz_sy x).length : Int) = 3 := by unfold hz_sy; rw [if_neg (by omega)]; rfl
    rw [e] at k
    exact ez_retI rfl rfl k
  · skip
    refine ez_go (n := 2) (pc' := 15) (L' := [(0, .inl (x))]) (st' := [.inl (2)]) rfl ?_
    have e : ((hz_sy x).length : Int) = 2 := by unfold hz_sy; rw [if_pos (by omega)]; rfl
    rw [e] at k
    exact ez_retI rfl rfl k

theorem rd_sylPart {x i : Int} (hx : hz x) (i0 : 0 ≤ i) (i1 : i < ((hz_sy x).length : Int)) (k : ∀ v, (hz_sy x)[i.toNat]? = some v → Q (.inl (some (ez_v (.inl v))), h)) : ez_W d cm_132 0 [(0, .inl (x)), (1, .inl (i))] [] h Q := by
  have x0 := hx.1
  have x1 := hx.2
  have i3 : i < 3 := by unfold hz_sy at i1; split at i1; (· have i1 : i < 2 := i1; omega); (· have i1 : i < 3 := i1; omega)
  refine ez_go (n := 1) (pc' := 1) (L' := [(0, .inl (x)), (1, .inl (i))]) (st' := [.inl (x)]) rfl ?_
  refine ez_ldc (44032) rfl rfl rfl ?_
  refine ez_go (n := 3) (pc' := 6) (L' := [(2, .inl ((x) - (44032))), (0, .inl (x)), (1, .inl (i))]) (st' := [.inl (i)]) rfl ?_
  refine ez_if rfl rfl ⟨by first | omega | exact (sz_i32 _).1, by first | omega | exact (sz_i32 _).2⟩ (fun (c1 : (i) ≠ (0)) => ?_) (fun (c1 : ¬((i) ≠ (0))) => ?_)
  · skip
    refine ez_go (n := 2) (pc' := 21) (L' := [(2, .inl ((x) - (44032))), (0, .inl (x)), (1, .inl (i))]) (st' := [.inl (1), .inl (i)]) rfl ?_
    refine ez_icmp rfl rfl ⟨by first | omega | exact (sz_i32 _).1, by first | omega | exact (sz_i32 _).2⟩ ⟨by first | omega | exact (sz_i32 _).1, by first | omega | exact (sz_i32 _).2⟩ (fun (c2 : (i) ≠ (1)) => ?_) (fun (c2 : ¬((i) ≠ (1))) => ?_)
    · skip
      refine ez_go (n := 3) (pc' := 45) (L' := [(2, .inl ((x) - (44032))), (0, .inl (x)), (1, .inl (i))]) (st' := [.inl (28), .inl ((x) - (44032)), .inl (4519)]) rfl ?_
      refine ez_rem rfl (by omega) (by omega) (by omega) (by omega) ?_
      refine ez_go (n := 1) (pc' := 47) (L' := [(2, .inl ((x) - (44032))), (0, .inl (x)), (1, .inl (i))]) (st' := [.inl ((4519) + (((x) - (44032)) % (28)))]) rfl ?_
      refine ez_retI rfl rfl (k _ ?_)
      unfold hz_sy at i1 ⊢
      split
      · first | (rw [show i = 0 by omega]; rfl) | (rw [show i = 1 by omega]; rfl) | (rw [show i = 2 by (rename_i e; first | omega | (rw [if_pos e] at i1; have i1 : i < 2 := i1; omega) | (rw [if_neg e] at i1; have i1 : i < 3 := i1; omega))]; first | rfl | (exfalso; rename_i e; rw [if_pos e] at i1; have i1 : i < 2 := i1; omega)) | (exfalso; rename_i e; rw [if_pos e] at i1; have i1 : i < 2 := i1; omega)
      · first | (rw [show i = 0 by omega]; rfl) | (rw [show i = 1 by omega]; rfl) | (rw [show i = 2 by (rename_i e; first | omega | (rw [if_pos e] at i1; have i1 : i < 2 := i1; omega) | (rw [if_neg e] at i1; have i1 : i < 3 := i1; omega))]; first | rfl | (exfalso; rename_i e; rw [if_pos e] at i1; have i1 : i < 2 := i1; omega)) | (exfalso; rename_i e; rw [if_pos e] at i1; have i1 : i < 2 := i1; omega)
    · skip
      refine ez_go (n := 3) (pc' := 31) (L' := [(2, .inl ((x) - (44032))), (0, .inl (x)), (1, .inl (i))]) (st' := [.inl (588), .inl ((x) - (44032)), .inl (4449)]) rfl ?_
      refine ez_rem rfl (by omega) (by omega) (by omega) (by omega) ?_
      refine ez_go (n := 1) (pc' := 34) (L' := [(2, .inl ((x) - (44032))), (0, .inl (x)), (1, .inl (i))]) (st' := [.inl (28), .inl (((x) - (44032)) % (588)), .inl (4449)]) rfl ?_
      refine ez_div rfl (by omega) (by omega) (by omega) (by omega) ?_
      refine ez_go (n := 2) (pc' := 47) (L' := [(2, .inl ((x) - (44032))), (0, .inl (x)), (1, .inl (i))]) (st' := [.inl ((4449) + ((((x) - (44032)) % (588)) / (28)))]) rfl ?_
      refine ez_retI rfl rfl (k _ ?_)
      unfold hz_sy at i1 ⊢
      split
      · first | (rw [show i = 0 by omega]; rfl) | (rw [show i = 1 by omega]; rfl) | (rw [show i = 2 by (rename_i e; first | omega | (rw [if_pos e] at i1; have i1 : i < 2 := i1; omega) | (rw [if_neg e] at i1; have i1 : i < 3 := i1; omega))]; first | rfl | (exfalso; rename_i e; rw [if_pos e] at i1; have i1 : i < 2 := i1; omega)) | (exfalso; rename_i e; rw [if_pos e] at i1; have i1 : i < 2 := i1; omega)
      · first | (rw [show i = 0 by omega]; rfl) | (rw [show i = 1 by omega]; rfl) | (rw [show i = 2 by (rename_i e; first | omega | (rw [if_pos e] at i1; have i1 : i < 2 := i1; omega) | (rw [if_neg e] at i1; have i1 : i < 3 := i1; omega))]; first | rfl | (exfalso; rename_i e; rw [if_pos e] at i1; have i1 : i < 2 := i1; omega)) | (exfalso; rename_i e; rw [if_pos e] at i1; have i1 : i < 2 := i1; omega)
  · skip
    refine ez_go (n := 3) (pc' := 16) (L' := [(2, .inl ((x) - (44032))), (0, .inl (x)), (1, .inl (i))]) (st' := [.inl (588), .inl ((x) - (44032)), .inl (4352)]) rfl ?_
    refine ez_div rfl (by omega) (by omega) (by omega) (by omega) ?_
    refine ez_go (n := 1) (pc' := 18) (L' := [(2, .inl ((x) - (44032))), (0, .inl (x)), (1, .inl (i))]) (st' := [.inl ((4352) + (((x) - (44032)) / (588)))]) rfl ?_
    refine ez_retI rfl rfl (k _ ?_)
    unfold hz_sy at i1 ⊢
    split
    · first | (rw [show i = 0 by omega]; rfl) | (rw [show i = 1 by omega]; rfl) | (rw [show i = 2 by (rename_i e; first | omega | (rw [if_pos e] at i1; have i1 : i < 2 := i1; omega) | (rw [if_neg e] at i1; have i1 : i < 3 := i1; omega))]; first | rfl | (exfalso; rename_i e; rw [if_pos e] at i1; have i1 : i < 2 := i1; omega)) | (exfalso; rename_i e; rw [if_pos e] at i1; have i1 : i < 2 := i1; omega)
    · first | (rw [show i = 0 by omega]; rfl) | (rw [show i = 1 by omega]; rfl) | (rw [show i = 2 by (rename_i e; first | omega | (rw [if_pos e] at i1; have i1 : i < 2 := i1; omega) | (rw [if_neg e] at i1; have i1 : i < 3 := i1; omega))]; first | rfl | (exfalso; rename_i e; rw [if_pos e] at i1; have i1 : i < 2 := i1; omega)) | (exfalso; rename_i e; rw [if_pos e] at i1; have i1 : i < 2 := i1; omega)

theorem rd_poolPoint {p s : Int} (hB : ez_B τ h) (t723 : τ 723 = 55) (p0 : -2147483648 ≤ p) (p1 : p ≤ 2147483647) (s0 : 0 ≤ s) (s1 : s ≤ 20440) (u0 : s ≤ qz_I h 723 2) (u1 : qz_I h 723 2 ≤ s + 40) (k0 : qz_I h 723 2 = s + 40 → Q (.inl (some (ez_v (.inl 0))), h)) (k1 : qz_I h 723 2 < s + 40 → ∀ g, ap τ h g [p] → Q (.inl (some (ez_v (.inl 1))), g)) : ez_W d cm_127 0 [(0, .inr (.inr (some (723)))), (1, .inl (p)), (2, .inl (s))] [] h Q := by
  refine ez_go (n := 1) (pc' := 1) (L' := [(0, .inr (.inr (some (723)))), (1, .inl (p)), (2, .inl (s))]) (st' := [.inr (.inr (some (723)))]) rfl ?_
  refine ez_gI hB t723 rfl rfl tq_55 rfl rfl (fun (b1 : 0 ≤ qz_I h 723 2) (b1' : qz_I h 723 2 ≤ 20480) => ?_)
  refine ez_go (n := 3) (pc' := 8) (L' := [(0, .inr (.inr (some (723)))), (1, .inl (p)), (2, .inl (s))]) (st' := [.inl (40), .inl ((qz_I h 723 2) - (s))]) rfl ?_
  refine ez_icmp rfl rfl ⟨by first | omega | exact (sz_i32 _).1, by first | omega | exact (sz_i32 _).2⟩ ⟨by first | omega | exact (sz_i32 _).1, by first | omega | exact (sz_i32 _).2⟩ (fun (c2 : (40) ≤ ((qz_I h 723 2) - (s))) => ?_) (fun (c2 : ¬((40) ≤ ((qz_I h 723 2) - (s)))) => ?_)
  · skip
    refine ez_go (n := 1) (pc' := 24) (L' := [(0, .inr (.inr (some (723)))), (1, .inl (p)), (2, .inl (s))]) (st' := [.inl (0)]) rfl ?_
    exact ez_retZ rfl rfl (by decide) (k0 (by omega))
  · skip
    refine ez_go (n := 1) (pc' := 12) (L' := [(0, .inr (.inr (some (723)))), (1, .inl (p)), (2, .inl (s))]) (st' := [.inr (.inr (some (723)))]) rfl ?_
    refine ez_gI hB t723 rfl rfl tq_55 rfl rfl (fun (b3 : 0 ≤ qz_I h 723 2) (b3' : qz_I h 723 2 ≤ 20480) => ?_)
    refine ez_go (n := 1) (pc' := 16) (L' := [(0, .inr (.inr (some (723)))), (1, .inl (p)), (2, .inl (s))]) (st' := [.inr (.inr (some (723))), .inl (qz_I h 723 2)]) rfl ?_
    refine ez_gC (p := 724) (tg := 56) hB t723 rfl rfl tq_55 rfl rfl (fun (t724 : _ = 56) => ?_)
    refine ez_al hB t724 rfl tq_56 rfl (fun (b4 : 20480 ≤ qz_N h 724) (b4' : qz_N h 724 ≤ 20480) => ?_)
    refine ez_icmp rfl rfl ⟨by first | omega | exact (sz_i32 _).1, by first | omega | exact (sz_i32 _).2⟩ ⟨by first | omega | exact (sz_i32 _).1, by first | omega | exact (sz_i32 _).2⟩ (fun (c5 : (qz_I h 723 2) < (qz_N h 724)) => ?_) (fun (c5 : ¬((qz_I h 723 2) < (qz_N h 724))) => ?_)
    · skip
      refine ez_go (n := 1) (pc' := 26) (L' := [(0, .inr (.inr (some (723)))), (1, .inl (p)), (2, .inl (s))]) (st' := [.inr (.inr (some (723)))]) rfl ?_
      refine ez_gC (p := 724) (tg := 56) hB t723 rfl rfl tq_55 rfl rfl (fun (t724 : _ = 56) => ?_)
      refine ez_go (n := 1) (pc' := 30) (L' := [(0, .inr (.inr (some (723)))), (1, .inl (p)), (2, .inl (s))]) (st' := [.inr (.inr (some (723))), .inr (.inr (some (724)))]) rfl ?_
      refine ez_gI hB t723 rfl rfl tq_55 rfl rfl (fun (b6 : 0 ≤ qz_I h 723 2) (b6' : qz_I h 723 2 ≤ 20480) => ?_)
      refine ez_go (n := 1) (pc' := 34) (L' := [(0, .inr (.inr (some (723)))), (1, .inl (p)), (2, .inl (s))]) (st' := [.inl (p), .inl (qz_I h 723 2), .inr (.inr (some (724)))]) rfl ?_
      have n9 : 20480 ≤ qz_N h 724 ∧ qz_N h 724 ≤ 20480 := ez_len hB t724 tq_56 rfl
      refine ez_as hB t724 rfl tq_56 rfl rfl (by omega) (by omega) (ez_vdI rfl rfl (by omega) (by omega)) (fun hB7 w8 => ?_)
      refine ez_go (n := 2) (pc' := 37) (L' := [(0, .inr (.inr (some (723)))), (1, .inl (p)), (2, .inl (s))]) (st' := [.inr (.inr (some (723))), .inr (.inr (some (723)))]) rfl ?_
      refine ez_gI hB7 t723 rfl rfl tq_55 rfl rfl (fun (b10 : 0 ≤ qz_I (dz_put h 724 (qz_I h 723 2).toNat (ez_v (.inl (p)))) 723 2) (b10' : qz_I (dz_put h 724 (qz_I h 723 2).toNat (ez_v (.inl (p)))) 723 2 ≤ 20480) => ?_)
      have hu9 : qz_I (dz_put h 724 (qz_I h 723 2).toNat (ez_v (.inl (p)))) 723 2 = qz_I h 723 2 := ez_put_I (by omega)
      refine ez_go (n := 2) (pc' := 42) (L' := [(0, .inr (.inr (some (723)))), (1, .inl (p)), (2, .inl (s))]) (st' := [.inl ((qz_I (dz_put h 724 (qz_I h 723 2).toNat (ez_v (.inl (p)))) 723 2) + (1)), .inr (.inr (some (723)))]) rfl ?_
      refine ez_pf hB7 t723 rfl rfl tq_55 rfl rfl rfl rfl (ez_vdI rfl rfl (by omega) (by omega)) (fun hB11 w12 => ?_)
      refine ez_go (n := 1) (pc' := 46) (L' := [(0, .inr (.inr (some (723)))), (1, .inl (p)), (2, .inl (s))]) (st' := [.inl (1)]) rfl ?_
      have u1 : qz_I (dz_put (dz_put h 724 (qz_I h 723 2).toNat (ez_v (.inl (p)))) 723 2 (ez_v (.inl ((qz_I (dz_put h 724 (qz_I h 723 2).toNat (ez_v (.inl (p)))) 723 2) + (1))))) 723 2 = qz_I h 723 2 + 1 := by rw [w12, rz_rd ⟨by omega, by omega⟩, ez_put_I (by omega)]
      refine ez_retZ rfl rfl (by decide) (k1 (by omega) _ ⟨hB11, (((ez_fr.refl nz_PP h).put (show nz_PP 724 = true from rfl) _ _).put (show nz_PP 723 = true from rfl) _ _), fun j hj => by rw [ez_put_I (fun w => hj w.2), ez_put_I (by omega)], by rw [u1]; rfl, fun j j0 => ?_⟩)
      rw [ez_put_I (by omega)]
      by_cases e : j = qz_I h 723 2
      · rw [if_pos (by simp only [List.length_singleton]; omega), e, w8, rz_rd ⟨by omega, by omega⟩]; rw [show (qz_I h 723 2 - qz_I h 723 2).toNat = 0 by omega]; rfl
      · rw [if_neg (by simp only [List.length_singleton]; omega), ez_put_I (by omega)]
    · skip
      refine ez_go (n := 1) (pc' := 24) (L' := [(0, .inr (.inr (some (723)))), (1, .inl (p)), (2, .inl (s))]) (st' := [.inl (0)]) rfl ?_
      exact ez_retZ rfl rfl (by decide) (k0 (by omega))

theorem hz_sy_bd {x : Int} (hx : hz x) : ∀ (j : Nat) v, (hz_sy x)[j]? = some v → 0 ≤ v ∧ v ≤ 1114111 := by
  have x0 := hx.1
  have x1 := hx.2
  intro j v hv
  unfold hz_sy at hv
  split at hv
  · match j with
    | 0 => cases hv; omega
    | 1 => cases hv; omega
    | j + 2 => cases hv
  · match j with
    | 0 => cases hv; omega
    | 1 => cases hv; omega
    | 2 => cases hv; omega
    | j + 3 => cases hv
theorem hz_sy_len (x : Int) : (hz_sy x).length ≤ 3 := by
  unfold hz_sy
  split
  · show 2 ≤ 3; omega
  · show 3 ≤ 3; omega
theorem ap_snoc {g g1 g2 : cz_H} {l : List Int} {i : Nat} {v : Int} (x : ap τ g g1 (l.take i)) (hv : l[i]? = some v) (y : ap τ g1 g2 [v]) : ap τ g g2 (l.take (i + 1)) := by
  have := x.trans y
  rw [List.take_add_one, hv]
  exact this
theorem rd_poolSyl_l {x s : Int} (t723 : τ 723 = 55) (hx : hz x) (s0 : 0 ≤ s) (s1 : s ≤ 20440) (u0 : s ≤ qz_I h 723 2) (u1 : qz_I h 723 2 ≤ s + 40) (k1 : ∀ g, ap τ h g (hz_sy x) → qz_I h 723 2 + ((hz_sy x).length : Int) ≤ s + 40 → Q (.inl (some (ez_v (.inl 1))), g)) (k0 : ∀ g l2, ap τ h g l2 → s + 40 < qz_I h 723 2 + ((hz_sy x).length : Int) → Q (.inl (some (ez_v (.inl 0))), g)) : ∀ (m : Nat) (i : Int) (g : cz_H), m = (((hz_sy x).length : Int) - i).toNat → 0 ≤ i → i ≤ ((hz_sy x).length : Int) → qz_I h 723 2 + i ≤ s + 40 → ap τ h g ((hz_sy x).take i.toNat) → ez_W (d + 1) cm_128 2 [(3, .inl (i)), (0, .inr (.inr (some (723)))), (1, .inl (x)), (2, .inl (s))] [] g Q := by
  intro m
  induction m with
  | zero =>
    intro i g hm i0 i1 i2 ha
    have hlen := hz_sy_len x
    have ha4 := ha.2.2.2.1
    rw [List.length_take] at ha4
    refine ez_go (n := 2) (pc' := 4) (L' := [(3, .inl (i)), (0, .inr (.inr (some (723)))), (1, .inl (x)), (2, .inl (s))]) (st' := [.inl (x), .inl (i)]) rfl ?_
    refine ez_cs ha.1.2.1 rfl rfl rfl rfl rfl (rd_sylLen hx (ez_K1 ?_))
    refine ez_icmp rfl rfl ⟨by first | omega | exact (sz_i32 _).1, by first | omega | exact (sz_i32 _).2⟩ ⟨by first | omega | exact (sz_i32 _).1, by first | omega | exact (sz_i32 _).2⟩ (fun (c1 : (((hz_sy x).length : Int)) ≤ (i)) => ?_) (fun (c1 : ¬((((hz_sy x).length : Int)) ≤ (i))) => ?_)
    · skip
      refine ez_go (n := 1) (pc' := 32) (L' := [(3, .inl (i)), (0, .inr (.inr (some (723)))), (1, .inl (x)), (2, .inl (s))]) (st' := [.inl (1)]) rfl ?_
      exact ez_retZ rfl rfl (by decide) (k1 g (by rw [List.take_of_length_le (by omega)] at ha; exact ha) (by omega))
    · exfalso; omega
  | succ m ih =>
    intro i g hm i0 i1 i2 ha
    have hlen := hz_sy_len x
    have ha4 := ha.2.2.2.1
    rw [List.length_take] at ha4
    refine ez_go (n := 2) (pc' := 4) (L' := [(3, .inl (i)), (0, .inr (.inr (some (723)))), (1, .inl (x)), (2, .inl (s))]) (st' := [.inl (x), .inl (i)]) rfl ?_
    refine ez_cs ha.1.2.1 rfl rfl rfl rfl rfl (rd_sylLen hx (ez_K1 ?_))
    refine ez_icmp rfl rfl ⟨by first | omega | exact (sz_i32 _).1, by first | omega | exact (sz_i32 _).2⟩ ⟨by first | omega | exact (sz_i32 _).1, by first | omega | exact (sz_i32 _).2⟩ (fun (c1 : (((hz_sy x).length : Int)) ≤ (i)) => ?_) (fun (c1 : ¬((((hz_sy x).length : Int)) ≤ (i))) => ?_)
    · exfalso; omega
    · skip
      refine ez_go (n := 3) (pc' := 13) (L' := [(3, .inl (i)), (0, .inr (.inr (some (723)))), (1, .inl (x)), (2, .inl (s))]) (st' := [.inl (i), .inl (x), .inr (.inr (some (723)))]) rfl ?_
      refine ez_cs ha.1.2.1 rfl rfl rfl rfl rfl (rd_sylPart hx i0 (by omega) (fun v hv => ez_K1 ?_))
      have vb := hz_sy_bd hx _ _ hv
      refine ez_go (n := 1) (pc' := 17) (L' := [(3, .inl (i)), (0, .inr (.inr (some (723)))), (1, .inl (x)), (2, .inl (s))]) (st' := [.inl (s), .inl (v), .inr (.inr (some (723)))]) rfl ?_
      refine ez_cv ha.1 t723 rfl rfl rfl tq_55 rfl rfl rfl (rd_poolPoint ha.1 t723 (by omega) (by omega) s0 s1 (by omega) (by omega) (fun e => ez_K1 ?_) (fun e g2 ha2 => ez_K1 ?_))
      · skip
        refine ez_if rfl rfl ⟨by decide, by decide⟩ (fun (c2 : (0 : Int) ≠ (0)) => absurd c2 (by decide)) (fun _ => ?_)
        refine ez_go (n := 1) (pc' := 24) (L' := [(3, .inl (i)), (0, .inr (.inr (some (723)))), (1, .inl (x)), (2, .inl (s))]) (st' := [.inl (0)]) rfl ?_
        exact ez_retZ rfl rfl (by decide) (k0 g _ ha (by omega))
      · skip
        have hB2 := ha2.1
        have ha3 := ap_snoc ha hv ha2
        have ha5 := ha3.2.2.2.1
        rw [List.length_take] at ha5
        refine ez_if rfl rfl ⟨by decide, by decide⟩ (fun _ => ?_) (fun (c3 : ¬((1 : Int) ≠ (0))) => absurd c3 (by decide))
        refine ez_go (n := 2) (pc' := 2) (L' := [(3, .inl (i + 1)), (0, .inr (.inr (some (723)))), (1, .inl (x)), (2, .inl (s))]) (st' := []) rfl ?_
        refine ez_less [(3, .inl (i + 1)), (0, .inr (.inr (some (723)))), (1, .inl (x)), (2, .inl (s))] rfl ⟨rfl, rfl, rfl, rfl, trivial⟩ ?_
        refine ih (i + 1) g2 (by omega) (by omega) (by omega) (by omega) (by rw [show (i + 1).toNat = i.toNat + 1 by omega]; exact ha3)
theorem rd_poolSyl {x s : Int} (hB : ez_B τ h) (t723 : τ 723 = 55) (hx : hz x) (s0 : 0 ≤ s) (s1 : s ≤ 20440) (u0 : s ≤ qz_I h 723 2) (u1 : qz_I h 723 2 ≤ s + 40) (k1 : ∀ g, ap τ h g (hz_sy x) → qz_I h 723 2 + ((hz_sy x).length : Int) ≤ s + 40 → Q (.inl (some (ez_v (.inl 1))), g)) (k0 : ∀ g l2, ap τ h g l2 → s + 40 < qz_I h 723 2 + ((hz_sy x).length : Int) → Q (.inl (some (ez_v (.inl 0))), g)) : ez_W (d + 1) cm_128 0 [(0, .inr (.inr (some (723)))), (1, .inl (x)), (2, .inl (s))] [] h Q := by
  refine ez_go (n := 2) (pc' := 2) (L' := [(3, .inl (0)), (0, .inr (.inr (some (723)))), (1, .inl (x)), (2, .inl (s))]) (st' := []) rfl ?_
  refine ez_less [(3, .inl (0)), (0, .inr (.inr (some (723)))), (1, .inl (x)), (2, .inl (s))] rfl ⟨rfl, rfl, rfl, rfl, trivial⟩ ?_
  exact rd_poolSyl_l t723 hx s0 s1 u0 u1 k1 k0 _ 0 h rfl (by omega) (by omega) (by omega) (ap.nil hB)

theorem rd_spanOf {x : Int} (hC : pz_C τ h T F E) (x0 : 0 ≤ x) (x1 : x ≤ 1114111) (k : ∀ z, τ z = 4 → qz_I h z 1 = (T x : Int) + 1 → (sz_t0 (qz_I h z 2) ↔ E x) → Q (.inl (some (.inr (.inr (some z)))), h)) : ez_W (d + 1) cm_103 0 [(0, .inr (.inr (some (202)))), (1, .inl (x))] [] h Q := by
  have t202 : τ 202 = 48 := hC.2.1 202 (by decide)
  have t203 : τ 203 = 49 := hC.2.1 203 (by decide)
  refine ez_go (n := 1) (pc' := 1) (L' := [(0, .inr (.inr (some (202)))), (1, .inl (x))]) (st' := [.inr (.inr (some (202)))]) rfl ?_
  refine ez_gC (p := 203) (tg := 49) hC.1 t202 rfl rfl tq_48 rfl rfl (fun (t203 : _ = 49) => ?_)
  refine ez_go (n := 2) (pc' := 6) (L' := [(0, .inr (.inr (some (202)))), (1, .inl (x))]) (st' := [.inl (x), .inr (.inr (some (202))), .inr (.inr (some (203)))]) rfl ?_
  have bn := sz_R_n1 hC.1 t202
  refine ez_cv hC.1 t202 rfl rfl rfl tq_48 rfl rfl rfl (rd_spanIndex hC.1 t202 hC.2.2.1 x0 (by omega) (fun i i0 i1 i2 i3 => ez_K1 ?_))
  have n2 : 513 ≤ qz_N h 203 ∧ qz_N h 203 ≤ 513 := ez_len hC.1 t203 tq_49 rfl
  have y3 : 1 ≤ qz_I h 203 (i).toNat ∧ qz_I h 203 (i).toNat ≤ 1000000 := ez_aB hC.1 t203 tq_49 rfl rfl (by decide) (by omega) (by omega)
  have y3' : ((qz_P h 203 (i).toNat : Nat) : Int) + 1 = qz_I h 203 (i).toNat := by unfold qz_P; omega
  refine ez_aR hC.1 t203 rfl tq_49 rfl rfl (by omega) (by omega) (by omega) (fun (t1 : _ = 4) => ?_)
  obtain ⟨w1, w2⟩ := hC.2.2.2.1 x i x0 x1 ⟨i0, i1, i2, i3⟩
  exact ez_retA rfl rfl rfl (k _ t1 w1 w2)

end EzPo
/-! The class: poolFull, close. (Written by wip/p2/py/pv28.py.) -/
def sa (c : Bool) : Nat := bif c then 11 else 9
def sl (c : Bool) : Nat := bif c then 12 else 10
/-- what lies in the pool for a fact -/
def sg (g : cz_H) (r : Nat) (c : Bool) (l : List Int) : Prop := qz_I g r (sl c) = (l.length : Int) ∧ 0 ≤ qz_I g r (sa c) ∧ qz_I g r (sa c) + (l.length : Int) ≤ qz_I g 723 2 ∧ ∀ (j : Nat) v, l[j]? = some v → qz_I g 724 (qz_I g r (sa c) + (j : Int)).toNat = v
/-- what is pooled for a point -/
def dn (g : cz_H) (T : Int → Nat) (F : rz_W) (c : Bool) (x : Int) (l : List Int) : Prop := (hz x ∧ l = hz_sy x) ∨ (¬ hz x ∧ (F x).2 = none ∧ l = [x]) ∨ (¬ hz x ∧ (F x).2 ≠ none ∧ sg g (T x) c l)
theorem sg_ap {τ : Nat → Nat} {g g2 : cz_H} {r : Nat} {c : Bool} {l l2 : List Int} (tr : τ r = 3) (t723 : τ 723 = 55) (t724 : τ 724 = 56) (h : sg g r c l) (x : ap τ g g2 l2) : sg g2 r c l := by
  obtain ⟨h1, h2, h3, h4⟩ := h
  have hf : ∀ j, qz_I g2 r j = qz_I g r j := fun j => x.2.1.I (by unfold nz_PP; rw [dz_beq_ne (fun e => by rw [e, t723] at tr; cases tr), dz_beq_ne (fun e => by rw [e, t724] at tr; cases tr)]; rfl) j
  refine ⟨by rw [hf]; exact h1, by rw [hf]; exact h2, by rw [hf, x.2.2.2.1]; omega, fun j v hj => ?_⟩
  have hl : j < l.length := (List.getElem?_eq_some_iff.mp hj).1
  rw [hf, x.2.2.2.2 _ (by omega), if_neg (by omega)]
  exact h4 j v hj
theorem dn_ap {τ : Nat → Nat} {g g2 : cz_H} {T : Int → Nat} {F : rz_W} {c : Bool} {v : Int} {l l2 : List Int} (tr : τ (T v) = 3) (t723 : τ 723 = 55) (t724 : τ 724 = 56) (h : dn g T F c v l) (x : ap τ g g2 l2) : dn g2 T F c v l := by
  rcases h with h | h | ⟨h1, h2, h3⟩
  · exact Or.inl h
  · exact Or.inr (Or.inl h)
  · exact Or.inr (Or.inr ⟨h1, h2, sg_ap tr t723 t724 h3 x⟩)
section EzPf
variable {d : Nat} {h : cz_H} {τ : Nat → Nat} {Q : cz_F → Prop} {T : Int → Nat} {F : rz_W} {E : Int → Prop}
theorem rd_poolFull_l1 {x s a m : Int} {r : Nat} {l : List Int} (t723 : τ 723 = 55) (t724 : τ 724 = 56) (s0 : 0 ≤ s) (s1 : s ≤ 20440) (u0 : s ≤ qz_I h 723 2) (u1 : qz_I h 723 2 ≤ s + 40) (hm : m = (l.length : Int)) (a0 : 0 ≤ a) (a1 : a + m ≤ qz_I h 723 2) (hl : ∀ (j : Nat) v, l[j]? = some v → qz_I h 724 (a + (j : Int)).toNat = v) (k1 : ∀ g, ap τ h g l → qz_I h 723 2 + (l.length : Int) ≤ s + 40 → Q (.inl (some (ez_v (.inl 1))), g)) (k0 : ∀ g l2, ap τ h g l2 → s + 40 < qz_I h 723 2 + (l.length : Int) → Q (.inl (some (ez_v (.inl 0))), g)) : ∀ (n : Nat) (i : Int) (g : cz_H), n = (m - i).toNat → 0 ≤ i → i ≤ m → qz_I h 723 2 + i ≤ s + 40 → ap τ h g (l.take i.toNat) → ez_W (d + 1) cm_126 83 [(7, .inl (i)), (6, .inl (m)), (5, .inl (a)), (4, .inr (.inr (some (r)))), (0, .inr (.inr (some (723)))), (1, .inl (x)), (2, .inl (s)), (3, .inl (1))] [] g Q := by
  intro n
  induction n with
  | zero =>
    intro i g hm i0 i1 i2 ha
    have ha4 := ha.2.2.2.1
    rw [List.length_take] at ha4
    refine ez_go (n := 2) (pc' := 87) (L' := [(7, .inl (i)), (6, .inl (m)), (5, .inl (a)), (4, .inr (.inr (some (r)))), (0, .inr (.inr (some (723)))), (1, .inl (x)), (2, .inl (s)), (3, .inl (1))]) (st' := [.inl (m), .inl (i)]) rfl ?_
    refine ez_icmp rfl rfl ⟨by first | omega | exact (sz_i32 _).1, by first | omega | exact (sz_i32 _).2⟩ ⟨by first | omega | exact (sz_i32 _).1, by first | omega | exact (sz_i32 _).2⟩ (fun (c1 : (m) ≤ (i)) => ?_) (fun (c1 : ¬((m) ≤ (i))) => ?_)
    · skip
      refine ez_go (n := 1) (pc' := 117) (L' := [(7, .inl (i)), (6, .inl (m)), (5, .inl (a)), (4, .inr (.inr (some (r)))), (0, .inr (.inr (some (723)))), (1, .inl (x)), (2, .inl (s)), (3, .inl (1))]) (st' := [.inl (1)]) rfl ?_
      exact ez_retZ rfl rfl (by decide) (k1 g (by rw [List.take_of_length_le (by omega)] at ha; exact ha) (by omega))
    · exfalso; omega
  | succ n ih =>
    intro i g hm i0 i1 i2 ha
    have ha4 := ha.2.2.2.1
    rw [List.length_take] at ha4
    refine ez_go (n := 2) (pc' := 87) (L' := [(7, .inl (i)), (6, .inl (m)), (5, .inl (a)), (4, .inr (.inr (some (r)))), (0, .inr (.inr (some (723)))), (1, .inl (x)), (2, .inl (s)), (3, .inl (1))]) (st' := [.inl (m), .inl (i)]) rfl ?_
    refine ez_icmp rfl rfl ⟨by first | omega | exact (sz_i32 _).1, by first | omega | exact (sz_i32 _).2⟩ ⟨by first | omega | exact (sz_i32 _).1, by first | omega | exact (sz_i32 _).2⟩ (fun (c1 : (m) ≤ (i)) => ?_) (fun (c1 : ¬((m) ≤ (i))) => ?_)
    · exfalso; omega
    · skip
      refine ez_go (n := 2) (pc' := 92) (L' := [(7, .inl (i)), (6, .inl (m)), (5, .inl (a)), (4, .inr (.inr (some (r)))), (0, .inr (.inr (some (723)))), (1, .inl (x)), (2, .inl (s)), (3, .inl (1))]) (st' := [.inr (.inr (some (723))), .inr (.inr (some (723)))]) rfl ?_
      refine ez_gC (p := 724) (tg := 56) ha.1 t723 rfl rfl tq_55 rfl rfl (fun (t724 : _ = 56) => ?_)
      refine ez_go (n := 3) (pc' := 100) (L' := [(7, .inl (i)), (6, .inl (m)), (5, .inl (a)), (4, .inr (.inr (some (r)))), (0, .inr (.inr (some (723)))), (1, .inl (x)), (2, .inl (s)), (3, .inl (1))]) (st' := [.inl ((a) + (i)), .inr (.inr (some (724))), .inr (.inr (some (723)))]) rfl ?_
      have n3 : 20480 ≤ qz_N g 724 ∧ qz_N g 724 ≤ 20480 := ez_len ha.1 t724 tq_56 rfl
      refine ez_aI ha.1 t724 rfl tq_56 rfl rfl (by omega) (by omega) (fun (b2 : -2147483648 ≤ qz_I g 724 ((a) + (i)).toNat) (b2' : qz_I g 724 ((a) + (i)).toNat ≤ 2147483647) => ?_)
      have hlt : i.toNat < l.length := by omega
      have hv : qz_I g 724 ((a) + (i)).toNat = l[i.toNat] := by
        rw [ha.2.2.2.2 _ (by omega), if_neg (by rw [List.length_take]; omega)]
        have := hl i.toNat _ (List.getElem?_eq_getElem hlt)
        rw [← this]; congr 2; omega
      have hv2 : l[i.toNat]? = some (qz_I g 724 ((a) + (i)).toNat) := by rw [hv]; exact List.getElem?_eq_getElem hlt
      refine ez_go (n := 1) (pc' := 102) (L' := [(7, .inl (i)), (6, .inl (m)), (5, .inl (a)), (4, .inr (.inr (some (r)))), (0, .inr (.inr (some (723)))), (1, .inl (x)), (2, .inl (s)), (3, .inl (1))]) (st' := [.inl (s), .inl (qz_I g 724 ((a) + (i)).toNat), .inr (.inr (some (723)))]) rfl ?_
      refine ez_cv ha.1 t723 rfl rfl rfl tq_55 rfl rfl rfl (rd_poolPoint ha.1 t723 (by omega) (by omega) s0 s1 (by omega) (by omega) (fun e => ez_K1 ?_) (fun e g2 ha2 => ez_K1 ?_))
      · skip
        refine ez_if rfl rfl ⟨by decide, by decide⟩ (fun (c4 : (0 : Int) ≠ (0)) => absurd c4 (by decide)) (fun _ => ?_)
        refine ez_go (n := 1) (pc' := 109) (L' := [(7, .inl (i)), (6, .inl (m)), (5, .inl (a)), (4, .inr (.inr (some (r)))), (0, .inr (.inr (some (723)))), (1, .inl (x)), (2, .inl (s)), (3, .inl (1))]) (st' := [.inl (0)]) rfl ?_
        exact ez_retZ rfl rfl (by decide) (k0 g _ ha (by omega))
      · skip
        have hB2 := ha2.1
        have ha3 := ap_snoc ha hv2 ha2
        refine ez_if rfl rfl ⟨by decide, by decide⟩ (fun _ => ?_) (fun (c5 : ¬((1 : Int) ≠ (0))) => absurd c5 (by decide))
        refine ez_go (n := 2) (pc' := 83) (L' := [(7, .inl (i + 1)), (6, .inl (m)), (5, .inl (a)), (4, .inr (.inr (some (r)))), (0, .inr (.inr (some (723)))), (1, .inl (x)), (2, .inl (s)), (3, .inl (1))]) (st' := []) rfl ?_
        refine ez_less [(7, .inl (i + 1)), (6, .inl (m)), (5, .inl (a)), (4, .inr (.inr (some (r)))), (0, .inr (.inr (some (723)))), (1, .inl (x)), (2, .inl (s)), (3, .inl (1))] rfl ⟨rfl, rfl, rfl, rfl, rfl, rfl, rfl, rfl, trivial⟩ ?_
        refine ih (i + 1) g2 (by omega) (by omega) (by omega) (by omega) (by rw [show (i + 1).toNat = i.toNat + 1 by omega]; exact ha3)
theorem rd_poolFull1 {x s : Int} {l : List Int} (hC : pz_C τ h T F E) (x0 : 0 ≤ x) (x1 : x ≤ 1114111) (s0 : 0 ≤ s) (s1 : s ≤ 20440) (u0 : s ≤ qz_I h 723 2) (u1 : qz_I h 723 2 ≤ s + 40) (hd : dn h T F true x l) (k1 : ∀ g, ap τ h g l → qz_I h 723 2 + (l.length : Int) ≤ s + 40 → Q (.inl (some (ez_v (.inl 1))), g)) (k0 : ∀ g l2, ap τ h g l2 → s + 40 < qz_I h 723 2 + (l.length : Int) → Q (.inl (some (ez_v (.inl 0))), g)) : ez_W (d + 2) cm_126 0 [(0, .inr (.inr (some (723)))), (1, .inl (x)), (2, .inl (s)), (3, .inl (1))] [] h Q := by
  have t723 : τ 723 = 55 := hC.2.1 723 (by decide)
  have t724 : τ 724 = 56 := hC.2.1 724 (by decide)
  refine ez_go (n := 1) (pc' := 1) (L' := [(0, .inr (.inr (some (723)))), (1, .inl (x)), (2, .inl (s)), (3, .inl (1))]) (st' := [.inl (x)]) rfl ?_
  refine ez_cs hC.1.2.1 rfl rfl rfl rfl rfl (rd_isSyl (by omega) (by omega) (fun e => ez_K1 ?_) (fun e => ez_K1 ?_))
  · skip
    refine ez_if rfl rfl ⟨by decide, by decide⟩ (fun (c1 : (1 : Int) = (0)) => absurd c1 (by decide)) (fun _ => ?_)
    refine ez_go (n := 3) (pc' := 10) (L' := [(0, .inr (.inr (some (723)))), (1, .inl (x)), (2, .inl (s)), (3, .inl (1))]) (st' := [.inl (s), .inl (x), .inr (.inr (some (723)))]) rfl ?_
    have hl : l = hz_sy x := by rcases hd with w | w | w; (· exact w.2); (· exact absurd e w.1); (· exact absurd e w.1)
    subst hl
    refine ez_cv hC.1 t723 rfl rfl rfl tq_55 rfl rfl rfl (rd_poolSyl hC.1 t723 e s0 s1 u0 u1 (fun g w1 w2 => ez_K1 ?_) (fun g l2 w1 w2 => ez_K1 ?_))
    · exact ez_retZ rfl rfl (by decide) (k1 g w1 w2)
    · exact ez_retZ rfl rfl (by decide) (k0 g l2 w1 w2)
  · skip
    refine ez_if rfl rfl ⟨by decide, by decide⟩ (fun _ => ?_) (fun (c2 : ¬((0 : Int) = (0))) => absurd c2 (by decide))
    refine ez_go (n := 1) (pc' := 15) (L' := [(0, .inr (.inr (some (723)))), (1, .inl (x)), (2, .inl (s)), (3, .inl (1))]) (st' := [.inr (.inr (some (723)))]) rfl ?_
    refine ez_gC (p := 202) (tg := 48) hC.1 t723 rfl rfl tq_55 rfl rfl (fun (t202 : _ = 48) => ?_)
    refine ez_go (n := 1) (pc' := 19) (L' := [(0, .inr (.inr (some (723)))), (1, .inl (x)), (2, .inl (s)), (3, .inl (1))]) (st' := [.inl (x), .inr (.inr (some (202)))]) rfl ?_
    refine ez_cv hC.1 t202 rfl rfl rfl tq_48 rfl rfl rfl (rd_spanOf hC x0 x1 (fun z tz z1 _ => ez_KA ?_))
    refine ez_gR hC.1 tz rfl rfl tq_4 rfl rfl (fun (t3 : _ = 3) (t3' : 1 ≤ qz_I h z 1) => ?_)
    have eT : qz_P h z 1 = T x := by unfold qz_P; omega
    rw [eT]
    have tT := (hC.2.2.2.2 x x0 x1).1
    refine ez_go (n := 2) (pc' := 29) (L' := [(4, .inr (.inr (some ((T x))))), (0, .inr (.inr (some (723)))), (1, .inl (x)), (2, .inl (s)), (3, .inl (1))]) (st' := [.inr (.inr (some ((T x))))]) rfl ?_
    refine ez_gN hC.1 tT rfl rfl tq_3 rfl rfl (fun (t4 : qz_I h ((T x)) 3 = 0) => ?_) (fun (t4 : _ = 5) (t4' : 1 ≤ qz_I h ((T x)) 3) => ?_)
    · skip
      refine ez_nonn0 rfl ?_
      refine ez_go (n := 3) (pc' := 38) (L' := [(4, .inr (.inr (some ((T x))))), (0, .inr (.inr (some (723)))), (1, .inl (x)), (2, .inl (s)), (3, .inl (1))]) (st' := [.inl (s), .inl (x), .inr (.inr (some (723)))]) rfl ?_
      have hnone : (F x).2 = none := by
        cases hq : (F x).2 with
        | none => rfl
        | some q => have := ((hC.2.2.2.2 x x0 x1).2.2.2 q.1 q.2 hq).2.2.1; omega
      have hl : l = [x] := by rcases hd with w | w | w; (· exact absurd w.1 e); (· exact w.2.2); (· exact absurd hnone w.2.1)
      subst hl
      refine ez_cv hC.1 t723 rfl rfl rfl tq_55 rfl rfl rfl (rd_poolPoint hC.1 t723 (by omega) (by omega) s0 s1 u0 u1 (fun w => ez_K1 ?_) (fun w g w1 => ez_K1 ?_))
      · exact ez_retZ rfl rfl (by decide) (k0 h [] (ap.nil hC.1) (by simp only [List.length_singleton]; omega))
      · exact ez_retZ rfl rfl (by decide) (k1 g w1 (by simp only [List.length_singleton]; omega))
    · skip
      refine ez_nonn1 rfl rfl ?_
      refine ez_go (n := 1) (pc' := 43) (L' := [(4, .inr (.inr (some ((T x))))), (0, .inr (.inr (some (723)))), (1, .inl (x)), (2, .inl (s)), (3, .inl (1))]) (st' := [.inl (1)]) rfl ?_
      refine ez_if rfl rfl ⟨by decide, by decide⟩ (fun (c5 : (1 : Int) = (0)) => absurd c5 (by decide)) (fun _ => ?_)
      refine ez_go (n := 1) (pc' := 48) (L' := [(4, .inr (.inr (some ((T x))))), (0, .inr (.inr (some (723)))), (1, .inl (x)), (2, .inl (s)), (3, .inl (1))]) (st' := [.inr (.inr (some ((T x))))]) rfl ?_
      refine ez_gI hC.1 tT rfl rfl tq_3 rfl rfl (fun (b6 : 0 ≤ qz_I h ((T x)) 11) (b6' : qz_I h ((T x)) 11 ≤ 20480) => ?_)
      refine ez_go (n := 3) (pc' := 62) (L' := [(5, .inl (qz_I h ((T x)) 11)), (4, .inr (.inr (some ((T x))))), (0, .inr (.inr (some (723)))), (1, .inl (x)), (2, .inl (s)), (3, .inl (1))]) (st' := [.inl (1)]) rfl ?_
      refine ez_if rfl rfl ⟨by decide, by decide⟩ (fun (c7 : (1 : Int) = (0)) => absurd c7 (by decide)) (fun _ => ?_)
      refine ez_go (n := 1) (pc' := 67) (L' := [(5, .inl (qz_I h ((T x)) 11)), (4, .inr (.inr (some ((T x))))), (0, .inr (.inr (some (723)))), (1, .inl (x)), (2, .inl (s)), (3, .inl (1))]) (st' := [.inr (.inr (some ((T x))))]) rfl ?_
      refine ez_gI hC.1 tT rfl rfl tq_3 rfl rfl (fun (b8 : 0 ≤ qz_I h ((T x)) 12) (b8' : qz_I h ((T x)) 12 ≤ 20480) => ?_)
      refine ez_go (n := 4) (pc' := 83) (L' := [(7, .inl (0)), (6, .inl (qz_I h ((T x)) 12)), (5, .inl (qz_I h ((T x)) 11)), (4, .inr (.inr (some ((T x))))), (0, .inr (.inr (some (723)))), (1, .inl (x)), (2, .inl (s)), (3, .inl (1))]) (st' := []) rfl ?_
      refine ez_less [(7, .inl (0)), (6, .inl (qz_I h ((T x)) 12)), (5, .inl (qz_I h ((T x)) 11)), (4, .inr (.inr (some ((T x))))), (0, .inr (.inr (some (723)))), (1, .inl (x)), (2, .inl (s)), (3, .inl (1))] rfl ⟨rfl, rfl, rfl, rfl, rfl, rfl, rfl, rfl, trivial⟩ ?_
      have hsg : sg h (T x) true l := by
        rcases hd with w | w | w
        · exact absurd w.1 e
        · have := (hC.2.2.2.2 x x0 x1).2.2.1 w.2.1; omega
        · exact w.2.2
      obtain ⟨q1, q2, q3, q4⟩ := hsg
      have q1 : qz_I h (T x) 12 = (l.length : Int) := q1
      have q2 : 0 ≤ qz_I h (T x) 11 := q2
      have q3 : qz_I h (T x) 11 + (l.length : Int) ≤ qz_I h 723 2 := q3
      have q4 : ∀ (j : Nat) v, l[j]? = some v → qz_I h 724 (qz_I h (T x) 11 + (j : Int)).toNat = v := q4
      exact rd_poolFull_l1 t723 t724 s0 s1 u0 u1 q1 (by omega) (by omega) q4 k1 k0 _ 0 h rfl (by omega) (by omega) (by omega) (ap.nil hC.1)

theorem rd_poolFull_l0 {x s a m : Int} {r : Nat} {l : List Int} (t723 : τ 723 = 55) (t724 : τ 724 = 56) (s0 : 0 ≤ s) (s1 : s ≤ 20440) (u0 : s ≤ qz_I h 723 2) (u1 : qz_I h 723 2 ≤ s + 40) (hm : m = (l.length : Int)) (a0 : 0 ≤ a) (a1 : a + m ≤ qz_I h 723 2) (hl : ∀ (j : Nat) v, l[j]? = some v → qz_I h 724 (a + (j : Int)).toNat = v) (k1 : ∀ g, ap τ h g l → qz_I h 723 2 + (l.length : Int) ≤ s + 40 → Q (.inl (some (ez_v (.inl 1))), g)) (k0 : ∀ g l2, ap τ h g l2 → s + 40 < qz_I h 723 2 + (l.length : Int) → Q (.inl (some (ez_v (.inl 0))), g)) : ∀ (n : Nat) (i : Int) (g : cz_H), n = (m - i).toNat → 0 ≤ i → i ≤ m → qz_I h 723 2 + i ≤ s + 40 → ap τ h g (l.take i.toNat) → ez_W (d + 1) cm_126 83 [(7, .inl (i)), (6, .inl (m)), (5, .inl (a)), (4, .inr (.inr (some (r)))), (0, .inr (.inr (some (723)))), (1, .inl (x)), (2, .inl (s)), (3, .inl (0))] [] g Q := by
  intro n
  induction n with
  | zero =>
    intro i g hm i0 i1 i2 ha
    have ha4 := ha.2.2.2.1
    rw [List.length_take] at ha4
    refine ez_go (n := 2) (pc' := 87) (L' := [(7, .inl (i)), (6, .inl (m)), (5, .inl (a)), (4, .inr (.inr (some (r)))), (0, .inr (.inr (some (723)))), (1, .inl (x)), (2, .inl (s)), (3, .inl (0))]) (st' := [.inl (m), .inl (i)]) rfl ?_
    refine ez_icmp rfl rfl ⟨by first | omega | exact (sz_i32 _).1, by first | omega | exact (sz_i32 _).2⟩ ⟨by first | omega | exact (sz_i32 _).1, by first | omega | exact (sz_i32 _).2⟩ (fun (c1 : (m) ≤ (i)) => ?_) (fun (c1 : ¬((m) ≤ (i))) => ?_)
    · skip
      refine ez_go (n := 1) (pc' := 117) (L' := [(7, .inl (i)), (6, .inl (m)), (5, .inl (a)), (4, .inr (.inr (some (r)))), (0, .inr (.inr (some (723)))), (1, .inl (x)), (2, .inl (s)), (3, .inl (0))]) (st' := [.inl (1)]) rfl ?_
      exact ez_retZ rfl rfl (by decide) (k1 g (by rw [List.take_of_length_le (by omega)] at ha; exact ha) (by omega))
    · exfalso; omega
  | succ n ih =>
    intro i g hm i0 i1 i2 ha
    have ha4 := ha.2.2.2.1
    rw [List.length_take] at ha4
    refine ez_go (n := 2) (pc' := 87) (L' := [(7, .inl (i)), (6, .inl (m)), (5, .inl (a)), (4, .inr (.inr (some (r)))), (0, .inr (.inr (some (723)))), (1, .inl (x)), (2, .inl (s)), (3, .inl (0))]) (st' := [.inl (m), .inl (i)]) rfl ?_
    refine ez_icmp rfl rfl ⟨by first | omega | exact (sz_i32 _).1, by first | omega | exact (sz_i32 _).2⟩ ⟨by first | omega | exact (sz_i32 _).1, by first | omega | exact (sz_i32 _).2⟩ (fun (c1 : (m) ≤ (i)) => ?_) (fun (c1 : ¬((m) ≤ (i))) => ?_)
    · exfalso; omega
    · skip
      refine ez_go (n := 2) (pc' := 92) (L' := [(7, .inl (i)), (6, .inl (m)), (5, .inl (a)), (4, .inr (.inr (some (r)))), (0, .inr (.inr (some (723)))), (1, .inl (x)), (2, .inl (s)), (3, .inl (0))]) (st' := [.inr (.inr (some (723))), .inr (.inr (some (723)))]) rfl ?_
      refine ez_gC (p := 724) (tg := 56) ha.1 t723 rfl rfl tq_55 rfl rfl (fun (t724 : _ = 56) => ?_)
      refine ez_go (n := 3) (pc' := 100) (L' := [(7, .inl (i)), (6, .inl (m)), (5, .inl (a)), (4, .inr (.inr (some (r)))), (0, .inr (.inr (some (723)))), (1, .inl (x)), (2, .inl (s)), (3, .inl (0))]) (st' := [.inl ((a) + (i)), .inr (.inr (some (724))), .inr (.inr (some (723)))]) rfl ?_
      have n3 : 20480 ≤ qz_N g 724 ∧ qz_N g 724 ≤ 20480 := ez_len ha.1 t724 tq_56 rfl
      refine ez_aI ha.1 t724 rfl tq_56 rfl rfl (by omega) (by omega) (fun (b2 : -2147483648 ≤ qz_I g 724 ((a) + (i)).toNat) (b2' : qz_I g 724 ((a) + (i)).toNat ≤ 2147483647) => ?_)
      have hlt : i.toNat < l.length := by omega
      have hv : qz_I g 724 ((a) + (i)).toNat = l[i.toNat] := by
        rw [ha.2.2.2.2 _ (by omega), if_neg (by rw [List.length_take]; omega)]
        have := hl i.toNat _ (List.getElem?_eq_getElem hlt)
        rw [← this]; congr 2; omega
      have hv2 : l[i.toNat]? = some (qz_I g 724 ((a) + (i)).toNat) := by rw [hv]; exact List.getElem?_eq_getElem hlt
      refine ez_go (n := 1) (pc' := 102) (L' := [(7, .inl (i)), (6, .inl (m)), (5, .inl (a)), (4, .inr (.inr (some (r)))), (0, .inr (.inr (some (723)))), (1, .inl (x)), (2, .inl (s)), (3, .inl (0))]) (st' := [.inl (s), .inl (qz_I g 724 ((a) + (i)).toNat), .inr (.inr (some (723)))]) rfl ?_
      refine ez_cv ha.1 t723 rfl rfl rfl tq_55 rfl rfl rfl (rd_poolPoint ha.1 t723 (by omega) (by omega) s0 s1 (by omega) (by omega) (fun e => ez_K1 ?_) (fun e g2 ha2 => ez_K1 ?_))
      · skip
        refine ez_if rfl rfl ⟨by decide, by decide⟩ (fun (c4 : (0 : Int) ≠ (0)) => absurd c4 (by decide)) (fun _ => ?_)
        refine ez_go (n := 1) (pc' := 109) (L' := [(7, .inl (i)), (6, .inl (m)), (5, .inl (a)), (4, .inr (.inr (some (r)))), (0, .inr (.inr (some (723)))), (1, .inl (x)), (2, .inl (s)), (3, .inl (0))]) (st' := [.inl (0)]) rfl ?_
        exact ez_retZ rfl rfl (by decide) (k0 g _ ha (by omega))
      · skip
        have hB2 := ha2.1
        have ha3 := ap_snoc ha hv2 ha2
        refine ez_if rfl rfl ⟨by decide, by decide⟩ (fun _ => ?_) (fun (c5 : ¬((1 : Int) ≠ (0))) => absurd c5 (by decide))
        refine ez_go (n := 2) (pc' := 83) (L' := [(7, .inl (i + 1)), (6, .inl (m)), (5, .inl (a)), (4, .inr (.inr (some (r)))), (0, .inr (.inr (some (723)))), (1, .inl (x)), (2, .inl (s)), (3, .inl (0))]) (st' := []) rfl ?_
        refine ez_less [(7, .inl (i + 1)), (6, .inl (m)), (5, .inl (a)), (4, .inr (.inr (some (r)))), (0, .inr (.inr (some (723)))), (1, .inl (x)), (2, .inl (s)), (3, .inl (0))] rfl ⟨rfl, rfl, rfl, rfl, rfl, rfl, rfl, rfl, trivial⟩ ?_
        refine ih (i + 1) g2 (by omega) (by omega) (by omega) (by omega) (by rw [show (i + 1).toNat = i.toNat + 1 by omega]; exact ha3)
theorem rd_poolFull0 {x s : Int} {l : List Int} (hC : pz_C τ h T F E) (x0 : 0 ≤ x) (x1 : x ≤ 1114111) (s0 : 0 ≤ s) (s1 : s ≤ 20440) (u0 : s ≤ qz_I h 723 2) (u1 : qz_I h 723 2 ≤ s + 40) (hd : dn h T F false x l) (k1 : ∀ g, ap τ h g l → qz_I h 723 2 + (l.length : Int) ≤ s + 40 → Q (.inl (some (ez_v (.inl 1))), g)) (k0 : ∀ g l2, ap τ h g l2 → s + 40 < qz_I h 723 2 + (l.length : Int) → Q (.inl (some (ez_v (.inl 0))), g)) : ez_W (d + 2) cm_126 0 [(0, .inr (.inr (some (723)))), (1, .inl (x)), (2, .inl (s)), (3, .inl (0))] [] h Q := by
  have t723 : τ 723 = 55 := hC.2.1 723 (by decide)
  have t724 : τ 724 = 56 := hC.2.1 724 (by decide)
  refine ez_go (n := 1) (pc' := 1) (L' := [(0, .inr (.inr (some (723)))), (1, .inl (x)), (2, .inl (s)), (3, .inl (0))]) (st' := [.inl (x)]) rfl ?_
  refine ez_cs hC.1.2.1 rfl rfl rfl rfl rfl (rd_isSyl (by omega) (by omega) (fun e => ez_K1 ?_) (fun e => ez_K1 ?_))
  · skip
    refine ez_if rfl rfl ⟨by decide, by decide⟩ (fun (c1 : (1 : Int) = (0)) => absurd c1 (by decide)) (fun _ => ?_)
    refine ez_go (n := 3) (pc' := 10) (L' := [(0, .inr (.inr (some (723)))), (1, .inl (x)), (2, .inl (s)), (3, .inl (0))]) (st' := [.inl (s), .inl (x), .inr (.inr (some (723)))]) rfl ?_
    have hl : l = hz_sy x := by rcases hd with w | w | w; (· exact w.2); (· exact absurd e w.1); (· exact absurd e w.1)
    subst hl
    refine ez_cv hC.1 t723 rfl rfl rfl tq_55 rfl rfl rfl (rd_poolSyl hC.1 t723 e s0 s1 u0 u1 (fun g w1 w2 => ez_K1 ?_) (fun g l2 w1 w2 => ez_K1 ?_))
    · exact ez_retZ rfl rfl (by decide) (k1 g w1 w2)
    · exact ez_retZ rfl rfl (by decide) (k0 g l2 w1 w2)
  · skip
    refine ez_if rfl rfl ⟨by decide, by decide⟩ (fun _ => ?_) (fun (c2 : ¬((0 : Int) = (0))) => absurd c2 (by decide))
    refine ez_go (n := 1) (pc' := 15) (L' := [(0, .inr (.inr (some (723)))), (1, .inl (x)), (2, .inl (s)), (3, .inl (0))]) (st' := [.inr (.inr (some (723)))]) rfl ?_
    refine ez_gC (p := 202) (tg := 48) hC.1 t723 rfl rfl tq_55 rfl rfl (fun (t202 : _ = 48) => ?_)
    refine ez_go (n := 1) (pc' := 19) (L' := [(0, .inr (.inr (some (723)))), (1, .inl (x)), (2, .inl (s)), (3, .inl (0))]) (st' := [.inl (x), .inr (.inr (some (202)))]) rfl ?_
    refine ez_cv hC.1 t202 rfl rfl rfl tq_48 rfl rfl rfl (rd_spanOf hC x0 x1 (fun z tz z1 _ => ez_KA ?_))
    refine ez_gR hC.1 tz rfl rfl tq_4 rfl rfl (fun (t3 : _ = 3) (t3' : 1 ≤ qz_I h z 1) => ?_)
    have eT : qz_P h z 1 = T x := by unfold qz_P; omega
    rw [eT]
    have tT := (hC.2.2.2.2 x x0 x1).1
    refine ez_go (n := 2) (pc' := 29) (L' := [(4, .inr (.inr (some ((T x))))), (0, .inr (.inr (some (723)))), (1, .inl (x)), (2, .inl (s)), (3, .inl (0))]) (st' := [.inr (.inr (some ((T x))))]) rfl ?_
    refine ez_gN hC.1 tT rfl rfl tq_3 rfl rfl (fun (t4 : qz_I h ((T x)) 3 = 0) => ?_) (fun (t4 : _ = 5) (t4' : 1 ≤ qz_I h ((T x)) 3) => ?_)
    · skip
      refine ez_nonn0 rfl ?_
      refine ez_go (n := 3) (pc' := 38) (L' := [(4, .inr (.inr (some ((T x))))), (0, .inr (.inr (some (723)))), (1, .inl (x)), (2, .inl (s)), (3, .inl (0))]) (st' := [.inl (s), .inl (x), .inr (.inr (some (723)))]) rfl ?_
      have hnone : (F x).2 = none := by
        cases hq : (F x).2 with
        | none => rfl
        | some q => have := ((hC.2.2.2.2 x x0 x1).2.2.2 q.1 q.2 hq).2.2.1; omega
      have hl : l = [x] := by rcases hd with w | w | w; (· exact absurd w.1 e); (· exact w.2.2); (· exact absurd hnone w.2.1)
      subst hl
      refine ez_cv hC.1 t723 rfl rfl rfl tq_55 rfl rfl rfl (rd_poolPoint hC.1 t723 (by omega) (by omega) s0 s1 u0 u1 (fun w => ez_K1 ?_) (fun w g w1 => ez_K1 ?_))
      · exact ez_retZ rfl rfl (by decide) (k0 h [] (ap.nil hC.1) (by simp only [List.length_singleton]; omega))
      · exact ez_retZ rfl rfl (by decide) (k1 g w1 (by simp only [List.length_singleton]; omega))
    · skip
      refine ez_nonn1 rfl rfl ?_
      refine ez_go (n := 1) (pc' := 43) (L' := [(4, .inr (.inr (some ((T x))))), (0, .inr (.inr (some (723)))), (1, .inl (x)), (2, .inl (s)), (3, .inl (0))]) (st' := [.inl (0)]) rfl ?_
      refine ez_if rfl rfl ⟨by decide, by decide⟩ (fun _ => ?_) (fun (c5 : ¬((0 : Int) = (0))) => absurd c5 (by decide))
      refine ez_go (n := 1) (pc' := 56) (L' := [(4, .inr (.inr (some ((T x))))), (0, .inr (.inr (some (723)))), (1, .inl (x)), (2, .inl (s)), (3, .inl (0))]) (st' := [.inr (.inr (some ((T x))))]) rfl ?_
      refine ez_gI hC.1 tT rfl rfl tq_3 rfl rfl (fun (b6 : 0 ≤ qz_I h ((T x)) 9) (b6' : qz_I h ((T x)) 9 ≤ 20480) => ?_)
      refine ez_go (n := 2) (pc' := 62) (L' := [(5, .inl (qz_I h ((T x)) 9)), (4, .inr (.inr (some ((T x))))), (0, .inr (.inr (some (723)))), (1, .inl (x)), (2, .inl (s)), (3, .inl (0))]) (st' := [.inl (0)]) rfl ?_
      refine ez_if rfl rfl ⟨by decide, by decide⟩ (fun _ => ?_) (fun (c7 : ¬((0 : Int) = (0))) => absurd c7 (by decide))
      refine ez_go (n := 1) (pc' := 75) (L' := [(5, .inl (qz_I h ((T x)) 9)), (4, .inr (.inr (some ((T x))))), (0, .inr (.inr (some (723)))), (1, .inl (x)), (2, .inl (s)), (3, .inl (0))]) (st' := [.inr (.inr (some ((T x))))]) rfl ?_
      refine ez_gI hC.1 tT rfl rfl tq_3 rfl rfl (fun (b8 : 0 ≤ qz_I h ((T x)) 10) (b8' : qz_I h ((T x)) 10 ≤ 20480) => ?_)
      refine ez_go (n := 3) (pc' := 83) (L' := [(7, .inl (0)), (6, .inl (qz_I h ((T x)) 10)), (5, .inl (qz_I h ((T x)) 9)), (4, .inr (.inr (some ((T x))))), (0, .inr (.inr (some (723)))), (1, .inl (x)), (2, .inl (s)), (3, .inl (0))]) (st' := []) rfl ?_
      refine ez_less [(7, .inl (0)), (6, .inl (qz_I h ((T x)) 10)), (5, .inl (qz_I h ((T x)) 9)), (4, .inr (.inr (some ((T x))))), (0, .inr (.inr (some (723)))), (1, .inl (x)), (2, .inl (s)), (3, .inl (0))] rfl ⟨rfl, rfl, rfl, rfl, rfl, rfl, rfl, rfl, trivial⟩ ?_
      have hsg : sg h (T x) false l := by
        rcases hd with w | w | w
        · exact absurd w.1 e
        · have := (hC.2.2.2.2 x x0 x1).2.2.1 w.2.1; omega
        · exact w.2.2
      obtain ⟨q1, q2, q3, q4⟩ := hsg
      have q1 : qz_I h (T x) 10 = (l.length : Int) := q1
      have q2 : 0 ≤ qz_I h (T x) 9 := q2
      have q3 : qz_I h (T x) 9 + (l.length : Int) ≤ qz_I h 723 2 := q3
      have q4 : ∀ (j : Nat) v, l[j]? = some v → qz_I h 724 (qz_I h (T x) 9 + (j : Int)).toNat = v := q4
      exact rd_poolFull_l0 t723 t724 s0 s1 u0 u1 q1 (by omega) (by omega) q4 k1 k0 _ 0 h rfl (by omega) (by omega) (by omega) (ap.nil hC.1)

end EzPf
/-! The class: close. (Written by wip/p2/py/pv29.py.) -/
def ct (f : Int → List Int) : List Int → List Int
  | [] => []
  | v :: vs => f v ++ ct f vs
theorem ct_app (f : Int → List Int) : ∀ a b, ct f (a ++ b) = ct f a ++ ct f b
  | [], b => rfl
  | v :: a, b => by show f v ++ ct f (a ++ b) = _; rw [ct_app f a b]; show _ = f v ++ ct f a ++ ct f b; rw [List.append_assoc]
theorem ct_take {f : Int → List Int} {vs : List Int} {k : Nat} {v : Int} (h : vs[k]? = some v) : ct f (vs.take (k + 1)) = ct f (vs.take k) ++ f v := by
  rw [List.take_add_one, h, ct_app]
  show _ ++ (f v ++ []) = _
  rw [List.append_nil]
theorem ct_len {f : Int → List Int} (vs : List Int) (k : Nat) : (ct f (vs.take k)).length ≤ (ct f vs).length := by
  have : ct f vs = ct f (vs.take k) ++ ct f (vs.drop k) := by rw [← ct_app, List.take_append_drop]
  rw [this, List.length_append]
  omega
/-- lists that belong to the children: together they are the whole -/
theorem ct_FL {F : rz_W} {c : Bool} {f : Int → List Int} : ∀ {vs : List Int}, (∀ v ∈ vs, uz_F F c v (f v)) → uz_FL F c vs (ct f vs)
  | [], _ => uz_nil F c
  | v :: vs, h => uz_cons (h v List.mem_cons_self) (ct_FL (fun w hw => h w (List.mem_cons_of_mem _ hw)))
def nz_PR (r q : Nat) : Bool := Nat.beq q r || nz_PP q
theorem nz_PR_ap {τ : Nat → Nat} {r : Nat} {g g2 : cz_H} {l : List Int} (x : ap τ g g2 l) : ez_fr (nz_PR r) g g2 := ⟨x.2.1.1, x.2.1.2.1, fun q hq => x.2.1.2.2 q (by unfold nz_PR at hq; exact (Bool.or_eq_false_iff.mp hq).2)⟩
theorem nz_PR_r (r : Nat) : nz_PR r r = true := by unfold nz_PR; rw [Nat.beq_refl]; rfl
theorem nz_PR_pz {τ : Nat → Nat} {r : Nat} {h g : cz_H} (hX : jz_X τ) (tr : τ r = 3) (hf : ez_fr (nz_PR r) h g) (h8 : ∀ j, j < 8 → qz_I g r j = qz_I h r j) : pz τ h g := by
  refine ⟨⟨hf.1, hf.2.1⟩, fun q q1 q2 => hf.2.2 q ?_, fun q q1 j j8 => ?_⟩
  · unfold nz_PR nz_PP
    rw [dz_beq_ne (fun e => by rw [e] at q1; exact q1 tr), dz_beq_ne (by omega), dz_beq_ne (by omega)]
    rfl
  · by_cases e : q = r
    · rw [e]; exact h8 j j8
    · refine hf.I ?_ j
      unfold nz_PR nz_PP
      rw [dz_beq_ne e, dz_beq_ne (fun e => by rw [e] at q1; exact (pz_X hX (by omega) (by omega)).1 q1), dz_beq_ne (fun e => by rw [e] at q1; exact (pz_X hX (by omega) (by omega)).1 q1)]
      rfl
section EzCl
variable {d : Nat} {h : cz_H} {τ : Nat → Nat} {Q : cz_F → Prop} {T : Int → Nat} {F : rz_W} {E : Int → Prop}
theorem rd_close_l1 {x s cp : Int} {vs : List Int} {f : Int → List Int} (hC : pz_C τ h T F E) (x0 : 0 ≤ x) (x1 : x ≤ 1114111) (hdec : (F x).2 = some (cp, vs)) (hwf : ∀ v ∈ vs, 0 ≤ v ∧ v ≤ 1114111) (s0 : 0 ≤ s) (s1 : s ≤ 20440) (u0 : s ≤ qz_I h 723 2) (hs : qz_I h (T x) 11 = s) (hdn : ∀ v ∈ vs, dn h T F true v (f v)) (kF : ∀ g {l2}, ez_B τ g → ap τ h g l2 → s + 40 < qz_I h 723 2 + ((ct f vs).length : Int) → Q (.inl (some (ez_v (.inl 0))), g)) (kx : ∀ g, ap τ h g (ct f vs) → qz_I h 723 2 + ((ct f vs).length : Int) ≤ s + 40 → ez_W (d + 3) cm_113 45 [(0, .inr (.inr (some (723)))), (1, .inr (.inr (some ((T x)))))] [] g Q) : ∀ (n : Nat) (k : Int) (g : cz_H), n = ((vs.length : Int) - k).toNat → 0 ≤ k → k ≤ (vs.length : Int) → qz_I h 723 2 + ((ct f (vs.take k.toNat)).length : Int) ≤ s + 40 → ap τ h g (ct f (vs.take k.toNat)) → ez_W (d + 3) cm_113 10 [(2, .inl (k)), (0, .inr (.inr (some (723)))), (1, .inr (.inr (some ((T x)))))] [] g Q := by
  intro n
  induction n with
  | zero =>
    intro k g hm k0' k1' k2 ha
    have ha4 := ha.2.2.2.1
    have hCg := hC.fr ha.1 (ha.pz hC.2.1)
    have t723 : τ 723 = 55 := hC.2.1 723 (by decide)
    have t724 : τ 724 = 56 := hC.2.1 724 (by decide)
    obtain ⟨tT, -, -, f4⟩ := hCg.2.2.2.2 x x0 x1
    obtain ⟨f40, f41, f42, f43, f44, f45⟩ := f4 cp vs hdec
    have hs9 : qz_I g (T x) 11 = s := by rw [ha.2.1.I (by unfold nz_PP; rw [dz_beq_ne (fun e => by rw [e, t723] at tT; cases tT), dz_beq_ne (fun e => by rw [e, t724] at tT; cases tT)]; rfl)]; exact hs
    refine ez_go (n := 2) (pc' := 12) (L' := [(2, .inl (k)), (0, .inr (.inr (some (723)))), (1, .inr (.inr (some ((T x)))))]) (st' := [.inr (.inr (some ((T x)))), .inl (k)]) rfl ?_
    refine ez_gN ha.1 tT rfl rfl tq_3 rfl rfl (fun (t1 : qz_I g ((T x)) 3 = 0) => ?_) (fun (t1 : _ = 5) (t1' : 1 ≤ qz_I g ((T x)) 3) => ?_)
    · exfalso; omega
    · skip
      refine ez_al ha.1 t1 rfl tq_5 rfl (fun (b2 : 0 ≤ qz_N g (qz_P g ((T x)) 3)) (b2' : qz_N g (qz_P g ((T x)) 3) ≤ 18) => ?_)
      refine ez_icmp rfl rfl ⟨by first | omega | exact (sz_i32 _).1, by first | omega | exact (sz_i32 _).2⟩ ⟨by first | omega | exact (sz_i32 _).1, by first | omega | exact (sz_i32 _).2⟩ (fun (c3 : (qz_N g (qz_P g ((T x)) 3)) ≤ (k)) => ?_) (fun (c3 : ¬((qz_N g (qz_P g ((T x)) 3)) ≤ (k))) => ?_)
      · skip
        refine ez_less [(0, .inr (.inr (some (723)))), (1, .inr (.inr (some ((T x)))))] rfl ⟨rfl, rfl, trivial⟩ ?_
        rw [List.take_of_length_le (by omega)] at ha k2
        exact kx g ha k2
      · exfalso; omega
  | succ n ih =>
    intro k g hm k0' k1' k2 ha
    have ha4 := ha.2.2.2.1
    have hCg := hC.fr ha.1 (ha.pz hC.2.1)
    have t723 : τ 723 = 55 := hC.2.1 723 (by decide)
    have t724 : τ 724 = 56 := hC.2.1 724 (by decide)
    obtain ⟨tT, -, -, f4⟩ := hCg.2.2.2.2 x x0 x1
    obtain ⟨f40, f41, f42, f43, f44, f45⟩ := f4 cp vs hdec
    have hs9 : qz_I g (T x) 11 = s := by rw [ha.2.1.I (by unfold nz_PP; rw [dz_beq_ne (fun e => by rw [e, t723] at tT; cases tT), dz_beq_ne (fun e => by rw [e, t724] at tT; cases tT)]; rfl)]; exact hs
    refine ez_go (n := 2) (pc' := 12) (L' := [(2, .inl (k)), (0, .inr (.inr (some (723)))), (1, .inr (.inr (some ((T x)))))]) (st' := [.inr (.inr (some ((T x)))), .inl (k)]) rfl ?_
    refine ez_gN ha.1 tT rfl rfl tq_3 rfl rfl (fun (t1 : qz_I g ((T x)) 3 = 0) => ?_) (fun (t1 : _ = 5) (t1' : 1 ≤ qz_I g ((T x)) 3) => ?_)
    · exfalso; omega
    · skip
      refine ez_al ha.1 t1 rfl tq_5 rfl (fun (b2 : 0 ≤ qz_N g (qz_P g ((T x)) 3)) (b2' : qz_N g (qz_P g ((T x)) 3) ≤ 18) => ?_)
      refine ez_icmp rfl rfl ⟨by first | omega | exact (sz_i32 _).1, by first | omega | exact (sz_i32 _).2⟩ ⟨by first | omega | exact (sz_i32 _).1, by first | omega | exact (sz_i32 _).2⟩ (fun (c3 : (qz_N g (qz_P g ((T x)) 3)) ≤ (k)) => ?_) (fun (c3 : ¬((qz_N g (qz_P g ((T x)) 3)) ≤ (k))) => ?_)
      · exfalso; omega
      · skip
        refine ez_go (n := 2) (pc' := 21) (L' := [(2, .inl (k)), (0, .inr (.inr (some (723)))), (1, .inr (.inr (some ((T x)))))]) (st' := [.inr (.inr (some ((T x)))), .inr (.inr (some (723)))]) rfl ?_
        refine ez_gN ha.1 tT rfl rfl tq_3 rfl rfl (fun (t4 : qz_I g ((T x)) 3 = 0) => ?_) (fun (t4 : _ = 5) (t4' : 1 ≤ qz_I g ((T x)) 3) => ?_)
        · exfalso; omega
        · skip
          refine ez_go (n := 1) (pc' := 25) (L' := [(2, .inl (k)), (0, .inr (.inr (some (723)))), (1, .inr (.inr (some ((T x)))))]) (st' := [.inl (k), .inr (.inr (some (qz_P g ((T x)) 3))), .inr (.inr (some (723)))]) rfl ?_
          have n6 : 0 ≤ qz_N g (qz_P g ((T x)) 3) ∧ qz_N g (qz_P g ((T x)) 3) ≤ 18 := ez_len ha.1 t4 tq_5 rfl
          refine ez_aI ha.1 t4 rfl tq_5 rfl rfl (by omega) (by omega) (fun (b5 : -2147483648 ≤ qz_I g (qz_P g ((T x)) 3) (k).toNat) (b5' : qz_I g (qz_P g ((T x)) 3) (k).toNat ≤ 2147483647) => ?_)
          have hlt : k.toNat < vs.length := by omega
          have hv2 := List.getElem?_eq_getElem hlt
          have hv : qz_I g (qz_P g ((T x)) 3) (k).toNat = vs[k.toNat] := f45 _ _ hv2
          have hmem : vs[k.toNat] ∈ vs := List.getElem_mem hlt
          obtain ⟨bv0, bv1⟩ := hwf _ hmem
          rw [hv]
          generalize vs[k.toNat] = v at *
          refine ez_go (n := 1) (pc' := 27) (L' := [(2, .inl (k)), (0, .inr (.inr (some (723)))), (1, .inr (.inr (some ((T x)))))]) (st' := [.inr (.inr (some ((T x)))), .inl (v), .inr (.inr (some (723)))]) rfl ?_
          refine ez_gI ha.1 tT rfl rfl tq_3 rfl rfl (fun (b7 : 0 ≤ qz_I g ((T x)) 11) (b7' : qz_I g ((T x)) 11 ≤ 20480) => ?_)
          refine ez_go (n := 1) (pc' := 31) (L' := [(2, .inl (k)), (0, .inr (.inr (some (723)))), (1, .inr (.inr (some ((T x)))))]) (st' := [.inl (1), .inl (qz_I g ((T x)) 11), .inl (v), .inr (.inr (some (723)))]) rfl ?_
          rw [hs9]
          refine ez_cv ha.1 t723 rfl rfl rfl tq_55 rfl rfl rfl (rd_poolFull1 hCg bv0 bv1 s0 s1 (by omega) (by omega) (dn_ap ((hC.2.2.2.2 v bv0 bv1).1) t723 t724 (hdn v hmem) ha) (fun g2 w1 w2 => ez_K1 ?_) (fun g2 l2 w1 w2 => ez_K1 ?_))
          · skip
            refine ez_if rfl rfl ⟨by decide, by decide⟩ (fun _ => ?_) (fun (c8 : ¬((1 : Int) ≠ (0))) => absurd c8 (by decide))
            refine ez_go (n := 2) (pc' := 10) (L' := [(2, .inl (k + 1)), (0, .inr (.inr (some (723)))), (1, .inr (.inr (some ((T x)))))]) (st' := []) rfl ?_
            refine ez_less [(2, .inl (k + 1)), (0, .inr (.inr (some (723)))), (1, .inr (.inr (some ((T x)))))] rfl ⟨rfl, rfl, rfl, trivial⟩ ?_
            refine ih (k + 1) g2 (by omega) (by omega) (by omega) ?_ ?_
            · rw [show (k + 1).toNat = k.toNat + 1 by omega, ct_take hv2, List.length_append]; omega
            · rw [show (k + 1).toNat = k.toNat + 1 by omega, ct_take hv2]; exact ha.trans w1
          · skip
            refine ez_if rfl rfl ⟨by decide, by decide⟩ (fun (c9 : (0 : Int) ≠ (0)) => absurd c9 (by decide)) (fun _ => ?_)
            refine ez_go (n := 1) (pc' := 38) (L' := [(2, .inl (k)), (0, .inr (.inr (some (723)))), (1, .inr (.inr (some ((T x)))))]) (st' := [.inl (0)]) rfl ?_
            refine ez_retZ rfl rfl (by decide) (kF g2 w1.1 (ha.trans w1) ?_)
            have := ct_len (f := f) vs (k.toNat + 1)
            rw [ct_take hv2, List.length_append] at this
            omega
theorem rd_close_l0 {x s cp : Int} {vs : List Int} {f : Int → List Int} (hC : pz_C τ h T F E) (x0 : 0 ≤ x) (x1 : x ≤ 1114111) (hdec : (F x).2 = some (cp, vs)) (hwf : ∀ v ∈ vs, 0 ≤ v ∧ v ≤ 1114111) (s0 : 0 ≤ s) (s1 : s ≤ 20440) (u0 : s ≤ qz_I h 723 2) (hs : qz_I h (T x) 9 = s) (hdn : ∀ v ∈ vs, dn h T F false v (f v)) (kF : ∀ g {l2}, ez_B τ g → ap τ h g l2 → s + 40 < qz_I h 723 2 + ((ct f vs).length : Int) → Q (.inl (some (ez_v (.inl 0))), g)) (kx : ∀ g, ap τ h g (ct f vs) → qz_I h 723 2 + ((ct f vs).length : Int) ≤ s + 40 → ez_W (d + 3) cm_113 126 [(0, .inr (.inr (some (723)))), (1, .inr (.inr (some ((T x)))))] [] g Q) : ∀ (n : Nat) (k : Int) (g : cz_H), n = ((vs.length : Int) - k).toNat → 0 ≤ k → k ≤ (vs.length : Int) → qz_I h 723 2 + ((ct f (vs.take k.toNat)).length : Int) ≤ s + 40 → ap τ h g (ct f (vs.take k.toNat)) → ez_W (d + 3) cm_113 91 [(2, .inl (k)), (0, .inr (.inr (some (723)))), (1, .inr (.inr (some ((T x)))))] [] g Q := by
  intro n
  induction n with
  | zero =>
    intro k g hm k0' k1' k2 ha
    have ha4 := ha.2.2.2.1
    have hCg := hC.fr ha.1 (ha.pz hC.2.1)
    have t723 : τ 723 = 55 := hC.2.1 723 (by decide)
    have t724 : τ 724 = 56 := hC.2.1 724 (by decide)
    obtain ⟨tT, -, -, f4⟩ := hCg.2.2.2.2 x x0 x1
    obtain ⟨f40, f41, f42, f43, f44, f45⟩ := f4 cp vs hdec
    have hs9 : qz_I g (T x) 9 = s := by rw [ha.2.1.I (by unfold nz_PP; rw [dz_beq_ne (fun e => by rw [e, t723] at tT; cases tT), dz_beq_ne (fun e => by rw [e, t724] at tT; cases tT)]; rfl)]; exact hs
    refine ez_go (n := 2) (pc' := 93) (L' := [(2, .inl (k)), (0, .inr (.inr (some (723)))), (1, .inr (.inr (some ((T x)))))]) (st' := [.inr (.inr (some ((T x)))), .inl (k)]) rfl ?_
    refine ez_gN ha.1 tT rfl rfl tq_3 rfl rfl (fun (t1 : qz_I g ((T x)) 3 = 0) => ?_) (fun (t1 : _ = 5) (t1' : 1 ≤ qz_I g ((T x)) 3) => ?_)
    · exfalso; omega
    · skip
      refine ez_al ha.1 t1 rfl tq_5 rfl (fun (b2 : 0 ≤ qz_N g (qz_P g ((T x)) 3)) (b2' : qz_N g (qz_P g ((T x)) 3) ≤ 18) => ?_)
      refine ez_icmp rfl rfl ⟨by first | omega | exact (sz_i32 _).1, by first | omega | exact (sz_i32 _).2⟩ ⟨by first | omega | exact (sz_i32 _).1, by first | omega | exact (sz_i32 _).2⟩ (fun (c3 : (qz_N g (qz_P g ((T x)) 3)) ≤ (k)) => ?_) (fun (c3 : ¬((qz_N g (qz_P g ((T x)) 3)) ≤ (k))) => ?_)
      · skip
        refine ez_less [(0, .inr (.inr (some (723)))), (1, .inr (.inr (some ((T x)))))] rfl ⟨rfl, rfl, trivial⟩ ?_
        rw [List.take_of_length_le (by omega)] at ha k2
        exact kx g ha k2
      · exfalso; omega
  | succ n ih =>
    intro k g hm k0' k1' k2 ha
    have ha4 := ha.2.2.2.1
    have hCg := hC.fr ha.1 (ha.pz hC.2.1)
    have t723 : τ 723 = 55 := hC.2.1 723 (by decide)
    have t724 : τ 724 = 56 := hC.2.1 724 (by decide)
    obtain ⟨tT, -, -, f4⟩ := hCg.2.2.2.2 x x0 x1
    obtain ⟨f40, f41, f42, f43, f44, f45⟩ := f4 cp vs hdec
    have hs9 : qz_I g (T x) 9 = s := by rw [ha.2.1.I (by unfold nz_PP; rw [dz_beq_ne (fun e => by rw [e, t723] at tT; cases tT), dz_beq_ne (fun e => by rw [e, t724] at tT; cases tT)]; rfl)]; exact hs
    refine ez_go (n := 2) (pc' := 93) (L' := [(2, .inl (k)), (0, .inr (.inr (some (723)))), (1, .inr (.inr (some ((T x)))))]) (st' := [.inr (.inr (some ((T x)))), .inl (k)]) rfl ?_
    refine ez_gN ha.1 tT rfl rfl tq_3 rfl rfl (fun (t1 : qz_I g ((T x)) 3 = 0) => ?_) (fun (t1 : _ = 5) (t1' : 1 ≤ qz_I g ((T x)) 3) => ?_)
    · exfalso; omega
    · skip
      refine ez_al ha.1 t1 rfl tq_5 rfl (fun (b2 : 0 ≤ qz_N g (qz_P g ((T x)) 3)) (b2' : qz_N g (qz_P g ((T x)) 3) ≤ 18) => ?_)
      refine ez_icmp rfl rfl ⟨by first | omega | exact (sz_i32 _).1, by first | omega | exact (sz_i32 _).2⟩ ⟨by first | omega | exact (sz_i32 _).1, by first | omega | exact (sz_i32 _).2⟩ (fun (c3 : (qz_N g (qz_P g ((T x)) 3)) ≤ (k)) => ?_) (fun (c3 : ¬((qz_N g (qz_P g ((T x)) 3)) ≤ (k))) => ?_)
      · exfalso; omega
      · skip
        refine ez_go (n := 2) (pc' := 102) (L' := [(2, .inl (k)), (0, .inr (.inr (some (723)))), (1, .inr (.inr (some ((T x)))))]) (st' := [.inr (.inr (some ((T x)))), .inr (.inr (some (723)))]) rfl ?_
        refine ez_gN ha.1 tT rfl rfl tq_3 rfl rfl (fun (t4 : qz_I g ((T x)) 3 = 0) => ?_) (fun (t4 : _ = 5) (t4' : 1 ≤ qz_I g ((T x)) 3) => ?_)
        · exfalso; omega
        · skip
          refine ez_go (n := 1) (pc' := 106) (L' := [(2, .inl (k)), (0, .inr (.inr (some (723)))), (1, .inr (.inr (some ((T x)))))]) (st' := [.inl (k), .inr (.inr (some (qz_P g ((T x)) 3))), .inr (.inr (some (723)))]) rfl ?_
          have n6 : 0 ≤ qz_N g (qz_P g ((T x)) 3) ∧ qz_N g (qz_P g ((T x)) 3) ≤ 18 := ez_len ha.1 t4 tq_5 rfl
          refine ez_aI ha.1 t4 rfl tq_5 rfl rfl (by omega) (by omega) (fun (b5 : -2147483648 ≤ qz_I g (qz_P g ((T x)) 3) (k).toNat) (b5' : qz_I g (qz_P g ((T x)) 3) (k).toNat ≤ 2147483647) => ?_)
          have hlt : k.toNat < vs.length := by omega
          have hv2 := List.getElem?_eq_getElem hlt
          have hv : qz_I g (qz_P g ((T x)) 3) (k).toNat = vs[k.toNat] := f45 _ _ hv2
          have hmem : vs[k.toNat] ∈ vs := List.getElem_mem hlt
          obtain ⟨bv0, bv1⟩ := hwf _ hmem
          rw [hv]
          generalize vs[k.toNat] = v at *
          refine ez_go (n := 1) (pc' := 108) (L' := [(2, .inl (k)), (0, .inr (.inr (some (723)))), (1, .inr (.inr (some ((T x)))))]) (st' := [.inr (.inr (some ((T x)))), .inl (v), .inr (.inr (some (723)))]) rfl ?_
          refine ez_gI ha.1 tT rfl rfl tq_3 rfl rfl (fun (b7 : 0 ≤ qz_I g ((T x)) 9) (b7' : qz_I g ((T x)) 9 ≤ 20480) => ?_)
          refine ez_go (n := 1) (pc' := 112) (L' := [(2, .inl (k)), (0, .inr (.inr (some (723)))), (1, .inr (.inr (some ((T x)))))]) (st' := [.inl (0), .inl (qz_I g ((T x)) 9), .inl (v), .inr (.inr (some (723)))]) rfl ?_
          rw [hs9]
          refine ez_cv ha.1 t723 rfl rfl rfl tq_55 rfl rfl rfl (rd_poolFull0 hCg bv0 bv1 s0 s1 (by omega) (by omega) (dn_ap ((hC.2.2.2.2 v bv0 bv1).1) t723 t724 (hdn v hmem) ha) (fun g2 w1 w2 => ez_K1 ?_) (fun g2 l2 w1 w2 => ez_K1 ?_))
          · skip
            refine ez_if rfl rfl ⟨by decide, by decide⟩ (fun _ => ?_) (fun (c8 : ¬((1 : Int) ≠ (0))) => absurd c8 (by decide))
            refine ez_go (n := 2) (pc' := 91) (L' := [(2, .inl (k + 1)), (0, .inr (.inr (some (723)))), (1, .inr (.inr (some ((T x)))))]) (st' := []) rfl ?_
            refine ez_less [(2, .inl (k + 1)), (0, .inr (.inr (some (723)))), (1, .inr (.inr (some ((T x)))))] rfl ⟨rfl, rfl, rfl, trivial⟩ ?_
            refine ih (k + 1) g2 (by omega) (by omega) (by omega) ?_ ?_
            · rw [show (k + 1).toNat = k.toNat + 1 by omega, ct_take hv2, List.length_append]; omega
            · rw [show (k + 1).toNat = k.toNat + 1 by omega, ct_take hv2]; exact ha.trans w1
          · skip
            refine ez_if rfl rfl ⟨by decide, by decide⟩ (fun (c9 : (0 : Int) ≠ (0)) => absurd c9 (by decide)) (fun _ => ?_)
            refine ez_go (n := 1) (pc' := 119) (L' := [(2, .inl (k)), (0, .inr (.inr (some (723)))), (1, .inr (.inr (some ((T x)))))]) (st' := [.inl (0)]) rfl ?_
            refine ez_retZ rfl rfl (by decide) (kF g2 w1.1 (ha.trans w1) ?_)
            have := ct_len (f := f) vs (k.toNat + 1)
            rw [ct_take hv2, List.length_append] at this
            omega
end EzCl
/-! The class: close, all of it. (Written by wip/p2/py/pv30.py.) -/
theorem sg_one {g g2 : cz_H} {q r : Nat} {c : Bool} {l : List Int} (h : sg g q c l) (hf : ez_fr (ez_one r) g g2) (h1 : q ≠ r) (h2 : r ≠ 723) (h3 : r ≠ 724) : sg g2 q c l := by
  obtain ⟨a1, a2, a3, a4⟩ := h
  have f1 : ∀ j, qz_I g2 q j = qz_I g q j := fun j => hf.I (dz_beq_ne h1) j
  have f2 : ∀ j, qz_I g2 723 j = qz_I g 723 j := fun j => hf.I (dz_beq_ne (Ne.symm h2)) j
  have f3 : ∀ j, qz_I g2 724 j = qz_I g 724 j := fun j => hf.I (dz_beq_ne (Ne.symm h3)) j
  exact ⟨by rw [f1]; exact a1, by rw [f1]; exact a2, by rw [f1, f2]; exact a3, fun j v hj => by rw [f1, f3]; exact a4 j v hj⟩
theorem dn_one {T : Int → Nat} {F : rz_W} {g g2 : cz_H} {r : Nat} {c : Bool} {v : Int} {l : List Int} (h : dn g T F c v l) (hf : ez_fr (ez_one r) g g2) (h1 : ¬ hz v → (F v).2 ≠ none → T v ≠ r) (h2 : r ≠ 723) (h3 : r ≠ 724) : dn g2 T F c v l := by
  rcases h with h | h | ⟨a1, a2, a3⟩
  · exact Or.inl h
  · exact Or.inr (Or.inl h)
  · exact Or.inr (Or.inr ⟨a1, a2, sg_one a3 hf (h1 a1 a2) h2 h3⟩)
section EzCm
variable {d : Nat} {h : cz_H} {τ : Nat → Nat} {Q : cz_F → Prop} {T : Int → Nat} {F : rz_W} {E : Int → Prop}
theorem rd_close_c {x : Int} (hB : ez_B τ h) (t723 : τ 723 = 55) (tT : τ (T x) = 3) (hl : qz_I h (T x) 9 ≤ qz_I h 723 2) (k : ∀ g, ez_B τ g → ez_fr (ez_one (T x)) h g → qz_I g (T x) 10 = qz_I h 723 2 - qz_I h (T x) 9 → qz_I g (T x) 8 = 2 → (∀ j, j ≠ 10 → j ≠ 8 → qz_I g (T x) j = qz_I h (T x) j) → Q (.inl (some (ez_v (.inl 1))), g)) : ez_W (d + 3) cm_113 126 [(0, .inr (.inr (some (723)))), (1, .inr (.inr (some ((T x)))))] [] h Q := by
  refine ez_go (n := 2) (pc' := 128) (L' := [(0, .inr (.inr (some (723)))), (1, .inr (.inr (some ((T x)))))]) (st' := [.inr (.inr (some (723))), .inr (.inr (some ((T x))))]) rfl ?_
  refine ez_gI hB t723 rfl rfl tq_55 rfl rfl (fun (b1 : 0 ≤ qz_I h 723 2) (b1' : qz_I h 723 2 ≤ 20480) => ?_)
  refine ez_go (n := 1) (pc' := 132) (L' := [(0, .inr (.inr (some (723)))), (1, .inr (.inr (some ((T x)))))]) (st' := [.inr (.inr (some ((T x)))), .inl (qz_I h 723 2), .inr (.inr (some ((T x))))]) rfl ?_
  refine ez_gI hB tT rfl rfl tq_3 rfl rfl (fun (b2 : 0 ≤ qz_I h ((T x)) 9) (b2' : qz_I h ((T x)) 9 ≤ 20480) => ?_)
  refine ez_go (n := 1) (pc' := 136) (L' := [(0, .inr (.inr (some (723)))), (1, .inr (.inr (some ((T x)))))]) (st' := [.inl ((qz_I h 723 2) - (qz_I h ((T x)) 9)), .inr (.inr (some ((T x))))]) rfl ?_
  refine ez_pf hB tT rfl rfl tq_3 rfl rfl rfl rfl (ez_vdI rfl rfl (by omega) (by omega)) (fun hB3 w4 => ?_)
  refine ez_go (n := 2) (pc' := 141) (L' := [(0, .inr (.inr (some (723)))), (1, .inr (.inr (some ((T x)))))]) (st' := [.inl (2), .inr (.inr (some ((T x))))]) rfl ?_
  refine ez_pf hB3 tT rfl rfl tq_3 rfl rfl rfl rfl (ez_vdI rfl rfl (by omega) (by omega)) (fun hB5 w6 => ?_)
  refine ez_go (n := 1) (pc' := 145) (L' := [(0, .inr (.inr (some (723)))), (1, .inr (.inr (some ((T x)))))]) (st' := [.inl (1)]) rfl ?_
  exact ez_retZ rfl rfl (by decide) (k _ hB5 (((ez_fr.refl (ez_one (T x)) h).put (show Nat.beq (T x) (T x) = true from Nat.beq_refl _) _ _).put (show Nat.beq (T x) (T x) = true from Nat.beq_refl _) _ _) (by rw [ez_put_I (by omega), w4, rz_rd ⟨by omega, by omega⟩]) (by rw [w6]; rfl) (fun j j1 j2 => by rw [ez_put_I (by omega), ez_put_I (by omega)]))

theorem rd_close_b {x : Int} (hB : ez_B τ h) (t723 : τ 723 = 55) (t724 : τ 724 = 56) (tT : τ (T x) = 3) (x0 : 0 ≤ x) (x1 : x ≤ 1114111) (hx0 : qz_I h (T x) 0 = x) (hl : 0 ≤ qz_I h (T x) 11) (hl2 : qz_I h (T x) 11 ≤ qz_I h 723 2) (hu : qz_I h 723 2 ≤ 20440) (kA : qz_I h (T x) 4 ≠ 0 → ∀ g g2, ez_B τ g → ez_fr (ez_one (T x)) h g → qz_I g (T x) 12 = qz_I h 723 2 - qz_I h (T x) 11 → qz_I g (T x) 9 = qz_I h 723 2 → (∀ j, j ≠ 12 → j ≠ 9 → qz_I g (T x) j = qz_I h (T x) j) → ap τ g g2 [x] → ez_W (d + 3) cm_113 126 [(0, .inr (.inr (some (723)))), (1, .inr (.inr (some ((T x)))))] [] g2 Q) (kB : qz_I h (T x) 4 = 0 → ∀ g, ez_B τ g → ez_fr (ez_one (T x)) h g → qz_I g (T x) 12 = qz_I h 723 2 - qz_I h (T x) 11 → qz_I g (T x) 9 = qz_I h 723 2 → (∀ j, j ≠ 12 → j ≠ 9 → qz_I g (T x) j = qz_I h (T x) j) → ez_W (d + 3) cm_113 91 [(2, .inl (0)), (0, .inr (.inr (some (723)))), (1, .inr (.inr (some ((T x)))))] [] g Q) : ez_W (d + 3) cm_113 45 [(0, .inr (.inr (some (723)))), (1, .inr (.inr (some ((T x)))))] [] h Q := by
  refine ez_go (n := 2) (pc' := 47) (L' := [(0, .inr (.inr (some (723)))), (1, .inr (.inr (some ((T x)))))]) (st' := [.inr (.inr (some (723))), .inr (.inr (some ((T x))))]) rfl ?_
  refine ez_gI hB t723 rfl rfl tq_55 rfl rfl (fun (b1 : 0 ≤ qz_I h 723 2) (b1' : qz_I h 723 2 ≤ 20480) => ?_)
  refine ez_go (n := 1) (pc' := 51) (L' := [(0, .inr (.inr (some (723)))), (1, .inr (.inr (some ((T x)))))]) (st' := [.inr (.inr (some ((T x)))), .inl (qz_I h 723 2), .inr (.inr (some ((T x))))]) rfl ?_
  refine ez_gI hB tT rfl rfl tq_3 rfl rfl (fun (b2 : 0 ≤ qz_I h ((T x)) 11) (b2' : qz_I h ((T x)) 11 ≤ 20480) => ?_)
  refine ez_go (n := 1) (pc' := 55) (L' := [(0, .inr (.inr (some (723)))), (1, .inr (.inr (some ((T x)))))]) (st' := [.inl ((qz_I h 723 2) - (qz_I h ((T x)) 11)), .inr (.inr (some ((T x))))]) rfl ?_
  refine ez_pf hB tT rfl rfl tq_3 rfl rfl rfl rfl (ez_vdI rfl rfl (by omega) (by omega)) (fun hB3 w4 => ?_)
  refine ez_go (n := 2) (pc' := 60) (L' := [(0, .inr (.inr (some (723)))), (1, .inr (.inr (some ((T x)))))]) (st' := [.inr (.inr (some (723))), .inr (.inr (some ((T x))))]) rfl ?_
  refine ez_gI hB3 t723 rfl rfl tq_55 rfl rfl (fun (b5 : 0 ≤ qz_I (dz_put h ((T x)) 12 (ez_v (.inl ((qz_I h 723 2) - (qz_I h ((T x)) 11))))) 723 2) (b5' : qz_I (dz_put h ((T x)) 12 (ez_v (.inl ((qz_I h 723 2) - (qz_I h ((T x)) 11))))) 723 2 ≤ 20480) => ?_)
  refine ez_pf hB3 tT rfl rfl tq_3 rfl rfl rfl rfl (ez_vdI rfl rfl (by omega) (by omega)) (fun hB6 w7 => ?_)
  refine ez_go (n := 1) (pc' := 67) (L' := [(0, .inr (.inr (some (723)))), (1, .inr (.inr (some ((T x)))))]) (st' := [.inr (.inr (some ((T x))))]) rfl ?_
  refine ez_gI hB6 tT rfl rfl tq_3 rfl rfl (fun (b8 : 0 ≤ qz_I (dz_put (dz_put h ((T x)) 12 (ez_v (.inl ((qz_I h 723 2) - (qz_I h ((T x)) 11))))) ((T x)) 9 (ez_v (.inl (qz_I (dz_put h ((T x)) 12 (ez_v (.inl ((qz_I h 723 2) - (qz_I h ((T x)) 11))))) 723 2)))) ((T x)) 4) (b8' : qz_I (dz_put (dz_put h ((T x)) 12 (ez_v (.inl ((qz_I h 723 2) - (qz_I h ((T x)) 11))))) ((T x)) 9 (ez_v (.inl (qz_I (dz_put h ((T x)) 12 (ez_v (.inl ((qz_I h 723 2) - (qz_I h ((T x)) 11))))) 723 2)))) ((T x)) 4 ≤ 1) => ?_)
  have g9 : ez_fr (ez_one (T x)) h (dz_put (dz_put h ((T x)) 12 (ez_v (.inl ((qz_I h 723 2) - (qz_I h ((T x)) 11))))) ((T x)) 9 (ez_v (.inl (qz_I (dz_put h ((T x)) 12 (ez_v (.inl ((qz_I h 723 2) - (qz_I h ((T x)) 11))))) 723 2)))) := ((ez_fr.refl (ez_one (T x)) h).put (show Nat.beq (T x) (T x) = true from Nat.beq_refl _) _ _).put (show Nat.beq (T x) (T x) = true from Nat.beq_refl _) _ _
  have n723 : T x ≠ 723 := fun e => by rw [e, t723] at tT; cases tT
  have e12 : qz_I (dz_put (dz_put h ((T x)) 12 (ez_v (.inl ((qz_I h 723 2) - (qz_I h ((T x)) 11))))) ((T x)) 9 (ez_v (.inl (qz_I (dz_put h ((T x)) 12 (ez_v (.inl ((qz_I h 723 2) - (qz_I h ((T x)) 11))))) 723 2)))) (T x) 12 = qz_I h 723 2 - qz_I h (T x) 11 := by rw [ez_put_I (by omega), w4, rz_rd ⟨by omega, by omega⟩]
  have e9 : qz_I (dz_put (dz_put h ((T x)) 12 (ez_v (.inl ((qz_I h 723 2) - (qz_I h ((T x)) 11))))) ((T x)) 9 (ez_v (.inl (qz_I (dz_put h ((T x)) 12 (ez_v (.inl ((qz_I h 723 2) - (qz_I h ((T x)) 11))))) 723 2)))) (T x) 9 = qz_I h 723 2 := by rw [w7, rz_rd ⟨by omega, by omega⟩, ez_put_I (by omega)]
  have ej : ∀ j, j ≠ 12 → j ≠ 9 → qz_I (dz_put (dz_put h ((T x)) 12 (ez_v (.inl ((qz_I h 723 2) - (qz_I h ((T x)) 11))))) ((T x)) 9 (ez_v (.inl (qz_I (dz_put h ((T x)) 12 (ez_v (.inl ((qz_I h 723 2) - (qz_I h ((T x)) 11))))) 723 2)))) (T x) j = qz_I h (T x) j := fun j j1 j2 => by rw [ez_put_I (by omega), ez_put_I (by omega)]
  have eu : qz_I (dz_put (dz_put h ((T x)) 12 (ez_v (.inl ((qz_I h 723 2) - (qz_I h ((T x)) 11))))) ((T x)) 9 (ez_v (.inl (qz_I (dz_put h ((T x)) 12 (ez_v (.inl ((qz_I h 723 2) - (qz_I h ((T x)) 11))))) 723 2)))) 723 2 = qz_I h 723 2 := g9.I (dz_beq_ne (Ne.symm n723)) 2
  generalize (dz_put (dz_put h ((T x)) 12 (ez_v (.inl ((qz_I h 723 2) - (qz_I h ((T x)) 11))))) ((T x)) 9 (ez_v (.inl (qz_I (dz_put h ((T x)) 12 (ez_v (.inl ((qz_I h 723 2) - (qz_I h ((T x)) 11))))) 723 2)))) = g at *
  refine ez_if rfl rfl ⟨by first | omega | exact (sz_i32 _).1, by first | omega | exact (sz_i32 _).2⟩ (fun (c9 : (qz_I g (T x) 4) = (0)) => ?_) (fun (c9 : ¬((qz_I g (T x) 4) = (0))) => ?_)
  · skip
    refine ez_go (n := 2) (pc' := 91) (L' := [(2, .inl (0)), (0, .inr (.inr (some (723)))), (1, .inr (.inr (some ((T x)))))]) (st' := []) rfl ?_
    refine ez_less [(2, .inl (0)), (0, .inr (.inr (some (723)))), (1, .inr (.inr (some ((T x)))))] rfl ⟨rfl, rfl, rfl, trivial⟩ ?_
    exact kB (by rw [← ej 4 (by decide) (by decide)]; omega) g hB6 g9 e12 e9 ej
  · skip
    refine ez_go (n := 2) (pc' := 75) (L' := [(0, .inr (.inr (some (723)))), (1, .inr (.inr (some ((T x)))))]) (st' := [.inr (.inr (some ((T x)))), .inr (.inr (some (723)))]) rfl ?_
    refine ez_gI hB6 tT rfl rfl tq_3 rfl rfl (fun (b10 : -2147483648 ≤ qz_I g ((T x)) 0) (b10' : qz_I g ((T x)) 0 ≤ 2147483647) => ?_)
    refine ez_go (n := 1) (pc' := 79) (L' := [(0, .inr (.inr (some (723)))), (1, .inr (.inr (some ((T x)))))]) (st' := [.inr (.inr (some ((T x)))), .inl (qz_I g ((T x)) 0), .inr (.inr (some (723)))]) rfl ?_
    refine ez_gI hB6 tT rfl rfl tq_3 rfl rfl (fun (b11 : 0 ≤ qz_I g ((T x)) 9) (b11' : qz_I g ((T x)) 9 ≤ 20480) => ?_)
    have fst : qz_I g (T x) 0 = x := by rw [ej 0 (by decide) (by decide)]; exact hx0
    rw [fst, e9]
    refine ez_cv hB6 t723 rfl rfl rfl tq_55 rfl rfl rfl (rd_poolPoint hB6 t723 (by omega) (by omega) (by omega) (by omega) (by omega) (by omega) (fun w => by omega) (fun w g2 ha => ez_K1 ?_))
    refine ez_go (n := 2) (pc' := 126) (L' := [(0, .inr (.inr (some (723)))), (1, .inr (.inr (some ((T x)))))]) (st' := []) rfl ?_
    refine ez_less [(0, .inr (.inr (some (723)))), (1, .inr (.inr (some ((T x)))))] rfl ⟨rfl, rfl, trivial⟩ ?_
    exact kA (by rw [← ej 4 (by decide) (by decide)]; omega) g g2 hB6 g9 e12 e9 ej ha

theorem rd_close_a {x : Int} (hB : ez_B τ h) (t723 : τ 723 = 55) (tT : τ (T x) = 3) (k : ∀ g, ez_B τ g → ez_fr (ez_one (T x)) h g → qz_I g (T x) 11 = qz_I h 723 2 → (∀ j, j ≠ 11 → qz_I g (T x) j = qz_I h (T x) j) → ez_W (d + 3) cm_113 10 [(2, .inl (0)), (0, .inr (.inr (some (723)))), (1, .inr (.inr (some ((T x)))))] [] g Q) : ez_W (d + 3) cm_113 0 [(0, .inr (.inr (some (723)))), (1, .inr (.inr (some ((T x)))))] [] h Q := by
  refine ez_go (n := 2) (pc' := 2) (L' := [(0, .inr (.inr (some (723)))), (1, .inr (.inr (some ((T x)))))]) (st' := [.inr (.inr (some (723))), .inr (.inr (some ((T x))))]) rfl ?_
  refine ez_gI hB t723 rfl rfl tq_55 rfl rfl (fun (b1 : 0 ≤ qz_I h 723 2) (b1' : qz_I h 723 2 ≤ 20480) => ?_)
  refine ez_pf hB tT rfl rfl tq_3 rfl rfl rfl rfl (ez_vdI rfl rfl (by omega) (by omega)) (fun hB2 w3 => ?_)
  refine ez_go (n := 2) (pc' := 10) (L' := [(2, .inl (0)), (0, .inr (.inr (some (723)))), (1, .inr (.inr (some ((T x)))))]) (st' := []) rfl ?_
  refine ez_less [(2, .inl (0)), (0, .inr (.inr (some (723)))), (1, .inr (.inr (some ((T x)))))] rfl ⟨rfl, rfl, rfl, trivial⟩ ?_
  exact k _ hB2 ((ez_fr.refl (ez_one (T x)) h).put (show Nat.beq (T x) (T x) = true from Nat.beq_refl _) _ _) (by rw [w3, rz_rd ⟨by omega, by omega⟩]) (fun j hj => ez_put_I (fun w => hj w.2))

theorem pz_one {r : Nat} {g : cz_H} (tr : τ r = 3) (hf : ez_fr (ez_one r) h g) (h8 : ∀ j, j < 8 → qz_I g r j = qz_I h r j) : pz τ h g :=
  ⟨⟨hf.1, hf.2.1⟩, fun q q1 _ => hf.2.2 q (dz_beq_ne (fun e => by rw [e] at q1; exact q1 tr)), fun q _ j j8 => by
    by_cases e : q = r
    · rw [e]; exact h8 j j8
    · exact hf.I (dz_beq_ne e) j⟩
/-- the pool up to what is used -/
def pl_same (h g : cz_H) : Prop := ∀ j : Int, 0 ≤ j → j < qz_I h 723 2 → qz_I g 724 j.toNat = qz_I h 724 j.toNat
theorem pl_ap {g g2 : cz_H} {l : List Int} (x : ap τ g g2 l) : pl_same g g2 := fun j j0 j1 => by rw [x.2.2.2.2 j j0, if_neg (by omega)]
theorem nz_PR_one {r : Nat} {g : cz_H} (hf : ez_fr (ez_one r) h g) : ez_fr (nz_PR r) h g := ⟨hf.1, hf.2.1, fun q hq => hf.2.2 q (by unfold nz_PR at hq; exact (Bool.or_eq_false_iff.mp hq).1)⟩
theorem rd_close {x cp : Int} {vs l2 : List Int} {f1 f2 : Int → List Int} (hC : pz_C τ h T F E) (x0 : 0 ≤ x) (x1 : x ≤ 1114111) (hdec : (F x).2 = some (cp, vs)) (hwf : ∀ v ∈ vs, 0 ≤ v ∧ v ≤ 1114111) (hcp : cp = 0 ∨ cp = 1) (hu : qz_I h 723 2 ≤ 20400) (hd1 : ∀ v ∈ vs, dn h T F true v (f1 v)) (hd2 : ∀ v ∈ vs, dn h T F false v (f2 v)) (hne : ∀ v ∈ vs, ¬ hz v → (F v).2 ≠ none → T v ≠ T x) (hl2 : l2 = if cp = 1 then [x] else ct f2 vs) (k1 : ∀ g, ez_B τ g → ez_fr (nz_PR (T x)) h g → (∀ j, j < 8 → qz_I g (T x) j = qz_I h (T x) j) → (∀ j, j ≠ 2 → qz_I g 723 j = qz_I h 723 j) → pl_same h g → qz_I g 723 2 = qz_I h 723 2 + ((ct f1 vs).length : Int) + (l2.length : Int) → sg g (T x) true (ct f1 vs) → sg g (T x) false l2 → qz_I g (T x) 8 = 2 → (ct f1 vs).length ≤ 40 → l2.length ≤ 40 → Q (.inl (some (ez_v (.inl 1))), g)) (k0 : 40 < (ct f1 vs).length ∨ (cp = 0 ∧ 40 < l2.length) → ∀ g, ez_B τ g → pz τ h g → Q (.inl (some (ez_v (.inl 0))), g)) : ez_W (d + 3) cm_113 0 [(0, .inr (.inr (some (723)))), (1, .inr (.inr (some ((T x)))))] [] h Q := by
  have t723 : τ 723 = 55 := hC.2.1 723 (by decide)
  have t724 : τ 724 = 56 := hC.2.1 724 (by decide)
  obtain ⟨tT, -, -, f4⟩ := hC.2.2.2.2 x x0 x1
  obtain ⟨q0, q4, -⟩ := f4 cp vs hdec
  have n723 : T x ≠ 723 := fun e => by rw [e, t723] at tT; cases tT
  have n724 : T x ≠ 724 := fun e => by rw [e, t724] at tT; cases tT
  have b2 : 0 ≤ qz_I h 723 2 ∧ qz_I h 723 2 ≤ 20480 := ez_fB (cl := 6) hC.1 t723 tq_55 rfl rfl (by decide)
  refine rd_close_a hC.1 t723 tT (fun ga hBa fa ea ja => ?_)
  have ua : qz_I ga 723 2 = qz_I h 723 2 := fa.I (dz_beq_ne (Ne.symm n723)) 2
  have pza : pz τ h ga := pz_one tT fa (fun j j8 => ja j (by omega))
  have hCa := hC.fr hBa pza
  have ppq : nz_PP (T x) = false := by unfold nz_PP; rw [dz_beq_ne n723, dz_beq_ne n724]; rfl
  refine rd_close_l1 hCa x0 x1 hdec hwf (s := qz_I h 723 2) (f := f1) (by omega) (by omega) (by omega) ea (fun v hv => dn_one (hd1 v hv) fa (hne v hv) n723 n724) (fun g l2 hBg hap hlt => ?_) (fun gb apb hb => ?_) _ 0 ga rfl (by omega) (by omega) (by show qz_I ga 723 2 + (((ct f1 ([] : List Int)).length : Nat) : Int) ≤ _; simp only [ct, List.length_nil]; omega) (by show ap τ ga ga (ct f1 (vs.take 0)); rw [List.take_zero]; exact ap.nil hBa)
  · exact k0 (Or.inl (by omega)) g hBg (pza.trans (hap.pz hC.2.1))
  have hCb := hCa.fr apb.1 (apb.pz hC.2.1)
  have ub := apb.2.2.2.1
  have jb : ∀ j, qz_I gb (T x) j = qz_I ga (T x) j := fun j => apb.2.1.I ppq j
  have pzb : pz τ h gb := pza.trans (apb.pz hC.2.1)
  have frb : ez_fr (nz_PR (T x)) h gb := (nz_PR_one fa).trans (nz_PR_ap apb)
  have plb : pl_same h gb := fun j j0 j1 => by rw [pl_ap apb j j0 (by omega)]; exact fa.I (dz_beq_ne (Ne.symm n724)) _
  refine rd_close_b hCb.1 t723 t724 tT x0 x1 (by rw [jb, ja 0 (by decide)]; exact q0) (by rw [jb, ea]; omega) (by rw [jb, ea]; omega) (by omega) (fun hc4 gc gd hBc fc e12 e9 jc apd => ?_) (fun hc4 gc hBc fc e12 e9 jc => ?_)
  · have hc1 : cp = 1 := by rw [jb, ja 4 (by decide), q4] at hc4; omega
    rw [if_pos hc1] at hl2
    have uc : qz_I gc 723 2 = qz_I gb 723 2 := fc.I (dz_beq_ne (Ne.symm n723)) 2
    have ud := apd.2.2.2.1
    have jd : ∀ j, qz_I gd (T x) j = qz_I gc (T x) j := fun j => apd.2.1.I ppq j
    refine rd_close_c apd.1 t723 tT (by rw [jd, e9]; omega) (fun g hBg fg e10 e8 jg => ?_)
    have ug : qz_I g 723 2 = qz_I gd 723 2 := fg.I (dz_beq_ne (Ne.symm n723)) 2
    have pg : ∀ j, qz_I g 724 j = qz_I gd 724 j := fun j => fg.I (dz_beq_ne (Ne.symm n724)) j
    have pc : ∀ j, qz_I gc 724 j = qz_I gb 724 j := fun j => fc.I (dz_beq_ne (Ne.symm n724)) j
    refine k1 g hBg (((frb.trans (nz_PR_one fc)).trans (nz_PR_ap apd)).trans (nz_PR_one fg)) (fun j j8 => by rw [jg j (by omega) (by omega), jd, jc j (by omega) (by omega), jb, ja j (by omega)]) (fun j hj => by rw [fg.I (dz_beq_ne (Ne.symm n723)) j, apd.2.2.1 j hj, fc.I (dz_beq_ne (Ne.symm n723)) j, apb.2.2.1 j hj, fa.I (dz_beq_ne (Ne.symm n723)) j]) (fun j j0 j1 => by rw [pg, pl_ap apd j j0 (by omega), pc, plb j j0 j1]) (by rw [ug, ud, uc, ub, ua, hl2]) ⟨?_, ?_, ?_, ?_⟩ ⟨?_, ?_, ?_, ?_⟩ e8 (by omega) (by rw [hl2]; simp only [List.length_singleton]; omega)
    · show qz_I g (T x) 12 = _; rw [jg 12 (by decide) (by decide), jd, e12, jb, ea]; omega
    · show 0 ≤ qz_I g (T x) 11; rw [jg 11 (by decide) (by decide), jd, jc 11 (by decide) (by decide), jb, ea]; omega
    · show qz_I g (T x) 11 + _ ≤ _; rw [jg 11 (by decide) (by decide), jd, jc 11 (by decide) (by decide), jb, ea, ug, ud, uc, ub]; omega
    · intro j v hj
      have hjl := (List.getElem?_eq_some_iff.mp hj).1
      show qz_I g 724 (qz_I g (T x) 11 + (j : Int)).toNat = v
      rw [jg 11 (by decide) (by decide), jd, jc 11 (by decide) (by decide), jb, ea, pg, pl_ap apd _ (by omega) (by omega), pc, apb.2.2.2.2 _ (by omega), if_pos (by omega), ua, show (qz_I h 723 2 + (j : Int) - qz_I h 723 2).toNat = j by omega, List.getD_eq_getElem?_getD, hj]
      rfl
    · show qz_I g (T x) 10 = _; rw [e10, jd, e9, ud, uc, hl2]; omega
    · show 0 ≤ qz_I g (T x) 9; rw [jg 9 (by decide) (by decide), jd, e9]; omega
    · show qz_I g (T x) 9 + _ ≤ _; rw [jg 9 (by decide) (by decide), jd, e9, ug, ud, uc, hl2]; omega
    · intro j v hj
      rw [hl2] at hj
      have hjl := (List.getElem?_eq_some_iff.mp hj).1
      show qz_I g 724 (qz_I g (T x) 9 + (j : Int)).toNat = v
      rw [jg 9 (by decide) (by decide), jd, e9, pg, apd.2.2.2.2 _ (by omega), if_pos (by omega), uc, show (qz_I gb 723 2 + (j : Int) - qz_I gb 723 2).toNat = j by omega, List.getD_eq_getElem?_getD, hj]
      rfl
  · have hc0 : cp = 0 := by rw [jb, ja 4 (by decide), q4] at hc4; omega
    rw [if_neg (by omega)] at hl2
    have uc : qz_I gc 723 2 = qz_I gb 723 2 := fc.I (dz_beq_ne (Ne.symm n723)) 2
    have pzc : pz τ gb gc := pz_one tT fc (fun j j8 => jc j (by omega) (by omega))
    have hCc := hCb.fr hBc pzc
    refine rd_close_l0 hCc x0 x1 hdec hwf (s := qz_I gb 723 2) (f := f2) (by omega) (by omega) (by omega) e9 (fun v hv => dn_one (dn_ap (hC.2.2.2.2 v (hwf v hv).1 (hwf v hv).2).1 t723 t724 (dn_one (hd2 v hv) fa (hne v hv) n723 n724) apb) fc (hne v hv) n723 n724) (fun g l2' hBg hap hlt => ?_) (fun gd apd hdl => ?_) _ 0 gc rfl (by omega) (by omega) (by show qz_I gc 723 2 + (((ct f2 ([] : List Int)).length : Nat) : Int) ≤ _; simp only [ct, List.length_nil]; omega) (by show ap τ gc gc (ct f2 (vs.take 0)); rw [List.take_zero]; exact ap.nil hBc)
    · exact k0 (Or.inr ⟨hc0, by rw [hl2]; omega⟩) g hBg ((pzb.trans pzc).trans (hap.pz hC.2.1))
    have ud := apd.2.2.2.1
    have jd : ∀ j, qz_I gd (T x) j = qz_I gc (T x) j := fun j => apd.2.1.I ppq j
    refine rd_close_c apd.1 t723 tT (by rw [jd, e9]; omega) (fun g hBg fg e10 e8 jg => ?_)
    have ug : qz_I g 723 2 = qz_I gd 723 2 := fg.I (dz_beq_ne (Ne.symm n723)) 2
    have pg : ∀ j, qz_I g 724 j = qz_I gd 724 j := fun j => fg.I (dz_beq_ne (Ne.symm n724)) j
    have pc : ∀ j, qz_I gc 724 j = qz_I gb 724 j := fun j => fc.I (dz_beq_ne (Ne.symm n724)) j
    refine k1 g hBg (((frb.trans (nz_PR_one fc)).trans (nz_PR_ap apd)).trans (nz_PR_one fg)) (fun j j8 => by rw [jg j (by omega) (by omega), jd, jc j (by omega) (by omega), jb, ja j (by omega)]) (fun j hj => by rw [fg.I (dz_beq_ne (Ne.symm n723)) j, apd.2.2.1 j hj, fc.I (dz_beq_ne (Ne.symm n723)) j, apb.2.2.1 j hj, fa.I (dz_beq_ne (Ne.symm n723)) j]) (fun j j0 j1 => by rw [pg, pl_ap apd j j0 (by omega), pc, plb j j0 j1]) (by rw [ug, ud, uc, ub, ua, hl2]) ⟨?_, ?_, ?_, ?_⟩ ⟨?_, ?_, ?_, ?_⟩ e8 (by omega) (by rw [hl2]; omega)
    · show qz_I g (T x) 12 = _; rw [jg 12 (by decide) (by decide), jd, e12, jb, ea]; omega
    · show 0 ≤ qz_I g (T x) 11; rw [jg 11 (by decide) (by decide), jd, jc 11 (by decide) (by decide), jb, ea]; omega
    · show qz_I g (T x) 11 + _ ≤ _; rw [jg 11 (by decide) (by decide), jd, jc 11 (by decide) (by decide), jb, ea, ug, ud, uc, ub]; omega
    · intro j v hj
      have hjl := (List.getElem?_eq_some_iff.mp hj).1
      show qz_I g 724 (qz_I g (T x) 11 + (j : Int)).toNat = v
      rw [jg 11 (by decide) (by decide), jd, jc 11 (by decide) (by decide), jb, ea, pg, pl_ap apd _ (by omega) (by omega), pc, apb.2.2.2.2 _ (by omega), if_pos (by omega), ua, show (qz_I h 723 2 + (j : Int) - qz_I h 723 2).toNat = j by omega, List.getD_eq_getElem?_getD, hj]
      rfl
    · show qz_I g (T x) 10 = _; rw [e10, jd, e9, ud, uc, hl2]; omega
    · show 0 ≤ qz_I g (T x) 9; rw [jg 9 (by decide) (by decide), jd, e9]; omega
    · show qz_I g (T x) 9 + _ ≤ _; rw [jg 9 (by decide) (by decide), jd, e9, ug, ud, uc, hl2]; omega
    · intro j v hj
      rw [hl2] at hj
      have hjl := (List.getElem?_eq_some_iff.mp hj).1
      show qz_I g 724 (qz_I g (T x) 9 + (j : Int)).toNat = v
      rw [jg 9 (by decide) (by decide), jd, e9, pg, apd.2.2.2.2 _ (by omega), if_pos (by omega), uc, show (qz_I gb 723 2 + (j : Int) - qz_I gb 723 2).toNat = j by omega, List.getD_eq_getElem?_getD, hj]
      rfl
end EzCm
/-! The class: enter, descend. (Written by wip/p2/py/pv31.py.) -/
/-- a point goes onto the path -/
def en (τ : Nat → Nat) (h g : cz_H) (r : Nat) (n : Int) : Prop := ez_B τ g ∧ pz τ h g ∧ (∀ q, τ q = 3 → q ≠ r → g.2.2 q = h.2.2 q) ∧ qz_I g r 8 = 1 ∧ (∀ j, j ≠ 8 → qz_I g r j = qz_I h r j) ∧ qz_I g 723 5 = n + 1 ∧ (∀ j, j ≠ 5 → qz_I g 723 j = qz_I h 723 j) ∧ g.2.2 724 = h.2.2 724 ∧ (∀ i : Nat, (i : Int) ≠ n → qz_I g 725 i = qz_I h 725 i ∧ qz_I g 726 i = qz_I h 726 i) ∧ qz_I g 725 n.toNat = (r : Int) + 1 ∧ qz_I g 726 n.toNat = 0
section EzEn
variable {d : Nat} {h : cz_H} {τ : Nat → Nat} {Q : cz_F → Prop} {T : Int → Nat} {F : rz_W} {E : Int → Prop}
theorem rd_enter {r : Nat} (hB : ez_B τ h) (hX : jz_X τ) (tr : τ r = 3) (hr : (r : Int) + 1 ≤ 1000000) (hd : qz_I h 723 5 < 256) (k : ∀ g, en τ h g r (qz_I h 723 5) → Q (.inl (some (ez_v (.inl 1))), g)) : ez_W d cm_116 0 [(0, .inr (.inr (some (723)))), (1, .inr (.inr (some (r))))] [] h Q := by
  have t723 : τ 723 = 55 := hX 723 (by decide)
  have t725 : τ 725 = 57 := hX 725 (by decide)
  have t726 : τ 726 = 58 := hX 726 (by decide)
  have r723 : r ≠ 723 := fun e => by rw [e, t723] at tr; cases tr
  have r725 : r ≠ 725 := fun e => by rw [e, t725] at tr; cases tr
  have r726 : r ≠ 726 := fun e => by rw [e, t726] at tr; cases tr
  refine ez_go (n := 1) (pc' := 1) (L' := [(0, .inr (.inr (some (723)))), (1, .inr (.inr (some (r))))]) (st' := [.inr (.inr (some (723)))]) rfl ?_
  refine ez_gI hB t723 rfl rfl tq_55 rfl rfl (fun (b1 : 0 ≤ qz_I h 723 5) (b1' : qz_I h 723 5 ≤ 256) => ?_)
  refine ez_go (n := 1) (pc' := 7) (L' := [(0, .inr (.inr (some (723)))), (1, .inr (.inr (some (r))))]) (st' := [.inl (256), .inl (qz_I h 723 5)]) rfl ?_
  refine ez_icmp rfl rfl ⟨by first | omega | exact (sz_i32 _).1, by first | omega | exact (sz_i32 _).2⟩ ⟨by first | omega | exact (sz_i32 _).1, by first | omega | exact (sz_i32 _).2⟩ (fun (c2 : (qz_I h 723 5) < (256)) => ?_) (fun (c2 : ¬((qz_I h 723 5) < (256))) => ?_)
  · skip
    refine ez_go (n := 2) (pc' := 14) (L' := [(0, .inr (.inr (some (723)))), (1, .inr (.inr (some (r))))]) (st' := [.inl (1), .inr (.inr (some (r)))]) rfl ?_
    refine ez_pf hB tr rfl rfl tq_3 rfl rfl rfl rfl (ez_vdI rfl rfl (by omega) (by omega)) (fun hB3 w4 => ?_)
    refine ez_go (n := 1) (pc' := 18) (L' := [(0, .inr (.inr (some (723)))), (1, .inr (.inr (some (r))))]) (st' := [.inr (.inr (some (723)))]) rfl ?_
    refine ez_gC (p := 725) (tg := 57) hB3 t723 rfl rfl tq_55 rfl rfl (fun (t725 : _ = 57) => ?_)
    refine ez_go (n := 1) (pc' := 22) (L' := [(0, .inr (.inr (some (723)))), (1, .inr (.inr (some (r))))]) (st' := [.inr (.inr (some (723))), .inr (.inr (some (725)))]) rfl ?_
    refine ez_gI hB3 t723 rfl rfl tq_55 rfl rfl (fun (b5 : 0 ≤ qz_I (dz_put h r 8 (ez_v (.inl (1)))) 723 5) (b5' : qz_I (dz_put h r 8 (ez_v (.inl (1)))) 723 5 ≤ 256) => ?_)
    have z1 : qz_I (dz_put h r 8 (ez_v (.inl (1)))) 723 5 = qz_I h 723 5 := by rw [ez_put_I (by omega)]
    refine ez_go (n := 1) (pc' := 26) (L' := [(0, .inr (.inr (some (723)))), (1, .inr (.inr (some (r))))]) (st' := [.inr (.inr (some (r))), .inl (qz_I (dz_put h r 8 (ez_v (.inl (1)))) 723 5), .inr (.inr (some (725)))]) rfl ?_
    have n8 : 256 ≤ qz_N (dz_put h r 8 (ez_v (.inl (1)))) 725 ∧ qz_N (dz_put h r 8 (ez_v (.inl (1)))) 725 ≤ 256 := ez_len hB3 t725 tq_57 rfl
    refine ez_aa hB3 t725 tr rfl tq_57 tq_3 rfl rfl rfl (by omega) (by omega) (ez_vdR rfl tr (by omega) (by omega)) (fun hB6 w7 => ?_)
    refine ez_go (n := 1) (pc' := 28) (L' := [(0, .inr (.inr (some (723)))), (1, .inr (.inr (some (r))))]) (st' := [.inr (.inr (some (723)))]) rfl ?_
    refine ez_gC (p := 726) (tg := 58) hB6 t723 rfl rfl tq_55 rfl rfl (fun (t726 : _ = 58) => ?_)
    refine ez_go (n := 1) (pc' := 32) (L' := [(0, .inr (.inr (some (723)))), (1, .inr (.inr (some (r))))]) (st' := [.inr (.inr (some (723))), .inr (.inr (some (726)))]) rfl ?_
    refine ez_gI hB6 t723 rfl rfl tq_55 rfl rfl (fun (b9 : 0 ≤ qz_I (dz_put (dz_put h r 8 (ez_v (.inl (1)))) 725 (qz_I (dz_put h r 8 (ez_v (.inl (1)))) 723 5).toNat (ez_v (.inr (.inr (some (r)))))) 723 5) (b9' : qz_I (dz_put (dz_put h r 8 (ez_v (.inl (1)))) 725 (qz_I (dz_put h r 8 (ez_v (.inl (1)))) 723 5).toNat (ez_v (.inr (.inr (some (r)))))) 723 5 ≤ 256) => ?_)
    have z2 : qz_I (dz_put (dz_put h r 8 (ez_v (.inl (1)))) 725 (qz_I (dz_put h r 8 (ez_v (.inl (1)))) 723 5).toNat (ez_v (.inr (.inr (some (r)))))) 723 5 = qz_I h 723 5 := by rw [ez_put_I (by omega)]; rw [ez_put_I (by omega)]
    refine ez_go (n := 1) (pc' := 36) (L' := [(0, .inr (.inr (some (723)))), (1, .inr (.inr (some (r))))]) (st' := [.inl (0), .inl (qz_I (dz_put (dz_put h r 8 (ez_v (.inl (1)))) 725 (qz_I (dz_put h r 8 (ez_v (.inl (1)))) 723 5).toNat (ez_v (.inr (.inr (some (r)))))) 723 5), .inr (.inr (some (726)))]) rfl ?_
    have n12 : 256 ≤ qz_N (dz_put (dz_put h r 8 (ez_v (.inl (1)))) 725 (qz_I (dz_put h r 8 (ez_v (.inl (1)))) 723 5).toNat (ez_v (.inr (.inr (some (r)))))) 726 ∧ qz_N (dz_put (dz_put h r 8 (ez_v (.inl (1)))) 725 (qz_I (dz_put h r 8 (ez_v (.inl (1)))) 723 5).toNat (ez_v (.inr (.inr (some (r)))))) 726 ≤ 256 := ez_len hB6 t726 tq_58 rfl
    refine ez_as hB6 t726 rfl tq_58 rfl rfl (by omega) (by omega) (ez_vdI rfl rfl (by omega) (by omega)) (fun hB10 w11 => ?_)
    refine ez_go (n := 2) (pc' := 39) (L' := [(0, .inr (.inr (some (723)))), (1, .inr (.inr (some (r))))]) (st' := [.inr (.inr (some (723))), .inr (.inr (some (723)))]) rfl ?_
    refine ez_gI hB10 t723 rfl rfl tq_55 rfl rfl (fun (b13 : 0 ≤ qz_I (dz_put (dz_put (dz_put h r 8 (ez_v (.inl (1)))) 725 (qz_I (dz_put h r 8 (ez_v (.inl (1)))) 723 5).toNat (ez_v (.inr (.inr (some (r)))))) 726 (qz_I (dz_put (dz_put h r 8 (ez_v (.inl (1)))) 725 (qz_I (dz_put h r 8 (ez_v (.inl (1)))) 723 5).toNat (ez_v (.inr (.inr (some (r)))))) 723 5).toNat (ez_v (.inl (0)))) 723 5) (b13' : qz_I (dz_put (dz_put (dz_put h r 8 (ez_v (.inl (1)))) 725 (qz_I (dz_put h r 8 (ez_v (.inl (1)))) 723 5).toNat (ez_v (.inr (.inr (some (r)))))) 726 (qz_I (dz_put (dz_put h r 8 (ez_v (.inl (1)))) 725 (qz_I (dz_put h r 8 (ez_v (.inl (1)))) 723 5).toNat (ez_v (.inr (.inr (some (r)))))) 723 5).toNat (ez_v (.inl (0)))) 723 5 ≤ 256) => ?_)
    have z3 : qz_I (dz_put (dz_put (dz_put h r 8 (ez_v (.inl (1)))) 725 (qz_I (dz_put h r 8 (ez_v (.inl (1)))) 723 5).toNat (ez_v (.inr (.inr (some (r)))))) 726 (qz_I (dz_put (dz_put h r 8 (ez_v (.inl (1)))) 725 (qz_I (dz_put h r 8 (ez_v (.inl (1)))) 723 5).toNat (ez_v (.inr (.inr (some (r)))))) 723 5).toNat (ez_v (.inl (0)))) 723 5 = qz_I h 723 5 := by rw [ez_put_I (by omega)]; rw [ez_put_I (by omega)]; rw [ez_put_I (by omega)]
    refine ez_go (n := 2) (pc' := 44) (L' := [(0, .inr (.inr (some (723)))), (1, .inr (.inr (some (r))))]) (st' := [.inl ((qz_I (dz_put (dz_put (dz_put h r 8 (ez_v (.inl (1)))) 725 (qz_I (dz_put h r 8 (ez_v (.inl (1)))) 723 5).toNat (ez_v (.inr (.inr (some (r)))))) 726 (qz_I (dz_put (dz_put h r 8 (ez_v (.inl (1)))) 725 (qz_I (dz_put h r 8 (ez_v (.inl (1)))) 723 5).toNat (ez_v (.inr (.inr (some (r)))))) 723 5).toNat (ez_v (.inl (0)))) 723 5) + (1)), .inr (.inr (some (723)))]) rfl ?_
    refine ez_pf hB10 t723 rfl rfl tq_55 rfl rfl rfl rfl (ez_vdI rfl rfl (by omega) (by omega)) (fun hB14 w15 => ?_)
    refine ez_go (n := 1) (pc' := 48) (L' := [(0, .inr (.inr (some (723)))), (1, .inr (.inr (some (r))))]) (st' := [.inl (1)]) rfl ?_
    have X3 := fun q (q1 : 723 ≤ q) (q2 : q ≤ 728) => (pz_X hX q1 q2).1
    refine ez_retZ rfl rfl (by decide) (k _ ⟨hB14, ((((pz_put3 tr (by omega)).trans (pz_put (by omega) (by omega) (X3 725 (by omega) (by omega)))).trans (pz_put (by omega) (by omega) (X3 726 (by omega) (by omega)))).trans (pz_put (by omega) (by omega) (X3 723 (by omega) (by omega)))), fun q q1 q2 => ?_, ?_, fun j hj => ?_, ?_, fun j hj => ?_, ?_, fun i hi => ⟨?_, ?_⟩, ?_, ?_⟩)
    · rw [qz_put_at _ _ _ _ (fun e => X3 q (by omega) (by omega) q1), qz_put_at _ _ _ _ (fun e => X3 q (by omega) (by omega) q1), qz_put_at _ _ _ _ (fun e => X3 q (by omega) (by omega) q1), qz_put_at _ _ _ _ q2]
    · rw [ez_put_I (by omega), ez_put_I (by omega), ez_put_I (by omega), w4]; rfl
    · rw [ez_put_I (by omega), ez_put_I (by omega), ez_put_I (by omega), ez_put_I (fun w => hj w.2)]
    · rw [w15, rz_rd ⟨by omega, by omega⟩]; omega
    · rw [ez_put_I (fun w => hj w.2), ez_put_I (by omega), ez_put_I (by omega), ez_put_I (by omega)]
    · rw [qz_put_at _ _ _ _ (by omega), qz_put_at _ _ _ _ (by omega), qz_put_at _ _ _ _ (by omega), qz_put_at _ _ _ _ (fun e => X3 724 (by omega) (by omega) (by rw [e]; exact tr))]
    · rw [ez_put_I (by omega), ez_put_I (by omega), ez_put_I (by omega), ez_put_I (by omega)]
    · rw [ez_put_I (by omega), ez_put_I (by omega), ez_put_I (by omega), ez_put_I (by omega)]
    · rw [ez_put_I (by omega), ez_put_I (by omega)]; have e : qz_I h 723 5 = _ := z1.symm; rw [e]; exact w7
    · rw [ez_put_I (by omega)]; have e : qz_I h 723 5 = _ := z2.symm; rw [e]; exact w11
  · skip
    refine ez_go (n := 1) (pc' := 11) (L' := [(0, .inr (.inr (some (723)))), (1, .inr (.inr (some (r))))]) (st' := [.inl (0)]) rfl ?_
    exfalso; omega

theorem rd_descend {x : Int} (hC : pz_C τ h T F E) (x0 : 0 ≤ x) (x1 : x ≤ 1114111) (hd : ¬ hz x → (F x).2 ≠ none → qz_I h (T x) 8 = 0 → qz_I h 723 5 < 256) (kD : (hz x ∨ (F x).2 = none ∨ qz_I h (T x) 8 = 2) → Q (.inl (some (ez_v (.inl 1))), h)) (kE : ¬ hz x → (F x).2 ≠ none → qz_I h (T x) 8 = 0 → ∀ g, en τ h g (T x) (qz_I h 723 5) → Q (.inl (some (ez_v (.inl 1))), g)) (kF : ¬ hz x → (F x).2 ≠ none → qz_I h (T x) 8 = 1 → Q (.inl (some (ez_v (.inl 0))), h)) : ez_W (d + 2) cm_115 0 [(0, .inr (.inr (some (723)))), (1, .inl (x))] [] h Q := by
  have t723 : τ 723 = 55 := hC.2.1 723 (by decide)
  have rm : h.1 + 0 ≤ 600192 := by have : cz_room h 0 0 = true := hC.1.2.1; unfold cz_room at this; rw [Bool.and_eq_true] at this; exact Nat.ble_eq.mp this.1
  refine ez_go (n := 1) (pc' := 1) (L' := [(0, .inr (.inr (some (723)))), (1, .inl (x))]) (st' := [.inr (.inr (some (723)))]) rfl ?_
  refine ez_gC (p := 202) (tg := 48) hC.1 t723 rfl rfl tq_55 rfl rfl (fun (t202 : _ = 48) => ?_)
  refine ez_go (n := 1) (pc' := 5) (L' := [(0, .inr (.inr (some (723)))), (1, .inl (x))]) (st' := [.inl (x), .inr (.inr (some (202)))]) rfl ?_
  refine ez_cv hC.1 t202 rfl rfl rfl tq_48 rfl rfl rfl (rd_spanOf hC x0 x1 (fun z tz z1 _ => ez_KA ?_))
  refine ez_gR hC.1 tz rfl rfl tq_4 rfl rfl (fun (t1 : _ = 3) (t1' : 1 ≤ qz_I h z 1) => ?_)
  have eT : qz_P h z 1 = T x := by unfold qz_P; omega
  rw [eT]
  obtain ⟨tT, -, f3, f4⟩ := hC.2.2.2.2 x x0 x1
  have lT := dz_here_lt (hC.1.1 _ (by rw [tT]; decide)).1
  refine ez_go (n := 2) (pc' := 13) (L' := [(2, .inr (.inr (some ((T x))))), (0, .inr (.inr (some (723)))), (1, .inl (x))]) (st' := [.inl (x)]) rfl ?_
  refine ez_cs hC.1.2.1 rfl rfl rfl rfl rfl (rd_isSyl (by omega) (by omega) (fun e => ez_K1 ?_) (fun e => ez_K1 ?_))
  · skip
    refine ez_if rfl rfl ⟨by decide, by decide⟩ (fun _ => ?_) (fun (c2 : ¬((1 : Int) ≠ (0))) => absurd c2 (by decide))
    refine ez_go (n := 1) (pc' := 35) (L' := [(2, .inr (.inr (some ((T x))))), (0, .inr (.inr (some (723)))), (1, .inl (x))]) (st' := [.inl (1)]) rfl ?_
    exact ez_retZ rfl rfl (by decide) (kD (Or.inl e))
  · skip
    refine ez_if rfl rfl ⟨by decide, by decide⟩ (fun (c3 : (0 : Int) ≠ (0)) => absurd c3 (by decide)) (fun _ => ?_)
    refine ez_go (n := 1) (pc' := 20) (L' := [(2, .inr (.inr (some ((T x))))), (0, .inr (.inr (some (723)))), (1, .inl (x))]) (st' := [.inr (.inr (some ((T x))))]) rfl ?_
    refine ez_gN hC.1 tT rfl rfl tq_3 rfl rfl (fun (t4 : qz_I h ((T x)) 3 = 0) => ?_) (fun (t4 : _ = 5) (t4' : 1 ≤ qz_I h ((T x)) 3) => ?_)
    · skip
      refine ez_null0 rfl rfl ?_
      refine ez_go (n := 1) (pc' := 35) (L' := [(2, .inr (.inr (some ((T x))))), (0, .inr (.inr (some (723)))), (1, .inl (x))]) (st' := [.inl (1)]) rfl ?_
      exact ez_retZ rfl rfl (by decide) (kD (by first | (exact Or.inr (Or.inr (by omega))) | (refine Or.inr (Or.inl ?_); cases hq : (F x).2 with | none => rfl | some q => have := (f4 q.1 q.2 hq).2.2.1; omega)))
    · skip
      have hns : (F x).2 ≠ none := fun w => by have := f3 w; omega
      refine ez_null1 rfl ?_
      refine ez_go (n := 1) (pc' := 27) (L' := [(2, .inr (.inr (some ((T x))))), (0, .inr (.inr (some (723)))), (1, .inl (x))]) (st' := [.inr (.inr (some ((T x))))]) rfl ?_
      refine ez_gI hC.1 tT rfl rfl tq_3 rfl rfl (fun (b5 : 0 ≤ qz_I h ((T x)) 8) (b5' : qz_I h ((T x)) 8 ≤ 2) => ?_)
      refine ez_go (n := 1) (pc' := 31) (L' := [(2, .inr (.inr (some ((T x))))), (0, .inr (.inr (some (723)))), (1, .inl (x))]) (st' := [.inl (2), .inl (qz_I h ((T x)) 8)]) rfl ?_
      refine ez_icmp rfl rfl ⟨by first | omega | exact (sz_i32 _).1, by first | omega | exact (sz_i32 _).2⟩ ⟨by first | omega | exact (sz_i32 _).1, by first | omega | exact (sz_i32 _).2⟩ (fun (c6 : (qz_I h ((T x)) 8) ≠ (2)) => ?_) (fun (c6 : ¬((qz_I h ((T x)) 8) ≠ (2))) => ?_)
      · skip
        refine ez_go (n := 1) (pc' := 37) (L' := [(2, .inr (.inr (some ((T x))))), (0, .inr (.inr (some (723)))), (1, .inl (x))]) (st' := [.inr (.inr (some ((T x))))]) rfl ?_
        refine ez_gI hC.1 tT rfl rfl tq_3 rfl rfl (fun (b7 : 0 ≤ qz_I h ((T x)) 8) (b7' : qz_I h ((T x)) 8 ≤ 2) => ?_)
        refine ez_if rfl rfl ⟨by first | omega | exact (sz_i32 _).1, by first | omega | exact (sz_i32 _).2⟩ (fun (c8 : (qz_I h ((T x)) 8) ≠ (0)) => ?_) (fun (c8 : ¬((qz_I h ((T x)) 8) ≠ (0))) => ?_)
        · skip
          refine ez_go (n := 1) (pc' := 56) (L' := [(2, .inr (.inr (some ((T x))))), (0, .inr (.inr (some (723)))), (1, .inl (x))]) (st' := [.inl (0)]) rfl ?_
          exact ez_retZ rfl rfl (by decide) (kF e hns (by omega))
        · skip
          refine ez_go (n := 2) (pc' := 45) (L' := [(2, .inr (.inr (some ((T x))))), (0, .inr (.inr (some (723)))), (1, .inl (x))]) (st' := [.inr (.inr (some ((T x)))), .inr (.inr (some (723)))]) rfl ?_
          refine ez_cv hC.1 t723 rfl rfl rfl tq_55 rfl rfl rfl (rd_enter hC.1 hC.2.1 tT (by omega) (hd e (by assumption) (by omega)) (fun g he => ez_K1 ?_))
          refine ez_if rfl rfl ⟨by decide, by decide⟩ (fun (c9 : (1 : Int) = (0)) => absurd c9 (by decide)) (fun _ => ?_)
          refine ez_go (n := 2) (pc' := 56) (L' := [(2, .inr (.inr (some ((T x))))), (0, .inr (.inr (some (723)))), (1, .inl (x))]) (st' := [.inl (1)]) rfl ?_
          exact ez_retZ rfl rfl (by decide) (kE e hns (by omega) g he)
      · skip
        refine ez_go (n := 1) (pc' := 35) (L' := [(2, .inr (.inr (some ((T x))))), (0, .inr (.inr (some (723)))), (1, .inl (x))]) (st' := [.inl (1)]) rfl ?_
        exact ez_retZ rfl rfl (by decide) (kD (by first | (exact Or.inr (Or.inr (by omega))) | (refine Or.inr (Or.inl ?_); cases hq : (F x).2 with | none => rfl | some q => have := (f4 q.1 q.2 hq).2.2.1; omega)))

end EzEn
/-! The class: the path through the decompositions. -/
theorem wz_le2 {W W' : Int → Nat} : ∀ {xs : List Int}, (∀ x ∈ xs, W' x ≤ W x) → wz W' xs ≤ wz W xs
  | [], _ => Nat.le_refl _
  | x :: xs, h => by
    have := wz_le2 (xs := xs) (fun y hy => h y (List.mem_cons_of_mem _ hy))
    have := h x List.mem_cons_self
    unfold wz
    omega
theorem wz_lt2 {W W' : Int → Nat} {y : Int} {k : Nat} : ∀ {xs : List Int}, (∀ x ∈ xs, W' x ≤ W x) → y ∈ xs → W' y + k ≤ W y → wz W' xs + k ≤ wz W xs
  | x :: xs, h, hy, hk => by
    unfold wz
    rcases List.mem_cons.mp hy with rfl | hy
    · have := wz_le2 (xs := xs) (fun y hy => h y (List.mem_cons_of_mem _ hy))
      omega
    · have := wz_lt2 (xs := xs) (fun y hy => h y (List.mem_cons_of_mem _ hy)) hy hk
      have := h x List.mem_cons_self
      omega
theorem wz_eq2 {W W' : Int → Nat} {xs : List Int} (h : ∀ x ∈ xs, W' x = W x) : wz W' xs = wz W xs := by
  have h1 := wz_le2 (W := W) (W' := W') (xs := xs) (fun x hx => by rw [h x hx]; exact Nat.le_refl _)
  have h2 := wz_le2 (W := W') (W' := W) (xs := xs) (fun x hx => by rw [h x hx]; exact Nat.le_refl _)
  omega
def dd (g : cz_H) (T : Int → Nat) (F : rz_W) (v : Int) : Prop := hz v ∨ (F v).2 = none ∨ qz_I g (T v) 8 = 2
def nd (g : cz_H) (T : Int → Nat) (F : rz_W) (x : Int) (i : Nat) (ab : Option Int) : Prop := (0 ≤ x ∧ x ≤ 1114111) ∧ ¬ hz x ∧ qz_I g 725 i = (T x : Int) + 1 ∧ qz_I g (T x) 8 = 1 ∧ ∃ cp vs, (F x).2 = some (cp, vs) ∧ 0 ≤ qz_I g 726 i ∧ qz_I g 726 i ≤ (vs.length : Int) ∧ (match ab with
  | none => ∀ (j : Nat) v, (j : Int) < qz_I g 726 i → vs[j]? = some v → dd g T F v
  | some y => 1 ≤ qz_I g 726 i ∧ vs[(qz_I g 726 i - 1).toNat]? = some y ∧ ∀ (j : Nat) v, (j : Int) < qz_I g 726 i - 1 → vs[j]? = some v → dd g T F v)
def pk (g : cz_H) (T : Int → Nat) (F : rz_W) : Option Int → List Int → Prop
  | _, [] => True
  | ab, x :: rest => nd g T F x rest.length ab ∧ pk g T F (some x) rest
def cl (g : cz_H) (T : Int → Nat) (F : rz_W) : Prop := ∀ x, 0 ≤ x → x ≤ 1114111 → (F x).2 ≠ none → qz_I g (T x) 8 = 2 → az_e F x ∧ ∀ c, ∃ l, uz_F F c x l ∧ sg g (T x) c l ∧ l.length ≤ 40
def wU (g : cz_H) (T : Int → Nat) (x : Int) : Nat := if qz_I g (T x) 8 = 0 then 1 else 0
def wN (g : cz_H) (T : Int → Nat) (x : Int) : Nat := if qz_I g (T x) 8 = 2 then 0 else 1
def rl (F : rz_W) (x : Int) : Nat := match (F x).2 with
  | none => 0
  | some q => q.2.length
def ps (g : cz_H) (F : rz_W) : List Int → Nat
  | [] => 0
  | x :: rest => ((rl F x : Int) - qz_I g 726 rest.length + 1).toNat + ps g F rest
def xz (τ : Nat → Nat) (T : Int → Nat) (F : rz_W) (E : Int → Prop) (Xs : List Int) (g : cz_H) (ab : Option Int) (pt : List Int) : Prop := pz_C τ g T F E ∧ qz_I g 723 5 = (pt.length : Int) ∧ pt.Nodup ∧ pk g T F ab pt ∧ cl g T F ∧ (∀ x, 0 ≤ x → x ≤ 1114111 → (F x).2 ≠ none → qz_I g (T x) 8 = 1 → x ∈ pt) ∧ pt.length + wz (wU g T) Xs ≤ Xs.length ∧ qz_I g 723 2 + 80 * (wz (wN g T) Xs : Int) ≤ 80 * (Xs.length : Int)
theorem T_inj {τ : Nat → Nat} {g : cz_H} {T : Int → Nat} {F : rz_W} {E : Int → Prop} (hC : pz_C τ g T F E) {x y : Int} (x0 : 0 ≤ x) (x1 : x ≤ 1114111) (y0 : 0 ≤ y) (y1 : y ≤ 1114111) (hx : (F x).2 ≠ none) (e : T y = T x) : y = x := by
  obtain ⟨-, -, a3, a4⟩ := hC.2.2.2.2 x x0 x1
  obtain ⟨-, -, b3, b4⟩ := hC.2.2.2.2 y y0 y1
  cases hq : (F x).2 with
  | none => exact absurd hq hx
  | some q =>
    obtain ⟨c0, -, c3, -⟩ := a4 q.1 q.2 hq
    cases hp : (F y).2 with
    | none => have := b3 hp; rw [e] at this; omega
    | some p =>
      obtain ⟨d0, -⟩ := b4 p.1 p.2 hp
      rw [e] at d0
      omega
theorem pk_tr {g g2 : cz_H} {T : Int → Nat} {F : rz_W} : ∀ {pt : List Int} {ab : Option Int}, pk g T F ab pt → (∀ i, i < pt.length → qz_I g2 725 i = qz_I g 725 i ∧ qz_I g2 726 i = qz_I g 726 i) → (∀ x ∈ pt, qz_I g2 (T x) 8 = qz_I g (T x) 8) → (∀ x ∈ pt, ∀ cp vs, (F x).2 = some (cp, vs) → ∀ v ∈ vs, dd g T F v → dd g2 T F v) → pk g2 T F ab pt
  | [], _, _, _, _, _ => trivial
  | x :: rest, ab, ⟨h1, h2⟩, hi, hv, hd => by
    refine ⟨?_, pk_tr h2 (fun i hl => hi i (by simp only [List.length_cons]; omega)) (fun y hy => hv y (List.mem_cons_of_mem _ hy)) (fun y hy => hd y (List.mem_cons_of_mem _ hy))⟩
    obtain ⟨a1, a2, a3, a4, cp, vs, a5, a6, a7, a8⟩ := h1
    obtain ⟨e1, e2⟩ := hi rest.length (by simp only [List.length_cons]; omega)
    have hdx := hd x List.mem_cons_self cp vs a5
    refine ⟨a1, a2, by rw [e1]; exact a3, by rw [hv x List.mem_cons_self]; exact a4, cp, vs, a5, by rw [e2]; exact a6, by rw [e2]; exact a7, ?_⟩
    rw [e2]
    cases ab with
    | none => exact fun j v j1 j2 => hdx v (List.mem_of_getElem? j2) (a8 j v j1 j2)
    | some y => exact ⟨a8.1, a8.2.1, fun j v j1 j2 => hdx v (List.mem_of_getElem? j2) (a8.2.2 j v j1 j2)⟩
theorem ps_tr {g g2 : cz_H} {F : rz_W} : ∀ {pt : List Int}, (∀ i, i < pt.length → qz_I g2 726 i = qz_I g 726 i) → ps g2 F pt = ps g F pt
  | [], _ => rfl
  | x :: rest, hi => by
    unfold ps
    rw [hi rest.length (by simp only [List.length_cons]; omega), ps_tr (fun i hl => hi i (by simp only [List.length_cons]; omega))]
/-- what is done is done -/
theorem xz_D {τ : Nat → Nat} {T : Int → Nat} {F : rz_W} {E : Int → Prop} {Xs : List Int} {g : cz_H} {v : Int} {pt : List Int} (h : xz τ T F E Xs g (some v) pt) (hd : dd g T F v) : xz τ T F E Xs g none pt := by
  obtain ⟨a1, a2, a3, a4, a5, a6, a7, a8⟩ := h
  refine ⟨a1, a2, a3, ?_, a5, a6, a7, a8⟩
  cases pt with
  | nil => trivial
  | cons x rest =>
    obtain ⟨⟨b1, b2, b3, b4, cp, vs, b5, b6, b7, b8, b9, b10⟩, c⟩ := a4
    refine ⟨⟨b1, b2, b3, b4, cp, vs, b5, b6, b7, fun j w j1 j2 => ?_⟩, c⟩
    by_cases e : (j : Int) < qz_I g 726 rest.length - 1
    · exact b10 j w e j2
    · have : j = (qz_I g 726 rest.length - 1).toNat := by omega
      rw [← this, j2] at b9
      cases b9
      exact hd
theorem pk_mem {g : cz_H} {T : Int → Nat} {F : rz_W} : ∀ {pt : List Int} {ab : Option Int}, pk g T F ab pt → ∀ y ∈ pt, (0 ≤ y ∧ y ≤ 1114111) ∧ ¬ hz y ∧ (F y).2 ≠ none ∧ qz_I g (T y) 8 = 1
  | [], _, _, y, hy => by cases hy
  | z :: r, ab, hp, y, hy => by
    rcases List.mem_cons.mp hy with rfl | hy
    · obtain ⟨a1, a2, a3, a4, cp, vs, a5, -⟩ := hp.1
      exact ⟨a1, a2, by rw [a5]; exact fun e => (by cases e), a4⟩
    · exact pk_mem hp.2 y hy
/-- another place of the row -/
theorem xz_P {τ : Nat → Nat} {T : Int → Nat} {F : rz_W} {E : Int → Prop} {Xs : List Int} {g g2 : cz_H} {x cp v : Int} {vs rest : List Int} (hw : uz_wf F) (hXr : ∀ x ∈ Xs, 0 ≤ x ∧ x ≤ 1114111) (h : xz τ T F E Xs g none (x :: rest)) (hdec : (F x).2 = some (cp, vs)) (hv : vs[(qz_I g 726 rest.length).toNat]? = some v) (hB : ez_B τ g2) (hf : ez_fr (ez_one 726) g g2) (h1 : qz_I g2 726 rest.length = qz_I g 726 rest.length + 1) (h2 : ∀ i, i ≠ rest.length → qz_I g2 726 i = qz_I g 726 i) : xz τ T F E Xs g2 (some v) (x :: rest) ∧ ps g2 F (x :: rest) + 1 = ps g F (x :: rest) ∧ wz (wU g2 T) Xs = wz (wU g T) Xs := by
  obtain ⟨a1, a2, a3, a4, a5, a6, a7, a8⟩ := h
  have hX := a1.2.1
  have i3 : ∀ q, q ≠ 726 → ∀ j, qz_I g2 q j = qz_I g q j := fun q hq j => hf.I (dz_beq_ne hq) j
  have hT : ∀ y, 0 ≤ y → y ≤ 1114111 → T y ≠ 726 := fun y y0 y1 e => by
    have := (a1.2.2.2.2 y y0 y1).1
    rw [e, hX 726 (by decide)] at this
    cases this
  have hpz : pz τ g g2 := pz_fr hf (fun q hq => by
    have e := Nat.eq_of_beq_eq_true hq
    subst e
    exact ⟨by omega, by omega, (pz_X hX (by omega) (by omega)).1⟩)
  have hmem := pk_mem a4
  obtain ⟨⟨b1, b2, b3, b4, cp', vs', b5, b6, b7, b8⟩, c⟩ := a4
  rw [hdec] at b5
  cases b5
  have hl : (qz_I g 726 rest.length).toNat < vs.length := (List.getElem?_eq_some_iff.mp hv).1
  have hI : ∀ y, 0 ≤ y → y ≤ 1114111 → ∀ j, qz_I g2 (T y) j = qz_I g (T y) j := fun y y0 y1 j => i3 _ (hT y y0 y1) j
  have hdm : ∀ z cp vs, (F z).2 = some (cp, vs) → ∀ w ∈ vs, dd g T F w → dd g2 T F w := fun z cp vs e w hw' hd => by
    obtain ⟨w0, w1⟩ := ((hw z).2 cp vs e).2.2.1 w hw'
    exact hd.imp id (fun hd => hd.imp id (fun hd => by rw [hI w w0 w1]; exact hd))
  have hlen : ∀ i, i < rest.length → qz_I g2 725 i = qz_I g 725 i ∧ qz_I g2 726 i = qz_I g 726 i := fun i hi => ⟨i3 725 (by decide) i, h2 i (by omega)⟩
  refine ⟨⟨a1.fr hB hpz, by rw [i3 723 (by decide)]; exact a2, a3, ⟨⟨b1, b2, by rw [i3 725 (by decide)]; exact b3, by rw [hI x b1.1 b1.2]; exact b4, cp, vs, hdec, by rw [h1]; omega, by rw [h1]; omega, by rw [h1]; omega, ?_, ?_⟩, ?_⟩, ?_, ?_, ?_, ?_⟩, ?_, ?_⟩
  · rw [h1, show (qz_I g 726 rest.length + 1 - 1).toNat = (qz_I g 726 rest.length).toNat by omega]; exact hv
  · intro j w j1 j2
    rw [h1] at j1
    exact hdm x cp vs hdec w (List.mem_of_getElem? j2) (b8 j w (by omega) j2)
  · exact pk_tr c hlen (fun y hy => hI y (hmem y (List.mem_cons_of_mem _ hy)).1.1 (hmem y (List.mem_cons_of_mem _ hy)).1.2 8) (fun y _ cp vs e => hdm y cp vs e)
  · intro y y0 y1 hy hv2
    rw [hI y y0 y1] at hv2
    obtain ⟨c1, c2⟩ := a5 y y0 y1 hy hv2
    refine ⟨c1, fun c => ?_⟩
    obtain ⟨l, l1, ⟨l2, l3, l4, l5⟩, l6⟩ := c2 c
    exact ⟨l, l1, ⟨by rw [hI y y0 y1]; exact l2, by rw [hI y y0 y1]; exact l3, by rw [hI y y0 y1, i3 723 (by decide)]; exact l4, fun j v hj => by rw [hI y y0 y1, i3 724 (by decide)]; exact l5 j v hj⟩, l6⟩
  · intro y y0 y1 hy hv2
    rw [hI y y0 y1] at hv2
    exact a6 y y0 y1 hy hv2
  · rw [wz_eq2 (W := wU g T) (fun y hy => by unfold wU; rw [hI y (hXr y hy).1 (hXr y hy).2])]; exact a7
  · rw [i3 723 (by decide), wz_eq2 (W := wN g T) (fun y hy => by unfold wN; rw [hI y (hXr y hy).1 (hXr y hy).2])]; exact a8
  · unfold ps
    rw [h1, ps_tr (fun i hi => (hlen i hi).2)]
    have : (rl F x : Int) = (vs.length : Int) := by unfold rl; rw [hdec]
    omega
  · exact wz_eq2 (fun y hy => by unfold wU; rw [hI y (hXr y hy).1 (hXr y hy).2])
/-- onto the path -/
theorem xz_E {τ : Nat → Nat} {T : Int → Nat} {F : rz_W} {E : Int → Prop} {Xs : List Int} {g g2 : cz_H} {v : Int} {pt : List Int} (hw : uz_wf F) (hXr : ∀ x ∈ Xs, 0 ≤ x ∧ x ≤ 1114111) (hXs : ∀ x, (F x).2 ≠ none → x ∈ Xs) (h : xz τ T F E Xs g (some v) pt) (v0 : 0 ≤ v) (v1 : v ≤ 1114111) (hv : ¬ hz v) (hn : (F v).2 ≠ none) (h8 : qz_I g (T v) 8 = 0) (he : en τ g g2 (T v) (pt.length : Int)) : xz τ T F E Xs g2 none (v :: pt) ∧ 20 * wz (wU g2 T) Xs + ps g2 F (v :: pt) + 1 ≤ 20 * wz (wU g T) Xs + ps g F pt := by
  obtain ⟨a1, a2, a3, a4, a5, a6, a7, a8⟩ := h
  obtain ⟨e1, e2, e3, e4, e5, e6, e7, e8, e9, e10, e11⟩ := he
  have hmem := pk_mem a4
  have hX := a1.2.1
  have hTy : ∀ y, 0 ≤ y → y ≤ 1114111 → y ≠ v → g2.2.2 (T y) = g.2.2 (T y) := fun y y0 y1 hy => e3 _ (a1.2.2.2.2 y y0 y1).1 (fun e => hy (T_inj a1 v0 v1 y0 y1 hn e))
  have hI : ∀ y, 0 ≤ y → y ≤ 1114111 → y ≠ v → ∀ j, qz_I g2 (T y) j = qz_I g (T y) j := fun y y0 y1 hy j => by unfold qz_I; rw [hTy y y0 y1 hy]
  have hvp : v ∉ pt := fun w => by have := (hmem v w).2.2.2; omega
  have hnv : ∀ y ∈ pt, y ≠ v := fun y hy e => by rw [e] at hy; exact hvp hy
  have hdm : ∀ z cp vs, (F z).2 = some (cp, vs) → ∀ w ∈ vs, dd g T F w → dd g2 T F w := fun z cp vs e w hw' hd => by
    obtain ⟨w0, w1⟩ := ((hw z).2 cp vs e).2.2.1 w hw'
    rcases hd with hd | hd | hd
    · exact Or.inl hd
    · exact Or.inr (Or.inl hd)
    · refine Or.inr (Or.inr ?_)
      rw [hI w w0 w1 (fun e => by rw [e] at hd; omega)]; exact hd
  have hlen : ∀ i, i < pt.length → qz_I g2 725 i = qz_I g 725 i ∧ qz_I g2 726 i = qz_I g 726 i := fun i hi => e9 i (by omega)
  obtain ⟨cp, vs, hdec⟩ : ∃ cp vs, (F v).2 = some (cp, vs) := by
    cases hq : (F v).2 with
    | none => exact absurd hq hn
    | some q => exact ⟨q.1, q.2, rfl⟩
  have hlv : rl F v ≤ 18 := by
    unfold rl; rw [hdec]; exact ((hw v).2 cp vs hdec).2.1.2
  have hU : wz (wU g2 T) Xs + 1 ≤ wz (wU g T) Xs := by
    refine wz_lt2 (y := v) (fun y hy => ?_) (hXs v hn) ?_
    · by_cases e : y = v
      · subst e; unfold wU; rw [e4, if_neg (by decide), h8, if_pos rfl]; omega
      · unfold wU; rw [hI y (hXr y hy).1 (hXr y hy).2 e]; exact Nat.le_refl _
    · unfold wU; rw [e4, if_neg (by decide), h8, if_pos rfl]; omega
  have hN : wz (wN g2 T) Xs = wz (wN g T) Xs := wz_eq2 (fun y hy => by
    by_cases e : y = v
    · subst e; unfold wN; rw [e4, if_neg (by decide), h8, if_neg (by decide)]
    · unfold wN; rw [hI y (hXr y hy).1 (hXr y hy).2 e])
  have en725 : qz_I g2 725 pt.length = (T v : Int) + 1 := by have := e10; rw [show ((pt.length : Int)).toNat = pt.length by omega] at this; exact this
  have en726 : qz_I g2 726 pt.length = 0 := by have := e11; rw [show ((pt.length : Int)).toNat = pt.length by omega] at this; exact this
  refine ⟨⟨a1.fr e1 e2, by rw [e6]; simp only [List.length_cons]; omega, List.nodup_cons.mpr ⟨hvp, a3⟩, ⟨⟨⟨v0, v1⟩, hv, en725, e4, cp, vs, hdec, by rw [en726]; omega, by rw [en726]; omega, fun j w j1 j2 => by rw [en726] at j1; omega⟩, pk_tr a4 hlen (fun y hy => hI y (hmem y hy).1.1 (hmem y hy).1.2 (hnv y hy) 8) (fun y _ cp vs e => hdm y cp vs e)⟩, ?_, ?_, by simp only [List.length_cons]; omega, by rw [e7 2 (by decide), hN]; exact a8⟩, ?_⟩
  · intro y y0 y1 hy hv2
    have hyv : y ≠ v := fun e => by rw [e, e4] at hv2; omega
    rw [hI y y0 y1 hyv] at hv2
    obtain ⟨c1, c2⟩ := a5 y y0 y1 hy hv2
    refine ⟨c1, fun c => ?_⟩
    obtain ⟨l, l1, ⟨l2, l3, l4, l5⟩, l6⟩ := c2 c
    exact ⟨l, l1, ⟨by rw [hI y y0 y1 hyv]; exact l2, by rw [hI y y0 y1 hyv]; exact l3, by rw [hI y y0 y1 hyv, e7 2 (by decide)]; exact l4, fun j v hj => by rw [hI y y0 y1 hyv]; unfold qz_I; rw [e8]; exact l5 j v hj⟩, l6⟩
  · intro y y0 y1 hy hv2
    by_cases e : y = v
    · rw [e]; exact List.mem_cons_self
    · rw [hI y y0 y1 e] at hv2
      exact List.mem_cons_of_mem _ (a6 y y0 y1 hy hv2)
  · show 20 * wz (wU g2 T) Xs + (((rl F v : Int) - qz_I g2 726 pt.length + 1).toNat + ps g2 F pt) + 1 ≤ _
    rw [en726, ps_tr (fun i hi => (hlen i hi).2)]
    omega
/-- the lists of what is done -/
theorem dd_dn {g : cz_H} {T : Int → Nat} {F : rz_W} (hcl : cl g T F) (hS : uz_S1 F) {v : Int} (v0 : 0 ≤ v) (v1 : v ≤ 1114111) (hd : dd g T F v) (c : Bool) : ∃ l, dn g T F c v l ∧ uz_F F c v l := by
  by_cases e : hz v
  · exact ⟨_, Or.inl ⟨e, rfl⟩, uz_syl e⟩
  · cases hq : (F v).2 with
    | none => exact ⟨_, Or.inr (Or.inl ⟨e, hq, rfl⟩), uz_leaf e hq⟩
    | some q =>
      have hn : (F v).2 ≠ none := by rw [hq]; exact fun e => by cases e
      rcases hd with hd | hd | hd
      · exact absurd hd e
      · exact absurd hd hn
      · obtain ⟨-, h2⟩ := hcl v v0 v1 hn hd
        obtain ⟨l, l1, l2, -⟩ := h2 c
        exact ⟨l, Or.inr (Or.inr ⟨e, hn, l2⟩), l1⟩
theorem dd_fun {g : cz_H} {T : Int → Nat} {F : rz_W} (hcl : cl g T F) (hS : uz_S1 F) {vs : List Int} (hr : ∀ v ∈ vs, 0 ≤ v ∧ v ≤ 1114111) (hd : ∀ v ∈ vs, dd g T F v) (c : Bool) : ∃ f : Int → List Int, ∀ v ∈ vs, dn g T F c v (f v) ∧ uz_F F c v (f v) :=
  ⟨fun v => Classical.epsilon (fun l => dn g T F c v l ∧ uz_F F c v l), fun v hv => Classical.epsilon_spec (dd_dn hcl hS (hr v hv).1 (hr v hv).2 (hd v hv) c)⟩
/-- from the path -/
theorem xz_X {τ : Nat → Nat} {T : Int → Nat} {F : rz_W} {E : Int → Prop} {Xs : List Int} {g g2 g3 : cz_H} {x cp : Int} {vs rest l1 l2 : List Int} (hw : uz_wf F) (hXr : ∀ x ∈ Xs, 0 ≤ x ∧ x ≤ 1114111) (hXs : ∀ x, (F x).2 ≠ none → x ∈ Xs) (h : xz τ T F E Xs g none (x :: rest)) (hdec : (F x).2 = some (cp, vs)) (hc : qz_I g 726 rest.length = (vs.length : Int)) (haz : az_e F x) (u1 : uz_F F true x l1) (u2 : uz_F F false x l2) (hB2 : ez_B τ g2) (hf2 : ez_fr (nz_PR (T x)) g g2) (h28 : ∀ j, j < 8 → qz_I g2 (T x) j = qz_I g (T x) j) (h2j : ∀ j, j ≠ 2 → qz_I g2 723 j = qz_I g 723 j) (hpl : pl_same g g2) (hu : qz_I g2 723 2 = qz_I g 723 2 + (l1.length : Int) + (l2.length : Int)) (s1 : sg g2 (T x) true l1) (s2 : sg g2 (T x) false l2) (h2v : qz_I g2 (T x) 8 = 2) (n1 : l1.length ≤ 40) (n2 : l2.length ≤ 40) (hB3 : ez_B τ g3) (hf3 : ez_fr (ez_one 723) g2 g3) (h35 : qz_I g3 723 5 = qz_I g2 723 5 - 1) (h3j : ∀ j, j ≠ 5 → qz_I g3 723 j = qz_I g2 723 j) : xz τ T F E Xs g3 none rest ∧ ps g3 F rest + 1 = ps g F (x :: rest) ∧ wz (wU g3 T) Xs = wz (wU g T) Xs := by
  obtain ⟨a1, a2, a3, a4, a5, a6, a7, a8⟩ := h
  have hX := a1.2.1
  have hmem := pk_mem a4
  obtain ⟨⟨x0, x1⟩, hzx, hnx, h1x⟩ := hmem x List.mem_cons_self
  have tT := (a1.2.2.2.2 x x0 x1).1
  have t723 : τ 723 = 55 := hX 723 (by decide)
  have n723 : ∀ y, 0 ≤ y → y ≤ 1114111 → T y ≠ 723 := fun y y0 y1 e => by
    have := (a1.2.2.2.2 y y0 y1).1
    rw [e, t723] at this; cases this
  have n724 : ∀ y, 0 ≤ y → y ≤ 1114111 → T y ≠ 724 := fun y y0 y1 e => by
    have := (a1.2.2.2.2 y y0 y1).1
    rw [e, hX 724 (by decide)] at this; cases this
  have i3 : ∀ q, q ≠ 723 → ∀ j, qz_I g3 q j = qz_I g2 q j := fun q hq j => hf3.I (dz_beq_ne hq) j
  have p2 : ∀ q, q ≠ T x → q ≠ 723 → q ≠ 724 → ∀ j, qz_I g2 q j = qz_I g q j := fun q q1 q2 q3 j => hf2.I (by unfold nz_PR nz_PP; rw [dz_beq_ne q1, dz_beq_ne q2, dz_beq_ne q3]; rfl) j
  have hI : ∀ y, 0 ≤ y → y ≤ 1114111 → y ≠ x → ∀ j, qz_I g3 (T y) j = qz_I g (T y) j := fun y y0 y1 hy j => by
    rw [i3 _ (n723 y y0 y1), p2 _ (fun e => hy (T_inj a1 x0 x1 y0 y1 hnx e)) (n723 y y0 y1) (n724 y y0 y1)]
  have hIx : ∀ j, qz_I g3 (T x) j = qz_I g2 (T x) j := fun j => i3 _ (n723 x x0 x1) j
  have hxr : x ∉ rest := (List.nodup_cons.mp a3).1
  have hnr : ∀ y ∈ rest, y ≠ x := fun y hy e => by rw [e] at hy; exact hxr hy
  have n3 : ∀ q, q = 725 ∨ q = 726 → ∀ j, qz_I g3 q j = qz_I g q j := fun q hq j => by
    have e : q ≠ T x := fun e => by
      rw [← e] at tT
      rcases hq with hq | hq
      · rw [hq, hX 725 (by decide)] at tT; cases tT
      · rw [hq, hX 726 (by decide)] at tT; cases tT
    rw [i3 q (by omega), p2 q e (by omega) (by omega)]
  have used3 : qz_I g3 723 2 = qz_I g2 723 2 := h3j 2 (by decide)
  have hdm : ∀ z cp vs, (F z).2 = some (cp, vs) → ∀ w ∈ vs, dd g T F w → dd g3 T F w := fun z cp vs e w hw' hd => by
    obtain ⟨w0, w1⟩ := ((hw z).2 cp vs e).2.2.1 w hw'
    rcases hd with hd | hd | hd
    · exact Or.inl hd
    · exact Or.inr (Or.inl hd)
    · refine Or.inr (Or.inr ?_)
      by_cases e : w = x
      · rw [e, hIx]; exact h2v
      · rw [hI w w0 w1 e]; exact hd
  have hsg : ∀ {r c l}, sg g2 r c l → r ≠ 723 → sg g3 r c l := fun {r c l} hs hr => by
    obtain ⟨b1, b2, b3, b4⟩ := hs
    exact ⟨by rw [i3 r hr]; exact b1, by rw [i3 r hr]; exact b2, by rw [i3 r hr, used3]; exact b3, fun j v hj => by rw [i3 r hr, i3 724 (by decide)]; exact b4 j v hj⟩
  have hU : wz (wU g3 T) Xs = wz (wU g T) Xs := wz_eq2 (fun y hy => by
    by_cases e : y = x
    · subst e; unfold wU; rw [hIx, h2v, h1x]; rfl
    · unfold wU; rw [hI y (hXr y hy).1 (hXr y hy).2 e])
  have hN : wz (wN g3 T) Xs + 1 ≤ wz (wN g T) Xs := by
    refine wz_lt2 (y := x) (fun y hy => ?_) (hXs x hnx) ?_
    · by_cases e : y = x
      · subst e; unfold wN; rw [hIx, h2v, h1x, if_pos rfl]; omega
      · unfold wN; rw [hI y (hXr y hy).1 (hXr y hy).2 e]; exact Nat.le_refl _
    · unfold wN; rw [hIx, h2v, h1x, if_pos rfl, if_neg (by decide)]; omega
  have hpz : pz τ g g3 := (nz_PR_pz hX tT hf2 h28).trans (pz_fr hf3 (fun q hq => by
    have e := Nat.eq_of_beq_eq_true hq
    subst e
    exact ⟨by omega, by omega, (pz_X hX (by omega) (by omega)).1⟩))
  refine ⟨xz_D (v := x) ⟨a1.fr hB3 hpz, ?_, (List.nodup_cons.mp a3).2, ?_, ?_, ?_, ?_, ?_⟩ (Or.inr (Or.inr (by rw [hIx]; exact h2v))), ?_, hU⟩
  · rw [h35, h2j 5 (by decide), a2]; simp only [List.length_cons]; omega
  · exact pk_tr a4.2 (fun i hi => ⟨n3 725 (Or.inl rfl) i, n3 726 (Or.inr rfl) i⟩) (fun y hy => hI y (hmem y (List.mem_cons_of_mem _ hy)).1.1 (hmem y (List.mem_cons_of_mem _ hy)).1.2 (hnr y hy) 8) (fun y _ cp vs e => hdm y cp vs e)
  · intro y y0 y1 hy hv2
    by_cases e : y = x
    · subst e
      refine ⟨haz, fun c => ?_⟩
      cases c with
      | true => exact ⟨l1, u1, hsg s1 (n723 y y0 y1), n1⟩
      | false => exact ⟨l2, u2, hsg s2 (n723 y y0 y1), n2⟩
    · rw [hI y y0 y1 e] at hv2
      obtain ⟨c1, c2⟩ := a5 y y0 y1 hy hv2
      refine ⟨c1, fun c => ?_⟩
      obtain ⟨l, w1, ⟨w2, w3, w4, w5⟩, w6⟩ := c2 c
      refine ⟨l, w1, ⟨by rw [hI y y0 y1 e]; exact w2, by rw [hI y y0 y1 e]; exact w3, by rw [hI y y0 y1 e, used3, hu]; omega, fun j v hj => ?_⟩, w6⟩
      have hjl := (List.getElem?_eq_some_iff.mp hj).1
      rw [hI y y0 y1 e, i3 724 (by decide), hpl _ (by omega) (by omega)]
      exact w5 j v hj
  · intro y y0 y1 hy hv2
    have hyx : y ≠ x := fun e => by rw [e, hIx, h2v] at hv2; omega
    rw [hI y y0 y1 hyx] at hv2
    exact (List.mem_cons.mp (a6 y y0 y1 hy hv2)).resolve_left hyx
  · rw [hU]; simp only [List.length_cons] at a7; omega
  · rw [used3, hu]; omega
  · show ps g3 F rest + 1 = ((rl F x : Int) - qz_I g 726 rest.length + 1).toNat + ps g F rest
    rw [ps_tr (fun i hi => n3 726 (Or.inr rfl) i), hc]
    have : (rl F x : Int) = (vs.length : Int) := by unfold rl; rw [hdec]
    omega
/-- a point that is on the path already: no end -/
theorem pk_cyc {g : cz_H} {T : Int → Nat} {F : rz_W} : ∀ {A B : List Int} {v u : Int}, pk g T F (some u) (A ++ v :: B) → ∀ z ∈ A ++ [v], ∃ w, (w = u ∨ w ∈ A ++ [v]) ∧ ¬ hz z ∧ ∃ cp vs, (F z).2 = some (cp, vs) ∧ w ∈ vs
  | [], B, v, u, h, z, hz' => by
    rw [List.nil_append, List.mem_singleton] at hz'
    subst hz'
    obtain ⟨a1, a2, a3, a4, cp, vs, a5, a6, a7, a8, a9, a10⟩ := h.1
    exact ⟨u, Or.inl rfl, a2, cp, vs, a5, List.mem_of_getElem? a9⟩
  | y :: A, B, v, u, h, z, hz' => by
    rw [List.cons_append] at hz'
    rcases List.mem_cons.mp hz' with rfl | hz'
    · obtain ⟨a1, a2, a3, a4, cp, vs, a5, a6, a7, a8, a9, a10⟩ := h.1
      exact ⟨u, Or.inl rfl, a2, cp, vs, a5, List.mem_of_getElem? a9⟩
    · obtain ⟨w, w1, w2⟩ := pk_cyc (A := A) h.2 z hz'
      refine ⟨w, Or.inr ?_, w2⟩
      rw [List.cons_append]
      rcases w1 with w1 | w1
      · rw [w1]; exact List.mem_cons_self
      · exact List.mem_cons_of_mem _ w1
theorem xz_cyc {τ : Nat → Nat} {T : Int → Nat} {F : rz_W} {E : Int → Prop} {Xs : List Int} {g : cz_H} {v : Int} {pt : List Int} (h : xz τ T F E Xs g (some v) pt) (hv : v ∈ pt) : ¬ az_e F v := by
  obtain ⟨A, B, rfl⟩ := List.append_of_mem hv
  have hp := pk_cyc h.2.2.2.1
  rintro ⟨n, hn⟩
  refine az_cycle (F := F) (Z := fun z => z ∈ A ++ [v]) (fun z hz' => ?_) n v (by simp) hn
  obtain ⟨w, w1, w2, cp, vs, w3, w4⟩ := hp z hz'
  refine ⟨w2, cp, vs, w3, w, w4, ?_⟩
  rcases w1 with w1 | w1
  · rw [w1]; simp
  · exact w1
/-- visits go on -/
def vm (T : Int → Nat) (F : rz_W) (g g2 : cz_H) : Prop := ∀ y, 0 ≤ y → y ≤ 1114111 → (F y).2 ≠ none → (qz_I g (T y) 8 = 2 → qz_I g2 (T y) 8 = 2) ∧ (qz_I g (T y) 8 ≠ 0 → qz_I g2 (T y) 8 ≠ 0)
theorem vm.refl (T : Int → Nat) (F : rz_W) (g : cz_H) : vm T F g g := fun _ _ _ _ => ⟨id, id⟩
theorem vm.trans {T : Int → Nat} {F : rz_W} {g g1 g2 : cz_H} (a : vm T F g g1) (b : vm T F g1 g2) : vm T F g g2 := fun y y0 y1 hy => ⟨fun w => (b y y0 y1 hy).1 ((a y y0 y1 hy).1 w), fun w => (b y y0 y1 hy).2 ((a y y0 y1 hy).2 w)⟩
theorem vm_fr {P : Nat → Bool} {τ : Nat → Nat} {T : Int → Nat} {F : rz_W} {E : Int → Prop} {g g2 : cz_H} (hC : pz_C τ g T F E) (hf : ez_fr P g g2) (hP : ∀ q, τ q = 3 → P q = false) : vm T F g g2 := fun y y0 y1 _ => by
  rw [hf.I (hP _ (hC.2.2.2.2 y y0 y1).1)]
  exact ⟨id, id⟩
theorem vm_1 {τ : Nat → Nat} {T : Int → Nat} {F : rz_W} {E : Int → Prop} {g g2 : cz_H} {r : Nat} (hC : pz_C τ g T F E) (h1 : 723 ≤ r) (h2 : r ≤ 728) (hf : ez_fr (ez_one r) g g2) : vm T F g g2 := vm_fr hC hf (fun q hq => dz_beq_ne (fun e => by rw [e] at hq; exact (pz_X hC.2.1 h1 h2).1 hq))
theorem vm_r {τ : Nat → Nat} {T : Int → Nat} {F : rz_W} {E : Int → Prop} {g g2 : cz_H} {x k : Int} (hC : pz_C τ g T F E) (x0 : 0 ≤ x) (x1 : x ≤ 1114111) (hn : (F x).2 ≠ none) (ho : ∀ q, τ q = 3 → q ≠ T x → ∀ j, qz_I g2 q j = qz_I g q j) (hk : qz_I g2 (T x) 8 = k) (h0 : k ≠ 0) (h2 : qz_I g (T x) 8 = 2 → k = 2) : vm T F g g2 := fun y y0 y1 _ => by
  by_cases e : y = x
  · subst e; rw [hk]; exact ⟨fun w => h2 w, fun _ => h0⟩
  · rw [ho _ (hC.2.2.2.2 y y0 y1).1 (fun w => e (T_inj hC x0 x1 y0 y1 hn w))]
    exact ⟨id, id⟩
/-- between two expansions -/
def xy (τ : Nat → Nat) (T : Int → Nat) (F : rz_W) (E : Int → Prop) (Xs : List Int) (g : cz_H) : Prop := pz_C τ g T F E ∧ cl g T F ∧ (∀ x, 0 ≤ x → x ≤ 1114111 → (F x).2 ≠ none → qz_I g (T x) 8 ≠ 1) ∧ wz (wU g T) Xs ≤ Xs.length ∧ qz_I g 723 2 + 80 * (wz (wN g T) Xs : Int) ≤ 80 * (Xs.length : Int)
theorem xy_of {τ : Nat → Nat} {T : Int → Nat} {F : rz_W} {E : Int → Prop} {Xs : List Int} {g : cz_H} (h : xz τ T F E Xs g none []) : xy τ T F E Xs g := by
  obtain ⟨a1, a2, a3, a4, a5, a6, a7, a8⟩ := h
  exact ⟨a1, a5, fun x x0 x1 hx h1 => (by have := a6 x x0 x1 hx h1; cases this), by simpa using a7, a8⟩
theorem xy_to {τ : Nat → Nat} {T : Int → Nat} {F : rz_W} {E : Int → Prop} {Xs : List Int} {g : cz_H} (h : xy τ T F E Xs g) (h5 : qz_I g 723 5 = 0) : xz τ T F E Xs g none [] :=
  ⟨h.1, by rw [h5]; rfl, List.nodup_nil, trivial, h.2.1, fun x x0 x1 hx h1 => absurd h1 (h.2.2.1 x x0 x1 hx), by simpa using h.2.2.2.1, h.2.2.2.2⟩
/-- nothing of it hangs on the other cells -/
theorem xy_tr {τ : Nat → Nat} {T : Int → Nat} {F : rz_W} {E : Int → Prop} {Xs : List Int} {g g2 : cz_H} (hXr : ∀ x ∈ Xs, 0 ≤ x ∧ x ≤ 1114111) (h : xy τ T F E Xs g) (hB : ez_B τ g2) (hp : pz τ g g2) (hT : ∀ q, τ q = 3 → ∀ j, 8 ≤ j → qz_I g2 q j = qz_I g q j) (hu : qz_I g2 723 2 = qz_I g 723 2) (hl : ∀ j, qz_I g2 724 j = qz_I g 724 j) : xy τ T F E Xs g2 := by
  obtain ⟨a1, a2, a3, a4, a5⟩ := h
  have hI : ∀ y, 0 ≤ y → y ≤ 1114111 → ∀ j, 8 ≤ j → qz_I g2 (T y) j = qz_I g (T y) j := fun y y0 y1 j hj => hT _ (a1.2.2.2.2 y y0 y1).1 j hj
  refine ⟨a1.fr hB hp, fun y y0 y1 hy hv => ?_, fun y y0 y1 hy hv => ?_, ?_, ?_⟩
  · rw [hI y y0 y1 8 (by omega)] at hv
    obtain ⟨c1, c2⟩ := a2 y y0 y1 hy hv
    refine ⟨c1, fun c => ?_⟩
    obtain ⟨l, w1, ⟨w2, w3, w4, w5⟩, w6⟩ := c2 c
    have hs1 : 8 ≤ sa c := by unfold sa; cases c <;> decide
    have hs2 : 8 ≤ sl c := by unfold sl; cases c <;> decide
    exact ⟨l, w1, ⟨by rw [hI y y0 y1 _ hs2]; exact w2, by rw [hI y y0 y1 _ hs1]; exact w3, by rw [hI y y0 y1 _ hs1, hu]; exact w4, fun j v hj => by rw [hI y y0 y1 _ hs1, hl]; exact w5 j v hj⟩, w6⟩
  · rw [hI y y0 y1 8 (by omega)] at hv; exact a3 y y0 y1 hy hv
  · rw [wz_eq2 (W := wU g T) (fun y hy => by unfold wU; rw [hI y (hXr y hy).1 (hXr y hy).2 8 (by omega)])]; exact a4
  · rw [hu, wz_eq2 (W := wN g T) (fun y hy => by unfold wN; rw [hI y (hXr y hy).1 (hXr y hy).2 8 (by omega)])]; exact a5
/-! The class: expandFrom. (Written by wip/p2/py/pv32.py.) -/
section EzXf
variable {d : Nat} {h : cz_H} {τ : Nat → Nat} {Q : cz_F → Prop} {T : Int → Nat} {F : rz_W} {E : Int → Prop} {Xs : List Int}
theorem rd_expand_0 {w st : Int} {g : cz_H} (hx : xz τ T F E Xs g none []) (s0 : 0 ≤ st) (s1 : st ≤ 10000) (hp : pz τ h g) (h8 : qz_I g 723 8 = qz_I h 723 8) (hv : vm T F h g) (kS : ∀ g, xy τ T F E Xs g → pz τ h g → qz_I g 723 8 = qz_I h 723 8 → vm T F h g → Q (.inl (some (ez_v (.inl 1))), g)) : ez_W (d + 4) cm_117 13 [(2, .inl (st)), (0, .inr (.inr (some (723)))), (1, .inr (.inr (some ((T w)))))] [] g Q := by
  have t723 : τ 723 = 55 := hx.1.2.1 723 (by decide)
  have h5 : qz_I g 723 5 = 0 := hx.2.1
  refine ez_go (n := 1) (pc' := 14) (L' := [(2, .inl (st)), (0, .inr (.inr (some (723)))), (1, .inr (.inr (some ((T w)))))]) (st' := [.inl (st)]) rfl ?_
  refine ez_ldc (1000000) rfl rfl rfl ?_
  refine ez_icmp rfl rfl ⟨by first | omega | exact (sz_i32 _).1, by first | omega | exact (sz_i32 _).2⟩ ⟨by first | omega | exact (sz_i32 _).1, by first | omega | exact (sz_i32 _).2⟩ (fun (c1 : (1000000) ≤ (st)) => ?_) (fun (c1 : ¬((1000000) ≤ (st))) => ?_)
  · exfalso; omega
  · skip
    refine ez_go (n := 1) (pc' := 20) (L' := [(2, .inl (st)), (0, .inr (.inr (some (723)))), (1, .inr (.inr (some ((T w)))))]) (st' := [.inr (.inr (some (723)))]) rfl ?_
    refine ez_gI hx.1.1 t723 rfl rfl tq_55 rfl rfl (fun (b2 : 0 ≤ qz_I g 723 5) (b2' : qz_I g 723 5 ≤ 256) => ?_)
    refine ez_if rfl rfl ⟨by first | omega | exact (sz_i32 _).1, by first | omega | exact (sz_i32 _).2⟩ (fun (c3 : (qz_I g 723 5) ≤ (0)) => ?_) (fun (c3 : ¬((qz_I g 723 5) ≤ (0))) => ?_)
    · skip
      refine ez_go (n := 1) (pc' := 122) (L' := [(2, .inl (st)), (0, .inr (.inr (some (723)))), (1, .inr (.inr (some ((T w)))))]) (st' := [.inr (.inr (some (723)))]) rfl ?_
      refine ez_gI hx.1.1 t723 rfl rfl tq_55 rfl rfl (fun (b4 : 0 ≤ qz_I g 723 5) (b4' : qz_I g 723 5 ≤ 256) => ?_)
      refine ez_if rfl rfl ⟨by first | omega | exact (sz_i32 _).1, by first | omega | exact (sz_i32 _).2⟩ (fun (c5 : (qz_I g 723 5) ≠ (0)) => ?_) (fun (c5 : ¬((qz_I g 723 5) ≠ (0))) => ?_)
      · skip
        refine ez_go (n := 1) (pc' := 133) (L' := [(2, .inl (st)), (0, .inr (.inr (some (723)))), (1, .inr (.inr (some ((T w)))))]) (st' := [.inl (0)]) rfl ?_
        exfalso; omega
      · skip
        refine ez_go (n := 2) (pc' := 133) (L' := [(2, .inl (st)), (0, .inr (.inr (some (723)))), (1, .inr (.inr (some ((T w)))))]) (st' := [.inl (1)]) rfl ?_
        exact ez_retZ rfl rfl (by decide) (kS g (xy_of hx) hp h8 hv)
    · exfalso; omega

theorem rd_expand_l {w : Int} (hw : uz_wf F) (hS : uz_S1 F) (hXr : ∀ x ∈ Xs, 0 ≤ x ∧ x ≤ 1114111) (hXs : ∀ x, (F x).2 ≠ none → x ∈ Xs) (hXl : Xs.length ≤ 256) (tw : τ (T w) = 3) (kF : ¬ (uz_S2 F ∧ uz_S3 F) → ∀ g, ez_B τ g → pz τ h g → Q (.inl (some (ez_v (.inl 0))), g)) (kS : ∀ g, xy τ T F E Xs g → pz τ h g → qz_I g 723 8 = qz_I h 723 8 → vm T F h g → Q (.inl (some (ez_v (.inl 1))), g)) : ∀ (m : Nat) (st : Int) (pt : List Int) (g : cz_H), 20 * wz (wU g T) Xs + ps g F pt ≤ m → 0 ≤ st → st + (m : Int) ≤ 10000 → xz τ T F E Xs g none pt → pz τ h g → qz_I g 723 8 = qz_I h 723 8 → vm T F h g → ez_W (d + 4) cm_117 13 [(2, .inl (st)), (0, .inr (.inr (some (723)))), (1, .inr (.inr (some ((T w)))))] [] g Q := by
  intro m
  induction m with
  | zero =>
    intro st pt g hm s0 s1 hx hp h8 hv
    cases pt with
    | nil => exact rd_expand_0 hx s0 (by omega) hp h8 hv kS
    | cons x rest =>
      exfalso
      obtain ⟨ab1, ab2, ab3, ab4, cp, vs, hdec, ab6, ab7, ab8⟩ := hx.2.2.2.1.1
      have hps : 1 ≤ ps g F (x :: rest) := by show 1 ≤ ((rl F x : Int) - qz_I g 726 rest.length + 1).toNat + ps g F rest; have : (rl F x : Int) = (vs.length : Int) := by { unfold rl; rw [hdec] }; omega
      omega
  | succ m ih =>
    intro st pt g hm s0 s1 hx hp h8 hv
    cases pt with
    | nil => exact rd_expand_0 hx s0 (by omega) hp h8 hv kS
    | cons x rest =>
        have t723 : τ 723 = 55 := hx.1.2.1 723 (by decide)
        have hcl := hx.2.2.2.2.1
        have h5 : qz_I g 723 5 = (rest.length : Int) + 1 := by have := hx.2.1; simp only [List.length_cons] at this; omega
        have ei : ((qz_I g 723 5) - (1)).toNat = rest.length := by omega
        obtain ⟨ab1, ab2, ab3, ab4, cp, vs, hdec, ab6, ab7, ab8⟩ := hx.2.2.2.1.1
        have hnx : (F x).2 ≠ none := by rw [hdec]; exact fun e => by cases e
        obtain ⟨tT, -, -, f4⟩ := hx.1.2.2.2.2 x ab1.1 ab1.2
        obtain ⟨f40, f41, f42, f43, f44, f45⟩ := f4 cp vs hdec
        have hlv := ((hw x).2 cp vs hdec).2.1
        have hus := hx.2.2.2.2.2.2.2
        have hdl := hx.2.2.2.2.2.2.1
        simp only [List.length_cons] at hdl
        have hps : 1 ≤ ps g F (x :: rest) := by show 1 ≤ ((rl F x : Int) - qz_I g 726 rest.length + 1).toNat + ps g F rest; have : (rl F x : Int) = (vs.length : Int) := by { unfold rl; rw [hdec] }; omega
        refine ez_go (n := 1) (pc' := 14) (L' := [(2, .inl (st)), (0, .inr (.inr (some (723)))), (1, .inr (.inr (some ((T w)))))]) (st' := [.inl (st)]) rfl ?_
        refine ez_ldc (1000000) rfl rfl rfl ?_
        refine ez_icmp rfl rfl ⟨by first | omega | exact (sz_i32 _).1, by first | omega | exact (sz_i32 _).2⟩ ⟨by first | omega | exact (sz_i32 _).1, by first | omega | exact (sz_i32 _).2⟩ (fun (c1 : (1000000) ≤ (st)) => ?_) (fun (c1 : ¬((1000000) ≤ (st))) => ?_)
        · exfalso; omega
        · skip
          refine ez_go (n := 1) (pc' := 20) (L' := [(2, .inl (st)), (0, .inr (.inr (some (723)))), (1, .inr (.inr (some ((T w)))))]) (st' := [.inr (.inr (some (723)))]) rfl ?_
          refine ez_gI hx.1.1 t723 rfl rfl tq_55 rfl rfl (fun (b2 : 0 ≤ qz_I g 723 5) (b2' : qz_I g 723 5 ≤ 256) => ?_)
          refine ez_if rfl rfl ⟨by first | omega | exact (sz_i32 _).1, by first | omega | exact (sz_i32 _).2⟩ (fun (c3 : (qz_I g 723 5) ≤ (0)) => ?_) (fun (c3 : ¬((qz_I g 723 5) ≤ (0))) => ?_)
          · exfalso; omega
          · skip
            refine ez_go (n := 1) (pc' := 27) (L' := [(2, .inl (st)), (0, .inr (.inr (some (723)))), (1, .inr (.inr (some ((T w)))))]) (st' := [.inr (.inr (some (723)))]) rfl ?_
            refine ez_gC (p := 725) (tg := 57) hx.1.1 t723 rfl rfl tq_55 rfl rfl (fun (t725 : _ = 57) => ?_)
            refine ez_go (n := 1) (pc' := 31) (L' := [(2, .inl (st)), (0, .inr (.inr (some (723)))), (1, .inr (.inr (some ((T w)))))]) (st' := [.inr (.inr (some (723))), .inr (.inr (some (725)))]) rfl ?_
            refine ez_gI hx.1.1 t723 rfl rfl tq_55 rfl rfl (fun (b4 : 0 ≤ qz_I g 723 5) (b4' : qz_I g 723 5 ≤ 256) => ?_)
            refine ez_go (n := 2) (pc' := 36) (L' := [(2, .inl (st)), (0, .inr (.inr (some (723)))), (1, .inr (.inr (some ((T w)))))]) (st' := [.inl ((qz_I g 723 5) - (1)), .inr (.inr (some (725)))]) rfl ?_
            have n6 : 256 ≤ qz_N g 725 ∧ qz_N g 725 ≤ 256 := ez_len hx.1.1 t725 tq_57 rfl
            have y7 : 1 ≤ qz_I g 725 ((qz_I g 723 5) - (1)).toNat := (by rw [ei, ab3]; omega)
            have y8 : 0 ≤ qz_I g 725 ((qz_I g 723 5) - (1)).toNat ∧ qz_I g 725 ((qz_I g 723 5) - (1)).toNat ≤ 1000000 := ez_aB hx.1.1 t725 tq_57 rfl rfl (by decide) (by omega) (by omega)
            have y8' : ((qz_P g 725 ((qz_I g 723 5) - (1)).toNat : Nat) : Int) + 1 = qz_I g 725 ((qz_I g 723 5) - (1)).toNat := by unfold qz_P; omega
            refine ez_aR hx.1.1 t725 rfl tq_57 rfl rfl (by omega) (by omega) (by omega) (fun (t5 : _ = 3) => ?_)
            have eP : qz_P g 725 ((qz_I g 723 5) - (1)).toNat = T x := by unfold qz_P; rw [ei, ab3]; omega
            rw [eP]
            refine ez_go (n := 2) (pc' := 39) (L' := [(3, .inr (.inr (some ((T x))))), (2, .inl (st)), (0, .inr (.inr (some (723)))), (1, .inr (.inr (some ((T w)))))]) (st' := [.inr (.inr (some (723)))]) rfl ?_
            refine ez_gC (p := 726) (tg := 58) hx.1.1 t723 rfl rfl tq_55 rfl rfl (fun (t726 : _ = 58) => ?_)
            refine ez_go (n := 1) (pc' := 43) (L' := [(3, .inr (.inr (some ((T x))))), (2, .inl (st)), (0, .inr (.inr (some (723)))), (1, .inr (.inr (some ((T w)))))]) (st' := [.inr (.inr (some (723))), .inr (.inr (some (726)))]) rfl ?_
            refine ez_gI hx.1.1 t723 rfl rfl tq_55 rfl rfl (fun (b9 : 0 ≤ qz_I g 723 5) (b9' : qz_I g 723 5 ≤ 256) => ?_)
            refine ez_go (n := 2) (pc' := 48) (L' := [(3, .inr (.inr (some ((T x))))), (2, .inl (st)), (0, .inr (.inr (some (723)))), (1, .inr (.inr (some ((T w)))))]) (st' := [.inl ((qz_I g 723 5) - (1)), .inr (.inr (some (726)))]) rfl ?_
            have n11 : 256 ≤ qz_N g 726 ∧ qz_N g 726 ≤ 256 := ez_len hx.1.1 t726 tq_58 rfl
            refine ez_aI hx.1.1 t726 rfl tq_58 rfl rfl (by omega) (by omega) (fun (b10 : 0 ≤ qz_I g 726 ((qz_I g 723 5) - (1)).toNat) (b10' : qz_I g 726 ((qz_I g 723 5) - (1)).toNat ≤ 18) => ?_)
            rw [ei]
            have hcb : 0 ≤ qz_I g 726 rest.length ∧ qz_I g 726 rest.length ≤ 18 := by omega
            refine ez_go (n := 3) (pc' := 54) (L' := [(4, .inl (qz_I g 726 rest.length)), (3, .inr (.inr (some ((T x))))), (2, .inl (st)), (0, .inr (.inr (some (723)))), (1, .inr (.inr (some ((T w)))))]) (st' := [.inr (.inr (some ((T x)))), .inl (qz_I g 726 rest.length)]) rfl ?_
            refine ez_gN hx.1.1 tT rfl rfl tq_3 rfl rfl (fun (t12 : qz_I g ((T x)) 3 = 0) => ?_) (fun (t12 : _ = 5) (t12' : 1 ≤ qz_I g ((T x)) 3) => ?_)
            · exfalso; omega
            · skip
              refine ez_al hx.1.1 t12 rfl tq_5 rfl (fun (b13 : 0 ≤ qz_N g (qz_P g ((T x)) 3)) (b13' : qz_N g (qz_P g ((T x)) 3) ≤ 18) => ?_)
              refine ez_icmp rfl rfl ⟨by first | omega | exact (sz_i32 _).1, by first | omega | exact (sz_i32 _).2⟩ ⟨by first | omega | exact (sz_i32 _).1, by first | omega | exact (sz_i32 _).2⟩ (fun (c14 : (qz_I g 726 rest.length) ≠ (qz_N g (qz_P g ((T x)) 3))) => ?_) (fun (c14 : ¬((qz_I g 726 rest.length) ≠ (qz_N g (qz_P g ((T x)) 3)))) => ?_)
              · skip
                refine ez_go (n := 1) (pc' := 85) (L' := [(4, .inl (qz_I g 726 rest.length)), (3, .inr (.inr (some ((T x))))), (2, .inl (st)), (0, .inr (.inr (some (723)))), (1, .inr (.inr (some ((T w)))))]) (st' := [.inr (.inr (some (723)))]) rfl ?_
                refine ez_gC (p := 726) (tg := 58) hx.1.1 t723 rfl rfl tq_55 rfl rfl (fun (t726 : _ = 58) => ?_)
                refine ez_go (n := 1) (pc' := 89) (L' := [(4, .inl (qz_I g 726 rest.length)), (3, .inr (.inr (some ((T x))))), (2, .inl (st)), (0, .inr (.inr (some (723)))), (1, .inr (.inr (some ((T w)))))]) (st' := [.inr (.inr (some (723))), .inr (.inr (some (726)))]) rfl ?_
                refine ez_gI hx.1.1 t723 rfl rfl tq_55 rfl rfl (fun (b15 : 0 ≤ qz_I g 723 5) (b15' : qz_I g 723 5 ≤ 256) => ?_)
                refine ez_go (n := 3) (pc' := 95) (L' := [(4, .inl (qz_I g 726 rest.length)), (3, .inr (.inr (some ((T x))))), (2, .inl (st)), (0, .inr (.inr (some (723)))), (1, .inr (.inr (some ((T w)))))]) (st' := [.inl ((qz_I g 723 5) - (1)), .inr (.inr (some (726))), .inl ((qz_I g 723 5) - (1)), .inr (.inr (some (726)))]) rfl ?_
                have n17 : 256 ≤ qz_N g 726 ∧ qz_N g 726 ≤ 256 := ez_len hx.1.1 t726 tq_58 rfl
                refine ez_aI hx.1.1 t726 rfl tq_58 rfl rfl (by omega) (by omega) (fun (b16 : 0 ≤ qz_I g 726 ((qz_I g 723 5) - (1)).toNat) (b16' : qz_I g 726 ((qz_I g 723 5) - (1)).toNat ≤ 18) => ?_)
                have ec2 : qz_I g 726 ((qz_I g 723 5) - (1)).toNat = qz_I g 726 rest.length := by rw [ei]
                refine ez_go (n := 2) (pc' := 98) (L' := [(4, .inl (qz_I g 726 rest.length)), (3, .inr (.inr (some ((T x))))), (2, .inl (st)), (0, .inr (.inr (some (723)))), (1, .inr (.inr (some ((T w)))))]) (st' := [.inl ((qz_I g 726 ((qz_I g 723 5) - (1)).toNat) + (1)), .inl ((qz_I g 723 5) - (1)), .inr (.inr (some (726)))]) rfl ?_
                have n20 : 256 ≤ qz_N g 726 ∧ qz_N g 726 ≤ 256 := ez_len hx.1.1 t726 tq_58 rfl
                refine ez_as hx.1.1 t726 rfl tq_58 rfl rfl (by omega) (by omega) (ez_vdI rfl rfl (by omega) (by omega)) (fun hB18 w19 => ?_)
                have h726 : qz_I (dz_put g 726 ((qz_I g 723 5) - (1)).toNat (ez_v (.inl ((qz_I g 726 ((qz_I g 723 5) - (1)).toNat) + (1))))) 726 rest.length = qz_I g 726 rest.length + 1 := by
                  have q := w19
                  rw [rz_rd ⟨by omega, by omega⟩] at q; rw [ei] at q ⊢; exact q
                have nT : T x ≠ 726 := fun e => by rw [e, hx.1.2.1 726 (by decide)] at tT; cases tT
                have hr3 : qz_I (dz_put g 726 ((qz_I g 723 5) - (1)).toNat (ez_v (.inl ((qz_I g 726 ((qz_I g 723 5) - (1)).toNat) + (1))))) (T x) 3 = qz_I g (T x) 3 := ez_put_I (fun w => nT w.1)
                have hrP : qz_P (dz_put g 726 ((qz_I g 723 5) - (1)).toNat (ez_v (.inl ((qz_I g 726 ((qz_I g 723 5) - (1)).toNat) + (1))))) (T x) 3 = qz_P g (T x) 3 := ez_put_P (fun w => nT w.1)
                have hrN : qz_N (dz_put g 726 ((qz_I g 723 5) - (1)).toNat (ez_v (.inl ((qz_I g 726 ((qz_I g 723 5) - (1)).toNat) + (1))))) (qz_P (dz_put g 726 ((qz_I g 723 5) - (1)).toNat (ez_v (.inl ((qz_I g 726 ((qz_I g 723 5) - (1)).toNat) + (1))))) (T x) 3) = (vs.length : Int) := by rw [hrP, ez_put_N]; exact f44
                have h726o : ∀ i, i ≠ rest.length → qz_I (dz_put g 726 ((qz_I g 723 5) - (1)).toNat (ez_v (.inl ((qz_I g 726 ((qz_I g 723 5) - (1)).toNat) + (1))))) 726 i = qz_I g 726 i := fun i hi => ez_put_I (by omega)
                refine ez_go (n := 2) (pc' := 101) (L' := [(4, .inl (qz_I g 726 rest.length)), (3, .inr (.inr (some ((T x))))), (2, .inl (st)), (0, .inr (.inr (some (723)))), (1, .inr (.inr (some ((T w)))))]) (st' := [.inr (.inr (some ((T x)))), .inr (.inr (some (723)))]) rfl ?_
                refine ez_gN hB18 tT rfl rfl tq_3 rfl rfl (fun (t21 : qz_I (dz_put g 726 ((qz_I g 723 5) - (1)).toNat (ez_v (.inl ((qz_I g 726 ((qz_I g 723 5) - (1)).toNat) + (1))))) ((T x)) 3 = 0) => ?_) (fun (t21 : _ = 5) (t21' : 1 ≤ qz_I (dz_put g 726 ((qz_I g 723 5) - (1)).toNat (ez_v (.inl ((qz_I g 726 ((qz_I g 723 5) - (1)).toNat) + (1))))) ((T x)) 3) => ?_)
                · exfalso; omega
                · skip
                  refine ez_go (n := 1) (pc' := 106) (L' := [(4, .inl (qz_I g 726 rest.length)), (3, .inr (.inr (some ((T x))))), (2, .inl (st)), (0, .inr (.inr (some (723)))), (1, .inr (.inr (some ((T w)))))]) (st' := [.inl (qz_I g 726 rest.length), .inr (.inr (some (qz_P (dz_put g 726 ((qz_I g 723 5) - (1)).toNat (ez_v (.inl ((qz_I g 726 ((qz_I g 723 5) - (1)).toNat) + (1))))) ((T x)) 3))), .inr (.inr (some (723)))]) rfl ?_
                  have n23 : qz_N (dz_put g 726 ((qz_I g 723 5) - (1)).toNat (ez_v (.inl ((qz_I g 726 ((qz_I g 723 5) - (1)).toNat) + (1))))) (qz_P (dz_put g 726 ((qz_I g 723 5) - (1)).toNat (ez_v (.inl ((qz_I g 726 ((qz_I g 723 5) - (1)).toNat) + (1))))) ((T x)) 3) = qz_N g (qz_P (dz_put g 726 ((qz_I g 723 5) - (1)).toNat (ez_v (.inl ((qz_I g 726 ((qz_I g 723 5) - (1)).toNat) + (1))))) ((T x)) 3) := ez_put_N _
                  have n24 : 0 ≤ qz_N (dz_put g 726 ((qz_I g 723 5) - (1)).toNat (ez_v (.inl ((qz_I g 726 ((qz_I g 723 5) - (1)).toNat) + (1))))) (qz_P (dz_put g 726 ((qz_I g 723 5) - (1)).toNat (ez_v (.inl ((qz_I g 726 ((qz_I g 723 5) - (1)).toNat) + (1))))) ((T x)) 3) ∧ qz_N (dz_put g 726 ((qz_I g 723 5) - (1)).toNat (ez_v (.inl ((qz_I g 726 ((qz_I g 723 5) - (1)).toNat) + (1))))) (qz_P (dz_put g 726 ((qz_I g 723 5) - (1)).toNat (ez_v (.inl ((qz_I g 726 ((qz_I g 723 5) - (1)).toNat) + (1))))) ((T x)) 3) ≤ 18 := ez_len hB18 t21 tq_5 rfl
                  refine ez_aI hB18 t21 rfl tq_5 rfl rfl (by omega) (by omega) (fun (b22 : -2147483648 ≤ qz_I (dz_put g 726 ((qz_I g 723 5) - (1)).toNat (ez_v (.inl ((qz_I g 726 ((qz_I g 723 5) - (1)).toNat) + (1))))) (qz_P (dz_put g 726 ((qz_I g 723 5) - (1)).toNat (ez_v (.inl ((qz_I g 726 ((qz_I g 723 5) - (1)).toNat) + (1))))) ((T x)) 3) (qz_I g 726 rest.length).toNat) (b22' : qz_I (dz_put g 726 ((qz_I g 723 5) - (1)).toNat (ez_v (.inl ((qz_I g 726 ((qz_I g 723 5) - (1)).toNat) + (1))))) (qz_P (dz_put g 726 ((qz_I g 723 5) - (1)).toNat (ez_v (.inl ((qz_I g 726 ((qz_I g 723 5) - (1)).toNat) + (1))))) ((T x)) 3) (qz_I g 726 rest.length).toNat ≤ 2147483647) => ?_)
                  have hlt : (qz_I g 726 rest.length).toNat < vs.length := by omega
                  have hv2 := List.getElem?_eq_getElem hlt
                  have hvr : ∀ v ∈ vs, 0 ≤ v ∧ v ≤ 1114111 := ((hw x).2 cp vs hdec).2.2.1
                  have vr := hvr _ (List.getElem_mem hlt)
                  have hv3 : qz_I (dz_put g 726 ((qz_I g 723 5) - (1)).toNat (ez_v (.inl ((qz_I g 726 ((qz_I g 723 5) - (1)).toNat) + (1))))) (qz_P (dz_put g 726 ((qz_I g 723 5) - (1)).toNat (ez_v (.inl ((qz_I g 726 ((qz_I g 723 5) - (1)).toNat) + (1))))) ((T x)) 3) (qz_I g 726 rest.length).toNat = vs[(qz_I g 726 rest.length).toNat] := by
                    have q5 := f45 _ _ hv2
                    have n5 : qz_P g (T x) 3 ≠ 726 := fun e => by rw [e, hx.1.2.1 726 (by decide)] at f43; cases f43
                    have nT : T x ≠ 726 := fun e => by rw [e, hx.1.2.1 726 (by decide)] at tT; cases tT
                    rw [ez_put_P (fun w => nT w.1), ez_put_I (fun w => n5 w.1)]; exact q5
                  rw [hv3]
                  generalize vs[(qz_I g 726 rest.length).toNat] = v at *
                  obtain ⟨xP, psP, wP⟩ := xz_P (g2 := (dz_put g 726 ((qz_I g 723 5) - (1)).toNat (ez_v (.inl ((qz_I g 726 ((qz_I g 723 5) - (1)).toNat) + (1)))))) hw hXr hx hdec hv2 hB18 ((ez_fr.refl (ez_one 726) g).put (show Nat.beq 726 726 = true from rfl) _ _) h726 h726o
                  have pP : pz τ g (dz_put g 726 ((qz_I g 723 5) - (1)).toNat (ez_v (.inl ((qz_I g 726 ((qz_I g 723 5) - (1)).toNat) + (1))))) := pz_put (by omega) (by omega) (pz_X hx.1.2.1 (by omega) (by omega)).1
                  have vP : vm T F g (dz_put g 726 ((qz_I g 723 5) - (1)).toNat (ez_v (.inl ((qz_I g 726 ((qz_I g 723 5) - (1)).toNat) + (1))))) := vm_1 hx.1 (by omega) (by omega) ((ez_fr.refl (ez_one 726) g).put (show Nat.beq 726 726 = true from rfl) _ _)
                  have u8 : qz_I (dz_put g 726 ((qz_I g 723 5) - (1)).toNat (ez_v (.inl ((qz_I g 726 ((qz_I g 723 5) - (1)).toNat) + (1))))) 723 8 = qz_I g 723 8 := ez_put_I (by omega)
                  have u5 : qz_I (dz_put g 726 ((qz_I g 723 5) - (1)).toNat (ez_v (.inl ((qz_I g 726 ((qz_I g 723 5) - (1)).toNat) + (1))))) 723 5 = qz_I g 723 5 := ez_put_I (by omega)
                  generalize (dz_put g 726 ((qz_I g 723 5) - (1)).toNat (ez_v (.inl ((qz_I g 726 ((qz_I g 723 5) - (1)).toNat) + (1))))) = gp at *
                  have hU1 : ¬ hz v → (F v).2 ≠ none → qz_I gp (T v) 8 = 0 → qz_I gp 723 5 < 256 := fun _ hn h0 => by
                    have := wz_lt2 (W := wU gp T) (W' := fun _ => 0) (y := v) (k := 1) (xs := Xs) (fun _ _ => Nat.zero_le _) (hXs v hn) (by unfold wU; rw [h0, if_pos rfl]; omega)
                    have q7 := xP.2.2.2.2.2.2.1
                    have q2 := xP.2.1
                    omega
                  refine ez_cv xP.1.1 t723 rfl rfl rfl tq_55 rfl rfl rfl (rd_descend xP.1 vr.1 vr.2 hU1 (fun hdn => ez_K1 ?_) (fun e1 e2 e3 g2 hen => ez_K1 ?_) (fun e1 e2 e3 => ez_K1 ?_))
                  · skip
                    refine ez_if rfl rfl ⟨by decide, by decide⟩ (fun _ => ?_) (fun (c25 : ¬((1 : Int) ≠ (0))) => absurd c25 (by decide))
                    refine ez_go (n := 2) (pc' := 13) (L' := [(2, .inl (st + 1)), (4, .inl (qz_I g 726 rest.length)), (3, .inr (.inr (some ((T x))))), (0, .inr (.inr (some (723)))), (1, .inr (.inr (some ((T w)))))]) (st' := []) rfl ?_
                    refine ez_less [(2, .inl (st + 1)), (0, .inr (.inr (some (723)))), (1, .inr (.inr (some ((T w)))))] rfl ⟨rfl, rfl, rfl, trivial⟩ ?_
                    exact ih _ _ gp (by rw [wP]; omega) (by omega) (by omega) (xz_D xP hdn) (hp.trans pP) (u8.trans h8) (hv.trans vP)
                  · skip
                    refine ez_if rfl rfl ⟨by decide, by decide⟩ (fun _ => ?_) (fun (c26 : ¬((1 : Int) ≠ (0))) => absurd c26 (by decide))
                    refine ez_go (n := 2) (pc' := 13) (L' := [(2, .inl (st + 1)), (4, .inl (qz_I g 726 rest.length)), (3, .inr (.inr (some ((T x))))), (0, .inr (.inr (some (723)))), (1, .inr (.inr (some ((T w)))))]) (st' := []) rfl ?_
                    refine ez_less [(2, .inl (st + 1)), (0, .inr (.inr (some (723)))), (1, .inr (.inr (some ((T w)))))] rfl ⟨rfl, rfl, rfl, trivial⟩ ?_
                    have hen2 : en τ gp g2 (T v) (((x :: rest).length : Nat) : Int) := by rw [← xP.2.1]; exact hen
                    obtain ⟨xE, pE⟩ := xz_E hw hXr hXs xP vr.1 vr.2 e1 e2 e3 hen2
                    exact ih _ _ g2 (by rw [wP] at pE; omega) (by omega) (by omega) xE ((hp.trans pP).trans hen.2.1) ((hen.2.2.2.2.2.2.1 8 (by decide)).trans (u8.trans h8)) ((hv.trans vP).trans (vm_r xP.1 vr.1 vr.2 e2 (fun q q1 q2 j => by unfold qz_I; rw [hen.2.2.1 q q1 q2]) hen.2.2.2.1 (by decide) (fun w => by omega)))
                  · skip
                    refine ez_if rfl rfl ⟨by decide, by decide⟩ (fun (c27 : (0 : Int) ≠ (0)) => absurd c27 (by decide)) (fun _ => ?_)
                    refine ez_go (n := 1) (pc' := 114) (L' := [(4, .inl (qz_I g 726 rest.length)), (3, .inr (.inr (some ((T x))))), (2, .inl (st)), (0, .inr (.inr (some (723)))), (1, .inr (.inr (some ((T w)))))]) (st' := [.inl (0)]) rfl ?_
                    exact ez_retZ rfl rfl (by decide) (kF (fun hss => xz_cyc xP (xP.2.2.2.2.2.1 v vr.1 vr.2 e2 e3) (hss.1 v e2)) gp xP.1.1 (hp.trans pP))
              · skip
                refine ez_go (n := 2) (pc' := 63) (L' := [(4, .inl (qz_I g 726 rest.length)), (3, .inr (.inr (some ((T x))))), (2, .inl (st)), (0, .inr (.inr (some (723)))), (1, .inr (.inr (some ((T w)))))]) (st' := [.inr (.inr (some ((T x)))), .inr (.inr (some (723)))]) rfl ?_
                have hc : qz_I g 726 rest.length = (vs.length : Int) := by omega
                have hch : ∀ v ∈ vs, dd g T F v := fun v hv => by obtain ⟨j, hj⟩ := List.mem_iff_getElem?.mp hv; exact ab8 j v (by have := (List.getElem?_eq_some_iff.mp hj).1; omega) hj
                have hvr : ∀ v ∈ vs, 0 ≤ v ∧ v ≤ 1114111 := ((hw x).2 cp vs hdec).2.2.1
                obtain ⟨f1, hf1⟩ := dd_fun hcl hS hvr hch true
                obtain ⟨f2, hf2⟩ := dd_fun hcl hS hvr hch false
                have hcp := ((hw x).2 cp vs hdec).1
                obtain ⟨l2, hl2⟩ : ∃ l2, l2 = if cp = 1 then [x] else ct f2 vs := ⟨_, rfl⟩
                have u1 : uz_F F true x (ct f1 vs) := uz_row ab2 hdec (Or.inl rfl) (ct_FL (fun v hv => (hf1 v hv).2))
                have u2 : uz_F F false x l2 := by
                  rcases hcp with e | e
                  · rw [hl2, if_neg (by omega)]; exact uz_row ab2 hdec (Or.inr e) (ct_FL (fun v hv => (hf2 v hv).2))
                  · rw [hl2, if_pos e]; exact uz_keep ab2 hdec (by simp; omega)
                have haz : az_e F x := az_row hdec (fun v hv => by
                  by_cases e : hz v
                  · exact az_leaf (Or.inl e)
                  · by_cases e2 : (F v).2 = none
                    · exact az_leaf (Or.inr e2)
                    · exact (hcl v (hvr v hv).1 (hvr v hv).2 e2 ((hch v hv).resolve_left e |>.resolve_left e2)).1)
                have hN1 : 1 ≤ wz (wN g T) Xs := by
                  have := wz_lt2 (W := wN g T) (W' := fun _ => 0) (y := x) (k := 1) (xs := Xs) (fun _ _ => Nat.zero_le _) (hXs x hnx) (by unfold wN; rw [ab4, if_neg (by decide)]; omega)
                  omega
                refine ez_cv hx.1.1 t723 rfl rfl rfl tq_55 rfl rfl rfl (rd_close hx.1 ab1.1 ab1.2 hdec hvr hcp (by omega) (fun v hv => (hf1 v hv).1) (fun v hv => (hf2 v hv).1) (fun v hv e1 e2 e3 => ?_) hl2 (fun g2 hB2 fr2 h28 h2j hpl hu s1' s2' h2v n1 n2 => ez_K1 ?_) (fun hbig g2 hB2 hp2 => ez_K1 ?_))
                · have e4 := T_inj hx.1 ab1.1 ab1.2 (hvr v hv).1 (hvr v hv).2 hnx e3
                  rcases (hch v hv).resolve_left e1 with q | q
                  · exact e2 q
                  · rw [e3] at q; omega
                · skip
                  refine ez_if rfl rfl ⟨by decide, by decide⟩ (fun _ => ?_) (fun (c28 : ¬((1 : Int) ≠ (0))) => absurd c28 (by decide))
                  refine ez_go (n := 2) (pc' := 73) (L' := [(4, .inl (qz_I g 726 rest.length)), (3, .inr (.inr (some ((T x))))), (2, .inl (st)), (0, .inr (.inr (some (723)))), (1, .inr (.inr (some ((T w)))))]) (st' := [.inr (.inr (some (723))), .inr (.inr (some (723)))]) rfl ?_
                  refine ez_gI hB2 t723 rfl rfl tq_55 rfl rfl (fun (b29 : 0 ≤ qz_I g2 723 5) (b29' : qz_I g2 723 5 ≤ 256) => ?_)
                  have hd2 : qz_I g2 723 5 = qz_I g 723 5 := h2j 5 (by decide)
                  refine ez_go (n := 2) (pc' := 78) (L' := [(4, .inl (qz_I g 726 rest.length)), (3, .inr (.inr (some ((T x))))), (2, .inl (st)), (0, .inr (.inr (some (723)))), (1, .inr (.inr (some ((T w)))))]) (st' := [.inl ((qz_I g2 723 5) - (1)), .inr (.inr (some (723)))]) rfl ?_
                  refine ez_pf hB2 t723 rfl rfl tq_55 rfl rfl rfl rfl (ez_vdI rfl rfl (by omega) (by omega)) (fun hB30 w31 => ?_)
                  refine ez_go (n := 3) (pc' := 13) (L' := [(2, .inl (st + 1)), (4, .inl (qz_I g 726 rest.length)), (3, .inr (.inr (some ((T x))))), (0, .inr (.inr (some (723)))), (1, .inr (.inr (some ((T w)))))]) (st' := []) rfl ?_
                  refine ez_less [(2, .inl (st + 1)), (0, .inr (.inr (some (723)))), (1, .inr (.inr (some ((T w)))))] rfl ⟨rfl, rfl, rfl, trivial⟩ ?_
                  have fr3 : ez_fr (ez_one 723) g2 (dz_put g2 723 5 (ez_v (.inl ((qz_I g2 723 5) - (1))))) := (ez_fr.refl (ez_one 723) g2).put (show Nat.beq 723 723 = true from rfl) _ _
                  obtain ⟨xX, psX, wX⟩ := xz_X (g3 := (dz_put g2 723 5 (ez_v (.inl ((qz_I g2 723 5) - (1)))))) hw hXr hXs hx hdec hc haz u1 u2 hB2 fr2 h28 h2j hpl hu s1' s2' h2v n1 n2 hB30 fr3 (by rw [w31, rz_rd ⟨by omega, by omega⟩]) (fun j hj => ez_put_I (fun w => hj w.2))
                  have vX : vm T F g (dz_put g2 723 5 (ez_v (.inl ((qz_I g2 723 5) - (1))))) := (vm_r hx.1 ab1.1 ab1.2 hnx (fun q q1 q2 j => fr2.I (by unfold nz_PR nz_PP; rw [dz_beq_ne q2, dz_beq_ne (fun e => by rw [e] at q1; exact (pz_X hx.1.2.1 (by omega) (by omega)).1 q1), dz_beq_ne (fun e => by rw [e] at q1; exact (pz_X hx.1.2.1 (by omega) (by omega)).1 q1)]; rfl) j) h2v (by decide) (fun _ => rfl)).trans (vm_1 (hx.1.fr hB2 (nz_PR_pz hx.1.2.1 tT fr2 h28)) (by omega) (by omega) fr3)
                  have u8 : qz_I (dz_put g2 723 5 (ez_v (.inl ((qz_I g2 723 5) - (1))))) 723 8 = qz_I g 723 8 := (ez_put_I (by omega)).trans (h2j 8 (by decide))
                  exact ih _ _ _ (by rw [wX]; omega) (by omega) (by omega) xX ((hp.trans (nz_PR_pz hx.1.2.1 tT fr2 h28)).trans (pz_put (by omega) (by omega) (pz_X hx.1.2.1 (by omega) (by omega)).1)) (u8.trans h8) (hv.trans vX)
                · skip
                  refine ez_if rfl rfl ⟨by decide, by decide⟩ (fun (c32 : (0 : Int) ≠ (0)) => absurd c32 (by decide)) (fun _ => ?_)
                  refine ez_go (n := 1) (pc' := 70) (L' := [(4, .inl (qz_I g 726 rest.length)), (3, .inr (.inr (some ((T x))))), (2, .inl (st)), (0, .inr (.inr (some (723)))), (1, .inr (.inr (some ((T w)))))]) (st' := [.inl (0)]) rfl ?_
                  refine ez_retZ rfl rfl (by decide) (kF (fun hss => ?_) g2 hB2 (hp.trans hp2))
                  rcases hbig with q | q
                  · obtain ⟨l, l1, l2'⟩ := hss.2 x hnx true; rw [uz_uniq u1 l1] at q; omega
                  · obtain ⟨l, l1, l2'⟩ := hss.2 x hnx false; rw [uz_uniq u2 l1] at q; omega

end EzXf
/-! The class: expandFrom, checkShapes. (Written by wip/p2/py/pv33.py.) -/
section EzXg
variable {d : Nat} {h : cz_H} {τ : Nat → Nat} {Q : cz_F → Prop} {T : Int → Nat} {F : rz_W} {E : Int → Prop} {Xs : List Int}
theorem wz_one {W : Int → Nat} (h : ∀ x, W x ≤ 1) : ∀ xs : List Int, wz W xs ≤ xs.length
  | [] => Nat.le_refl _
  | x :: xs => by
    have := wz_one h xs
    have := h x
    unfold wz
    simp only [List.length_cons]
    omega
theorem wU_le (g : cz_H) (T : Int → Nat) (x : Int) : wU g T x ≤ 1 := by unfold wU; split <;> omega
theorem wN_le (g : cz_H) (T : Int → Nat) (x : Int) : wN g T x ≤ 1 := by unfold wN; split <;> omega
/-- span i begins with its first point -/
theorem sz_first {g : cz_H} (hs : sz_ok g) {i : Int} (i0 : 0 ≤ i) (i1 : i < qz_I g 202 1) : sz_at g (sz_f g i) i ∧ 0 ≤ sz_f g i ∧ sz_f g i ≤ 1114111 := by
  refine ⟨⟨i0, i1, Int.le_refl _, fun w => (hs.2 i (i + 1) i0 (by omega) w).1⟩, ?_⟩
  by_cases e : i = 0
  · subst e; rw [hs.1]; omega
  · have := hs.2 0 i (by omega) (by omega) i1
    rw [hs.1] at this
    omega
/-- a decomposed point is the first of its span -/
theorem sz_dec {g : cz_H} (hC : pz_C τ g T F E) {x : Int} (x0 : 0 ≤ x) (x1 : x ≤ 1114111) (hn : (F x).2 ≠ none) : ∃ k, 0 ≤ k ∧ k < qz_I g 202 1 ∧ sz_f g k = x := by
  have t202 : τ 202 = 48 := hC.2.1 202 (by decide)
  have bn := sz_R_n1 hC.1 t202
  obtain ⟨k, hk⟩ := sz_at_ex hC.2.2.1 bn.1 x0
  obtain ⟨h1, h2, h3⟩ := sz_first hC.2.2.1 hk.1 hk.2.1
  have e1 := (hC.2.2.2.1 x k x0 x1 hk).1
  have e2 := (hC.2.2.2.1 _ k h2 h3 h1).1
  exact ⟨k, hk.1, hk.2.1, T_inj hC x0 x1 h2 h3 hn (by omega)⟩
theorem rd_expandFrom {w : Int} (hw : uz_wf F) (hS : uz_S1 F) (hXr : ∀ x ∈ Xs, 0 ≤ x ∧ x ≤ 1114111) (hXs : ∀ x, (F x).2 ≠ none → x ∈ Xs) (hXl : Xs.length ≤ 256) (hx : xy τ T F E Xs h) (w0 : 0 ≤ w) (w1 : w ≤ 1114111) (hzw : ¬ hz w) (hnw : (F w).2 ≠ none) (h8 : qz_I h (T w) 8 = 0) (kF : ¬ (uz_S2 F ∧ uz_S3 F) → ∀ g, ez_B τ g → pz τ h g → Q (.inl (some (ez_v (.inl 0))), g)) (kS : ∀ g, xy τ T F E Xs g → pz τ h g → qz_I g 723 8 = qz_I h 723 8 → vm T F h g → qz_I g (T w) 8 = 2 → Q (.inl (some (ez_v (.inl 1))), g)) : ez_W (d + 4) cm_117 0 [(0, .inr (.inr (some (723)))), (1, .inr (.inr (some ((T w)))))] [] h Q := by
  have t723 : τ 723 = 55 := hx.1.2.1 723 (by decide)
  have tw : τ (T w) = 3 := (hx.1.2.2.2.2 w w0 w1).1
  have lT := dz_here_lt (hx.1.1.1 _ (by rw [tw]; decide)).1
  have rm : h.1 + 0 ≤ 600192 := by have : cz_room h 0 0 = true := hx.1.1.2.1; unfold cz_room at this; rw [Bool.and_eq_true] at this; exact Nat.ble_eq.mp this.1
  refine ez_go (n := 2) (pc' := 2) (L' := [(0, .inr (.inr (some (723)))), (1, .inr (.inr (some ((T w)))))]) (st' := [.inl (0), .inr (.inr (some (723)))]) rfl ?_
  refine ez_pf hx.1.1 t723 rfl rfl tq_55 rfl rfl rfl rfl (ez_vdI rfl rfl (by omega) (by omega)) (fun hB1 w2 => ?_)
  refine ez_go (n := 2) (pc' := 7) (L' := [(0, .inr (.inr (some (723)))), (1, .inr (.inr (some ((T w)))))]) (st' := [.inr (.inr (some ((T w)))), .inr (.inr (some (723)))]) rfl ?_
  have x1 : xy τ T F E Xs (dz_put h 723 5 (ez_v (.inl (0)))) := xy_tr hXr hx hB1 (pz_put (by omega) (by omega) (pz_X hx.1.2.1 (by omega) (by omega)).1) (fun q hq j _ => ez_put_I (fun w => by rw [w.1, t723] at hq; cases hq)) (ez_put_I (by omega)) (fun j => ez_put_I (by omega))
  have h50 : qz_I (dz_put h 723 5 (ez_v (.inl (0)))) 723 5 = 0 := by rw [w2]; rfl
  have x2 := xy_to x1 h50
  have p1 : pz τ h (dz_put h 723 5 (ez_v (.inl (0)))) := pz_put (by omega) (by omega) (pz_X hx.1.2.1 (by omega) (by omega)).1
  have v1 : vm T F h (dz_put h 723 5 (ez_v (.inl (0)))) := vm_1 hx.1 (by omega) (by omega) ((ez_fr.refl (ez_one 723) h).put (show Nat.beq 723 723 = true from rfl) _ _)
  have e8 : qz_I (dz_put h 723 5 (ez_v (.inl (0)))) 723 8 = qz_I h 723 8 := ez_put_I (by omega)
  have eT8 : qz_I (dz_put h 723 5 (ez_v (.inl (0)))) (T w) 8 = 0 := by rw [ez_put_I (fun w => by rw [w.1, t723] at tw; cases tw)]; exact h8
  generalize (dz_put h 723 5 (ez_v (.inl (0)))) = g at *
  refine ez_cv x1.1.1 t723 rfl rfl rfl tq_55 rfl rfl rfl (rd_enter x1.1.1 x1.1.2.1 tw (by omega) (by omega) (fun g2 hen => ez_K1 ?_))
  have x3 : xz τ T F E Xs g (some w) [] := ⟨x2.1, x2.2.1, x2.2.2.1, trivial, x2.2.2.2.2.1, x2.2.2.2.2.2⟩
  have hen2 : en τ g g2 (T w) ((([] : List Int).length : Nat) : Int) := by rw [← x2.2.1]; exact hen
  obtain ⟨x4, ps4⟩ := xz_E hw hXr hXs x3 w0 w1 hzw hnw eT8 hen2
  have v2 : vm T F g g2 := vm_r x1.1 w0 w1 hnw (fun q q1 q2 j => by unfold qz_I; rw [hen.2.2.1 q q1 q2]) hen.2.2.2.1 (by decide) (fun w => by omega)
  have hps0 : ps g F [] = 0 := rfl
  have hwU := wz_one (wU_le g T) Xs
  refine ez_go (n := 3) (pc' := 13) (L' := [(2, .inl (0)), (0, .inr (.inr (some (723)))), (1, .inr (.inr (some ((T w)))))]) (st' := []) rfl ?_
  refine ez_less [(2, .inl (0)), (0, .inr (.inr (some (723)))), (1, .inr (.inr (some ((T w)))))] rfl ⟨rfl, rfl, rfl, trivial⟩ ?_
  refine rd_expand_l (h := g2) hw hS hXr hXs hXl tw (fun hno g3 y1 y2 => kF hno g3 y1 ((p1.trans hen.2.1).trans y2)) (fun g3 y1 y2 y3 y4 => kS g3 y1 ((p1.trans hen.2.1).trans y2) (y3.trans ((hen.2.2.2.2.2.2.1 8 (by decide)).trans e8)) ((v1.trans v2).trans y4) ?_) 6000 0 _ g2 (by omega) (by omega) (by omega) x4 (pz.refl _ _) rfl (vm.refl _ _ _)
  have b8 : 0 ≤ qz_I g3 (T w) 8 ∧ qz_I g3 (T w) 8 ≤ 2 := ez_fB (cl := 3) y1.1.1 tw tq_3 rfl rfl (by decide)
  have n1 := y1.2.2.1 w w0 w1 hnw
  have n0 := (y4 w w0 w1 hnw).2 (by rw [hen.2.2.2.1]; decide)
  omega

theorem rd_checkShapes_l (hC0 : pz_C τ h T F E) (t723 : τ 723 = 55) (t202 : τ 202 = 48) (t203 : τ 203 = 49) (k1 : ∀ g, ez_B τ g → pz τ h g → (∀ q, τ q ≠ 3 → g.2.2 q = h.2.2 q) → (∀ q, τ q = 3 → ∀ j, j ≠ 8 → qz_I g q j = qz_I h q j) → (∀ k, 0 ≤ k → k < qz_I h 202 1 → qz_I g (T (sz_f h k)) 8 = 0 ∧ ∀ cp vs, (F (sz_f h k)).2 = some (cp, vs) → ¬ hz (sz_f h k) ∧ (cp = 0 → vs.length ≤ 2)) → Q (.inl (some (ez_v (.inl 1))), g)) (k0 : ¬ uz_S1 F → ∀ g, ez_B τ g → pz τ h g → Q (.inl (some (ez_v (.inl 0))), g)) : ∀ (m : Nat) (i : Int) (g : cz_H), m = (qz_I h 202 1 - i).toNat → 0 ≤ i → i ≤ qz_I h 202 1 → pz_C τ g T F E → pz τ h g → (∀ q, τ q ≠ 3 → g.2.2 q = h.2.2 q) → (∀ q, τ q = 3 → ∀ j, j ≠ 8 → qz_I g q j = qz_I h q j) → (∀ k, 0 ≤ k → k < i → qz_I g (T (sz_f h k)) 8 = 0 ∧ ∀ cp vs, (F (sz_f h k)).2 = some (cp, vs) → ¬ hz (sz_f h k) ∧ (cp = 0 → vs.length ≤ 2)) → ez_W (d + 1) cm_112 2 [(1, .inl (i)), (0, .inr (.inr (some (723))))] [] g Q := by
  intro m
  induction m with
  | zero =>
    intro i g hm i0 i1 hC hpz n3 n8 hsh
    have bn := sz_R_n1 hC0.1 t202
    have e202 : qz_I g 202 1 = qz_I h 202 1 := by unfold qz_I; rw [n3 202 (by rw [t202]; decide)]
    refine ez_go (n := 2) (pc' := 4) (L' := [(1, .inl (i)), (0, .inr (.inr (some (723))))]) (st' := [.inr (.inr (some (723))), .inl (i)]) rfl ?_
    refine ez_gC (p := 202) (tg := 48) hC.1 t723 rfl rfl tq_55 rfl rfl (fun (t202 : _ = 48) => ?_)
    refine ez_gI hC.1 t202 rfl rfl tq_48 rfl rfl (fun (b1 : 1 ≤ qz_I g 202 1) (b1' : qz_I g 202 1 ≤ 513) => ?_)
    refine ez_icmp rfl rfl ⟨by first | omega | exact (sz_i32 _).1, by first | omega | exact (sz_i32 _).2⟩ ⟨by first | omega | exact (sz_i32 _).1, by first | omega | exact (sz_i32 _).2⟩ (fun (c2 : (qz_I g 202 1) ≤ (i)) => ?_) (fun (c2 : ¬((qz_I g 202 1) ≤ (i))) => ?_)
    · skip
      refine ez_go (n := 1) (pc' := 90) (L' := [(1, .inl (i)), (0, .inr (.inr (some (723))))]) (st' := [.inl (1)]) rfl ?_
      exact ez_retZ rfl rfl (by decide) (k1 g hC.1 hpz n3 n8 (by rw [show qz_I h 202 1 = i by omega]; exact hsh))
    · exfalso; omega
  | succ m ih =>
    intro i g hm i0 i1 hC hpz n3 n8 hsh
    have bn := sz_R_n1 hC0.1 t202
    have e202 : qz_I g 202 1 = qz_I h 202 1 := by unfold qz_I; rw [n3 202 (by rw [t202]; decide)]
    refine ez_go (n := 2) (pc' := 4) (L' := [(1, .inl (i)), (0, .inr (.inr (some (723))))]) (st' := [.inr (.inr (some (723))), .inl (i)]) rfl ?_
    refine ez_gC (p := 202) (tg := 48) hC.1 t723 rfl rfl tq_55 rfl rfl (fun (t202 : _ = 48) => ?_)
    refine ez_gI hC.1 t202 rfl rfl tq_48 rfl rfl (fun (b1 : 1 ≤ qz_I g 202 1) (b1' : qz_I g 202 1 ≤ 513) => ?_)
    refine ez_icmp rfl rfl ⟨by first | omega | exact (sz_i32 _).1, by first | omega | exact (sz_i32 _).2⟩ ⟨by first | omega | exact (sz_i32 _).1, by first | omega | exact (sz_i32 _).2⟩ (fun (c2 : (qz_I g 202 1) ≤ (i)) => ?_) (fun (c2 : ¬((qz_I g 202 1) ≤ (i))) => ?_)
    · exfalso; omega
    · skip
      refine ez_go (n := 1) (pc' := 14) (L' := [(1, .inl (i)), (0, .inr (.inr (some (723))))]) (st' := [.inr (.inr (some (723)))]) rfl ?_
      refine ez_gC (p := 202) (tg := 48) hC.1 t723 rfl rfl tq_55 rfl rfl (fun (t202 : _ = 48) => ?_)
      refine ez_gC (p := 203) (tg := 49) hC.1 t202 rfl rfl tq_48 rfl rfl (fun (t203 : _ = 49) => ?_)
      refine ez_go (n := 1) (pc' := 21) (L' := [(1, .inl (i)), (0, .inr (.inr (some (723))))]) (st' := [.inl (i), .inr (.inr (some (203)))]) rfl ?_
      have n4 : 513 ≤ qz_N g 203 ∧ qz_N g 203 ≤ 513 := ez_len hC.1 t203 tq_49 rfl
      have y5 : 1 ≤ qz_I g 203 (i).toNat ∧ qz_I g 203 (i).toNat ≤ 1000000 := ez_aB hC.1 t203 tq_49 rfl rfl (by decide) (by omega) (by omega)
      have y5' : ((qz_P g 203 (i).toNat : Nat) : Int) + 1 = qz_I g 203 (i).toNat := by unfold qz_P; omega
      refine ez_aR hC.1 t203 rfl tq_49 rfl rfl (by omega) (by omega) (by omega) (fun (t3 : _ = 4) => ?_)
      refine ez_gR hC.1 t3 rfl rfl tq_4 rfl rfl (fun (t6 : _ = 3) (t6' : 1 ≤ qz_I g (qz_P g 203 (i).toNat) 1) => ?_)
      obtain ⟨at1, y0, y1⟩ := sz_first hC.2.2.1 i0 (show i < qz_I g 202 1 by omega)
      have ef : sz_f g i = sz_f h i := by unfold sz_f sz_p qz_P qz_I; rw [n3 203 (by rw [t203]; decide), n3 _ (by have := sz_tag hC0.1 t203 i0 (show i < 513 by omega); unfold sz_p qz_P qz_I at this; rw [this]; decide)]
      rw [ef] at at1 y0 y1
      have e1 := (hC.2.2.2.1 _ i y0 y1 at1).1
      obtain ⟨x, ex⟩ : ∃ x, x = sz_f h i := ⟨_, rfl⟩
      rw [← ex] at at1 y0 y1 e1
      have eT : qz_P g (qz_P g 203 (i).toNat) 1 = T x := by show qz_P g (sz_p g i) 1 = T x; unfold qz_P; omega
      rw [eT]
      obtain ⟨tT, -, f3, f4⟩ := hC.2.2.2.2 x y0 y1
      refine ez_go (n := 3) (pc' := 28) (L' := [(2, .inr (.inr (some ((T x))))), (1, .inl (i)), (0, .inr (.inr (some (723))))]) (st' := [.inl (0), .inr (.inr (some ((T x))))]) rfl ?_
      refine ez_pf hC.1 tT rfl rfl tq_3 rfl rfl rfl rfl (ez_vdI rfl rfl (by omega) (by omega)) (fun hB7 w8 => ?_)
      have pH : pz τ g (dz_put g ((T x)) 8 (ez_v (.inl (0)))) := pz_put3 tT (by omega)
      have hCH := hC.fr hB7 pH
      obtain ⟨-, -, f3, f4⟩ := hCH.2.2.2.2 x y0 y1
      have v8 : qz_I (dz_put g ((T x)) 8 (ez_v (.inl (0)))) (T x) 8 = 0 := by rw [w8]; rfl
      have m3 : ∀ q, τ q ≠ 3 → ((dz_put g ((T x)) 8 (ez_v (.inl (0))))).2.2 q = h.2.2 q := fun q hq => (qz_put_at _ _ _ _ (fun e => by rw [e] at hq; exact hq tT)).trans (n3 q hq)
      have m8 : ∀ q, τ q = 3 → ∀ j, j ≠ 8 → qz_I (dz_put g ((T x)) 8 (ez_v (.inl (0)))) q j = qz_I h q j := fun q hq j hj => (ez_put_I (fun w => hj w.2)).trans (n8 q hq j hj)
      have hsh2 : ∀ k, 0 ≤ k → k < i → qz_I (dz_put g ((T x)) 8 (ez_v (.inl (0)))) (T (sz_f h k)) 8 = 0 := fun k k0 k1 => by
        by_cases e : T (sz_f h k) = T x
        · rw [e]; exact v8
        · rw [ez_put_I (fun w => e w.1)]; exact (hsh k k0 k1).1
      generalize (dz_put g ((T x)) 8 (ez_v (.inl (0)))) = gg at *
      refine ez_go (n := 1) (pc' := 32) (L' := [(2, .inr (.inr (some ((T x))))), (1, .inl (i)), (0, .inr (.inr (some (723))))]) (st' := [.inr (.inr (some ((T x))))]) rfl ?_
      refine ez_gN hCH.1 tT rfl rfl tq_3 rfl rfl (fun (t9 : qz_I gg ((T x)) 3 = 0) => ?_) (fun (t9 : _ = 5) (t9' : 1 ≤ qz_I gg ((T x)) 3) => ?_)
      · skip
        refine ez_null0 rfl rfl ?_
        refine ez_go (n := 3) (pc' := 61) (L' := [(3, .inl (0)), (2, .inr (.inr (some ((T x))))), (1, .inl (i)), (0, .inr (.inr (some (723))))]) (st' := [.inl (0)]) rfl ?_
        refine ez_if rfl rfl ⟨by decide, by decide⟩ (fun (c10 : (0 : Int) ≠ (0)) => absurd c10 (by decide)) (fun _ => ?_)
        refine ez_go (n := 1) (pc' := 65) (L' := [(3, .inl (0)), (2, .inr (.inr (some ((T x))))), (1, .inl (i)), (0, .inr (.inr (some (723))))]) (st' := [.inr (.inr (some ((T x))))]) rfl ?_
        refine ez_gN hCH.1 tT rfl rfl tq_3 rfl rfl (fun (t11 : qz_I gg ((T x)) 3 = 0) => ?_) (fun (t11 : _ = 5) (t11' : 1 ≤ qz_I gg ((T x)) 3) => ?_)
        · skip
          refine ez_null0 rfl rfl ?_
          refine ez_go (n := 2) (pc' := 2) (L' := [(1, .inl (i + 1)), (3, .inl (0)), (2, .inr (.inr (some ((T x))))), (0, .inr (.inr (some (723))))]) (st' := []) rfl ?_
          refine ez_less [(1, .inl (i + 1)), (0, .inr (.inr (some (723))))] rfl ⟨rfl, rfl, trivial⟩ ?_
          refine ih (i + 1) gg (by omega) (by omega) (by omega) hCH (hpz.trans pH) m3 m8 (fun k k0 k1 => ?_)
          by_cases e9 : k = i
          · subst e9
            rw [← ex]
            refine ⟨v8, fun cp vs hq => ?_⟩
            obtain ⟨d0, d1, d2, d3, d4, -⟩ := f4 cp vs hq
            exact ⟨by first | exact e | (exfalso; omega), fun w => by omega⟩
          · exact ⟨hsh2 k k0 (by omega), (hsh k k0 (by omega)).2⟩
        · skip
          refine ez_null1 rfl ?_
          refine ez_go (n := 1) (pc' := 72) (L' := [(3, .inl (0)), (2, .inr (.inr (some ((T x))))), (1, .inl (i)), (0, .inr (.inr (some (723))))]) (st' := [.inr (.inr (some ((T x))))]) rfl ?_
          refine ez_gI hCH.1 tT rfl rfl tq_3 rfl rfl (fun (b12 : -2147483648 ≤ qz_I gg ((T x)) 0) (b12' : qz_I gg ((T x)) 0 ≤ 2147483647) => ?_)
          have fx : qz_I gg (T x) 0 = x := by
            cases hq : (F x).2 with
            | none => have := f3 hq; omega
            | some q => exact (f4 q.1 q.2 hq).1
          rw [fx]
          refine ez_cs hCH.1.2.1 rfl rfl rfl rfl rfl (rd_isSyl (by omega) (by omega) (fun e => ez_K1 ?_) (fun e => ez_K1 ?_))
          · skip
            refine ez_if rfl rfl ⟨by decide, by decide⟩ (fun (c13 : (1 : Int) = (0)) => absurd c13 (by decide)) (fun _ => ?_)
            refine ez_go (n := 1) (pc' := 82) (L' := [(3, .inl (0)), (2, .inr (.inr (some ((T x))))), (1, .inl (i)), (0, .inr (.inr (some (723))))]) (st' := [.inl (0)]) rfl ?_
            refine ez_retZ rfl rfl (by decide) (k0 (fun hS => ?_) gg hCH.1 (hpz.trans pH))
            cases hq : (F x).2 with
            | none => have := f3 hq; omega
            | some q =>
              obtain ⟨c1, c2⟩ := hS x q.1 q.2 hq
              obtain ⟨d0, d1, d2, d3, d4, -⟩ := f4 q.1 q.2 hq
              first | exact c1 e | (have := c2 (by omega); omega)
          · skip
            refine ez_if rfl rfl ⟨by decide, by decide⟩ (fun _ => ?_) (fun (c14 : ¬((0 : Int) = (0))) => absurd c14 (by decide))
            refine ez_go (n := 2) (pc' := 2) (L' := [(1, .inl (i + 1)), (3, .inl (0)), (2, .inr (.inr (some ((T x))))), (0, .inr (.inr (some (723))))]) (st' := []) rfl ?_
            refine ez_less [(1, .inl (i + 1)), (0, .inr (.inr (some (723))))] rfl ⟨rfl, rfl, trivial⟩ ?_
            refine ih (i + 1) gg (by omega) (by omega) (by omega) hCH (hpz.trans pH) m3 m8 (fun k k0 k1 => ?_)
            by_cases e9 : k = i
            · subst e9
              rw [← ex]
              refine ⟨v8, fun cp vs hq => ?_⟩
              obtain ⟨d0, d1, d2, d3, d4, -⟩ := f4 cp vs hq
              exact ⟨by first | exact e | (exfalso; omega), fun w => by omega⟩
            · exact ⟨hsh2 k k0 (by omega), (hsh k k0 (by omega)).2⟩
      · skip
        refine ez_null1 rfl ?_
        refine ez_go (n := 1) (pc' := 39) (L' := [(2, .inr (.inr (some ((T x))))), (1, .inl (i)), (0, .inr (.inr (some (723))))]) (st' := [.inr (.inr (some ((T x))))]) rfl ?_
        refine ez_gI hCH.1 tT rfl rfl tq_3 rfl rfl (fun (b15 : 0 ≤ qz_I gg ((T x)) 4) (b15' : qz_I gg ((T x)) 4 ≤ 1) => ?_)
        refine ez_if rfl rfl ⟨by first | omega | exact (sz_i32 _).1, by first | omega | exact (sz_i32 _).2⟩ (fun (c16 : (qz_I gg ((T x)) 4) ≠ (0)) => ?_) (fun (c16 : ¬((qz_I gg ((T x)) 4) ≠ (0))) => ?_)
        · skip
          refine ez_go (n := 3) (pc' := 61) (L' := [(3, .inl (0)), (2, .inr (.inr (some ((T x))))), (1, .inl (i)), (0, .inr (.inr (some (723))))]) (st' := [.inl (0)]) rfl ?_
          refine ez_if rfl rfl ⟨by decide, by decide⟩ (fun (c17 : (0 : Int) ≠ (0)) => absurd c17 (by decide)) (fun _ => ?_)
          refine ez_go (n := 1) (pc' := 65) (L' := [(3, .inl (0)), (2, .inr (.inr (some ((T x))))), (1, .inl (i)), (0, .inr (.inr (some (723))))]) (st' := [.inr (.inr (some ((T x))))]) rfl ?_
          refine ez_gN hCH.1 tT rfl rfl tq_3 rfl rfl (fun (t18 : qz_I gg ((T x)) 3 = 0) => ?_) (fun (t18 : _ = 5) (t18' : 1 ≤ qz_I gg ((T x)) 3) => ?_)
          · skip
            refine ez_null0 rfl rfl ?_
            refine ez_go (n := 2) (pc' := 2) (L' := [(1, .inl (i + 1)), (3, .inl (0)), (2, .inr (.inr (some ((T x))))), (0, .inr (.inr (some (723))))]) (st' := []) rfl ?_
            refine ez_less [(1, .inl (i + 1)), (0, .inr (.inr (some (723))))] rfl ⟨rfl, rfl, trivial⟩ ?_
            refine ih (i + 1) gg (by omega) (by omega) (by omega) hCH (hpz.trans pH) m3 m8 (fun k k0 k1 => ?_)
            by_cases e9 : k = i
            · subst e9
              rw [← ex]
              refine ⟨v8, fun cp vs hq => ?_⟩
              obtain ⟨d0, d1, d2, d3, d4, -⟩ := f4 cp vs hq
              exact ⟨by first | exact e | (exfalso; omega), fun w => by omega⟩
            · exact ⟨hsh2 k k0 (by omega), (hsh k k0 (by omega)).2⟩
          · skip
            refine ez_null1 rfl ?_
            refine ez_go (n := 1) (pc' := 72) (L' := [(3, .inl (0)), (2, .inr (.inr (some ((T x))))), (1, .inl (i)), (0, .inr (.inr (some (723))))]) (st' := [.inr (.inr (some ((T x))))]) rfl ?_
            refine ez_gI hCH.1 tT rfl rfl tq_3 rfl rfl (fun (b19 : -2147483648 ≤ qz_I gg ((T x)) 0) (b19' : qz_I gg ((T x)) 0 ≤ 2147483647) => ?_)
            have fx : qz_I gg (T x) 0 = x := by
              cases hq : (F x).2 with
              | none => have := f3 hq; omega
              | some q => exact (f4 q.1 q.2 hq).1
            rw [fx]
            refine ez_cs hCH.1.2.1 rfl rfl rfl rfl rfl (rd_isSyl (by omega) (by omega) (fun e => ez_K1 ?_) (fun e => ez_K1 ?_))
            · skip
              refine ez_if rfl rfl ⟨by decide, by decide⟩ (fun (c20 : (1 : Int) = (0)) => absurd c20 (by decide)) (fun _ => ?_)
              refine ez_go (n := 1) (pc' := 82) (L' := [(3, .inl (0)), (2, .inr (.inr (some ((T x))))), (1, .inl (i)), (0, .inr (.inr (some (723))))]) (st' := [.inl (0)]) rfl ?_
              refine ez_retZ rfl rfl (by decide) (k0 (fun hS => ?_) gg hCH.1 (hpz.trans pH))
              cases hq : (F x).2 with
              | none => have := f3 hq; omega
              | some q =>
                obtain ⟨c1, c2⟩ := hS x q.1 q.2 hq
                obtain ⟨d0, d1, d2, d3, d4, -⟩ := f4 q.1 q.2 hq
                first | exact c1 e | (have := c2 (by omega); omega)
            · skip
              refine ez_if rfl rfl ⟨by decide, by decide⟩ (fun _ => ?_) (fun (c21 : ¬((0 : Int) = (0))) => absurd c21 (by decide))
              refine ez_go (n := 2) (pc' := 2) (L' := [(1, .inl (i + 1)), (3, .inl (0)), (2, .inr (.inr (some ((T x))))), (0, .inr (.inr (some (723))))]) (st' := []) rfl ?_
              refine ez_less [(1, .inl (i + 1)), (0, .inr (.inr (some (723))))] rfl ⟨rfl, rfl, trivial⟩ ?_
              refine ih (i + 1) gg (by omega) (by omega) (by omega) hCH (hpz.trans pH) m3 m8 (fun k k0 k1 => ?_)
              by_cases e9 : k = i
              · subst e9
                rw [← ex]
                refine ⟨v8, fun cp vs hq => ?_⟩
                obtain ⟨d0, d1, d2, d3, d4, -⟩ := f4 cp vs hq
                exact ⟨by first | exact e | (exfalso; omega), fun w => by omega⟩
              · exact ⟨hsh2 k k0 (by omega), (hsh k k0 (by omega)).2⟩
        · skip
          refine ez_go (n := 1) (pc' := 46) (L' := [(2, .inr (.inr (some ((T x))))), (1, .inl (i)), (0, .inr (.inr (some (723))))]) (st' := [.inr (.inr (some ((T x))))]) rfl ?_
          refine ez_gN hCH.1 tT rfl rfl tq_3 rfl rfl (fun (t22 : qz_I gg ((T x)) 3 = 0) => ?_) (fun (t22 : _ = 5) (t22' : 1 ≤ qz_I gg ((T x)) 3) => ?_)
          · exfalso; omega
          · skip
            refine ez_al hCH.1 t22 rfl tq_5 rfl (fun (b23 : 0 ≤ qz_N gg (qz_P gg ((T x)) 3)) (b23' : qz_N gg (qz_P gg ((T x)) 3) ≤ 18) => ?_)
            refine ez_go (n := 1) (pc' := 51) (L' := [(2, .inr (.inr (some ((T x))))), (1, .inl (i)), (0, .inr (.inr (some (723))))]) (st' := [.inl (2), .inl (qz_N gg (qz_P gg ((T x)) 3))]) rfl ?_
            refine ez_icmp rfl rfl ⟨by first | omega | exact (sz_i32 _).1, by first | omega | exact (sz_i32 _).2⟩ ⟨by first | omega | exact (sz_i32 _).1, by first | omega | exact (sz_i32 _).2⟩ (fun (c24 : (qz_N gg (qz_P gg ((T x)) 3)) ≤ (2)) => ?_) (fun (c24 : ¬((qz_N gg (qz_P gg ((T x)) 3)) ≤ (2))) => ?_)
            · skip
              refine ez_go (n := 3) (pc' := 61) (L' := [(3, .inl (0)), (2, .inr (.inr (some ((T x))))), (1, .inl (i)), (0, .inr (.inr (some (723))))]) (st' := [.inl (0)]) rfl ?_
              refine ez_if rfl rfl ⟨by decide, by decide⟩ (fun (c25 : (0 : Int) ≠ (0)) => absurd c25 (by decide)) (fun _ => ?_)
              refine ez_go (n := 1) (pc' := 65) (L' := [(3, .inl (0)), (2, .inr (.inr (some ((T x))))), (1, .inl (i)), (0, .inr (.inr (some (723))))]) (st' := [.inr (.inr (some ((T x))))]) rfl ?_
              refine ez_gN hCH.1 tT rfl rfl tq_3 rfl rfl (fun (t26 : qz_I gg ((T x)) 3 = 0) => ?_) (fun (t26 : _ = 5) (t26' : 1 ≤ qz_I gg ((T x)) 3) => ?_)
              · skip
                refine ez_null0 rfl rfl ?_
                refine ez_go (n := 2) (pc' := 2) (L' := [(1, .inl (i + 1)), (3, .inl (0)), (2, .inr (.inr (some ((T x))))), (0, .inr (.inr (some (723))))]) (st' := []) rfl ?_
                refine ez_less [(1, .inl (i + 1)), (0, .inr (.inr (some (723))))] rfl ⟨rfl, rfl, trivial⟩ ?_
                refine ih (i + 1) gg (by omega) (by omega) (by omega) hCH (hpz.trans pH) m3 m8 (fun k k0 k1 => ?_)
                by_cases e9 : k = i
                · subst e9
                  rw [← ex]
                  refine ⟨v8, fun cp vs hq => ?_⟩
                  obtain ⟨d0, d1, d2, d3, d4, -⟩ := f4 cp vs hq
                  exact ⟨by first | exact e | (exfalso; omega), fun w => by omega⟩
                · exact ⟨hsh2 k k0 (by omega), (hsh k k0 (by omega)).2⟩
              · skip
                refine ez_null1 rfl ?_
                refine ez_go (n := 1) (pc' := 72) (L' := [(3, .inl (0)), (2, .inr (.inr (some ((T x))))), (1, .inl (i)), (0, .inr (.inr (some (723))))]) (st' := [.inr (.inr (some ((T x))))]) rfl ?_
                refine ez_gI hCH.1 tT rfl rfl tq_3 rfl rfl (fun (b27 : -2147483648 ≤ qz_I gg ((T x)) 0) (b27' : qz_I gg ((T x)) 0 ≤ 2147483647) => ?_)
                have fx : qz_I gg (T x) 0 = x := by
                  cases hq : (F x).2 with
                  | none => have := f3 hq; omega
                  | some q => exact (f4 q.1 q.2 hq).1
                rw [fx]
                refine ez_cs hCH.1.2.1 rfl rfl rfl rfl rfl (rd_isSyl (by omega) (by omega) (fun e => ez_K1 ?_) (fun e => ez_K1 ?_))
                · skip
                  refine ez_if rfl rfl ⟨by decide, by decide⟩ (fun (c28 : (1 : Int) = (0)) => absurd c28 (by decide)) (fun _ => ?_)
                  refine ez_go (n := 1) (pc' := 82) (L' := [(3, .inl (0)), (2, .inr (.inr (some ((T x))))), (1, .inl (i)), (0, .inr (.inr (some (723))))]) (st' := [.inl (0)]) rfl ?_
                  refine ez_retZ rfl rfl (by decide) (k0 (fun hS => ?_) gg hCH.1 (hpz.trans pH))
                  cases hq : (F x).2 with
                  | none => have := f3 hq; omega
                  | some q =>
                    obtain ⟨c1, c2⟩ := hS x q.1 q.2 hq
                    obtain ⟨d0, d1, d2, d3, d4, -⟩ := f4 q.1 q.2 hq
                    first | exact c1 e | (have := c2 (by omega); omega)
                · skip
                  refine ez_if rfl rfl ⟨by decide, by decide⟩ (fun _ => ?_) (fun (c29 : ¬((0 : Int) = (0))) => absurd c29 (by decide))
                  refine ez_go (n := 2) (pc' := 2) (L' := [(1, .inl (i + 1)), (3, .inl (0)), (2, .inr (.inr (some ((T x))))), (0, .inr (.inr (some (723))))]) (st' := []) rfl ?_
                  refine ez_less [(1, .inl (i + 1)), (0, .inr (.inr (some (723))))] rfl ⟨rfl, rfl, trivial⟩ ?_
                  refine ih (i + 1) gg (by omega) (by omega) (by omega) hCH (hpz.trans pH) m3 m8 (fun k k0 k1 => ?_)
                  by_cases e9 : k = i
                  · subst e9
                    rw [← ex]
                    refine ⟨v8, fun cp vs hq => ?_⟩
                    obtain ⟨d0, d1, d2, d3, d4, -⟩ := f4 cp vs hq
                    exact ⟨by first | exact e | (exfalso; omega), fun w => by omega⟩
                  · exact ⟨hsh2 k k0 (by omega), (hsh k k0 (by omega)).2⟩
            · skip
              refine ez_go (n := 4) (pc' := 61) (L' := [(3, .inl (1)), (2, .inr (.inr (some ((T x))))), (1, .inl (i)), (0, .inr (.inr (some (723))))]) (st' := [.inl (1)]) rfl ?_
              refine ez_if rfl rfl ⟨by decide, by decide⟩ (fun _ => ?_) (fun (c30 : ¬((1 : Int) ≠ (0))) => absurd c30 (by decide))
              refine ez_go (n := 1) (pc' := 82) (L' := [(3, .inl (1)), (2, .inr (.inr (some ((T x))))), (1, .inl (i)), (0, .inr (.inr (some (723))))]) (st' := [.inl (0)]) rfl ?_
              refine ez_retZ rfl rfl (by decide) (k0 (fun hS => ?_) gg hCH.1 (hpz.trans pH))
              cases hq : (F x).2 with
              | none => have := f3 hq; omega
              | some q =>
                obtain ⟨c1, c2⟩ := hS x q.1 q.2 hq
                obtain ⟨d0, d1, d2, d3, d4, -⟩ := f4 q.1 q.2 hq
                first | exact c1 e | (have := c2 (by omega); omega)
end EzXg
/-! Pairs in one number. -/
theorem pp_bv {a b : Nat} (ha : a < 2097152) (hb : b < 2097152) : (((BitVec.ofNat 64 a) <<< 21) ||| (BitVec.ofNat 64 b)).toNat = a * 2097152 + b := by
  rw [BitVec.toNat_or, BitVec.toNat_shiftLeft, BitVec.toNat_ofNat, BitVec.toNat_ofNat, Nat.mod_eq_of_lt (a := a) (by omega), Nat.mod_eq_of_lt (a := b) (by omega)]
  have e : a <<< 21 = a * 2097152 := by rw [Nat.shiftLeft_eq]
  rw [Nat.mod_eq_of_lt (by rw [e]; omega), ← Nat.shiftLeft_add_eq_or_of_lt (by omega : b < 2 ^ 21), e]
theorem pp_int {a b : Int} (a0 : 0 ≤ a) (a1 : a ≤ 1114111) (b0 : 0 ≤ b) (b1 : b ≤ 1114111) : ((Int32.ofInt a).toInt64 <<< ((Int32.ofInt 21).toInt64 &&& 63) ||| (Int32.ofInt b).toInt64).toInt = a * 2097152 + b := by
  have e0 : (Int32.ofInt 21).toInt64 &&& 63 = 21 := by decide
  have cv : ∀ {z : Int}, 0 ≤ z → z ≤ 1114111 → (Int32.ofInt z).toInt64.toBitVec = BitVec.ofNat 64 z.toNat := fun {z} z0 z1 => by
    have h1 : (Int32.ofInt z).toInt64 = Int64.ofInt z := by
      apply Int64.toInt_inj.mp
      rw [Int32.toInt_toInt64, dz_toInt_i (by omega) (by omega), Int64.toInt_ofInt_of_le (by omega) (by omega)]
    rw [h1]
    show BitVec.ofInt 64 z = _
    rw [show z = ((z.toNat : Nat) : Int) by omega, BitVec.ofInt_natCast]
    congr 1
  rw [e0]
  have h2 : ((Int32.ofInt a).toInt64 <<< 21 ||| (Int32.ofInt b).toInt64).toBitVec = (((BitVec.ofNat 64 a.toNat) <<< 21) ||| (BitVec.ofNat 64 b.toNat)) := by
    rw [Int64.toBitVec_or, Int64.toBitVec_shiftLeft, cv a0 a1, cv b0 b1]
    rfl
  show (((Int32.ofInt a).toInt64 <<< 21 ||| (Int32.ofInt b).toInt64).toBitVec).toInt = _
  rw [h2, BitVec.toInt_eq_toNat_of_lt (by rw [pp_bv (by omega) (by omega)]; omega), pp_bv (by omega) (by omega)]
  omega
/-! The class: exclusion, pairs. (Written by wip/p2/py/pv34.py.) -/
section EzPr
variable {d : Nat} {h : cz_H} {τ : Nat → Nat} {Q : cz_F → Prop} {T : Int → Nat} {F : rz_W} {E : Int → Prop}
/-- a long of an array of longs -/
theorem ez_lrg {r t : Nat} {ti : dz_I} {i lo hi : Int} {tg md : Nat} (hB : ez_B τ h) (hτ : τ r = t) (hti : tz_T t = some ti) (hD : dz_nth ti.2.2.2.2 0 = some (2, lo, hi, tg, md)) (hb : (Nat.beq ti.1 1 && Nat.blt ti.2.1 11) = true) (h0 : 0 ≤ i) (h1 : i < qz_N h r) : (Int64.ofInt (qz_I h r i.toNat)).toInt = qz_I h r i.toNat := by
  obtain ⟨n, f, o1, o2, o3, o4, -, o6⟩ := ez_arr hB hτ hti hb hD
  rw [o3] at h1
  obtain ⟨g1, g2⟩ := o6 _ (show i.toNat < n by omega)
  have hx : ∃ x : Int64, f i.toNat = .inr (.inl x) := by
    have := g2.1
    revert this
    generalize f i.toNat = v
    intro this
    match v with
    | .inl _ => cases this
    | .inr (.inl x) => exact ⟨x, rfl⟩
    | .inr (.inr _) => cases this
  obtain ⟨x, hx⟩ := hx
  rw [qz_I_of g1, hx]
  show (Int64.ofInt x.toInt).toInt = x.toInt
  rw [Int64.ofInt_toInt]
theorem rd_hasTrait {z : Nat} (hB : ez_B τ h) (tz : τ z = 4) (k1 : sz_t0 (qz_I h z 2) → Q (.inl (some (ez_v (.inl 1))), h)) (k0 : ¬ sz_t0 (qz_I h z 2) → Q (.inl (some (ez_v (.inl 0))), h)) : ez_W d cm_184 0 [(0, .inr (.inr (some (z)))), (1, .inl (1))] [] h Q := by
  refine ez_go (n := 1) (pc' := 1) (L' := [(0, .inr (.inr (some (z)))), (1, .inl (1))]) (st' := [.inr (.inr (some (z)))]) rfl ?_
  refine ez_gI hB tz rfl rfl tq_4 rfl rfl (fun (b1 : -2147483648 ≤ qz_I h z 2) (b1' : qz_I h z 2 ≤ 2147483647) => ?_)
  refine ez_go (n := 2) (pc' := 6) (L' := [(0, .inr (.inr (some (z)))), (1, .inl (1))]) (st' := [.inl ((Int32.ofInt (qz_I h z 2) &&& Int32.ofInt (1)).toInt)]) rfl ?_
  refine ez_if rfl rfl ⟨by first | omega | exact (sz_i32 _).1, by first | omega | exact (sz_i32 _).2⟩ (fun (c2 : ((Int32.ofInt (qz_I h z 2) &&& Int32.ofInt (1)).toInt) = (0)) => ?_) (fun (c2 : ¬(((Int32.ofInt (qz_I h z 2) &&& Int32.ofInt (1)).toInt) = (0))) => ?_)
  · skip
    refine ez_go (n := 1) (pc' := 14) (L' := [(0, .inr (.inr (some (z)))), (1, .inl (1))]) (st' := [.inl (0)]) rfl ?_
    exact ez_retZ rfl rfl (by decide) (k0 (fun w => w (by assumption)))
  · skip
    refine ez_go (n := 2) (pc' := 14) (L' := [(0, .inr (.inr (some (z)))), (1, .inl (1))]) (st' := [.inl (1)]) rfl ?_
    exact ez_retZ rfl rfl (by decide) (k1 (by unfold sz_t0; assumption))

theorem rd_classOf {x : Int} (hC : pz_C τ h T F E) (x0 : 0 ≤ x) (x1 : x ≤ 1114111) (k : Q (.inl (some (ez_v (.inl (F x).1))), h)) : ez_W (d + 1) cm_95 0 [(0, .inr (.inr (some (202)))), (1, .inl (x))] [] h Q := by
  have t202 : τ 202 = 48 := hC.2.1 202 (by decide)
  have t203 : τ 203 = 49 := hC.2.1 203 (by decide)
  refine ez_go (n := 1) (pc' := 1) (L' := [(0, .inr (.inr (some (202)))), (1, .inl (x))]) (st' := [.inr (.inr (some (202)))]) rfl ?_
  refine ez_gC (p := 203) (tg := 49) hC.1 t202 rfl rfl tq_48 rfl rfl (fun (t203 : _ = 49) => ?_)
  refine ez_go (n := 2) (pc' := 6) (L' := [(0, .inr (.inr (some (202)))), (1, .inl (x))]) (st' := [.inl (x), .inr (.inr (some (202))), .inr (.inr (some (203)))]) rfl ?_
  have bn := sz_R_n1 hC.1 t202
  refine ez_cv hC.1 t202 rfl rfl rfl tq_48 rfl rfl rfl (rd_spanIndex hC.1 t202 hC.2.2.1 x0 (by omega) (fun i i0 i1 i2 i3 => ez_K1 ?_))
  have n2 : 513 ≤ qz_N h 203 ∧ qz_N h 203 ≤ 513 := ez_len hC.1 t203 tq_49 rfl
  have y3 : 1 ≤ qz_I h 203 (i).toNat ∧ qz_I h 203 (i).toNat ≤ 1000000 := ez_aB hC.1 t203 tq_49 rfl rfl (by decide) (by omega) (by omega)
  have y3' : ((qz_P h 203 (i).toNat : Nat) : Int) + 1 = qz_I h 203 (i).toNat := by unfold qz_P; omega
  refine ez_aR hC.1 t203 rfl tq_49 rfl rfl (by omega) (by omega) (by omega) (fun (t1 : _ = 4) => ?_)
  refine ez_gR hC.1 t1 rfl rfl tq_4 rfl rfl (fun (t4 : _ = 3) (t4' : 1 ≤ qz_I h (qz_P h 203 (i).toNat) 1) => ?_)
  obtain ⟨w1, w2⟩ := hC.2.2.2.1 x i x0 x1 ⟨i0, i1, i2, i3⟩
  have eT : qz_P h (qz_P h 203 (i).toNat) 1 = T x := by show qz_P h (sz_p h i) 1 = T x; unfold qz_P; omega
  rw [eT]
  obtain ⟨tT, f2, -⟩ := hC.2.2.2.2 x x0 x1
  refine ez_gI hC.1 tT rfl rfl tq_3 rfl rfl (fun (b5 : -2147483648 ≤ qz_I h ((T x)) 2) (b5' : qz_I h ((T x)) 2 ≤ 2147483647) => ?_)
  rw [f2]
  exact ez_retI rfl rfl k

theorem rd_headOfTwo {x : Int} (hC : pz_C τ h T F E) (x0 : 0 ≤ x) (x1 : x ≤ 1114111) (hx : ¬ hz x) (k : ∀ v, ((∃ a b, (F x).2 = some (0, [a, b]) ∧ v = a) ∨ (v = -1 ∧ ¬ ∃ a b, (F x).2 = some (0, [a, b]))) → Q (.inl (some (ez_v (.inl v))), h)) : ez_W (d + 1) cm_120 0 [(0, .inl (x)), (1, .inr (.inr (some ((T x)))))] [] h Q := by
  obtain ⟨tT, -, f3, f4⟩ := hC.2.2.2.2 x x0 x1
  refine ez_go (n := 1) (pc' := 1) (L' := [(0, .inl (x)), (1, .inr (.inr (some ((T x)))))]) (st' := [.inl (x)]) rfl ?_
  refine ez_cs hC.1.2.1 rfl rfl rfl rfl rfl (rd_isSyl (by omega) (by omega) (fun e => absurd e hx) (fun e => ez_K1 ?_))
  refine ez_if rfl rfl ⟨by decide, by decide⟩ (fun _ => ?_) (fun (c1 : ¬((0 : Int) = (0))) => absurd c1 (by decide))
  refine ez_go (n := 1) (pc' := 26) (L' := [(0, .inl (x)), (1, .inr (.inr (some ((T x)))))]) (st' := [.inr (.inr (some ((T x))))]) rfl ?_
  refine ez_gN hC.1 tT rfl rfl tq_3 rfl rfl (fun (t2 : qz_I h ((T x)) 3 = 0) => ?_) (fun (t2 : _ = 5) (t2' : 1 ≤ qz_I h ((T x)) 3) => ?_)
  · skip
    refine ez_null0 rfl rfl ?_
    refine ez_go (n := 1) (pc' := 58) (L' := [(0, .inl (x)), (1, .inr (.inr (some ((T x)))))]) (st' := [.inl (-1)]) rfl ?_
    refine ez_retI rfl rfl (k _ (Or.inr ⟨rfl, fun ⟨a, b, w⟩ => ?_⟩))
    obtain ⟨d0, d1, d2, d3, d4, -⟩ := f4 _ _ w
    simp only [List.length_cons, List.length_nil] at d4
    omega
  · skip
    refine ez_null1 rfl ?_
    refine ez_go (n := 1) (pc' := 33) (L' := [(0, .inl (x)), (1, .inr (.inr (some ((T x)))))]) (st' := [.inr (.inr (some ((T x))))]) rfl ?_
    refine ez_gI hC.1 tT rfl rfl tq_3 rfl rfl (fun (b3 : 0 ≤ qz_I h ((T x)) 4) (b3' : qz_I h ((T x)) 4 ≤ 1) => ?_)
    refine ez_if rfl rfl ⟨by first | omega | exact (sz_i32 _).1, by first | omega | exact (sz_i32 _).2⟩ (fun (c4 : (qz_I h ((T x)) 4) ≠ (0)) => ?_) (fun (c4 : ¬((qz_I h ((T x)) 4) ≠ (0))) => ?_)
    · skip
      refine ez_go (n := 1) (pc' := 58) (L' := [(0, .inl (x)), (1, .inr (.inr (some ((T x)))))]) (st' := [.inl (-1)]) rfl ?_
      refine ez_retI rfl rfl (k _ (Or.inr ⟨rfl, fun ⟨a, b, w⟩ => ?_⟩))
      obtain ⟨d0, d1, d2, d3, d4, -⟩ := f4 _ _ w
      simp only [List.length_cons, List.length_nil] at d4
      omega
    · skip
      refine ez_go (n := 1) (pc' := 40) (L' := [(0, .inl (x)), (1, .inr (.inr (some ((T x)))))]) (st' := [.inr (.inr (some ((T x))))]) rfl ?_
      refine ez_gN hC.1 tT rfl rfl tq_3 rfl rfl (fun (t5 : qz_I h ((T x)) 3 = 0) => ?_) (fun (t5 : _ = 5) (t5' : 1 ≤ qz_I h ((T x)) 3) => ?_)
      · exfalso; omega
      · skip
        refine ez_al hC.1 t5 rfl tq_5 rfl (fun (b6 : 0 ≤ qz_N h (qz_P h ((T x)) 3)) (b6' : qz_N h (qz_P h ((T x)) 3) ≤ 18) => ?_)
        refine ez_go (n := 1) (pc' := 45) (L' := [(0, .inl (x)), (1, .inr (.inr (some ((T x)))))]) (st' := [.inl (2), .inl (qz_N h (qz_P h ((T x)) 3))]) rfl ?_
        refine ez_icmp rfl rfl ⟨by first | omega | exact (sz_i32 _).1, by first | omega | exact (sz_i32 _).2⟩ ⟨by first | omega | exact (sz_i32 _).1, by first | omega | exact (sz_i32 _).2⟩ (fun (c7 : (qz_N h (qz_P h ((T x)) 3)) ≠ (2)) => ?_) (fun (c7 : ¬((qz_N h (qz_P h ((T x)) 3)) ≠ (2))) => ?_)
        · skip
          refine ez_go (n := 1) (pc' := 58) (L' := [(0, .inl (x)), (1, .inr (.inr (some ((T x)))))]) (st' := [.inl (-1)]) rfl ?_
          refine ez_retI rfl rfl (k _ (Or.inr ⟨rfl, fun ⟨a, b, w⟩ => ?_⟩))
          obtain ⟨d0, d1, d2, d3, d4, -⟩ := f4 _ _ w
          simp only [List.length_cons, List.length_nil] at d4
          omega
        · skip
          refine ez_go (n := 1) (pc' := 49) (L' := [(0, .inl (x)), (1, .inr (.inr (some ((T x)))))]) (st' := [.inr (.inr (some ((T x))))]) rfl ?_
          refine ez_gN hC.1 tT rfl rfl tq_3 rfl rfl (fun (t8 : qz_I h ((T x)) 3 = 0) => ?_) (fun (t8 : _ = 5) (t8' : 1 ≤ qz_I h ((T x)) 3) => ?_)
          · exfalso; omega
          · skip
            refine ez_go (n := 1) (pc' := 53) (L' := [(0, .inl (x)), (1, .inr (.inr (some ((T x)))))]) (st' := [.inl (0), .inr (.inr (some (qz_P h ((T x)) 3)))]) rfl ?_
            have n10 : 0 ≤ qz_N h (qz_P h ((T x)) 3) ∧ qz_N h (qz_P h ((T x)) 3) ≤ 18 := ez_len hC.1 t8 tq_5 rfl
            refine ez_aI hC.1 t8 rfl tq_5 rfl rfl (by omega) (by omega) (fun (b9 : -2147483648 ≤ qz_I h (qz_P h ((T x)) 3) (0 : Int).toNat) (b9' : qz_I h (qz_P h ((T x)) 3) (0 : Int).toNat ≤ 2147483647) => ?_)
            refine ez_go (n := 1) (pc' := 58) (L' := [(0, .inl (x)), (1, .inr (.inr (some ((T x)))))]) (st' := [.inl (qz_I h (qz_P h ((T x)) 3) (0 : Int).toNat)]) rfl ?_
            cases hq : (F x).2 with
            | none => have := f3 hq; omega
            | some q =>
              obtain ⟨d0, d1, d2, d3, d4, d5⟩ := f4 q.1 q.2 hq
              have hl : q.2.length = 2 := by omega
              obtain ⟨cp, vs⟩ := q
              have hc : cp = 0 := by have d1 : qz_I h (T x) 4 = cp := d1; omega
              subst hc
              match vs, hl, hq, d5 with
              | [a, b], _, hq, d5 =>
                have e0 := d5 0 a rfl
                rw [show (0 : Int).toNat = 0 from rfl, e0]
                exact ez_retI rfl rfl (k a (Or.inl ⟨a, b, hq, rfl⟩))

theorem rd_isExcluded {x : Int} (hw : uz_wf F) (hC : pz_C τ h T F E) (x0 : 0 ≤ x) (x1 : x ≤ 1114111) (hx : ¬ hz x) (k1 : ez_x F E x → Q (.inl (some (ez_v (.inl 1))), h)) (k0 : ¬ ez_x F E x → Q (.inl (some (ez_v (.inl 0))), h)) : ez_W (d + 2) cm_122 0 [(0, .inr (.inr (some (723)))), (1, .inl (x))] [] h Q := by
  have t723 : τ 723 = 55 := hC.2.1 723 (by decide)
  obtain ⟨tT, f2, f3, f4⟩ := hC.2.2.2.2 x x0 x1
  refine ez_go (n := 1) (pc' := 1) (L' := [(0, .inr (.inr (some (723)))), (1, .inl (x))]) (st' := [.inr (.inr (some (723)))]) rfl ?_
  refine ez_gC (p := 202) (tg := 48) hC.1 t723 rfl rfl tq_55 rfl rfl (fun (t202 : _ = 48) => ?_)
  refine ez_go (n := 1) (pc' := 5) (L' := [(0, .inr (.inr (some (723)))), (1, .inl (x))]) (st' := [.inl (x), .inr (.inr (some (202)))]) rfl ?_
  refine ez_cv hC.1 t202 rfl rfl rfl tq_48 rfl rfl rfl (rd_spanOf hC x0 x1 (fun z tz z1 z2 => ez_KA ?_))
  refine ez_go (n := 3) (pc' := 11) (L' := [(2, .inr (.inr (some (z)))), (0, .inr (.inr (some (723)))), (1, .inl (x))]) (st' := [.inl (1), .inr (.inr (some (z)))]) rfl ?_
  refine ez_cv hC.1 tz rfl rfl rfl tq_4 rfl rfl rfl (rd_hasTrait hC.1 tz (fun e => ez_K1 ?_) (fun e => ez_K1 ?_))
  · skip
    refine ez_if rfl rfl ⟨by decide, by decide⟩ (fun _ => ?_) (fun (c1 : ¬((1 : Int) ≠ (0))) => absurd c1 (by decide))
    refine ez_go (n := 1) (pc' := 28) (L' := [(2, .inr (.inr (some (z)))), (0, .inr (.inr (some (723)))), (1, .inl (x))]) (st' := [.inl (1)]) rfl ?_
    exact ez_retZ rfl rfl (by decide) (k1 (Or.inl (Or.inl (z2.mp e))))
  · skip
    refine ez_if rfl rfl ⟨by decide, by decide⟩ (fun (c2 : (0 : Int) ≠ (0)) => absurd c2 (by decide)) (fun _ => ?_)
    refine ez_go (n := 1) (pc' := 18) (L' := [(2, .inr (.inr (some (z)))), (0, .inr (.inr (some (723)))), (1, .inl (x))]) (st' := [.inr (.inr (some (z)))]) rfl ?_
    refine ez_gR hC.1 tz rfl rfl tq_4 rfl rfl (fun (t3 : _ = 3) (t3' : 1 ≤ qz_I h z 1) => ?_)
    have eT4 : qz_P h z 1 = T x := by unfold qz_P; omega
    rw [eT4]
    refine ez_gI hC.1 tT rfl rfl tq_3 rfl rfl (fun (b5 : -2147483648 ≤ qz_I h ((T x)) 2) (b5' : qz_I h ((T x)) 2 ≤ 2147483647) => ?_)
    rw [f2]
    refine ez_if rfl rfl ⟨by first | omega | exact (sz_i32 _).1, by first | omega | exact (sz_i32 _).2⟩ (fun (c6 : ((F x).1) ≤ (0)) => ?_) (fun (c6 : ¬(((F x).1) ≤ (0))) => ?_)
    · skip
      refine ez_go (n := 2) (pc' := 31) (L' := [(2, .inr (.inr (some (z)))), (0, .inr (.inr (some (723)))), (1, .inl (x))]) (st' := [.inr (.inr (some (z))), .inl (x)]) rfl ?_
      refine ez_gR hC.1 tz rfl rfl tq_4 rfl rfl (fun (t7 : _ = 3) (t7' : 1 ≤ qz_I h z 1) => ?_)
      have eT8 : qz_P h z 1 = T x := by unfold qz_P; omega
      rw [eT8]
      refine ez_cs hC.1.2.1 rfl rfl rfl rfl rfl (rd_headOfTwo hC x0 x1 hx (fun v hv => ez_K1 ?_))
      have vb : -1 ≤ v ∧ v ≤ 1114111 := by
        rcases hv with ⟨a, b, w, e2⟩ | ⟨e2, _⟩
        · have := ((hw x).2 _ _ w).2.2.1 a (by simp); omega
        · omega
      refine ez_go (n := 3) (pc' := 40) (L' := [(3, .inl (v)), (2, .inr (.inr (some (z)))), (0, .inr (.inr (some (723)))), (1, .inl (x))]) (st' := [.inl (-1), .inl (v)]) rfl ?_
      refine ez_icmp rfl rfl ⟨by first | omega | exact (sz_i32 _).1, by first | omega | exact (sz_i32 _).2⟩ ⟨by first | omega | exact (sz_i32 _).1, by first | omega | exact (sz_i32 _).2⟩ (fun (c9 : (v) = (-1)) => ?_) (fun (c9 : ¬((v) = (-1))) => ?_)
      · skip
        refine ez_go (n := 1) (pc' := 59) (L' := [(3, .inl (v)), (2, .inr (.inr (some (z)))), (0, .inr (.inr (some (723)))), (1, .inl (x))]) (st' := [.inl (0)]) rfl ?_
        refine ez_retZ rfl rfl (by decide) (k0 (fun w => ?_))
        rcases w with (w | w) | ⟨a, b, w, w2⟩
        · exact e (z2.mpr w)
        · omega
        · rcases hv with ⟨a2, b2, w3, e2⟩ | ⟨e2, w3⟩
          · rw [w] at w3; cases w3; subst e2; first | omega | (have := ((hw x).2 _ _ w).2.2.1 v (by simp); omega)
          · exact w3 ⟨a, b, w⟩
      · skip
        refine ez_go (n := 1) (pc' := 44) (L' := [(3, .inl (v)), (2, .inr (.inr (some (z)))), (0, .inr (.inr (some (723)))), (1, .inl (x))]) (st' := [.inr (.inr (some (723)))]) rfl ?_
        refine ez_gC (p := 202) (tg := 48) hC.1 t723 rfl rfl tq_55 rfl rfl (fun (t202 : _ = 48) => ?_)
        refine ez_go (n := 1) (pc' := 48) (L' := [(3, .inl (v)), (2, .inr (.inr (some (z)))), (0, .inr (.inr (some (723)))), (1, .inl (x))]) (st' := [.inl (v), .inr (.inr (some (202)))]) rfl ?_
        have fb : -2147483648 ≤ (F v).1 ∧ (F v).1 ≤ 2147483647 := by have := hC.2.2.2.2 v (by omega) (by omega); have b2 : -2147483648 ≤ qz_I h (T v) 2 ∧ qz_I h (T v) 2 ≤ 2147483647 := ez_fB (cl := 3) hC.1 this.1 tq_3 rfl rfl (by decide); rw [this.2.1] at b2; exact b2
        refine ez_cv hC.1 t202 rfl rfl rfl tq_48 rfl rfl rfl (rd_classOf hC (by omega) (by omega) (ez_K1 ?_))
        refine ez_if rfl rfl ⟨by first | omega | exact (sz_i32 _).1, by first | omega | exact (sz_i32 _).2⟩ (fun (c10 : ((F v).1) ≤ (0)) => ?_) (fun (c10 : ¬(((F v).1) ≤ (0))) => ?_)
        · skip
          refine ez_go (n := 1) (pc' := 59) (L' := [(3, .inl (v)), (2, .inr (.inr (some (z)))), (0, .inr (.inr (some (723)))), (1, .inl (x))]) (st' := [.inl (0)]) rfl ?_
          refine ez_retZ rfl rfl (by decide) (k0 (fun w => ?_))
          rcases w with (w | w) | ⟨a, b, w, w2⟩
          · exact e (z2.mpr w)
          · omega
          · rcases hv with ⟨a2, b2, w3, e2⟩ | ⟨e2, w3⟩
            · rw [w] at w3; cases w3; subst e2; first | omega | (have := ((hw x).2 _ _ w).2.2.1 v (by simp); omega)
            · exact w3 ⟨a, b, w⟩
        · skip
          refine ez_go (n := 2) (pc' := 59) (L' := [(3, .inl (v)), (2, .inr (.inr (some (z)))), (0, .inr (.inr (some (723)))), (1, .inl (x))]) (st' := [.inl (1)]) rfl ?_
          rcases hv with ⟨a, b, w, e2⟩ | ⟨e2, _⟩
          · subst e2; exact ez_retZ rfl rfl (by decide) (k1 (Or.inr ⟨v, b, w, by omega⟩))
          · exfalso; omega
    · skip
      refine ez_go (n := 1) (pc' := 28) (L' := [(2, .inr (.inr (some (z)))), (0, .inr (.inr (some (723)))), (1, .inl (x))]) (st' := [.inl (1)]) rfl ?_
      exact ez_retZ rfl rfl (by decide) (k1 (Or.inl (Or.inr (by omega))))

theorem rd_syllableOf {a b : Int} (a0 : 0 ≤ a) (a1 : a ≤ 1114111) (b0 : 0 ≤ b) (b1 : b ≤ 1114111) (k1 : ∀ v, 0 ≤ v → v ≤ 2147483647 → hz_pair a b → Q (.inl (some (ez_v (.inl v))), h)) (k0 : ¬ hz_pair a b → Q (.inl (some (ez_v (.inl (-1)))), h)) : ez_W d cm_131 0 [(0, .inl (a)), (1, .inl (b))] [] h Q := by
  refine ez_go (n := 2) (pc' := 4) (L' := [(0, .inl (a)), (1, .inl (b))]) (st' := [.inl (4352), .inl (a)]) rfl ?_
  refine ez_icmp rfl rfl ⟨by first | omega | exact (sz_i32 _).1, by first | omega | exact (sz_i32 _).2⟩ ⟨by first | omega | exact (sz_i32 _).1, by first | omega | exact (sz_i32 _).2⟩ (fun (c1 : (a) < (4352)) => ?_) (fun (c1 : ¬((a) < (4352))) => ?_)
  · skip
    refine ez_go (n := 1) (pc' := 51) (L' := [(0, .inl (a)), (1, .inl (b))]) (st' := [.inl (a)]) rfl ?_
    refine ez_ldc (44032) rfl rfl rfl ?_
    refine ez_go (n := 3) (pc' := 56) (L' := [(2, .inl ((a) - (44032))), (0, .inl (a)), (1, .inl (b))]) (st' := [.inl ((a) - (44032))]) rfl ?_
    refine ez_if rfl rfl ⟨by first | omega | exact (sz_i32 _).1, by first | omega | exact (sz_i32 _).2⟩ (fun (c2 : ((a) - (44032)) < (0)) => ?_) (fun (c2 : ¬(((a) - (44032)) < (0))) => ?_)
    · skip
      refine ez_go (n := 3) (pc' := 79) (L' := [(3, .inl (0)), (2, .inl ((a) - (44032))), (0, .inl (a)), (1, .inl (b))]) (st' := [.inl (0)]) rfl ?_
      refine ez_if rfl rfl ⟨by decide, by decide⟩ (fun _ => ?_) (fun (c3 : ¬((0 : Int) = (0))) => absurd c3 (by decide))
      refine ez_go (n := 1) (pc' := 107) (L' := [(3, .inl (0)), (2, .inl ((a) - (44032))), (0, .inl (a)), (1, .inl (b))]) (st' := [.inl (-1)]) rfl ?_
      exact ez_retI rfl rfl (k0 (fun w => by rcases w with w | ⟨⟨w1, w2⟩, w3, w4⟩ <;> omega))
    · skip
      refine ez_go (n := 1) (pc' := 60) (L' := [(2, .inl ((a) - (44032))), (0, .inl (a)), (1, .inl (b))]) (st' := [.inl (a)]) rfl ?_
      refine ez_ldc (55203) rfl rfl rfl ?_
      refine ez_icmp rfl rfl ⟨by first | omega | exact (sz_i32 _).1, by first | omega | exact (sz_i32 _).2⟩ ⟨by first | omega | exact (sz_i32 _).1, by first | omega | exact (sz_i32 _).2⟩ (fun (c4 : (55203) < (a)) => ?_) (fun (c4 : ¬((55203) < (a))) => ?_)
      · skip
        refine ez_go (n := 3) (pc' := 79) (L' := [(3, .inl (0)), (2, .inl ((a) - (44032))), (0, .inl (a)), (1, .inl (b))]) (st' := [.inl (0)]) rfl ?_
        refine ez_if rfl rfl ⟨by decide, by decide⟩ (fun _ => ?_) (fun (c5 : ¬((0 : Int) = (0))) => absurd c5 (by decide))
        refine ez_go (n := 1) (pc' := 107) (L' := [(3, .inl (0)), (2, .inl ((a) - (44032))), (0, .inl (a)), (1, .inl (b))]) (st' := [.inl (-1)]) rfl ?_
        exact ez_retI rfl rfl (k0 (fun w => by rcases w with w | ⟨⟨w1, w2⟩, w3, w4⟩ <;> omega))
      · skip
        refine ez_go (n := 2) (pc' := 68) (L' := [(2, .inl ((a) - (44032))), (0, .inl (a)), (1, .inl (b))]) (st' := [.inl (28), .inl ((a) - (44032))]) rfl ?_
        refine ez_rem rfl (by omega) (by omega) (by omega) (by omega) ?_
        refine ez_if rfl rfl ⟨by first | omega | exact (sz_i32 _).1, by first | omega | exact (sz_i32 _).2⟩ (fun (c6 : (((a) - (44032)) % (28)) ≠ (0)) => ?_) (fun (c6 : ¬((((a) - (44032)) % (28)) ≠ (0))) => ?_)
        · skip
          refine ez_go (n := 3) (pc' := 79) (L' := [(3, .inl (0)), (2, .inl ((a) - (44032))), (0, .inl (a)), (1, .inl (b))]) (st' := [.inl (0)]) rfl ?_
          refine ez_if rfl rfl ⟨by decide, by decide⟩ (fun _ => ?_) (fun (c7 : ¬((0 : Int) = (0))) => absurd c7 (by decide))
          refine ez_go (n := 1) (pc' := 107) (L' := [(3, .inl (0)), (2, .inl ((a) - (44032))), (0, .inl (a)), (1, .inl (b))]) (st' := [.inl (-1)]) rfl ?_
          exact ez_retI rfl rfl (k0 (fun w => by rcases w with w | ⟨⟨w1, w2⟩, w3, w4⟩ <;> omega))
        · skip
          refine ez_go (n := 4) (pc' := 79) (L' := [(3, .inl (1)), (2, .inl ((a) - (44032))), (0, .inl (a)), (1, .inl (b))]) (st' := [.inl (1)]) rfl ?_
          refine ez_if rfl rfl ⟨by decide, by decide⟩ (fun (c8 : (1 : Int) = (0)) => absurd c8 (by decide)) (fun _ => ?_)
          refine ez_go (n := 2) (pc' := 86) (L' := [(3, .inl (1)), (2, .inl ((a) - (44032))), (0, .inl (a)), (1, .inl (b))]) (st' := [.inl (4520), .inl (b)]) rfl ?_
          refine ez_icmp rfl rfl ⟨by first | omega | exact (sz_i32 _).1, by first | omega | exact (sz_i32 _).2⟩ ⟨by first | omega | exact (sz_i32 _).1, by first | omega | exact (sz_i32 _).2⟩ (fun (c9 : (b) < (4520)) => ?_) (fun (c9 : ¬((b) < (4520))) => ?_)
          · skip
            refine ez_go (n := 1) (pc' := 107) (L' := [(3, .inl (1)), (2, .inl ((a) - (44032))), (0, .inl (a)), (1, .inl (b))]) (st' := [.inl (-1)]) rfl ?_
            exact ez_retI rfl rfl (k0 (fun w => by rcases w with w | ⟨⟨w1, w2⟩, w3, w4⟩ <;> omega))
          · skip
            refine ez_go (n := 2) (pc' := 93) (L' := [(3, .inl (1)), (2, .inl ((a) - (44032))), (0, .inl (a)), (1, .inl (b))]) (st' := [.inl (4546), .inl (b)]) rfl ?_
            refine ez_icmp rfl rfl ⟨by first | omega | exact (sz_i32 _).1, by first | omega | exact (sz_i32 _).2⟩ ⟨by first | omega | exact (sz_i32 _).1, by first | omega | exact (sz_i32 _).2⟩ (fun (c10 : (4546) < (b)) => ?_) (fun (c10 : ¬((4546) < (b))) => ?_)
            · skip
              refine ez_go (n := 1) (pc' := 107) (L' := [(3, .inl (1)), (2, .inl ((a) - (44032))), (0, .inl (a)), (1, .inl (b))]) (st' := [.inl (-1)]) rfl ?_
              exact ez_retI rfl rfl (k0 (fun w => by rcases w with w | ⟨⟨w1, w2⟩, w3, w4⟩ <;> omega))
            · skip
              refine ez_go (n := 6) (pc' := 107) (L' := [(3, .inl (1)), (2, .inl ((a) - (44032))), (0, .inl (a)), (1, .inl (b))]) (st' := [.inl (((a) + (b)) - (4519))]) rfl ?_
              exact ez_retI rfl rfl (k1 _ (by omega) (by omega) (by first | (exact Or.inl ⟨⟨by omega, by omega⟩, by omega, by omega⟩) | (exact Or.inr ⟨⟨by omega, by omega⟩, by omega, by omega, by omega⟩)))
  · skip
    refine ez_go (n := 2) (pc' := 11) (L' := [(0, .inl (a)), (1, .inl (b))]) (st' := [.inl (4370), .inl (a)]) rfl ?_
    refine ez_icmp rfl rfl ⟨by first | omega | exact (sz_i32 _).1, by first | omega | exact (sz_i32 _).2⟩ ⟨by first | omega | exact (sz_i32 _).1, by first | omega | exact (sz_i32 _).2⟩ (fun (c11 : (4370) < (a)) => ?_) (fun (c11 : ¬((4370) < (a))) => ?_)
    · skip
      refine ez_go (n := 1) (pc' := 51) (L' := [(0, .inl (a)), (1, .inl (b))]) (st' := [.inl (a)]) rfl ?_
      refine ez_ldc (44032) rfl rfl rfl ?_
      refine ez_go (n := 3) (pc' := 56) (L' := [(2, .inl ((a) - (44032))), (0, .inl (a)), (1, .inl (b))]) (st' := [.inl ((a) - (44032))]) rfl ?_
      refine ez_if rfl rfl ⟨by first | omega | exact (sz_i32 _).1, by first | omega | exact (sz_i32 _).2⟩ (fun (c12 : ((a) - (44032)) < (0)) => ?_) (fun (c12 : ¬(((a) - (44032)) < (0))) => ?_)
      · skip
        refine ez_go (n := 3) (pc' := 79) (L' := [(3, .inl (0)), (2, .inl ((a) - (44032))), (0, .inl (a)), (1, .inl (b))]) (st' := [.inl (0)]) rfl ?_
        refine ez_if rfl rfl ⟨by decide, by decide⟩ (fun _ => ?_) (fun (c13 : ¬((0 : Int) = (0))) => absurd c13 (by decide))
        refine ez_go (n := 1) (pc' := 107) (L' := [(3, .inl (0)), (2, .inl ((a) - (44032))), (0, .inl (a)), (1, .inl (b))]) (st' := [.inl (-1)]) rfl ?_
        exact ez_retI rfl rfl (k0 (fun w => by rcases w with w | ⟨⟨w1, w2⟩, w3, w4⟩ <;> omega))
      · skip
        refine ez_go (n := 1) (pc' := 60) (L' := [(2, .inl ((a) - (44032))), (0, .inl (a)), (1, .inl (b))]) (st' := [.inl (a)]) rfl ?_
        refine ez_ldc (55203) rfl rfl rfl ?_
        refine ez_icmp rfl rfl ⟨by first | omega | exact (sz_i32 _).1, by first | omega | exact (sz_i32 _).2⟩ ⟨by first | omega | exact (sz_i32 _).1, by first | omega | exact (sz_i32 _).2⟩ (fun (c14 : (55203) < (a)) => ?_) (fun (c14 : ¬((55203) < (a))) => ?_)
        · skip
          refine ez_go (n := 3) (pc' := 79) (L' := [(3, .inl (0)), (2, .inl ((a) - (44032))), (0, .inl (a)), (1, .inl (b))]) (st' := [.inl (0)]) rfl ?_
          refine ez_if rfl rfl ⟨by decide, by decide⟩ (fun _ => ?_) (fun (c15 : ¬((0 : Int) = (0))) => absurd c15 (by decide))
          refine ez_go (n := 1) (pc' := 107) (L' := [(3, .inl (0)), (2, .inl ((a) - (44032))), (0, .inl (a)), (1, .inl (b))]) (st' := [.inl (-1)]) rfl ?_
          exact ez_retI rfl rfl (k0 (fun w => by rcases w with w | ⟨⟨w1, w2⟩, w3, w4⟩ <;> omega))
        · skip
          refine ez_go (n := 2) (pc' := 68) (L' := [(2, .inl ((a) - (44032))), (0, .inl (a)), (1, .inl (b))]) (st' := [.inl (28), .inl ((a) - (44032))]) rfl ?_
          refine ez_rem rfl (by omega) (by omega) (by omega) (by omega) ?_
          refine ez_if rfl rfl ⟨by first | omega | exact (sz_i32 _).1, by first | omega | exact (sz_i32 _).2⟩ (fun (c16 : (((a) - (44032)) % (28)) ≠ (0)) => ?_) (fun (c16 : ¬((((a) - (44032)) % (28)) ≠ (0))) => ?_)
          · skip
            refine ez_go (n := 3) (pc' := 79) (L' := [(3, .inl (0)), (2, .inl ((a) - (44032))), (0, .inl (a)), (1, .inl (b))]) (st' := [.inl (0)]) rfl ?_
            refine ez_if rfl rfl ⟨by decide, by decide⟩ (fun _ => ?_) (fun (c17 : ¬((0 : Int) = (0))) => absurd c17 (by decide))
            refine ez_go (n := 1) (pc' := 107) (L' := [(3, .inl (0)), (2, .inl ((a) - (44032))), (0, .inl (a)), (1, .inl (b))]) (st' := [.inl (-1)]) rfl ?_
            exact ez_retI rfl rfl (k0 (fun w => by rcases w with w | ⟨⟨w1, w2⟩, w3, w4⟩ <;> omega))
          · skip
            refine ez_go (n := 4) (pc' := 79) (L' := [(3, .inl (1)), (2, .inl ((a) - (44032))), (0, .inl (a)), (1, .inl (b))]) (st' := [.inl (1)]) rfl ?_
            refine ez_if rfl rfl ⟨by decide, by decide⟩ (fun (c18 : (1 : Int) = (0)) => absurd c18 (by decide)) (fun _ => ?_)
            refine ez_go (n := 2) (pc' := 86) (L' := [(3, .inl (1)), (2, .inl ((a) - (44032))), (0, .inl (a)), (1, .inl (b))]) (st' := [.inl (4520), .inl (b)]) rfl ?_
            refine ez_icmp rfl rfl ⟨by first | omega | exact (sz_i32 _).1, by first | omega | exact (sz_i32 _).2⟩ ⟨by first | omega | exact (sz_i32 _).1, by first | omega | exact (sz_i32 _).2⟩ (fun (c19 : (b) < (4520)) => ?_) (fun (c19 : ¬((b) < (4520))) => ?_)
            · skip
              refine ez_go (n := 1) (pc' := 107) (L' := [(3, .inl (1)), (2, .inl ((a) - (44032))), (0, .inl (a)), (1, .inl (b))]) (st' := [.inl (-1)]) rfl ?_
              exact ez_retI rfl rfl (k0 (fun w => by rcases w with w | ⟨⟨w1, w2⟩, w3, w4⟩ <;> omega))
            · skip
              refine ez_go (n := 2) (pc' := 93) (L' := [(3, .inl (1)), (2, .inl ((a) - (44032))), (0, .inl (a)), (1, .inl (b))]) (st' := [.inl (4546), .inl (b)]) rfl ?_
              refine ez_icmp rfl rfl ⟨by first | omega | exact (sz_i32 _).1, by first | omega | exact (sz_i32 _).2⟩ ⟨by first | omega | exact (sz_i32 _).1, by first | omega | exact (sz_i32 _).2⟩ (fun (c20 : (4546) < (b)) => ?_) (fun (c20 : ¬((4546) < (b))) => ?_)
              · skip
                refine ez_go (n := 1) (pc' := 107) (L' := [(3, .inl (1)), (2, .inl ((a) - (44032))), (0, .inl (a)), (1, .inl (b))]) (st' := [.inl (-1)]) rfl ?_
                exact ez_retI rfl rfl (k0 (fun w => by rcases w with w | ⟨⟨w1, w2⟩, w3, w4⟩ <;> omega))
              · skip
                refine ez_go (n := 6) (pc' := 107) (L' := [(3, .inl (1)), (2, .inl ((a) - (44032))), (0, .inl (a)), (1, .inl (b))]) (st' := [.inl (((a) + (b)) - (4519))]) rfl ?_
                exact ez_retI rfl rfl (k1 _ (by omega) (by omega) (by first | (exact Or.inl ⟨⟨by omega, by omega⟩, by omega, by omega⟩) | (exact Or.inr ⟨⟨by omega, by omega⟩, by omega, by omega, by omega⟩)))
    · skip
      refine ez_go (n := 2) (pc' := 18) (L' := [(0, .inl (a)), (1, .inl (b))]) (st' := [.inl (4449), .inl (b)]) rfl ?_
      refine ez_icmp rfl rfl ⟨by first | omega | exact (sz_i32 _).1, by first | omega | exact (sz_i32 _).2⟩ ⟨by first | omega | exact (sz_i32 _).1, by first | omega | exact (sz_i32 _).2⟩ (fun (c21 : (b) < (4449)) => ?_) (fun (c21 : ¬((b) < (4449))) => ?_)
      · skip
        refine ez_go (n := 1) (pc' := 51) (L' := [(0, .inl (a)), (1, .inl (b))]) (st' := [.inl (a)]) rfl ?_
        refine ez_ldc (44032) rfl rfl rfl ?_
        refine ez_go (n := 3) (pc' := 56) (L' := [(2, .inl ((a) - (44032))), (0, .inl (a)), (1, .inl (b))]) (st' := [.inl ((a) - (44032))]) rfl ?_
        refine ez_if rfl rfl ⟨by first | omega | exact (sz_i32 _).1, by first | omega | exact (sz_i32 _).2⟩ (fun (c22 : ((a) - (44032)) < (0)) => ?_) (fun (c22 : ¬(((a) - (44032)) < (0))) => ?_)
        · skip
          refine ez_go (n := 3) (pc' := 79) (L' := [(3, .inl (0)), (2, .inl ((a) - (44032))), (0, .inl (a)), (1, .inl (b))]) (st' := [.inl (0)]) rfl ?_
          refine ez_if rfl rfl ⟨by decide, by decide⟩ (fun _ => ?_) (fun (c23 : ¬((0 : Int) = (0))) => absurd c23 (by decide))
          refine ez_go (n := 1) (pc' := 107) (L' := [(3, .inl (0)), (2, .inl ((a) - (44032))), (0, .inl (a)), (1, .inl (b))]) (st' := [.inl (-1)]) rfl ?_
          exact ez_retI rfl rfl (k0 (fun w => by rcases w with w | ⟨⟨w1, w2⟩, w3, w4⟩ <;> omega))
        · skip
          refine ez_go (n := 1) (pc' := 60) (L' := [(2, .inl ((a) - (44032))), (0, .inl (a)), (1, .inl (b))]) (st' := [.inl (a)]) rfl ?_
          refine ez_ldc (55203) rfl rfl rfl ?_
          refine ez_icmp rfl rfl ⟨by first | omega | exact (sz_i32 _).1, by first | omega | exact (sz_i32 _).2⟩ ⟨by first | omega | exact (sz_i32 _).1, by first | omega | exact (sz_i32 _).2⟩ (fun (c24 : (55203) < (a)) => ?_) (fun (c24 : ¬((55203) < (a))) => ?_)
          · skip
            refine ez_go (n := 3) (pc' := 79) (L' := [(3, .inl (0)), (2, .inl ((a) - (44032))), (0, .inl (a)), (1, .inl (b))]) (st' := [.inl (0)]) rfl ?_
            refine ez_if rfl rfl ⟨by decide, by decide⟩ (fun _ => ?_) (fun (c25 : ¬((0 : Int) = (0))) => absurd c25 (by decide))
            refine ez_go (n := 1) (pc' := 107) (L' := [(3, .inl (0)), (2, .inl ((a) - (44032))), (0, .inl (a)), (1, .inl (b))]) (st' := [.inl (-1)]) rfl ?_
            exact ez_retI rfl rfl (k0 (fun w => by rcases w with w | ⟨⟨w1, w2⟩, w3, w4⟩ <;> omega))
          · skip
            refine ez_go (n := 2) (pc' := 68) (L' := [(2, .inl ((a) - (44032))), (0, .inl (a)), (1, .inl (b))]) (st' := [.inl (28), .inl ((a) - (44032))]) rfl ?_
            refine ez_rem rfl (by omega) (by omega) (by omega) (by omega) ?_
            refine ez_if rfl rfl ⟨by first | omega | exact (sz_i32 _).1, by first | omega | exact (sz_i32 _).2⟩ (fun (c26 : (((a) - (44032)) % (28)) ≠ (0)) => ?_) (fun (c26 : ¬((((a) - (44032)) % (28)) ≠ (0))) => ?_)
            · skip
              refine ez_go (n := 3) (pc' := 79) (L' := [(3, .inl (0)), (2, .inl ((a) - (44032))), (0, .inl (a)), (1, .inl (b))]) (st' := [.inl (0)]) rfl ?_
              refine ez_if rfl rfl ⟨by decide, by decide⟩ (fun _ => ?_) (fun (c27 : ¬((0 : Int) = (0))) => absurd c27 (by decide))
              refine ez_go (n := 1) (pc' := 107) (L' := [(3, .inl (0)), (2, .inl ((a) - (44032))), (0, .inl (a)), (1, .inl (b))]) (st' := [.inl (-1)]) rfl ?_
              exact ez_retI rfl rfl (k0 (fun w => by rcases w with w | ⟨⟨w1, w2⟩, w3, w4⟩ <;> omega))
            · skip
              refine ez_go (n := 4) (pc' := 79) (L' := [(3, .inl (1)), (2, .inl ((a) - (44032))), (0, .inl (a)), (1, .inl (b))]) (st' := [.inl (1)]) rfl ?_
              refine ez_if rfl rfl ⟨by decide, by decide⟩ (fun (c28 : (1 : Int) = (0)) => absurd c28 (by decide)) (fun _ => ?_)
              refine ez_go (n := 2) (pc' := 86) (L' := [(3, .inl (1)), (2, .inl ((a) - (44032))), (0, .inl (a)), (1, .inl (b))]) (st' := [.inl (4520), .inl (b)]) rfl ?_
              refine ez_icmp rfl rfl ⟨by first | omega | exact (sz_i32 _).1, by first | omega | exact (sz_i32 _).2⟩ ⟨by first | omega | exact (sz_i32 _).1, by first | omega | exact (sz_i32 _).2⟩ (fun (c29 : (b) < (4520)) => ?_) (fun (c29 : ¬((b) < (4520))) => ?_)
              · skip
                refine ez_go (n := 1) (pc' := 107) (L' := [(3, .inl (1)), (2, .inl ((a) - (44032))), (0, .inl (a)), (1, .inl (b))]) (st' := [.inl (-1)]) rfl ?_
                exact ez_retI rfl rfl (k0 (fun w => by rcases w with w | ⟨⟨w1, w2⟩, w3, w4⟩ <;> omega))
              · skip
                refine ez_go (n := 2) (pc' := 93) (L' := [(3, .inl (1)), (2, .inl ((a) - (44032))), (0, .inl (a)), (1, .inl (b))]) (st' := [.inl (4546), .inl (b)]) rfl ?_
                refine ez_icmp rfl rfl ⟨by first | omega | exact (sz_i32 _).1, by first | omega | exact (sz_i32 _).2⟩ ⟨by first | omega | exact (sz_i32 _).1, by first | omega | exact (sz_i32 _).2⟩ (fun (c30 : (4546) < (b)) => ?_) (fun (c30 : ¬((4546) < (b))) => ?_)
                · skip
                  refine ez_go (n := 1) (pc' := 107) (L' := [(3, .inl (1)), (2, .inl ((a) - (44032))), (0, .inl (a)), (1, .inl (b))]) (st' := [.inl (-1)]) rfl ?_
                  exact ez_retI rfl rfl (k0 (fun w => by rcases w with w | ⟨⟨w1, w2⟩, w3, w4⟩ <;> omega))
                · skip
                  refine ez_go (n := 6) (pc' := 107) (L' := [(3, .inl (1)), (2, .inl ((a) - (44032))), (0, .inl (a)), (1, .inl (b))]) (st' := [.inl (((a) + (b)) - (4519))]) rfl ?_
                  exact ez_retI rfl rfl (k1 _ (by omega) (by omega) (by first | (exact Or.inl ⟨⟨by omega, by omega⟩, by omega, by omega⟩) | (exact Or.inr ⟨⟨by omega, by omega⟩, by omega, by omega, by omega⟩)))
      · skip
        refine ez_go (n := 2) (pc' := 25) (L' := [(0, .inl (a)), (1, .inl (b))]) (st' := [.inl (4469), .inl (b)]) rfl ?_
        refine ez_icmp rfl rfl ⟨by first | omega | exact (sz_i32 _).1, by first | omega | exact (sz_i32 _).2⟩ ⟨by first | omega | exact (sz_i32 _).1, by first | omega | exact (sz_i32 _).2⟩ (fun (c31 : (4469) < (b)) => ?_) (fun (c31 : ¬((4469) < (b))) => ?_)
        · skip
          refine ez_go (n := 1) (pc' := 51) (L' := [(0, .inl (a)), (1, .inl (b))]) (st' := [.inl (a)]) rfl ?_
          refine ez_ldc (44032) rfl rfl rfl ?_
          refine ez_go (n := 3) (pc' := 56) (L' := [(2, .inl ((a) - (44032))), (0, .inl (a)), (1, .inl (b))]) (st' := [.inl ((a) - (44032))]) rfl ?_
          refine ez_if rfl rfl ⟨by first | omega | exact (sz_i32 _).1, by first | omega | exact (sz_i32 _).2⟩ (fun (c32 : ((a) - (44032)) < (0)) => ?_) (fun (c32 : ¬(((a) - (44032)) < (0))) => ?_)
          · skip
            refine ez_go (n := 3) (pc' := 79) (L' := [(3, .inl (0)), (2, .inl ((a) - (44032))), (0, .inl (a)), (1, .inl (b))]) (st' := [.inl (0)]) rfl ?_
            refine ez_if rfl rfl ⟨by decide, by decide⟩ (fun _ => ?_) (fun (c33 : ¬((0 : Int) = (0))) => absurd c33 (by decide))
            refine ez_go (n := 1) (pc' := 107) (L' := [(3, .inl (0)), (2, .inl ((a) - (44032))), (0, .inl (a)), (1, .inl (b))]) (st' := [.inl (-1)]) rfl ?_
            exact ez_retI rfl rfl (k0 (fun w => by rcases w with w | ⟨⟨w1, w2⟩, w3, w4⟩ <;> omega))
          · skip
            refine ez_go (n := 1) (pc' := 60) (L' := [(2, .inl ((a) - (44032))), (0, .inl (a)), (1, .inl (b))]) (st' := [.inl (a)]) rfl ?_
            refine ez_ldc (55203) rfl rfl rfl ?_
            refine ez_icmp rfl rfl ⟨by first | omega | exact (sz_i32 _).1, by first | omega | exact (sz_i32 _).2⟩ ⟨by first | omega | exact (sz_i32 _).1, by first | omega | exact (sz_i32 _).2⟩ (fun (c34 : (55203) < (a)) => ?_) (fun (c34 : ¬((55203) < (a))) => ?_)
            · skip
              refine ez_go (n := 3) (pc' := 79) (L' := [(3, .inl (0)), (2, .inl ((a) - (44032))), (0, .inl (a)), (1, .inl (b))]) (st' := [.inl (0)]) rfl ?_
              refine ez_if rfl rfl ⟨by decide, by decide⟩ (fun _ => ?_) (fun (c35 : ¬((0 : Int) = (0))) => absurd c35 (by decide))
              refine ez_go (n := 1) (pc' := 107) (L' := [(3, .inl (0)), (2, .inl ((a) - (44032))), (0, .inl (a)), (1, .inl (b))]) (st' := [.inl (-1)]) rfl ?_
              exact ez_retI rfl rfl (k0 (fun w => by rcases w with w | ⟨⟨w1, w2⟩, w3, w4⟩ <;> omega))
            · skip
              refine ez_go (n := 2) (pc' := 68) (L' := [(2, .inl ((a) - (44032))), (0, .inl (a)), (1, .inl (b))]) (st' := [.inl (28), .inl ((a) - (44032))]) rfl ?_
              refine ez_rem rfl (by omega) (by omega) (by omega) (by omega) ?_
              refine ez_if rfl rfl ⟨by first | omega | exact (sz_i32 _).1, by first | omega | exact (sz_i32 _).2⟩ (fun (c36 : (((a) - (44032)) % (28)) ≠ (0)) => ?_) (fun (c36 : ¬((((a) - (44032)) % (28)) ≠ (0))) => ?_)
              · skip
                refine ez_go (n := 3) (pc' := 79) (L' := [(3, .inl (0)), (2, .inl ((a) - (44032))), (0, .inl (a)), (1, .inl (b))]) (st' := [.inl (0)]) rfl ?_
                refine ez_if rfl rfl ⟨by decide, by decide⟩ (fun _ => ?_) (fun (c37 : ¬((0 : Int) = (0))) => absurd c37 (by decide))
                refine ez_go (n := 1) (pc' := 107) (L' := [(3, .inl (0)), (2, .inl ((a) - (44032))), (0, .inl (a)), (1, .inl (b))]) (st' := [.inl (-1)]) rfl ?_
                exact ez_retI rfl rfl (k0 (fun w => by rcases w with w | ⟨⟨w1, w2⟩, w3, w4⟩ <;> omega))
              · skip
                refine ez_go (n := 4) (pc' := 79) (L' := [(3, .inl (1)), (2, .inl ((a) - (44032))), (0, .inl (a)), (1, .inl (b))]) (st' := [.inl (1)]) rfl ?_
                refine ez_if rfl rfl ⟨by decide, by decide⟩ (fun (c38 : (1 : Int) = (0)) => absurd c38 (by decide)) (fun _ => ?_)
                refine ez_go (n := 2) (pc' := 86) (L' := [(3, .inl (1)), (2, .inl ((a) - (44032))), (0, .inl (a)), (1, .inl (b))]) (st' := [.inl (4520), .inl (b)]) rfl ?_
                refine ez_icmp rfl rfl ⟨by first | omega | exact (sz_i32 _).1, by first | omega | exact (sz_i32 _).2⟩ ⟨by first | omega | exact (sz_i32 _).1, by first | omega | exact (sz_i32 _).2⟩ (fun (c39 : (b) < (4520)) => ?_) (fun (c39 : ¬((b) < (4520))) => ?_)
                · skip
                  refine ez_go (n := 1) (pc' := 107) (L' := [(3, .inl (1)), (2, .inl ((a) - (44032))), (0, .inl (a)), (1, .inl (b))]) (st' := [.inl (-1)]) rfl ?_
                  exact ez_retI rfl rfl (k0 (fun w => by rcases w with w | ⟨⟨w1, w2⟩, w3, w4⟩ <;> omega))
                · skip
                  refine ez_go (n := 2) (pc' := 93) (L' := [(3, .inl (1)), (2, .inl ((a) - (44032))), (0, .inl (a)), (1, .inl (b))]) (st' := [.inl (4546), .inl (b)]) rfl ?_
                  refine ez_icmp rfl rfl ⟨by first | omega | exact (sz_i32 _).1, by first | omega | exact (sz_i32 _).2⟩ ⟨by first | omega | exact (sz_i32 _).1, by first | omega | exact (sz_i32 _).2⟩ (fun (c40 : (4546) < (b)) => ?_) (fun (c40 : ¬((4546) < (b))) => ?_)
                  · skip
                    refine ez_go (n := 1) (pc' := 107) (L' := [(3, .inl (1)), (2, .inl ((a) - (44032))), (0, .inl (a)), (1, .inl (b))]) (st' := [.inl (-1)]) rfl ?_
                    exact ez_retI rfl rfl (k0 (fun w => by rcases w with w | ⟨⟨w1, w2⟩, w3, w4⟩ <;> omega))
                  · skip
                    refine ez_go (n := 6) (pc' := 107) (L' := [(3, .inl (1)), (2, .inl ((a) - (44032))), (0, .inl (a)), (1, .inl (b))]) (st' := [.inl (((a) + (b)) - (4519))]) rfl ?_
                    exact ez_retI rfl rfl (k1 _ (by omega) (by omega) (by first | (exact Or.inl ⟨⟨by omega, by omega⟩, by omega, by omega⟩) | (exact Or.inr ⟨⟨by omega, by omega⟩, by omega, by omega, by omega⟩)))
        · skip
          refine ez_ldc (44032) rfl rfl rfl ?_
          refine ez_go (n := 12) (pc' := 49) (L' := [(0, .inl (a)), (1, .inl (b))]) (st' := [.inl (((44032) + (((a) - (4352)) * (588))) + (((b) - (4449)) * (28)))]) rfl ?_
          exact ez_retI rfl rfl (k1 _ (by omega) (by omega) (by first | (exact Or.inl ⟨⟨by omega, by omega⟩, by omega, by omega⟩) | (exact Or.inr ⟨⟨by omega, by omega⟩, by omega, by omega, by omega⟩)))

theorem rd_packPair {a b : Int} (a0 : 0 ≤ a) (a1 : a ≤ 1114111) (b0 : 0 ≤ b) (b1 : b ≤ 1114111) (k : ∀ y : Int64, y.toInt = a * 2097152 + b → Q (.inl (some (.inr (.inl y))), h)) : ez_W d cm_124 0 [(0, .inl (a)), (1, .inl (b))] [] h Q := by
  refine ez_go (n := 7) (pc' := 8) (L' := [(0, .inl (a)), (1, .inl (b))]) (st' := [.inr (.inl ((((Int32.ofInt (a)).toInt64) <<< ((Int32.ofInt (21)).toInt64 &&& 63)) ||| ((Int32.ofInt (b)).toInt64)))]) rfl ?_
  exact ez_retL rfl rfl (k _ (pp_int a0 a1 b0 b1))

end EzPr
/-! The class: insertPair, gatherPairs. (Written by wip/p2/py/pv35.py.) -/
/-- n numbers that rise -/
def ri (P : Int → Int) (n : Int) : Prop := ∀ i j, 0 ≤ i → i < j → j < n → P i < P j
theorem ri_ins {P P2 : Int → Int} {n pl v : Int} (hr : ri P n) (p0 : 0 ≤ pl) (p1 : pl ≤ n) (h1 : pl = 0 ∨ P (pl - 1) < v) (h2 : pl = n ∨ v < P pl) (h3 : ∀ k, 0 ≤ k → k ≤ n → P2 k = if k = pl then v else if pl < k then P (k - 1) else P k) : ri P2 (n + 1) ∧ ∀ y, (∃ j, 0 ≤ j ∧ j < n + 1 ∧ P2 j = y) ↔ (y = v ∨ ∃ j, 0 ≤ j ∧ j < n ∧ P j = y) := by
  have lo : ∀ k, 0 ≤ k → k < pl → P k < v := fun k k0 k1 => by
    rcases h1 with e | e
    · omega
    · by_cases e2 : k = pl - 1
      · rw [e2]; exact e
      · have := hr k (pl - 1) k0 (by omega) (by omega); omega
  have hi : ∀ k, pl ≤ k → k < n → v < P k := fun k k0 k1 => by
    rcases h2 with e | e
    · omega
    · by_cases e2 : k = pl
      · rw [e2]; exact e
      · have := hr pl k p0 (by omega) k1; omega
  refine ⟨fun i j i0 ij jn => ?_, fun y => ⟨fun ⟨j, j0, j1, e⟩ => ?_, fun w => ?_⟩⟩
  · rw [h3 i i0 (by omega), h3 j (by omega) (by omega)]
    by_cases a : i = pl
    · rw [if_pos a, if_neg (by omega), if_pos (by omega)]
      exact hi _ (by omega) (by omega)
    · rw [if_neg a]
      by_cases b : j = pl
      · rw [if_pos b, if_neg (by omega)]; exact lo i i0 (by omega)
      · rw [if_neg b]
        by_cases c : pl < i
        · rw [if_pos c, if_pos (by omega)]; exact hr _ _ (by omega) (by omega) (by omega)
        · rw [if_neg c]
          by_cases c2 : pl < j
          · rw [if_pos c2]
            by_cases c3 : i < j - 1
            · exact hr _ _ i0 c3 (by omega)
            · omega
          · rw [if_neg c2]; exact hr _ _ i0 ij (by omega)
  · rw [h3 j j0 (by omega)] at e
    by_cases a : j = pl
    · rw [if_pos a] at e; exact Or.inl e.symm
    · rw [if_neg a] at e
      by_cases b : pl < j
      · rw [if_pos b] at e; exact Or.inr ⟨j - 1, by omega, by omega, e⟩
      · rw [if_neg b] at e; exact Or.inr ⟨j, j0, by omega, e⟩
  · rcases w with w | ⟨j, j0, j1, e⟩
    · exact ⟨pl, p0, by omega, by rw [h3 pl p0 p1, if_pos rfl]; exact w.symm⟩
    · by_cases a : j < pl
      · exact ⟨j, j0, by omega, by rw [h3 j j0 (by omega), if_neg (by omega), if_neg (by omega)]; exact e⟩
      · exact ⟨j + 1, by omega, by omega, by rw [h3 (j + 1) (by omega) (by omega), if_neg (by omega), if_pos (by omega), show j + 1 - 1 = j by omega]; exact e⟩
/-- the numbers of the pairs -/
def pp (g : cz_H) (k : Int) : Int := qz_I g 727 k.toNat
/-- what they stand for -/
def pcv (g : cz_H) (k : Int) : Int := qz_I g 728 k.toNat
def nz_PG (q : Nat) : Bool := Nat.beq q 723 || (Nat.beq q 727 || Nat.beq q 728)
section EzIp
variable {d : Nat} {h : cz_H} {τ : Nat → Nat} {Q : cz_F → Prop} {T : Int → Nat} {F : rz_W} {E : Int → Prop}
theorem rd_ins_e {a b x n pl : Int} {y : Int64} {g : cz_H} (t723 : τ 723 = 55) (t727 : τ 727 = 59) (t728 : τ 728 = 60) (n1 : n < 256) (p0 : 0 ≤ pl) (p1 : pl ≤ n) (x0 : 0 ≤ x) (x1 : x ≤ 1114111) (kk : ∀ g, ez_B τ g → ez_fr nz_PG h g → (∀ j, j ≠ 8 → qz_I g 723 j = qz_I h 723 j) → qz_I g 723 8 = n + 1 → (∀ k, 0 ≤ k → k ≤ n → pp g k = if k = pl then y.toInt else if pl < k then pp h (k - 1) else pp h k) → (∀ k, 0 ≤ k → k ≤ n → pcv g k = if k = pl then x else if pl < k then pcv h (k - 1) else pcv h k) → Q (.inl (some (ez_v (.inl 1))), g)) (hB : ez_B τ g) (hf : ez_fr nz_PG h g) (hj0 : ∀ j, j ≠ 8 → qz_I g 723 j = qz_I h 723 j) (hc : qz_I g 723 8 = n) (hv : ∀ k, 0 ≤ k → k ≤ n → qz_I g 727 k.toNat = if pl < k then pp h (k - 1) else pp h k) (hv2 : ∀ k, 0 ≤ k → k ≤ n → qz_I g 728 k.toNat = if pl < k then pcv h (k - 1) else pcv h k) : ez_W d cm_121 128 [(8, .inl (pl)), (7, .inl (0)), (6, .inl (pl)), (4, .inr (.inl (y))), (0, .inr (.inr (some (723)))), (1, .inl (a)), (2, .inl (b)), (3, .inl (x))] [] g Q := by
  refine ez_go (n := 1) (pc' := 129) (L' := [(8, .inl (pl)), (7, .inl (0)), (6, .inl (pl)), (4, .inr (.inl (y))), (0, .inr (.inr (some (723)))), (1, .inl (a)), (2, .inl (b)), (3, .inl (x))]) (st' := [.inr (.inr (some (723)))]) rfl ?_
  refine ez_gC (p := 727) (tg := 59) hB t723 rfl rfl tq_55 rfl rfl (fun (t727 : _ = 59) => ?_)
  refine ez_go (n := 2) (pc' := 136) (L' := [(8, .inl (pl)), (7, .inl (0)), (6, .inl (pl)), (4, .inr (.inl (y))), (0, .inr (.inr (some (723)))), (1, .inl (a)), (2, .inl (b)), (3, .inl (x))]) (st' := [.inr (.inl (y)), .inl (pl), .inr (.inr (some (727)))]) rfl ?_
  have n3 : 256 ≤ qz_N g 727 ∧ qz_N g 727 ≤ 256 := ez_len hB t727 tq_59 rfl
  refine ez_as hB t727 rfl tq_59 rfl rfl (by omega) (by omega) ez_vdJ (fun hB1 w2 => ?_)
  refine ez_go (n := 1) (pc' := 138) (L' := [(8, .inl (pl)), (7, .inl (0)), (6, .inl (pl)), (4, .inr (.inl (y))), (0, .inr (.inr (some (723)))), (1, .inl (a)), (2, .inl (b)), (3, .inl (x))]) (st' := [.inr (.inr (some (723)))]) rfl ?_
  refine ez_gC (p := 728) (tg := 60) hB1 t723 rfl rfl tq_55 rfl rfl (fun (t728 : _ = 60) => ?_)
  refine ez_go (n := 2) (pc' := 144) (L' := [(8, .inl (pl)), (7, .inl (0)), (6, .inl (pl)), (4, .inr (.inl (y))), (0, .inr (.inr (some (723)))), (1, .inl (a)), (2, .inl (b)), (3, .inl (x))]) (st' := [.inl (x), .inl (pl), .inr (.inr (some (728)))]) rfl ?_
  have n6 : 256 ≤ qz_N (dz_put g 727 (pl).toNat (ez_v (.inr (.inl (y))))) 728 ∧ qz_N (dz_put g 727 (pl).toNat (ez_v (.inr (.inl (y))))) 728 ≤ 256 := ez_len hB1 t728 tq_60 rfl
  refine ez_as hB1 t728 rfl tq_60 rfl rfl (by omega) (by omega) (ez_vdI rfl rfl (by omega) (by omega)) (fun hB4 w5 => ?_)
  refine ez_go (n := 2) (pc' := 147) (L' := [(8, .inl (pl)), (7, .inl (0)), (6, .inl (pl)), (4, .inr (.inl (y))), (0, .inr (.inr (some (723)))), (1, .inl (a)), (2, .inl (b)), (3, .inl (x))]) (st' := [.inr (.inr (some (723))), .inr (.inr (some (723)))]) rfl ?_
  refine ez_gI hB4 t723 rfl rfl tq_55 rfl rfl (fun (b7 : 0 ≤ qz_I (dz_put (dz_put g 727 (pl).toNat (ez_v (.inr (.inl (y))))) 728 (pl).toNat (ez_v (.inl (x)))) 723 8) (b7' : qz_I (dz_put (dz_put g 727 (pl).toNat (ez_v (.inr (.inl (y))))) 728 (pl).toNat (ez_v (.inl (x)))) 723 8 ≤ 256) => ?_)
  have hcn : qz_I (dz_put (dz_put g 727 (pl).toNat (ez_v (.inr (.inl (y))))) 728 (pl).toNat (ez_v (.inl (x)))) 723 8 = n := by rw [ez_put_I (by omega), ez_put_I (by omega)]; exact hc
  refine ez_go (n := 2) (pc' := 152) (L' := [(8, .inl (pl)), (7, .inl (0)), (6, .inl (pl)), (4, .inr (.inl (y))), (0, .inr (.inr (some (723)))), (1, .inl (a)), (2, .inl (b)), (3, .inl (x))]) (st' := [.inl ((qz_I (dz_put (dz_put g 727 (pl).toNat (ez_v (.inr (.inl (y))))) 728 (pl).toNat (ez_v (.inl (x)))) 723 8) + (1)), .inr (.inr (some (723)))]) rfl ?_
  refine ez_pf hB4 t723 rfl rfl tq_55 rfl rfl rfl rfl (ez_vdI rfl rfl (by omega) (by omega)) (fun hB8 w9 => ?_)
  refine ez_go (n := 1) (pc' := 156) (L' := [(8, .inl (pl)), (7, .inl (0)), (6, .inl (pl)), (4, .inr (.inl (y))), (0, .inr (.inr (some (723)))), (1, .inl (a)), (2, .inl (b)), (3, .inl (x))]) (st' := [.inl (1)]) rfl ?_
  refine ez_retZ rfl rfl (by decide) (kk _ hB8 (((hf.put (show nz_PG 727 = true from rfl) _ _).put (show nz_PG 728 = true from rfl) _ _).put (show nz_PG 723 = true from rfl) _ _) (fun j hj => by rw [ez_put_I (fun w => hj w.2), ez_put_I (by omega), ez_put_I (by omega)]; exact hj0 j hj) (by rw [w9, rz_rd ⟨by omega, by omega⟩, hcn]) (fun k k0 k1 => ?_) (fun k k0 k1 => ?_))
  · unfold pp
    rw [ez_put_I (by omega), ez_put_I (by omega)]
    by_cases e : k = pl
    · rw [if_pos e, e, w2]; rfl
    · rw [if_neg e, ez_put_I (by omega)]; exact hv k k0 k1
  · unfold pcv
    rw [ez_put_I (by omega)]
    by_cases e : k = pl
    · rw [if_pos e, e, w5, rz_rd ⟨by omega, by omega⟩]
    · rw [if_neg e, ez_put_I (by omega), ez_put_I (by omega)]; exact hv2 k k0 k1

theorem rd_ins_l {a b x n pl : Int} {y : Int64} (t723 : τ 723 = 55) (t727 : τ 727 = 59) (t728 : τ 728 = 60) (n1 : n < 256) (p0 : 0 ≤ pl) (p1 : pl ≤ n) (x0 : 0 ≤ x) (x1 : x ≤ 1114111) (kk : ∀ g, ez_B τ g → ez_fr nz_PG h g → (∀ j, j ≠ 8 → qz_I g 723 j = qz_I h 723 j) → qz_I g 723 8 = n + 1 → (∀ k, 0 ≤ k → k ≤ n → pp g k = if k = pl then y.toInt else if pl < k then pp h (k - 1) else pp h k) → (∀ k, 0 ≤ k → k ≤ n → pcv g k = if k = pl then x else if pl < k then pcv h (k - 1) else pcv h k) → Q (.inl (some (ez_v (.inl 1))), g)) : ∀ (m : Nat) (i : Int) (g : cz_H), m = (i - pl).toNat → pl ≤ i → i ≤ n → ez_B τ g → ez_fr nz_PG h g → (∀ j, j ≠ 8 → qz_I g 723 j = qz_I h 723 j) → qz_I g 723 8 = n → (∀ k, 0 ≤ k → k ≤ n → qz_I g 727 k.toNat = if i < k then pp h (k - 1) else pp h k) → (∀ k, 0 ≤ k → k ≤ n → qz_I g 728 k.toNat = if i < k then pcv h (k - 1) else pcv h k) → ez_W d cm_121 83 [(8, .inl (i)), (7, .inl (0)), (6, .inl (pl)), (4, .inr (.inl (y))), (0, .inr (.inr (some (723)))), (1, .inl (a)), (2, .inl (b)), (3, .inl (x))] [] g Q := by
  intro m
  induction m with
  | zero =>
    intro i g hm a1 a2 hB hf hj0 hc hv hv2
    refine ez_go (n := 2) (pc' := 87) (L' := [(8, .inl (i)), (7, .inl (0)), (6, .inl (pl)), (4, .inr (.inl (y))), (0, .inr (.inr (some (723)))), (1, .inl (a)), (2, .inl (b)), (3, .inl (x))]) (st' := [.inl (pl), .inl (i)]) rfl ?_
    refine ez_icmp rfl rfl ⟨by first | omega | exact (sz_i32 _).1, by first | omega | exact (sz_i32 _).2⟩ ⟨by first | omega | exact (sz_i32 _).1, by first | omega | exact (sz_i32 _).2⟩ (fun (c1 : (i) ≤ (pl)) => ?_) (fun (c1 : ¬((i) ≤ (pl))) => ?_)
    · skip
      have e9 : i = pl := by omega
      subst e9
      exact rd_ins_e t723 t727 t728 n1 p0 p1 x0 x1 kk hB hf hj0 hc hv hv2
    · exfalso; omega
  | succ m ih =>
    intro i g hm a1 a2 hB hf hj0 hc hv hv2
    refine ez_go (n := 2) (pc' := 87) (L' := [(8, .inl (i)), (7, .inl (0)), (6, .inl (pl)), (4, .inr (.inl (y))), (0, .inr (.inr (some (723)))), (1, .inl (a)), (2, .inl (b)), (3, .inl (x))]) (st' := [.inl (pl), .inl (i)]) rfl ?_
    refine ez_icmp rfl rfl ⟨by first | omega | exact (sz_i32 _).1, by first | omega | exact (sz_i32 _).2⟩ ⟨by first | omega | exact (sz_i32 _).1, by first | omega | exact (sz_i32 _).2⟩ (fun (c1 : (i) ≤ (pl)) => ?_) (fun (c1 : ¬((i) ≤ (pl))) => ?_)
    · exfalso; omega
    · skip
      refine ez_go (n := 1) (pc' := 91) (L' := [(8, .inl (i)), (7, .inl (0)), (6, .inl (pl)), (4, .inr (.inl (y))), (0, .inr (.inr (some (723)))), (1, .inl (a)), (2, .inl (b)), (3, .inl (x))]) (st' := [.inr (.inr (some (723)))]) rfl ?_
      refine ez_gC (p := 727) (tg := 59) hB t723 rfl rfl tq_55 rfl rfl (fun (t727 : _ = 59) => ?_)
      refine ez_go (n := 2) (pc' := 97) (L' := [(8, .inl (i)), (7, .inl (0)), (6, .inl (pl)), (4, .inr (.inl (y))), (0, .inr (.inr (some (723)))), (1, .inl (a)), (2, .inl (b)), (3, .inl (x))]) (st' := [.inr (.inr (some (723))), .inl (i), .inr (.inr (some (727)))]) rfl ?_
      refine ez_gC (p := 727) (tg := 59) hB t723 rfl rfl tq_55 rfl rfl (fun (t727 : _ = 59) => ?_)
      refine ez_go (n := 3) (pc' := 104) (L' := [(8, .inl (i)), (7, .inl (0)), (6, .inl (pl)), (4, .inr (.inl (y))), (0, .inr (.inr (some (723)))), (1, .inl (a)), (2, .inl (b)), (3, .inl (x))]) (st' := [.inl ((i) - (1)), .inr (.inr (some (727))), .inl (i), .inr (.inr (some (727)))]) rfl ?_
      have n2 : 256 ≤ qz_N g 727 ∧ qz_N g 727 ≤ 256 := ez_len hB t727 tq_59 rfl
      refine ez_aL hB t727 rfl tq_59 rfl rfl (by omega) (by omega) ?_
      have n5 : 256 ≤ qz_N g 727 ∧ qz_N g 727 ≤ 256 := ez_len hB t727 tq_59 rfl
      refine ez_as hB t727 rfl tq_59 rfl rfl (by omega) (by omega) ez_vdJ (fun hB3 w4 => ?_)
      refine ez_go (n := 1) (pc' := 107) (L' := [(8, .inl (i)), (7, .inl (0)), (6, .inl (pl)), (4, .inr (.inl (y))), (0, .inr (.inr (some (723)))), (1, .inl (a)), (2, .inl (b)), (3, .inl (x))]) (st' := [.inr (.inr (some (723)))]) rfl ?_
      refine ez_gC (p := 728) (tg := 60) hB3 t723 rfl rfl tq_55 rfl rfl (fun (t728 : _ = 60) => ?_)
      refine ez_go (n := 2) (pc' := 113) (L' := [(8, .inl (i)), (7, .inl (0)), (6, .inl (pl)), (4, .inr (.inl (y))), (0, .inr (.inr (some (723)))), (1, .inl (a)), (2, .inl (b)), (3, .inl (x))]) (st' := [.inr (.inr (some (723))), .inl (i), .inr (.inr (some (728)))]) rfl ?_
      refine ez_gC (p := 728) (tg := 60) hB3 t723 rfl rfl tq_55 rfl rfl (fun (t728 : _ = 60) => ?_)
      refine ez_go (n := 3) (pc' := 120) (L' := [(8, .inl (i)), (7, .inl (0)), (6, .inl (pl)), (4, .inr (.inl (y))), (0, .inr (.inr (some (723)))), (1, .inl (a)), (2, .inl (b)), (3, .inl (x))]) (st' := [.inl ((i) - (1)), .inr (.inr (some (728))), .inl (i), .inr (.inr (some (728)))]) rfl ?_
      have n7 : 256 ≤ qz_N (dz_put g 727 (i).toNat (ez_v (.inr (.inl (Int64.ofInt (qz_I g 727 ((i) - (1)).toNat)))))) 728 ∧ qz_N (dz_put g 727 (i).toNat (ez_v (.inr (.inl (Int64.ofInt (qz_I g 727 ((i) - (1)).toNat)))))) 728 ≤ 256 := ez_len hB3 t728 tq_60 rfl
      refine ez_aI hB3 t728 rfl tq_60 rfl rfl (by omega) (by omega) (fun (b6 : -2147483648 ≤ qz_I (dz_put g 727 (i).toNat (ez_v (.inr (.inl (Int64.ofInt (qz_I g 727 ((i) - (1)).toNat)))))) 728 ((i) - (1)).toNat) (b6' : qz_I (dz_put g 727 (i).toNat (ez_v (.inr (.inl (Int64.ofInt (qz_I g 727 ((i) - (1)).toNat)))))) 728 ((i) - (1)).toNat ≤ 2147483647) => ?_)
      have n10 : 256 ≤ qz_N (dz_put g 727 (i).toNat (ez_v (.inr (.inl (Int64.ofInt (qz_I g 727 ((i) - (1)).toNat)))))) 728 ∧ qz_N (dz_put g 727 (i).toNat (ez_v (.inr (.inl (Int64.ofInt (qz_I g 727 ((i) - (1)).toNat)))))) 728 ≤ 256 := ez_len hB3 t728 tq_60 rfl
      refine ez_as hB3 t728 rfl tq_60 rfl rfl (by omega) (by omega) (ez_vdI rfl rfl (by omega) (by omega)) (fun hB8 w9 => ?_)
      refine ez_go (n := 2) (pc' := 83) (L' := [(8, .inl (i + (-1))), (7, .inl (0)), (6, .inl (pl)), (4, .inr (.inl (y))), (0, .inr (.inr (some (723)))), (1, .inl (a)), (2, .inl (b)), (3, .inl (x))]) (st' := []) rfl ?_
      refine ez_less [(8, .inl (i + (-1))), (7, .inl (0)), (6, .inl (pl)), (4, .inr (.inl (y))), (0, .inr (.inr (some (723)))), (1, .inl (a)), (2, .inl (b)), (3, .inl (x))] rfl ⟨rfl, rfl, rfl, rfl, rfl, rfl, rfl, rfl, trivial⟩ ?_
      have rd := ez_lrg (i := i - 1) hB t727 tq_59 rfl rfl (by omega) (by omega)
      refine ih _ _ (by omega) (by omega) (by omega) hB8 ((hf.put (show nz_PG 727 = true from rfl) _ _).put (show nz_PG 728 = true from rfl) _ _) (fun j hj => by rw [ez_put_I (by omega), ez_put_I (by omega)]; exact hj0 j hj) (by rw [ez_put_I (by omega), ez_put_I (by omega)]; exact hc) (fun k k0 k1 => ?_) (fun k k0 k1 => ?_)
      · rw [ez_put_I (by omega)]
        by_cases e : k = i
        · rw [e, if_pos (by omega), w4]; show (Int64.ofInt (qz_I g 727 (i - 1).toNat)).toInt = _; rw [rd, hv (i - 1) (by omega) (by omega), if_neg (by omega)]
        · rw [ez_put_I (by omega), hv k k0 k1]
          by_cases e2 : i < k
          · rw [if_pos e2, if_pos (by omega)]
          · rw [if_neg e2, if_neg (by omega)]
      · by_cases e : k = i
        · rw [e, if_pos (by omega), w9, rz_rd ⟨by omega, by omega⟩, ez_put_I (by omega), hv2 (i - 1) (by omega) (by omega), if_neg (by omega)]
        · rw [ez_put_I (by omega), ez_put_I (by omega), hv2 k k0 k1]
          by_cases e2 : i < k
          · rw [if_pos e2, if_pos (by omega)]
          · rw [if_neg e2, if_neg (by omega)]
theorem rd_insertPair {a b x : Int} (hB : ez_B τ h) (hX : jz_X τ) (ha0 : 0 ≤ a) (ha1 : a ≤ 1114111) (hb0 : 0 ≤ b) (hb1 : b ≤ 1114111) (x0 : 0 ≤ x) (x1 : x ≤ 1114111) (hn : qz_I h 723 8 < 256) (hr : ri (pp h) (qz_I h 723 8)) (k0 : (∃ j, 0 ≤ j ∧ j < qz_I h 723 8 ∧ pp h j = a * 2097152 + b) ∨ hz_pair a b → Q (.inl (some (ez_v (.inl 0))), h)) (k1 : (¬ ∃ j, 0 ≤ j ∧ j < qz_I h 723 8 ∧ pp h j = a * 2097152 + b) → ¬ hz_pair a b → ∀ g, ez_B τ g → ez_fr nz_PG h g → (∀ j, j ≠ 8 → qz_I g 723 j = qz_I h 723 j) → qz_I g 723 8 = qz_I h 723 8 + 1 → ri (pp g) (qz_I h 723 8 + 1) → (∀ z, (∃ j, 0 ≤ j ∧ j < qz_I h 723 8 + 1 ∧ pp g j = z) ↔ (z = a * 2097152 + b ∨ ∃ j, 0 ≤ j ∧ j < qz_I h 723 8 ∧ pp h j = z)) → (∀ j, 0 ≤ j → j < qz_I h 723 8 + 1 → (pp g j = a * 2097152 + b ∧ pcv g j = x) ∨ ∃ j2, 0 ≤ j2 ∧ j2 < qz_I h 723 8 ∧ pp g j = pp h j2 ∧ pcv g j = pcv h j2) → Q (.inl (some (ez_v (.inl 1))), g)) : ez_W (d + 1) cm_121 0 [(0, .inr (.inr (some (723)))), (1, .inl (a)), (2, .inl (b)), (3, .inl (x))] [] h Q := by
  have t723 : τ 723 = 55 := hX 723 (by decide)
  have t727 : τ 727 = 59 := hX 727 (by decide)
  have t728 : τ 728 = 60 := hX 728 (by decide)
  refine ez_go (n := 2) (pc' := 2) (L' := [(0, .inr (.inr (some (723)))), (1, .inl (a)), (2, .inl (b)), (3, .inl (x))]) (st' := [.inl (b), .inl (a)]) rfl ?_
  refine ez_cs hB.2.1 rfl rfl rfl rfl rfl (rd_packPair ha0 ha1 hb0 hb1 (fun y hy => ez_KL ?_))
  refine ez_go (n := 3) (pc' := 10) (L' := [(4, .inr (.inl (y))), (0, .inr (.inr (some (723)))), (1, .inl (a)), (2, .inl (b)), (3, .inl (x))]) (st' := [.inr (.inr (some (723))), .inr (.inl (y))]) rfl ?_
  refine ez_gC (p := 727) (tg := 59) hB t723 rfl rfl tq_55 rfl rfl (fun (t727 : _ = 59) => ?_)
  refine ez_go (n := 1) (pc' := 14) (L' := [(4, .inr (.inl (y))), (0, .inr (.inr (some (723)))), (1, .inl (a)), (2, .inl (b)), (3, .inl (x))]) (st' := [.inr (.inr (some (723))), .inr (.inr (some (727))), .inr (.inl (y))]) rfl ?_
  refine ez_gI hB t723 rfl rfl tq_55 rfl rfl (fun (b1 : 0 ≤ qz_I h 723 8) (b1' : qz_I h 723 8 ≤ 256) => ?_)
  refine ez_cs hB.2.1 rfl rfl rfl rfl rfl (rd_placeOfP hB t727 (by omega) (by omega) (fun pl p0 p1 q1 q2 => ez_K1 ?_))
  have lr : ∀ k, 0 ≤ k → k < 256 → (Int64.ofInt (qz_I h 727 k.toNat)).toInt = pp h k := fun k k0 k1 => ez_lrg hB t727 tq_59 rfl rfl k0 (by have := ez_len hB t727 tq_59 rfl; have : (256 : Int) ≤ qz_N h 727 := this.1; omega)
  have q1 : pl = 0 ∨ pp h (pl - 1) < y.toInt := by
    by_cases e : pl = 0
    · exact Or.inl e
    · refine Or.inr ?_; have := Int64.lt_iff_toInt_lt.mp (q1.resolve_left e); rw [lr _ (by omega) (by omega)] at this; exact this
  have q2 : pl = qz_I h 723 8 ∨ y.toInt ≤ pp h pl := by
    by_cases e : pl = qz_I h 723 8
    · exact Or.inl e
    · refine Or.inr ?_
      by_cases e3 : y.toInt ≤ pp h pl
      · exact e3
      · exact absurd (Int64.lt_iff_toInt_lt.mpr (by rw [lr _ (by omega) (by omega)]; omega)) (q2.resolve_left e)
  refine ez_go (n := 3) (pc' := 25) (L' := [(6, .inl (pl)), (4, .inr (.inl (y))), (0, .inr (.inr (some (723)))), (1, .inl (a)), (2, .inl (b)), (3, .inl (x))]) (st' := [.inr (.inr (some (723))), .inl (pl)]) rfl ?_
  refine ez_gI hB t723 rfl rfl tq_55 rfl rfl (fun (b2 : 0 ≤ qz_I h 723 8) (b2' : qz_I h 723 8 ≤ 256) => ?_)
  refine ez_icmp rfl rfl ⟨by first | omega | exact (sz_i32 _).1, by first | omega | exact (sz_i32 _).2⟩ ⟨by first | omega | exact (sz_i32 _).1, by first | omega | exact (sz_i32 _).2⟩ (fun (c3 : (qz_I h 723 8) ≤ (pl)) => ?_) (fun (c3 : ¬((qz_I h 723 8) ≤ (pl))) => ?_)
  · skip
    refine ez_go (n := 3) (pc' := 53) (L' := [(7, .inl (0)), (6, .inl (pl)), (4, .inr (.inl (y))), (0, .inr (.inr (some (723)))), (1, .inl (a)), (2, .inl (b)), (3, .inl (x))]) (st' := [.inl (0)]) rfl ?_
    refine ez_if rfl rfl ⟨by decide, by decide⟩ (fun (c4 : (0 : Int) ≠ (0)) => absurd c4 (by decide)) (fun _ => ?_)
    refine ez_go (n := 2) (pc' := 58) (L' := [(7, .inl (0)), (6, .inl (pl)), (4, .inr (.inl (y))), (0, .inr (.inr (some (723)))), (1, .inl (a)), (2, .inl (b)), (3, .inl (x))]) (st' := [.inl (b), .inl (a)]) rfl ?_
    refine ez_cs hB.2.1 rfl rfl rfl rfl rfl (rd_syllableOf ha0 ha1 hb0 hb1 (fun v v0 v1 hpr => ez_K1 ?_) (fun hpr => ez_K1 ?_))
    · skip
      refine ez_go (n := 1) (pc' := 62) (L' := [(7, .inl (0)), (6, .inl (pl)), (4, .inr (.inl (y))), (0, .inr (.inr (some (723)))), (1, .inl (a)), (2, .inl (b)), (3, .inl (x))]) (st' := [.inl (-1), .inl (v)]) rfl ?_
      refine ez_icmp rfl rfl ⟨by first | omega | exact (sz_i32 _).1, by first | omega | exact (sz_i32 _).2⟩ ⟨by first | omega | exact (sz_i32 _).1, by first | omega | exact (sz_i32 _).2⟩ (fun (c5 : (v) ≠ (-1)) => ?_) (fun (c5 : ¬((v) ≠ (-1))) => ?_)
      · skip
        refine ez_go (n := 1) (pc' := 76) (L' := [(7, .inl (0)), (6, .inl (pl)), (4, .inr (.inl (y))), (0, .inr (.inr (some (723)))), (1, .inl (a)), (2, .inl (b)), (3, .inl (x))]) (st' := [.inl (0)]) rfl ?_
        exact ez_retZ rfl rfl (by decide) (k0 (Or.inr hpr))
      · skip
        refine ez_go (n := 1) (pc' := 66) (L' := [(7, .inl (0)), (6, .inl (pl)), (4, .inr (.inl (y))), (0, .inr (.inr (some (723)))), (1, .inl (a)), (2, .inl (b)), (3, .inl (x))]) (st' := [.inr (.inr (some (723)))]) rfl ?_
        refine ez_gI hB t723 rfl rfl tq_55 rfl rfl (fun (b6 : 0 ≤ qz_I h 723 8) (b6' : qz_I h 723 8 ≤ 256) => ?_)
        refine ez_go (n := 1) (pc' := 72) (L' := [(7, .inl (0)), (6, .inl (pl)), (4, .inr (.inl (y))), (0, .inr (.inr (some (723)))), (1, .inl (a)), (2, .inl (b)), (3, .inl (x))]) (st' := [.inl (256), .inl (qz_I h 723 8)]) rfl ?_
        refine ez_icmp rfl rfl ⟨by first | omega | exact (sz_i32 _).1, by first | omega | exact (sz_i32 _).2⟩ ⟨by first | omega | exact (sz_i32 _).1, by first | omega | exact (sz_i32 _).2⟩ (fun (c7 : (qz_I h 723 8) < (256)) => ?_) (fun (c7 : ¬((qz_I h 723 8) < (256))) => ?_)
        · skip
          refine ez_go (n := 1) (pc' := 78) (L' := [(7, .inl (0)), (6, .inl (pl)), (4, .inr (.inl (y))), (0, .inr (.inr (some (723)))), (1, .inl (a)), (2, .inl (b)), (3, .inl (x))]) (st' := [.inr (.inr (some (723)))]) rfl ?_
          refine ez_gI hB t723 rfl rfl tq_55 rfl rfl (fun (b8 : 0 ≤ qz_I h 723 8) (b8' : qz_I h 723 8 ≤ 256) => ?_)
          refine ez_go (n := 1) (pc' := 83) (L' := [(8, .inl (qz_I h 723 8)), (7, .inl (0)), (6, .inl (pl)), (4, .inr (.inl (y))), (0, .inr (.inr (some (723)))), (1, .inl (a)), (2, .inl (b)), (3, .inl (x))]) (st' := []) rfl ?_
          exfalso; omega
        · skip
          refine ez_go (n := 1) (pc' := 76) (L' := [(7, .inl (0)), (6, .inl (pl)), (4, .inr (.inl (y))), (0, .inr (.inr (some (723)))), (1, .inl (a)), (2, .inl (b)), (3, .inl (x))]) (st' := [.inl (0)]) rfl ?_
          exact ez_retZ rfl rfl (by decide) (k0 (Or.inr hpr))
    · skip
      refine ez_go (n := 1) (pc' := 62) (L' := [(7, .inl (0)), (6, .inl (pl)), (4, .inr (.inl (y))), (0, .inr (.inr (some (723)))), (1, .inl (a)), (2, .inl (b)), (3, .inl (x))]) (st' := [.inl (-1), .inl (-1)]) rfl ?_
      refine ez_icmp rfl rfl ⟨by decide, by decide⟩ ⟨by decide, by decide⟩ (fun (c9 : (-1 : Int) ≠ (-1)) => absurd c9 (by decide)) (fun _ => ?_)
      refine ez_go (n := 1) (pc' := 66) (L' := [(7, .inl (0)), (6, .inl (pl)), (4, .inr (.inl (y))), (0, .inr (.inr (some (723)))), (1, .inl (a)), (2, .inl (b)), (3, .inl (x))]) (st' := [.inr (.inr (some (723)))]) rfl ?_
      refine ez_gI hB t723 rfl rfl tq_55 rfl rfl (fun (b10 : 0 ≤ qz_I h 723 8) (b10' : qz_I h 723 8 ≤ 256) => ?_)
      refine ez_go (n := 1) (pc' := 72) (L' := [(7, .inl (0)), (6, .inl (pl)), (4, .inr (.inl (y))), (0, .inr (.inr (some (723)))), (1, .inl (a)), (2, .inl (b)), (3, .inl (x))]) (st' := [.inl (256), .inl (qz_I h 723 8)]) rfl ?_
      refine ez_icmp rfl rfl ⟨by first | omega | exact (sz_i32 _).1, by first | omega | exact (sz_i32 _).2⟩ ⟨by first | omega | exact (sz_i32 _).1, by first | omega | exact (sz_i32 _).2⟩ (fun (c11 : (qz_I h 723 8) < (256)) => ?_) (fun (c11 : ¬((qz_I h 723 8) < (256))) => ?_)
      · skip
        refine ez_go (n := 1) (pc' := 78) (L' := [(7, .inl (0)), (6, .inl (pl)), (4, .inr (.inl (y))), (0, .inr (.inr (some (723)))), (1, .inl (a)), (2, .inl (b)), (3, .inl (x))]) (st' := [.inr (.inr (some (723)))]) rfl ?_
        refine ez_gI hB t723 rfl rfl tq_55 rfl rfl (fun (b12 : 0 ≤ qz_I h 723 8) (b12' : qz_I h 723 8 ≤ 256) => ?_)
        refine ez_go (n := 1) (pc' := 83) (L' := [(8, .inl (qz_I h 723 8)), (7, .inl (0)), (6, .inl (pl)), (4, .inr (.inl (y))), (0, .inr (.inr (some (723)))), (1, .inl (a)), (2, .inl (b)), (3, .inl (x))]) (st' := []) rfl ?_
        refine ez_less [(8, .inl (qz_I h 723 8)), (7, .inl (0)), (6, .inl (pl)), (4, .inr (.inl (y))), (0, .inr (.inr (some (723)))), (1, .inl (a)), (2, .inl (b)), (3, .inl (x))] rfl ⟨rfl, rfl, rfl, rfl, rfl, rfl, rfl, rfl, trivial⟩ ?_
        have q3 : pl = qz_I h 723 8 ∨ y.toInt < pp h pl := by
          by_cases e : pl = qz_I h 723 8
          · exact Or.inl e
          · refine Or.inr ?_
            have e4 := q2.resolve_left e
            have e5 : y.toInt ≠ pp h pl := fun e6 => by
              have e7 : Int64.ofInt (qz_I h 727 pl.toNat) = y := Int64.toInt_inj.mp (by rw [lr pl p0 (by omega)]; exact e6.symm)
              have e8 := (nz_cmp_eq _ _).mpr e7
              first | (exact absurd e8 (by assumption)) | omega
            omega
        refine rd_ins_l t723 t727 t728 (n := qz_I h 723 8) hn p0 p1 x0 x1 (fun g hB2 f2 j2 c2 v2 v3 => ?_) _ _ h rfl (by omega) (by omega) hB (ez_fr.refl _ _) (fun _ _ => rfl) rfl (fun k k0 k1 => by rw [if_neg (by omega)]; rfl) (fun k k0 k1 => by rw [if_neg (by omega)]; rfl)
        obtain ⟨r1, r2⟩ := ri_ins (P := pp h) (P2 := pp g) hr p0 p1 q1 q3 v2
        refine k1 (fun ⟨j, j0, j1, e⟩ => ?_) hpr g hB2 f2 j2 c2 r1 (fun z => by rw [← hy]; exact r2 z) (fun j j0 j1 => ?_)
        rotate_left
        · have w2 := v2 j j0 (by omega)
          have w3 := v3 j j0 (by omega)
          by_cases e : j = pl
          · rw [if_pos e] at w2 w3; exact Or.inl ⟨w2.trans hy, w3⟩
          · rw [if_neg e] at w2 w3
            by_cases e2 : pl < j
            · rw [if_pos e2] at w2 w3; exact Or.inr ⟨j - 1, by omega, by omega, w2, w3⟩
            · rw [if_neg e2] at w2 w3; exact Or.inr ⟨j, j0, by omega, w2, w3⟩
        rw [← hy] at e
        by_cases e2 : j < pl
        · rcases q1 with w | w
          · omega
          · by_cases e3 : j = pl - 1
            · rw [e3] at e; omega
            · have := hr j (pl - 1) j0 (by omega) (by omega); omega
        · rcases q3 with w | w
          · omega
          · by_cases e3 : j = pl
            · rw [e3] at e; omega
            · have := hr pl j p0 (by omega) j1; omega
      · skip
        refine ez_go (n := 1) (pc' := 76) (L' := [(7, .inl (0)), (6, .inl (pl)), (4, .inr (.inl (y))), (0, .inr (.inr (some (723)))), (1, .inl (a)), (2, .inl (b)), (3, .inl (x))]) (st' := [.inl (0)]) rfl ?_
        exfalso; omega
  · skip
    refine ez_go (n := 1) (pc' := 32) (L' := [(6, .inl (pl)), (4, .inr (.inl (y))), (0, .inr (.inr (some (723)))), (1, .inl (a)), (2, .inl (b)), (3, .inl (x))]) (st' := [.inr (.inr (some (723)))]) rfl ?_
    refine ez_gC (p := 727) (tg := 59) hB t723 rfl rfl tq_55 rfl rfl (fun (t727 : _ = 59) => ?_)
    refine ez_go (n := 1) (pc' := 37) (L' := [(6, .inl (pl)), (4, .inr (.inl (y))), (0, .inr (.inr (some (723)))), (1, .inl (a)), (2, .inl (b)), (3, .inl (x))]) (st' := [.inl (pl), .inr (.inr (some (727)))]) rfl ?_
    have n13 : 256 ≤ qz_N h 727 ∧ qz_N h 727 ≤ 256 := ez_len hB t727 tq_59 rfl
    refine ez_aL hB t727 rfl tq_59 rfl rfl (by omega) (by omega) ?_
    refine ez_go (n := 2) (pc' := 41) (L' := [(6, .inl (pl)), (4, .inr (.inl (y))), (0, .inr (.inr (some (723)))), (1, .inl (a)), (2, .inl (b)), (3, .inl (x))]) (st' := [.inl ((lg_cmp (Int64.ofInt (qz_I h 727 (pl).toNat)) (y)).toInt)]) rfl ?_
    refine ez_if rfl rfl ⟨by first | omega | exact (sz_i32 _).1, by first | omega | exact (sz_i32 _).2⟩ (fun (c14 : ((lg_cmp (Int64.ofInt (qz_I h 727 (pl).toNat)) (y)).toInt) ≠ (0)) => ?_) (fun (c14 : ¬(((lg_cmp (Int64.ofInt (qz_I h 727 (pl).toNat)) (y)).toInt) ≠ (0))) => ?_)
    · skip
      refine ez_go (n := 3) (pc' := 53) (L' := [(7, .inl (0)), (6, .inl (pl)), (4, .inr (.inl (y))), (0, .inr (.inr (some (723)))), (1, .inl (a)), (2, .inl (b)), (3, .inl (x))]) (st' := [.inl (0)]) rfl ?_
      refine ez_if rfl rfl ⟨by decide, by decide⟩ (fun (c15 : (0 : Int) ≠ (0)) => absurd c15 (by decide)) (fun _ => ?_)
      refine ez_go (n := 2) (pc' := 58) (L' := [(7, .inl (0)), (6, .inl (pl)), (4, .inr (.inl (y))), (0, .inr (.inr (some (723)))), (1, .inl (a)), (2, .inl (b)), (3, .inl (x))]) (st' := [.inl (b), .inl (a)]) rfl ?_
      refine ez_cs hB.2.1 rfl rfl rfl rfl rfl (rd_syllableOf ha0 ha1 hb0 hb1 (fun v v0 v1 hpr => ez_K1 ?_) (fun hpr => ez_K1 ?_))
      · skip
        refine ez_go (n := 1) (pc' := 62) (L' := [(7, .inl (0)), (6, .inl (pl)), (4, .inr (.inl (y))), (0, .inr (.inr (some (723)))), (1, .inl (a)), (2, .inl (b)), (3, .inl (x))]) (st' := [.inl (-1), .inl (v)]) rfl ?_
        refine ez_icmp rfl rfl ⟨by first | omega | exact (sz_i32 _).1, by first | omega | exact (sz_i32 _).2⟩ ⟨by first | omega | exact (sz_i32 _).1, by first | omega | exact (sz_i32 _).2⟩ (fun (c16 : (v) ≠ (-1)) => ?_) (fun (c16 : ¬((v) ≠ (-1))) => ?_)
        · skip
          refine ez_go (n := 1) (pc' := 76) (L' := [(7, .inl (0)), (6, .inl (pl)), (4, .inr (.inl (y))), (0, .inr (.inr (some (723)))), (1, .inl (a)), (2, .inl (b)), (3, .inl (x))]) (st' := [.inl (0)]) rfl ?_
          exact ez_retZ rfl rfl (by decide) (k0 (Or.inr hpr))
        · skip
          refine ez_go (n := 1) (pc' := 66) (L' := [(7, .inl (0)), (6, .inl (pl)), (4, .inr (.inl (y))), (0, .inr (.inr (some (723)))), (1, .inl (a)), (2, .inl (b)), (3, .inl (x))]) (st' := [.inr (.inr (some (723)))]) rfl ?_
          refine ez_gI hB t723 rfl rfl tq_55 rfl rfl (fun (b17 : 0 ≤ qz_I h 723 8) (b17' : qz_I h 723 8 ≤ 256) => ?_)
          refine ez_go (n := 1) (pc' := 72) (L' := [(7, .inl (0)), (6, .inl (pl)), (4, .inr (.inl (y))), (0, .inr (.inr (some (723)))), (1, .inl (a)), (2, .inl (b)), (3, .inl (x))]) (st' := [.inl (256), .inl (qz_I h 723 8)]) rfl ?_
          refine ez_icmp rfl rfl ⟨by first | omega | exact (sz_i32 _).1, by first | omega | exact (sz_i32 _).2⟩ ⟨by first | omega | exact (sz_i32 _).1, by first | omega | exact (sz_i32 _).2⟩ (fun (c18 : (qz_I h 723 8) < (256)) => ?_) (fun (c18 : ¬((qz_I h 723 8) < (256))) => ?_)
          · skip
            refine ez_go (n := 1) (pc' := 78) (L' := [(7, .inl (0)), (6, .inl (pl)), (4, .inr (.inl (y))), (0, .inr (.inr (some (723)))), (1, .inl (a)), (2, .inl (b)), (3, .inl (x))]) (st' := [.inr (.inr (some (723)))]) rfl ?_
            refine ez_gI hB t723 rfl rfl tq_55 rfl rfl (fun (b19 : 0 ≤ qz_I h 723 8) (b19' : qz_I h 723 8 ≤ 256) => ?_)
            refine ez_go (n := 1) (pc' := 83) (L' := [(8, .inl (qz_I h 723 8)), (7, .inl (0)), (6, .inl (pl)), (4, .inr (.inl (y))), (0, .inr (.inr (some (723)))), (1, .inl (a)), (2, .inl (b)), (3, .inl (x))]) (st' := []) rfl ?_
            exfalso; omega
          · skip
            refine ez_go (n := 1) (pc' := 76) (L' := [(7, .inl (0)), (6, .inl (pl)), (4, .inr (.inl (y))), (0, .inr (.inr (some (723)))), (1, .inl (a)), (2, .inl (b)), (3, .inl (x))]) (st' := [.inl (0)]) rfl ?_
            exact ez_retZ rfl rfl (by decide) (k0 (Or.inr hpr))
      · skip
        refine ez_go (n := 1) (pc' := 62) (L' := [(7, .inl (0)), (6, .inl (pl)), (4, .inr (.inl (y))), (0, .inr (.inr (some (723)))), (1, .inl (a)), (2, .inl (b)), (3, .inl (x))]) (st' := [.inl (-1), .inl (-1)]) rfl ?_
        refine ez_icmp rfl rfl ⟨by decide, by decide⟩ ⟨by decide, by decide⟩ (fun (c20 : (-1 : Int) ≠ (-1)) => absurd c20 (by decide)) (fun _ => ?_)
        refine ez_go (n := 1) (pc' := 66) (L' := [(7, .inl (0)), (6, .inl (pl)), (4, .inr (.inl (y))), (0, .inr (.inr (some (723)))), (1, .inl (a)), (2, .inl (b)), (3, .inl (x))]) (st' := [.inr (.inr (some (723)))]) rfl ?_
        refine ez_gI hB t723 rfl rfl tq_55 rfl rfl (fun (b21 : 0 ≤ qz_I h 723 8) (b21' : qz_I h 723 8 ≤ 256) => ?_)
        refine ez_go (n := 1) (pc' := 72) (L' := [(7, .inl (0)), (6, .inl (pl)), (4, .inr (.inl (y))), (0, .inr (.inr (some (723)))), (1, .inl (a)), (2, .inl (b)), (3, .inl (x))]) (st' := [.inl (256), .inl (qz_I h 723 8)]) rfl ?_
        refine ez_icmp rfl rfl ⟨by first | omega | exact (sz_i32 _).1, by first | omega | exact (sz_i32 _).2⟩ ⟨by first | omega | exact (sz_i32 _).1, by first | omega | exact (sz_i32 _).2⟩ (fun (c22 : (qz_I h 723 8) < (256)) => ?_) (fun (c22 : ¬((qz_I h 723 8) < (256))) => ?_)
        · skip
          refine ez_go (n := 1) (pc' := 78) (L' := [(7, .inl (0)), (6, .inl (pl)), (4, .inr (.inl (y))), (0, .inr (.inr (some (723)))), (1, .inl (a)), (2, .inl (b)), (3, .inl (x))]) (st' := [.inr (.inr (some (723)))]) rfl ?_
          refine ez_gI hB t723 rfl rfl tq_55 rfl rfl (fun (b23 : 0 ≤ qz_I h 723 8) (b23' : qz_I h 723 8 ≤ 256) => ?_)
          refine ez_go (n := 1) (pc' := 83) (L' := [(8, .inl (qz_I h 723 8)), (7, .inl (0)), (6, .inl (pl)), (4, .inr (.inl (y))), (0, .inr (.inr (some (723)))), (1, .inl (a)), (2, .inl (b)), (3, .inl (x))]) (st' := []) rfl ?_
          refine ez_less [(8, .inl (qz_I h 723 8)), (7, .inl (0)), (6, .inl (pl)), (4, .inr (.inl (y))), (0, .inr (.inr (some (723)))), (1, .inl (a)), (2, .inl (b)), (3, .inl (x))] rfl ⟨rfl, rfl, rfl, rfl, rfl, rfl, rfl, rfl, trivial⟩ ?_
          have q3 : pl = qz_I h 723 8 ∨ y.toInt < pp h pl := by
            by_cases e : pl = qz_I h 723 8
            · exact Or.inl e
            · refine Or.inr ?_
              have e4 := q2.resolve_left e
              have e5 : y.toInt ≠ pp h pl := fun e6 => by
                have e7 : Int64.ofInt (qz_I h 727 pl.toNat) = y := Int64.toInt_inj.mp (by rw [lr pl p0 (by omega)]; exact e6.symm)
                have e8 := (nz_cmp_eq _ _).mpr e7
                first | (exact absurd e8 (by assumption)) | omega
              omega
          refine rd_ins_l t723 t727 t728 (n := qz_I h 723 8) hn p0 p1 x0 x1 (fun g hB2 f2 j2 c2 v2 v3 => ?_) _ _ h rfl (by omega) (by omega) hB (ez_fr.refl _ _) (fun _ _ => rfl) rfl (fun k k0 k1 => by rw [if_neg (by omega)]; rfl) (fun k k0 k1 => by rw [if_neg (by omega)]; rfl)
          obtain ⟨r1, r2⟩ := ri_ins (P := pp h) (P2 := pp g) hr p0 p1 q1 q3 v2
          refine k1 (fun ⟨j, j0, j1, e⟩ => ?_) hpr g hB2 f2 j2 c2 r1 (fun z => by rw [← hy]; exact r2 z) (fun j j0 j1 => ?_)
          rotate_left
          · have w2 := v2 j j0 (by omega)
            have w3 := v3 j j0 (by omega)
            by_cases e : j = pl
            · rw [if_pos e] at w2 w3; exact Or.inl ⟨w2.trans hy, w3⟩
            · rw [if_neg e] at w2 w3
              by_cases e2 : pl < j
              · rw [if_pos e2] at w2 w3; exact Or.inr ⟨j - 1, by omega, by omega, w2, w3⟩
              · rw [if_neg e2] at w2 w3; exact Or.inr ⟨j, j0, by omega, w2, w3⟩
          rw [← hy] at e
          by_cases e2 : j < pl
          · rcases q1 with w | w
            · omega
            · by_cases e3 : j = pl - 1
              · rw [e3] at e; omega
              · have := hr j (pl - 1) j0 (by omega) (by omega); omega
          · rcases q3 with w | w
            · omega
            · by_cases e3 : j = pl
              · rw [e3] at e; omega
              · have := hr pl j p0 (by omega) j1; omega
        · skip
          refine ez_go (n := 1) (pc' := 76) (L' := [(7, .inl (0)), (6, .inl (pl)), (4, .inr (.inl (y))), (0, .inr (.inr (some (723)))), (1, .inl (a)), (2, .inl (b)), (3, .inl (x))]) (st' := [.inl (0)]) rfl ?_
          exfalso; omega
    · skip
      refine ez_go (n := 4) (pc' := 53) (L' := [(7, .inl (1)), (6, .inl (pl)), (4, .inr (.inl (y))), (0, .inr (.inr (some (723)))), (1, .inl (a)), (2, .inl (b)), (3, .inl (x))]) (st' := [.inl (1)]) rfl ?_
      refine ez_if rfl rfl ⟨by decide, by decide⟩ (fun _ => ?_) (fun (c24 : ¬((1 : Int) ≠ (0))) => absurd c24 (by decide))
      refine ez_go (n := 1) (pc' := 76) (L' := [(7, .inl (1)), (6, .inl (pl)), (4, .inr (.inl (y))), (0, .inr (.inr (some (723)))), (1, .inl (a)), (2, .inl (b)), (3, .inl (x))]) (st' := [.inl (0)]) rfl ?_
      exact ez_retZ rfl rfl (by decide) (k0 (Or.inl ⟨pl, p0, by omega, by have := (nz_cmp_eq (Int64.ofInt (qz_I h 727 (pl).toNat)) y).mp (by omega); rw [← lr pl p0 (by omega), this, hy]⟩))

end EzIp
/-! The class: gatherPairs. (Written by wip/p2/py/pv36.py.) -/
def lim (h : cz_H) (i : Int) : Int := if i < qz_I h 202 1 then sz_f h i else 1114112
def wL (h : cz_H) (i x : Int) : Nat := if lim h i ≤ x then 1 else 0
theorem lim_lt {h : cz_H} (hs : sz_ok h) {i : Int} (i0 : 0 ≤ i) (i1 : i < qz_I h 202 1) : sz_f h i < lim h (i + 1) := by
  unfold lim
  split
  · exact (hs.2 i (i + 1) i0 (by omega) (by assumption)).1
  · have := (sz_first hs i0 i1).2.2; omega
theorem lim_eq {h : cz_H} {i : Int} (i1 : i < qz_I h 202 1) : lim h i = sz_f h i := by unfold lim; rw [if_pos i1]
/-- n pairs, told by their numbers, each once -/
def pcn (F : rz_W) (E : Int → Prop) (n : Int) : Prop := 0 ≤ n ∧ ∃ P : Int → Int, (∀ i j, 0 ≤ i → i < j → j < n → P i ≠ P j) ∧ ∀ z, (∃ j, 0 ≤ j ∧ j < n ∧ P j = z) ↔ ∃ x a b, ez_p F E x a b ∧ z = a * 2097152 + b
theorem pig : ∀ (n : Nat) (m : Int) (P P2 : Int → Int), (∀ i j, 0 ≤ i → i < j → j < (n : Int) → P i ≠ P j) → 0 ≤ m → (∀ i, 0 ≤ i → i < (n : Int) → ∃ k, 0 ≤ k ∧ k < m ∧ P2 k = P i) → (n : Int) ≤ m
  | 0, m, P, P2, _, hm, _ => hm
  | n + 1, m, P, P2, hd, hm, hs => by
    obtain ⟨j, j0, j1, e⟩ := hs n (by omega) (by omega)
    have := pig n (m - 1) P (fun k => if k = j then P2 (m - 1) else P2 k) (fun i k i0 ik kn => hd i k i0 ik (by omega)) (by omega) (fun i i0 i1 => by
      obtain ⟨k, k0, k1, ek⟩ := hs i i0 (by omega)
      have kj : k ≠ j := fun w => hd i n i0 i1 (by omega) (by rw [← ek, ← e, w])
      by_cases km : k = m - 1
      · exact ⟨j, j0, by omega, by show (if j = j then P2 (m - 1) else P2 j) = P i; rw [if_pos rfl, ← km]; exact ek⟩
      · exact ⟨k, k0, by omega, by show (if k = j then P2 (m - 1) else P2 k) = P i; rw [if_neg kj]; exact ek⟩)
    omega
theorem pcn_le {F : rz_W} {E : Int → Prop} {n m : Int} (a : pcn F E n) (b : pcn F E m) : n ≤ m := by
  obtain ⟨n0, P, p1, p2⟩ := a
  obtain ⟨m0, P2, q1, q2⟩ := b
  have e : ((n.toNat : Nat) : Int) = n := Int.toNat_of_nonneg n0
  rw [← e]
  exact pig n.toNat m P P2 (fun i j i0 ij jn => p1 i j i0 ij (by omega)) m0 (fun i i0 i1 => (q2 _).mpr ((p2 _).mp ⟨i, i0, by omega, rfl⟩))
theorem pcn_eq {F : rz_W} {E : Int → Prop} {n m : Int} (a : pcn F E n) (b : pcn F E m) : n = m := Int.le_antisymm (pcn_le a b) (pcn_le b a)
/-- the pairs of the spans before i -/
def gp (h : cz_H) (F : rz_W) (E : Int → Prop) (Xs : List Int) (g : cz_H) (i : Int) : Prop := ri (pp g) (qz_I g 723 8) ∧ (∀ z, (∃ j, 0 ≤ j ∧ j < qz_I g 723 8 ∧ pp g j = z) ↔ ∃ k, (0 ≤ k ∧ k < i) ∧ ∃ a b, ez_p F E (sz_f h k) a b ∧ z = a * 2097152 + b) ∧ ((∀ k, 0 ≤ k → k < i → ∀ a b, ez_p F E (sz_f h k) a b → ¬ hz_pair a b) ∧ ∀ k k2, 0 ≤ k → k < i → 0 ≤ k2 → k2 < i → ∀ a b, ez_p F E (sz_f h k) a b → ez_p F E (sz_f h k2) a b → k = k2) ∧ qz_I g 723 8 + (wz (wL h i) Xs : Int) ≤ (Xs.length : Int)
theorem gp_skip {h : cz_H} {F : rz_W} {E : Int → Prop} {Xs : List Int} {g : cz_H} {i : Int} (hs : sz_ok h) (i0 : 0 ≤ i) (i1 : i < qz_I h 202 1) (hg : gp h F E Xs g i) (hno : ∀ a b, ¬ ez_p F E (sz_f h i) a b) : gp h F E Xs g (i + 1) := by
  obtain ⟨a1, a2, ⟨a3, a4⟩, a5⟩ := hg
  have hk : ∀ k, k < i + 1 → k ≠ i → k < i := fun k h1 h2 => by omega
  refine ⟨a1, fun z => (a2 z).trans ⟨fun ⟨k, k0, w⟩ => ⟨k, ⟨k0.1, by omega⟩, w⟩, fun ⟨k, k0, a, b, w⟩ => ?_⟩, ⟨fun k k0 k1 a b w => ?_, fun k k2 k0 k1 k20 k21 a b w w2 => ?_⟩, ?_⟩
  · by_cases e : k = i
    · subst e; exact absurd w.1 (hno a b)
    · exact ⟨k, ⟨k0.1, by omega⟩, a, b, w⟩
  · by_cases e : k = i
    · subst e; exact absurd w (hno a b)
    · exact a3 k k0 (by omega) a b w
  · by_cases e : k = i
    · subst e; exact absurd w (hno a b)
    · by_cases e2 : k2 = i
      · subst e2; exact absurd w2 (hno a b)
      · exact a4 k k2 k0 (by omega) k20 (by omega) a b w w2
  · have : wz (wL h (i + 1)) Xs ≤ wz (wL h i) Xs := wz_le (fun x => by
      have := lim_lt hs i0 i1
      have e := lim_eq i1
      unfold wL
      split
      · rw [if_pos (by omega)]; exact Nat.le_refl _
      · omega)
    omega
theorem gp_ins {h : cz_H} {F : rz_W} {E : Int → Prop} {Xs : List Int} {g g2 : cz_H} {i a b : Int} (hw : uz_wf F) (hXs : ∀ x, (F x).2 ≠ none → x ∈ Xs) (hs : sz_ok h) (i0 : 0 ≤ i) (i1 : i < qz_I h 202 1) (hg : gp h F E Xs g i) (hp : ez_p F E (sz_f h i) a b) (hno : ¬ ∃ j, 0 ≤ j ∧ j < qz_I g 723 8 ∧ pp g j = a * 2097152 + b) (hz' : ¬ hz_pair a b) (h8 : qz_I g2 723 8 = qz_I g 723 8 + 1) (hr : ri (pp g2) (qz_I g 723 8 + 1)) (hm : ∀ z, (∃ j, 0 ≤ j ∧ j < qz_I g 723 8 + 1 ∧ pp g2 j = z) ↔ (z = a * 2097152 + b ∨ ∃ j, 0 ≤ j ∧ j < qz_I g 723 8 ∧ pp g j = z)) : gp h F E Xs g2 (i + 1) := by
  obtain ⟨a1, a2, ⟨a3, a4⟩, a5⟩ := hg
  have pin : ∀ {a2 b2}, ez_p F E (sz_f h i) a2 b2 → a2 = a ∧ b2 = b := fun {a2 b2} w => by
    have e := w.1
    rw [hp.1] at e
    cases e
    exact ⟨rfl, rfl⟩
  refine ⟨by rw [h8]; exact hr, fun z => ?_, ⟨fun k k0 k1 c d w => ?_, fun k k2 k0 k1 k20 k21 c d w w2 => ?_⟩, ?_⟩
  · rw [h8, hm z, a2 z]
    constructor
    · rintro (w | ⟨k, k0, w⟩)
      · exact ⟨i, ⟨i0, by omega⟩, a, b, hp, w⟩
      · exact ⟨k, ⟨k0.1, by omega⟩, w⟩
    · rintro ⟨k, k0, c, d, w, e⟩
      by_cases ek : k = i
      · subst ek
        obtain ⟨rfl, rfl⟩ := pin w
        exact Or.inl e
      · exact Or.inr ⟨k, ⟨k0.1, by omega⟩, c, d, w, e⟩
  · by_cases e : k = i
    · subst e
      obtain ⟨rfl, rfl⟩ := pin w
      exact hz'
    · exact a3 k k0 (by omega) c d w
  · by_cases e : k = i
    · by_cases e2 : k2 = i
      · omega
      · subst e
        obtain ⟨rfl, rfl⟩ := pin w
        exact absurd ((a2 _).mpr ⟨k2, ⟨k20, by omega⟩, c, d, w2, rfl⟩) hno
    · by_cases e2 : k2 = i
      · subst e2
        obtain ⟨rfl, rfl⟩ := pin w2
        exact absurd ((a2 _).mpr ⟨k, ⟨k0, by omega⟩, c, d, w, rfl⟩) hno
      · exact a4 k k2 k0 (by omega) k20 (by omega) c d w w2
  · have : wz (wL h (i + 1)) Xs + 1 ≤ wz (wL h i) Xs := wz_lt (y := sz_f h i) (fun x => by
      have := lim_lt hs i0 i1
      have e := lim_eq i1
      unfold wL
      split
      · rw [if_pos (by omega)]; exact Nat.le_refl _
      · omega) (hXs _ (by rw [hp.1]; exact fun e => by cases e)) (by
        have := lim_lt hs i0 i1
        have e := lim_eq i1
        unfold wL
        rw [if_neg (by omega), if_pos (by omega)]
        omega)
    omega
/-- each of them with its point -/
def gq (h : cz_H) (F : rz_W) (E : Int → Prop) (g : cz_H) (i : Int) : Prop := ∀ j, 0 ≤ j → j < qz_I g 723 8 → ∃ k, (0 ≤ k ∧ k < i) ∧ ∃ a b, ez_p F E (sz_f h k) a b ∧ pp g j = a * 2097152 + b ∧ pcv g j = sz_f h k
theorem gq_skip {h : cz_H} {F : rz_W} {E : Int → Prop} {g : cz_H} {i : Int} (hg : gq h F E g i) : gq h F E g (i + 1) := fun j j0 j1 => by
  obtain ⟨k, ⟨k0, k1⟩, w⟩ := hg j j0 j1
  exact ⟨k, ⟨k0, by omega⟩, w⟩
theorem gq_ins {h : cz_H} {F : rz_W} {E : Int → Prop} {g g2 : cz_H} {i a b x : Int} (i0 : 0 ≤ i) (hg : gq h F E g i) (hp : ez_p F E (sz_f h i) a b) (ex : x = sz_f h i) (h8 : qz_I g2 723 8 = qz_I g 723 8 + 1) (hm : ∀ j, 0 ≤ j → j < qz_I g 723 8 + 1 → (pp g2 j = a * 2097152 + b ∧ pcv g2 j = x) ∨ ∃ j2, 0 ≤ j2 ∧ j2 < qz_I g 723 8 ∧ pp g2 j = pp g j2 ∧ pcv g2 j = pcv g j2) : gq h F E g2 (i + 1) := fun j j0 j1 => by
  rw [h8] at j1
  rcases hm j j0 j1 with ⟨w1, w2⟩ | ⟨j2, q0, q1, w1, w2⟩
  · exact ⟨i, ⟨i0, by omega⟩, a, b, hp, w1, w2.trans ex⟩
  · obtain ⟨k, ⟨k0, k1⟩, c, e, w3, w4, w5⟩ := hg j2 q0 q1
    exact ⟨k, ⟨k0, by omega⟩, c, e, w3, w1.trans w4, w2.trans w5⟩
/-- the pairs, as they stand -/
def cP (h : cz_H) (F : rz_W) (E : Int → Prop) : Prop := ri (pp h) (qz_I h 723 8) ∧ (∀ j, 0 ≤ j → j < qz_I h 723 8 → ∃ a b, ez_p F E (qz_I h 728 j.toNat) a b ∧ pp h j = a * 2097152 + b) ∧ ∀ x a b, ez_p F E x a b → ∃ j, 0 ≤ j ∧ j < qz_I h 723 8 ∧ pp h j = a * 2097152 + b
section EzGp
variable {d : Nat} {h : cz_H} {τ : Nat → Nat} {Q : cz_F → Prop} {T : Int → Nat} {F : rz_W} {E : Int → Prop} {Xs : List Int}
theorem pz_PG {g : cz_H} (hX : jz_X τ) (hf : ez_fr nz_PG h g) : pz τ h g := pz_fr hf (fun q hq => by
  unfold nz_PG at hq
  have : q = 723 ∨ q = 727 ∨ q = 728 := by
    rw [Bool.or_eq_true, Bool.or_eq_true] at hq
    exact hq.imp Nat.eq_of_beq_eq_true (fun w => w.imp Nat.eq_of_beq_eq_true Nat.eq_of_beq_eq_true)
  exact ⟨by omega, by omega, (pz_X hX (by omega) (by omega)).1⟩)
theorem gp_S4 {g : cz_H} (hw : uz_wf F) (hC : pz_C τ h T F E) (hg : gp h F E Xs g (qz_I h 202 1)) : uz_S4 F E := by
  have hd : ∀ {x a b}, ez_p F E x a b → ∃ k, 0 ≤ k ∧ k < qz_I h 202 1 ∧ sz_f h k = x := fun {x a b} w => by
    have := ((hw x).2 _ _ w.1).2.2.2
    exact sz_dec hC this.1 this.2 (by rw [w.1]; exact fun e => by cases e)
  refine ⟨fun x a b w => ?_, fun x y a b w w2 => ?_⟩
  · obtain ⟨k, k0, k1, e⟩ := hd w
    exact hg.2.2.1.1 k k0 k1 a b (by rw [e]; exact w)
  · obtain ⟨k, k0, k1, e⟩ := hd w
    obtain ⟨k2, k20, k21, e2⟩ := hd w2
    have := hg.2.2.1.2 k k2 k0 k1 k20 k21 a b (by rw [e]; exact w) (by rw [e2]; exact w2)
    rw [← e, ← e2, this]
theorem gp_pcn {g : cz_H} (hw : uz_wf F) (hC : pz_C τ h T F E) (h8 : 0 ≤ qz_I g 723 8) (hg : gp h F E Xs g (qz_I h 202 1)) : pcn F E (qz_I g 723 8) := by
  refine ⟨h8, pp g, fun i j i0 ij jn e => by have := hg.1 i j i0 ij jn; omega, fun z => (hg.2.1 z).trans ⟨fun ⟨k, _, a, b, w, e⟩ => ⟨_, a, b, w, e⟩, fun ⟨x, a, b, w, e⟩ => ?_⟩⟩
  have := ((hw x).2 _ _ w.1).2.2.2
  obtain ⟨k, k0, k1, ek⟩ := sz_dec hC this.1 this.2 (by rw [w.1]; exact fun e => by cases e)
  exact ⟨k, ⟨k0, k1⟩, a, b, by rw [ek]; exact w, e⟩
theorem gq_cP {g : cz_H} (hw : uz_wf F) (hC : pz_C τ h T F E) (hg : gp h F E Xs g (qz_I h 202 1)) (hq : gq h F E g (qz_I h 202 1)) : cP g F E := by
  refine ⟨hg.1, fun j j0 j1 => ?_, fun x a b w => ?_⟩
  · obtain ⟨k, -, a, b, w1, w2, w3⟩ := hq j j0 j1
    exact ⟨a, b, by rw [show qz_I g 728 j.toNat = sz_f h k from w3]; exact w1, w2⟩
  · have := ((hw x).2 _ _ w.1).2.2.2
    obtain ⟨k, k0, k1, ek⟩ := sz_dec hC this.1 this.2 (by rw [w.1]; exact fun e => by cases e)
    exact (hg.2.1 _).mpr ⟨k, ⟨k0, k1⟩, a, b, by rw [ek]; exact w, rfl⟩
theorem rd_gather_l (hw : uz_wf F) (hS : uz_S1 F) (hXs : ∀ x, (F x).2 ≠ none → x ∈ Xs) (hXl : Xs.length ≤ 256) (hC0 : pz_C τ h T F E) (t723 : τ 723 = 55) (t202 : τ 202 = 48) (t203 : τ 203 = 49) (t727 : τ 727 = 59) (t728 : τ 728 = 60) (k1 : uz_S4 F E → ∀ g, ez_B τ g → ez_fr nz_PG h g → (∀ j, j ≠ 8 → qz_I g 723 j = qz_I h 723 j) → pcn F E (qz_I g 723 8) → cP g F E → Q (.inl (some (ez_v (.inl 1))), g)) (k0 : ¬ uz_S4 F E → ∀ g, ez_B τ g → pz τ h g → Q (.inl (some (ez_v (.inl 0))), g)) : ∀ (m : Nat) (i : Int) (g : cz_H), m = (qz_I h 202 1 - i).toNat → 0 ≤ i → i ≤ qz_I h 202 1 → pz_C τ g T F E → ez_fr nz_PG h g → (∀ j, j ≠ 8 → qz_I g 723 j = qz_I h 723 j) → gp h F E Xs g i → gq h F E g i → ez_W (d + 3) cm_119 2 [(1, .inl (i)), (0, .inr (.inr (some (723))))] [] g Q := by
  intro m
  induction m with
  | zero =>
    intro i g hm i0 i1 hC hf hj0 hgp hgq
    have bn := sz_R_n1 hC0.1 t202
    have e202 : qz_I g 202 1 = qz_I h 202 1 := hf.I rfl 1
    have hpz := pz_PG hC0.2.1 hf
    refine ez_go (n := 2) (pc' := 4) (L' := [(1, .inl (i)), (0, .inr (.inr (some (723))))]) (st' := [.inr (.inr (some (723))), .inl (i)]) rfl ?_
    refine ez_gC (p := 202) (tg := 48) hC.1 t723 rfl rfl tq_55 rfl rfl (fun (t202 : _ = 48) => ?_)
    refine ez_gI hC.1 t202 rfl rfl tq_48 rfl rfl (fun (b1 : 1 ≤ qz_I g 202 1) (b1' : qz_I g 202 1 ≤ 513) => ?_)
    refine ez_icmp rfl rfl ⟨by first | omega | exact (sz_i32 _).1, by first | omega | exact (sz_i32 _).2⟩ ⟨by first | omega | exact (sz_i32 _).1, by first | omega | exact (sz_i32 _).2⟩ (fun (c2 : (qz_I g 202 1) ≤ (i)) => ?_) (fun (c2 : ¬((qz_I g 202 1) ≤ (i))) => ?_)
    · skip
      refine ez_go (n := 1) (pc' := 92) (L' := [(1, .inl (i)), (0, .inr (.inr (some (723))))]) (st' := [.inl (1)]) rfl ?_
      rw [show i = qz_I h 202 1 by omega] at hgp hgq
      exact ez_retZ rfl rfl (by decide) (k1 (gp_S4 hw hC0 hgp) g hC.1 hf hj0 (gp_pcn hw hC0 (ez_fB (cl := 6) hC.1 t723 tq_55 rfl rfl (by decide) : 0 ≤ qz_I g 723 8 ∧ _).1 hgp) (gq_cP hw hC0 hgp hgq))
    · exfalso; omega
  | succ m ih =>
    intro i g hm i0 i1 hC hf hj0 hgp hgq
    have bn := sz_R_n1 hC0.1 t202
    have e202 : qz_I g 202 1 = qz_I h 202 1 := hf.I rfl 1
    have hpz := pz_PG hC0.2.1 hf
    refine ez_go (n := 2) (pc' := 4) (L' := [(1, .inl (i)), (0, .inr (.inr (some (723))))]) (st' := [.inr (.inr (some (723))), .inl (i)]) rfl ?_
    refine ez_gC (p := 202) (tg := 48) hC.1 t723 rfl rfl tq_55 rfl rfl (fun (t202 : _ = 48) => ?_)
    refine ez_gI hC.1 t202 rfl rfl tq_48 rfl rfl (fun (b1 : 1 ≤ qz_I g 202 1) (b1' : qz_I g 202 1 ≤ 513) => ?_)
    refine ez_icmp rfl rfl ⟨by first | omega | exact (sz_i32 _).1, by first | omega | exact (sz_i32 _).2⟩ ⟨by first | omega | exact (sz_i32 _).1, by first | omega | exact (sz_i32 _).2⟩ (fun (c2 : (qz_I g 202 1) ≤ (i)) => ?_) (fun (c2 : ¬((qz_I g 202 1) ≤ (i))) => ?_)
    · exfalso; omega
    · skip
      refine ez_go (n := 1) (pc' := 14) (L' := [(1, .inl (i)), (0, .inr (.inr (some (723))))]) (st' := [.inr (.inr (some (723)))]) rfl ?_
      refine ez_gC (p := 202) (tg := 48) hC.1 t723 rfl rfl tq_55 rfl rfl (fun (t202 : _ = 48) => ?_)
      refine ez_gC (p := 203) (tg := 49) hC.1 t202 rfl rfl tq_48 rfl rfl (fun (t203 : _ = 49) => ?_)
      refine ez_go (n := 1) (pc' := 21) (L' := [(1, .inl (i)), (0, .inr (.inr (some (723))))]) (st' := [.inl (i), .inr (.inr (some (203)))]) rfl ?_
      have n4 : 513 ≤ qz_N g 203 ∧ qz_N g 203 ≤ 513 := ez_len hC.1 t203 tq_49 rfl
      have y5 : 1 ≤ qz_I g 203 (i).toNat ∧ qz_I g 203 (i).toNat ≤ 1000000 := ez_aB hC.1 t203 tq_49 rfl rfl (by decide) (by omega) (by omega)
      have y5' : ((qz_P g 203 (i).toNat : Nat) : Int) + 1 = qz_I g 203 (i).toNat := by unfold qz_P; omega
      refine ez_aR hC.1 t203 rfl tq_49 rfl rfl (by omega) (by omega) (by omega) (fun (t3 : _ = 4) => ?_)
      refine ez_gR hC.1 t3 rfl rfl tq_4 rfl rfl (fun (t6 : _ = 3) (t6' : 1 ≤ qz_I g (qz_P g 203 (i).toNat) 1) => ?_)
      obtain ⟨at1, y0, y1⟩ := sz_first hC.2.2.1 i0 (show i < qz_I g 202 1 by omega)
      have ef : sz_f g i = sz_f h i := by unfold sz_f sz_p qz_P qz_I; rw [hf.2.2 203 rfl, hf.2.2 _ (by have tz := sz_tag hC0.1 t203 i0 (show i < 513 by omega); unfold sz_p qz_P qz_I at tz; unfold nz_PG; rw [dz_beq_ne (fun e => by rw [e, t723] at tz; cases tz), dz_beq_ne (fun e => by rw [e, t727] at tz; cases tz), dz_beq_ne (fun e => by rw [e, t728] at tz; cases tz)]; rfl)]
      rw [ef] at at1 y0 y1
      have e1 := (hC.2.2.2.1 _ i y0 y1 at1).1
      obtain ⟨x, ex⟩ : ∃ x, x = sz_f h i := ⟨_, rfl⟩
      rw [← ex] at at1 y0 y1 e1
      have eT : qz_P g (qz_P g 203 (i).toNat) 1 = T x := by show qz_P g (sz_p g i) 1 = T x; unfold qz_P; omega
      rw [eT]
      obtain ⟨tT, -, f3, f4⟩ := hC.2.2.2.2 x y0 y1
      refine ez_go (n := 2) (pc' := 27) (L' := [(2, .inr (.inr (some ((T x))))), (1, .inl (i)), (0, .inr (.inr (some (723))))]) (st' := [.inr (.inr (some ((T x))))]) rfl ?_
      refine ez_gN hC.1 tT rfl rfl tq_3 rfl rfl (fun (t7 : qz_I g ((T x)) 3 = 0) => ?_) (fun (t7 : _ = 5) (t7' : 1 ≤ qz_I g ((T x)) 3) => ?_)
      · skip
        refine ez_null0 rfl rfl ?_
        refine ez_go (n := 2) (pc' := 2) (L' := [(1, .inl (i + 1)), (2, .inr (.inr (some ((T x))))), (0, .inr (.inr (some (723))))]) (st' := []) rfl ?_
        refine ez_less [(1, .inl (i + 1)), (0, .inr (.inr (some (723))))] rfl ⟨rfl, rfl, trivial⟩ ?_
        refine ih (i + 1) g (by omega) (by omega) (by omega) hC hf hj0 (gp_skip hC0.2.2.1 i0 (by omega) hgp (fun a b w => ?_)) (gq_skip hgq)
        rw [← ex] at w
        obtain ⟨d0', d1', d2', d3', d4', d5'⟩ := f4 _ _ w.1
        simp only [List.length_cons, List.length_nil] at d4'
        first | omega | exact w.2 hex
      · skip
        refine ez_null1 rfl ?_
        refine ez_go (n := 1) (pc' := 34) (L' := [(2, .inr (.inr (some ((T x))))), (1, .inl (i)), (0, .inr (.inr (some (723))))]) (st' := [.inr (.inr (some ((T x))))]) rfl ?_
        refine ez_gI hC.1 tT rfl rfl tq_3 rfl rfl (fun (b8 : 0 ≤ qz_I g ((T x)) 4) (b8' : qz_I g ((T x)) 4 ≤ 1) => ?_)
        refine ez_if rfl rfl ⟨by first | omega | exact (sz_i32 _).1, by first | omega | exact (sz_i32 _).2⟩ (fun (c9 : (qz_I g ((T x)) 4) ≠ (0)) => ?_) (fun (c9 : ¬((qz_I g ((T x)) 4) ≠ (0))) => ?_)
        · skip
          refine ez_go (n := 2) (pc' := 2) (L' := [(1, .inl (i + 1)), (2, .inr (.inr (some ((T x))))), (0, .inr (.inr (some (723))))]) (st' := []) rfl ?_
          refine ez_less [(1, .inl (i + 1)), (0, .inr (.inr (some (723))))] rfl ⟨rfl, rfl, trivial⟩ ?_
          refine ih (i + 1) g (by omega) (by omega) (by omega) hC hf hj0 (gp_skip hC0.2.2.1 i0 (by omega) hgp (fun a b w => ?_)) (gq_skip hgq)
          rw [← ex] at w
          obtain ⟨d0', d1', d2', d3', d4', d5'⟩ := f4 _ _ w.1
          simp only [List.length_cons, List.length_nil] at d4'
          first | omega | exact w.2 hex
        · skip
          refine ez_go (n := 1) (pc' := 41) (L' := [(2, .inr (.inr (some ((T x))))), (1, .inl (i)), (0, .inr (.inr (some (723))))]) (st' := [.inr (.inr (some ((T x))))]) rfl ?_
          refine ez_gN hC.1 tT rfl rfl tq_3 rfl rfl (fun (t10 : qz_I g ((T x)) 3 = 0) => ?_) (fun (t10 : _ = 5) (t10' : 1 ≤ qz_I g ((T x)) 3) => ?_)
          · exfalso; omega
          · skip
            refine ez_al hC.1 t10 rfl tq_5 rfl (fun (b11 : 0 ≤ qz_N g (qz_P g ((T x)) 3)) (b11' : qz_N g (qz_P g ((T x)) 3) ≤ 18) => ?_)
            refine ez_go (n := 1) (pc' := 46) (L' := [(2, .inr (.inr (some ((T x))))), (1, .inl (i)), (0, .inr (.inr (some (723))))]) (st' := [.inl (2), .inl (qz_N g (qz_P g ((T x)) 3))]) rfl ?_
            refine ez_icmp rfl rfl ⟨by first | omega | exact (sz_i32 _).1, by first | omega | exact (sz_i32 _).2⟩ ⟨by first | omega | exact (sz_i32 _).1, by first | omega | exact (sz_i32 _).2⟩ (fun (c12 : (qz_N g (qz_P g ((T x)) 3)) ≠ (2)) => ?_) (fun (c12 : ¬((qz_N g (qz_P g ((T x)) 3)) ≠ (2))) => ?_)
            · skip
              refine ez_go (n := 2) (pc' := 2) (L' := [(1, .inl (i + 1)), (2, .inr (.inr (some ((T x))))), (0, .inr (.inr (some (723))))]) (st' := []) rfl ?_
              refine ez_less [(1, .inl (i + 1)), (0, .inr (.inr (some (723))))] rfl ⟨rfl, rfl, trivial⟩ ?_
              refine ih (i + 1) g (by omega) (by omega) (by omega) hC hf hj0 (gp_skip hC0.2.2.1 i0 (by omega) hgp (fun a b w => ?_)) (gq_skip hgq)
              rw [← ex] at w
              obtain ⟨d0', d1', d2', d3', d4', d5'⟩ := f4 _ _ w.1
              simp only [List.length_cons, List.length_nil] at d4'
              first | omega | exact w.2 hex
            · skip
              refine ez_go (n := 2) (pc' := 51) (L' := [(2, .inr (.inr (some ((T x))))), (1, .inl (i)), (0, .inr (.inr (some (723))))]) (st' := [.inr (.inr (some ((T x)))), .inr (.inr (some (723)))]) rfl ?_
              refine ez_gI hC.1 tT rfl rfl tq_3 rfl rfl (fun (b13 : -2147483648 ≤ qz_I g ((T x)) 0) (b13' : qz_I g ((T x)) 0 ≤ 2147483647) => ?_)
              obtain ⟨cp, vs, hq⟩ : ∃ cp vs, (F x).2 = some (cp, vs) := by
                cases hq : (F x).2 with
                | none => have := f3 hq; omega
                | some q => exact ⟨q.1, q.2, rfl⟩
              obtain ⟨d0, d1, d2, d3, d4, d5⟩ := f4 cp vs hq
              rw [d0]
              refine ez_cv hC.1 t723 rfl rfl rfl tq_55 rfl rfl rfl (rd_isExcluded hw hC y0 y1 (hS x cp vs hq).1 (fun hex => ez_K1 ?_) (fun hex => ez_K1 ?_))
              · skip
                refine ez_if rfl rfl ⟨by decide, by decide⟩ (fun _ => ?_) (fun (c14 : ¬((1 : Int) ≠ (0))) => absurd c14 (by decide))
                refine ez_go (n := 2) (pc' := 2) (L' := [(1, .inl (i + 1)), (2, .inr (.inr (some ((T x))))), (0, .inr (.inr (some (723))))]) (st' := []) rfl ?_
                refine ez_less [(1, .inl (i + 1)), (0, .inr (.inr (some (723))))] rfl ⟨rfl, rfl, trivial⟩ ?_
                refine ih (i + 1) g (by omega) (by omega) (by omega) hC hf hj0 (gp_skip hC0.2.2.1 i0 (by omega) hgp (fun a b w => ?_)) (gq_skip hgq)
                rw [← ex] at w
                obtain ⟨d0', d1', d2', d3', d4', d5'⟩ := f4 _ _ w.1
                simp only [List.length_cons, List.length_nil] at d4'
                first | omega | exact w.2 hex
              · skip
                have hl2 : vs.length = 2 := by omega
                have hc0 : cp = 0 := by omega
                subst hc0
                obtain ⟨a, b, rfl⟩ : ∃ a b, vs = [a, b] := by
                  match vs, hl2 with
                  | [a, b], _ => exact ⟨a, b, rfl⟩
                have da := d5 0 a rfl
                have db := d5 1 b rfl
                have hwa := ((hw x).2 _ _ hq).2.2.1 a (by simp)
                have hwb := ((hw x).2 _ _ hq).2.2.1 b (by simp)
                have hp : ez_p F E x a b := ⟨hq, hex⟩
                refine ez_if rfl rfl ⟨by decide, by decide⟩ (fun (c15 : (0 : Int) ≠ (0)) => absurd c15 (by decide)) (fun _ => ?_)
                refine ez_go (n := 2) (pc' := 62) (L' := [(2, .inr (.inr (some ((T x))))), (1, .inl (i)), (0, .inr (.inr (some (723))))]) (st' := [.inr (.inr (some ((T x)))), .inr (.inr (some (723)))]) rfl ?_
                refine ez_gN hC.1 tT rfl rfl tq_3 rfl rfl (fun (t16 : qz_I g ((T x)) 3 = 0) => ?_) (fun (t16 : _ = 5) (t16' : 1 ≤ qz_I g ((T x)) 3) => ?_)
                · exfalso; omega
                · skip
                  refine ez_go (n := 1) (pc' := 66) (L' := [(2, .inr (.inr (some ((T x))))), (1, .inl (i)), (0, .inr (.inr (some (723))))]) (st' := [.inl (0), .inr (.inr (some (qz_P g ((T x)) 3))), .inr (.inr (some (723)))]) rfl ?_
                  have n18 : 0 ≤ qz_N g (qz_P g ((T x)) 3) ∧ qz_N g (qz_P g ((T x)) 3) ≤ 18 := ez_len hC.1 t16 tq_5 rfl
                  refine ez_aI hC.1 t16 rfl tq_5 rfl rfl (by omega) (by omega) (fun (b17 : -2147483648 ≤ qz_I g (qz_P g ((T x)) 3) (0 : Int).toNat) (b17' : qz_I g (qz_P g ((T x)) 3) (0 : Int).toNat ≤ 2147483647) => ?_)
                  refine ez_go (n := 1) (pc' := 68) (L' := [(2, .inr (.inr (some ((T x))))), (1, .inl (i)), (0, .inr (.inr (some (723))))]) (st' := [.inr (.inr (some ((T x)))), .inl (qz_I g (qz_P g ((T x)) 3) (0 : Int).toNat), .inr (.inr (some (723)))]) rfl ?_
                  refine ez_gN hC.1 tT rfl rfl tq_3 rfl rfl (fun (t19 : qz_I g ((T x)) 3 = 0) => ?_) (fun (t19 : _ = 5) (t19' : 1 ≤ qz_I g ((T x)) 3) => ?_)
                  · exfalso; omega
                  · skip
                    refine ez_go (n := 1) (pc' := 72) (L' := [(2, .inr (.inr (some ((T x))))), (1, .inl (i)), (0, .inr (.inr (some (723))))]) (st' := [.inl (1), .inr (.inr (some (qz_P g ((T x)) 3))), .inl (qz_I g (qz_P g ((T x)) 3) (0 : Int).toNat), .inr (.inr (some (723)))]) rfl ?_
                    have n21 : 0 ≤ qz_N g (qz_P g ((T x)) 3) ∧ qz_N g (qz_P g ((T x)) 3) ≤ 18 := ez_len hC.1 t19 tq_5 rfl
                    refine ez_aI hC.1 t19 rfl tq_5 rfl rfl (by omega) (by omega) (fun (b20 : -2147483648 ≤ qz_I g (qz_P g ((T x)) 3) (1 : Int).toNat) (b20' : qz_I g (qz_P g ((T x)) 3) (1 : Int).toNat ≤ 2147483647) => ?_)
                    refine ez_go (n := 1) (pc' := 74) (L' := [(2, .inr (.inr (some ((T x))))), (1, .inl (i)), (0, .inr (.inr (some (723))))]) (st' := [.inr (.inr (some ((T x)))), .inl (qz_I g (qz_P g ((T x)) 3) (1 : Int).toNat), .inl (qz_I g (qz_P g ((T x)) 3) (0 : Int).toNat), .inr (.inr (some (723)))]) rfl ?_
                    refine ez_gI hC.1 tT rfl rfl tq_3 rfl rfl (fun (b22 : -2147483648 ≤ qz_I g ((T x)) 0) (b22' : qz_I g ((T x)) 0 ≤ 2147483647) => ?_)
                    have hn8 : qz_I g 723 8 < 256 := by
                      have q5 := hgp.2.2.2
                      have := wz_lt2 (W := wL h i) (W' := fun _ => 0) (y := x) (k := 1) (xs := Xs) (fun _ _ => Nat.zero_le _) (hXs x (by rw [hq]; exact fun e => by cases e)) (by unfold wL; rw [lim_eq (by omega), ← ex, if_pos (Int.le_refl _)]; omega)
                      omega
                    rw [show (0 : Int).toNat = 0 from rfl, show (1 : Int).toNat = 1 from rfl, da, db, d0]
                    refine ez_cv hC.1 t723 rfl rfl rfl tq_55 rfl rfl rfl (rd_insertPair hC.1 hC.2.1 hwa.1 hwa.2 hwb.1 hwb.2 y0 y1 hn8 hgp.1 (fun hbad => ez_K1 ?_) (fun h1 h2 g2 hB2 f2 j2 c2 r2 m2 m3 => ez_K1 ?_))
                    · skip
                      refine ez_if rfl rfl ⟨by decide, by decide⟩ (fun (c23 : (0 : Int) ≠ (0)) => absurd c23 (by decide)) (fun _ => ?_)
                      refine ez_go (n := 1) (pc' := 84) (L' := [(2, .inr (.inr (some ((T x))))), (1, .inl (i)), (0, .inr (.inr (some (723))))]) (st' := [.inl (0)]) rfl ?_
                      refine ez_retZ rfl rfl (by decide) (k0 (fun h4 => ?_) g hC.1 hpz)
                      rcases hbad with hbad | hbad
                      · obtain ⟨k, k0', a2, b2, w, e⟩ := (hgp.2.1 _).mp hbad
                        have wr := ((hw _).2 _ _ w.1).2.2.1
                        have wa := wr a2 (by simp)
                        have wb := wr b2 (by simp)
                        have ea : a2 = a := by omega
                        have eb : b2 = b := by omega
                        subst ea; subst eb
                        have e3 := h4.2 _ _ _ _ w hp
                        rw [ex] at e3
                        have := hC0.2.2.1.2 k i k0'.1 k0'.2 (by omega)
                        omega
                      · exact h4.1 x a b hp hbad
                    · skip
                      refine ez_if rfl rfl ⟨by decide, by decide⟩ (fun _ => ?_) (fun (c24 : ¬((1 : Int) ≠ (0))) => absurd c24 (by decide))
                      refine ez_go (n := 2) (pc' := 2) (L' := [(1, .inl (i + 1)), (2, .inr (.inr (some ((T x))))), (0, .inr (.inr (some (723))))]) (st' := []) rfl ?_
                      refine ez_less [(1, .inl (i + 1)), (0, .inr (.inr (some (723))))] rfl ⟨rfl, rfl, trivial⟩ ?_
                      have hfr := hf.trans f2
                      refine ih (i + 1) g2 (by omega) (by omega) (by omega) (hC0.fr hB2 (pz_PG hC0.2.1 hfr)) hfr (fun j hj => (j2 j hj).trans (hj0 j hj)) ?_ (gq_ins i0 hgq (by rw [← ex]; exact hp) ex c2 m3)
                      exact gp_ins hw hXs hC0.2.2.1 i0 (by omega) hgp (by rw [← ex]; exact hp) h1 h2 c2 r2 m2
theorem rd_gatherPairs (hw : uz_wf F) (hS : uz_S1 F) (hXs : ∀ x, (F x).2 ≠ none → x ∈ Xs) (hXl : Xs.length ≤ 256) (hC0 : pz_C τ h T F E) (h8 : qz_I h 723 8 = 0) (k1 : uz_S4 F E → ∀ g, ez_B τ g → ez_fr nz_PG h g → (∀ j, j ≠ 8 → qz_I g 723 j = qz_I h 723 j) → pcn F E (qz_I g 723 8) → cP g F E → Q (.inl (some (ez_v (.inl 1))), g)) (k0 : ¬ uz_S4 F E → ∀ g, ez_B τ g → pz τ h g → Q (.inl (some (ez_v (.inl 0))), g)) : ez_W (d + 3) cm_119 0 [(0, .inr (.inr (some (723))))] [] h Q := by
  have t723 : τ 723 = 55 := hC0.2.1 723 (by decide)
  have t202 : τ 202 = 48 := hC0.2.1 202 (by decide)
  have t203 : τ 203 = 49 := hC0.2.1 203 (by decide)
  have t727 : τ 727 = 59 := hC0.2.1 727 (by decide)
  have t728 : τ 728 = 60 := hC0.2.1 728 (by decide)
  have bn := sz_R_n1 hC0.1 t202
  refine ez_go (n := 2) (pc' := 2) (L' := [(1, .inl (0)), (0, .inr (.inr (some (723))))]) (st' := []) rfl ?_
  refine ez_less [(1, .inl (0)), (0, .inr (.inr (some (723))))] rfl ⟨rfl, rfl, trivial⟩ ?_
  refine rd_gather_l hw hS hXs hXl hC0 t723 t202 t203 t727 t728 k1 k0 _ 0 h rfl (by omega) (by omega) hC0 (ez_fr.refl _ _) (fun _ _ => rfl) ⟨fun i j i0 ij jn => by omega, fun z => ⟨fun ⟨j, j0, j1, _⟩ => by omega, fun ⟨k, k0, _⟩ => by omega⟩, ⟨fun k k0 k1 => by omega, fun k k2 k0 k1 => by omega⟩, ?_⟩ (fun j j0 j1 => by omega)
  have := wz_one (W := wL h 0) (fun x => by unfold wL; split <;> omega) Xs
  omega

end EzGp
/-! The class: prepare. (Written by wip/p2/py/pv37.py.) -/
section EzPp
variable {d : Nat} {h : cz_H} {τ : Nat → Nat} {Q : cz_F → Prop} {T : Int → Nat} {F : rz_W} {E : Int → Prop} {Xs : List Int}
theorem rd_checkShapes (hw : uz_wf F) (hC : pz_C τ h T F E) (k1 : uz_S1 F → ∀ g, ez_B τ g → pz τ h g → (∀ q, τ q ≠ 3 → g.2.2 q = h.2.2 q) → (∀ q, τ q = 3 → ∀ j, j ≠ 8 → qz_I g q j = qz_I h q j) → (∀ x, (F x).2 ≠ none → qz_I g (T x) 8 = 0) → Q (.inl (some (ez_v (.inl 1))), g)) (k0 : ¬ uz_S1 F → ∀ g, ez_B τ g → pz τ h g → Q (.inl (some (ez_v (.inl 0))), g)) : ez_W (d + 1) cm_112 0 [(0, .inr (.inr (some (723))))] [] h Q := by
  have t723 : τ 723 = 55 := hC.2.1 723 (by decide)
  have t202 : τ 202 = 48 := hC.2.1 202 (by decide)
  have t203 : τ 203 = 49 := hC.2.1 203 (by decide)
  refine ez_go (n := 2) (pc' := 2) (L' := [(1, .inl (0)), (0, .inr (.inr (some (723))))]) (st' := []) rfl ?_
  refine ez_less [(1, .inl (0)), (0, .inr (.inr (some (723))))] rfl ⟨rfl, rfl, trivial⟩ ?_
  have bn := sz_R_n1 hC.1 t202
  refine rd_checkShapes_l hC t723 t202 t203 (fun g hB hp9 n3 n8 hsh => ?_) k0 _ 0 h rfl (by omega) (by omega) hC (pz.refl _ _) (fun _ _ => rfl) (fun _ _ _ _ => rfl) (fun k k0 k1 => by omega)
  have hd : ∀ x, (F x).2 ≠ none → ∃ k, 0 ≤ k ∧ k < qz_I h 202 1 ∧ sz_f h k = x := fun x hx => by
    obtain ⟨q, hq⟩ : ∃ q, (F x).2 = some q := by cases hq : (F x).2 with | none => exact absurd hq hx | some q => exact ⟨q, rfl⟩
    have := ((hw x).2 q.1 q.2 hq).2.2.2
    exact sz_dec hC this.1 this.2 hx
  refine k1 (fun x cp vs hq => ?_) g hB hp9 n3 n8 (fun x hx => ?_)
  · obtain ⟨k, k0', k1', e⟩ := hd x (by rw [hq]; exact fun e => by cases e)
    have := (hsh k k0' k1').2 cp vs (by rw [e]; exact hq)
    rw [e] at this; exact this
  · obtain ⟨k, k0', k1', e⟩ := hd x hx
    have := (hsh k k0' k1').1
    rw [e] at this; exact this

theorem pz_f {g : cz_H} (hC : pz_C τ h T F E) (x : pz τ h g) {i : Int} (i0 : 0 ≤ i) (i1 : i < 513) : sz_f g i = sz_f h i := by
  have t202 : τ 202 = 48 := hC.2.1 202 (by decide)
  have t203 : τ 203 = 49 := hC.2.1 203 (by decide)
  have out : ∀ q, τ q = 4 → q < 723 ∨ 728 < q := fun q hq => by
    by_cases e : 723 ≤ q ∧ q ≤ 728
    · have := pz_X hC.2.1 e.1 e.2; omega
    · omega
  exact (sz_same hC.1 t203 t202 (x.2.1 202 (by rw [t202]; decide) (by omega)) (x.2.1 203 (by rw [t203]; decide) (by omega)) (fun q hq => x.2.1 q (by rw [hq]; decide) (out q hq))).2.1 i i0 i1 0
theorem pz_n {g : cz_H} (hX : jz_X τ) (x : pz τ h g) : ∀ j, qz_I g 202 j = qz_I h 202 j := fun j => by unfold qz_I; rw [x.2.1 202 (by rw [hX 202 (by decide)]; decide) (by omega)]
theorem rd_prepare_l (hw : uz_wf F) (hS : uz_S1 F) (hXr : ∀ x ∈ Xs, 0 ≤ x ∧ x ≤ 1114111) (hXs : ∀ x, (F x).2 ≠ none → x ∈ Xs) (hXl : Xs.length ≤ 256) (hC0 : pz_C τ h T F E) (k1 : uz_S F E → ∀ g, xy τ T F E Xs g → pz τ h g → (∀ x, (F x).2 ≠ none → qz_I g (T x) 8 = 2) → pcn F E (qz_I g 723 8) → cP g F E → Q (.inl (some (ez_v (.inl 1))), g)) (k0 : ¬ uz_S F E → ∀ g, ez_B τ g → pz τ h g → Q (.inl (some (ez_v (.inl 0))), g)) : ∀ (m : Nat) (i : Int) (g : cz_H), m = (qz_I h 202 1 - i).toNat → 0 ≤ i → i ≤ qz_I h 202 1 → xy τ T F E Xs g → pz τ h g → qz_I g 723 8 = 0 → (∀ k, 0 ≤ k → k < i → (F (sz_f h k)).2 ≠ none → qz_I g (T (sz_f h k)) 8 = 2) → ez_W (d + 5) cm_129 21 [(1, .inl (i)), (0, .inr (.inr (some (723))))] [] g Q := by
  intro m
  induction m with
  | zero =>
    intro i g hm i0 i1 hx hpz h8 hcl
    have t202 : τ 202 = 48 := hC0.2.1 202 (by decide)
    have t723 : τ 723 = 55 := hC0.2.1 723 (by decide)
    have bn := sz_R_n1 hC0.1 t202
    have e202 : qz_I g 202 1 = qz_I h 202 1 := pz_n hC0.2.1 hpz 1
    refine ez_go (n := 2) (pc' := 23) (L' := [(1, .inl (i)), (0, .inr (.inr (some (723))))]) (st' := [.inr (.inr (some (723))), .inl (i)]) rfl ?_
    refine ez_gC (p := 202) (tg := 48) hx.1.1 t723 rfl rfl tq_55 rfl rfl (fun (t202 : _ = 48) => ?_)
    refine ez_gI hx.1.1 t202 rfl rfl tq_48 rfl rfl (fun (b1 : 1 ≤ qz_I g 202 1) (b1' : qz_I g 202 1 ≤ 513) => ?_)
    refine ez_icmp rfl rfl ⟨by first | omega | exact (sz_i32 _).1, by first | omega | exact (sz_i32 _).2⟩ ⟨by first | omega | exact (sz_i32 _).1, by first | omega | exact (sz_i32 _).2⟩ (fun (c2 : (qz_I g 202 1) ≤ (i)) => ?_) (fun (c2 : ¬((qz_I g 202 1) ≤ (i))) => ?_)
    · skip
      refine ez_go (n := 1) (pc' := 76) (L' := [(1, .inl (i)), (0, .inr (.inr (some (723))))]) (st' := [.inr (.inr (some (723)))]) rfl ?_
      have hall : ∀ x, (F x).2 ≠ none → qz_I g (T x) 8 = 2 := fun x hxn => by
        obtain ⟨q, hq⟩ : ∃ q, (F x).2 = some q := by cases hq : (F x).2 with | none => exact absurd hq hxn | some q => exact ⟨q, rfl⟩
        have hr := ((hw x).2 q.1 q.2 hq).2.2.2
        obtain ⟨k, k0, k1, e⟩ := sz_dec hC0 hr.1 hr.2 hxn
        have := hcl k k0 (by omega) (by rw [e]; exact hxn)
        rw [e] at this; exact this
      have hrng : ∀ x, (F x).2 ≠ none → 0 ≤ x ∧ x ≤ 1114111 := fun x hxn => by
        obtain ⟨q, hq⟩ : ∃ q, (F x).2 = some q := by cases hq : (F x).2 with | none => exact absurd hq hxn | some q => exact ⟨q, rfl⟩
        exact ((hw x).2 q.1 q.2 hq).2.2.2
      have hS2 : uz_S2 F := fun x hxn => (hx.2.1 x (hrng x hxn).1 (hrng x hxn).2 hxn (hall x hxn)).1
      have hS3 : uz_S3 F := fun x hxn c => by obtain ⟨l, l1, l2, l3⟩ := (hx.2.1 x (hrng x hxn).1 (hrng x hxn).2 hxn (hall x hxn)).2 c; exact ⟨l, l1, l3⟩
      refine ez_cv hx.1.1 t723 rfl rfl rfl tq_55 rfl rfl rfl (rd_gatherPairs hw hS hXs hXl hx.1 h8 (fun h4 g2 hB2 f2 j2 pc2 cp2 => ez_K1 ?_) (fun h4 g2 hB2 p2 => ez_K1 ?_))
      · have p2 := pz_PG hC0.2.1 f2
        have t3n : ∀ q, τ q = 3 → nz_PG q = false := fun q hq => by unfold nz_PG; rw [dz_beq_ne (fun e => by rw [e] at hq; exact (pz_X hC0.2.1 (by omega) (by omega)).1 hq), dz_beq_ne (fun e => by rw [e] at hq; exact (pz_X hC0.2.1 (by omega) (by omega)).1 hq), dz_beq_ne (fun e => by rw [e] at hq; exact (pz_X hC0.2.1 (by omega) (by omega)).1 hq)]; rfl
        refine ez_retZ rfl rfl (by decide) (k1 ⟨hS, hS2, hS3, h4⟩ g2 (xy_tr hXr hx hB2 p2 (fun q hq j _ => f2.I (t3n q hq) j) (j2 2 (by decide)) (fun j => f2.I rfl j)) (hpz.trans p2) (fun x hxn => ?_) pc2 cp2)
        rw [f2.I (t3n _ (hx.1.2.2.2.2 x (hrng x hxn).1 (hrng x hxn).2).1)]; exact hall x hxn
      · exact ez_retZ rfl rfl (by decide) (k0 (fun h => h4 h.2.2.2) g2 hB2 (hpz.trans p2))
    · exfalso; omega
  | succ m ih =>
    intro i g hm i0 i1 hx hpz h8 hcl
    have t202 : τ 202 = 48 := hC0.2.1 202 (by decide)
    have t723 : τ 723 = 55 := hC0.2.1 723 (by decide)
    have bn := sz_R_n1 hC0.1 t202
    have e202 : qz_I g 202 1 = qz_I h 202 1 := pz_n hC0.2.1 hpz 1
    refine ez_go (n := 2) (pc' := 23) (L' := [(1, .inl (i)), (0, .inr (.inr (some (723))))]) (st' := [.inr (.inr (some (723))), .inl (i)]) rfl ?_
    refine ez_gC (p := 202) (tg := 48) hx.1.1 t723 rfl rfl tq_55 rfl rfl (fun (t202 : _ = 48) => ?_)
    refine ez_gI hx.1.1 t202 rfl rfl tq_48 rfl rfl (fun (b1 : 1 ≤ qz_I g 202 1) (b1' : qz_I g 202 1 ≤ 513) => ?_)
    refine ez_icmp rfl rfl ⟨by first | omega | exact (sz_i32 _).1, by first | omega | exact (sz_i32 _).2⟩ ⟨by first | omega | exact (sz_i32 _).1, by first | omega | exact (sz_i32 _).2⟩ (fun (c2 : (qz_I g 202 1) ≤ (i)) => ?_) (fun (c2 : ¬((qz_I g 202 1) ≤ (i))) => ?_)
    · exfalso; omega
    · skip
      refine ez_go (n := 1) (pc' := 33) (L' := [(1, .inl (i)), (0, .inr (.inr (some (723))))]) (st' := [.inr (.inr (some (723)))]) rfl ?_
      refine ez_gC (p := 202) (tg := 48) hx.1.1 t723 rfl rfl tq_55 rfl rfl (fun (t202 : _ = 48) => ?_)
      refine ez_gC (p := 203) (tg := 49) hx.1.1 t202 rfl rfl tq_48 rfl rfl (fun (t203 : _ = 49) => ?_)
      refine ez_go (n := 1) (pc' := 40) (L' := [(1, .inl (i)), (0, .inr (.inr (some (723))))]) (st' := [.inl (i), .inr (.inr (some (203)))]) rfl ?_
      have n4 : 513 ≤ qz_N g 203 ∧ qz_N g 203 ≤ 513 := ez_len hx.1.1 t203 tq_49 rfl
      have y5 : 1 ≤ qz_I g 203 (i).toNat ∧ qz_I g 203 (i).toNat ≤ 1000000 := ez_aB hx.1.1 t203 tq_49 rfl rfl (by decide) (by omega) (by omega)
      have y5' : ((qz_P g 203 (i).toNat : Nat) : Int) + 1 = qz_I g 203 (i).toNat := by unfold qz_P; omega
      refine ez_aR hx.1.1 t203 rfl tq_49 rfl rfl (by omega) (by omega) (by omega) (fun (t3 : _ = 4) => ?_)
      refine ez_gR hx.1.1 t3 rfl rfl tq_4 rfl rfl (fun (t6 : _ = 3) (t6' : 1 ≤ qz_I g (qz_P g 203 (i).toNat) 1) => ?_)
      obtain ⟨at1, y0, y1⟩ := sz_first hx.1.2.2.1 i0 (show i < qz_I g 202 1 by omega)
      have ef : sz_f g i = sz_f h i := pz_f hC0 hpz i0 (by omega)
      rw [ef] at at1 y0 y1
      have e1 := (hx.1.2.2.2.1 _ i y0 y1 at1).1
      obtain ⟨x, ex⟩ : ∃ x, x = sz_f h i := ⟨_, rfl⟩
      rw [← ex] at at1 y0 y1 e1
      have eT : qz_P g (qz_P g 203 (i).toNat) 1 = T x := by show qz_P g (sz_p g i) 1 = T x; unfold qz_P; omega
      rw [eT]
      obtain ⟨tT, -, f3, f4⟩ := hx.1.2.2.2.2 x y0 y1
      refine ez_go (n := 2) (pc' := 46) (L' := [(2, .inr (.inr (some ((T x))))), (1, .inl (i)), (0, .inr (.inr (some (723))))]) (st' := [.inr (.inr (some ((T x))))]) rfl ?_
      refine ez_gN hx.1.1 tT rfl rfl tq_3 rfl rfl (fun (t7 : qz_I g ((T x)) 3 = 0) => ?_) (fun (t7 : _ = 5) (t7' : 1 ≤ qz_I g ((T x)) 3) => ?_)
      · skip
        refine ez_null0 rfl rfl ?_
        refine ez_go (n := 2) (pc' := 21) (L' := [(1, .inl (i + 1)), (2, .inr (.inr (some ((T x))))), (0, .inr (.inr (some (723))))]) (st' := []) rfl ?_
        refine ez_less [(1, .inl (i + 1)), (0, .inr (.inr (some (723))))] rfl ⟨rfl, rfl, trivial⟩ ?_
        refine ih (i + 1) g (by omega) (by omega) (by omega) hx hpz h8 (fun k k0 k1 hk => ?_)
        by_cases e : k = i
        · subst e
          rw [← ex] at hk ⊢
          have n1 := hx.2.2.1 x y0 y1 hk
          have b8 : 0 ≤ qz_I g (T x) 8 ∧ qz_I g (T x) 8 ≤ 2 := ez_fB (cl := 3) hx.1.1 tT tq_3 rfl rfl (by decide)
          obtain ⟨q, hq⟩ : ∃ q, (F x).2 = some q := by cases hq : (F x).2 with | none => exact absurd hq hk | some q => exact ⟨q, rfl⟩
          have f5 := (f4 q.1 q.2 hq).2.2.1
          omega
        · exact hcl k k0 (by omega) hk
      · skip
        refine ez_null1 rfl ?_
        refine ez_go (n := 1) (pc' := 53) (L' := [(2, .inr (.inr (some ((T x))))), (1, .inl (i)), (0, .inr (.inr (some (723))))]) (st' := [.inr (.inr (some ((T x))))]) rfl ?_
        refine ez_gI hx.1.1 tT rfl rfl tq_3 rfl rfl (fun (b8 : 0 ≤ qz_I g ((T x)) 8) (b8' : qz_I g ((T x)) 8 ≤ 2) => ?_)
        refine ez_if rfl rfl ⟨by first | omega | exact (sz_i32 _).1, by first | omega | exact (sz_i32 _).2⟩ (fun (c9 : (qz_I g ((T x)) 8) ≠ (0)) => ?_) (fun (c9 : ¬((qz_I g ((T x)) 8) ≠ (0))) => ?_)
        · skip
          refine ez_go (n := 2) (pc' := 21) (L' := [(1, .inl (i + 1)), (2, .inr (.inr (some ((T x))))), (0, .inr (.inr (some (723))))]) (st' := []) rfl ?_
          refine ez_less [(1, .inl (i + 1)), (0, .inr (.inr (some (723))))] rfl ⟨rfl, rfl, trivial⟩ ?_
          refine ih (i + 1) g (by omega) (by omega) (by omega) hx hpz h8 (fun k k0 k1 hk => ?_)
          by_cases e : k = i
          · subst e
            rw [← ex] at hk ⊢
            have n1 := hx.2.2.1 x y0 y1 hk
            have b8 : 0 ≤ qz_I g (T x) 8 ∧ qz_I g (T x) 8 ≤ 2 := ez_fB (cl := 3) hx.1.1 tT tq_3 rfl rfl (by decide)
            obtain ⟨q, hq⟩ : ∃ q, (F x).2 = some q := by cases hq : (F x).2 with | none => exact absurd hq hk | some q => exact ⟨q, rfl⟩
            have f5 := (f4 q.1 q.2 hq).2.2.1
            omega
          · exact hcl k k0 (by omega) hk
        · skip
          refine ez_go (n := 2) (pc' := 61) (L' := [(2, .inr (.inr (some ((T x))))), (1, .inl (i)), (0, .inr (.inr (some (723))))]) (st' := [.inr (.inr (some ((T x)))), .inr (.inr (some (723)))]) rfl ?_
          have hnx : (F x).2 ≠ none := fun w => by have := f3 w; omega
          obtain ⟨q, hq⟩ : ∃ q, (F x).2 = some q := by cases hq : (F x).2 with | none => exact absurd hq hnx | some q => exact ⟨q, rfl⟩
          refine ez_cv hx.1.1 t723 rfl rfl rfl tq_55 rfl rfl rfl (rd_expandFrom hw hS hXr hXs hXl hx y0 y1 (hS x q.1 q.2 hq).1 hnx (by omega) (fun hno g2 hB2 p2 => ez_K1 ?_) (fun g2 x2 p2 e2 v2 w2 => ez_K1 ?_))
          · skip
            refine ez_if rfl rfl ⟨by decide, by decide⟩ (fun (c10 : (0 : Int) ≠ (0)) => absurd c10 (by decide)) (fun _ => ?_)
            refine ez_go (n := 1) (pc' := 68) (L' := [(2, .inr (.inr (some ((T x))))), (1, .inl (i)), (0, .inr (.inr (some (723))))]) (st' := [.inl (0)]) rfl ?_
            exact ez_retZ rfl rfl (by decide) (k0 (fun h => hno ⟨h.2.1, h.2.2.1⟩) g2 hB2 (hpz.trans p2))
          · skip
            refine ez_if rfl rfl ⟨by decide, by decide⟩ (fun _ => ?_) (fun (c11 : ¬((1 : Int) ≠ (0))) => absurd c11 (by decide))
            refine ez_go (n := 2) (pc' := 21) (L' := [(1, .inl (i + 1)), (2, .inr (.inr (some ((T x))))), (0, .inr (.inr (some (723))))]) (st' := []) rfl ?_
            refine ez_less [(1, .inl (i + 1)), (0, .inr (.inr (some (723))))] rfl ⟨rfl, rfl, trivial⟩ ?_
            refine ih (i + 1) g2 (by omega) (by omega) (by omega) x2 (hpz.trans p2) (e2.trans h8) (fun k k0 k1 hk => ?_)
            by_cases e : k = i
            · subst e; rw [← ex]; exact w2
            · obtain ⟨-, z0, z1⟩ := sz_first hC0.2.2.1 k0 (by omega)
              exact (v2 _ z0 z1 hk).1 (hcl k k0 (by omega) hk)
theorem rd_prepare (hw : uz_wf F) (hXr : ∀ x ∈ Xs, 0 ≤ x ∧ x ≤ 1114111) (hXs : ∀ x, (F x).2 ≠ none → x ∈ Xs) (hXl : Xs.length ≤ 256) (hC0 : pz_C τ h T F E) (k1 : uz_S F E → ∀ g, xy τ T F E Xs g → pz τ h g → (∀ x, (F x).2 ≠ none → qz_I g (T x) 8 = 2) → pcn F E (qz_I g 723 8) → cP g F E → Q (.inl (some (ez_v (.inl 1))), g)) (k0 : ¬ uz_S F E → ∀ g, ez_B τ g → pz τ h g → Q (.inl (some (ez_v (.inl 0))), g)) : ez_W (d + 5) cm_129 0 [(0, .inr (.inr (some (723))))] [] h Q := by
  have t202 : τ 202 = 48 := hC0.2.1 202 (by decide)
  have t723 : τ 723 = 55 := hC0.2.1 723 (by decide)
  refine ez_go (n := 2) (pc' := 2) (L' := [(0, .inr (.inr (some (723))))]) (st' := [.inl (0), .inr (.inr (some (723)))]) rfl ?_
  refine ez_pf hC0.1 t723 rfl rfl tq_55 rfl rfl rfl rfl (ez_vdI rfl rfl (by omega) (by omega)) (fun hB1 w2 => ?_)
  refine ez_go (n := 2) (pc' := 7) (L' := [(0, .inr (.inr (some (723))))]) (st' := [.inl (0), .inr (.inr (some (723)))]) rfl ?_
  refine ez_pf hB1 t723 rfl rfl tq_55 rfl rfl rfl rfl (ez_vdI rfl rfl (by omega) (by omega)) (fun hB3 w4 => ?_)
  refine ez_go (n := 1) (pc' := 11) (L' := [(0, .inr (.inr (some (723))))]) (st' := [.inr (.inr (some (723)))]) rfl ?_
  have X3 := (pz_X hC0.2.1 (show 723 ≤ 723 by omega) (by omega)).1
  have p1 : pz τ h (dz_put (dz_put h 723 2 (ez_v (.inl (0)))) 723 8 (ez_v (.inl (0)))) := (pz_put (by omega) (by omega) X3).trans (pz_put (by omega) (by omega) X3)
  have hC1 := hC0.fr hB3 p1
  have u2 : qz_I (dz_put (dz_put h 723 2 (ez_v (.inl (0)))) 723 8 (ez_v (.inl (0)))) 723 2 = 0 := by rw [ez_put_I (by omega), w2]; rfl
  have u8 : qz_I (dz_put (dz_put h 723 2 (ez_v (.inl (0)))) 723 8 (ez_v (.inl (0)))) 723 8 = 0 := by rw [w4]; rfl
  generalize (dz_put (dz_put h 723 2 (ez_v (.inl (0)))) 723 8 (ez_v (.inl (0)))) = g1 at *
  refine ez_cv hC1.1 t723 rfl rfl rfl tq_55 rfl rfl rfl (rd_checkShapes hw hC1 (fun hS g2 hB2 p2 n3 n8 hv => ez_K1 ?_) (fun hS g2 hB2 p2 => ez_K1 ?_))
  · skip
    refine ez_if rfl rfl ⟨by decide, by decide⟩ (fun _ => ?_) (fun (c5 : ¬((1 : Int) ≠ (0))) => absurd c5 (by decide))
    refine ez_go (n := 2) (pc' := 21) (L' := [(1, .inl (0)), (0, .inr (.inr (some (723))))]) (st' := []) rfl ?_
    refine ez_less [(1, .inl (0)), (0, .inr (.inr (some (723))))] rfl ⟨rfl, rfl, trivial⟩ ?_
    have hC2 := hC1.fr hB2 p2
    have i723 : ∀ j, qz_I g2 723 j = qz_I g1 723 j := fun j => by unfold qz_I; rw [n3 723 X3]
    have hx : xy τ T F E Xs g2 := ⟨hC2, fun x x0 x1 hx h2 => (by rw [hv x hx] at h2; cases h2), fun x x0 x1 hx h2 => (by rw [hv x hx] at h2; cases h2), wz_one (wU_le g2 T) Xs, by rw [i723, u2]; have := wz_one (wN_le g2 T) Xs; omega⟩
    have bn := sz_R_n1 hC2.1 t202
    exact rd_prepare_l (h := g2) hw hS hXr hXs hXl hC2 (fun hSS g y1 y2 y3 y4 y5 => k1 hSS g y1 ((p1.trans p2).trans y2) y3 y4 y5) (fun hn g y1 y2 => k0 hn g y1 ((p1.trans p2).trans y2)) _ 0 g2 rfl (by omega) (by omega) hx (pz.refl _ _) (by rw [i723]; exact u8) (fun k k0 k1 => by omega)
  · skip
    refine ez_if rfl rfl ⟨by decide, by decide⟩ (fun (c6 : (0 : Int) ≠ (0)) => absurd c6 (by decide)) (fun _ => ?_)
    refine ez_go (n := 1) (pc' := 18) (L' := [(0, .inr (.inr (some (723))))]) (st' := [.inl (0)]) rfl ?_
    exact ez_retZ rfl rfl (by decide) (k0 (fun h => hS h.1) g2 hB2 (p1.trans p2))

end EzPp
