/-! The class while it seals. -/
/-- cells that sealing may change -/
def pz (τ : Nat → Nat) (h g : cz_H) : Prop := (g.1 = h.1 ∧ g.2.1 = h.2.1) ∧ (∀ q, τ q ≠ 3 → (q < 723 ∨ 728 < q) → g.2.2 q = h.2.2 q) ∧ ∀ q, τ q = 3 → ∀ j, j < 8 → qz_I g q j = qz_I h q j
theorem pz.refl (τ : Nat → Nat) (h : cz_H) : pz τ h h := ⟨⟨rfl, rfl⟩, fun _ _ _ => rfl, fun _ _ _ _ => rfl⟩
theorem pz.trans {τ : Nat → Nat} {h g k : cz_H} (a : pz τ h g) (b : pz τ g k) : pz τ h k := ⟨⟨b.1.1.trans a.1.1, b.1.2.trans a.1.2⟩, fun q q1 q2 => (b.2.1 q q1 q2).trans (a.2.1 q q1 q2), fun q q1 j j1 => (b.2.2 q q1 j j1).trans (a.2.2 q q1 j j1)⟩
theorem pz_fr {P : Nat → Bool} {τ : Nat → Nat} {h g : cz_H} (hf : ez_fr P h g) (hP : ∀ q, P q = true → 723 ≤ q ∧ q ≤ 728 ∧ τ q ≠ 3) : pz τ h g := by
  have hn : ∀ q, ¬(723 ≤ q ∧ q ≤ 728 ∧ τ q ≠ 3) → P q = false := fun q hq => by
    cases e : P q with
    | true => exact absurd (hP q e) hq
    | false => rfl
  exact ⟨⟨hf.1, hf.2.1⟩, fun q _ q2 => hf.2.2 q (hn q (fun w => by omega)), fun q q1 j _ => hf.I (hn q (fun w => w.2.2 q1)) j⟩
theorem pz_put3 {τ : Nat → Nat} {h : cz_H} {r i : Nat} {v : cz_V} (tr : τ r = 3) (hi : 8 ≤ i) : pz τ h (dz_put h r i v) := by
  refine ⟨⟨rfl, rfl⟩, fun q q1 _ => qz_put_at h r i v (fun e => by rw [e] at q1; exact q1 tr), fun q _ j j8 => ez_put_I (fun w => by omega)⟩
theorem pz_put {τ : Nat → Nat} {h : cz_H} {r i : Nat} {v : cz_V} (h1 : 723 ≤ r) (h2 : r ≤ 728) (hr : τ r ≠ 3) : pz τ h (dz_put h r i v) := by
  refine ⟨⟨rfl, rfl⟩, fun q _ q2 => qz_put_at h r i v (fun e => by omega), fun q q1 j _ => ez_put_I (fun w => by rw [w.1] at q1; exact hr q1)⟩
/-- a Fact of a point -/
def pz_F (τ : Nat → Nat) (g : cz_H) (r : Nat) (x : Int) (q : Int × Option (Int × List Int)) : Prop := τ r = 3 ∧ qz_I g r 2 = q.1 ∧ (q.2 = none → qz_I g r 3 = 0) ∧ ∀ cp vs, q.2 = some (cp, vs) → qz_I g r 0 = x ∧ qz_I g r 4 = cp ∧ 1 ≤ qz_I g r 3 ∧ τ (qz_P g r 3) = 5 ∧ qz_N g (qz_P g r 3) = (vs.length : Int) ∧ ∀ (j : Nat) v, vs[j]? = some v → qz_I g (qz_P g r 3) j = v
/-- where the fact of each point is -/
def pz_C (τ : Nat → Nat) (g : cz_H) (T : Int → Nat) (F : rz_W) (E : Int → Prop) : Prop := ez_B τ g ∧ jz_X τ ∧ sz_ok g ∧ (∀ x k, 0 ≤ x → x ≤ 1114111 → sz_at g x k → qz_I g (sz_p g k) 1 = (T x : Int) + 1 ∧ (sz_t0 (qz_I g (sz_p g k) 2) ↔ E x)) ∧ ∀ x, 0 ≤ x → x ≤ 1114111 → pz_F τ g (T x) x (F x)
theorem pz_X {τ : Nat → Nat} (hX : jz_X τ) {q : Nat} (h1 : 723 ≤ q) (h2 : q ≤ 728) : τ q ≠ 3 ∧ τ q ≠ 4 ∧ τ q ≠ 5 := by
  have : q = 723 ∨ q = 724 ∨ q = 725 ∨ q = 726 ∨ q = 727 ∨ q = 728 := by omega
  rcases this with rfl | rfl | rfl | rfl | rfl | rfl <;> (rw [hX _ (by decide)]; decide)
theorem sz_ok_tr {τ : Nat → Nat} {h g : cz_H} (hB : ez_B τ h) (t203 : τ 203 = 49) (t202 : τ 202 = 48) (e2 : qz_I g 202 1 = qz_I h 202 1) (e3 : g.2.2 203 = h.2.2 203) (e4 : ∀ q, τ q = 4 → g.2.2 q = h.2.2 q) (hs : sz_ok h) : sz_ok g := by
  have bn := sz_R_n1 hB t202
  have hp : ∀ k, sz_p g k = sz_p h k := fun k => by unfold sz_p qz_P qz_I; rw [e3]
  have hss : ∀ k, 0 ≤ k → k < 513 → ∀ j, qz_I g (sz_p g k) j = qz_I h (sz_p h k) j := fun k k0 k1 j => by
    rw [hp]
    unfold qz_I
    rw [e4 _ (sz_tag hB t203 k0 k1)]
  refine ⟨?_, fun i j i0 ij jn => ?_⟩
  · unfold sz_f; rw [hss 0 (by omega) (by omega)]; exact hs.1
  · rw [e2] at jn
    unfold sz_f
    rw [hss i i0 (by omega), hss j (by omega) (by omega)]
    exact hs.2 i j i0 ij jn
theorem pz_C.fr {τ : Nat → Nat} {h g : cz_H} {T : Int → Nat} {F : rz_W} {E : Int → Prop} (hC : pz_C τ h T F E) (hB : ez_B τ g) (x : pz τ h g) : pz_C τ g T F E := by
  obtain ⟨c1, c2, c3, c4, c5⟩ := hC
  have t202 : τ 202 = 48 := c2 202 (by decide)
  have t203 : τ 203 = 49 := c2 203 (by decide)
  have e202 := x.2.1 202 (by rw [t202]; decide) (by omega)
  have e203 := x.2.1 203 (by rw [t203]; decide) (by omega)
  have out : ∀ q, τ q = 4 ∨ τ q = 5 → q < 723 ∨ 728 < q := fun q hq => by
    by_cases e : 723 ≤ q ∧ q ≤ 728
    · have := pz_X c2 e.1 e.2; omega
    · omega
  have e4 : ∀ q, τ q = 4 → g.2.2 q = h.2.2 q := fun q hq => x.2.1 q (by rw [hq]; decide) (out q (Or.inl hq))
  have e5 : ∀ q, τ q = 5 → g.2.2 q = h.2.2 q := fun q hq => x.2.1 q (by rw [hq]; decide) (out q (Or.inr hq))
  obtain ⟨a1, a2, a3⟩ := sz_same c1 t203 t202 e202 e203 e4
  have bn := sz_R_n1 c1 t202
  refine ⟨hB, c2, (sz_ok_tr c1 t203 t202 (a3 1) e203 e4 c3), fun y k y0 y1 hk => ?_, fun y y0 y1 => ?_⟩
  · have k0 := hk.1
    have k1 := hk.2.1
    rw [a3] at k1
    have hk' : sz_at h y k := by
      obtain ⟨d0, d1, d2, d3⟩ := hk
      rw [a3] at d1 d3
      unfold sz_f at d2 d3
      refine ⟨d0, d1, ?_, fun w => ?_⟩
      · unfold sz_f; rw [← a2 k d0 (by omega)]; exact d2
      · unfold sz_f; rw [← a2 (k + 1) (by omega) (by omega)]; exact d3 w
    rw [a2 k k0 (by omega), a2 k k0 (by omega)]
    exact c4 y k y0 y1 hk'
  · obtain ⟨f1, f2, f3, f4⟩ := c5 y y0 y1
    have e3 : ∀ j, j < 8 → qz_I g (T y) j = qz_I h (T y) j := fun j hj => x.2.2 _ f1 j hj
    have ep : qz_P g (T y) 3 = qz_P h (T y) 3 := by unfold qz_P; rw [e3 3 (by decide)]
    refine ⟨f1, by rw [e3 2 (by decide)]; exact f2, fun w => by rw [e3 3 (by decide)]; exact f3 w, fun cp vs w => ?_⟩
    obtain ⟨g0, g1, g2, g3, g4, g5⟩ := f4 cp vs w
    rw [e3 0 (by decide), e3 4 (by decide), e3 3 (by decide), ep]
    refine ⟨g0, g1, g2, g3, ?_, fun j v hj => ?_⟩
    · unfold qz_N; rw [e5 _ g3]; exact g4
    · unfold qz_I; rw [e5 _ g3]; exact g5 j v hj
/-- the span of a point -/
def sz_ixn (h : cz_H) (x : Int) : Nat → Int
  | 0 => 0
  | n + 1 => if sz_f h (n : Int) ≤ x then (n : Int) else sz_ixn h x n
theorem sz_ixn_ok {h : cz_H} {x : Int} (hs : sz_ok h) (x0 : 0 ≤ x) : ∀ n : Nat, (n : Int) ≤ qz_I h 202 1 → 1 ≤ n → (0 ≤ sz_ixn h x n ∧ sz_ixn h x n < (n : Int)) ∧ sz_f h (sz_ixn h x n) ≤ x ∧ (sz_ixn h x n + 1 < (n : Int) → x < sz_f h (sz_ixn h x n + 1))
  | 0, _, h1 => by omega
  | n + 1, hn, _ => by
    unfold sz_ixn
    by_cases e : sz_f h (n : Int) ≤ x
    · rw [if_pos e]
      exact ⟨⟨by omega, by omega⟩, e, fun w => by omega⟩
    · rw [if_neg e]
      by_cases e0 : n = 0
      · subst e0
        have := hs.1
        exact absurd (show sz_f h ((0 : Nat) : Int) ≤ x by show sz_f h 0 ≤ x; omega) e
      · obtain ⟨⟨a0, a1⟩, a2, a3⟩ := sz_ixn_ok hs x0 n (by omega) (by omega)
        refine ⟨⟨a0, by omega⟩, a2, fun w => ?_⟩
        by_cases e2 : sz_ixn h x n + 1 < (n : Int)
        · exact a3 e2
        · rw [show sz_ixn h x n + 1 = (n : Int) by omega]; omega
theorem sz_at_ex {h : cz_H} {x : Int} (hs : sz_ok h) (hn : 1 ≤ qz_I h 202 1) (x0 : 0 ≤ x) : ∃ k, sz_at h x k := by
  obtain ⟨a, b, c⟩ := sz_ixn_ok hs x0 (qz_I h 202 1).toNat (by omega) (by omega)
  exact ⟨_, a.1, by omega, b, fun w => c (by omega)⟩
theorem sz_at_uniq {h : cz_H} {x k k' : Int} (hs : sz_ok h) (a : sz_at h x k) (b : sz_at h x k') : k = k' := by
  obtain ⟨a0, a1, a2, a3⟩ := a
  obtain ⟨b0, b1, b2, b3⟩ := b
  by_cases e : k < k'
  · exfalso
    have h1 := a3 (by omega)
    by_cases e2 : k + 1 = k'
    · rw [e2] at h1; omega
    · have := hs.2 (k + 1) k' (by omega) (by omega) b1; omega
  · by_cases e' : k' < k
    · exfalso
      have h1 := b3 (by omega)
      by_cases e2 : k' + 1 = k
      · rw [e2] at h1; omega
      · have := hs.2 (k' + 1) k (by omega) (by omega) a1; omega
    · omega
theorem pz_C_of {τ : Nat → Nat} {h : cz_H} {F : rz_W} {E : Int → Prop} (hI : jz_I τ h F E) : ∃ T, pz_C τ h T F E := by
  obtain ⟨i1, i2, ⟨i3, i4⟩, i5, i6, i7, i8, i9⟩ := hI
  have t202 : τ 202 = 48 := i2 202 (by decide)
  have t203 : τ 203 = 49 := i2 203 (by decide)
  have bn := sz_R_n1 i1 t202
  refine ⟨fun x => sz_fp h (sz_ixn h x (qz_I h 202 1).toNat), i1, i2, i3, fun x k x0 x1 hk => ?_, fun x x0 x1 => ?_⟩
  · obtain ⟨a, b, c⟩ := sz_ixn_ok i3 x0 (qz_I h 202 1).toNat (by omega) (by omega)
    have e : k = sz_ixn h x (qz_I h 202 1).toNat := sz_at_uniq i3 hk ⟨a.1, by omega, b, fun w => c (by omega)⟩
    refine ⟨?_, (i8 x k x0 x1 hk).2⟩
    show qz_I h (sz_p h k) 1 = (sz_fp h (sz_ixn h x (qz_I h 202 1).toNat) : Int) + 1
    rw [← e]
    exact (sz_fp_t i1 t202 t203 hk).2.2
  · obtain ⟨a, b, c⟩ := sz_ixn_ok i3 x0 (qz_I h 202 1).toNat (by omega) (by omega)
    have hk : sz_at h x (sz_ixn h x (qz_I h 202 1).toNat) := ⟨a.1, by omega, b, fun w => c (by omega)⟩
    obtain ⟨⟨d1, d2, d3⟩, -⟩ := i8 x _ x0 x1 hk
    refine ⟨(sz_fp_t i1 t202 t203 hk).2.1, d1, fun w => ?_, fun cp vs w => ?_⟩
    · rw [w] at d2; exact d2
    · rw [w] at d2
      obtain ⟨p, p1, p2, p3, p4, p5⟩ := d2
      have ep : qz_P h (sz_fp h (sz_ixn h x (qz_I h 202 1).toNat)) 3 = p := by unfold qz_P; omega
      rw [ep]
      exact ⟨d3 (by rw [w]; exact fun e => by cases e), p3, (by show 1 ≤ qz_I h (sz_fp h (sz_ixn h x (qz_I h 202 1).toNat)) 3; omega), p1, p4, p5⟩
