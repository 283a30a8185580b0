/-! Spans: tellFact. (Written by wip/p2/py/pv14.py.) -/
def sz_P4 (τ : Nat → Nat) (z : Nat) : Bool := Nat.beq (τ z) 4
theorem sz_P4_S {τ : Nat → Nat} {h g : cz_H} (hf : ez_fr (sz_P4 τ) h g) : ez_fr (sz_PS τ) h g := by
  refine ⟨hf.1, hf.2.1, fun z hz => hf.2.2 z ?_⟩
  unfold sz_PS at hz
  simp only [Bool.or_eq_false_iff] at hz
  exact hz.2.2
theorem sz_P4_p {τ : Nat → Nat} {h g : cz_H} (hf : ez_fr (sz_P4 τ) h g) (t203 : τ 203 = 49) (k : Int) : sz_p g k = sz_p h k := by
  unfold sz_p qz_P
  rw [hf.I (show sz_P4 τ 203 = false by unfold sz_P4; rw [t203]; rfl)]
theorem sz_P4_n {τ : Nat → Nat} {h g : cz_H} (hf : ez_fr (sz_P4 τ) h g) (t202 : τ 202 = 48) (j : Nat) : qz_I g 202 j = qz_I h 202 j := hf.I (show sz_P4 τ 202 = false by unfold sz_P4; rw [t202]; rfl) j
section EzTf
variable {d : Nat} {h : cz_H} {τ : Nat → Nat} {Q : cz_F → Prop} {r : Nat}
theorem rd_tellFact_l {a b first last : Int} (t202 : τ 202 = 48) (t203 : τ 203 = 49) (tr : τ r = 3) (hr : (r : Int) + 1 ≤ 1000000) (hinj : sz_inj h) (a0 : 0 ≤ a) (b1 : b ≤ 513) (kx : ∀ g, ez_B τ g → ez_fr (sz_P4 τ) h g → (∀ (k : Int) (j : Nat), 0 ≤ k → k < 513 → qz_I g (sz_p h k) j = if j = 1 ∧ a ≤ k ∧ k < b then (r : Int) + 1 else qz_I h (sz_p h k) j) → Q (.inl none, g)) : ∀ (m : Nat) (i : Int) (g : cz_H), m = (b - i).toNat → a ≤ i → i ≤ b → ez_B τ g → ez_fr (sz_P4 τ) h g → (∀ (k : Int) (j : Nat), 0 ≤ k → k < 513 → qz_I g (sz_p h k) j = if j = 1 ∧ a ≤ k ∧ k < i then (r : Int) + 1 else qz_I h (sz_p h k) j) → ez_W d cm_105 20 [(6, .inl (i)), (5, .inl (b)), (4, .inl (a)), (0, .inr (.inr (some (202)))), (1, .inl (first)), (2, .inl (last)), (3, .inr (.inr (some (r))))] [] g Q := by
  intro m
  induction m with
  | zero =>
    intro i g hm a1 a2 hB hf hv
    refine ez_go (n := 2) (pc' := 24) (L' := [(6, .inl (i)), (5, .inl (b)), (4, .inl (a)), (0, .inr (.inr (some (202)))), (1, .inl (first)), (2, .inl (last)), (3, .inr (.inr (some (r))))]) (st' := [.inl (b), .inl (i)]) rfl ?_
    refine ez_icmp rfl rfl ⟨by omega, by omega⟩ ⟨by omega, by omega⟩ (fun (c1 : (b) ≤ (i)) => ?_) (fun (c1 : ¬((b) ≤ (i))) => ?_)
    · skip
      exact ez_ret0 rfl rfl (kx g hB hf (by rw [show b = i by omega]; exact hv))
    · exfalso; omega
  | succ m ih =>
    intro i g hm a1 a2 hB hf hv
    refine ez_go (n := 2) (pc' := 24) (L' := [(6, .inl (i)), (5, .inl (b)), (4, .inl (a)), (0, .inr (.inr (some (202)))), (1, .inl (first)), (2, .inl (last)), (3, .inr (.inr (some (r))))]) (st' := [.inl (b), .inl (i)]) rfl ?_
    refine ez_icmp rfl rfl ⟨by omega, by omega⟩ ⟨by omega, by omega⟩ (fun (c1 : (b) ≤ (i)) => ?_) (fun (c1 : ¬((b) ≤ (i))) => ?_)
    · exfalso; omega
    · skip
      refine ez_go (n := 1) (pc' := 28) (L' := [(6, .inl (i)), (5, .inl (b)), (4, .inl (a)), (0, .inr (.inr (some (202)))), (1, .inl (first)), (2, .inl (last)), (3, .inr (.inr (some (r))))]) (st' := [.inr (.inr (some (202)))]) rfl ?_
      refine ez_gC (p := 203) (tg := 49) hB t202 rfl rfl tq_48 rfl rfl (fun (t203 : _ = 49) => ?_)
      refine ez_go (n := 1) (pc' := 33) (L' := [(6, .inl (i)), (5, .inl (b)), (4, .inl (a)), (0, .inr (.inr (some (202)))), (1, .inl (first)), (2, .inl (last)), (3, .inr (.inr (some (r))))]) (st' := [.inl (i), .inr (.inr (some (203)))]) rfl ?_
      have n3 : 513 ≤ qz_N g 203 ∧ qz_N g 203 ≤ 513 := ez_len hB t203 tq_49 rfl
      have y4 : 1 ≤ qz_I g 203 (i).toNat ∧ qz_I g 203 (i).toNat ≤ 1000000 := ez_aB hB t203 tq_49 rfl rfl (by decide) (by omega) (by omega)
      have y4' : ((qz_P g 203 (i).toNat : Nat) : Int) + 1 = qz_I g 203 (i).toNat := by unfold qz_P; omega
      refine ez_aR hB t203 rfl tq_49 rfl rfl (by omega) (by omega) (by omega) (fun (t2 : _ = 4) => ?_)
      refine ez_go (n := 1) (pc' := 35) (L' := [(6, .inl (i)), (5, .inl (b)), (4, .inl (a)), (0, .inr (.inr (some (202)))), (1, .inl (first)), (2, .inl (last)), (3, .inr (.inr (some (r))))]) (st' := [.inr (.inr (some (r))), .inr (.inr (some (qz_P g 203 (i).toNat)))]) rfl ?_
      refine ez_pf hB t2 rfl rfl tq_4 rfl rfl rfl rfl (ez_vdR rfl tr (by omega) (by omega)) (fun hB5 w6 => ?_)
      refine ez_go (n := 2) (pc' := 20) (L' := [(6, .inl (i + 1)), (5, .inl (b)), (4, .inl (a)), (0, .inr (.inr (some (202)))), (1, .inl (first)), (2, .inl (last)), (3, .inr (.inr (some (r))))]) (st' := []) rfl ?_
      refine ez_less [(6, .inl (i + 1)), (5, .inl (b)), (4, .inl (a)), (0, .inr (.inr (some (202)))), (1, .inl (first)), (2, .inl (last)), (3, .inr (.inr (some (r))))] rfl ⟨rfl, rfl, rfl, rfl, rfl, rfl, rfl, trivial⟩ ?_
      have hz : qz_P g 203 (i).toNat = sz_p h i := sz_P4_p hf t203 i
      have tz : τ (qz_P g 203 (i).toNat) = 4 := t2
      refine ih _ _ (by omega) (by omega) (by omega) hB5 (hf.put (show sz_P4 τ (qz_P g 203 (i).toNat) = true by unfold sz_P4; rw [tz]; rfl) _ _) (fun k j k0 k1 => ?_)
      by_cases e : k = i ∧ j = 1
      · obtain ⟨e1, e2⟩ := e
        subst e1; subst e2
        rw [if_pos (by omega), ← hz]; exact w6
      · rw [ez_put_I (fun w => e ⟨hinj k i k0 k1 (by omega) (by omega) (by rw [← hz]; exact w.1), w.2⟩), hv k j k0 k1]
        by_cases e2 : j = 1 ∧ a ≤ k ∧ k < i
        · rw [if_pos e2, if_pos (by omega)]
        · rw [if_neg e2, if_neg (by omega)]
theorem sz_mono {h : cz_H} (hs : sz_ok h) {i j : Int} (i0 : 0 ≤ i) (ij : i ≤ j) (jn : j < qz_I h 202 1) : sz_f h i ≤ sz_f h j := by
  by_cases e : i = j
  · rw [e]; exact Int.le_refl _
  · have := hs.2 i j i0 (by omega) jn; omega
/-- what tellFact does: of the points from first to last the fact is the new one, nothing else changes -/
def sz_told (τ : Nat → Nat) (h g : cz_H) (first last : Int) (r : Nat) : Prop := sz_ok g ∧ sz_inj g ∧ ez_fr (sz_PS τ) h g ∧ (∀ j, j ≠ 1 → qz_I g 202 j = qz_I h 202 j) ∧ qz_I g 202 1 ≤ qz_I h 202 1 + 2 ∧ ∀ x k, 0 ≤ x → x ≤ 1114111 → sz_at g x k → ∃ k', sz_at h x k' ∧ (∀ j, 2 ≤ j → j ≤ 8 → qz_I g (sz_p g k) j = qz_I h (sz_p h k') j) ∧ qz_I g (sz_p g k) 1 = if first ≤ x ∧ x ≤ last then (r : Int) + 1 else qz_I h (sz_p h k') 1
theorem sz_tell {τ : Nat → Nat} {h g1 g2 g3 : cz_H} {first last a b : Int} {r : Nat} (t202 : τ 202 = 48) (t203 : τ 203 = 49) (f0 : 0 ≤ first) (fl : first ≤ last) (l1 : last ≤ 1114111) (hn : qz_I h 202 1 + 2 ≤ 513)
    (x1 : ez_fr (sz_PS τ) h g1) (x2 : ∀ j, j ≠ 1 → qz_I g1 202 j = qz_I h 202 j) (x4 : qz_I g1 202 1 ≤ qz_I h 202 1 + 1) (x5 : ∀ x k, sz_at g1 x k → ∃ k', sz_at h x k' ∧ ∀ j, 1 ≤ j → j ≤ 8 → qz_I g1 (sz_p g1 k) j = qz_I h (sz_p h k') j) (x6 : 0 ≤ a ∧ a < qz_I g1 202 1 ∧ sz_f g1 a = first)
    (y0 : sz_ok g2) (yi : sz_inj g2) (y1 : ez_fr (sz_PS τ) g1 g2) (y2 : ∀ j, j ≠ 1 → qz_I g2 202 j = qz_I g1 202 j) (y3 : qz_I g1 202 1 ≤ qz_I g2 202 1) (y4 : qz_I g2 202 1 ≤ qz_I g1 202 1 + 1) (y5 : ∀ x k, sz_at g2 x k → ∃ k', sz_at g1 x k' ∧ ∀ j, 1 ≤ j → j ≤ 8 → qz_I g2 (sz_p g2 k) j = qz_I g1 (sz_p g1 k') j) (y6 : ∀ k, 0 ≤ k → k < qz_I g1 202 1 → sz_f g1 k ≤ last + 1 → sz_f g2 k = sz_f g1 k) (y7 : 1114111 < last + 1 → b = qz_I g2 202 1) (y8 : last + 1 ≤ 1114111 → qz_I g1 202 1 < 513 → 0 ≤ b ∧ b < qz_I g2 202 1 ∧ sz_f g2 b = last + 1)
    (z1 : ez_fr (sz_P4 τ) g2 g3) (z2 : ∀ (k : Int) (j : Nat), 0 ≤ k → k < 513 → qz_I g3 (sz_p g2 k) j = if j = 1 ∧ a ≤ k ∧ k < b then (r : Int) + 1 else qz_I g2 (sz_p g2 k) j) : sz_told τ h g3 first last r := by
  have n3 : ∀ j, qz_I g3 202 j = qz_I g2 202 j := fun j => sz_P4_n z1 t202 j
  have p3 : ∀ k, sz_p g3 k = sz_p g2 k := fun k => sz_P4_p z1 t203 k
  have f3 : ∀ k, 0 ≤ k → k < 513 → sz_f g3 k = sz_f g2 k := fun k k0 k1 => by
    unfold sz_f
    rw [p3, z2 k 0 k0 k1, if_neg (by omega)]
  have fa : sz_f g2 a = first := by rw [y6 a x6.1 x6.2.1 (by omega)]; exact x6.2.2
  refine ⟨⟨?_, ?_⟩, ?_, (x1.trans y1).trans (sz_P4_S z1), fun j hj => ((n3 j).trans (y2 j hj)).trans (x2 j hj), by rw [n3]; omega, ?_⟩
  · rw [f3 0 (by omega) (by omega)]; exact y0.1
  · intro i j i0 ij jn
    rw [n3] at jn
    rw [f3 i i0 (by omega), f3 j (by omega) (by omega)]
    exact y0.2 i j i0 ij jn
  · intro i j i0 i1 j0 j1 e
    rw [p3, p3] at e
    exact yi i j i0 i1 j0 j1 e
  · intro x k v0 v1 hk
    obtain ⟨k0, k1, k2, k3⟩ := hk
    rw [n3] at k1 k3
    rw [f3 k k0 (by omega)] at k2
    have k3 : k + 1 < qz_I g2 202 1 → x < sz_f g2 (k + 1) := fun w => by have := k3 w; rw [f3 (k + 1) (by omega) (by omega)] at this; exact this
    obtain ⟨k', w1, w2⟩ := y5 x k ⟨k0, k1, k2, k3⟩
    obtain ⟨k'', u1, u2⟩ := x5 x k' w1
    refine ⟨k'', u1, fun j j2 j8 => ?_, ?_⟩
    · rw [p3, z2 k j k0 (by omega), if_neg (by omega), w2 j (by omega) j8]
      exact u2 j (by omega) j8
    · rw [p3, z2 k 1 k0 (by omega)]
      have ha : a ≤ k ↔ first ≤ x := by
        constructor
        · intro w
          have := sz_mono y0 x6.1 w k1
          omega
        · intro w
          by_cases e : a ≤ k
          · exact e
          · exfalso
            have q1 := k3 (by omega)
            have q2 := sz_mono y0 (i := k + 1) (j := a) (by omega) (by omega) (by omega)
            omega
      have hb : k < b ↔ x ≤ last := by
        by_cases e : 1114111 < last + 1
        · have := y7 e
          constructor
          · intro _; omega
          · intro _; omega
        · obtain ⟨b0, b1, b2⟩ := y8 (by omega) (by omega)
          constructor
          · intro w
            have q1 := k3 (by omega)
            have q2 := sz_mono y0 (i := k + 1) (j := b) (by omega) (by omega) b1
            omega
          · intro w
            by_cases e2 : k < b
            · exact e2
            · exfalso
              have q2 := sz_mono y0 (i := b) (j := k) b0 (by omega) k1
              omega
      by_cases e : first ≤ x ∧ x ≤ last
      · rw [if_pos ⟨rfl, ha.mpr e.1, hb.mpr e.2⟩, if_pos e]
      · rw [if_neg (fun w => e ⟨ha.mp w.2.1, hb.mp w.2.2⟩), if_neg e, w2 1 (by omega) (by omega)]
        exact u2 1 (by omega) (by omega)
theorem rd_tellFact {first last : Int} (hB : ez_B τ h) (t202 : τ 202 = 48) (t203 : τ 203 = 49) (tr : τ r = 3) (hr : (r : Int) + 1 ≤ 1000000) (hs : sz_ok h) (hinj : sz_inj h) (f0 : 0 ≤ first) (fl : first ≤ last) (l1 : last ≤ 1114111) (hn : qz_I h 202 1 + 2 ≤ 513) (k : ∀ g, ez_B τ g → sz_told τ h g first last r → Q (.inl none, g)) : ez_W (d + 2) cm_105 0 [(0, .inr (.inr (some (202)))), (1, .inl (first)), (2, .inl (last)), (3, .inr (.inr (some (r))))] [] h Q := by
  refine ez_go (n := 2) (pc' := 2) (L' := [(0, .inr (.inr (some (202)))), (1, .inl (first)), (2, .inl (last)), (3, .inr (.inr (some (r))))]) (st' := [.inl (first), .inr (.inr (some (202)))]) rfl ?_
  refine ez_cv hB t202 rfl rfl rfl tq_48 rfl rfl rfl (rd_cutP hB t202 t203 hs hinj (by omega) (by omega) (fun g1 a hB1 s1 i1 x1 x2 x3 x4 x5 x55 x6 x7 x8 => ez_K1 ?_))
  refine ez_go (n := 5) (pc' := 11) (L' := [(4, .inl (a)), (0, .inr (.inr (some (202)))), (1, .inl (first)), (2, .inl (last)), (3, .inr (.inr (some (r))))]) (st' := [.inl ((last) + (1)), .inr (.inr (some (202)))]) rfl ?_
  refine ez_cv hB1 t202 rfl rfl rfl tq_48 rfl rfl rfl (rd_cutP hB1 t202 t203 s1 i1 (by omega) (by omega) (fun g2 b hB2 s2 i2 y1 y2 y3 y4 y5 y6 y7 y8 y9 => ez_K1 ?_))
  refine ez_go (n := 3) (pc' := 20) (L' := [(6, .inl (a)), (5, .inl (b)), (4, .inl (a)), (0, .inr (.inr (some (202)))), (1, .inl (first)), (2, .inl (last)), (3, .inr (.inr (some (r))))]) (st' := []) rfl ?_
  refine ez_less [(6, .inl (a)), (5, .inl (b)), (4, .inl (a)), (0, .inr (.inr (some (202)))), (1, .inl (first)), (2, .inl (last)), (3, .inr (.inr (some (r))))] rfl ⟨rfl, rfl, rfl, rfl, rfl, rfl, rfl, trivial⟩ ?_
  have x7 := x7 (by omega) (by omega)
  have fa : sz_f g2 a = first := by rw [y6 a x7.1 x7.2.1 (by omega)]; exact x7.2.2
  have hab : a ≤ b := by
    by_cases e : 1114111 < last + 1
    · have := y7 e; omega
    · obtain ⟨b0, b1, b2⟩ := y8 (by omega) (by omega)
      by_cases e2 : a ≤ b
      · exact e2
      · exfalso
        have := sz_mono s2 (i := b) (j := a) b0 (by omega) (by omega)
        omega
  exact rd_tellFact_l t202 t203 tr hr i2 x7.1 y9.2 (fun g3 hB3 z1 z2 => k g3 hB3 (sz_tell t202 t203 f0 fl l1 hn x1 x2 x4 x5 x7 s2 i2 y1 y2 y3 y4 y5 y6 y7 y8 z1 z2)) _ _ g2 rfl (by omega) hab hB2 (ez_fr.refl _ _) (fun k j _ _ => by rw [if_neg (by omega)])

end EzTf
