/-! Spans: cutBefore in one. -/
theorem sz_tag {τ : Nat → Nat} {h : cz_H} (hB : ez_B τ h) (t203 : τ 203 = 49) {k : Int} (k0 : 0 ≤ k) (k1 : k < 513) : τ (sz_p h k) = 4 := by
  obtain ⟨n, f, -, -, o3, o4, -, o6⟩ := ez_arr hB t203 tq_49 rfl rfl
  have o4 : (513 : Int) ≤ qz_N h 203 ∧ qz_N h 203 ≤ 513 := o4
  rw [o3] at o4
  obtain ⟨g1, g2⟩ := o6 k.toNat (by omega)
  have hb := ez_slB g1 g2 (by decide)
  have hb : (1 : Int) ≤ qz_I h 203 k.toNat ∧ qz_I h 203 k.toNat ≤ 1000000 := hb
  exact (ez_slR g1 g2 rfl (by decide) hb.1).2.1
/-- Data, its array of spans, the spans -/
def sz_PS (τ : Nat → Nat) (z : Nat) : Bool := Nat.beq z 202 || (Nat.beq z 203 || Nat.beq (τ z) 4)
theorem sz_PS_of {τ : Nat → Nat} {q : Nat} (tq : τ q = 4) {h g : cz_H} (hf : ez_fr (sz_P3 q) h g) : ez_fr (sz_PS τ) h g := by
  refine ⟨hf.1, hf.2.1, fun z hz => hf.2.2 z ?_⟩
  unfold sz_PS at hz
  simp only [Bool.or_eq_false_iff] at hz
  unfold sz_P3
  have : Nat.beq z q = false := dz_beq_ne (fun e => by rw [e, tq] at hz; exact absurd hz.2.2 (by decide))
  rw [hz.1, hz.2.1, this]
  rfl
theorem rd_cutP {d : Nat} {h : cz_H} {τ : Nat → Nat} {Q : cz_F → Prop} {p : Int} (hB : ez_B τ h) (t202 : τ 202 = 48) (t203 : τ 203 = 49) (hs : sz_ok h) (hinj : sz_inj h) (p0 : 0 ≤ p) (p1 : p ≤ 2147483647) (k : ∀ g m, ez_B τ g → sz_ok g → sz_inj g → ez_fr (sz_PS τ) h g → (∀ j, j ≠ 1 → qz_I g 202 j = qz_I h 202 j) → qz_I h 202 1 ≤ qz_I g 202 1 → qz_I g 202 1 ≤ qz_I h 202 1 + 1 → (∀ x k, sz_at g x k → ∃ k', sz_at h x k' ∧ ∀ j, 1 ≤ j → j ≤ 8 → qz_I g (sz_p g k) j = qz_I h (sz_p h k') j) → (∀ k, 0 ≤ k → k < qz_I h 202 1 → sz_f h k ≤ p → sz_f g k = sz_f h k) → (1114111 < p → m = qz_I g 202 1) → (p ≤ 1114111 → qz_I h 202 1 < 513 → 0 ≤ m ∧ m < qz_I g 202 1 ∧ sz_f g m = p) → (0 ≤ m ∧ m ≤ 513) → Q (.inl (some (ez_v (.inl m))), g)) : ez_W (d + 1) cm_97 0 [(0, .inr (.inr (some (202)))), (1, .inl (p))] [] h Q := by
  have bn : 1 ≤ qz_I h 202 1 ∧ qz_I h 202 1 ≤ 513 := ez_fB (cl := 2) hB t202 tq_48 rfl rfl (by decide)
  refine rd_cutBefore hB t202 hs hinj p0 p1 (fun w => ?_) (fun i hi w hor => ?_) (fun g i q hi w hne hn hq hB1 hf v1 v2 v3 v4 v5 => ?_)
  · exact k h _ hB hs hinj (ez_fr.refl _ h) (fun _ _ => rfl) (Int.le_refl _) (by omega) (fun x k hk => ⟨k, hk, fun _ _ _ => rfl⟩) (fun _ _ _ _ => rfl) (fun _ => rfl) (fun w2 => by omega) (by omega)
  · exact k h i hB hs hinj (ez_fr.refl _ h) (fun _ _ => rfl) (Int.le_refl _) (by omega) (fun x k hk => ⟨k, hk, fun _ _ _ => rfl⟩) (fun _ _ _ _ => rfl) (fun w2 => by omega) (fun _ hn => ⟨hi.1, hi.2.1, by rcases hor with r | r; (· exact r); (· omega)⟩) (by have := hi.1; have := hi.2.1; omega)
  · have c : sz_cut h g p i q := ⟨hi, hne, hn, hq, hf, v1, v3, v4, v5⟩
    have ts : ∀ k : Int, 0 ≤ k → k < 513 → τ (sz_p h k) = 4 := fun k k0 k1 => sz_tag hB t203 k0 k1
    have tq : τ q = 4 := by rw [hq]; exact ts _ (by omega) hn
    obtain ⟨o1, o2⟩ := c.ok hB t202 t203 ts hinj hs
    have hi0 := hi.1
    have hi1 := hi.2.1
    have pn : sz_p g (i + 1) = q := by
      have := c.pl (k := i + 1) (by omega)
      rw [if_pos rfl] at this; exact this
    have fn : sz_f g (i + 1) = p := by unfold sz_f; rw [pn]; exact v4
    refine k g _ hB1 o1 o2 (sz_PS_of tq hf) v2 (by omega) (by omega) (fun x k hk => c.same hB t202 t203 ts hinj hs hk) (fun k k0 k1 kp => ?_) (fun w2 => by omega) (fun _ _ => ⟨by omega, by omega, fn⟩) (by omega)
    have hki : k ≤ i := by
      by_cases e : k ≤ i
      · exact e
      · exfalso
        have h1 := hi.2.2.2 (by omega)
        by_cases e2 : k = i + 1
        · rw [e2] at kp; omega
        · have := hs.2 (i + 1) k (by omega) (by omega) k1; omega
    have := (c.f hB t202 t203 ts hinj k0 (by omega) (by omega)).2 0
    unfold sz_old at this
    rw [if_pos hki] at this
    exact this
