/-! Spans: what a cut leaves as it was. -/
/-- the cut's outcome: a span more behind number i, beginning with p -/
def sz_cut (h g : cz_H) (p i : Int) (q : Nat) : Prop := sz_at h p i ∧ sz_f h i ≠ p ∧ qz_I h 202 1 < 513 ∧ q = sz_p h (qz_I h 202 1) ∧ ez_fr (sz_P3 q) h g ∧ qz_I g 202 1 = qz_I h 202 1 + 1 ∧ (∀ k : Int, 0 ≤ k → qz_I g 203 k.toNat = if k = i + 1 then (q : Int) + 1 else if i + 1 < k ∧ k ≤ qz_I h 202 1 then qz_I h 203 (k - 1).toNat else qz_I h 203 k.toNat) ∧ qz_I g q 0 = p ∧ ∀ j, 1 ≤ j → j ≤ 8 → qz_I g q j = qz_I h (sz_p h i) j
section SzCut
variable {h g : cz_H} {p i : Int} {q : Nat} {τ : Nat → Nat}
theorem sz_cut.pl (c : sz_cut h g p i q) {k : Int} (k0 : 0 ≤ k) : sz_p g k = if k = i + 1 then q else if i + 1 < k ∧ k ≤ qz_I h 202 1 then sz_p h (k - 1) else sz_p h k := by
  obtain ⟨-, -, -, -, -, -, c7, -⟩ := c
  unfold sz_p qz_P
  rw [c7 k k0]
  by_cases e : k = i + 1
  · rw [if_pos e, if_pos e]; omega
  · rw [if_neg e, if_neg e]
    by_cases e2 : i + 1 < k ∧ k ≤ qz_I h 202 1
    · rw [if_pos e2, if_pos e2]
    · rw [if_neg e2, if_neg e2]
/-- a span's slots, but for the new one's -/
theorem sz_cut.sl (hB : ez_B τ h) (t202 : τ 202 = 48) (t203 : τ 203 = 49) (ts : ∀ k : Int, 0 ≤ k → k < 513 → τ (sz_p h k) = 4) (hinj : sz_inj h) (c : sz_cut h g p i q) {k : Int} (k0 : 0 ≤ k) (k1 : k < 513) (kn : k ≠ qz_I h 202 1) (j : Nat) : qz_I g (sz_p h k) j = qz_I h (sz_p h k) j := by
  obtain ⟨⟨a1, a2, -⟩, -, c3, c4, c5, -⟩ := c
  refine c5.I ?_ j
  have tk := ts k k0 k1
  have n1 : Nat.beq (sz_p h k) 202 = false := dz_beq_ne (fun e => by rw [e, t202] at tk; cases tk)
  have n2 : Nat.beq (sz_p h k) 203 = false := dz_beq_ne (fun e => by rw [e, t203] at tk; cases tk)
  have n3 : Nat.beq (sz_p h k) q = false := dz_beq_ne (fun e => by rw [c4] at e; exact kn (hinj k _ k0 k1 (by omega) c3 e))
  unfold sz_P3
  rw [n1, n2, n3]
  rfl
/-- where span number k of the new ones was -/
def sz_old (i k : Int) : Int := if k ≤ i then k else k - 1
theorem sz_cut.f (hB : ez_B τ h) (t202 : τ 202 = 48) (t203 : τ 203 = 49) (ts : ∀ k : Int, 0 ≤ k → k < 513 → τ (sz_p h k) = 4) (hinj : sz_inj h) (c : sz_cut h g p i q) {k : Int} (k0 : 0 ≤ k) (k1 : k ≤ qz_I h 202 1) (kn : k ≠ i + 1) : sz_p g k = sz_p h (sz_old i k) ∧ ∀ j, qz_I g (sz_p g k) j = qz_I h (sz_p h (sz_old i k)) j := by
  have hp := c.pl k0
  rw [if_neg kn] at hp
  have hi := c.1.1
  have hin := c.1.2.1
  have c3 := c.2.2.1
  have e : sz_p g k = sz_p h (sz_old i k) := by
    rw [hp]
    unfold sz_old
    by_cases e2 : k ≤ i
    · rw [if_pos e2, if_neg (by omega)]
    · rw [if_neg e2, if_pos (by omega)]
  refine ⟨e, fun j => ?_⟩
  rw [e]
  refine c.sl hB t202 t203 ts hinj ?_ ?_ ?_ j <;> (unfold sz_old; split <;> omega)
theorem sz_cut.ok (hB : ez_B τ h) (t202 : τ 202 = 48) (t203 : τ 203 = 49) (ts : ∀ k : Int, 0 ≤ k → k < 513 → τ (sz_p h k) = 4) (hinj : sz_inj h) (hs : sz_ok h) (c : sz_cut h g p i q) : sz_ok g ∧ sz_inj g := by
  have hi := c.1.1
  have hin := c.1.2.1
  have hfp := c.1.2.2.1
  have hnx := c.1.2.2.2
  have hne := c.2.1
  have c3 := c.2.2.1
  have c4 := c.2.2.2.1
  have c6 := c.2.2.2.2.2.1
  have c8 := c.2.2.2.2.2.2.2.1
  have fo : ∀ k, 0 ≤ k → k ≤ qz_I h 202 1 → k ≠ i + 1 → sz_f g k = sz_f h (sz_old i k) := fun k k0 k1 kn => (c.f hB t202 t203 ts hinj k0 k1 kn).2 0
  have fn : sz_f g (i + 1) = p := by
    have := c.pl (k := i + 1) (by omega)
    rw [if_pos rfl] at this
    unfold sz_f
    rw [this]; exact c8
  refine ⟨⟨?_, ?_⟩, ?_⟩
  · rw [fo 0 (by omega) (by omega) (by omega)]
    unfold sz_old
    rw [if_pos hi]; exact hs.1
  · intro a b a0 ab bn
    rw [c6] at bn
    by_cases ea : a = i + 1
    · rw [ea, fn, fo b (by omega) (by omega) (by omega)]
      unfold sz_old
      rw [if_neg (by omega)]
      by_cases eb : b - 1 = i + 1
      · rw [eb]; exact hnx (by omega)
      · have := hs.2 (i + 1) (b - 1) (by omega) (by omega) (by omega)
        have := hnx (by omega)
        omega
    · by_cases eb : b = i + 1
      · rw [eb, fn, fo a a0 (by omega) ea]
        unfold sz_old
        rw [if_pos (by omega)]
        by_cases e2 : a = i
        · rw [e2]; omega
        · have := hs.2 a i a0 (by omega) (by omega); omega
      · rw [fo a a0 (by omega) ea, fo b (by omega) (by omega) eb]
        refine hs.2 _ _ ?_ ?_ ?_
        · unfold sz_old; split <;> omega
        · unfold sz_old; split <;> split <;> omega
        · unfold sz_old; split <;> omega
  · intro a b a0 a1 b0 b1 e
    have ha := c.pl a0
    have hb := c.pl b0
    have hq : ∀ k : Int, 0 ≤ k → k < 513 → sz_p h k = q → k = qz_I h 202 1 := fun k k0 k1 w => by rw [c4] at w; exact hinj k _ k0 k1 (by omega) c3 w
    rw [e, hb] at ha
    by_cases ea : a = i + 1
    · rw [if_pos ea] at ha
      by_cases eb : b = i + 1
      · omega
      · rw [if_neg eb] at ha
        exfalso
        by_cases e2 : i + 1 < b ∧ b ≤ qz_I h 202 1
        · rw [if_pos e2] at ha; have := hq _ (by omega) (by omega) ha; omega
        · rw [if_neg e2] at ha; have := hq _ b0 b1 ha; omega
    · rw [if_neg ea] at ha
      by_cases eb : b = i + 1
      · rw [if_pos eb] at ha
        exfalso
        by_cases e2 : i + 1 < a ∧ a ≤ qz_I h 202 1
        · rw [if_pos e2] at ha; have := hq _ (by omega) (by omega) ha.symm; omega
        · rw [if_neg e2] at ha; have := hq _ a0 a1 ha.symm; omega
      · rw [if_neg eb] at ha
        by_cases e2 : i + 1 < a ∧ a ≤ qz_I h 202 1
        · rw [if_pos e2] at ha
          by_cases e3 : i + 1 < b ∧ b ≤ qz_I h 202 1
          · rw [if_pos e3] at ha; have := hinj _ _ (by omega) (by omega) (by omega) (by omega) ha; omega
          · rw [if_neg e3] at ha; have := hinj _ _ b0 b1 (by omega) (by omega) ha; omega
        · rw [if_neg e2] at ha
          by_cases e3 : i + 1 < b ∧ b ≤ qz_I h 202 1
          · rw [if_pos e3] at ha; have := hinj _ _ (by omega) (by omega) a0 a1 ha; omega
          · rw [if_neg e3] at ha; exact (hinj _ _ b0 b1 a0 a1 ha).symm
/-- of every point the same is told as before -/
theorem sz_cut.same (hB : ez_B τ h) (t202 : τ 202 = 48) (t203 : τ 203 = 49) (ts : ∀ k : Int, 0 ≤ k → k < 513 → τ (sz_p h k) = 4) (hinj : sz_inj h) (hs : sz_ok h) (c : sz_cut h g p i q) {x k : Int} (hk : sz_at g x k) : ∃ k', sz_at h x k' ∧ ∀ j, 1 ≤ j → j ≤ 8 → qz_I g (sz_p g k) j = qz_I h (sz_p h k') j := by
  have hi := c.1.1
  have hin := c.1.2.1
  have hfp := c.1.2.2.1
  have hnx := c.1.2.2.2
  have hne := c.2.1
  have c3 := c.2.2.1
  have c6 := c.2.2.2.2.2.1
  have c8 := c.2.2.2.2.2.2.2.1
  have c9 := c.2.2.2.2.2.2.2.2
  have fo : ∀ k, 0 ≤ k → k ≤ qz_I h 202 1 → k ≠ i + 1 → sz_f g k = sz_f h (sz_old i k) := fun k k0 k1 kn => (c.f hB t202 t203 ts hinj k0 k1 kn).2 0
  have pn : sz_p g (i + 1) = q := by
    have := c.pl (k := i + 1) (by omega)
    rw [if_pos rfl] at this; exact this
  have fn : sz_f g (i + 1) = p := by unfold sz_f; rw [pn]; exact c8
  obtain ⟨k0, k1, k2, k3⟩ := hk
  rw [c6] at k1 k3
  by_cases e : k = i + 1
  · refine ⟨i, ⟨hi, hin, ?_, fun w => ?_⟩, fun j j1 j8 => ?_⟩
    · rw [e, fn] at k2; omega
    · have := k3 (by omega)
      rw [e, fo (i + 1 + 1) (by omega) (by omega) (by omega)] at this
      unfold sz_old at this
      rw [if_neg (by omega), show i + 1 + 1 - 1 = i + 1 by omega] at this
      exact this
    · rw [e, pn]; exact c9 j j1 j8
  · refine ⟨sz_old i k, ⟨?_, ?_, ?_, fun w => ?_⟩, fun j _ _ => (c.f hB t202 t203 ts hinj k0 (by omega) e).2 j⟩
    · unfold sz_old; split <;> omega
    · unfold sz_old; split <;> omega
    · rw [fo k k0 (by omega) e] at k2; exact k2
    · by_cases e2 : k ≤ i
      · have ho : sz_old i k = k := by unfold sz_old; rw [if_pos e2]
        rw [ho] at w ⊢
        have := k3 (by omega)
        by_cases e3 : k = i
        · rw [e3, fn] at this
          rw [e3]
          have := hnx (by rw [e3] at w; exact w)
          omega
        · rw [fo (k + 1) (by omega) (by omega) (by omega)] at this
          unfold sz_old at this
          rw [if_pos (by omega)] at this; exact this
      · have ho : sz_old i k = k - 1 := by unfold sz_old; rw [if_neg e2]
        rw [ho] at w ⊢
        have := k3 (by omega)
        rw [fo (k + 1) (by omega) (by omega) (by omega)] at this
        unfold sz_old at this
        rw [if_neg (by omega)] at this
        rw [show k - 1 + 1 = k + 1 - 1 by omega]; exact this
end SzCut
