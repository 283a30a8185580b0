/-! The model: rows that are made. -/
/-- what is made -/
def tm (h : cz_H) (l : List Int) : Prop := qz_I h 770 30 = (l.length : Int) ∧ ∀ (j : Nat) v, l[j]? = some v → qz_I h 796 j = v
/-- points with their ranks in the model's arrays -/
def prm (h : cz_H) (L : List (Int × Int)) : Prop := ∀ (j : Nat) x, L[j]? = some x → qz_I h 796 j = x.1 ∧ qz_I h 798 j = x.2
/-- what making leaves as it was -/
def nk (τ : Nat → Nat) (h : cz_H) (τ1 : Nat → Nat) (g : cz_H) : Prop :=
  (∀ q, τ q ≠ 0 → τ1 q = τ q ∧ (q ≠ 770 → q ≠ 794 → τ q ≠ 83 → τ q ≠ 85 → τ q ≠ 21 → g.2.2 q = h.2.2 q)) ∧ (∀ q, τ q = 0 → τ1 q ≠ 0 → τ1 q = 21) ∧
  (∀ j, j ≠ 24 → j ≠ 25 → j ≠ 30 → qz_I g 770 j = qz_I h 770 j) ∧ qz_N h (sk h) ≤ qz_N g (sk g) ∧ ((g.2.1 : Int) - h.2.1 ≤ 2 * (qz_N g (sk g) - qz_N h (sk h)) ∧ 64 * ((g.1 : Int) - h.1) ≤ qz_N g (sk g) - qz_N h (sk h)) ∧ (h.1 ≤ g.1 ∧ h.2.1 ≤ g.2.1)
theorem nk.refl (τ : Nat → Nat) (h : cz_H) : nk τ h τ h := ⟨fun q _ => ⟨rfl, fun _ _ _ _ _ => rfl⟩, fun q h1 h2 => absurd h1 h2, fun _ _ _ _ => rfl, Int.le_refl _, by omega, Nat.le_refl _, Nat.le_refl _⟩
theorem nk.trans {τ τ1 τ2 : Nat → Nat} {h g k : cz_H} (a : nk τ h τ1 g) (b : nk τ1 g τ2 k) : nk τ h τ2 k := by
  obtain ⟨a1, a2, a3, a4, a5, a6⟩ := a
  obtain ⟨b1, b2, b3, b4, b5, b6⟩ := b
  refine ⟨fun q hq => ?_, fun q q0 q1 => ?_, fun j j1 j2 j3 => (b3 j j1 j2 j3).trans (a3 j j1 j2 j3), by omega, by omega, by omega⟩
  · have y1 := a1 q hq
    have y2 := b1 q (by rw [y1.1]; exact hq)
    exact ⟨y2.1.trans y1.1, fun q1 q2 q3 q4 q5 => (y2.2 q1 q2 (by rw [y1.1]; exact q3) (by rw [y1.1]; exact q4) (by rw [y1.1]; exact q5)).trans (y1.2 q1 q2 q3 q4 q5)⟩
  · by_cases e : τ1 q = 0
    · exact b2 q e q1
    · rw [(b1 q e).1]; exact a2 q q0 e
theorem nk.of {τ τ1 : Nat → Nat} {h g : cz_H} (a : ff τ h τ1 g) : nk τ h τ1 g := by
  obtain ⟨a1, a2, a3, a4, a5, a6, -⟩ := a
  exact ⟨fun q hq => ⟨(a1 q hq).1, fun q1 q2 _ _ q5 => (a1 q hq).2 q1 q2 q5⟩, a2, fun j j1 j2 _ => a3 j j1 j2, a4, a5, a6⟩
theorem nk.fr {τ : Nat → Nat} {h g : cz_H} {P : Nat → Bool} (hB : ez_B τ h) (t770 : τ 770 = 75) (hX : jz_X τ) (f : ez_fr P h g) (hP : ∀ q, P q = true → q = 770 ∨ q = 796 ∨ q = 798) (i7 : ∀ j, j ≠ 30 → qz_I g 770 j = qz_I h 770 j) : nk τ h τ g := by
  have no : ∀ q, q ≠ 770 → q ≠ 796 → q ≠ 798 → P q = false := fun q q1 q2 q3 => by
    cases e : P q with
    | false => rfl
    | true => have := hP q e; omega
  have e : sk g = sk h := by unfold sk qz_P; rw [i7 24 (by decide)]
  have ts := ez_tsk hB t770
  have eN : qz_N g (sk h) = qz_N h (sk h) := f.N (no _ (fun w => by rw [w, t770] at ts; cases ts) (fun w => by rw [w, hX 796 (by decide)] at ts; cases ts) (fun w => by rw [w, hX 798 (by decide)] at ts; cases ts))
  exact ⟨fun q _ => ⟨rfl, fun q1 _ q3 q4 _ => f.2.2 q (no q q1 (fun w => q3 (by rw [w]; exact hX 796 (by decide))) (fun w => q4 (by rw [w]; exact hX 798 (by decide))))⟩, fun q h1 h2 => absurd h1 h2, fun j _ _ j3 => i7 j j3, by rw [e, eN]; exact Int.le_refl _, by rw [e, eN, f.1, f.2.1]; omega, by rw [f.1]; exact Nat.le_refl _, by rw [f.2.1]; exact Nat.le_refl _⟩
theorem nk.X {τ τ1 : Nat → Nat} {h g : cz_H} (a : nk τ h τ1 g) (hX : jz_X τ) : jz_X τ1 := fun r hr => ((a.1 r (by rw [hX r hr]; exact hr)).1).trans (hX r hr)
theorem nk.C {τ τ1 : Nat → Nat} {h g : cz_H} (a : nk τ h τ1 g) (hX : jz_X τ) {q : Nat} (q0 : τ q ≠ 0) (q1 : τ q ≠ 75) (q2 : τ q ≠ 82) (q3 : τ q ≠ 83) (q4 : τ q ≠ 85) (q5 : τ q ≠ 21) : g.2.2 q = h.2.2 q := (a.1 q q0).2 (fun e => q1 (by rw [e]; exact hX 770 (by decide))) (fun e => q2 (by rw [e]; exact hX 794 (by decide))) q3 q4 q5
theorem nk.eDx {τ τ1 : Nat → Nat} {h g : cz_H} {F : rz_W} (a : nk τ h τ1 g) (e : eD τ h F) (hX : jz_X τ) (hB : ez_B τ1 g) : eD τ1 g F :=
  e.tr hB (fun q hq => (a.1 q hq).1) (fun q q0 w => by have := a.2.1 q q0 (by rw [w]; decide); omega) (fun j hj => a.2.2.1 j (by omega) (by omega) (by omega)) (fun q hq => a.C hX (by omega) (by omega) (by omega) (by omega) (by omega) (by omega))
theorem nk.mIx {τ τ1 : Nat → Nat} {h g : cz_H} {Ls : List vz} {b : Int} (a : nk τ h τ1 g) (hI : mI τ h Ls b) (hB : ez_B τ1 g) : mI τ1 g Ls b :=
  hI.gen hB (fun q hq => (a.1 q hq).1) (fun q q0 => by
    by_cases w : τ1 q = 0
    · rw [w]; decide
    · rw [a.2.1 q q0 w]; decide) (fun q hq => a.C hI.2.1 (by omega) (by omega) (by omega) (by omega) (by omega) (by omega)) (fun j j1 j2 => a.2.2.1 j (by omega) (by omega) (by omega))
/-- the pairs of the model -/
def pQ (h : cz_H) (F : rz_W) (E : Int → Prop) : Prop := (0 ≤ pkn h ∧ pkn h ≤ qz_N h (pq h)) ∧ (∀ i : Nat, (i : Int) < pkn h → qz_I h (pq h) i < cn h ∧ ∃ a b, ez_p F E (qz_I h (dc h) (qz_I h (pq h) i).toNat) a b) ∧ ∀ x a b, ez_p F E x a b → ∃ i : Nat, (i : Int) < pkn h ∧ qz_I h (dc h) (qz_I h (pq h) i).toNat = x
theorem pQ.P {h : cz_H} {F : rz_W} {E : Int → Prop} (a : pQ h F E) : pP h F := ⟨a.1, fun i hi => ⟨(a.2.1 i hi).1, by obtain ⟨x, y, w⟩ := (a.2.1 i hi).2; exact ⟨x, y, w.1⟩⟩⟩
theorem pQ.tr {h g : cz_H} {F : rz_W} {E : Int → Prop} (p : pQ h F E) (i : ∀ j, j = 21 ∨ j = 23 ∨ j = 27 ∨ j = 28 → qz_I g 770 j = qz_I h 770 j) (c1 : g.2.2 (pq h) = h.2.2 (pq h)) (c2 : g.2.2 (dc h) = h.2.2 (dc h)) : pQ g F E := by
  have e1 : pq g = pq h := by unfold pq qz_P; rw [i 27 (by omega)]
  have e2 : pkn g = pkn h := i 28 (by omega)
  have e3 : cn g = cn h := i 23 (by omega)
  have e4 : dc g = dc h := by unfold dc qz_P; rw [i 21 (by omega)]
  have i1 : ∀ j, qz_I g (pq h) j = qz_I h (pq h) j := fun j => by unfold qz_I; rw [c1]
  have i2 : ∀ j, qz_I g (dc h) j = qz_I h (dc h) j := fun j => by unfold qz_I; rw [c2]
  have n1 : qz_N g (pq h) = qz_N h (pq h) := by unfold qz_N; rw [c1]
  refine ⟨by rw [e1, e2, n1]; exact p.1, fun i hi => ?_, fun x a b w => ?_⟩
  · rw [e2] at hi; rw [e1, i1, e3, e4, i2]; exact p.2.1 i hi
  · obtain ⟨i, h1, h2⟩ := p.2.2 x a b w
    exact ⟨i, by rw [e2]; exact h1, by rw [e1, i1, e4, i2]; exact h2⟩
theorem nk.pQx {τ τ1 : Nat → Nat} {h g : cz_H} {F : rz_W} {E : Int → Prop} (a : nk τ h τ1 g) (p : pQ h F E) (hB : ez_B τ h) (hX : jz_X τ) : pQ g F E := by
  have t770 : τ 770 = 75 := hX 770 (by decide)
  have tp := ez_tpq hB t770
  have td := ez_tdb hB t770
  exact p.tr (fun j hj => a.2.2.1 j (by omega) (by omega) (by omega)) (a.C hX (by omega) (by omega) (by omega) (by omega) (by omega) (by omega)) (a.C hX (by omega) (by omega) (by omega) (by omega) (by omega) (by omega))
theorem tm_u {h : cz_H} {l m : List Int} (a : tm h l) (b : tm h m) : l = m := by
  have hl : l.length = m.length := by have := a.1; have := b.1; omega
  refine List.ext_getElem? (fun i => ?_)
  by_cases e : i < l.length
  · have h1 := List.getElem?_eq_getElem e
    have h2 := List.getElem?_eq_getElem (show i < m.length by omega)
    have := a.2 i _ h1
    rw [h1, h2, ← b.2 i _ h2, this]
  · rw [List.getElem?_eq_none (by omega), List.getElem?_eq_none (by omega)]
/-- two neighbours change places -/
def swp (L : List (Int × Int)) (i : Nat) (x y : Int × Int) : List (Int × Int) := (L.set i y).set (i + 1) x
theorem swp_srt {x y : Int × Int} (h1 : y.2 < x.2) (h2 : 0 < y.2) : ∀ {L : List (Int × Int)} {i : Nat}, L[i]? = some x → L[i + 1]? = some y → os_srt (swp L i x y) = os_srt L
  | [], i, hx, _ => by cases hx
  | [_], 0, _, hy => by cases hy
  | [_], i + 1, hx, _ => by cases hx
  | a :: b :: L, 0, hx, hy => by
    cases hx
    cases hy
    exact (os_comm h1 h2 (os_srt L)).symm
  | a :: b :: L, i + 1, hx, hy => by
    have := swp_srt h1 h2 (L := b :: L) (i := i) hx hy
    show os_ins a (os_srt (swp (b :: L) i x y)) = os_ins a (os_srt (b :: L))
    rw [this]
theorem swp_mem {L : List (Int × Int)} {i : Nat} {x y z : Int × Int} (hx : L[i]? = some x) (hy : L[i + 1]? = some y) (hz : z ∈ swp L i x y) : z ∈ L := by
  rcases List.mem_or_eq_of_mem_set hz with w | w
  · rcases List.mem_or_eq_of_mem_set w with v | v
    · exact v
    · rw [v]; exact List.mem_of_getElem? hy
  · rw [w]; exact List.mem_of_getElem? hx
theorem swp_at {L : List (Int × Int)} {i j : Nat} {x y z : Int × Int} (hx : L[i]? = some x) (hy : L[i + 1]? = some y) (hz : (swp L i x y)[j]? = some z) : (j = i ∧ z = y) ∨ (j = i + 1 ∧ z = x) ∨ (j ≠ i ∧ j ≠ i + 1 ∧ L[j]? = some z) := by
  have l1 := (List.getElem?_eq_some_iff.mp hx).1
  have l2 := (List.getElem?_eq_some_iff.mp hy).1
  unfold swp at hz
  by_cases e1 : j = i + 1
  · rw [e1, List.getElem?_set_self (by rw [List.length_set]; exact l2)] at hz
    cases hz
    exact Or.inr (Or.inl ⟨e1, rfl⟩)
  · rw [List.getElem?_set_ne (fun w => e1 w.symm)] at hz
    by_cases e2 : j = i
    · rw [e2, List.getElem?_set_self l1] at hz
      cases hz
      exact Or.inl ⟨e2, rfl⟩
    · rw [List.getElem?_set_ne (fun w => e2 w.symm)] at hz
      exact Or.inr (Or.inr ⟨e2, e1, hz⟩)
theorem swp_len (L : List (Int × Int)) (i : Nat) (x y : Int × Int) : (swp L i x y).length = L.length := by unfold swp; rw [List.length_set, List.length_set]
/-- on the way: the same marks -/
def ods (L0 L : List (Int × Int)) : Prop := L.length = L0.length ∧ os_srt L = os_srt L0 ∧ ∀ x ∈ L, x ∈ L0
theorem ods_0 (L : List (Int × Int)) : ods L L := ⟨rfl, rfl, fun _ h => h⟩
theorem ods_sw {L0 L : List (Int × Int)} {i : Nat} {x y : Int × Int} (h : ods L0 L) (h1 : y.2 < x.2) (h2 : 0 < y.2) (hx : L[i]? = some x) (hy : L[i + 1]? = some y) : ods L0 (swp L i x y) := ⟨(swp_len L i x y).trans h.1, (swp_srt h1 h2 hx hy).trans h.2.1, fun z hz => h.2.2 z (swp_mem hx hy hz)⟩
def nfk (L : List (Int × Int)) (k : Int) : Prop := ∀ (j : Nat) x y, (j : Int) + 1 < k → L[j]? = some x → L[j + 1]? = some y → ¬ (y.2 < x.2 ∧ 0 < y.2)
theorem nfk_end {L0 L : List (Int × Int)} {k : Int} (h : ods L0 L) (n : nfk L k) (hk : (L.length : Int) ≤ k) : L = os_srt L0 := by
  rw [← h.2.1]
  exact (os_done L (os_nf_i L (fun j x y hx hy => n j x y (by have := (List.getElem?_eq_some_iff.mp hy).1; omega) hx hy))).symm
