/-! Merging: rows of pairs, in lists and in arrays. -/
def om (A B : List (Int × Int)) : List (Int × Int) := os_mrg (A.length + B.length) A B
theorem om_nil (A : List (Int × Int)) : om A [] = A := by
  unfold om
  cases A with
  | nil => rfl
  | cons x A => unfold os_mrg; rfl
theorem om_a {x : Int × Int} {A B : List (Int × Int)} (h : ∀ y, B.head? = some y → x.2 ≤ y.2) : om (x :: A) B = x :: om A B := by
  cases B with
  | nil => rw [om_nil, om_nil]
  | cons y B =>
    have e : (x :: A).length + (y :: B).length = (A.length + (y :: B).length) + 1 := by simp only [List.length_cons]; omega
    unfold om
    rw [e]
    exact if_pos (h y rfl)
theorem om_b {y : Int × Int} {A B : List (Int × Int)} (h : ∀ x, A.head? = some x → ¬ x.2 ≤ y.2) : om A (y :: B) = y :: om A B := by
  cases A with
  | nil =>
    have e0 : ∀ C, om [] C = C := fun C => by
      unfold om
      cases C with
      | nil => rfl
      | cons z C => show os_mrg (0 + (C.length + 1)) [] (z :: C) = z :: C; rw [Nat.zero_add]; rfl
    rw [e0, e0]
  | cons x A => exact if_neg (h x rfl)
theorem om_len (A B : List (Int × Int)) : (om A B).length = A.length + B.length := os_mrg_len _ _ _
def upw (L : List (Int × Int)) (a b : Int) : Prop := ∀ (i j : Nat) x y, a ≤ (i : Int) → i < j → (j : Int) < b → L[i]? = some x → L[j]? = some y → x.2 ≤ y.2
def ps0 (L : List (Int × Int)) (a b : Int) : Prop := ∀ (i : Nat) x, a ≤ (i : Int) → (i : Int) < b → L[i]? = some x → 0 < x.2
theorem os_up_at : ∀ {L : List (Int × Int)}, os_up L → ∀ (i j : Nat) x y, i < j → L[i]? = some x → L[j]? = some y → x.2 ≤ y.2
  | [], _, i, j, x, y, _, h, _ => by cases h
  | z :: L, hu, 0, 0, x, y, hij, _, _ => absurd hij (Nat.lt_irrefl _)
  | z :: L, hu, 0, j + 1, x, y, _, h1, h2 => by
    cases h1
    exact hu.1 y (List.mem_of_getElem? h2)
  | z :: L, hu, i + 1, 0, x, y, hij, _, _ => absurd hij (by omega)
  | z :: L, hu, i + 1, j + 1, x, y, hij, h1, h2 => os_up_at hu.2 i j x y (by omega) h1 h2
theorem os_up_of : ∀ {L : List (Int × Int)}, (∀ (i j : Nat) x y, i < j → L[i]? = some x → L[j]? = some y → x.2 ≤ y.2) → os_up L
  | [], _ => trivial
  | z :: L, h => ⟨fun y hy => by
      obtain ⟨j, hj⟩ := List.mem_iff_getElem?.mp hy
      exact h 0 (j + 1) z y (by omega) rfl hj, os_up_of (fun i j x y hij h1 h2 => h (i + 1) (j + 1) x y (by omega) h1 h2)⟩
/-- the piece from a to b -/
def pcs (L : List (Int × Int)) (a b : Int) : List (Int × Int) := (L.drop a.toNat).take (b - a).toNat
theorem pcs_at {L : List (Int × Int)} {a b : Int} {k : Nat} : (pcs L a b)[k]? = if (k : Int) < b - a then L[a.toNat + k]? else none := by
  unfold pcs
  rw [List.getElem?_take, List.getElem?_drop]
  by_cases e : (k : Int) < b - a
  · rw [if_pos e, if_pos (by omega)]
  · rw [if_neg e, if_neg (by omega)]
theorem pcs_len {L : List (Int × Int)} {a b : Int} (a0 : 0 ≤ a) (ab : a ≤ b) (bl : b ≤ (L.length : Int)) : (pcs L a b).length = (b - a).toNat := by
  unfold pcs
  rw [List.length_take, List.length_drop]; omega
theorem pcs_up {L : List (Int × Int)} {a b : Int} (a0 : 0 ≤ a) (h : upw L a b) : os_up (pcs L a b) := os_up_of (fun i j x y hij h1 h2 => by
  rw [pcs_at] at h1 h2
  split at h1
  · split at h2
    · exact h _ _ x y (by omega) (by omega) (by omega) h1 h2
    · cases h2
  · cases h1)
theorem pcs_pos {L : List (Int × Int)} {a b : Int} (a0 : 0 ≤ a) (h : ps0 L a b) : ∀ x ∈ pcs L a b, 0 < x.2 := fun x hx => by
  obtain ⟨k, hk⟩ := List.mem_iff_getElem?.mp hx
  rw [pcs_at] at hk
  split at hk
  · exact h _ x (by omega) (by omega) hk
  · cases hk
theorem pcs_mem {L : List (Int × Int)} {a b : Int} {x : Int × Int} (hx : x ∈ pcs L a b) : x ∈ L := List.mem_of_mem_drop (List.mem_of_mem_take hx)
theorem pcs_split {L : List (Int × Int)} {a m b : Int} (a0 : 0 ≤ a) (am : a ≤ m) (mb : m ≤ b) : L = L.take a.toNat ++ (pcs L a m ++ (pcs L m b ++ L.drop b.toNat)) := by
  have e1 : L.drop m.toNat = pcs L m b ++ L.drop b.toNat := by
    unfold pcs
    have := (List.take_append_drop (b - m).toNat (L.drop m.toNat)).symm
    rw [List.drop_drop, show m.toNat + (b - m).toNat = b.toNat by omega] at this
    exact this
  have e2 : L.drop a.toNat = pcs L a m ++ L.drop m.toNat := by
    unfold pcs
    have := (List.take_append_drop (m - a).toNat (L.drop a.toNat)).symm
    rw [List.drop_drop, show a.toNat + (m - a).toNat = m.toNat by omega] at this
    exact this
  rw [← e1, ← e2]
  exact (List.take_append_drop _ _).symm
/-- what has become of a row by putting a piece in order -/
def mgd (L L' : List (Int × Int)) (a b : Int) : Prop := L'.length = L.length ∧ os_srt L' = os_srt L ∧ upw L' a b ∧ (∀ i : Nat, ((i : Int) < a ∨ b ≤ (i : Int)) → L'[i]? = L[i]?) ∧ ps0 L' a b ∧ ∀ x ∈ L', x ∈ L
def mgw (L : List (Int × Int)) (a m b : Int) : List (Int × Int) := L.take a.toNat ++ (om (pcs L a m) (pcs L m b) ++ L.drop b.toNat)
theorem mgw_at {L : List (Int × Int)} {a m b : Int} (a0 : 0 ≤ a) (am : a ≤ m) (mb : m ≤ b) (bl : b ≤ (L.length : Int)) (i : Nat) : (mgw L a m b)[i]? = if a ≤ (i : Int) ∧ (i : Int) < b then (om (pcs L a m) (pcs L m b))[i - a.toNat]? else L[i]? := by
  have l1 := pcs_len a0 am (show m ≤ (L.length : Int) by omega)
  have l2 := pcs_len (show 0 ≤ m by omega) mb bl
  have lw := om_len (pcs L a m) (pcs L m b)
  have lt : (L.take a.toNat).length = a.toNat := by rw [List.length_take]; omega
  unfold mgw
  by_cases e1 : (i : Int) < a
  · rw [if_neg (by omega), List.getElem?_append_left (by omega), List.getElem?_take, if_pos (by omega)]
  · rw [List.getElem?_append_right (by omega), lt]
    by_cases e2 : (i : Int) < b
    · rw [if_pos (by omega), List.getElem?_append_left (by omega)]
    · rw [if_neg (by omega), List.getElem?_append_right (by omega), List.getElem?_drop]
      congr 1; omega
theorem mgw_mg {L : List (Int × Int)} {a m b : Int} (a0 : 0 ≤ a) (am : a ≤ m) (mb : m ≤ b) (bl : b ≤ (L.length : Int)) (u1 : upw L a m) (u2 : upw L m b) (ps : ps0 L a b) : mgd L (mgw L a m b) a b := by
  have p1 : ps0 L a m := fun i x h1 h2 => ps i x h1 (by omega)
  have p2 : ps0 L m b := fun i x h1 h2 => ps i x (by omega) h2
  have hA := pcs_up a0 u1
  have hB := pcs_up (show 0 ≤ m by omega) u2
  have hm : ∀ x ∈ om (pcs L a m) (pcs L m b), 0 < x.2 ∧ x ∈ L := fun x hx => by
    rcases os_mrg_mem _ _ _ x hx with w | w
    · exact ⟨pcs_pos a0 p1 x w, pcs_mem w⟩
    · exact ⟨pcs_pos (by omega) p2 x w, pcs_mem w⟩
  have at' := mgw_at (L := L) a0 am mb bl
  refine ⟨?_, ?_, fun i j x y h1 h2 h3 h4 h5 => ?_, fun i hi => ?_, fun i x h1 h2 h3 => ?_, fun x hx => ?_⟩
  · have l1 := pcs_len a0 am (show m ≤ (L.length : Int) by omega)
    have l2 := pcs_len (show 0 ≤ m by omega) mb bl
    unfold mgw
    rw [List.length_append, List.length_append, om_len, l1, l2, List.length_take, List.length_drop]; omega
  · have e := os_mrg_srt _ (L.take a.toNat) (pcs L a m) (pcs L m b) (L.drop b.toNat) (Nat.le_refl _) hA (pcs_pos (by omega) p2)
    rw [← pcs_split a0 am mb] at e
    exact e
  · rw [at', if_pos (by omega)] at h4 h5
    exact os_up_at (os_mrg_up _ _ _ (Nat.le_refl _) hA hB) _ _ x y (by omega) h4 h5
  · rw [at', if_neg (by omega)]
  · rw [at', if_pos (by omega)] at h3
    exact (hm x (List.mem_of_getElem? h3)).1
  · unfold mgw at hx
    rcases List.mem_append.mp hx with w | w
    · exact List.mem_of_mem_take w
    · rcases List.mem_append.mp w with w | w
      · exact (hm x w).2
      · exact List.mem_of_mem_drop w
theorem mgd_refl {L : List (Int × Int)} {a m b : Int} (u1 : upw L a m) (u2 : upw L m b) (ps : ps0 L a b) (am : a < m) (mb : m < b) {x y : Int × Int} (hx : L[(m - 1).toNat]? = some x) (hy : L[m.toNat]? = some y) (hxy : x.2 ≤ y.2) (a0 : 0 ≤ a) : mgd L L a b := by
  refine ⟨rfl, rfl, fun i j z w h1 h2 h3 h4 h5 => ?_, fun _ _ => rfl, ps, fun _ h => h⟩
  by_cases e1 : (j : Int) < m
  · exact u1 i j z w h1 h2 e1 h4 h5
  · by_cases e2 : m ≤ (i : Int)
    · exact u2 i j z w e2 h2 h3 h4 h5
    · have q1 : z.2 ≤ x.2 := by
        by_cases e3 : i = (m - 1).toNat
        · rw [e3, hx] at h4; cases h4; exact Int.le_refl _
        · exact u1 i _ z x h1 (by omega) (by omega) h4 hx
      have q2 : y.2 ≤ w.2 := by
        by_cases e3 : j = m.toNat
        · rw [e3, hy] at h5; cases h5; exact Int.le_refl _
        · exact u2 _ j y w (by omega) (by omega) h3 hy h5
      omega
/-- points and their ranks lie in two arrays -/
def prs (h : cz_H) (p : Nat) (L : List (Int × Int)) : Prop := ∀ (j : Nat) x, L[j]? = some x → qz_I h p j = x.1 ∧ qz_I h 730 j = x.2
def rgl (L : List (Int × Int)) : Prop := ∀ x ∈ L, ez_rg x.1 ∧ ez_rg x.2
/-- within the merging -/
def mgi (g : cz_H) (p : Nat) (L : List (Int × Int)) (a m b i x y : Int) : Prop :=
  ((a ≤ x ∧ x ≤ m) ∧ (m ≤ y ∧ y ≤ b) ∧ i - a = (x - a) + (y - m)) ∧ (om (pcs L a m) (pcs L m b)).drop (i - a).toNat = om (pcs L x m) (pcs L y b) ∧ (∀ (j : Nat) z, (om (pcs L a m) (pcs L m b))[j]? = some z → a + (j : Int) < i → qz_I g p (a.toNat + j) = z.1 ∧ qz_I g 730 (a.toNat + j) = z.2) ∧ (∀ (j : Nat) z, ((j : Int) < a ∨ b ≤ (j : Int)) → L[j]? = some z → qz_I g p j = z.1 ∧ qz_I g 730 j = z.2) ∧ ∀ (j : Nat) z, a ≤ (j : Int) → (j : Int) < b → L[j]? = some z → qz_I g 731 j = z.1 ∧ qz_I g 732 j = z.2
theorem pcs_cons {L : List (Int × Int)} {x m : Int} (x0 : 0 ≤ x) (xm : x < m) (ml : m ≤ (L.length : Int)) {z : Int × Int} (hz : L[x.toNat]? = some z) : pcs L x m = z :: pcs L (x + 1) m := by
  have hl : x.toNat < L.length := by omega
  unfold pcs
  rw [List.drop_eq_getElem_cons hl, show (m - x).toNat = (m - (x + 1)).toNat + 1 by omega, List.take_succ_cons, show (x + 1).toNat = x.toNat + 1 by omega]
  rw [List.getElem?_eq_getElem hl] at hz
  cases hz
  rfl
theorem pcs_nil {L : List (Int × Int)} {x m : Int} (xm : m ≤ x) : pcs L x m = [] := by
  unfold pcs
  rw [show (m - x).toNat = 0 by omega, List.take_zero]
theorem mgi_step {g g2 : cz_H} {p : Nat} {L : List (Int × Int)} {a m b i x y t : Int} {z : Int × Int} (a0 : 0 ≤ a) (bl : b ≤ (L.length : Int)) (hi : mgi g p L a m b i x y) (ib : i < b) (hz : L[t.toNat]? = some z) (w1 : qz_I g2 p i.toNat = z.1) (w2 : qz_I g2 730 i.toNat = z.2) (f1 : ∀ j, j ≠ i.toNat → qz_I g2 p j = qz_I g p j) (f2 : ∀ j, j ≠ i.toNat → qz_I g2 730 j = qz_I g 730 j) (f3 : ∀ j, qz_I g2 731 j = qz_I g 731 j) (f4 : ∀ j, qz_I g2 732 j = qz_I g 732 j) : (t = x → x < m → (y = b ∨ ∀ w, L[y.toNat]? = some w → z.2 ≤ w.2) → mgi g2 p L a m b (i + 1) (x + 1) y) ∧ (t = y → y < b → (x = m ∨ ∀ w, L[x.toNat]? = some w → ¬ w.2 ≤ z.2) → mgi g2 p L a m b (i + 1) x (y + 1)) := by
  obtain ⟨⟨⟨c1, c2⟩, ⟨c3, c4⟩, c5⟩, c6, c7, c8, c9⟩ := hi
  have rest : ∀ (R : List (Int × Int)), (om (pcs L a m) (pcs L m b)).drop (i - a).toNat = z :: R → (om (pcs L a m) (pcs L m b)).drop (i + 1 - a).toNat = R ∧ (∀ (j : Nat) z, (om (pcs L a m) (pcs L m b))[j]? = some z → a + (j : Int) < i + 1 → qz_I g2 p (a.toNat + j) = z.1 ∧ qz_I g2 730 (a.toNat + j) = z.2) ∧ (∀ (j : Nat) z, ((j : Int) < a ∨ b ≤ (j : Int)) → L[j]? = some z → qz_I g2 p j = z.1 ∧ qz_I g2 730 j = z.2) ∧ ∀ (j : Nat) z, a ≤ (j : Int) → (j : Int) < b → L[j]? = some z → qz_I g2 731 j = z.1 ∧ qz_I g2 732 j = z.2 := fun R hR => by
    refine ⟨?_, fun j z' hj hj2 => ?_, fun j z' hj hz' => ?_, fun j z' h1 h2 h3 => by rw [f3, f4]; exact c9 j z' h1 h2 h3⟩
    · rw [show (i + 1 - a).toNat = (i - a).toNat + 1 by omega, ← List.drop_drop, hR]; rfl
    · by_cases e : a + (j : Int) = i
      · have e2 : (om (pcs L a m) (pcs L m b))[j]? = some z := by
          have : ((om (pcs L a m) (pcs L m b)).drop (i - a).toNat)[0]? = some z := by rw [hR]; rfl
          rw [List.getElem?_drop] at this
          rw [show j = (i - a).toNat + 0 by omega]; exact this
        rw [e2] at hj
        cases hj
        rw [show a.toNat + j = i.toNat by omega]; exact ⟨w1, w2⟩
      · rw [f1 _ (by omega), f2 _ (by omega)]; exact c7 j z' hj (by omega)
    · rw [f1 _ (by omega), f2 _ (by omega)]; exact c8 j z' hj hz'
  refine ⟨fun e1 e2 e3 => ?_, fun e1 e2 e3 => ?_⟩
  · have h9 := pcs_cons (L := L) (x := x) (m := m) (by omega) e2 (by omega) (by rw [← e1]; exact hz)
    have hh : ∀ w, (pcs L y b).head? = some w → z.2 ≤ w.2 := fun w hw => by
      rcases e3 with e3 | e3
      · rw [pcs_nil (by omega)] at hw; cases hw
      · refine e3 w ?_
        rw [List.head?_eq_getElem?, pcs_at] at hw
        split at hw
        · exact hw
        · cases hw
    rw [h9, om_a hh] at c6
    obtain ⟨r1, r2, r3, r4⟩ := rest _ c6
    exact ⟨⟨⟨by omega, by omega⟩, ⟨c3, c4⟩, by omega⟩, r1, r2, r3, r4⟩
  · have h9 := pcs_cons (L := L) (x := y) (m := b) (by omega) e2 (by omega) (by rw [← e1]; exact hz)
    have hh : ∀ w, (pcs L x m).head? = some w → ¬ w.2 ≤ z.2 := fun w hw => by
      rcases e3 with e3 | e3
      · rw [pcs_nil (by omega)] at hw; cases hw
      · refine e3 w ?_
        rw [List.head?_eq_getElem?, pcs_at] at hw
        split at hw
        · exact hw
        · cases hw
    rw [h9, om_b hh] at c6
    obtain ⟨r1, r2, r3, r4⟩ := rest _ c6
    exact ⟨⟨⟨c1, c2⟩, ⟨by omega, by omega⟩, by omega⟩, r1, r2, r3, r4⟩
theorem mgi_end {g : cz_H} {p : Nat} {L : List (Int × Int)} {a m b i x y : Int} (a0 : 0 ≤ a) (am : a ≤ m) (mb : m ≤ b) (bl : b ≤ (L.length : Int)) (hi : mgi g p L a m b i x y) (ib : i = b) : prs g p (mgw L a m b) := fun j z hj => by
  obtain ⟨-, -, c7, c8, -⟩ := hi
  rw [mgw_at a0 am mb bl] at hj
  split at hj
  · rename_i e
    have := c7 (j - a.toNat) z hj (by omega)
    rw [show a.toNat + (j - a.toNat) = j by omega] at this; exact this
  · rename_i e
    exact c8 j z (by omega) hj
/-! Sorting by merging, as lists have it. -/
theorem upw_mono {L : List (Int × Int)} {a b c e : Int} (h : upw L a b) (h1 : a ≤ c) (h2 : e ≤ b) : upw L c e := fun i j x y a1 a2 a3 a4 a5 => h i j x y (by omega) a2 (by omega) a4 a5
theorem upw_mg {L L' : List (Int × Int)} {a b c e : Int} (m : mgd L L' a b) (h : upw L c e) (hd : e ≤ a ∨ b ≤ c) : upw L' c e := fun i j x y a1 a2 a3 a4 a5 => by
  rw [m.2.2.2.1 i (by omega)] at a4
  rw [m.2.2.2.1 j (by omega)] at a5
  exact h i j x y a1 a2 a3 a4 a5
/-- the pieces of w from f on are in order -/
def bks (L : List (Int × Int)) (f t w : Int) : Prop := ∀ q, 0 ≤ q → upw L (f + q * w) (min (f + q * w + w) t)
/-- those of 2 w before the k-th, those of w behind -/
def sis (L : List (Int × Int)) (f t w k : Int) : Prop := (∀ q, 0 ≤ q → q < k → upw L (f + q * (2 * w)) (min (f + q * (2 * w) + 2 * w) t)) ∧ ∀ q, 2 * k ≤ q → upw L (f + q * w) (min (f + q * w + w) t)
theorem bks_1 (L : List (Int × Int)) (f t : Int) : bks L f t 1 := fun q _ i j x y a1 a2 a3 => by omega
theorem bks_all {L : List (Int × Int)} {f t w : Int} (h : bks L f t w) (hw : t - f ≤ w) : upw L f t := by
  have := h 0 (Int.le_refl _)
  rw [Int.zero_mul] at this
  exact upw_mono this (by omega) (by omega)
theorem sis_0 {L : List (Int × Int)} {f t w : Int} (h : bks L f t w) : sis L f t w 0 := ⟨fun q q0 q1 => by omega, fun q hq => h q (by omega)⟩
theorem sis_ar (k w : Int) : 2 * k * w = k * (2 * w) ∧ (2 * k + 1) * w = k * (2 * w) + w ∧ (k + 1) * (2 * w) = k * (2 * w) + 2 * w := by
  refine ⟨?_, ?_, ?_⟩
  · rw [Int.mul_comm 2 k, Int.mul_assoc]
  · rw [Int.add_mul, Int.mul_comm 2 k, Int.mul_assoc, Int.one_mul]
  · rw [Int.add_mul, Int.one_mul]
theorem sis_pre {L : List (Int × Int)} {f t w k : Int} (h : sis L f t w k) (hl : f + k * (2 * w) + w < t) : upw L (f + k * (2 * w)) (f + k * (2 * w) + w) ∧ upw L (f + k * (2 * w) + w) (min (f + k * (2 * w) + 2 * w) t) := by
  obtain ⟨e1, e2, -⟩ := sis_ar k w
  have a := h.2 (2 * k) (Int.le_refl _)
  have b := h.2 (2 * k + 1) (by omega)
  rw [e1] at a
  rw [e2] at b
  exact ⟨upw_mono a (by omega) (by omega), upw_mono b (by omega) (by omega)⟩
theorem sis_step {L L' : List (Int × Int)} {f t w k : Int} (w1 : 1 ≤ w) (k0 : 0 ≤ k) (h : sis L f t w k) (m : mgd L L' (f + k * (2 * w)) (min (f + k * (2 * w) + 2 * w) t)) : sis L' f t w (k + 1) := by
  refine ⟨fun q q0 q1 => ?_, fun q hq => ?_⟩
  · by_cases e : q = k
    · rw [e]; exact m.2.2.1
    · have e1 : (q + 1) * (2 * w) ≤ k * (2 * w) := Int.mul_le_mul_of_nonneg_right (by omega) (by omega)
      rw [(sis_ar q w).2.2] at e1
      exact upw_mg m (h.1 q q0 (by omega)) (Or.inl (by omega))
  · have e1 : (2 * k + 2) * w ≤ q * w := Int.mul_le_mul_of_nonneg_right (by omega) (by omega)
    have e2 : (2 * k + 2) * w = k * (2 * w) + 2 * w := by rw [Int.add_mul, (sis_ar k w).1]
    exact upw_mg m (h.2 q (by omega)) (Or.inr (by omega))
theorem sis_out {L : List (Int × Int)} {f t w k : Int} (w1 : 1 ≤ w) (k0 : 0 ≤ k) (h : sis L f t w k) (hl : t ≤ f + k * (2 * w) + w) : bks L f t (2 * w) := fun q q0 => by
  by_cases e : q < k
  · exact h.1 q q0 e
  · by_cases e2 : q = k
    · have a := h.2 (2 * k) (Int.le_refl _)
      rw [(sis_ar k w).1] at a
      rw [e2]
      exact upw_mono a (by omega) (by omega)
    · have e1 : (k + 1) * (2 * w) ≤ q * (2 * w) := Int.mul_le_mul_of_nonneg_right (by omega) (by omega)
      rw [(sis_ar k w).2.2] at e1
      exact fun i j x y a1 a2 a3 => by omega
/-- on the way -/
def sds (L0 L : List (Int × Int)) (f t : Int) : Prop := L.length = L0.length ∧ os_srt L = os_srt L0 ∧ (∀ i : Nat, ((i : Int) < f ∨ t ≤ (i : Int)) → L[i]? = L0[i]?) ∧ ps0 L f t ∧ ∀ x ∈ L, x ∈ L0
theorem sds_0 {L : List (Int × Int)} {f t : Int} (h : ps0 L f t) : sds L L f t := ⟨rfl, rfl, fun _ _ => rfl, h, fun _ h => h⟩
theorem sds_step {L0 L L' : List (Int × Int)} {f t a b : Int} (h : sds L0 L f t) (m : mgd L L' a b) (fa : f ≤ a) (bt : b ≤ t) : sds L0 L' f t := by
  refine ⟨m.1.trans h.1, m.2.1.trans h.2.1, fun i hi => (m.2.2.2.1 i (by omega)).trans (h.2.2.1 i hi), fun i x h1 h2 h3 => ?_, fun x hx => h.2.2.2.2 x (m.2.2.2.2.2 x hx)⟩
  by_cases e : a ≤ (i : Int) ∧ (i : Int) < b
  · exact m.2.2.2.2.1 i x e.1 e.2 h3
  · rw [m.2.2.2.1 i (by omega)] at h3
    exact h.2.2.2.1 i x h1 h2 h3
theorem sds_end {L0 L : List (Int × Int)} {f t : Int} (h : sds L0 L f t) (u : upw L f t) : mgd L0 L f t := ⟨h.1, h.2.1, u, h.2.2.1, h.2.2.2.1, h.2.2.2.2⟩
/-- runs before s are in order, the next one reaches from s to i -/
def pio (L0 L : List (Int × Int)) (s i : Int) : Prop := L.length = L0.length ∧ os_srt L = os_srt L0 ∧ ps0 L s i ∧ (∀ (j : Nat) x y, (j : Int) + 1 < s → L[j]? = some x → L[j + 1]? = some y → ¬ (y.2 < x.2 ∧ 0 < y.2)) ∧ (∀ (j : Nat) x, (j : Int) + 1 = s → L[j]? = some x → x.2 = 0) ∧ ∀ x ∈ L, x ∈ L0
theorem pio_0 (L : List (Int × Int)) : pio L L 0 0 := ⟨rfl, rfl, fun i x h1 h2 => by omega, fun j x y h => by omega, fun j x h => by omega, fun _ h => h⟩
theorem pio_more {L0 L : List (Int × Int)} {s i : Int} (h : pio L0 L s i) {x : Int × Int} (hx : L[i.toNat]? = some x) (i0 : 0 ≤ i) (x0 : 0 < x.2) : pio L0 L s (i + 1) := ⟨h.1, h.2.1, fun j y h1 h2 h3 => by
  by_cases e : (j : Int) = i
  · rw [show j = i.toNat by omega, hx] at h3; cases h3; exact x0
  · exact h.2.2.1 j y h1 (by omega) h3, h.2.2.2.1, h.2.2.2.2.1, h.2.2.2.2.2⟩
theorem pio_run {L0 L L' : List (Int × Int)} {s i : Int} (h : pio L0 L s i) (m : mgd L L' s i) (si : s ≤ i) (hz : ∀ (j : Nat) x, (j : Int) = i → L[j]? = some x → x.2 = 0) : pio L0 L' (i + 1) (i + 1) := by
  have hz' : ∀ (j : Nat) x, (j : Int) = i → L'[j]? = some x → x.2 = 0 := fun j x hj hx => by rw [m.2.2.2.1 j (by omega)] at hx; exact hz j x hj hx
  refine ⟨m.1.trans h.1, m.2.1.trans h.2.1, fun j x h1 h2 => by omega, fun j x y hj hx hy => ?_, fun j x hj hx => hz' j x (by omega) hx, fun x hx => h.2.2.2.2.2 x (m.2.2.2.2.2 x hx)⟩
  by_cases e1 : (j : Int) + 1 = i
  · have := hz' (j + 1) y (by omega) hy; omega
  · by_cases e2 : s ≤ (j : Int)
    · have := m.2.2.1 j (j + 1) x y e2 (by omega) (by omega) hx hy; omega
    · rw [m.2.2.2.1 j (by omega)] at hx
      by_cases e3 : (j : Int) + 1 = s
      · have := h.2.2.2.2.1 j x e3 hx; omega
      · rw [m.2.2.2.1 (j + 1) (by omega)] at hy
        exact h.2.2.2.1 j x y (by omega) hx hy
theorem pio_end {L0 L : List (Int × Int)} {s i : Int} (h : pio L0 L s i) (hs : (L0.length : Int) < s) : L = os_srt L0 := by
  rw [← h.2.1]
  refine (os_done L (os_nf_i L (fun j x y hx hy => ?_))).symm
  have : j < L.length := (List.getElem?_eq_some_iff.mp hx).1
  have := h.1
  exact h.2.2.2.1 j x y (by omega) hx hy
/-- points with their ranks -/
def zl (F : rz_W) (l : List Int) : List (Int × Int) := l.map (fun x => (x, (F x).1))
theorem zl_at {F : rz_W} {l : List Int} {j : Nat} {z : Int × Int} (h : (zl F l)[j]? = some z) : l[j]? = some z.1 ∧ z.2 = (F z.1).1 := by
  unfold zl at h
  rw [List.getElem?_map] at h
  obtain ⟨a, h1, h2⟩ := Option.map_eq_some_iff.mp h
  rw [← h2]; exact ⟨h1, rfl⟩
theorem zl_mem {F : rz_W} {l : List Int} {z : Int × Int} (h : z ∈ zl F l) : z.1 ∈ l ∧ z.2 = (F z.1).1 := by
  obtain ⟨j, hj⟩ := List.mem_iff_getElem?.mp h
  have := zl_at hj
  exact ⟨List.mem_of_getElem? this.1, this.2⟩
theorem zl_len (F : rz_W) (l : List Int) : (zl F l).length = l.length := by unfold zl; exact List.length_map _
