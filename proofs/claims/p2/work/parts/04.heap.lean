/-! A machine of plain values, part 3: cells. Places below 192 were there before (the script, strings and their bytes) and are never written; place r from 192 on is the address b + (r - 192). -/
/-- an array: the number of its type, length, what lies in it; an object: the number of its class, fields; an exception: its kind -/
abbrev cz_C : Type := (Nat × Nat × (Nat → cz_V)) ⊕ ((Nat × List cz_V) ⊕ Nat)
/-- the next place, how many slots were made, the cells -/
abbrev cz_H : Type := Nat × Nat × (Nat → cz_C)
/-- which places below 192 are there: the script, strings, their bytes -/
def cz_ext (r : Nat) : Bool := Nat.ble r 51 || (Nat.ble 64 r && Nat.ble r 114)
/-- classes, array classes, exceptions by their numbers; the heap at the law's start -/
abbrev cz_K : Type := va_G × (Nat → ClassId) × (Nat → ClassId) × Heap
noncomputable def cz_cell (cl : List vw_C) (K : cz_K) (E : cz_E) (c : cz_C) (a : Nat) (H : Heap) : Prop := match c with
  | .inl q => H[a]? = some (arrV (K.2.1 q.1) q.2.1 (fun j => cz_v E (q.2.2 j)))
  | .inr (.inl q) => va_at K.1 cl (a, .inr (q.1, q.2.map (cz_v E))) H
  | .inr (.inr k) => ∃ cell, H[a]? = some cell ∧ cell.cls = K.2.2.1 k ∧ cell.vm.isStatics = false
theorem cz_cell.kept {cl : List vw_C} {K : cz_K} {E : cz_E} {c : cz_C} {a : Nat} {H H1 : Heap} (h : cz_cell cl K E c a H) (hq : H1[a]? = H[a]?) : cz_cell cl K E c a H1 := by
  obtain q | q | k := c
  · exact hq.trans h
  · exact va_at.kept (q := (a, .inr (q.1, q.2.map (cz_v E)))) h hq
  · obtain ⟨cell, h1, h2⟩ := h
    exact ⟨cell, hq.trans h1, h2⟩
theorem cz_cell.lt {cl : List vw_C} {K : cz_K} {E : cz_E} {c : cz_C} {a : Nat} {H : Heap} (h : cz_cell cl K E c a H) : a < H.size := by
  obtain q | q | k := c
  · exact (Array.getElem?_eq_some_iff.mp h).1
  · exact va_at.lt (q := (a, .inr (q.1, q.2.map (cz_v E)))) h
  · obtain ⟨cell, h1, h2⟩ := h
    exact (Array.getElem?_eq_some_iff.mp h1).1
/-- a place that is there -/
def cz_here (h : cz_H) (r : Nat) : Prop := r < h.1 ∧ (192 ≤ r ∨ cz_ext r = true)
noncomputable def cz_HP (cl : List vw_C) (K : cz_K) (E : cz_E) (h : cz_H) (H : Heap) : Prop :=
  192 ≤ h.1 ∧ H.size = E.2 + (h.1 - 192) ∧ (∀ r, cz_here h r → cz_cell cl K E (h.2.2 r) (cz_ad E r) H) ∧ (∀ q, q < E.2 → H[q]? = K.2.2.2[q]?) ∧ ∀ r, r < 192 → cz_ext r = true → E.1 r < E.2
theorem cz_ad_new (E : cz_E) {r : Nat} (h : 192 ≤ r) : cz_ad E r = E.2 + (r - 192) := by
  unfold cz_ad
  rw [if_neg (by omega)]
theorem cz_ad_old (E : cz_E) {r : Nat} (h : r < 192) : cz_ad E r = E.1 r := by
  unfold cz_ad
  rw [if_pos h]
def cz_setc (h : cz_H) (r : Nat) (c : cz_C) : cz_H := (h.1, h.2.1, fun q => if q = r then c else h.2.2 q)
def cz_push (h : cz_H) (n : Nat) (c : cz_C) : cz_H := (h.1 + 1, h.2.1 + n, fun q => if q = h.1 then c else h.2.2 q)
theorem cz_HP.ne {cl : List vw_C} {K : cz_K} {E : cz_E} {h : cz_H} {H : Heap} (hP : cz_HP cl K E h H) {r q : Nat} (h1 : 192 ≤ r) (hq : cz_here h q) (hn : q ≠ r) : cz_ad E q ≠ cz_ad E r := by
  obtain ⟨a1, a3, a4, a5, a6⟩ := hP
  intro e
  by_cases h2 : 192 ≤ q
  · exact hn (cz_ad_inj E h2 h1 e)
  · have hk : cz_ext q = true := by rcases hq.2 with w | w; exact absurd w h2; exact w
    have := a6 q (by omega) hk
    rw [cz_ad_old E (by omega), cz_ad_new E h1] at e
    omega
theorem cz_HP.set {cl : List vw_C} {K : cz_K} {E : cz_E} {h : cz_H} {H H1 : Heap} (hP : cz_HP cl K E h H) {r : Nat} (h1 : 192 ≤ r) (h2 : r < h.1) {c : cz_C} (hc : cz_cell cl K E c (cz_ad E r) H1) (hz : H1.size = H.size) (ho : ∀ q, q ≠ cz_ad E r → H1[q]? = H[q]?) : cz_HP cl K E (cz_setc h r c) H1 := by
  have hne := fun q => hP.ne (q := q) h1
  obtain ⟨a1, a3, a4, a5, a6⟩ := hP
  refine ⟨a1, hz.trans a3, fun q hq => ?_, fun q hq => (ho q ?_).trans (a5 q hq), a6⟩
  · show cz_cell cl K E (if q = r then c else h.2.2 q) (cz_ad E q) H1
    by_cases e : q = r
    · rw [if_pos e, e]; exact hc
    · rw [if_neg e]
      exact (a4 q hq).kept (ho _ (hne q hq e))
  · rw [cz_ad_new E h1]; omega
theorem cz_HP.push {cl : List vw_C} {K : cz_K} {E : cz_E} {h : cz_H} {H H1 : Heap} (hP : cz_HP cl K E h H) (n : Nat) {c : cz_C} (hc : cz_cell cl K E c H.size H1) (hz : H1.size = H.size + 1) (ho : ∀ q, q < H.size → H1[q]? = H[q]?) : cz_HP cl K E (cz_push h n c) H1 ∧ H.size = cz_ad E h.1 := by
  obtain ⟨a1, a3, a4, a5, a6⟩ := hP
  have e0 : H.size = cz_ad E h.1 := by rw [a3, cz_ad_new E a1]
  refine ⟨⟨by show 192 ≤ h.1 + 1; omega, by show H1.size = _ + (h.1 + 1 - 192); omega, fun q hq => ?_, fun q hq => (ho q (by omega)).trans (a5 q hq), a6⟩, e0⟩
  have hq2 : q < h.1 + 1 := hq.1
  show cz_cell cl K E (if q = h.1 then c else h.2.2 q) (cz_ad E q) H1
  by_cases e : q = h.1
  · rw [if_pos e, e, ← e0]; exact hc
  · rw [if_neg e]
    have h5 := a4 q ⟨by omega, hq.2⟩
    exact h5.kept (ho _ h5.lt)
