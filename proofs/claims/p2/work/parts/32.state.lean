/-! L2, part 3: what is known of a frame and of the cells. -/
/-- a value as a number: places count from 1, null is 0 -/
def dz_n (v : cz_V) : Int := match v with
  | .inl a => a.toInt
  | .inr (.inl a) => a.toInt
  | .inr (.inr none) => 0
  | .inr (.inr (some r)) => (r : Int) + 1
def dz_k (v : cz_V) : Nat := match v with
  | .inl _ => 0
  | .inr (.inl _) => 2
  | .inr (.inr _) => 3
/-- kind, number, the tag of what it points to -/
abbrev dz_A : Type := Nat × dz_E × Nat
def dz_tg (τ : Nat → Nat) (t : Nat) (v : cz_V) : Prop := ∀ r, v = .inr (.inr (some r)) → τ r = t ∧ t ≠ 0
def dz_vo (n : Nat) (ρ : Nat → Int) (τ : Nat → Nat) (a : dz_A) (v : cz_V) : Prop := dz_k v = a.1 ∧ dz_ok n ρ a.2.1 (dz_n v) ∧ dz_tg τ a.2.2 v
/-- the slots of a cell -/
def dz_get (c : cz_C) (i : Nat) : Option cz_V := match c with
  | .inl q => if i < q.2.1 then some (q.2.2 i) else none
  | .inr (.inl q) => q.2[i]?
  | .inr (.inr _) => none
def dz_set (c : cz_C) (i : Nat) (v : cz_V) : cz_C := match c with
  | .inl q => .inl (q.1, q.2.1, fun j => if j = i then v else q.2.2 j)
  | .inr (.inl q) => .inr (.inl (q.1, q.2.set i v))
  | .inr (.inr k) => .inr (.inr k)
/-- what of a cell never changes -/
def dz_al (c : cz_C) : (Nat × Nat) ⊕ ((Nat × Nat) ⊕ Nat) := match c with
  | .inl q => .inl (q.1, q.2.1)
  | .inr (.inl q) => .inr (.inl (q.1, q.2.length))
  | .inr (.inr k) => .inr (.inr k)
theorem dz_get_set {c : cz_C} {i j : Nat} {v w : cz_V} (h : dz_get c i = some w) : dz_get (dz_set c i v) j = if j = i then some v else dz_get c j := by
  obtain q | q | k := c
  · simp only [dz_get, dz_set] at h ⊢
    by_cases hi : i < q.2.1
    · by_cases e : j = i
      · subst e; rw [if_pos hi, if_pos rfl, if_pos rfl]
      · rw [if_neg e, if_neg e]
    · rw [if_neg hi] at h; cases h
  · simp only [dz_get, dz_set] at h ⊢
    have hi : i < q.2.length := (List.getElem?_eq_some_iff.mp h).1
    by_cases e : j = i
    · subst e; rw [if_pos rfl]; exact List.getElem?_set_self hi
    · rw [if_neg e]; exact List.getElem?_set_ne (fun w => e w.symm)
  · cases h
theorem dz_al_set (c : cz_C) (i : Nat) (v : cz_V) : dz_al (dz_set c i v) = dz_al c := by
  obtain q | q | k := c
  · rfl
  · simp only [dz_al, dz_set, List.length_set]
  · rfl
/-- what a slot holds: code, bounds, tag, 1 where it must be younger than its cell, 2 where nothing is said of its tag, 3 or 4 where it is the first or second place behind -/
abbrev dz_D : Type := Nat × Int × Int × Nat × Nat
/-- a tag: 0 an object, 1 an array, 2 an exception; number of class, type or kind; 1 where it may be written; bounds of the length; slots (of an array: one) -/
abbrev dz_I : Type := Nat × Nat × Nat × (Int × Int) × List dz_D
/-- what is said of a slot's place: 1 null or younger than its cell, 3 the next place, 4 the one behind that -/
def dz_m4 (m r : Nat) (x : Int) : Prop := (m ≠ 1 ∨ x = 0 ∨ (r : Int) + 1 < x) ∧ (m ≠ 3 ∨ x = (r : Int) + 2) ∧ (m ≠ 4 ∨ x = (r : Int) + 3)
def dz_vd (τ : Nat → Nat) (r : Nat) (D : dz_D) (v : cz_V) : Prop := cz_fitc D.1 v = true ∧ (D.1 = 2 ∨ (D.2.1 ≤ dz_n v ∧ dz_n v ≤ D.2.2.1)) ∧ (D.2.2.2.2 = 2 ∨ dz_tg τ D.2.2.2.1 v) ∧ dz_m4 D.2.2.2.2 r (dz_n v)
def dz_sh (ti : dz_I) (c : cz_C) : Prop := match c with
  | .inl q => ti.1 = 1 ∧ q.1 = ti.2.1 ∧ ti.2.2.2.1.1 ≤ (q.2.1 : Int) ∧ (q.2.1 : Int) ≤ ti.2.2.2.1.2
  | .inr (.inl q) => ti.1 = 0 ∧ q.1 = ti.2.1 ∧ q.2.length = ti.2.2.2.2.length
  | .inr (.inr k) => ti.1 = 2 ∧ k = ti.2.1
noncomputable def dz_ds (ti : dz_I) (i : Nat) : Option dz_D := match ti.1 with
  | 0 => dz_nth ti.2.2.2.2 i
  | 1 => dz_nth ti.2.2.2.2 0
  | _ => none
abbrev dz_TT : Type := Nat → Option dz_I
def dz_cf (T : dz_TT) (τ : Nat → Nat) (h : cz_H) (r : Nat) : Prop := ∃ ti, T (τ r) = some ti ∧ dz_sh ti (h.2.2 r) ∧ (ti.2.2.1 = 0 ∨ 192 ≤ r) ∧ ∀ i v, dz_get (h.2.2 r) i = some v → ∃ D, dz_ds ti i = some D ∧ dz_vd τ r D v
def dz_HR (T : dz_TT) (τ : Nat → Nat) (h : cz_H) : Prop := ∀ r, τ r ≠ 0 → cz_hereB h r = true ∧ dz_cf T τ h r
/-- a slot whose value is known: place, tag, index, value -/
abbrev dz_M : Type := dz_E × Nat × dz_E × dz_A
def dz_mo (n : Nat) (ρ : Nat → Int) (τ : Nat → Nat) (h : cz_H) (m : dz_M) : Prop := ∃ (r i : Nat) (v : cz_V), dz_ok n ρ m.1 ((r : Int) + 1) ∧ (τ r = m.2.1 ∧ m.2.1 ≠ 0) ∧ dz_ok n ρ m.2.2.1 (i : Int) ∧ dz_get (h.2.2 r) i = some v ∧ dz_vo n ρ τ m.2.2.2 v
/-- an array: place, tag, length; from where, up to where, bounds of what lies there -/
abbrev dz_K : Type := dz_E × Nat × dz_E × dz_E × dz_E × dz_E × dz_E
def dz_ko (n : Nat) (ρ : Nat → Int) (τ : Nat → Nat) (h : cz_H) (k : dz_K) : Prop := ∃ (r : Nat) (q : Nat × Nat × (Nat → cz_V)) (s u lo hi : Int), dz_ok n ρ k.1 ((r : Int) + 1) ∧ (τ r = k.2.1 ∧ k.2.1 ≠ 0) ∧ h.2.2 r = .inl q ∧ dz_ok n ρ k.2.2.1 (q.2.1 : Int) ∧
  dz_ok n ρ k.2.2.2.1 s ∧ dz_ok n ρ k.2.2.2.2.1 u ∧ dz_ok n ρ k.2.2.2.2.2.1 lo ∧ dz_ok n ρ k.2.2.2.2.2.2 hi ∧ ∀ i : Nat, s ≤ i → (i : Int) < u → i < q.2.1 → lo ≤ dz_n (q.2.2 i) ∧ dz_n (q.2.2 i) ≤ hi
def dz_so (n : Nat) (ρ : Nat → Int) (τ : Nat → Nat) : List dz_A → List cz_V → Prop
  | [], [] => True
  | a :: r, v :: w => dz_vo n ρ τ a v ∧ dz_so n ρ τ r w
  | _, _ => False
def dz_lo (n : Nat) (ρ : Nat → Int) (τ : Nat → Nat) (l : List (Nat × dz_A)) (L : List (Nat × cz_V)) : Prop := ∀ q ∈ l, ∃ v, cz_find q.1 L = some v ∧ dz_vo n ρ τ q.2 v
/-- unknowns, what is known of them, locals, stack, slots, arrays, how many cells, how many slots -/
abbrev dz_S : Type := Nat × List dz_E × List (Nat × dz_A) × List dz_A × List dz_M × List dz_K × dz_E × dz_E
abbrev dz_X : Type := (Nat → Nat) → cz_H → Prop
/-- what is known of the cells alone -/
def dz_B (T : dz_TT) (X : dz_X) (τ : Nat → Nat) (h : cz_H) : Prop := dz_HR T τ h ∧ X τ h ∧ 192 ≤ h.1
def dz_G (T : dz_TT) (X : dz_X) (S : dz_S) (ρ : Nat → Int) (τ : Nat → Nat) (h : cz_H) (L : List (Nat × cz_V)) (st : List cz_V) : Prop :=
  dz_Gm S.1 ρ S.2.1 ∧ dz_lo S.1 ρ τ S.2.2.1 L ∧ dz_so S.1 ρ τ S.2.2.2.1 st ∧ (∀ m ∈ S.2.2.2.2.1, dz_mo S.1 ρ τ h m) ∧ (∀ k ∈ S.2.2.2.2.2.1, dz_ko S.1 ρ τ h k) ∧ dz_ok S.1 ρ S.2.2.2.2.2.2.1 (h.1 : Int) ∧ dz_ok S.1 ρ S.2.2.2.2.2.2.2 (h.2.1 : Int) ∧ dz_B T X τ h
/-- more unknowns, the old ones as they were -/
def dz_ext (n : Nat) (ρ : Nat → Int) (n' : Nat) (ρ' : Nat → Int) : Prop := n ≤ n' ∧ ∀ i, i < n → ρ' i = ρ i
theorem dz_ext.refl (n : Nat) (ρ : Nat → Int) : dz_ext n ρ n ρ := ⟨Nat.le_refl n, fun _ _ => rfl⟩
theorem dz_ext.trans {n n1 n2 : Nat} {ρ ρ1 ρ2 : Nat → Int} (h : dz_ext n ρ n1 ρ1) (h1 : dz_ext n1 ρ1 n2 ρ2) : dz_ext n ρ n2 ρ2 :=
  ⟨Nat.le_trans h.1 h1.1, fun i hi => (h1.2 i (Nat.lt_of_lt_of_le hi h.1)).trans (h.2 i hi)⟩
theorem dz_ext.up (n : Nat) (ρ : Nat → Int) (v : Int) : dz_ext n ρ (n + 1) (dz_up ρ n v) := ⟨Nat.le_succ n, fun i hi => by unfold dz_up; rw [if_neg (by omega)]⟩
section DzExt
variable {n n' : Nat} {ρ ρ' : Nat → Int} {τ : Nat → Nat} {h : cz_H}
theorem dz_ev_ext (hx : dz_ext n ρ n' ρ') : ∀ {l : dz_T}, (∀ t ∈ l, t.1 < n) → dz_ev ρ' l = dz_ev ρ l
  | [], _ => rfl
  | t :: r, hl => by
    show t.2 * ρ' t.1 + dz_ev ρ' r = t.2 * ρ t.1 + dz_ev ρ r
    rw [dz_ev_ext hx fun q hq => hl q (List.mem_cons_of_mem _ hq), hx.2 _ (hl t List.mem_cons_self)]
theorem dz_ok.ext (hx : dz_ext n ρ n' ρ') {e : dz_E} {x : Int} (he : dz_ok n ρ e x) : dz_ok n' ρ' e x :=
  ⟨fun t ht => Nat.lt_of_lt_of_le (he.1 t ht) hx.1, by rw [dz_ev_ext hx he.1]; exact he.2⟩
theorem dz_Gm.ext (hx : dz_ext n ρ n' ρ') {Γ : List dz_E} (hG : dz_Gm n ρ Γ) : dz_Gm n' ρ' Γ := fun c hc => by
  obtain ⟨x, h1, h2⟩ := hG c hc
  exact ⟨x, h1, h2.ext hx⟩
theorem dz_vo.ext (hx : dz_ext n ρ n' ρ') {a : dz_A} {v : cz_V} (hv : dz_vo n ρ τ a v) : dz_vo n' ρ' τ a v := ⟨hv.1, hv.2.1.ext hx, hv.2.2⟩
theorem dz_lo.ext (hx : dz_ext n ρ n' ρ') {l : List (Nat × dz_A)} {L : List (Nat × cz_V)} (hl : dz_lo n ρ τ l L) : dz_lo n' ρ' τ l L := fun q hq => by
  obtain ⟨v, h1, h2⟩ := hl q hq
  exact ⟨v, h1, h2.ext hx⟩
theorem dz_so.ext (hx : dz_ext n ρ n' ρ') : ∀ {l : List dz_A} {s : List cz_V}, dz_so n ρ τ l s → dz_so n' ρ' τ l s
  | [], [], _ => trivial
  | a :: r, v :: w, hs => ⟨hs.1.ext hx, dz_so.ext hx hs.2⟩
theorem dz_mo.ext (hx : dz_ext n ρ n' ρ') {m : dz_M} (hm : dz_mo n ρ τ h m) : dz_mo n' ρ' τ h m := by
  obtain ⟨r, i, v, h1, h2, h3, h4, h5⟩ := hm
  exact ⟨r, i, v, h1.ext hx, h2, h3.ext hx, h4, h5.ext hx⟩
theorem dz_ko.ext (hx : dz_ext n ρ n' ρ') {k : dz_K} (hk : dz_ko n ρ τ h k) : dz_ko n' ρ' τ h k := by
  obtain ⟨r, q, s, u, lo, hi, h1, h2, h3, h4, h5, h6, h7, h8, h9⟩ := hk
  exact ⟨r, q, s, u, lo, hi, h1.ext hx, h2, h3, h4.ext hx, h5.ext hx, h6.ext hx, h7.ext hx, h8.ext hx, h9⟩
end DzExt
theorem dz_G.ext {T : dz_TT} {X : dz_X} {S : dz_S} {n' : Nat} {ρ ρ' : Nat → Int} {τ : Nat → Nat} {h : cz_H} {L : List (Nat × cz_V)} {st : List cz_V} (hG : dz_G T X S ρ τ h L st) (hx : dz_ext S.1 ρ n' ρ') : dz_G T X (n', S.2) ρ' τ h L st := by
  obtain ⟨h1, h2, h3, h4, h5, h6, h7, h8⟩ := hG
  exact ⟨h1.ext hx, h2.ext hx, h3.ext hx, fun m hm => (h4 m hm).ext hx, fun k hk => (h5 k hk).ext hx, h6.ext hx, h7.ext hx, h8⟩
/-- an unknown more -/
theorem dz_G.fresh {T : dz_TT} {X : dz_X} {S : dz_S} {ρ : Nat → Int} {τ : Nat → Nat} {h : cz_H} {L : List (Nat × cz_V)} {st : List cz_V} (hG : dz_G T X S ρ τ h L st) (v : Int) : dz_G T X (S.1 + 1, S.2) (dz_up ρ S.1 v) τ h L st ∧ dz_ext S.1 ρ (S.1 + 1) (dz_up ρ S.1 v) ∧ dz_ok (S.1 + 1) (dz_up ρ S.1 v) (dz_var S.1) v :=
  ⟨hG.ext (dz_ext.up _ _ _), dz_ext.up _ _ _, dz_ok_new v⟩
theorem dz_G.know {T : dz_TT} {X : dz_X} {S : dz_S} {ρ : Nat → Int} {τ : Nat → Nat} {h : cz_H} {L : List (Nat × cz_V)} {st : List cz_V} (hG : dz_G T X S ρ τ h L st) {e : dz_E} {x : Int} (he : dz_ok S.1 ρ e x) (hx : 0 ≤ x) : dz_G T X (S.1, e :: S.2.1, S.2.2) ρ τ h L st :=
  ⟨hG.1.cons he hx, hG.2⟩
theorem dz_G.stack {T : dz_TT} {X : dz_X} {S : dz_S} {ρ : Nat → Int} {τ : Nat → Nat} {h : cz_H} {L : List (Nat × cz_V)} {st st' : List cz_V} {as : List dz_A} (hG : dz_G T X S ρ τ h L st) (hs : dz_so S.1 ρ τ as st') : dz_G T X (S.1, S.2.1, S.2.2.1, as, S.2.2.2.2) ρ τ h L st' :=
  ⟨hG.1, hG.2.1, hs, hG.2.2.2⟩
theorem dz_G.frame {T : dz_TT} {X : dz_X} {S : dz_S} {ρ : Nat → Int} {τ : Nat → Nat} {h : cz_H} {L L' : List (Nat × cz_V)} {st st' : List cz_V} {l : List (Nat × dz_A)} {as : List dz_A} (hG : dz_G T X S ρ τ h L st) (hl : dz_lo S.1 ρ τ l L') (hs : dz_so S.1 ρ τ as st') : dz_G T X (S.1, S.2.1, l, as, S.2.2.2.2) ρ τ h L' st' :=
  ⟨hG.1, hl, hs, hG.2.2.2⟩
