/-! What the model's LINES tell of a point. -/
theorem trt_set {group name q m : Int} (j : Nat) (hq : Int32.ofInt (Int32.ofInt 1 <<< (Int32.ofInt q &&& 31)).toInt = Int32.ofInt m) (hj : (Int32.ofInt m &&& Int32.ofInt m).toBitVec.getLsbD j = true) (hz : ∀ n : Nat, n < 6 → (n : Int) ≠ q → Int32.ofInt (Int32.ofInt 1 <<< (Int32.ofInt n &&& 31)).toInt &&& Int32.ofInt m = 0) (n0 : 0 ≤ name) (n1 : group = 2 → name < 6) (v : Int) : trt (sz_set group name 2 v) m ↔ (trt v m ∨ (group = 2 ∧ name = q)) := by
  unfold sz_set
  by_cases hg : group = 2
  · rw [if_pos ⟨rfl, hg⟩]
    have n1 := n1 hg
    unfold trt
    rw [Int32.ofInt_toInt, nz_and_or]
    by_cases hn : name = q
    · subst hn
      refine ⟨fun _ => Or.inr ⟨hg, rfl⟩, fun _ => ?_⟩
      rw [hq]
      intro w
      have w1 : Int32.ofInt v &&& Int32.ofInt m ||| Int32.ofInt m &&& Int32.ofInt m = 0 := Int32.toInt_inj.mp (show (Int32.ofInt v &&& Int32.ofInt m ||| Int32.ofInt m &&& Int32.ofInt m).toInt = (0 : Int32).toInt from w)
      have w2 : (Int32.ofInt v &&& Int32.ofInt m ||| Int32.ofInt m &&& Int32.ofInt m).toBitVec.getLsbD j = (0 : Int32).toBitVec.getLsbD j := by rw [w1]
      rw [Int32.toBitVec_or, BitVec.getLsbD_or, hj, Bool.or_true] at w2
      rw [show (0 : Int32).toBitVec.getLsbD j = false from BitVec.getLsbD_zero] at w2
      exact absurd w2 (by decide)
    · have e := hz name.toNat (by omega) (by omega)
      rw [Int.toNat_of_nonneg n0] at e
      rw [e, Int32.or_zero]
      exact ⟨Or.inl, fun w => w.elim id (fun w => absurd w.2 hn)⟩
  · rw [if_neg (fun w => hg w.2), if_neg (by omega), if_neg (by omega)]
    exact ⟨Or.inl, fun w => w.elim id (fun w => absurd w.1 hg)⟩
/-- a trait's number and its mask -/
def qm (q m : Int) : Prop := (q = 1 ∧ m = 2) ∨ (q = 2 ∧ m = 4) ∨ (q = 3 ∧ m = 8) ∨ (q = 4 ∧ m = 16)
theorem trt_sq {group name q m : Int} (hqm : qm q m) (n0 : 0 ≤ name) (n1 : group = 2 → name < 6) (v : Int) : trt (sz_set group name 2 v) m ↔ (trt v m ∨ (group = 2 ∧ name = q)) := by
  rcases hqm with ⟨e1, e2⟩ | ⟨e1, e2⟩ | ⟨e1, e2⟩ | ⟨e1, e2⟩ <;> subst e1 <;> subst e2
  · exact trt_set 1 (by decide) (by decide) (by decide) n0 n1 v
  · exact trt_set 2 (by decide) (by decide) (by decide) n0 n1 v
  · exact trt_set 3 (by decide) (by decide) (by decide) n0 n1 v
  · exact trt_set 4 (by decide) (by decide) (by decide) n0 n1 v
def cvr (v : vy) (p : Int) : Prop := v.1.2.1 ≤ p ∧ p ≤ v.1.2.2
def yc0 (v : vy) (p : Int) : Prop := v.1.1 = 0 ∧ cvr v p
def ycq (v : vy) (q p : Int) : Prop := (v.1.1 = 3 ∧ v.2.2.1.1 = 2 ∧ v.2.2.1.2 = q) ∧ cvr v p
def yc7 (v : vy) (p : Int) : Prop := (v.1.1 = 3 ∧ v.2.2.1.1 = 1) ∧ cvr v p
def ycf (v : vy) (c p : Int) : Prop := (v.1.1 = 2 ∧ v.2.2.1.1 = c) ∧ cvr v p
/-- the kinds of a LINE, one by one -/
theorem xd_cs {P : xD → Prop} (D : Int → xD) (v : vy) (p : Int) (hn : ¬ cvr v p → P (D p)) (h0 : v.1.1 = 0 → cvr v p → P (v.2.1, (D p).2)) (h1 : v.1.1 = 1 → cvr v p → P ((D p).1, (D p).2.1, (D p).2.2.1, (D p).2.2.2 ++ [v.2.2.2])) (h2 : v.1.1 = 2 → cvr v p → P (xf v.2.2.1.1 v.2.2.2.2.1 (D p))) (h3 : v.1.1 = 3 → cvr v p → P ((D p).1, (sz_set v.2.2.1.1 v.2.2.1.2 2 (D p).2.1.1, sz_set v.2.2.1.1 v.2.2.1.2 3 (D p).2.1.2.1, sz_set v.2.2.1.1 v.2.2.1.2 4 (D p).2.1.2.2), (D p).2.2)) (h4 : v.1.1 ≠ 0 → v.1.1 ≠ 1 → v.1.1 ≠ 2 → v.1.1 ≠ 3 → P (D p)) : P (xd D v p) := by
  unfold xd
  by_cases c : v.1.2.1 ≤ p ∧ p ≤ v.1.2.2
  · rw [if_pos c]
    by_cases k0 : v.1.1 = 0
    · rw [if_pos k0]; exact h0 k0 c
    · rw [if_neg k0]
      by_cases k1 : v.1.1 = 1
      · rw [if_pos k1]; exact h1 k1 c
      · rw [if_neg k1]
        by_cases k2 : v.1.1 = 2
        · rw [if_pos k2]; exact h2 k2 c
        · rw [if_neg k2]
          by_cases k3 : v.1.1 = 3
          · rw [if_pos k3]; exact h3 k3 c
          · rw [if_neg k3]; exact h4 k0 k1 k2 k3
  · rw [if_neg c]; exact hn c
section Yl
variable {α : Type} (f : xD → α) (C : vy → Prop) (g : vy → α) (p : Int)
theorem xds_none (h0 : ∀ D v, ¬ C v → f (xd D v p) = f (D p)) : ∀ (Es : List vy) (D : Int → xD), (∀ v ∈ Es, ¬ C v) → f (Es.foldl xd D p) = f (D p)
  | [], _, _ => rfl
  | v :: t, D, h => by
    show f (t.foldl xd (xd D v) p) = _
    rw [xds_none h0 t (xd D v) (fun w hw => h w (List.mem_cons_of_mem _ hw)), h0 D v (h v List.mem_cons_self)]
theorem xds_last (h0 : ∀ D v, ¬ C v → f (xd D v p) = f (D p)) (h1 : ∀ D v, C v → f (xd D v p) = g v) : ∀ (Es : List vy) (D : Int → xD) (k : Nat) (v : vy), Es[k]? = some v → C v → (∀ (j : Nat) y, k < j → Es[j]? = some y → ¬ C y) → f (Es.foldl xd D p) = g v
  | [], _, _, _, hk, _, _ => by cases hk
  | e :: t, D, 0, v, hk, hc, hn => by
    cases hk
    show f (t.foldl xd (xd D e) p) = _
    rw [xds_none f C p h0 t (xd D e) (fun w hw => by
      obtain ⟨j, hj⟩ := List.getElem?_of_mem hw
      exact hn (j + 1) w (Nat.succ_pos _) hj), h1 D e hc]
  | e :: t, D, k + 1, v, hk, hc, hn => by
    show f (t.foldl xd (xd D e) p) = _
    exact xds_last h0 h1 t (xd D e) k v hk hc (fun j y hj hy => hn (j + 1) y (by omega) hy)
end Yl
theorem mem_of_at {α : Type} {l : List α} {P : α → Prop} (h : ∀ (k : Nat) x, l[k]? = some x → P x) : ∀ x ∈ l, P x := fun x hx => by
  obtain ⟨j, hj⟩ := List.getElem?_of_mem hx
  exact h j x hj
/-- what a LINE 0 tells -/
theorem yd0_n {Es : List vy} {p : Int} (h : ∀ (k : Nat) v, Es[k]? = some v → ¬ yc0 v p) : (xDs Es p).1 = (17262, -1, -1, -1) :=
  xds_none (fun D => D.1) (fun v => yc0 v p) p (fun D v hv => xd_cs (P := fun X => X.1 = (D p).1) D v p (fun _ => rfl) (fun a c => absurd ⟨a, c⟩ hv) (fun _ _ => rfl) (fun _ _ => rfl) (fun _ _ => rfl) (fun _ _ _ _ => rfl)) Es xD0 (mem_of_at h)
theorem yd0_a {Es : List vy} {p : Int} {k : Nat} {v : vy} (hk : Es[k]? = some v) (hc : yc0 v p) (h : ∀ (j : Nat) y, k < j → Es[j]? = some y → ¬ yc0 y p) : (xDs Es p).1 = v.2.1 :=
  xds_last (fun D => D.1) (fun v => yc0 v p) (fun v => v.2.1) p (fun D v hv => xd_cs (P := fun X => X.1 = (D p).1) D v p (fun _ => rfl) (fun a c => absurd ⟨a, c⟩ hv) (fun _ _ => rfl) (fun _ _ => rfl) (fun _ _ => rfl) (fun _ _ _ _ => rfl)) (fun D v hv => xd_cs (P := fun X => X.1 = v.2.1) D v p (fun a => absurd hv.2 a) (fun _ _ => rfl) (fun a _ => by have := hv.1; omega) (fun a _ => by have := hv.1; omega) (fun a _ => by have := hv.1; omega) (fun a _ _ _ => absurd hv.1 a)) Es xD0 k v hk hc h
/-- its word break -/
theorem sz_set4 {gr nm v : Int} (h0 : gr = 1) : sz_set gr nm 4 v = nm := by unfold sz_set; rw [if_neg (by omega), if_neg (by omega), if_pos (by omega)]
theorem sz_set4n {gr nm v : Int} (h0 : gr = 0 ∨ gr = 2) : sz_set gr nm 4 v = v := by unfold sz_set; rw [if_neg (by omega), if_neg (by omega), if_neg (by omega)]
theorem yd7_n {Es : List vy} {p : Int} (gr : ∀ v ∈ Es, v.1.1 = 3 → 0 ≤ v.2.2.1.1 ∧ v.2.2.1.1 ≤ 2) (h : ∀ (k : Nat) v, Es[k]? = some v → ¬ yc7 v p) : (xDs Es p).2.1.2.2 = 0 :=
  xds_none (fun D => D.2.1.2.2) (fun v => yc7 v p ∨ ¬ (v.1.1 = 3 → 0 ≤ v.2.2.1.1 ∧ v.2.2.1.1 ≤ 2)) p (fun D v hv => xd_cs (P := fun X => X.2.1.2.2 = (D p).2.1.2.2) D v p (fun _ => rfl) (fun _ _ => rfl) (fun _ _ => rfl) (fun _ _ => rfl) (fun a c => sz_set4n (by
    have q := (Classical.not_not.mp (fun w => hv (Or.inr w))) a
    have q2 : v.2.2.1.1 ≠ 1 := fun w => hv (Or.inl ⟨⟨a, w⟩, c⟩)
    omega)) (fun _ _ _ _ => rfl)) Es xD0 (fun v hv w => w.elim (mem_of_at h v hv) (fun w => w (gr v hv)))
theorem yd7_a {Es : List vy} {p : Int} (gr : ∀ v ∈ Es, v.1.1 = 3 → 0 ≤ v.2.2.1.1 ∧ v.2.2.1.1 ≤ 2) {k : Nat} {v : vy} (hk : Es[k]? = some v) (hc : yc7 v p) (h : ∀ (j : Nat) y, k < j → Es[j]? = some y → ¬ yc7 y p) : (xDs Es p).2.1.2.2 = v.2.2.1.2 := by
  have key : ∀ (Es : List vy) (D : Int → xD) (k : Nat) (v : vy), (∀ v ∈ Es, v.1.1 = 3 → 0 ≤ v.2.2.1.1 ∧ v.2.2.1.1 ≤ 2) → Es[k]? = some v → yc7 v p → (∀ (j : Nat) y, k < j → Es[j]? = some y → ¬ yc7 y p) → (Es.foldl xd D p).2.1.2.2 = v.2.2.1.2 := by
    intro Es
    induction Es with
    | nil => intro D k v _ hk; cases hk
    | cons e t ih =>
      intro D k v gr hk hc hn
      cases k with
      | zero =>
        cases hk
        show (t.foldl xd (xd D e) p).2.1.2.2 = _
        have z := xds_none (fun D => D.2.1.2.2) (fun v => yc7 v p ∨ ¬ (v.1.1 = 3 → 0 ≤ v.2.2.1.1 ∧ v.2.2.1.1 ≤ 2)) p (fun D v hv => xd_cs (P := fun X => X.2.1.2.2 = (D p).2.1.2.2) D v p (fun _ => rfl) (fun _ _ => rfl) (fun _ _ => rfl) (fun _ _ => rfl) (fun a c => sz_set4n (by
          have q := (Classical.not_not.mp (fun w => hv (Or.inr w))) a
          have q2 : v.2.2.1.1 ≠ 1 := fun w => hv (Or.inl ⟨⟨a, w⟩, c⟩)
          omega)) (fun _ _ _ _ => rfl)) t (xd D e) (fun w hw q => q.elim (fun q => by
            obtain ⟨j, hj⟩ := List.getElem?_of_mem hw
            exact hn (j + 1) w (Nat.succ_pos _) hj q) (fun q => q (gr w (List.mem_cons_of_mem _ hw))))
        refine Eq.trans z ?_
        exact xd_cs (P := fun X => X.2.1.2.2 = e.2.2.1.2) D e p (fun a => absurd hc.2 a) (fun a _ => by have := hc.1.1; omega) (fun a _ => by have := hc.1.1; omega) (fun a _ => by have := hc.1.1; omega) (fun _ _ => sz_set4 hc.1.2) (fun _ _ _ a => absurd hc.1.1 a)
      | succ k => exact ih (xd D e) k v (fun w hw => gr w (List.mem_cons_of_mem _ hw)) hk hc (fun j y hj hy => hn (j + 1) y (by omega) hy)
  exact key Es xD0 k v gr hk hc h
/-- its traits -/
theorem ydq {p q m : Int} (hqm : qm q m) : ∀ (Es : List vy) (D : Int → xD), (∀ v ∈ Es, v.1.1 = 3 → 0 ≤ v.2.2.1.2 ∧ (v.2.2.1.1 = 2 → v.2.2.1.2 < 6)) → (trt (Es.foldl xd D p).2.1.1 m ↔ (trt (D p).2.1.1 m ∨ ∃ v ∈ Es, ycq v q p))
  | [], D, _ => ⟨Or.inl, fun w => w.elim id (fun ⟨v, hv, _⟩ => by cases hv)⟩
  | e :: t, D, hr => by
    show trt (t.foldl xd (xd D e) p).2.1.1 m ↔ _
    rw [ydq hqm t (xd D e) (fun v hv => hr v (List.mem_cons_of_mem _ hv))]
    have st : trt (xd D e p).2.1.1 m ↔ (trt (D p).2.1.1 m ∨ ycq e q p) := by
      refine xd_cs (P := fun X => trt X.2.1.1 m ↔ (trt (D p).2.1.1 m ∨ ycq e q p)) D e p (fun a => ?_) (fun a _ => ?_) (fun a _ => ?_) (fun a _ => ?_) (fun a c => ?_) (fun _ _ _ a => ?_)
      · exact ⟨Or.inl, fun w => w.elim id (fun w => absurd w.2 a)⟩
      · exact ⟨Or.inl, fun w => w.elim id (fun w => by have := w.1.1; omega)⟩
      · exact ⟨Or.inl, fun w => w.elim id (fun w => by have := w.1.1; omega)⟩
      · exact ⟨Or.inl, fun w => w.elim id (fun w => by have := w.1.1; omega)⟩
      · have r := hr e List.mem_cons_self a
        rw [trt_sq hqm r.1 r.2]
        exact ⟨fun w => w.elim Or.inl (fun w => Or.inr ⟨⟨a, w.1, w.2⟩, c⟩), fun w => w.elim Or.inl (fun w => Or.inr ⟨w.1.2.1, w.1.2.2⟩)⟩
      · exact ⟨Or.inl, fun w => w.elim id (fun w => absurd w.1.1 a)⟩
    rw [st]
    exact ⟨fun w => w.elim (fun w => w.elim Or.inl (fun w => Or.inr ⟨e, List.mem_cons_self, w⟩)) (fun ⟨v, v1, v2⟩ => Or.inr ⟨v, List.mem_cons_of_mem _ v1, v2⟩), fun w => w.elim (fun w => Or.inl (Or.inl w)) (fun ⟨v, v1, v2⟩ => by
      rcases List.mem_cons.mp v1 with e1 | e1
      · rw [e1] at v2; exact Or.inl (Or.inr v2)
      · exact Or.inr ⟨v, e1, v2⟩)⟩
theorem ydq_0 {p m q : Int} (hqm : qm q m) : ¬ trt (xD0 p).2.1.1 m := by
  rcases hqm with ⟨-, e2⟩ | ⟨-, e2⟩ | ⟨-, e2⟩ | ⟨-, e2⟩ <;> subst e2 <;> (unfold trt xD0; decide)
theorem ydq_i {Es : List vy} {p q m : Int} (hqm : qm q m) (hr : ∀ v ∈ Es, v.1.1 = 3 → 0 ≤ v.2.2.1.2 ∧ (v.2.2.1.1 = 2 → v.2.2.1.2 < 6)) : trt (xDs Es p).2.1.1 m ↔ ∃ (k : Nat) (v : vy), Es[k]? = some v ∧ ycq v q p := by
  unfold xDs
  rw [ydq hqm Es xD0 hr]
  refine ⟨fun w => w.elim (fun w => absurd w (ydq_0 hqm)) (fun ⟨v, v1, v2⟩ => ?_), fun ⟨k, v, v1, v2⟩ => Or.inr ⟨v, List.mem_of_getElem? v1, v2⟩⟩
  obtain ⟨j, hj⟩ := List.getElem?_of_mem v1
  exact ⟨j, v, hj, v2⟩
/-- its folds -/
def fdc (c : Int) (D : xD) : Option (List Int) := if c = 67 then D.2.2.1.1 else if c = 70 then D.2.2.1.2.1 else D.2.2.1.2.2
theorem fdc_xf {c c2 : Int} {l : List Int} {D : xD} (hc : c = 67 ∨ c = 70 ∨ c = 84) : fdc c (xf c2 l D) = if c2 = c then some l else fdc c D := by
  rcases hc with e | e | e <;> subst e
  · show (if c2 = 67 then some l else D.2.2.1.1) = _; rfl
  · show (if c2 = 70 then some l else D.2.2.1.2.1) = _; rfl
  · show (if c2 = 84 then some l else D.2.2.1.2.2) = _; rfl
theorem ydf_h0 {c p : Int} (hc : c = 67 ∨ c = 70 ∨ c = 84) (D : Int → xD) (v : vy) (hv : ¬ ycf v c p) : fdc c (xd D v p) = fdc c (D p) :=
  xd_cs (P := fun X => fdc c X = fdc c (D p)) D v p (fun _ => rfl) (fun _ _ => rfl) (fun _ _ => rfl) (fun a w => by rw [fdc_xf hc, if_neg (fun q => hv ⟨⟨a, q⟩, w⟩)]) (fun _ _ => rfl) (fun _ _ _ _ => rfl)
theorem ydf_n {Es : List vy} {c p : Int} (hc : c = 67 ∨ c = 70 ∨ c = 84) (h : ∀ (k : Nat) v, Es[k]? = some v → ¬ ycf v c p) : fdc c (xDs Es p) = none := by
  refine (xds_none (fdc c) (fun v => ycf v c p) p (ydf_h0 hc) Es xD0 (mem_of_at h)).trans ?_
  rcases hc with e | e | e <;> subst e <;> rfl
theorem ydf_a {Es : List vy} {c p : Int} (hc : c = 67 ∨ c = 70 ∨ c = 84) {k : Nat} {v : vy} (hk : Es[k]? = some v) (hv : ycf v c p) (h : ∀ (j : Nat) y, k < j → Es[j]? = some y → ¬ ycf y c p) : fdc c (xDs Es p) = some v.2.2.2.2.1 :=
  xds_last (fdc c) (fun v => ycf v c p) (fun v => some v.2.2.2.2.1) p (ydf_h0 hc) (fun D v hv => xd_cs (P := fun X => fdc c X = some v.2.2.2.2.1) D v p (fun a => absurd hv.2 a) (fun a _ => by have := hv.1.1; omega) (fun a _ => by have := hv.1.1; omega) (fun _ _ => by rw [fdc_xf hc, if_pos hv.1.2]) (fun a _ => by have := hv.1.1; omega) (fun _ _ a _ => absurd hv.1.1 a)) Es xD0 k v hk hv h
theorem fdo_c {loc : Int} {D : xD} : fdo loc D = if (loc = 1 ∨ loc = 2) ∧ fdc 84 D ≠ none then fdc 84 D else if fdc 70 D ≠ none then fdc 70 D else fdc 67 D := rfl
/-- its special cases -/
noncomputable def spl (p : Int) : List vy → List spz
  | [] => []
  | v :: t => @ite _ (v.1.1 = 1 ∧ cvr v p) (Classical.propDecidable _) (v.2.2.2 :: spl p t) (spl p t)
theorem spl_y {p : Int} {v : vy} {t : List vy} (h : v.1.1 = 1 ∧ cvr v p) : spl p (v :: t) = v.2.2.2 :: spl p t := by
  show @ite _ (v.1.1 = 1 ∧ cvr v p) (Classical.propDecidable _) (v.2.2.2 :: spl p t) (spl p t) = _
  rw [if_pos h]
theorem spl_n {p : Int} {v : vy} {t : List vy} (h : ¬ (v.1.1 = 1 ∧ cvr v p)) : spl p (v :: t) = spl p t := by
  show @ite _ (v.1.1 = 1 ∧ cvr v p) (Classical.propDecidable _) (v.2.2.2 :: spl p t) (spl p t) = _
  rw [if_neg h]
theorem yds {p : Int} : ∀ (Es : List vy) (D : Int → xD), (Es.foldl xd D p).2.2.2 = (D p).2.2.2 ++ spl p Es
  | [], D => (List.append_nil _).symm
  | e :: t, D => by
    show (t.foldl xd (xd D e) p).2.2.2 = _
    rw [yds t (xd D e)]
    by_cases h : e.1.1 = 1 ∧ cvr e p
    · rw [spl_y h]
      have st : (xd D e p).2.2.2 = (D p).2.2.2 ++ [e.2.2.2] := xd_cs (P := fun X => X.2.2.2 = (D p).2.2.2 ++ [e.2.2.2]) D e p (fun a => absurd h.2 a) (fun a _ => by have := h.1; omega) (fun _ _ => rfl) (fun a _ => by have := h.1; omega) (fun a _ => by have := h.1; omega) (fun _ a _ _ => absurd h.1 a)
      rw [st, List.append_assoc]; rfl
    · rw [spl_n h]
      have st : (xd D e p).2.2.2 = (D p).2.2.2 := xd_cs (P := fun X => X.2.2.2 = (D p).2.2.2) D e p (fun _ => rfl) (fun _ _ => rfl) (fun a c => absurd ⟨a, c⟩ h) (fun _ _ => rfl) (fun _ _ => rfl) (fun _ _ _ _ => rfl)
      rw [st]
theorem yds_a {Es : List vy} {p : Int} : (xDs Es p).2.2.2 = spl p Es := by unfold xDs; rw [yds]; rfl
theorem drop_at {α : Type} {l : List α} {k : Nat} {x : α} (h : l[k]? = some x) : l.drop k = x :: l.drop (k + 1) := by
  obtain ⟨w, e⟩ := List.getElem?_eq_some_iff.mp h
  rw [List.drop_eq_getElem_cons w, e]
/-! The model's LINES: their cells, and what they tell. -/
def ey (x : vz) : vy := x.2.2.2.2.2.2
def yD (Ls : List vz) : Int → xD := xDs (Ls.map ey)
section Yc
variable {h : cz_H} {l : Nat} {v : vy} {p : Int}
theorem vx_c0 (a : vx h l v) : (qz_I h l 0 = 0 ∧ qz_I h l 1 ≤ p ∧ p ≤ qz_I h l 2) ↔ yc0 v p := by
  obtain ⟨a0, a1, -⟩ := a
  unfold yc0 cvr
  rw [← a0]
  refine ⟨fun w => ?_, fun w => ?_⟩
  · obtain ⟨⟨b1, b2⟩, -⟩ := a1 (by omega)
    rw [← b1, ← b2]; exact w
  · obtain ⟨⟨b1, b2⟩, -⟩ := a1 (by have := w.1; omega)
    rw [b1, b2]; exact w
theorem vx_c7 (a : vx h l v) : (qz_I h l 0 = 3 ∧ qz_I h l 5 = 7 ∧ qz_I h l 1 ≤ p ∧ p ≤ qz_I h l 2) ↔ yc7 v p := by
  obtain ⟨a0, -, -, -, a4⟩ := a
  unfold yc7 cvr
  rw [← a0]
  have key : qz_I h l 0 = 3 → (qz_I h l 1 = v.1.2.1 ∧ qz_I h l 2 = v.1.2.2) ∧ (qz_I h l 5 = 7 ↔ v.2.2.1.1 = 1) := fun w => by
    obtain ⟨b1, b2, -, b4, b5, b6⟩ := a4 (by omega)
    refine ⟨b1, ?_⟩
    rw [b2]
    by_cases e0 : v.2.2.1.1 = 0
    · rw [if_pos e0]; omega
    · rw [if_neg e0]
      by_cases e1 : v.2.2.1.1 = 1
      · rw [if_pos e1]; omega
      · rw [if_neg e1]; have := b6 (by omega); omega
  refine ⟨fun w => ?_, fun w => ?_⟩
  · obtain ⟨k1, k2⟩ := key w.1
    rw [← k1.1, ← k1.2]; exact ⟨⟨w.1, k2.mp w.2.1⟩, w.2.2⟩
  · obtain ⟨k1, k2⟩ := key w.1.1
    rw [k1.1, k1.2]; exact ⟨w.1.1, k2.mpr w.1.2, w.2⟩
theorem vx_cq (a : vx h l v) {q : Int} (q1 : 1 ≤ q) (q4 : q ≤ 4) : (qz_I h l 0 = 3 ∧ qz_I h l 5 = q ∧ qz_I h l 1 ≤ p ∧ p ≤ qz_I h l 2) ↔ ycq v q p := by
  obtain ⟨a0, -, -, -, a4⟩ := a
  unfold ycq cvr
  rw [← a0]
  have key : qz_I h l 0 = 3 → (qz_I h l 1 = v.1.2.1 ∧ qz_I h l 2 = v.1.2.2) ∧ (qz_I h l 5 = q ↔ (v.2.2.1.1 = 2 ∧ v.2.2.1.2 = q)) := fun w => by
    obtain ⟨b1, b2, -, b4, b5, b6⟩ := a4 (by omega)
    refine ⟨b1, ?_⟩
    rw [b2]
    by_cases e0 : v.2.2.1.1 = 0
    · rw [if_pos e0]; omega
    · rw [if_neg e0]
      by_cases e1 : v.2.2.1.1 = 1
      · rw [if_pos e1]; omega
      · rw [if_neg e1]; have := b6 (by omega); omega
  refine ⟨fun w => ?_, fun w => ?_⟩
  · obtain ⟨k1, k2⟩ := key w.1
    have k3 := k2.mp w.2.1
    rw [← k1.1, ← k1.2]; exact ⟨⟨w.1, k3.1, k3.2⟩, w.2.2⟩
  · obtain ⟨k1, k2⟩ := key w.1.1
    rw [k1.1, k1.2]; exact ⟨w.1.1, k2.mpr w.1.2, w.2⟩
theorem vx_cf (a : vx h l v) {c : Int} : (qz_I h l 0 = 2 ∧ qz_I h l 1 = p ∧ qz_I h l 5 = c) ↔ ycf v c p := by
  obtain ⟨a0, -, -, a3, -⟩ := a
  unfold ycf cvr
  rw [← a0]
  refine ⟨fun w => ?_, fun w => ?_⟩
  · obtain ⟨⟨b1, b2⟩, b3, -⟩ := a3 (by omega)
    rw [← b3, b2, ← b1]; exact ⟨⟨w.1, w.2.2⟩, by omega, by omega⟩
  · obtain ⟨⟨b1, b2⟩, b3, -⟩ := a3 (by have := w.1.1; omega)
    have := w.2.1; have := w.2.2
    rw [b1, b3]; exact ⟨w.1.1, by omega, w.1.2⟩
theorem vx_c1 (a : vx h l v) : (qz_I h l 0 = 1 ∧ qz_I h l 1 = p) ↔ (v.1.1 = 1 ∧ cvr v p) := by
  obtain ⟨a0, -, a2, -, -⟩ := a
  unfold cvr
  rw [← a0]
  refine ⟨fun w => ?_, fun w => ?_⟩
  · obtain ⟨⟨b1, b2⟩, -⟩ := a2 (by omega)
    rw [b2, ← b1]; exact ⟨w.1, by omega, by omega⟩
  · obtain ⟨⟨b1, b2⟩, -⟩ := a2 (by have := w.1; omega)
    have := w.2.1; have := w.2.2
    rw [b1]; exact ⟨w.1, by omega⟩
end Yc
section Ym
variable {τ : Nat → Nat} {h : cz_H} {Ls : List vz} {b : Int}
theorem mI.x (hI : mI τ h Ls b) {k : Nat} {x : vz} (hx : Ls[k]? = some x) : vc h (qz_P h (ls h) k) x ∧ vx h (qz_P h (ls h) k) (ey x) := hI.2.2.2.2.2.2.2 k x hx
theorem mI.at2 (hI : mI τ h Ls b) {k : Int} (k0 : 0 ≤ k) (k1 : k < lc h) : ∃ x, Ls[k.toNat]? = some x ∧ vx h (qz_P h (ls h) k.toNat) (ey x) ∧ τ (qz_P h (ls h) k.toNat) = 13 ∧ 1 ≤ qz_I h (ls h) k.toNat := by
  obtain ⟨x, h1, h2, h3, h4⟩ := hI.at k0 k1
  exact ⟨x, h1, (hI.x h1).2, h3, h4⟩
theorem map_at {k : Nat} {v : vy} (hv : (Ls.map ey)[k]? = some v) : ∃ x, Ls[k]? = some x ∧ ey x = v := by
  rw [List.getElem?_map] at hv
  exact Option.map_eq_some_iff.mp hv
theorem at_map {k : Nat} {x : vz} (hx : Ls[k]? = some x) : (Ls.map ey)[k]? = some (ey x) := by rw [List.getElem?_map, hx]; rfl
theorem mI.gr (hI : mI τ h Ls b) : ∀ v ∈ Ls.map ey, v.1.1 = 3 → (0 ≤ v.2.2.1.1 ∧ v.2.2.1.1 ≤ 2) ∧ 0 ≤ v.2.2.1.2 ∧ (v.2.2.1.1 = 2 → v.2.2.1.2 < 6) := fun v hv e => by
  obtain ⟨k, hk⟩ := List.getElem?_of_mem hv
  obtain ⟨x, hx, rfl⟩ := map_at hk
  obtain ⟨-, -, -, -, a4⟩ := (hI.x hx).2
  obtain ⟨-, -, -, b4, b5, b6⟩ := a4 e
  exact ⟨b4, b5, b6⟩
theorem cov_y (hI : mI τ h Ls b) {k : Nat} {x : vz} (hx : Ls[k]? = some x) {p : Int} : cov x p ↔ yc0 (ey x) p := by
  obtain ⟨⟨⟨c0, c1, c2, -⟩, -⟩, a⟩ := hI.x hx
  rw [← vx_c0 a, c0, c1, c2]; rfl
theorem yD_n (hI : mI τ h Ls b) {p : Int} (hn : ∀ (j : Nat) y, Ls[j]? = some y → ¬ cov y p) : (yD Ls p).1 = (17262, -1, -1, -1) := yd0_n (fun k v hv => by
  obtain ⟨x, hx, rfl⟩ := map_at hv
  exact fun w => hn k x hx ((cov_y hI hx).mpr w))
theorem yD_a (hI : mI τ h Ls b) {p : Int} {k : Nat} {x : vz} (hx : Ls[k]? = some x) (hc : cov x p) (hn : ∀ (j : Nat) y, k < j → Ls[j]? = some y → ¬ cov y p) : (yD Ls p).1 = (ey x).2.1 := yd0_a (at_map hx) ((cov_y hI hx).mp hc) (fun j v hj hv => by
  obtain ⟨y, hy, rfl⟩ := map_at hv
  exact fun w => hn j y hj hy ((cov_y hI hy).mpr w))
end Ym
/-! The model: category, traits, breaks, folds, conditions. (Written by wip/p2/py/pvy5.py.) -/
section EzMy
variable {d : Nat} {h : cz_H} {τ : Nat → Nat} {Q : cz_F → Prop} {Ls : List vz} {b : Int} {u l : List Int} {loc : Int} {q : Nat}
theorem rd_mcat {p : Int} (hI : mI τ h Ls b) (pr : ez_rg p) (kx : ez_rg (yD Ls p).1.1 → Q (.inl (some (ez_v (.inl (yD Ls p).1.1))), h)) : ez_W (d + 1) cm_231 0 [(0, .inr (.inr (some (770)))), (1, .inl (p))] [] h Q := by
  have hB := hI.1
  have t770 : τ 770 = 75 := hI.2.1 770 (by decide)
  have b12 : 0 ≤ qz_I h 770 12 ∧ qz_I h 770 12 ≤ 512 := ez_fB (cl := 11) (k := 12) hB t770 tq_75 rfl rfl (by decide)
  have lce : lc h = qz_I h 770 12 := rfl
  have nls : lc h ≤ qz_N h (ls h) := hI.2.2.1.1.1
  refine ez_go (n := 2) (pc' := 2) (L' := [(0, .inr (.inr (some (770)))), (1, .inl (p))]) (st' := [.inl (p), .inr (.inr (some (770)))]) rfl ?_
  refine ez_cv hB t770 rfl rfl rfl tq_75 rfl rfl rfl (rd_told hI pr (fun hno => ez_KA ?_) (fun k x hx hc hno => ez_KA ?_))
  · skip
    refine ez_go (n := 2) (pc' := 7) (L' := [(2, .inr (.inr none)), (0, .inr (.inr (some (770)))), (1, .inl (p))]) (st' := [.inr (.inr none)]) rfl ?_
    refine ez_nonn0 rfl ?_
    refine ez_go (n := 2) (pc' := 20) (L' := [(2, .inr (.inr none)), (0, .inr (.inr (some (770)))), (1, .inl (p))]) (st' := [.inl (17262)]) rfl ?_
    exact ez_retI rfl rfl (by rw [yD_n hI hno] at kx; exact kx ⟨by decide, by decide⟩)
  · skip
    have hk : (k : Int) < lc h := by have := (List.getElem?_eq_some_iff.mp hx).1; have := hI.2.2.2.2.2.2.1; omega
    have tl := (hI.L hk).1
    have ax := (hI.x hx).2
    have a0 := ax.2.1 (by rw [← ax.1, (hI.x hx).1.1.1]; exact hc.1)
    have yd := yD_a hI hx hc hno
    refine ez_go (n := 2) (pc' := 7) (L' := [(2, .inr (.inr (some (qz_P h (ls h) k)))), (0, .inr (.inr (some (770)))), (1, .inl (p))]) (st' := [.inr (.inr (some (qz_P h (ls h) k)))]) rfl ?_
    refine ez_nonn1 rfl rfl ?_
    refine ez_go (n := 1) (pc' := 17) (L' := [(2, .inr (.inr (some (qz_P h (ls h) k)))), (0, .inr (.inr (some (770)))), (1, .inl (p))]) (st' := [.inr (.inr (some (qz_P h (ls h) k)))]) rfl ?_
    refine ez_gI hB tl rfl rfl tq_13 rfl rfl (fun (b1 : -2147483648 ≤ qz_I h (qz_P h (ls h) k) 3) (b1' : qz_I h (qz_P h (ls h) k) 3 ≤ 2147483647) => ?_)
    exact ez_retI rfl rfl (by rw [yd, ← a0.2.1] at kx; exact kx ⟨by omega, by omega⟩)

theorem rd_mhas_l {p q9 m : Int} (hI : mI τ h Ls b) (pr : ez_rg p) (hqm : qm q9 m) (k1 : trt (yD Ls p).2.1.1 m → Q (.inl (some (ez_v (.inl 1))), h)) (k0 : ¬ trt (yD Ls p).2.1.1 m → Q (.inl (some (ez_v (.inl 0))), h)) : ∀ (n : Nat) (k : Int), n = (lc h - k).toNat → 0 ≤ k → k ≤ lc h → (∀ (j : Nat) y, (j : Int) < k → Ls[j]? = some y → ¬ ycq (ey y) q9 p) → ez_W d cm_264 2 [(3, .inl (k)), (0, .inr (.inr (some (770)))), (1, .inl (p)), (2, .inl (q9))] [] h Q := by
  have hB := hI.1
  have t770 : τ 770 = 75 := hI.2.1 770 (by decide)
  have b12 : 0 ≤ qz_I h 770 12 ∧ qz_I h 770 12 ≤ 512 := ez_fB (cl := 11) (k := 12) hB t770 tq_75 rfl rfl (by decide)
  have lce : lc h = qz_I h 770 12 := rfl
  have nls : lc h ≤ qz_N h (ls h) := hI.2.2.1.1.1
  have q1 : 1 ≤ q9 := by unfold qm at hqm; omega
  have q4 : q9 ≤ 4 := by unfold qm at hqm; omega
  obtain ⟨pr0, pr1⟩ := id pr
  intro n
  induction n with
  | zero =>
    intro k hn0 k0' k1' hno
    refine ez_go (n := 2) (pc' := 4) (L' := [(3, .inl (k)), (0, .inr (.inr (some (770)))), (1, .inl (p)), (2, .inl (q9))]) (st' := [.inr (.inr (some (770))), .inl (k)]) rfl ?_
    refine ez_gI hB t770 rfl rfl tq_75 rfl rfl (fun (b1 : 0 ≤ qz_I h 770 12) (b1' : qz_I h 770 12 ≤ 512) => ?_)
    refine ez_icmp rfl rfl ⟨by first | omega | exact (sz_i32 _).1, by first | omega | exact (sz_i32 _).2⟩ ⟨by first | omega | exact (sz_i32 _).1, by first | omega | exact (sz_i32 _).2⟩ (fun (c2 : (qz_I h 770 12) ≤ (k)) => ?_) (fun (c2 : ¬((qz_I h 770 12) ≤ (k))) => ?_)
    · skip
      refine ez_go (n := 1) (pc' := 63) (L' := [(3, .inl (k)), (0, .inr (.inr (some (770)))), (1, .inl (p)), (2, .inl (q9))]) (st' := [.inl (0)]) rfl ?_
      exact ez_retZ rfl rfl (Or.inl rfl) (k0 (fun w => by obtain ⟨j, v, hj, hy⟩ := (ydq_i hqm (fun v hv e => (hI.gr v hv e).2)).mp w; obtain ⟨y, hy2, rfl⟩ := map_at hj; exact hno j y (by have := (List.getElem?_eq_some_iff.mp hy2).1; have := hI.2.2.2.2.2.2.1; omega) hy2 hy))
    · skip
      refine ez_go (n := 1) (pc' := 11) (L' := [(3, .inl (k)), (0, .inr (.inr (some (770)))), (1, .inl (p)), (2, .inl (q9))]) (st' := [.inr (.inr (some (770)))]) rfl ?_
      refine ez_gR hB t770 rfl rfl tq_75 rfl rfl (fun (t3 : _ = 18) (t3' : 1 ≤ qz_I h 770 11) => ?_)
      rw [show qz_P h 770 11 = ls h from rfl] at *
      refine ez_go (n := 1) (pc' := 15) (L' := [(3, .inl (k)), (0, .inr (.inr (some (770)))), (1, .inl (p)), (2, .inl (q9))]) (st' := [.inl (k), .inr (.inr (some ((ls h))))]) rfl ?_
      have n5 : 64 ≤ qz_N h ((ls h)) ∧ qz_N h ((ls h)) ≤ 4096 := ez_len hB t3 tq_18 rfl
      have y6 : 1 ≤ qz_I h ((ls h)) (k).toNat := (hI.at2 (k := k) (by omega) (by omega)).choose_spec.2.2.2
      have y7 : 0 ≤ qz_I h ((ls h)) (k).toNat ∧ qz_I h ((ls h)) (k).toNat ≤ 1000000 := ez_aB hB t3 tq_18 rfl rfl (by decide) (by omega) (by omega)
      have y7' : ((qz_P h ((ls h)) (k).toNat : Nat) : Int) + 1 = qz_I h ((ls h)) (k).toNat := by unfold qz_P; omega
      refine ez_aR hB t3 rfl tq_18 rfl rfl (by omega) (by omega) (by omega) (fun (t4 : _ = 13) => ?_)
      obtain ⟨x, hx, ax, -, -⟩ := hI.at2 (k := k) (by omega) (by omega)
      have cq := vx_cq (p := p) ax q1 q4
      refine ez_go (n := 2) (pc' := 20) (L' := [(4, .inr (.inr (some (qz_P h ((ls h)) (k).toNat)))), (3, .inl (k)), (0, .inr (.inr (some (770)))), (1, .inl (p)), (2, .inl (q9))]) (st' := [.inr (.inr (some (qz_P h ((ls h)) (k).toNat)))]) rfl ?_
      refine ez_gI hB t4 rfl rfl tq_13 rfl rfl (fun (b8 : 0 ≤ qz_I h (qz_P h ((ls h)) (k).toNat) 0) (b8' : qz_I h (qz_P h ((ls h)) (k).toNat) 0 ≤ 4) => ?_)
      refine ez_go (n := 1) (pc' := 24) (L' := [(4, .inr (.inr (some (qz_P h ((ls h)) (k).toNat)))), (3, .inl (k)), (0, .inr (.inr (some (770)))), (1, .inl (p)), (2, .inl (q9))]) (st' := [.inl (3), .inl (qz_I h (qz_P h ((ls h)) (k).toNat) 0)]) rfl ?_
      refine ez_icmp rfl rfl ⟨by first | omega | exact (sz_i32 _).1, by first | omega | exact (sz_i32 _).2⟩ ⟨by first | omega | exact (sz_i32 _).1, by first | omega | exact (sz_i32 _).2⟩ (fun (c9 : (qz_I h (qz_P h ((ls h)) (k).toNat) 0) ≠ (3)) => ?_) (fun (c9 : ¬((qz_I h (qz_P h ((ls h)) (k).toNat) 0) ≠ (3))) => ?_)
      · skip
        refine ez_go (n := 2) (pc' := 2) (L' := [(3, .inl (k + 1)), (4, .inr (.inr (some (qz_P h ((ls h)) (k).toNat)))), (0, .inr (.inr (some (770)))), (1, .inl (p)), (2, .inl (q9))]) (st' := []) rfl ?_
        exfalso; omega
      · skip
        refine ez_go (n := 1) (pc' := 29) (L' := [(4, .inr (.inr (some (qz_P h ((ls h)) (k).toNat)))), (3, .inl (k)), (0, .inr (.inr (some (770)))), (1, .inl (p)), (2, .inl (q9))]) (st' := [.inr (.inr (some (qz_P h ((ls h)) (k).toNat)))]) rfl ?_
        refine ez_gI hB t4 rfl rfl tq_13 rfl rfl (fun (b10 : -2147483648 ≤ qz_I h (qz_P h ((ls h)) (k).toNat) 5) (b10' : qz_I h (qz_P h ((ls h)) (k).toNat) 5 ≤ 2147483647) => ?_)
        refine ez_go (n := 1) (pc' := 33) (L' := [(4, .inr (.inr (some (qz_P h ((ls h)) (k).toNat)))), (3, .inl (k)), (0, .inr (.inr (some (770)))), (1, .inl (p)), (2, .inl (q9))]) (st' := [.inl (q9), .inl (qz_I h (qz_P h ((ls h)) (k).toNat) 5)]) rfl ?_
        refine ez_icmp rfl rfl ⟨by first | omega | exact (sz_i32 _).1, by first | omega | exact (sz_i32 _).2⟩ ⟨by first | omega | exact (sz_i32 _).1, by first | omega | exact (sz_i32 _).2⟩ (fun (c11 : (qz_I h (qz_P h ((ls h)) (k).toNat) 5) ≠ (q9)) => ?_) (fun (c11 : ¬((qz_I h (qz_P h ((ls h)) (k).toNat) 5) ≠ (q9))) => ?_)
        · skip
          refine ez_go (n := 2) (pc' := 2) (L' := [(3, .inl (k + 1)), (4, .inr (.inr (some (qz_P h ((ls h)) (k).toNat)))), (0, .inr (.inr (some (770)))), (1, .inl (p)), (2, .inl (q9))]) (st' := []) rfl ?_
          exfalso; omega
        · skip
          refine ez_go (n := 1) (pc' := 38) (L' := [(4, .inr (.inr (some (qz_P h ((ls h)) (k).toNat)))), (3, .inl (k)), (0, .inr (.inr (some (770)))), (1, .inl (p)), (2, .inl (q9))]) (st' := [.inr (.inr (some (qz_P h ((ls h)) (k).toNat)))]) rfl ?_
          refine ez_gI hB t4 rfl rfl tq_13 rfl rfl (fun (b12 : -2147483648 ≤ qz_I h (qz_P h ((ls h)) (k).toNat) 1) (b12' : qz_I h (qz_P h ((ls h)) (k).toNat) 1 ≤ 2147483647) => ?_)
          refine ez_go (n := 1) (pc' := 42) (L' := [(4, .inr (.inr (some (qz_P h ((ls h)) (k).toNat)))), (3, .inl (k)), (0, .inr (.inr (some (770)))), (1, .inl (p)), (2, .inl (q9))]) (st' := [.inl (p), .inl (qz_I h (qz_P h ((ls h)) (k).toNat) 1)]) rfl ?_
          refine ez_icmp rfl rfl ⟨by first | omega | exact (sz_i32 _).1, by first | omega | exact (sz_i32 _).2⟩ ⟨by first | omega | exact (sz_i32 _).1, by first | omega | exact (sz_i32 _).2⟩ (fun (c13 : (p) < (qz_I h (qz_P h ((ls h)) (k).toNat) 1)) => ?_) (fun (c13 : ¬((p) < (qz_I h (qz_P h ((ls h)) (k).toNat) 1))) => ?_)
          · skip
            refine ez_go (n := 2) (pc' := 2) (L' := [(3, .inl (k + 1)), (4, .inr (.inr (some (qz_P h ((ls h)) (k).toNat)))), (0, .inr (.inr (some (770)))), (1, .inl (p)), (2, .inl (q9))]) (st' := []) rfl ?_
            exfalso; omega
          · skip
            refine ez_go (n := 2) (pc' := 48) (L' := [(4, .inr (.inr (some (qz_P h ((ls h)) (k).toNat)))), (3, .inl (k)), (0, .inr (.inr (some (770)))), (1, .inl (p)), (2, .inl (q9))]) (st' := [.inr (.inr (some (qz_P h ((ls h)) (k).toNat))), .inl (p)]) rfl ?_
            refine ez_gI hB t4 rfl rfl tq_13 rfl rfl (fun (b14 : -2147483648 ≤ qz_I h (qz_P h ((ls h)) (k).toNat) 2) (b14' : qz_I h (qz_P h ((ls h)) (k).toNat) 2 ≤ 2147483647) => ?_)
            refine ez_icmp rfl rfl ⟨by first | omega | exact (sz_i32 _).1, by first | omega | exact (sz_i32 _).2⟩ ⟨by first | omega | exact (sz_i32 _).1, by first | omega | exact (sz_i32 _).2⟩ (fun (c15 : (qz_I h (qz_P h ((ls h)) (k).toNat) 2) < (p)) => ?_) (fun (c15 : ¬((qz_I h (qz_P h ((ls h)) (k).toNat) 2) < (p))) => ?_)
            · skip
              refine ez_go (n := 2) (pc' := 2) (L' := [(3, .inl (k + 1)), (4, .inr (.inr (some (qz_P h ((ls h)) (k).toNat)))), (0, .inr (.inr (some (770)))), (1, .inl (p)), (2, .inl (q9))]) (st' := []) rfl ?_
              exfalso; omega
            · skip
              refine ez_go (n := 1) (pc' := 55) (L' := [(4, .inr (.inr (some (qz_P h ((ls h)) (k).toNat)))), (3, .inl (k)), (0, .inr (.inr (some (770)))), (1, .inl (p)), (2, .inl (q9))]) (st' := [.inl (1)]) rfl ?_
              exact ez_retZ rfl rfl (Or.inr rfl) (k1 ((ydq_i hqm (fun v hv e => (hI.gr v hv e).2)).mpr ⟨k.toNat, ey x, at_map hx, cq.mp ⟨by omega, by omega, by omega, by omega⟩⟩))
  | succ n ih =>
    intro k hn0 k0' k1' hno
    refine ez_go (n := 2) (pc' := 4) (L' := [(3, .inl (k)), (0, .inr (.inr (some (770)))), (1, .inl (p)), (2, .inl (q9))]) (st' := [.inr (.inr (some (770))), .inl (k)]) rfl ?_
    refine ez_gI hB t770 rfl rfl tq_75 rfl rfl (fun (b1 : 0 ≤ qz_I h 770 12) (b1' : qz_I h 770 12 ≤ 512) => ?_)
    refine ez_icmp rfl rfl ⟨by first | omega | exact (sz_i32 _).1, by first | omega | exact (sz_i32 _).2⟩ ⟨by first | omega | exact (sz_i32 _).1, by first | omega | exact (sz_i32 _).2⟩ (fun (c2 : (qz_I h 770 12) ≤ (k)) => ?_) (fun (c2 : ¬((qz_I h 770 12) ≤ (k))) => ?_)
    · skip
      refine ez_go (n := 1) (pc' := 63) (L' := [(3, .inl (k)), (0, .inr (.inr (some (770)))), (1, .inl (p)), (2, .inl (q9))]) (st' := [.inl (0)]) rfl ?_
      exact ez_retZ rfl rfl (Or.inl rfl) (k0 (fun w => by obtain ⟨j, v, hj, hy⟩ := (ydq_i hqm (fun v hv e => (hI.gr v hv e).2)).mp w; obtain ⟨y, hy2, rfl⟩ := map_at hj; exact hno j y (by have := (List.getElem?_eq_some_iff.mp hy2).1; have := hI.2.2.2.2.2.2.1; omega) hy2 hy))
    · skip
      refine ez_go (n := 1) (pc' := 11) (L' := [(3, .inl (k)), (0, .inr (.inr (some (770)))), (1, .inl (p)), (2, .inl (q9))]) (st' := [.inr (.inr (some (770)))]) rfl ?_
      refine ez_gR hB t770 rfl rfl tq_75 rfl rfl (fun (t3 : _ = 18) (t3' : 1 ≤ qz_I h 770 11) => ?_)
      rw [show qz_P h 770 11 = ls h from rfl] at *
      refine ez_go (n := 1) (pc' := 15) (L' := [(3, .inl (k)), (0, .inr (.inr (some (770)))), (1, .inl (p)), (2, .inl (q9))]) (st' := [.inl (k), .inr (.inr (some ((ls h))))]) rfl ?_
      have n5 : 64 ≤ qz_N h ((ls h)) ∧ qz_N h ((ls h)) ≤ 4096 := ez_len hB t3 tq_18 rfl
      have y6 : 1 ≤ qz_I h ((ls h)) (k).toNat := (hI.at2 (k := k) (by omega) (by omega)).choose_spec.2.2.2
      have y7 : 0 ≤ qz_I h ((ls h)) (k).toNat ∧ qz_I h ((ls h)) (k).toNat ≤ 1000000 := ez_aB hB t3 tq_18 rfl rfl (by decide) (by omega) (by omega)
      have y7' : ((qz_P h ((ls h)) (k).toNat : Nat) : Int) + 1 = qz_I h ((ls h)) (k).toNat := by unfold qz_P; omega
      refine ez_aR hB t3 rfl tq_18 rfl rfl (by omega) (by omega) (by omega) (fun (t4 : _ = 13) => ?_)
      obtain ⟨x, hx, ax, -, -⟩ := hI.at2 (k := k) (by omega) (by omega)
      have cq := vx_cq (p := p) ax q1 q4
      refine ez_go (n := 2) (pc' := 20) (L' := [(4, .inr (.inr (some (qz_P h ((ls h)) (k).toNat)))), (3, .inl (k)), (0, .inr (.inr (some (770)))), (1, .inl (p)), (2, .inl (q9))]) (st' := [.inr (.inr (some (qz_P h ((ls h)) (k).toNat)))]) rfl ?_
      refine ez_gI hB t4 rfl rfl tq_13 rfl rfl (fun (b8 : 0 ≤ qz_I h (qz_P h ((ls h)) (k).toNat) 0) (b8' : qz_I h (qz_P h ((ls h)) (k).toNat) 0 ≤ 4) => ?_)
      refine ez_go (n := 1) (pc' := 24) (L' := [(4, .inr (.inr (some (qz_P h ((ls h)) (k).toNat)))), (3, .inl (k)), (0, .inr (.inr (some (770)))), (1, .inl (p)), (2, .inl (q9))]) (st' := [.inl (3), .inl (qz_I h (qz_P h ((ls h)) (k).toNat) 0)]) rfl ?_
      refine ez_icmp rfl rfl ⟨by first | omega | exact (sz_i32 _).1, by first | omega | exact (sz_i32 _).2⟩ ⟨by first | omega | exact (sz_i32 _).1, by first | omega | exact (sz_i32 _).2⟩ (fun (c9 : (qz_I h (qz_P h ((ls h)) (k).toNat) 0) ≠ (3)) => ?_) (fun (c9 : ¬((qz_I h (qz_P h ((ls h)) (k).toNat) 0) ≠ (3))) => ?_)
      · skip
        refine ez_go (n := 2) (pc' := 2) (L' := [(3, .inl (k + 1)), (4, .inr (.inr (some (qz_P h ((ls h)) (k).toNat)))), (0, .inr (.inr (some (770)))), (1, .inl (p)), (2, .inl (q9))]) (st' := []) rfl ?_
        refine ez_less [(3, .inl (k + 1)), (0, .inr (.inr (some (770)))), (1, .inl (p)), (2, .inl (q9))] rfl ⟨rfl, rfl, rfl, rfl, trivial⟩ ?_
        refine ih (k + 1) (by omega) (by omega) (by omega) (fun j y hj hy => ?_)
        by_cases e : j = k.toNat
        · subst e; rw [hx] at hy; cases hy; intro w; have w := cq.mpr w; omega
        · exact hno j y (by omega) hy
      · skip
        refine ez_go (n := 1) (pc' := 29) (L' := [(4, .inr (.inr (some (qz_P h ((ls h)) (k).toNat)))), (3, .inl (k)), (0, .inr (.inr (some (770)))), (1, .inl (p)), (2, .inl (q9))]) (st' := [.inr (.inr (some (qz_P h ((ls h)) (k).toNat)))]) rfl ?_
        refine ez_gI hB t4 rfl rfl tq_13 rfl rfl (fun (b10 : -2147483648 ≤ qz_I h (qz_P h ((ls h)) (k).toNat) 5) (b10' : qz_I h (qz_P h ((ls h)) (k).toNat) 5 ≤ 2147483647) => ?_)
        refine ez_go (n := 1) (pc' := 33) (L' := [(4, .inr (.inr (some (qz_P h ((ls h)) (k).toNat)))), (3, .inl (k)), (0, .inr (.inr (some (770)))), (1, .inl (p)), (2, .inl (q9))]) (st' := [.inl (q9), .inl (qz_I h (qz_P h ((ls h)) (k).toNat) 5)]) rfl ?_
        refine ez_icmp rfl rfl ⟨by first | omega | exact (sz_i32 _).1, by first | omega | exact (sz_i32 _).2⟩ ⟨by first | omega | exact (sz_i32 _).1, by first | omega | exact (sz_i32 _).2⟩ (fun (c11 : (qz_I h (qz_P h ((ls h)) (k).toNat) 5) ≠ (q9)) => ?_) (fun (c11 : ¬((qz_I h (qz_P h ((ls h)) (k).toNat) 5) ≠ (q9))) => ?_)
        · skip
          refine ez_go (n := 2) (pc' := 2) (L' := [(3, .inl (k + 1)), (4, .inr (.inr (some (qz_P h ((ls h)) (k).toNat)))), (0, .inr (.inr (some (770)))), (1, .inl (p)), (2, .inl (q9))]) (st' := []) rfl ?_
          refine ez_less [(3, .inl (k + 1)), (0, .inr (.inr (some (770)))), (1, .inl (p)), (2, .inl (q9))] rfl ⟨rfl, rfl, rfl, rfl, trivial⟩ ?_
          refine ih (k + 1) (by omega) (by omega) (by omega) (fun j y hj hy => ?_)
          by_cases e : j = k.toNat
          · subst e; rw [hx] at hy; cases hy; intro w; have w := cq.mpr w; omega
          · exact hno j y (by omega) hy
        · skip
          refine ez_go (n := 1) (pc' := 38) (L' := [(4, .inr (.inr (some (qz_P h ((ls h)) (k).toNat)))), (3, .inl (k)), (0, .inr (.inr (some (770)))), (1, .inl (p)), (2, .inl (q9))]) (st' := [.inr (.inr (some (qz_P h ((ls h)) (k).toNat)))]) rfl ?_
          refine ez_gI hB t4 rfl rfl tq_13 rfl rfl (fun (b12 : -2147483648 ≤ qz_I h (qz_P h ((ls h)) (k).toNat) 1) (b12' : qz_I h (qz_P h ((ls h)) (k).toNat) 1 ≤ 2147483647) => ?_)
          refine ez_go (n := 1) (pc' := 42) (L' := [(4, .inr (.inr (some (qz_P h ((ls h)) (k).toNat)))), (3, .inl (k)), (0, .inr (.inr (some (770)))), (1, .inl (p)), (2, .inl (q9))]) (st' := [.inl (p), .inl (qz_I h (qz_P h ((ls h)) (k).toNat) 1)]) rfl ?_
          refine ez_icmp rfl rfl ⟨by first | omega | exact (sz_i32 _).1, by first | omega | exact (sz_i32 _).2⟩ ⟨by first | omega | exact (sz_i32 _).1, by first | omega | exact (sz_i32 _).2⟩ (fun (c13 : (p) < (qz_I h (qz_P h ((ls h)) (k).toNat) 1)) => ?_) (fun (c13 : ¬((p) < (qz_I h (qz_P h ((ls h)) (k).toNat) 1))) => ?_)
          · skip
            refine ez_go (n := 2) (pc' := 2) (L' := [(3, .inl (k + 1)), (4, .inr (.inr (some (qz_P h ((ls h)) (k).toNat)))), (0, .inr (.inr (some (770)))), (1, .inl (p)), (2, .inl (q9))]) (st' := []) rfl ?_
            refine ez_less [(3, .inl (k + 1)), (0, .inr (.inr (some (770)))), (1, .inl (p)), (2, .inl (q9))] rfl ⟨rfl, rfl, rfl, rfl, trivial⟩ ?_
            refine ih (k + 1) (by omega) (by omega) (by omega) (fun j y hj hy => ?_)
            by_cases e : j = k.toNat
            · subst e; rw [hx] at hy; cases hy; intro w; have w := cq.mpr w; omega
            · exact hno j y (by omega) hy
          · skip
            refine ez_go (n := 2) (pc' := 48) (L' := [(4, .inr (.inr (some (qz_P h ((ls h)) (k).toNat)))), (3, .inl (k)), (0, .inr (.inr (some (770)))), (1, .inl (p)), (2, .inl (q9))]) (st' := [.inr (.inr (some (qz_P h ((ls h)) (k).toNat))), .inl (p)]) rfl ?_
            refine ez_gI hB t4 rfl rfl tq_13 rfl rfl (fun (b14 : -2147483648 ≤ qz_I h (qz_P h ((ls h)) (k).toNat) 2) (b14' : qz_I h (qz_P h ((ls h)) (k).toNat) 2 ≤ 2147483647) => ?_)
            refine ez_icmp rfl rfl ⟨by first | omega | exact (sz_i32 _).1, by first | omega | exact (sz_i32 _).2⟩ ⟨by first | omega | exact (sz_i32 _).1, by first | omega | exact (sz_i32 _).2⟩ (fun (c15 : (qz_I h (qz_P h ((ls h)) (k).toNat) 2) < (p)) => ?_) (fun (c15 : ¬((qz_I h (qz_P h ((ls h)) (k).toNat) 2) < (p))) => ?_)
            · skip
              refine ez_go (n := 2) (pc' := 2) (L' := [(3, .inl (k + 1)), (4, .inr (.inr (some (qz_P h ((ls h)) (k).toNat)))), (0, .inr (.inr (some (770)))), (1, .inl (p)), (2, .inl (q9))]) (st' := []) rfl ?_
              refine ez_less [(3, .inl (k + 1)), (0, .inr (.inr (some (770)))), (1, .inl (p)), (2, .inl (q9))] rfl ⟨rfl, rfl, rfl, rfl, trivial⟩ ?_
              refine ih (k + 1) (by omega) (by omega) (by omega) (fun j y hj hy => ?_)
              by_cases e : j = k.toNat
              · subst e; rw [hx] at hy; cases hy; intro w; have w := cq.mpr w; omega
              · exact hno j y (by omega) hy
            · skip
              refine ez_go (n := 1) (pc' := 55) (L' := [(4, .inr (.inr (some (qz_P h ((ls h)) (k).toNat)))), (3, .inl (k)), (0, .inr (.inr (some (770)))), (1, .inl (p)), (2, .inl (q9))]) (st' := [.inl (1)]) rfl ?_
              exact ez_retZ rfl rfl (Or.inr rfl) (k1 ((ydq_i hqm (fun v hv e => (hI.gr v hv e).2)).mpr ⟨k.toNat, ey x, at_map hx, cq.mp ⟨by omega, by omega, by omega, by omega⟩⟩))

theorem rd_mhas {p q9 m : Int} (hI : mI τ h Ls b) (pr : ez_rg p) (hqm : qm q9 m) (k1 : trt (yD Ls p).2.1.1 m → Q (.inl (some (ez_v (.inl 1))), h)) (k0 : ¬ trt (yD Ls p).2.1.1 m → Q (.inl (some (ez_v (.inl 0))), h)) : ez_W d cm_264 0 [(0, .inr (.inr (some (770)))), (1, .inl (p)), (2, .inl (q9))] [] h Q := by
  have hB := hI.1
  have t770 : τ 770 = 75 := hI.2.1 770 (by decide)
  have b12 : 0 ≤ qz_I h 770 12 ∧ qz_I h 770 12 ≤ 512 := ez_fB (cl := 11) (k := 12) hB t770 tq_75 rfl rfl (by decide)
  have lce : lc h = qz_I h 770 12 := rfl
  have nls : lc h ≤ qz_N h (ls h) := hI.2.2.1.1.1
  refine ez_go (n := 2) (pc' := 2) (L' := [(3, .inl (0)), (0, .inr (.inr (some (770)))), (1, .inl (p)), (2, .inl (q9))]) (st' := []) rfl ?_
  refine ez_less [(3, .inl (0)), (0, .inr (.inr (some (770)))), (1, .inl (p)), (2, .inl (q9))] rfl ⟨rfl, rfl, rfl, rfl, trivial⟩ ?_
  exact rd_mhas_l hI pr hqm k1 k0 _ 0 rfl (by omega) (by omega) (fun j y hj hy => by omega)

theorem rd_mcased {p : Int} (hI : mI τ h Ls b) (pr : ez_rg p) (k1 : caP (yD Ls p) → Q (.inl (some (ez_v (.inl 1))), h)) (k0 : ¬ caP (yD Ls p) → Q (.inl (some (ez_v (.inl 0))), h)) : ez_W (d + 2) cm_228 0 [(0, .inr (.inr (some (770)))), (1, .inl (p))] [] h Q := by
  have hB := hI.1
  have t770 : τ 770 = 75 := hI.2.1 770 (by decide)
  have b12 : 0 ≤ qz_I h 770 12 ∧ qz_I h 770 12 ≤ 512 := ez_fB (cl := 11) (k := 12) hB t770 tq_75 rfl rfl (by decide)
  have lce : lc h = qz_I h 770 12 := rfl
  have nls : lc h ≤ qz_N h (ls h) := hI.2.2.1.1.1
  refine ez_go (n := 2) (pc' := 2) (L' := [(0, .inr (.inr (some (770)))), (1, .inl (p))]) (st' := [.inl (p), .inr (.inr (some (770)))]) rfl ?_
  refine ez_cv hB t770 rfl rfl rfl tq_75 rfl rfl rfl (rd_mcat hI pr (fun cr => ez_K1 ?_))
  obtain ⟨cr1, cr2⟩ := id cr
  refine ez_go (n := 4) (pc' := 9) (L' := [(2, .inl ((yD Ls p).1.1)), (0, .inr (.inr (some (770)))), (1, .inl (p))]) (st' := [.inl (2), .inl (p), .inr (.inr (some (770)))]) rfl ?_
  refine ez_cv hB t770 rfl rfl rfl tq_75 rfl rfl rfl (rd_mhas (m := 4) hI pr (by unfold qm; omega) (fun wh => ez_K1 ?_) (fun wh => ez_K1 ?_))
  · skip
    refine ez_if rfl rfl ⟨by decide, by decide⟩ (fun _ => ?_) (fun (c1 : ¬((1 : Int) ≠ (0))) => absurd c1 (by decide))
    refine ez_go (n := 2) (pc' := 41) (L' := [(2, .inl ((yD Ls p).1.1)), (0, .inr (.inr (some (770)))), (1, .inl (p))]) (st' := [.inl (1)]) rfl ?_
    exact ez_retZ rfl rfl (Or.inr rfl) (k1 (by first | exact Or.inl wh | exact Or.inr (Or.inl (by omega)) | exact Or.inr (Or.inr (Or.inl (by omega))) | exact Or.inr (Or.inr (Or.inr (by omega)))))
  · skip
    refine ez_if rfl rfl ⟨by decide, by decide⟩ (fun (c2 : (0 : Int) ≠ (0)) => absurd c2 (by decide)) (fun _ => ?_)
    refine ez_go (n := 2) (pc' := 19) (L' := [(2, .inl ((yD Ls p).1.1)), (0, .inr (.inr (some (770)))), (1, .inl (p))]) (st' := [.inl (19573), .inl ((yD Ls p).1.1)]) rfl ?_
    refine ez_icmp rfl rfl ⟨by first | omega | exact (sz_i32 _).1, by first | omega | exact (sz_i32 _).2⟩ ⟨by first | omega | exact (sz_i32 _).1, by first | omega | exact (sz_i32 _).2⟩ (fun (c3 : ((yD Ls p).1.1) = (19573)) => ?_) (fun (c3 : ¬(((yD Ls p).1.1) = (19573))) => ?_)
    · skip
      refine ez_go (n := 2) (pc' := 41) (L' := [(2, .inl ((yD Ls p).1.1)), (0, .inr (.inr (some (770)))), (1, .inl (p))]) (st' := [.inl (1)]) rfl ?_
      exact ez_retZ rfl rfl (Or.inr rfl) (k1 (by first | exact Or.inl wh | exact Or.inr (Or.inl (by omega)) | exact Or.inr (Or.inr (Or.inl (by omega))) | exact Or.inr (Or.inr (Or.inr (by omega)))))
    · skip
      refine ez_go (n := 2) (pc' := 26) (L' := [(2, .inl ((yD Ls p).1.1)), (0, .inr (.inr (some (770)))), (1, .inl (p))]) (st' := [.inl (19564), .inl ((yD Ls p).1.1)]) rfl ?_
      refine ez_icmp rfl rfl ⟨by first | omega | exact (sz_i32 _).1, by first | omega | exact (sz_i32 _).2⟩ ⟨by first | omega | exact (sz_i32 _).1, by first | omega | exact (sz_i32 _).2⟩ (fun (c4 : ((yD Ls p).1.1) = (19564)) => ?_) (fun (c4 : ¬(((yD Ls p).1.1) = (19564))) => ?_)
      · skip
        refine ez_go (n := 2) (pc' := 41) (L' := [(2, .inl ((yD Ls p).1.1)), (0, .inr (.inr (some (770)))), (1, .inl (p))]) (st' := [.inl (1)]) rfl ?_
        exact ez_retZ rfl rfl (Or.inr rfl) (k1 (by first | exact Or.inl wh | exact Or.inr (Or.inl (by omega)) | exact Or.inr (Or.inr (Or.inl (by omega))) | exact Or.inr (Or.inr (Or.inr (by omega)))))
      · skip
        refine ez_go (n := 2) (pc' := 33) (L' := [(2, .inl ((yD Ls p).1.1)), (0, .inr (.inr (some (770)))), (1, .inl (p))]) (st' := [.inl (19572), .inl ((yD Ls p).1.1)]) rfl ?_
        refine ez_icmp rfl rfl ⟨by first | omega | exact (sz_i32 _).1, by first | omega | exact (sz_i32 _).2⟩ ⟨by first | omega | exact (sz_i32 _).1, by first | omega | exact (sz_i32 _).2⟩ (fun (c5 : ((yD Ls p).1.1) ≠ (19572)) => ?_) (fun (c5 : ¬(((yD Ls p).1.1) ≠ (19572))) => ?_)
        · skip
          refine ez_go (n := 1) (pc' := 41) (L' := [(2, .inl ((yD Ls p).1.1)), (0, .inr (.inr (some (770)))), (1, .inl (p))]) (st' := [.inl (0)]) rfl ?_
          exact ez_retZ rfl rfl (Or.inl rfl) (k0 (fun w => by rcases w with w | w | w | w; (· exact absurd w wh); all_goals (exfalso; omega)))
        · skip
          refine ez_go (n := 2) (pc' := 41) (L' := [(2, .inl ((yD Ls p).1.1)), (0, .inr (.inr (some (770)))), (1, .inl (p))]) (st' := [.inl (1)]) rfl ?_
          exact ez_retZ rfl rfl (Or.inr rfl) (k1 (by first | exact Or.inl wh | exact Or.inr (Or.inl (by omega)) | exact Or.inr (Or.inr (Or.inl (by omega))) | exact Or.inr (Or.inr (Or.inr (by omega)))))

theorem rd_mkind_l {p : Int} (hI : mI τ h Ls b) (pr : ez_rg p) (kx : ez_rg (yD Ls p).2.1.2.2 → Q (.inl (some (ez_v (.inl (yD Ls p).2.1.2.2))), h)) : ∀ (n : Nat) (k : Int), n = (k + 1).toNat → -1 ≤ k → k < lc h → (∀ (j : Nat) y, k < (j : Int) → Ls[j]? = some y → ¬ yc7 (ey y) p) → ez_W d cm_274 7 [(3, .inl (k)), (0, .inr (.inr (some (770)))), (1, .inl (p)), (2, .inl (7))] [] h Q := by
  have hB := hI.1
  have t770 : τ 770 = 75 := hI.2.1 770 (by decide)
  have b12 : 0 ≤ qz_I h 770 12 ∧ qz_I h 770 12 ≤ 512 := ez_fB (cl := 11) (k := 12) hB t770 tq_75 rfl rfl (by decide)
  have lce : lc h = qz_I h 770 12 := rfl
  have nls : lc h ≤ qz_N h (ls h) := hI.2.2.1.1.1
  obtain ⟨pr0, pr1⟩ := id pr
  intro n
  induction n with
  | zero =>
    intro k hn0 k0' k1' hno
    refine ez_go (n := 1) (pc' := 8) (L' := [(3, .inl (k)), (0, .inr (.inr (some (770)))), (1, .inl (p)), (2, .inl (7))]) (st' := [.inl (k)]) rfl ?_
    refine ez_if rfl rfl ⟨by first | omega | exact (sz_i32 _).1, by first | omega | exact (sz_i32 _).2⟩ (fun (c1 : (k) < (0)) => ?_) (fun (c1 : ¬((k) < (0))) => ?_)
    · skip
      refine ez_go (n := 1) (pc' := 68) (L' := [(3, .inl (k)), (0, .inr (.inr (some (770)))), (1, .inl (p)), (2, .inl (7))]) (st' := [.inl (0)]) rfl ?_
      exact ez_retI rfl rfl (by have e := yd7_n (p := p) (fun v hv e => (hI.gr v hv e).1) (fun j v hv => by obtain ⟨y, hy, rfl⟩ := map_at hv; exact hno j y (by omega) hy); rw [show (yD Ls p).2.1.2.2 = 0 from e] at kx; exact kx ⟨by decide, by decide⟩)
    · skip
      refine ez_go (n := 1) (pc' := 12) (L' := [(3, .inl (k)), (0, .inr (.inr (some (770)))), (1, .inl (p)), (2, .inl (7))]) (st' := [.inr (.inr (some (770)))]) rfl ?_
      refine ez_gR hB t770 rfl rfl tq_75 rfl rfl (fun (t2 : _ = 18) (t2' : 1 ≤ qz_I h 770 11) => ?_)
      rw [show qz_P h 770 11 = ls h from rfl] at *
      refine ez_go (n := 1) (pc' := 16) (L' := [(3, .inl (k)), (0, .inr (.inr (some (770)))), (1, .inl (p)), (2, .inl (7))]) (st' := [.inl (k), .inr (.inr (some ((ls h))))]) rfl ?_
      have n4 : 64 ≤ qz_N h ((ls h)) ∧ qz_N h ((ls h)) ≤ 4096 := ez_len hB t2 tq_18 rfl
      have y5 : 1 ≤ qz_I h ((ls h)) (k).toNat := (hI.at2 (k := k) (by omega) (by omega)).choose_spec.2.2.2
      have y6 : 0 ≤ qz_I h ((ls h)) (k).toNat ∧ qz_I h ((ls h)) (k).toNat ≤ 1000000 := ez_aB hB t2 tq_18 rfl rfl (by decide) (by omega) (by omega)
      have y6' : ((qz_P h ((ls h)) (k).toNat : Nat) : Int) + 1 = qz_I h ((ls h)) (k).toNat := by unfold qz_P; omega
      refine ez_aR hB t2 rfl tq_18 rfl rfl (by omega) (by omega) (by omega) (fun (t3 : _ = 13) => ?_)
      obtain ⟨x, hx, ax, -, -⟩ := hI.at2 (k := k) (by omega) (by omega)
      have cq := vx_c7 (p := p) ax
      refine ez_go (n := 2) (pc' := 21) (L' := [(4, .inr (.inr (some (qz_P h ((ls h)) (k).toNat)))), (3, .inl (k)), (0, .inr (.inr (some (770)))), (1, .inl (p)), (2, .inl (7))]) (st' := [.inr (.inr (some (qz_P h ((ls h)) (k).toNat)))]) rfl ?_
      refine ez_gI hB t3 rfl rfl tq_13 rfl rfl (fun (b7 : 0 ≤ qz_I h (qz_P h ((ls h)) (k).toNat) 0) (b7' : qz_I h (qz_P h ((ls h)) (k).toNat) 0 ≤ 4) => ?_)
      refine ez_go (n := 1) (pc' := 25) (L' := [(4, .inr (.inr (some (qz_P h ((ls h)) (k).toNat)))), (3, .inl (k)), (0, .inr (.inr (some (770)))), (1, .inl (p)), (2, .inl (7))]) (st' := [.inl (3), .inl (qz_I h (qz_P h ((ls h)) (k).toNat) 0)]) rfl ?_
      refine ez_icmp rfl rfl ⟨by first | omega | exact (sz_i32 _).1, by first | omega | exact (sz_i32 _).2⟩ ⟨by first | omega | exact (sz_i32 _).1, by first | omega | exact (sz_i32 _).2⟩ (fun (c8 : (qz_I h (qz_P h ((ls h)) (k).toNat) 0) ≠ (3)) => ?_) (fun (c8 : ¬((qz_I h (qz_P h ((ls h)) (k).toNat) 0) ≠ (3))) => ?_)
      · skip
        refine ez_go (n := 2) (pc' := 7) (L' := [(3, .inl (k + (-1))), (4, .inr (.inr (some (qz_P h ((ls h)) (k).toNat)))), (0, .inr (.inr (some (770)))), (1, .inl (p)), (2, .inl (7))]) (st' := []) rfl ?_
        exfalso; omega
      · skip
        refine ez_go (n := 1) (pc' := 30) (L' := [(4, .inr (.inr (some (qz_P h ((ls h)) (k).toNat)))), (3, .inl (k)), (0, .inr (.inr (some (770)))), (1, .inl (p)), (2, .inl (7))]) (st' := [.inr (.inr (some (qz_P h ((ls h)) (k).toNat)))]) rfl ?_
        refine ez_gI hB t3 rfl rfl tq_13 rfl rfl (fun (b9 : -2147483648 ≤ qz_I h (qz_P h ((ls h)) (k).toNat) 5) (b9' : qz_I h (qz_P h ((ls h)) (k).toNat) 5 ≤ 2147483647) => ?_)
        refine ez_go (n := 1) (pc' := 34) (L' := [(4, .inr (.inr (some (qz_P h ((ls h)) (k).toNat)))), (3, .inl (k)), (0, .inr (.inr (some (770)))), (1, .inl (p)), (2, .inl (7))]) (st' := [.inl (7), .inl (qz_I h (qz_P h ((ls h)) (k).toNat) 5)]) rfl ?_
        refine ez_icmp rfl rfl ⟨by first | omega | exact (sz_i32 _).1, by first | omega | exact (sz_i32 _).2⟩ ⟨by first | omega | exact (sz_i32 _).1, by first | omega | exact (sz_i32 _).2⟩ (fun (c10 : (qz_I h (qz_P h ((ls h)) (k).toNat) 5) ≠ (7)) => ?_) (fun (c10 : ¬((qz_I h (qz_P h ((ls h)) (k).toNat) 5) ≠ (7))) => ?_)
        · skip
          refine ez_go (n := 2) (pc' := 7) (L' := [(3, .inl (k + (-1))), (4, .inr (.inr (some (qz_P h ((ls h)) (k).toNat)))), (0, .inr (.inr (some (770)))), (1, .inl (p)), (2, .inl (7))]) (st' := []) rfl ?_
          exfalso; omega
        · skip
          refine ez_go (n := 1) (pc' := 39) (L' := [(4, .inr (.inr (some (qz_P h ((ls h)) (k).toNat)))), (3, .inl (k)), (0, .inr (.inr (some (770)))), (1, .inl (p)), (2, .inl (7))]) (st' := [.inr (.inr (some (qz_P h ((ls h)) (k).toNat)))]) rfl ?_
          refine ez_gI hB t3 rfl rfl tq_13 rfl rfl (fun (b11 : -2147483648 ≤ qz_I h (qz_P h ((ls h)) (k).toNat) 1) (b11' : qz_I h (qz_P h ((ls h)) (k).toNat) 1 ≤ 2147483647) => ?_)
          refine ez_go (n := 1) (pc' := 43) (L' := [(4, .inr (.inr (some (qz_P h ((ls h)) (k).toNat)))), (3, .inl (k)), (0, .inr (.inr (some (770)))), (1, .inl (p)), (2, .inl (7))]) (st' := [.inl (p), .inl (qz_I h (qz_P h ((ls h)) (k).toNat) 1)]) rfl ?_
          refine ez_icmp rfl rfl ⟨by first | omega | exact (sz_i32 _).1, by first | omega | exact (sz_i32 _).2⟩ ⟨by first | omega | exact (sz_i32 _).1, by first | omega | exact (sz_i32 _).2⟩ (fun (c12 : (p) < (qz_I h (qz_P h ((ls h)) (k).toNat) 1)) => ?_) (fun (c12 : ¬((p) < (qz_I h (qz_P h ((ls h)) (k).toNat) 1))) => ?_)
          · skip
            refine ez_go (n := 2) (pc' := 7) (L' := [(3, .inl (k + (-1))), (4, .inr (.inr (some (qz_P h ((ls h)) (k).toNat)))), (0, .inr (.inr (some (770)))), (1, .inl (p)), (2, .inl (7))]) (st' := []) rfl ?_
            exfalso; omega
          · skip
            refine ez_go (n := 2) (pc' := 49) (L' := [(4, .inr (.inr (some (qz_P h ((ls h)) (k).toNat)))), (3, .inl (k)), (0, .inr (.inr (some (770)))), (1, .inl (p)), (2, .inl (7))]) (st' := [.inr (.inr (some (qz_P h ((ls h)) (k).toNat))), .inl (p)]) rfl ?_
            refine ez_gI hB t3 rfl rfl tq_13 rfl rfl (fun (b13 : -2147483648 ≤ qz_I h (qz_P h ((ls h)) (k).toNat) 2) (b13' : qz_I h (qz_P h ((ls h)) (k).toNat) 2 ≤ 2147483647) => ?_)
            refine ez_icmp rfl rfl ⟨by first | omega | exact (sz_i32 _).1, by first | omega | exact (sz_i32 _).2⟩ ⟨by first | omega | exact (sz_i32 _).1, by first | omega | exact (sz_i32 _).2⟩ (fun (c14 : (qz_I h (qz_P h ((ls h)) (k).toNat) 2) < (p)) => ?_) (fun (c14 : ¬((qz_I h (qz_P h ((ls h)) (k).toNat) 2) < (p))) => ?_)
            · skip
              refine ez_go (n := 2) (pc' := 7) (L' := [(3, .inl (k + (-1))), (4, .inr (.inr (some (qz_P h ((ls h)) (k).toNat)))), (0, .inr (.inr (some (770)))), (1, .inl (p)), (2, .inl (7))]) (st' := []) rfl ?_
              exfalso; omega
            · skip
              refine ez_go (n := 1) (pc' := 57) (L' := [(4, .inr (.inr (some (qz_P h ((ls h)) (k).toNat)))), (3, .inl (k)), (0, .inr (.inr (some (770)))), (1, .inl (p)), (2, .inl (7))]) (st' := [.inr (.inr (some (qz_P h ((ls h)) (k).toNat)))]) rfl ?_
              refine ez_gI hB t3 rfl rfl tq_13 rfl rfl (fun (b15 : -2147483648 ≤ qz_I h (qz_P h ((ls h)) (k).toNat) 6) (b15' : qz_I h (qz_P h ((ls h)) (k).toNat) 6 ≤ 2147483647) => ?_)
              have c7 := cq.mp ⟨by omega, by omega, by omega, by omega⟩
              have e6 := (ax.2.2.2.2 c7.1.1).2.2.1 (by have := c7.1.2; omega)
              exact ez_retI rfl rfl (by have e := yd7_a (p := p) (fun v hv e => (hI.gr v hv e).1) (at_map hx) c7 (fun j v hj hv => by obtain ⟨y, hy, rfl⟩ := map_at hv; exact hno j y (by omega) hy); rw [show (yD Ls p).2.1.2.2 = (ey x).2.2.1.2 from e, ← e6] at kx; exact kx ⟨by omega, by omega⟩)
  | succ n ih =>
    intro k hn0 k0' k1' hno
    refine ez_go (n := 1) (pc' := 8) (L' := [(3, .inl (k)), (0, .inr (.inr (some (770)))), (1, .inl (p)), (2, .inl (7))]) (st' := [.inl (k)]) rfl ?_
    refine ez_if rfl rfl ⟨by first | omega | exact (sz_i32 _).1, by first | omega | exact (sz_i32 _).2⟩ (fun (c1 : (k) < (0)) => ?_) (fun (c1 : ¬((k) < (0))) => ?_)
    · skip
      refine ez_go (n := 1) (pc' := 68) (L' := [(3, .inl (k)), (0, .inr (.inr (some (770)))), (1, .inl (p)), (2, .inl (7))]) (st' := [.inl (0)]) rfl ?_
      exact ez_retI rfl rfl (by have e := yd7_n (p := p) (fun v hv e => (hI.gr v hv e).1) (fun j v hv => by obtain ⟨y, hy, rfl⟩ := map_at hv; exact hno j y (by omega) hy); rw [show (yD Ls p).2.1.2.2 = 0 from e] at kx; exact kx ⟨by decide, by decide⟩)
    · skip
      refine ez_go (n := 1) (pc' := 12) (L' := [(3, .inl (k)), (0, .inr (.inr (some (770)))), (1, .inl (p)), (2, .inl (7))]) (st' := [.inr (.inr (some (770)))]) rfl ?_
      refine ez_gR hB t770 rfl rfl tq_75 rfl rfl (fun (t2 : _ = 18) (t2' : 1 ≤ qz_I h 770 11) => ?_)
      rw [show qz_P h 770 11 = ls h from rfl] at *
      refine ez_go (n := 1) (pc' := 16) (L' := [(3, .inl (k)), (0, .inr (.inr (some (770)))), (1, .inl (p)), (2, .inl (7))]) (st' := [.inl (k), .inr (.inr (some ((ls h))))]) rfl ?_
      have n4 : 64 ≤ qz_N h ((ls h)) ∧ qz_N h ((ls h)) ≤ 4096 := ez_len hB t2 tq_18 rfl
      have y5 : 1 ≤ qz_I h ((ls h)) (k).toNat := (hI.at2 (k := k) (by omega) (by omega)).choose_spec.2.2.2
      have y6 : 0 ≤ qz_I h ((ls h)) (k).toNat ∧ qz_I h ((ls h)) (k).toNat ≤ 1000000 := ez_aB hB t2 tq_18 rfl rfl (by decide) (by omega) (by omega)
      have y6' : ((qz_P h ((ls h)) (k).toNat : Nat) : Int) + 1 = qz_I h ((ls h)) (k).toNat := by unfold qz_P; omega
      refine ez_aR hB t2 rfl tq_18 rfl rfl (by omega) (by omega) (by omega) (fun (t3 : _ = 13) => ?_)
      obtain ⟨x, hx, ax, -, -⟩ := hI.at2 (k := k) (by omega) (by omega)
      have cq := vx_c7 (p := p) ax
      refine ez_go (n := 2) (pc' := 21) (L' := [(4, .inr (.inr (some (qz_P h ((ls h)) (k).toNat)))), (3, .inl (k)), (0, .inr (.inr (some (770)))), (1, .inl (p)), (2, .inl (7))]) (st' := [.inr (.inr (some (qz_P h ((ls h)) (k).toNat)))]) rfl ?_
      refine ez_gI hB t3 rfl rfl tq_13 rfl rfl (fun (b7 : 0 ≤ qz_I h (qz_P h ((ls h)) (k).toNat) 0) (b7' : qz_I h (qz_P h ((ls h)) (k).toNat) 0 ≤ 4) => ?_)
      refine ez_go (n := 1) (pc' := 25) (L' := [(4, .inr (.inr (some (qz_P h ((ls h)) (k).toNat)))), (3, .inl (k)), (0, .inr (.inr (some (770)))), (1, .inl (p)), (2, .inl (7))]) (st' := [.inl (3), .inl (qz_I h (qz_P h ((ls h)) (k).toNat) 0)]) rfl ?_
      refine ez_icmp rfl rfl ⟨by first | omega | exact (sz_i32 _).1, by first | omega | exact (sz_i32 _).2⟩ ⟨by first | omega | exact (sz_i32 _).1, by first | omega | exact (sz_i32 _).2⟩ (fun (c8 : (qz_I h (qz_P h ((ls h)) (k).toNat) 0) ≠ (3)) => ?_) (fun (c8 : ¬((qz_I h (qz_P h ((ls h)) (k).toNat) 0) ≠ (3))) => ?_)
      · skip
        refine ez_go (n := 2) (pc' := 7) (L' := [(3, .inl (k + (-1))), (4, .inr (.inr (some (qz_P h ((ls h)) (k).toNat)))), (0, .inr (.inr (some (770)))), (1, .inl (p)), (2, .inl (7))]) (st' := []) rfl ?_
        refine ez_less [(3, .inl (k + (-1))), (0, .inr (.inr (some (770)))), (1, .inl (p)), (2, .inl (7))] rfl ⟨rfl, rfl, rfl, rfl, trivial⟩ ?_
        refine ih (k + (-1)) (by omega) (by omega) (by omega) (fun j y hj hy => ?_)
        by_cases e : j = k.toNat
        · subst e; rw [hx] at hy; cases hy; intro w; have w := cq.mpr w; omega
        · exact hno j y (by omega) hy
      · skip
        refine ez_go (n := 1) (pc' := 30) (L' := [(4, .inr (.inr (some (qz_P h ((ls h)) (k).toNat)))), (3, .inl (k)), (0, .inr (.inr (some (770)))), (1, .inl (p)), (2, .inl (7))]) (st' := [.inr (.inr (some (qz_P h ((ls h)) (k).toNat)))]) rfl ?_
        refine ez_gI hB t3 rfl rfl tq_13 rfl rfl (fun (b9 : -2147483648 ≤ qz_I h (qz_P h ((ls h)) (k).toNat) 5) (b9' : qz_I h (qz_P h ((ls h)) (k).toNat) 5 ≤ 2147483647) => ?_)
        refine ez_go (n := 1) (pc' := 34) (L' := [(4, .inr (.inr (some (qz_P h ((ls h)) (k).toNat)))), (3, .inl (k)), (0, .inr (.inr (some (770)))), (1, .inl (p)), (2, .inl (7))]) (st' := [.inl (7), .inl (qz_I h (qz_P h ((ls h)) (k).toNat) 5)]) rfl ?_
        refine ez_icmp rfl rfl ⟨by first | omega | exact (sz_i32 _).1, by first | omega | exact (sz_i32 _).2⟩ ⟨by first | omega | exact (sz_i32 _).1, by first | omega | exact (sz_i32 _).2⟩ (fun (c10 : (qz_I h (qz_P h ((ls h)) (k).toNat) 5) ≠ (7)) => ?_) (fun (c10 : ¬((qz_I h (qz_P h ((ls h)) (k).toNat) 5) ≠ (7))) => ?_)
        · skip
          refine ez_go (n := 2) (pc' := 7) (L' := [(3, .inl (k + (-1))), (4, .inr (.inr (some (qz_P h ((ls h)) (k).toNat)))), (0, .inr (.inr (some (770)))), (1, .inl (p)), (2, .inl (7))]) (st' := []) rfl ?_
          refine ez_less [(3, .inl (k + (-1))), (0, .inr (.inr (some (770)))), (1, .inl (p)), (2, .inl (7))] rfl ⟨rfl, rfl, rfl, rfl, trivial⟩ ?_
          refine ih (k + (-1)) (by omega) (by omega) (by omega) (fun j y hj hy => ?_)
          by_cases e : j = k.toNat
          · subst e; rw [hx] at hy; cases hy; intro w; have w := cq.mpr w; omega
          · exact hno j y (by omega) hy
        · skip
          refine ez_go (n := 1) (pc' := 39) (L' := [(4, .inr (.inr (some (qz_P h ((ls h)) (k).toNat)))), (3, .inl (k)), (0, .inr (.inr (some (770)))), (1, .inl (p)), (2, .inl (7))]) (st' := [.inr (.inr (some (qz_P h ((ls h)) (k).toNat)))]) rfl ?_
          refine ez_gI hB t3 rfl rfl tq_13 rfl rfl (fun (b11 : -2147483648 ≤ qz_I h (qz_P h ((ls h)) (k).toNat) 1) (b11' : qz_I h (qz_P h ((ls h)) (k).toNat) 1 ≤ 2147483647) => ?_)
          refine ez_go (n := 1) (pc' := 43) (L' := [(4, .inr (.inr (some (qz_P h ((ls h)) (k).toNat)))), (3, .inl (k)), (0, .inr (.inr (some (770)))), (1, .inl (p)), (2, .inl (7))]) (st' := [.inl (p), .inl (qz_I h (qz_P h ((ls h)) (k).toNat) 1)]) rfl ?_
          refine ez_icmp rfl rfl ⟨by first | omega | exact (sz_i32 _).1, by first | omega | exact (sz_i32 _).2⟩ ⟨by first | omega | exact (sz_i32 _).1, by first | omega | exact (sz_i32 _).2⟩ (fun (c12 : (p) < (qz_I h (qz_P h ((ls h)) (k).toNat) 1)) => ?_) (fun (c12 : ¬((p) < (qz_I h (qz_P h ((ls h)) (k).toNat) 1))) => ?_)
          · skip
            refine ez_go (n := 2) (pc' := 7) (L' := [(3, .inl (k + (-1))), (4, .inr (.inr (some (qz_P h ((ls h)) (k).toNat)))), (0, .inr (.inr (some (770)))), (1, .inl (p)), (2, .inl (7))]) (st' := []) rfl ?_
            refine ez_less [(3, .inl (k + (-1))), (0, .inr (.inr (some (770)))), (1, .inl (p)), (2, .inl (7))] rfl ⟨rfl, rfl, rfl, rfl, trivial⟩ ?_
            refine ih (k + (-1)) (by omega) (by omega) (by omega) (fun j y hj hy => ?_)
            by_cases e : j = k.toNat
            · subst e; rw [hx] at hy; cases hy; intro w; have w := cq.mpr w; omega
            · exact hno j y (by omega) hy
          · skip
            refine ez_go (n := 2) (pc' := 49) (L' := [(4, .inr (.inr (some (qz_P h ((ls h)) (k).toNat)))), (3, .inl (k)), (0, .inr (.inr (some (770)))), (1, .inl (p)), (2, .inl (7))]) (st' := [.inr (.inr (some (qz_P h ((ls h)) (k).toNat))), .inl (p)]) rfl ?_
            refine ez_gI hB t3 rfl rfl tq_13 rfl rfl (fun (b13 : -2147483648 ≤ qz_I h (qz_P h ((ls h)) (k).toNat) 2) (b13' : qz_I h (qz_P h ((ls h)) (k).toNat) 2 ≤ 2147483647) => ?_)
            refine ez_icmp rfl rfl ⟨by first | omega | exact (sz_i32 _).1, by first | omega | exact (sz_i32 _).2⟩ ⟨by first | omega | exact (sz_i32 _).1, by first | omega | exact (sz_i32 _).2⟩ (fun (c14 : (qz_I h (qz_P h ((ls h)) (k).toNat) 2) < (p)) => ?_) (fun (c14 : ¬((qz_I h (qz_P h ((ls h)) (k).toNat) 2) < (p))) => ?_)
            · skip
              refine ez_go (n := 2) (pc' := 7) (L' := [(3, .inl (k + (-1))), (4, .inr (.inr (some (qz_P h ((ls h)) (k).toNat)))), (0, .inr (.inr (some (770)))), (1, .inl (p)), (2, .inl (7))]) (st' := []) rfl ?_
              refine ez_less [(3, .inl (k + (-1))), (0, .inr (.inr (some (770)))), (1, .inl (p)), (2, .inl (7))] rfl ⟨rfl, rfl, rfl, rfl, trivial⟩ ?_
              refine ih (k + (-1)) (by omega) (by omega) (by omega) (fun j y hj hy => ?_)
              by_cases e : j = k.toNat
              · subst e; rw [hx] at hy; cases hy; intro w; have w := cq.mpr w; omega
              · exact hno j y (by omega) hy
            · skip
              refine ez_go (n := 1) (pc' := 57) (L' := [(4, .inr (.inr (some (qz_P h ((ls h)) (k).toNat)))), (3, .inl (k)), (0, .inr (.inr (some (770)))), (1, .inl (p)), (2, .inl (7))]) (st' := [.inr (.inr (some (qz_P h ((ls h)) (k).toNat)))]) rfl ?_
              refine ez_gI hB t3 rfl rfl tq_13 rfl rfl (fun (b15 : -2147483648 ≤ qz_I h (qz_P h ((ls h)) (k).toNat) 6) (b15' : qz_I h (qz_P h ((ls h)) (k).toNat) 6 ≤ 2147483647) => ?_)
              have c7 := cq.mp ⟨by omega, by omega, by omega, by omega⟩
              have e6 := (ax.2.2.2.2 c7.1.1).2.2.1 (by have := c7.1.2; omega)
              exact ez_retI rfl rfl (by have e := yd7_a (p := p) (fun v hv e => (hI.gr v hv e).1) (at_map hx) c7 (fun j v hj hv => by obtain ⟨y, hy, rfl⟩ := map_at hv; exact hno j y (by omega) hy); rw [show (yD Ls p).2.1.2.2 = (ey x).2.2.1.2 from e, ← e6] at kx; exact kx ⟨by omega, by omega⟩)

theorem rd_mkind {p : Int} (hI : mI τ h Ls b) (pr : ez_rg p) (kx : ez_rg (yD Ls p).2.1.2.2 → Q (.inl (some (ez_v (.inl (yD Ls p).2.1.2.2))), h)) : ez_W d cm_274 0 [(0, .inr (.inr (some (770)))), (1, .inl (p)), (2, .inl (7))] [] h Q := by
  have hB := hI.1
  have t770 : τ 770 = 75 := hI.2.1 770 (by decide)
  have b12 : 0 ≤ qz_I h 770 12 ∧ qz_I h 770 12 ≤ 512 := ez_fB (cl := 11) (k := 12) hB t770 tq_75 rfl rfl (by decide)
  have lce : lc h = qz_I h 770 12 := rfl
  have nls : lc h ≤ qz_N h (ls h) := hI.2.2.1.1.1
  refine ez_go (n := 1) (pc' := 1) (L' := [(0, .inr (.inr (some (770)))), (1, .inl (p)), (2, .inl (7))]) (st' := [.inr (.inr (some (770)))]) rfl ?_
  refine ez_gI hB t770 rfl rfl tq_75 rfl rfl (fun (b1 : 0 ≤ qz_I h 770 12) (b1' : qz_I h 770 12 ≤ 512) => ?_)
  refine ez_go (n := 3) (pc' := 7) (L' := [(3, .inl ((qz_I h 770 12) - (1))), (0, .inr (.inr (some (770)))), (1, .inl (p)), (2, .inl (7))]) (st' := []) rfl ?_
  refine ez_less [(3, .inl ((qz_I h 770 12) - (1))), (0, .inr (.inr (some (770)))), (1, .inl (p)), (2, .inl (7))] rfl ⟨rfl, rfl, rfl, rfl, trivial⟩ ?_
  refine rd_mkind_l hI pr kx _ (lc h - 1) rfl (by omega) (by omega) (fun j y hj hy => ?_)
  have := (List.getElem?_eq_some_iff.mp hy).1; have := hI.2.2.2.2.2.2.1; omega

/-- the LINE of a fold, or none -/
def ofl (τ : Nat → Nat) (h : cz_H) (o : Option Nat) (r : Option (List Int)) : Prop := (r = none → o = none) ∧ ∀ l, r = some l → ∃ z, o = some z ∧ τ z = 13 ∧ mrw h (z + 1) (z + 2) 0 l
theorem rd_mfld_l {p c : Int} (hI : mI τ h Ls b) (pr : ez_rg p) (hc3 : c = 67 ∨ c = 70 ∨ c = 84) (kx : ∀ o, ofl τ h o (fdc c (yD Ls p)) → Q (.inl (some (.inr (.inr o))), h)) : ∀ (n : Nat) (k : Int), n = (k + 1).toNat → -1 ≤ k → k < lc h → (∀ (j : Nat) y, k < (j : Int) → Ls[j]? = some y → ¬ ycf (ey y) c p) → ez_W d cm_258 7 [(3, .inl (k)), (0, .inr (.inr (some (770)))), (1, .inl (p)), (2, .inl (c))] [] h Q := by
  have hB := hI.1
  have t770 : τ 770 = 75 := hI.2.1 770 (by decide)
  have b12 : 0 ≤ qz_I h 770 12 ∧ qz_I h 770 12 ≤ 512 := ez_fB (cl := 11) (k := 12) hB t770 tq_75 rfl rfl (by decide)
  have lce : lc h = qz_I h 770 12 := rfl
  have nls : lc h ≤ qz_N h (ls h) := hI.2.2.1.1.1
  obtain ⟨pr0, pr1⟩ := id pr
  intro n
  induction n with
  | zero =>
    intro k hn0 k0' k1' hno
    refine ez_go (n := 1) (pc' := 8) (L' := [(3, .inl (k)), (0, .inr (.inr (some (770)))), (1, .inl (p)), (2, .inl (c))]) (st' := [.inl (k)]) rfl ?_
    refine ez_if rfl rfl ⟨by first | omega | exact (sz_i32 _).1, by first | omega | exact (sz_i32 _).2⟩ (fun (c1 : (k) < (0)) => ?_) (fun (c1 : ¬((k) < (0))) => ?_)
    · skip
      refine ez_go (n := 1) (pc' := 64) (L' := [(3, .inl (k)), (0, .inr (.inr (some (770)))), (1, .inl (p)), (2, .inl (c))]) (st' := [.inr (.inr none)]) rfl ?_
      exact ez_retA rfl rfl rfl (kx none ⟨fun _ => rfl, fun l9 e9 => by rw [show fdc c (yD Ls p) = none from ydf_n hc3 (fun j v hv => by obtain ⟨y, hy, rfl⟩ := map_at hv; exact hno j y (by omega) hy)] at e9; cases e9⟩)
    · skip
      refine ez_go (n := 1) (pc' := 12) (L' := [(3, .inl (k)), (0, .inr (.inr (some (770)))), (1, .inl (p)), (2, .inl (c))]) (st' := [.inr (.inr (some (770)))]) rfl ?_
      refine ez_gR hB t770 rfl rfl tq_75 rfl rfl (fun (t2 : _ = 18) (t2' : 1 ≤ qz_I h 770 11) => ?_)
      rw [show qz_P h 770 11 = ls h from rfl] at *
      refine ez_go (n := 1) (pc' := 16) (L' := [(3, .inl (k)), (0, .inr (.inr (some (770)))), (1, .inl (p)), (2, .inl (c))]) (st' := [.inl (k), .inr (.inr (some ((ls h))))]) rfl ?_
      have n4 : 64 ≤ qz_N h ((ls h)) ∧ qz_N h ((ls h)) ≤ 4096 := ez_len hB t2 tq_18 rfl
      have y5 : 1 ≤ qz_I h ((ls h)) (k).toNat := (hI.at2 (k := k) (by omega) (by omega)).choose_spec.2.2.2
      have y6 : 0 ≤ qz_I h ((ls h)) (k).toNat ∧ qz_I h ((ls h)) (k).toNat ≤ 1000000 := ez_aB hB t2 tq_18 rfl rfl (by decide) (by omega) (by omega)
      have y6' : ((qz_P h ((ls h)) (k).toNat : Nat) : Int) + 1 = qz_I h ((ls h)) (k).toNat := by unfold qz_P; omega
      refine ez_aR hB t2 rfl tq_18 rfl rfl (by omega) (by omega) (by omega) (fun (t3 : _ = 13) => ?_)
      obtain ⟨x, hx, ax, tl, -⟩ := hI.at2 (k := k) (by omega) (by omega)
      have cq := vx_cf (p := p) (c := c) ax
      refine ez_gI hB t3 rfl rfl tq_13 rfl rfl (fun (b7 : 0 ≤ qz_I h (qz_P h ((ls h)) (k).toNat) 0) (b7' : qz_I h (qz_P h ((ls h)) (k).toNat) 0 ≤ 4) => ?_)
      refine ez_go (n := 1) (pc' := 21) (L' := [(3, .inl (k)), (0, .inr (.inr (some (770)))), (1, .inl (p)), (2, .inl (c))]) (st' := [.inl (2), .inl (qz_I h (qz_P h ((ls h)) (k).toNat) 0)]) rfl ?_
      refine ez_icmp rfl rfl ⟨by first | omega | exact (sz_i32 _).1, by first | omega | exact (sz_i32 _).2⟩ ⟨by first | omega | exact (sz_i32 _).1, by first | omega | exact (sz_i32 _).2⟩ (fun (c8 : (qz_I h (qz_P h ((ls h)) (k).toNat) 0) ≠ (2)) => ?_) (fun (c8 : ¬((qz_I h (qz_P h ((ls h)) (k).toNat) 0) ≠ (2))) => ?_)
      · skip
        refine ez_go (n := 2) (pc' := 7) (L' := [(3, .inl (k + (-1))), (0, .inr (.inr (some (770)))), (1, .inl (p)), (2, .inl (c))]) (st' := []) rfl ?_
        exfalso; omega
      · skip
        refine ez_go (n := 1) (pc' := 25) (L' := [(3, .inl (k)), (0, .inr (.inr (some (770)))), (1, .inl (p)), (2, .inl (c))]) (st' := [.inr (.inr (some (770)))]) rfl ?_
        refine ez_gR hB t770 rfl rfl tq_75 rfl rfl (fun (t9 : _ = 18) (t9' : 1 ≤ qz_I h 770 11) => ?_)
        rw [show qz_P h 770 11 = ls h from rfl] at *
        refine ez_go (n := 1) (pc' := 29) (L' := [(3, .inl (k)), (0, .inr (.inr (some (770)))), (1, .inl (p)), (2, .inl (c))]) (st' := [.inl (k), .inr (.inr (some ((ls h))))]) rfl ?_
        have n11 : 64 ≤ qz_N h ((ls h)) ∧ qz_N h ((ls h)) ≤ 4096 := ez_len hB t9 tq_18 rfl
        have y12 : 1 ≤ qz_I h ((ls h)) (k).toNat := (hI.at2 (k := k) (by omega) (by omega)).choose_spec.2.2.2
        have y13 : 0 ≤ qz_I h ((ls h)) (k).toNat ∧ qz_I h ((ls h)) (k).toNat ≤ 1000000 := ez_aB hB t9 tq_18 rfl rfl (by decide) (by omega) (by omega)
        have y13' : ((qz_P h ((ls h)) (k).toNat : Nat) : Int) + 1 = qz_I h ((ls h)) (k).toNat := by unfold qz_P; omega
        refine ez_aR hB t9 rfl tq_18 rfl rfl (by omega) (by omega) (by omega) (fun (t10 : _ = 13) => ?_)
        refine ez_gI hB t10 rfl rfl tq_13 rfl rfl (fun (b14 : -2147483648 ≤ qz_I h (qz_P h ((ls h)) (k).toNat) 1) (b14' : qz_I h (qz_P h ((ls h)) (k).toNat) 1 ≤ 2147483647) => ?_)
        refine ez_go (n := 1) (pc' := 34) (L' := [(3, .inl (k)), (0, .inr (.inr (some (770)))), (1, .inl (p)), (2, .inl (c))]) (st' := [.inl (p), .inl (qz_I h (qz_P h ((ls h)) (k).toNat) 1)]) rfl ?_
        refine ez_icmp rfl rfl ⟨by first | omega | exact (sz_i32 _).1, by first | omega | exact (sz_i32 _).2⟩ ⟨by first | omega | exact (sz_i32 _).1, by first | omega | exact (sz_i32 _).2⟩ (fun (c15 : (qz_I h (qz_P h ((ls h)) (k).toNat) 1) ≠ (p)) => ?_) (fun (c15 : ¬((qz_I h (qz_P h ((ls h)) (k).toNat) 1) ≠ (p))) => ?_)
        · skip
          refine ez_go (n := 2) (pc' := 7) (L' := [(3, .inl (k + (-1))), (0, .inr (.inr (some (770)))), (1, .inl (p)), (2, .inl (c))]) (st' := []) rfl ?_
          exfalso; omega
        · skip
          refine ez_go (n := 1) (pc' := 38) (L' := [(3, .inl (k)), (0, .inr (.inr (some (770)))), (1, .inl (p)), (2, .inl (c))]) (st' := [.inr (.inr (some (770)))]) rfl ?_
          refine ez_gR hB t770 rfl rfl tq_75 rfl rfl (fun (t16 : _ = 18) (t16' : 1 ≤ qz_I h 770 11) => ?_)
          rw [show qz_P h 770 11 = ls h from rfl] at *
          refine ez_go (n := 1) (pc' := 42) (L' := [(3, .inl (k)), (0, .inr (.inr (some (770)))), (1, .inl (p)), (2, .inl (c))]) (st' := [.inl (k), .inr (.inr (some ((ls h))))]) rfl ?_
          have n18 : 64 ≤ qz_N h ((ls h)) ∧ qz_N h ((ls h)) ≤ 4096 := ez_len hB t16 tq_18 rfl
          have y19 : 1 ≤ qz_I h ((ls h)) (k).toNat := (hI.at2 (k := k) (by omega) (by omega)).choose_spec.2.2.2
          have y20 : 0 ≤ qz_I h ((ls h)) (k).toNat ∧ qz_I h ((ls h)) (k).toNat ≤ 1000000 := ez_aB hB t16 tq_18 rfl rfl (by decide) (by omega) (by omega)
          have y20' : ((qz_P h ((ls h)) (k).toNat : Nat) : Int) + 1 = qz_I h ((ls h)) (k).toNat := by unfold qz_P; omega
          refine ez_aR hB t16 rfl tq_18 rfl rfl (by omega) (by omega) (by omega) (fun (t17 : _ = 13) => ?_)
          refine ez_gI hB t17 rfl rfl tq_13 rfl rfl (fun (b21 : -2147483648 ≤ qz_I h (qz_P h ((ls h)) (k).toNat) 5) (b21' : qz_I h (qz_P h ((ls h)) (k).toNat) 5 ≤ 2147483647) => ?_)
          refine ez_go (n := 1) (pc' := 47) (L' := [(3, .inl (k)), (0, .inr (.inr (some (770)))), (1, .inl (p)), (2, .inl (c))]) (st' := [.inl (c), .inl (qz_I h (qz_P h ((ls h)) (k).toNat) 5)]) rfl ?_
          refine ez_icmp rfl rfl ⟨by first | omega | exact (sz_i32 _).1, by first | omega | exact (sz_i32 _).2⟩ ⟨by first | omega | exact (sz_i32 _).1, by first | omega | exact (sz_i32 _).2⟩ (fun (c22 : (qz_I h (qz_P h ((ls h)) (k).toNat) 5) ≠ (c)) => ?_) (fun (c22 : ¬((qz_I h (qz_P h ((ls h)) (k).toNat) 5) ≠ (c))) => ?_)
          · skip
            refine ez_go (n := 2) (pc' := 7) (L' := [(3, .inl (k + (-1))), (0, .inr (.inr (some (770)))), (1, .inl (p)), (2, .inl (c))]) (st' := []) rfl ?_
            exfalso; omega
          · skip
            refine ez_go (n := 1) (pc' := 51) (L' := [(3, .inl (k)), (0, .inr (.inr (some (770)))), (1, .inl (p)), (2, .inl (c))]) (st' := [.inr (.inr (some (770)))]) rfl ?_
            refine ez_gR hB t770 rfl rfl tq_75 rfl rfl (fun (t23 : _ = 18) (t23' : 1 ≤ qz_I h 770 11) => ?_)
            rw [show qz_P h 770 11 = ls h from rfl] at *
            refine ez_go (n := 1) (pc' := 55) (L' := [(3, .inl (k)), (0, .inr (.inr (some (770)))), (1, .inl (p)), (2, .inl (c))]) (st' := [.inl (k), .inr (.inr (some ((ls h))))]) rfl ?_
            have n25 : 64 ≤ qz_N h ((ls h)) ∧ qz_N h ((ls h)) ≤ 4096 := ez_len hB t23 tq_18 rfl
            have y26 : 1 ≤ qz_I h ((ls h)) (k).toNat := (hI.at2 (k := k) (by omega) (by omega)).choose_spec.2.2.2
            have y27 : 0 ≤ qz_I h ((ls h)) (k).toNat ∧ qz_I h ((ls h)) (k).toNat ≤ 1000000 := ez_aB hB t23 tq_18 rfl rfl (by decide) (by omega) (by omega)
            have y27' : ((qz_P h ((ls h)) (k).toNat : Nat) : Int) + 1 = qz_I h ((ls h)) (k).toNat := by unfold qz_P; omega
            refine ez_aR hB t23 rfl tq_18 rfl rfl (by omega) (by omega) (by omega) (fun (t24 : _ = 13) => ?_)
            have cf := cq.mp ⟨by omega, by omega, by omega⟩
            have mr := (ax.2.2.2.1 cf.1.1).2.2
            have yf : fdc c (yD Ls p) = some (ey x).2.2.2.2.1 := ydf_a hc3 (at_map hx) cf (fun j v hj hv => by obtain ⟨y, hy, rfl⟩ := map_at hv; exact hno j y (by omega) hy)
            exact ez_retA rfl rfl rfl (kx _ ⟨fun e9 => (by rw [yf] at e9; cases e9), fun l9 e9 => by rw [yf] at e9; cases e9; exact ⟨_, rfl, tl, mr⟩⟩)
  | succ n ih =>
    intro k hn0 k0' k1' hno
    refine ez_go (n := 1) (pc' := 8) (L' := [(3, .inl (k)), (0, .inr (.inr (some (770)))), (1, .inl (p)), (2, .inl (c))]) (st' := [.inl (k)]) rfl ?_
    refine ez_if rfl rfl ⟨by first | omega | exact (sz_i32 _).1, by first | omega | exact (sz_i32 _).2⟩ (fun (c1 : (k) < (0)) => ?_) (fun (c1 : ¬((k) < (0))) => ?_)
    · skip
      refine ez_go (n := 1) (pc' := 64) (L' := [(3, .inl (k)), (0, .inr (.inr (some (770)))), (1, .inl (p)), (2, .inl (c))]) (st' := [.inr (.inr none)]) rfl ?_
      exact ez_retA rfl rfl rfl (kx none ⟨fun _ => rfl, fun l9 e9 => by rw [show fdc c (yD Ls p) = none from ydf_n hc3 (fun j v hv => by obtain ⟨y, hy, rfl⟩ := map_at hv; exact hno j y (by omega) hy)] at e9; cases e9⟩)
    · skip
      refine ez_go (n := 1) (pc' := 12) (L' := [(3, .inl (k)), (0, .inr (.inr (some (770)))), (1, .inl (p)), (2, .inl (c))]) (st' := [.inr (.inr (some (770)))]) rfl ?_
      refine ez_gR hB t770 rfl rfl tq_75 rfl rfl (fun (t2 : _ = 18) (t2' : 1 ≤ qz_I h 770 11) => ?_)
      rw [show qz_P h 770 11 = ls h from rfl] at *
      refine ez_go (n := 1) (pc' := 16) (L' := [(3, .inl (k)), (0, .inr (.inr (some (770)))), (1, .inl (p)), (2, .inl (c))]) (st' := [.inl (k), .inr (.inr (some ((ls h))))]) rfl ?_
      have n4 : 64 ≤ qz_N h ((ls h)) ∧ qz_N h ((ls h)) ≤ 4096 := ez_len hB t2 tq_18 rfl
      have y5 : 1 ≤ qz_I h ((ls h)) (k).toNat := (hI.at2 (k := k) (by omega) (by omega)).choose_spec.2.2.2
      have y6 : 0 ≤ qz_I h ((ls h)) (k).toNat ∧ qz_I h ((ls h)) (k).toNat ≤ 1000000 := ez_aB hB t2 tq_18 rfl rfl (by decide) (by omega) (by omega)
      have y6' : ((qz_P h ((ls h)) (k).toNat : Nat) : Int) + 1 = qz_I h ((ls h)) (k).toNat := by unfold qz_P; omega
      refine ez_aR hB t2 rfl tq_18 rfl rfl (by omega) (by omega) (by omega) (fun (t3 : _ = 13) => ?_)
      obtain ⟨x, hx, ax, tl, -⟩ := hI.at2 (k := k) (by omega) (by omega)
      have cq := vx_cf (p := p) (c := c) ax
      refine ez_gI hB t3 rfl rfl tq_13 rfl rfl (fun (b7 : 0 ≤ qz_I h (qz_P h ((ls h)) (k).toNat) 0) (b7' : qz_I h (qz_P h ((ls h)) (k).toNat) 0 ≤ 4) => ?_)
      refine ez_go (n := 1) (pc' := 21) (L' := [(3, .inl (k)), (0, .inr (.inr (some (770)))), (1, .inl (p)), (2, .inl (c))]) (st' := [.inl (2), .inl (qz_I h (qz_P h ((ls h)) (k).toNat) 0)]) rfl ?_
      refine ez_icmp rfl rfl ⟨by first | omega | exact (sz_i32 _).1, by first | omega | exact (sz_i32 _).2⟩ ⟨by first | omega | exact (sz_i32 _).1, by first | omega | exact (sz_i32 _).2⟩ (fun (c8 : (qz_I h (qz_P h ((ls h)) (k).toNat) 0) ≠ (2)) => ?_) (fun (c8 : ¬((qz_I h (qz_P h ((ls h)) (k).toNat) 0) ≠ (2))) => ?_)
      · skip
        refine ez_go (n := 2) (pc' := 7) (L' := [(3, .inl (k + (-1))), (0, .inr (.inr (some (770)))), (1, .inl (p)), (2, .inl (c))]) (st' := []) rfl ?_
        refine ez_less [(3, .inl (k + (-1))), (0, .inr (.inr (some (770)))), (1, .inl (p)), (2, .inl (c))] rfl ⟨rfl, rfl, rfl, rfl, trivial⟩ ?_
        refine ih (k + (-1)) (by omega) (by omega) (by omega) (fun j y hj hy => ?_)
        by_cases e : j = k.toNat
        · subst e; rw [hx] at hy; cases hy; intro w; have w := cq.mpr w; omega
        · exact hno j y (by omega) hy
      · skip
        refine ez_go (n := 1) (pc' := 25) (L' := [(3, .inl (k)), (0, .inr (.inr (some (770)))), (1, .inl (p)), (2, .inl (c))]) (st' := [.inr (.inr (some (770)))]) rfl ?_
        refine ez_gR hB t770 rfl rfl tq_75 rfl rfl (fun (t9 : _ = 18) (t9' : 1 ≤ qz_I h 770 11) => ?_)
        rw [show qz_P h 770 11 = ls h from rfl] at *
        refine ez_go (n := 1) (pc' := 29) (L' := [(3, .inl (k)), (0, .inr (.inr (some (770)))), (1, .inl (p)), (2, .inl (c))]) (st' := [.inl (k), .inr (.inr (some ((ls h))))]) rfl ?_
        have n11 : 64 ≤ qz_N h ((ls h)) ∧ qz_N h ((ls h)) ≤ 4096 := ez_len hB t9 tq_18 rfl
        have y12 : 1 ≤ qz_I h ((ls h)) (k).toNat := (hI.at2 (k := k) (by omega) (by omega)).choose_spec.2.2.2
        have y13 : 0 ≤ qz_I h ((ls h)) (k).toNat ∧ qz_I h ((ls h)) (k).toNat ≤ 1000000 := ez_aB hB t9 tq_18 rfl rfl (by decide) (by omega) (by omega)
        have y13' : ((qz_P h ((ls h)) (k).toNat : Nat) : Int) + 1 = qz_I h ((ls h)) (k).toNat := by unfold qz_P; omega
        refine ez_aR hB t9 rfl tq_18 rfl rfl (by omega) (by omega) (by omega) (fun (t10 : _ = 13) => ?_)
        refine ez_gI hB t10 rfl rfl tq_13 rfl rfl (fun (b14 : -2147483648 ≤ qz_I h (qz_P h ((ls h)) (k).toNat) 1) (b14' : qz_I h (qz_P h ((ls h)) (k).toNat) 1 ≤ 2147483647) => ?_)
        refine ez_go (n := 1) (pc' := 34) (L' := [(3, .inl (k)), (0, .inr (.inr (some (770)))), (1, .inl (p)), (2, .inl (c))]) (st' := [.inl (p), .inl (qz_I h (qz_P h ((ls h)) (k).toNat) 1)]) rfl ?_
        refine ez_icmp rfl rfl ⟨by first | omega | exact (sz_i32 _).1, by first | omega | exact (sz_i32 _).2⟩ ⟨by first | omega | exact (sz_i32 _).1, by first | omega | exact (sz_i32 _).2⟩ (fun (c15 : (qz_I h (qz_P h ((ls h)) (k).toNat) 1) ≠ (p)) => ?_) (fun (c15 : ¬((qz_I h (qz_P h ((ls h)) (k).toNat) 1) ≠ (p))) => ?_)
        · skip
          refine ez_go (n := 2) (pc' := 7) (L' := [(3, .inl (k + (-1))), (0, .inr (.inr (some (770)))), (1, .inl (p)), (2, .inl (c))]) (st' := []) rfl ?_
          refine ez_less [(3, .inl (k + (-1))), (0, .inr (.inr (some (770)))), (1, .inl (p)), (2, .inl (c))] rfl ⟨rfl, rfl, rfl, rfl, trivial⟩ ?_
          refine ih (k + (-1)) (by omega) (by omega) (by omega) (fun j y hj hy => ?_)
          by_cases e : j = k.toNat
          · subst e; rw [hx] at hy; cases hy; intro w; have w := cq.mpr w; omega
          · exact hno j y (by omega) hy
        · skip
          refine ez_go (n := 1) (pc' := 38) (L' := [(3, .inl (k)), (0, .inr (.inr (some (770)))), (1, .inl (p)), (2, .inl (c))]) (st' := [.inr (.inr (some (770)))]) rfl ?_
          refine ez_gR hB t770 rfl rfl tq_75 rfl rfl (fun (t16 : _ = 18) (t16' : 1 ≤ qz_I h 770 11) => ?_)
          rw [show qz_P h 770 11 = ls h from rfl] at *
          refine ez_go (n := 1) (pc' := 42) (L' := [(3, .inl (k)), (0, .inr (.inr (some (770)))), (1, .inl (p)), (2, .inl (c))]) (st' := [.inl (k), .inr (.inr (some ((ls h))))]) rfl ?_
          have n18 : 64 ≤ qz_N h ((ls h)) ∧ qz_N h ((ls h)) ≤ 4096 := ez_len hB t16 tq_18 rfl
          have y19 : 1 ≤ qz_I h ((ls h)) (k).toNat := (hI.at2 (k := k) (by omega) (by omega)).choose_spec.2.2.2
          have y20 : 0 ≤ qz_I h ((ls h)) (k).toNat ∧ qz_I h ((ls h)) (k).toNat ≤ 1000000 := ez_aB hB t16 tq_18 rfl rfl (by decide) (by omega) (by omega)
          have y20' : ((qz_P h ((ls h)) (k).toNat : Nat) : Int) + 1 = qz_I h ((ls h)) (k).toNat := by unfold qz_P; omega
          refine ez_aR hB t16 rfl tq_18 rfl rfl (by omega) (by omega) (by omega) (fun (t17 : _ = 13) => ?_)
          refine ez_gI hB t17 rfl rfl tq_13 rfl rfl (fun (b21 : -2147483648 ≤ qz_I h (qz_P h ((ls h)) (k).toNat) 5) (b21' : qz_I h (qz_P h ((ls h)) (k).toNat) 5 ≤ 2147483647) => ?_)
          refine ez_go (n := 1) (pc' := 47) (L' := [(3, .inl (k)), (0, .inr (.inr (some (770)))), (1, .inl (p)), (2, .inl (c))]) (st' := [.inl (c), .inl (qz_I h (qz_P h ((ls h)) (k).toNat) 5)]) rfl ?_
          refine ez_icmp rfl rfl ⟨by first | omega | exact (sz_i32 _).1, by first | omega | exact (sz_i32 _).2⟩ ⟨by first | omega | exact (sz_i32 _).1, by first | omega | exact (sz_i32 _).2⟩ (fun (c22 : (qz_I h (qz_P h ((ls h)) (k).toNat) 5) ≠ (c)) => ?_) (fun (c22 : ¬((qz_I h (qz_P h ((ls h)) (k).toNat) 5) ≠ (c))) => ?_)
          · skip
            refine ez_go (n := 2) (pc' := 7) (L' := [(3, .inl (k + (-1))), (0, .inr (.inr (some (770)))), (1, .inl (p)), (2, .inl (c))]) (st' := []) rfl ?_
            refine ez_less [(3, .inl (k + (-1))), (0, .inr (.inr (some (770)))), (1, .inl (p)), (2, .inl (c))] rfl ⟨rfl, rfl, rfl, rfl, trivial⟩ ?_
            refine ih (k + (-1)) (by omega) (by omega) (by omega) (fun j y hj hy => ?_)
            by_cases e : j = k.toNat
            · subst e; rw [hx] at hy; cases hy; intro w; have w := cq.mpr w; omega
            · exact hno j y (by omega) hy
          · skip
            refine ez_go (n := 1) (pc' := 51) (L' := [(3, .inl (k)), (0, .inr (.inr (some (770)))), (1, .inl (p)), (2, .inl (c))]) (st' := [.inr (.inr (some (770)))]) rfl ?_
            refine ez_gR hB t770 rfl rfl tq_75 rfl rfl (fun (t23 : _ = 18) (t23' : 1 ≤ qz_I h 770 11) => ?_)
            rw [show qz_P h 770 11 = ls h from rfl] at *
            refine ez_go (n := 1) (pc' := 55) (L' := [(3, .inl (k)), (0, .inr (.inr (some (770)))), (1, .inl (p)), (2, .inl (c))]) (st' := [.inl (k), .inr (.inr (some ((ls h))))]) rfl ?_
            have n25 : 64 ≤ qz_N h ((ls h)) ∧ qz_N h ((ls h)) ≤ 4096 := ez_len hB t23 tq_18 rfl
            have y26 : 1 ≤ qz_I h ((ls h)) (k).toNat := (hI.at2 (k := k) (by omega) (by omega)).choose_spec.2.2.2
            have y27 : 0 ≤ qz_I h ((ls h)) (k).toNat ∧ qz_I h ((ls h)) (k).toNat ≤ 1000000 := ez_aB hB t23 tq_18 rfl rfl (by decide) (by omega) (by omega)
            have y27' : ((qz_P h ((ls h)) (k).toNat : Nat) : Int) + 1 = qz_I h ((ls h)) (k).toNat := by unfold qz_P; omega
            refine ez_aR hB t23 rfl tq_18 rfl rfl (by omega) (by omega) (by omega) (fun (t24 : _ = 13) => ?_)
            have cf := cq.mp ⟨by omega, by omega, by omega⟩
            have mr := (ax.2.2.2.1 cf.1.1).2.2
            have yf : fdc c (yD Ls p) = some (ey x).2.2.2.2.1 := ydf_a hc3 (at_map hx) cf (fun j v hj hv => by obtain ⟨y, hy, rfl⟩ := map_at hv; exact hno j y (by omega) hy)
            exact ez_retA rfl rfl rfl (kx _ ⟨fun e9 => (by rw [yf] at e9; cases e9), fun l9 e9 => by rw [yf] at e9; cases e9; exact ⟨_, rfl, tl, mr⟩⟩)

theorem rd_mfld {p c : Int} (hI : mI τ h Ls b) (pr : ez_rg p) (hc3 : c = 67 ∨ c = 70 ∨ c = 84) (kx : ∀ o, ofl τ h o (fdc c (yD Ls p)) → Q (.inl (some (.inr (.inr o))), h)) : ez_W d cm_258 0 [(0, .inr (.inr (some (770)))), (1, .inl (p)), (2, .inl (c))] [] h Q := by
  have hB := hI.1
  have t770 : τ 770 = 75 := hI.2.1 770 (by decide)
  have b12 : 0 ≤ qz_I h 770 12 ∧ qz_I h 770 12 ≤ 512 := ez_fB (cl := 11) (k := 12) hB t770 tq_75 rfl rfl (by decide)
  have lce : lc h = qz_I h 770 12 := rfl
  have nls : lc h ≤ qz_N h (ls h) := hI.2.2.1.1.1
  refine ez_go (n := 1) (pc' := 1) (L' := [(0, .inr (.inr (some (770)))), (1, .inl (p)), (2, .inl (c))]) (st' := [.inr (.inr (some (770)))]) rfl ?_
  refine ez_gI hB t770 rfl rfl tq_75 rfl rfl (fun (b1 : 0 ≤ qz_I h 770 12) (b1' : qz_I h 770 12 ≤ 512) => ?_)
  refine ez_go (n := 3) (pc' := 7) (L' := [(3, .inl ((qz_I h 770 12) - (1))), (0, .inr (.inr (some (770)))), (1, .inl (p)), (2, .inl (c))]) (st' := []) rfl ?_
  refine ez_less [(3, .inl ((qz_I h 770 12) - (1))), (0, .inr (.inr (some (770)))), (1, .inl (p)), (2, .inl (c))] rfl ⟨rfl, rfl, rfl, rfl, trivial⟩ ?_
  refine rd_mfld_l hI pr hc3 kx _ (lc h - 1) rfl (by omega) (by omega) (fun j y hj hy => ?_)
  have := (List.getElem?_eq_some_iff.mp hy).1; have := hI.2.2.2.2.2.2.1; omega

/-- a text in an array of the model -/
def mtx (τ : Nat → Nat) (h : cz_H) (q : Nat) (u : List Int) : Prop := τ q = 37 ∧ ((u.length : Int) ≤ 2000 ∧ ptl u) ∧ ∀ k : Int, 0 ≤ k → k < (u.length : Int) → qz_I h q k.toNat = uX u k
theorem rd_mbhA_l {i : Int} (hI : mI τ h Ls b) (mt : mtx τ h q u) (i0 : 0 ≤ i) (i1 : i < (u.length : Int)) (k1 : scA (sP5 (vF Ls) u) (sH5 (vF Ls) u) i u.length → Q (.inl (some (ez_v (.inl 1))), h)) (k0 : ¬ scA (sP5 (vF Ls) u) (sH5 (vF Ls) u) i u.length → Q (.inl (some (ez_v (.inl 0))), h)) : ∀ (n : Nat) (k : Int), n = ((u.length : Int) - k).toNat → i < k → k ≤ (u.length : Int) → (∀ j, i < j → j < k → ¬ (sP5 (vF Ls) u) j) → ez_W (d + 2) cm_222 5 [(5, .inl (k)), (0, .inr (.inr (some (770)))), (1, .inr (.inr (some (q)))), (2, .inl ((u.length : Int))), (3, .inl (i)), (4, .inl (230))] [] h Q := by
  have hB := hI.1
  have t770 : τ 770 = 75 := hI.2.1 770 (by decide)
  have b12 : 0 ≤ qz_I h 770 12 ∧ qz_I h 770 12 ≤ 512 := ez_fB (cl := 11) (k := 12) hB t770 tq_75 rfl rfl (by decide)
  have lce : lc h = qz_I h 770 12 := rfl
  have nls : lc h ≤ qz_N h (ls h) := hI.2.2.1.1.1
  have tq := mt.1
  have n2 := mt.2.1.1
  intro n
  induction n with
  | zero =>
    intro k hn0 ka kb hn
    refine ez_go (n := 2) (pc' := 8) (L' := [(5, .inl (k)), (0, .inr (.inr (some (770)))), (1, .inr (.inr (some (q)))), (2, .inl ((u.length : Int))), (3, .inl (i)), (4, .inl (230))]) (st' := [.inl ((u.length : Int)), .inl (k)]) rfl ?_
    refine ez_icmp rfl rfl ⟨by first | omega | exact (sz_i32 _).1, by first | omega | exact (sz_i32 _).2⟩ ⟨by first | omega | exact (sz_i32 _).1, by first | omega | exact (sz_i32 _).2⟩ (fun (c1 : ((u.length : Int)) ≤ (k)) => ?_) (fun (c1 : ¬(((u.length : Int)) ≤ (k))) => ?_)
    · skip
      refine ez_go (n := 1) (pc' := 81) (L' := [(5, .inl (k)), (0, .inr (.inr (some (770)))), (1, .inr (.inr (some (q)))), (2, .inl ((u.length : Int))), (3, .inl (i)), (4, .inl (230))]) (st' := [.inl (0)]) rfl ?_
      refine ez_retZ rfl rfl (Or.inl rfl) (k0 ?_)
      first | exact scA_no hn (by omega) | exact scA_not hn (by omega) (by omega) (by unfold sP5; omega) (by unfold sH5; omega)
    · skip
      refine ez_go (n := 3) (pc' := 15) (L' := [(5, .inl (k)), (0, .inr (.inr (some (770)))), (1, .inr (.inr (some (q)))), (2, .inl ((u.length : Int))), (3, .inl (i)), (4, .inl (230))]) (st' := [.inl (k), .inr (.inr (some (q))), .inr (.inr (some (770)))]) rfl ?_
      have n3 : 2000 ≤ qz_N h q ∧ qz_N h q ≤ 2000 := ez_len hB tq tq_37 rfl
      refine ez_aI hB tq rfl tq_37 rfl rfl (by omega) (by omega) (fun (b2 : -2147483648 ≤ qz_I h q (k).toNat) (b2' : qz_I h q (k).toNat ≤ 2147483647) => ?_)
      have pb := uX_ptl mt.2.1.2 (show (k).toNat < u.length by omega)
      have prg : ez_rg (uX u k) := ⟨by omega, by omega⟩
      rw [mt.2.2 k (by omega) (by omega)]
      refine ez_cv hB t770 rfl rfl rfl tq_75 rfl rfl rfl (rd_mrank hI prg (fun rr => ez_K1 ?_))
      obtain ⟨rr1, rr2⟩ := id rr
      rw [show (vF Ls (uX u k)).1 = kc (vF Ls) u k from rfl] at *
      refine ez_go (n := 3) (pc' := 26) (L' := [(6, .inl (kc (vF Ls) u k)), (5, .inl (k)), (0, .inr (.inr (some (770)))), (1, .inr (.inr (some (q)))), (2, .inl ((u.length : Int))), (3, .inl (i)), (4, .inl (230))]) (st' := [.inl (230), .inl (230)]) rfl ?_
      refine ez_icmp rfl rfl ⟨by decide, by decide⟩ ⟨by decide, by decide⟩ (fun (c4 : (230 : Int) ≠ (230)) => absurd c4 (by decide)) (fun _ => ?_)
      refine ez_go (n := 2) (pc' := 34) (L' := [(6, .inl (kc (vF Ls) u k)), (5, .inl (k)), (0, .inr (.inr (some (770)))), (1, .inr (.inr (some (q)))), (2, .inl ((u.length : Int))), (3, .inl (i)), (4, .inl (230))]) (st' := [.inl (230), .inl (kc (vF Ls) u k)]) rfl ?_
      refine ez_icmp rfl rfl ⟨by first | omega | exact (sz_i32 _).1, by first | omega | exact (sz_i32 _).2⟩ ⟨by first | omega | exact (sz_i32 _).1, by first | omega | exact (sz_i32 _).2⟩ (fun (c5 : (kc (vF Ls) u k) ≠ (230)) => ?_) (fun (c5 : ¬((kc (vF Ls) u k) ≠ (230))) => ?_)
      · skip
        refine ez_go (n := 1) (pc' := 53) (L' := [(6, .inl (kc (vF Ls) u k)), (5, .inl (k)), (0, .inr (.inr (some (770)))), (1, .inr (.inr (some (q)))), (2, .inl ((u.length : Int))), (3, .inl (i)), (4, .inl (230))]) (st' := [.inl (kc (vF Ls) u k)]) rfl ?_
        refine ez_if rfl rfl ⟨by first | omega | exact (sz_i32 _).1, by first | omega | exact (sz_i32 _).2⟩ (fun (c6 : (kc (vF Ls) u k) = (0)) => ?_) (fun (c6 : ¬((kc (vF Ls) u k) = (0))) => ?_)
        · skip
          refine ez_go (n := 1) (pc' := 73) (L' := [(6, .inl (kc (vF Ls) u k)), (5, .inl (k)), (0, .inr (.inr (some (770)))), (1, .inr (.inr (some (q)))), (2, .inl ((u.length : Int))), (3, .inl (i)), (4, .inl (230))]) (st' := [.inl (0)]) rfl ?_
          refine ez_retZ rfl rfl (Or.inl rfl) (k0 ?_)
          first | exact scA_no hn (by omega) | exact scA_not hn (by omega) (by omega) (by unfold sP5; omega) (by unfold sH5; omega)
        · skip
          refine ez_go (n := 2) (pc' := 61) (L' := [(6, .inl (kc (vF Ls) u k)), (5, .inl (k)), (0, .inr (.inr (some (770)))), (1, .inr (.inr (some (q)))), (2, .inl ((u.length : Int))), (3, .inl (i)), (4, .inl (230))]) (st' := [.inl (230), .inl (230)]) rfl ?_
          refine ez_icmp rfl rfl ⟨by decide, by decide⟩ ⟨by decide, by decide⟩ (fun _ => ?_) (fun (c7 : ¬((230 : Int) = (230))) => absurd c7 (by decide))
          refine ez_go (n := 2) (pc' := 5) (L' := [(5, .inl (k + 1)), (6, .inl (kc (vF Ls) u k)), (0, .inr (.inr (some (770)))), (1, .inr (.inr (some (q)))), (2, .inl ((u.length : Int))), (3, .inl (i)), (4, .inl (230))]) (st' := []) rfl ?_
          exfalso; omega
      · skip
        refine ez_go (n := 2) (pc' := 50) (L' := [(6, .inl (kc (vF Ls) u k)), (5, .inl (k)), (0, .inr (.inr (some (770)))), (1, .inr (.inr (some (q)))), (2, .inl ((u.length : Int))), (3, .inl (i)), (4, .inl (230))]) (st' := [.inl (1)]) rfl ?_
        exact ez_retZ rfl rfl (Or.inr rfl) (k1 ⟨k, by omega, by omega, by unfold sP5; omega, by unfold sH5; omega, hn⟩)
  | succ n ih =>
    intro k hn0 ka kb hn
    refine ez_go (n := 2) (pc' := 8) (L' := [(5, .inl (k)), (0, .inr (.inr (some (770)))), (1, .inr (.inr (some (q)))), (2, .inl ((u.length : Int))), (3, .inl (i)), (4, .inl (230))]) (st' := [.inl ((u.length : Int)), .inl (k)]) rfl ?_
    refine ez_icmp rfl rfl ⟨by first | omega | exact (sz_i32 _).1, by first | omega | exact (sz_i32 _).2⟩ ⟨by first | omega | exact (sz_i32 _).1, by first | omega | exact (sz_i32 _).2⟩ (fun (c1 : ((u.length : Int)) ≤ (k)) => ?_) (fun (c1 : ¬(((u.length : Int)) ≤ (k))) => ?_)
    · skip
      refine ez_go (n := 1) (pc' := 81) (L' := [(5, .inl (k)), (0, .inr (.inr (some (770)))), (1, .inr (.inr (some (q)))), (2, .inl ((u.length : Int))), (3, .inl (i)), (4, .inl (230))]) (st' := [.inl (0)]) rfl ?_
      refine ez_retZ rfl rfl (Or.inl rfl) (k0 ?_)
      first | exact scA_no hn (by omega) | exact scA_not hn (by omega) (by omega) (by unfold sP5; omega) (by unfold sH5; omega)
    · skip
      refine ez_go (n := 3) (pc' := 15) (L' := [(5, .inl (k)), (0, .inr (.inr (some (770)))), (1, .inr (.inr (some (q)))), (2, .inl ((u.length : Int))), (3, .inl (i)), (4, .inl (230))]) (st' := [.inl (k), .inr (.inr (some (q))), .inr (.inr (some (770)))]) rfl ?_
      have n3 : 2000 ≤ qz_N h q ∧ qz_N h q ≤ 2000 := ez_len hB tq tq_37 rfl
      refine ez_aI hB tq rfl tq_37 rfl rfl (by omega) (by omega) (fun (b2 : -2147483648 ≤ qz_I h q (k).toNat) (b2' : qz_I h q (k).toNat ≤ 2147483647) => ?_)
      have pb := uX_ptl mt.2.1.2 (show (k).toNat < u.length by omega)
      have prg : ez_rg (uX u k) := ⟨by omega, by omega⟩
      rw [mt.2.2 k (by omega) (by omega)]
      refine ez_cv hB t770 rfl rfl rfl tq_75 rfl rfl rfl (rd_mrank hI prg (fun rr => ez_K1 ?_))
      obtain ⟨rr1, rr2⟩ := id rr
      rw [show (vF Ls (uX u k)).1 = kc (vF Ls) u k from rfl] at *
      refine ez_go (n := 3) (pc' := 26) (L' := [(6, .inl (kc (vF Ls) u k)), (5, .inl (k)), (0, .inr (.inr (some (770)))), (1, .inr (.inr (some (q)))), (2, .inl ((u.length : Int))), (3, .inl (i)), (4, .inl (230))]) (st' := [.inl (230), .inl (230)]) rfl ?_
      refine ez_icmp rfl rfl ⟨by decide, by decide⟩ ⟨by decide, by decide⟩ (fun (c4 : (230 : Int) ≠ (230)) => absurd c4 (by decide)) (fun _ => ?_)
      refine ez_go (n := 2) (pc' := 34) (L' := [(6, .inl (kc (vF Ls) u k)), (5, .inl (k)), (0, .inr (.inr (some (770)))), (1, .inr (.inr (some (q)))), (2, .inl ((u.length : Int))), (3, .inl (i)), (4, .inl (230))]) (st' := [.inl (230), .inl (kc (vF Ls) u k)]) rfl ?_
      refine ez_icmp rfl rfl ⟨by first | omega | exact (sz_i32 _).1, by first | omega | exact (sz_i32 _).2⟩ ⟨by first | omega | exact (sz_i32 _).1, by first | omega | exact (sz_i32 _).2⟩ (fun (c5 : (kc (vF Ls) u k) ≠ (230)) => ?_) (fun (c5 : ¬((kc (vF Ls) u k) ≠ (230))) => ?_)
      · skip
        refine ez_go (n := 1) (pc' := 53) (L' := [(6, .inl (kc (vF Ls) u k)), (5, .inl (k)), (0, .inr (.inr (some (770)))), (1, .inr (.inr (some (q)))), (2, .inl ((u.length : Int))), (3, .inl (i)), (4, .inl (230))]) (st' := [.inl (kc (vF Ls) u k)]) rfl ?_
        refine ez_if rfl rfl ⟨by first | omega | exact (sz_i32 _).1, by first | omega | exact (sz_i32 _).2⟩ (fun (c6 : (kc (vF Ls) u k) = (0)) => ?_) (fun (c6 : ¬((kc (vF Ls) u k) = (0))) => ?_)
        · skip
          refine ez_go (n := 1) (pc' := 73) (L' := [(6, .inl (kc (vF Ls) u k)), (5, .inl (k)), (0, .inr (.inr (some (770)))), (1, .inr (.inr (some (q)))), (2, .inl ((u.length : Int))), (3, .inl (i)), (4, .inl (230))]) (st' := [.inl (0)]) rfl ?_
          refine ez_retZ rfl rfl (Or.inl rfl) (k0 ?_)
          first | exact scA_no hn (by omega) | exact scA_not hn (by omega) (by omega) (by unfold sP5; omega) (by unfold sH5; omega)
        · skip
          refine ez_go (n := 2) (pc' := 61) (L' := [(6, .inl (kc (vF Ls) u k)), (5, .inl (k)), (0, .inr (.inr (some (770)))), (1, .inr (.inr (some (q)))), (2, .inl ((u.length : Int))), (3, .inl (i)), (4, .inl (230))]) (st' := [.inl (230), .inl (230)]) rfl ?_
          refine ez_icmp rfl rfl ⟨by decide, by decide⟩ ⟨by decide, by decide⟩ (fun _ => ?_) (fun (c7 : ¬((230 : Int) = (230))) => absurd c7 (by decide))
          refine ez_go (n := 2) (pc' := 5) (L' := [(5, .inl (k + 1)), (6, .inl (kc (vF Ls) u k)), (0, .inr (.inr (some (770)))), (1, .inr (.inr (some (q)))), (2, .inl ((u.length : Int))), (3, .inl (i)), (4, .inl (230))]) (st' := []) rfl ?_
          refine ez_less [(5, .inl (k + 1)), (0, .inr (.inr (some (770)))), (1, .inr (.inr (some (q)))), (2, .inl ((u.length : Int))), (3, .inl (i)), (4, .inl (230))] rfl ⟨rfl, rfl, rfl, rfl, rfl, rfl, trivial⟩ ?_
          exact ih _ (by omega) (by omega) (by omega) (scA_st hn (by unfold sP5; omega))
      · skip
        refine ez_go (n := 2) (pc' := 50) (L' := [(6, .inl (kc (vF Ls) u k)), (5, .inl (k)), (0, .inr (.inr (some (770)))), (1, .inr (.inr (some (q)))), (2, .inl ((u.length : Int))), (3, .inl (i)), (4, .inl (230))]) (st' := [.inl (1)]) rfl ?_
        exact ez_retZ rfl rfl (Or.inr rfl) (k1 ⟨k, by omega, by omega, by unfold sP5; omega, by unfold sH5; omega, hn⟩)

theorem rd_mbhA {i : Int} (hI : mI τ h Ls b) (mt : mtx τ h q u) (i0 : 0 ≤ i) (i1 : i < (u.length : Int)) (k1 : scA (sP5 (vF Ls) u) (sH5 (vF Ls) u) i u.length → Q (.inl (some (ez_v (.inl 1))), h)) (k0 : ¬ scA (sP5 (vF Ls) u) (sH5 (vF Ls) u) i u.length → Q (.inl (some (ez_v (.inl 0))), h)) : ez_W (d + 2) cm_222 0 [(0, .inr (.inr (some (770)))), (1, .inr (.inr (some (q)))), (2, .inl ((u.length : Int))), (3, .inl (i)), (4, .inl (230))] [] h Q := by
  have hB := hI.1
  have t770 : τ 770 = 75 := hI.2.1 770 (by decide)
  have b12 : 0 ≤ qz_I h 770 12 ∧ qz_I h 770 12 ≤ 512 := ez_fB (cl := 11) (k := 12) hB t770 tq_75 rfl rfl (by decide)
  have lce : lc h = qz_I h 770 12 := rfl
  have nls : lc h ≤ qz_N h (ls h) := hI.2.2.1.1.1
  have tq := mt.1
  have n2 := mt.2.1.1
  refine ez_go (n := 4) (pc' := 5) (L' := [(5, .inl ((i) + (1))), (0, .inr (.inr (some (770)))), (1, .inr (.inr (some (q)))), (2, .inl ((u.length : Int))), (3, .inl (i)), (4, .inl (230))]) (st' := []) rfl ?_
  refine ez_less [(5, .inl ((i) + (1))), (0, .inr (.inr (some (770)))), (1, .inr (.inr (some (q)))), (2, .inl ((u.length : Int))), (3, .inl (i)), (4, .inl (230))] rfl ⟨rfl, rfl, rfl, rfl, rfl, rfl, trivial⟩ ?_
  exact rd_mbhA_l hI mt i0 i1 k1 k0 _ _ rfl (by omega) (by omega) (fun j a b => by omega)

theorem rd_mbhD_l {i : Int} (hI : mI τ h Ls b) (mt : mtx τ h q u) (i0 : 0 ≤ i) (i1 : i < (u.length : Int)) (k1 : scA (sP6 (vF Ls) u 775) (sH6 u 775) i u.length → Q (.inl (some (ez_v (.inl 1))), h)) (k0 : ¬ scA (sP6 (vF Ls) u 775) (sH6 u 775) i u.length → Q (.inl (some (ez_v (.inl 0))), h)) : ∀ (n : Nat) (k : Int), n = ((u.length : Int) - k).toNat → i < k → k ≤ (u.length : Int) → (∀ j, i < j → j < k → ¬ (sP6 (vF Ls) u 775) j) → ez_W (d + 2) cm_222 5 [(5, .inl (k)), (0, .inr (.inr (some (770)))), (1, .inr (.inr (some (q)))), (2, .inl ((u.length : Int))), (3, .inl (i)), (4, .inl (775))] [] h Q := by
  have hB := hI.1
  have t770 : τ 770 = 75 := hI.2.1 770 (by decide)
  have b12 : 0 ≤ qz_I h 770 12 ∧ qz_I h 770 12 ≤ 512 := ez_fB (cl := 11) (k := 12) hB t770 tq_75 rfl rfl (by decide)
  have lce : lc h = qz_I h 770 12 := rfl
  have nls : lc h ≤ qz_N h (ls h) := hI.2.2.1.1.1
  have tq := mt.1
  have n2 := mt.2.1.1
  intro n
  induction n with
  | zero =>
    intro k hn0 ka kb hn
    refine ez_go (n := 2) (pc' := 8) (L' := [(5, .inl (k)), (0, .inr (.inr (some (770)))), (1, .inr (.inr (some (q)))), (2, .inl ((u.length : Int))), (3, .inl (i)), (4, .inl (775))]) (st' := [.inl ((u.length : Int)), .inl (k)]) rfl ?_
    refine ez_icmp rfl rfl ⟨by first | omega | exact (sz_i32 _).1, by first | omega | exact (sz_i32 _).2⟩ ⟨by first | omega | exact (sz_i32 _).1, by first | omega | exact (sz_i32 _).2⟩ (fun (c1 : ((u.length : Int)) ≤ (k)) => ?_) (fun (c1 : ¬(((u.length : Int)) ≤ (k))) => ?_)
    · skip
      refine ez_go (n := 1) (pc' := 81) (L' := [(5, .inl (k)), (0, .inr (.inr (some (770)))), (1, .inr (.inr (some (q)))), (2, .inl ((u.length : Int))), (3, .inl (i)), (4, .inl (775))]) (st' := [.inl (0)]) rfl ?_
      refine ez_retZ rfl rfl (Or.inl rfl) (k0 ?_)
      first | exact scA_no hn (by omega) | exact scA_not hn (by omega) (by omega) (by unfold sP6; omega) (by unfold sH6; omega)
    · skip
      refine ez_go (n := 3) (pc' := 15) (L' := [(5, .inl (k)), (0, .inr (.inr (some (770)))), (1, .inr (.inr (some (q)))), (2, .inl ((u.length : Int))), (3, .inl (i)), (4, .inl (775))]) (st' := [.inl (k), .inr (.inr (some (q))), .inr (.inr (some (770)))]) rfl ?_
      have n3 : 2000 ≤ qz_N h q ∧ qz_N h q ≤ 2000 := ez_len hB tq tq_37 rfl
      refine ez_aI hB tq rfl tq_37 rfl rfl (by omega) (by omega) (fun (b2 : -2147483648 ≤ qz_I h q (k).toNat) (b2' : qz_I h q (k).toNat ≤ 2147483647) => ?_)
      have pb := uX_ptl mt.2.1.2 (show (k).toNat < u.length by omega)
      have prg : ez_rg (uX u k) := ⟨by omega, by omega⟩
      rw [mt.2.2 k (by omega) (by omega)]
      refine ez_cv hB t770 rfl rfl rfl tq_75 rfl rfl rfl (rd_mrank hI prg (fun rr => ez_K1 ?_))
      obtain ⟨rr1, rr2⟩ := id rr
      rw [show (vF Ls (uX u k)).1 = kc (vF Ls) u k from rfl] at *
      refine ez_go (n := 3) (pc' := 26) (L' := [(6, .inl (kc (vF Ls) u k)), (5, .inl (k)), (0, .inr (.inr (some (770)))), (1, .inr (.inr (some (q)))), (2, .inl ((u.length : Int))), (3, .inl (i)), (4, .inl (775))]) (st' := [.inl (230), .inl (775)]) rfl ?_
      refine ez_icmp rfl rfl ⟨by decide, by decide⟩ ⟨by decide, by decide⟩ (fun _ => ?_) (fun (c4 : ¬((775 : Int) ≠ (230))) => absurd c4 (by decide))
      refine ez_go (n := 2) (pc' := 43) (L' := [(6, .inl (kc (vF Ls) u k)), (5, .inl (k)), (0, .inr (.inr (some (770)))), (1, .inr (.inr (some (q)))), (2, .inl ((u.length : Int))), (3, .inl (i)), (4, .inl (775))]) (st' := [.inl (k), .inr (.inr (some (q)))]) rfl ?_
      have n6 : 2000 ≤ qz_N h q ∧ qz_N h q ≤ 2000 := ez_len hB tq tq_37 rfl
      refine ez_aI hB tq rfl tq_37 rfl rfl (by omega) (by omega) (fun (b5 : -2147483648 ≤ qz_I h q (k).toNat) (b5' : qz_I h q (k).toNat ≤ 2147483647) => ?_)
      have pb := uX_ptl mt.2.1.2 (show (k).toNat < u.length by omega)
      have prg : ez_rg (uX u k) := ⟨by omega, by omega⟩
      rw [mt.2.2 k (by omega) (by omega)]
      refine ez_go (n := 1) (pc' := 46) (L' := [(6, .inl (kc (vF Ls) u k)), (5, .inl (k)), (0, .inr (.inr (some (770)))), (1, .inr (.inr (some (q)))), (2, .inl ((u.length : Int))), (3, .inl (i)), (4, .inl (775))]) (st' := [.inl (775), .inl (uX u k)]) rfl ?_
      refine ez_icmp rfl rfl ⟨by first | omega | exact (sz_i32 _).1, by first | omega | exact (sz_i32 _).2⟩ ⟨by first | omega | exact (sz_i32 _).1, by first | omega | exact (sz_i32 _).2⟩ (fun (c7 : (uX u k) ≠ (775)) => ?_) (fun (c7 : ¬((uX u k) ≠ (775))) => ?_)
      · skip
        refine ez_go (n := 1) (pc' := 53) (L' := [(6, .inl (kc (vF Ls) u k)), (5, .inl (k)), (0, .inr (.inr (some (770)))), (1, .inr (.inr (some (q)))), (2, .inl ((u.length : Int))), (3, .inl (i)), (4, .inl (775))]) (st' := [.inl (kc (vF Ls) u k)]) rfl ?_
        refine ez_if rfl rfl ⟨by first | omega | exact (sz_i32 _).1, by first | omega | exact (sz_i32 _).2⟩ (fun (c8 : (kc (vF Ls) u k) = (0)) => ?_) (fun (c8 : ¬((kc (vF Ls) u k) = (0))) => ?_)
        · skip
          refine ez_go (n := 1) (pc' := 73) (L' := [(6, .inl (kc (vF Ls) u k)), (5, .inl (k)), (0, .inr (.inr (some (770)))), (1, .inr (.inr (some (q)))), (2, .inl ((u.length : Int))), (3, .inl (i)), (4, .inl (775))]) (st' := [.inl (0)]) rfl ?_
          refine ez_retZ rfl rfl (Or.inl rfl) (k0 ?_)
          first | exact scA_no hn (by omega) | exact scA_not hn (by omega) (by omega) (by unfold sP6; omega) (by unfold sH6; omega)
        · skip
          refine ez_go (n := 2) (pc' := 61) (L' := [(6, .inl (kc (vF Ls) u k)), (5, .inl (k)), (0, .inr (.inr (some (770)))), (1, .inr (.inr (some (q)))), (2, .inl ((u.length : Int))), (3, .inl (i)), (4, .inl (775))]) (st' := [.inl (230), .inl (775)]) rfl ?_
          refine ez_icmp rfl rfl ⟨by decide, by decide⟩ ⟨by decide, by decide⟩ (fun (c9 : (775 : Int) = (230)) => absurd c9 (by decide)) (fun _ => ?_)
          refine ez_go (n := 2) (pc' := 69) (L' := [(6, .inl (kc (vF Ls) u k)), (5, .inl (k)), (0, .inr (.inr (some (770)))), (1, .inr (.inr (some (q)))), (2, .inl ((u.length : Int))), (3, .inl (i)), (4, .inl (775))]) (st' := [.inl (230), .inl (kc (vF Ls) u k)]) rfl ?_
          refine ez_icmp rfl rfl ⟨by first | omega | exact (sz_i32 _).1, by first | omega | exact (sz_i32 _).2⟩ ⟨by first | omega | exact (sz_i32 _).1, by first | omega | exact (sz_i32 _).2⟩ (fun (c10 : (kc (vF Ls) u k) ≠ (230)) => ?_) (fun (c10 : ¬((kc (vF Ls) u k) ≠ (230))) => ?_)
          · skip
            refine ez_go (n := 2) (pc' := 5) (L' := [(5, .inl (k + 1)), (6, .inl (kc (vF Ls) u k)), (0, .inr (.inr (some (770)))), (1, .inr (.inr (some (q)))), (2, .inl ((u.length : Int))), (3, .inl (i)), (4, .inl (775))]) (st' := []) rfl ?_
            exfalso; omega
          · skip
            refine ez_go (n := 1) (pc' := 73) (L' := [(6, .inl (kc (vF Ls) u k)), (5, .inl (k)), (0, .inr (.inr (some (770)))), (1, .inr (.inr (some (q)))), (2, .inl ((u.length : Int))), (3, .inl (i)), (4, .inl (775))]) (st' := [.inl (0)]) rfl ?_
            refine ez_retZ rfl rfl (Or.inl rfl) (k0 ?_)
            first | exact scA_no hn (by omega) | exact scA_not hn (by omega) (by omega) (by unfold sP6; omega) (by unfold sH6; omega)
      · skip
        refine ez_go (n := 1) (pc' := 50) (L' := [(6, .inl (kc (vF Ls) u k)), (5, .inl (k)), (0, .inr (.inr (some (770)))), (1, .inr (.inr (some (q)))), (2, .inl ((u.length : Int))), (3, .inl (i)), (4, .inl (775))]) (st' := [.inl (1)]) rfl ?_
        exact ez_retZ rfl rfl (Or.inr rfl) (k1 ⟨k, by omega, by omega, by unfold sP6; omega, by unfold sH6; omega, hn⟩)
  | succ n ih =>
    intro k hn0 ka kb hn
    refine ez_go (n := 2) (pc' := 8) (L' := [(5, .inl (k)), (0, .inr (.inr (some (770)))), (1, .inr (.inr (some (q)))), (2, .inl ((u.length : Int))), (3, .inl (i)), (4, .inl (775))]) (st' := [.inl ((u.length : Int)), .inl (k)]) rfl ?_
    refine ez_icmp rfl rfl ⟨by first | omega | exact (sz_i32 _).1, by first | omega | exact (sz_i32 _).2⟩ ⟨by first | omega | exact (sz_i32 _).1, by first | omega | exact (sz_i32 _).2⟩ (fun (c1 : ((u.length : Int)) ≤ (k)) => ?_) (fun (c1 : ¬(((u.length : Int)) ≤ (k))) => ?_)
    · skip
      refine ez_go (n := 1) (pc' := 81) (L' := [(5, .inl (k)), (0, .inr (.inr (some (770)))), (1, .inr (.inr (some (q)))), (2, .inl ((u.length : Int))), (3, .inl (i)), (4, .inl (775))]) (st' := [.inl (0)]) rfl ?_
      refine ez_retZ rfl rfl (Or.inl rfl) (k0 ?_)
      first | exact scA_no hn (by omega) | exact scA_not hn (by omega) (by omega) (by unfold sP6; omega) (by unfold sH6; omega)
    · skip
      refine ez_go (n := 3) (pc' := 15) (L' := [(5, .inl (k)), (0, .inr (.inr (some (770)))), (1, .inr (.inr (some (q)))), (2, .inl ((u.length : Int))), (3, .inl (i)), (4, .inl (775))]) (st' := [.inl (k), .inr (.inr (some (q))), .inr (.inr (some (770)))]) rfl ?_
      have n3 : 2000 ≤ qz_N h q ∧ qz_N h q ≤ 2000 := ez_len hB tq tq_37 rfl
      refine ez_aI hB tq rfl tq_37 rfl rfl (by omega) (by omega) (fun (b2 : -2147483648 ≤ qz_I h q (k).toNat) (b2' : qz_I h q (k).toNat ≤ 2147483647) => ?_)
      have pb := uX_ptl mt.2.1.2 (show (k).toNat < u.length by omega)
      have prg : ez_rg (uX u k) := ⟨by omega, by omega⟩
      rw [mt.2.2 k (by omega) (by omega)]
      refine ez_cv hB t770 rfl rfl rfl tq_75 rfl rfl rfl (rd_mrank hI prg (fun rr => ez_K1 ?_))
      obtain ⟨rr1, rr2⟩ := id rr
      rw [show (vF Ls (uX u k)).1 = kc (vF Ls) u k from rfl] at *
      refine ez_go (n := 3) (pc' := 26) (L' := [(6, .inl (kc (vF Ls) u k)), (5, .inl (k)), (0, .inr (.inr (some (770)))), (1, .inr (.inr (some (q)))), (2, .inl ((u.length : Int))), (3, .inl (i)), (4, .inl (775))]) (st' := [.inl (230), .inl (775)]) rfl ?_
      refine ez_icmp rfl rfl ⟨by decide, by decide⟩ ⟨by decide, by decide⟩ (fun _ => ?_) (fun (c4 : ¬((775 : Int) ≠ (230))) => absurd c4 (by decide))
      refine ez_go (n := 2) (pc' := 43) (L' := [(6, .inl (kc (vF Ls) u k)), (5, .inl (k)), (0, .inr (.inr (some (770)))), (1, .inr (.inr (some (q)))), (2, .inl ((u.length : Int))), (3, .inl (i)), (4, .inl (775))]) (st' := [.inl (k), .inr (.inr (some (q)))]) rfl ?_
      have n6 : 2000 ≤ qz_N h q ∧ qz_N h q ≤ 2000 := ez_len hB tq tq_37 rfl
      refine ez_aI hB tq rfl tq_37 rfl rfl (by omega) (by omega) (fun (b5 : -2147483648 ≤ qz_I h q (k).toNat) (b5' : qz_I h q (k).toNat ≤ 2147483647) => ?_)
      have pb := uX_ptl mt.2.1.2 (show (k).toNat < u.length by omega)
      have prg : ez_rg (uX u k) := ⟨by omega, by omega⟩
      rw [mt.2.2 k (by omega) (by omega)]
      refine ez_go (n := 1) (pc' := 46) (L' := [(6, .inl (kc (vF Ls) u k)), (5, .inl (k)), (0, .inr (.inr (some (770)))), (1, .inr (.inr (some (q)))), (2, .inl ((u.length : Int))), (3, .inl (i)), (4, .inl (775))]) (st' := [.inl (775), .inl (uX u k)]) rfl ?_
      refine ez_icmp rfl rfl ⟨by first | omega | exact (sz_i32 _).1, by first | omega | exact (sz_i32 _).2⟩ ⟨by first | omega | exact (sz_i32 _).1, by first | omega | exact (sz_i32 _).2⟩ (fun (c7 : (uX u k) ≠ (775)) => ?_) (fun (c7 : ¬((uX u k) ≠ (775))) => ?_)
      · skip
        refine ez_go (n := 1) (pc' := 53) (L' := [(6, .inl (kc (vF Ls) u k)), (5, .inl (k)), (0, .inr (.inr (some (770)))), (1, .inr (.inr (some (q)))), (2, .inl ((u.length : Int))), (3, .inl (i)), (4, .inl (775))]) (st' := [.inl (kc (vF Ls) u k)]) rfl ?_
        refine ez_if rfl rfl ⟨by first | omega | exact (sz_i32 _).1, by first | omega | exact (sz_i32 _).2⟩ (fun (c8 : (kc (vF Ls) u k) = (0)) => ?_) (fun (c8 : ¬((kc (vF Ls) u k) = (0))) => ?_)
        · skip
          refine ez_go (n := 1) (pc' := 73) (L' := [(6, .inl (kc (vF Ls) u k)), (5, .inl (k)), (0, .inr (.inr (some (770)))), (1, .inr (.inr (some (q)))), (2, .inl ((u.length : Int))), (3, .inl (i)), (4, .inl (775))]) (st' := [.inl (0)]) rfl ?_
          refine ez_retZ rfl rfl (Or.inl rfl) (k0 ?_)
          first | exact scA_no hn (by omega) | exact scA_not hn (by omega) (by omega) (by unfold sP6; omega) (by unfold sH6; omega)
        · skip
          refine ez_go (n := 2) (pc' := 61) (L' := [(6, .inl (kc (vF Ls) u k)), (5, .inl (k)), (0, .inr (.inr (some (770)))), (1, .inr (.inr (some (q)))), (2, .inl ((u.length : Int))), (3, .inl (i)), (4, .inl (775))]) (st' := [.inl (230), .inl (775)]) rfl ?_
          refine ez_icmp rfl rfl ⟨by decide, by decide⟩ ⟨by decide, by decide⟩ (fun (c9 : (775 : Int) = (230)) => absurd c9 (by decide)) (fun _ => ?_)
          refine ez_go (n := 2) (pc' := 69) (L' := [(6, .inl (kc (vF Ls) u k)), (5, .inl (k)), (0, .inr (.inr (some (770)))), (1, .inr (.inr (some (q)))), (2, .inl ((u.length : Int))), (3, .inl (i)), (4, .inl (775))]) (st' := [.inl (230), .inl (kc (vF Ls) u k)]) rfl ?_
          refine ez_icmp rfl rfl ⟨by first | omega | exact (sz_i32 _).1, by first | omega | exact (sz_i32 _).2⟩ ⟨by first | omega | exact (sz_i32 _).1, by first | omega | exact (sz_i32 _).2⟩ (fun (c10 : (kc (vF Ls) u k) ≠ (230)) => ?_) (fun (c10 : ¬((kc (vF Ls) u k) ≠ (230))) => ?_)
          · skip
            refine ez_go (n := 2) (pc' := 5) (L' := [(5, .inl (k + 1)), (6, .inl (kc (vF Ls) u k)), (0, .inr (.inr (some (770)))), (1, .inr (.inr (some (q)))), (2, .inl ((u.length : Int))), (3, .inl (i)), (4, .inl (775))]) (st' := []) rfl ?_
            refine ez_less [(5, .inl (k + 1)), (0, .inr (.inr (some (770)))), (1, .inr (.inr (some (q)))), (2, .inl ((u.length : Int))), (3, .inl (i)), (4, .inl (775))] rfl ⟨rfl, rfl, rfl, rfl, rfl, rfl, trivial⟩ ?_
            exact ih _ (by omega) (by omega) (by omega) (scA_st hn (by unfold sP6; omega))
          · skip
            refine ez_go (n := 1) (pc' := 73) (L' := [(6, .inl (kc (vF Ls) u k)), (5, .inl (k)), (0, .inr (.inr (some (770)))), (1, .inr (.inr (some (q)))), (2, .inl ((u.length : Int))), (3, .inl (i)), (4, .inl (775))]) (st' := [.inl (0)]) rfl ?_
            refine ez_retZ rfl rfl (Or.inl rfl) (k0 ?_)
            first | exact scA_no hn (by omega) | exact scA_not hn (by omega) (by omega) (by unfold sP6; omega) (by unfold sH6; omega)
      · skip
        refine ez_go (n := 1) (pc' := 50) (L' := [(6, .inl (kc (vF Ls) u k)), (5, .inl (k)), (0, .inr (.inr (some (770)))), (1, .inr (.inr (some (q)))), (2, .inl ((u.length : Int))), (3, .inl (i)), (4, .inl (775))]) (st' := [.inl (1)]) rfl ?_
        exact ez_retZ rfl rfl (Or.inr rfl) (k1 ⟨k, by omega, by omega, by unfold sP6; omega, by unfold sH6; omega, hn⟩)

theorem rd_mbhD {i : Int} (hI : mI τ h Ls b) (mt : mtx τ h q u) (i0 : 0 ≤ i) (i1 : i < (u.length : Int)) (k1 : scA (sP6 (vF Ls) u 775) (sH6 u 775) i u.length → Q (.inl (some (ez_v (.inl 1))), h)) (k0 : ¬ scA (sP6 (vF Ls) u 775) (sH6 u 775) i u.length → Q (.inl (some (ez_v (.inl 0))), h)) : ez_W (d + 2) cm_222 0 [(0, .inr (.inr (some (770)))), (1, .inr (.inr (some (q)))), (2, .inl ((u.length : Int))), (3, .inl (i)), (4, .inl (775))] [] h Q := by
  have hB := hI.1
  have t770 : τ 770 = 75 := hI.2.1 770 (by decide)
  have b12 : 0 ≤ qz_I h 770 12 ∧ qz_I h 770 12 ≤ 512 := ez_fB (cl := 11) (k := 12) hB t770 tq_75 rfl rfl (by decide)
  have lce : lc h = qz_I h 770 12 := rfl
  have nls : lc h ≤ qz_N h (ls h) := hI.2.2.1.1.1
  have tq := mt.1
  have n2 := mt.2.1.1
  refine ez_go (n := 4) (pc' := 5) (L' := [(5, .inl ((i) + (1))), (0, .inr (.inr (some (770)))), (1, .inr (.inr (some (q)))), (2, .inl ((u.length : Int))), (3, .inl (i)), (4, .inl (775))]) (st' := []) rfl ?_
  refine ez_less [(5, .inl ((i) + (1))), (0, .inr (.inr (some (770)))), (1, .inr (.inr (some (q)))), (2, .inl ((u.length : Int))), (3, .inl (i)), (4, .inl (775))] rfl ⟨rfl, rfl, rfl, rfl, rfl, rfl, trivial⟩ ?_
  exact rd_mbhD_l hI mt i0 i1 k1 k0 _ _ rfl (by omega) (by omega) (fun j a b => by omega)

theorem rd_mh3b {i : Int} (hI : mI τ h Ls b) (mt : mtx τ h q u) (i0 : 0 ≤ i) (i1 : i < (u.length : Int)) (lr : ez_rg loc) (kN : ¬ scA (sP3 (yD Ls) u) (sH3 (yD Ls) u) i u.length → Q (.inl (some (ez_v (.inl 1))), h)) (kA : scA (sP3 (yD Ls) u) (sH3 (yD Ls) u) i u.length → Q (.inl (some (ez_v (.inl 0))), h)) : ∀ (n : Nat) (k : Int), n = ((u.length : Int) - k).toNat → i < k → k ≤ (u.length : Int) → (∀ j, i < j → j < k → ¬ (sP3 (yD Ls) u) j) → ez_W (d + 3) cm_266 111 [(6, .inl (k)), (0, .inr (.inr (some (770)))), (1, .inl (3)), (2, .inr (.inr (some (q)))), (3, .inl ((u.length : Int))), (4, .inl (i)), (5, .inl (loc))] [] h Q := by
  have hB := hI.1
  have t770 : τ 770 = 75 := hI.2.1 770 (by decide)
  have b12 : 0 ≤ qz_I h 770 12 ∧ qz_I h 770 12 ≤ 512 := ez_fB (cl := 11) (k := 12) hB t770 tq_75 rfl rfl (by decide)
  have lce : lc h = qz_I h 770 12 := rfl
  have nls : lc h ≤ qz_N h (ls h) := hI.2.2.1.1.1
  have tq := mt.1
  have n2 := mt.2.1.1
  intro n
  induction n with
  | zero =>
    intro k hn0 ka kb hn
    refine ez_go (n := 2) (pc' := 114) (L' := [(6, .inl (k)), (0, .inr (.inr (some (770)))), (1, .inl (3)), (2, .inr (.inr (some (q)))), (3, .inl ((u.length : Int))), (4, .inl (i)), (5, .inl (loc))]) (st' := [.inl ((u.length : Int)), .inl (k)]) rfl ?_
    refine ez_icmp rfl rfl ⟨by first | omega | exact (sz_i32 _).1, by first | omega | exact (sz_i32 _).2⟩ ⟨by first | omega | exact (sz_i32 _).1, by first | omega | exact (sz_i32 _).2⟩ (fun (c1 : ((u.length : Int)) ≤ (k)) => ?_) (fun (c1 : ¬(((u.length : Int)) ≤ (k))) => ?_)
    · skip
      refine ez_go (n := 2) (pc' := 138) (L' := [(6, .inl (k)), (0, .inr (.inr (some (770)))), (1, .inl (3)), (2, .inr (.inr (some (q)))), (3, .inl ((u.length : Int))), (4, .inl (i)), (5, .inl (loc))]) (st' := [.inl ((u.length : Int)), .inl (k)]) rfl ?_
      refine ez_icmp rfl rfl ⟨by first | omega | exact (sz_i32 _).1, by first | omega | exact (sz_i32 _).2⟩ ⟨by first | omega | exact (sz_i32 _).1, by first | omega | exact (sz_i32 _).2⟩ (fun (c2 : (k) = ((u.length : Int))) => ?_) (fun (c2 : ¬((k) = ((u.length : Int)))) => ?_)
      · skip
        refine ez_go (n := 2) (pc' := 157) (L' := [(6, .inl (k)), (0, .inr (.inr (some (770)))), (1, .inl (3)), (2, .inr (.inr (some (q)))), (3, .inl ((u.length : Int))), (4, .inl (i)), (5, .inl (loc))]) (st' := [.inl (1)]) rfl ?_
        exact ez_retZ rfl rfl (Or.inr rfl) (kN (by first | exact scA_no hn (by omega) | exact scA_not hn (by omega) (by omega) (by unfold sP3; omega) wc))
      · skip
        refine ez_go (n := 3) (pc' := 145) (L' := [(6, .inl (k)), (0, .inr (.inr (some (770)))), (1, .inl (3)), (2, .inr (.inr (some (q)))), (3, .inl ((u.length : Int))), (4, .inl (i)), (5, .inl (loc))]) (st' := [.inl (k), .inr (.inr (some (q))), .inr (.inr (some (770)))]) rfl ?_
        have n4 : 2000 ≤ qz_N h q ∧ qz_N h q ≤ 2000 := ez_len hB tq tq_37 rfl
        refine ez_aI hB tq rfl tq_37 rfl rfl (by omega) (by omega) (fun (b3 : -2147483648 ≤ qz_I h q (k).toNat) (b3' : qz_I h q (k).toNat ≤ 2147483647) => ?_)
        have pb := uX_ptl mt.2.1.2 (show (k).toNat < u.length by omega)
        have prg : ez_rg (uX u k) := ⟨by omega, by omega⟩
        rw [mt.2.2 k (by omega) (by omega)]
        refine ez_cv hB t770 rfl rfl rfl tq_75 rfl rfl rfl (rd_mcased hI prg (fun wc => ez_K1 ?_) (fun wc => ez_K1 ?_))
        · skip
          refine ez_if rfl rfl ⟨by decide, by decide⟩ (fun _ => ?_) (fun (c5 : ¬((1 : Int) ≠ (0))) => absurd c5 (by decide))
          refine ez_go (n := 1) (pc' := 157) (L' := [(6, .inl (k)), (0, .inr (.inr (some (770)))), (1, .inl (3)), (2, .inr (.inr (some (q)))), (3, .inl ((u.length : Int))), (4, .inl (i)), (5, .inl (loc))]) (st' := [.inl (0)]) rfl ?_
          exact ez_retZ rfl rfl (Or.inl rfl) (kA (by first | (exfalso; omega) | exact ⟨k, by omega, by omega, by unfold sP3; omega, wc, hn⟩))
        · skip
          refine ez_if rfl rfl ⟨by decide, by decide⟩ (fun (c6 : (0 : Int) ≠ (0)) => absurd c6 (by decide)) (fun _ => ?_)
          refine ez_go (n := 2) (pc' := 157) (L' := [(6, .inl (k)), (0, .inr (.inr (some (770)))), (1, .inl (3)), (2, .inr (.inr (some (q)))), (3, .inl ((u.length : Int))), (4, .inl (i)), (5, .inl (loc))]) (st' := [.inl (1)]) rfl ?_
          exact ez_retZ rfl rfl (Or.inr rfl) (kN (by first | exact scA_no hn (by omega) | exact scA_not hn (by omega) (by omega) (by unfold sP3; omega) wc))
    · skip
      refine ez_go (n := 3) (pc' := 121) (L' := [(6, .inl (k)), (0, .inr (.inr (some (770)))), (1, .inl (3)), (2, .inr (.inr (some (q)))), (3, .inl ((u.length : Int))), (4, .inl (i)), (5, .inl (loc))]) (st' := [.inl (k), .inr (.inr (some (q))), .inr (.inr (some (770)))]) rfl ?_
      have n8 : 2000 ≤ qz_N h q ∧ qz_N h q ≤ 2000 := ez_len hB tq tq_37 rfl
      refine ez_aI hB tq rfl tq_37 rfl rfl (by omega) (by omega) (fun (b7 : -2147483648 ≤ qz_I h q (k).toNat) (b7' : qz_I h q (k).toNat ≤ 2147483647) => ?_)
      have pb := uX_ptl mt.2.1.2 (show (k).toNat < u.length by omega)
      have prg : ez_rg (uX u k) := ⟨by omega, by omega⟩
      rw [mt.2.2 k (by omega) (by omega)]
      refine ez_go (n := 1) (pc' := 123) (L' := [(6, .inl (k)), (0, .inr (.inr (some (770)))), (1, .inl (3)), (2, .inr (.inr (some (q)))), (3, .inl ((u.length : Int))), (4, .inl (i)), (5, .inl (loc))]) (st' := [.inl (1), .inl (uX u k), .inr (.inr (some (770)))]) rfl ?_
      refine ez_cv hB t770 rfl rfl rfl tq_75 rfl rfl rfl (rd_mhas (m := 2) hI prg (by unfold qm; omega) (fun wh => ez_K1 ?_) (fun wh => ez_K1 ?_))
      · have kt : kT (yD Ls) u 2 k ≠ 0 := wh
        refine ez_if rfl rfl ⟨by decide, by decide⟩ (fun (c9 : (1 : Int) = (0)) => absurd c9 (by decide)) (fun _ => ?_)
        refine ez_go (n := 2) (pc' := 111) (L' := [(6, .inl (k + 1)), (0, .inr (.inr (some (770)))), (1, .inl (3)), (2, .inr (.inr (some (q)))), (3, .inl ((u.length : Int))), (4, .inl (i)), (5, .inl (loc))]) (st' := []) rfl ?_
        exfalso; omega
      · have kt : kT (yD Ls) u 2 k = 0 := Classical.not_not.mp wh
        refine ez_if rfl rfl ⟨by decide, by decide⟩ (fun _ => ?_) (fun (c10 : ¬((0 : Int) = (0))) => absurd c10 (by decide))
        refine ez_go (n := 2) (pc' := 138) (L' := [(6, .inl (k)), (0, .inr (.inr (some (770)))), (1, .inl (3)), (2, .inr (.inr (some (q)))), (3, .inl ((u.length : Int))), (4, .inl (i)), (5, .inl (loc))]) (st' := [.inl ((u.length : Int)), .inl (k)]) rfl ?_
        refine ez_icmp rfl rfl ⟨by first | omega | exact (sz_i32 _).1, by first | omega | exact (sz_i32 _).2⟩ ⟨by first | omega | exact (sz_i32 _).1, by first | omega | exact (sz_i32 _).2⟩ (fun (c11 : (k) = ((u.length : Int))) => ?_) (fun (c11 : ¬((k) = ((u.length : Int)))) => ?_)
        · skip
          refine ez_go (n := 2) (pc' := 157) (L' := [(6, .inl (k)), (0, .inr (.inr (some (770)))), (1, .inl (3)), (2, .inr (.inr (some (q)))), (3, .inl ((u.length : Int))), (4, .inl (i)), (5, .inl (loc))]) (st' := [.inl (1)]) rfl ?_
          exact ez_retZ rfl rfl (Or.inr rfl) (kN (by first | exact scA_no hn (by omega) | exact scA_not hn (by omega) (by omega) (by unfold sP3; omega) wc))
        · skip
          refine ez_go (n := 3) (pc' := 145) (L' := [(6, .inl (k)), (0, .inr (.inr (some (770)))), (1, .inl (3)), (2, .inr (.inr (some (q)))), (3, .inl ((u.length : Int))), (4, .inl (i)), (5, .inl (loc))]) (st' := [.inl (k), .inr (.inr (some (q))), .inr (.inr (some (770)))]) rfl ?_
          have n13 : 2000 ≤ qz_N h q ∧ qz_N h q ≤ 2000 := ez_len hB tq tq_37 rfl
          refine ez_aI hB tq rfl tq_37 rfl rfl (by omega) (by omega) (fun (b12 : -2147483648 ≤ qz_I h q (k).toNat) (b12' : qz_I h q (k).toNat ≤ 2147483647) => ?_)
          have pb := uX_ptl mt.2.1.2 (show (k).toNat < u.length by omega)
          have prg : ez_rg (uX u k) := ⟨by omega, by omega⟩
          rw [mt.2.2 k (by omega) (by omega)]
          refine ez_cv hB t770 rfl rfl rfl tq_75 rfl rfl rfl (rd_mcased hI prg (fun wc => ez_K1 ?_) (fun wc => ez_K1 ?_))
          · skip
            refine ez_if rfl rfl ⟨by decide, by decide⟩ (fun _ => ?_) (fun (c14 : ¬((1 : Int) ≠ (0))) => absurd c14 (by decide))
            refine ez_go (n := 1) (pc' := 157) (L' := [(6, .inl (k)), (0, .inr (.inr (some (770)))), (1, .inl (3)), (2, .inr (.inr (some (q)))), (3, .inl ((u.length : Int))), (4, .inl (i)), (5, .inl (loc))]) (st' := [.inl (0)]) rfl ?_
            exact ez_retZ rfl rfl (Or.inl rfl) (kA (by first | (exfalso; omega) | exact ⟨k, by omega, by omega, by unfold sP3; omega, wc, hn⟩))
          · skip
            refine ez_if rfl rfl ⟨by decide, by decide⟩ (fun (c15 : (0 : Int) ≠ (0)) => absurd c15 (by decide)) (fun _ => ?_)
            refine ez_go (n := 2) (pc' := 157) (L' := [(6, .inl (k)), (0, .inr (.inr (some (770)))), (1, .inl (3)), (2, .inr (.inr (some (q)))), (3, .inl ((u.length : Int))), (4, .inl (i)), (5, .inl (loc))]) (st' := [.inl (1)]) rfl ?_
            exact ez_retZ rfl rfl (Or.inr rfl) (kN (by first | exact scA_no hn (by omega) | exact scA_not hn (by omega) (by omega) (by unfold sP3; omega) wc))
  | succ n ih =>
    intro k hn0 ka kb hn
    refine ez_go (n := 2) (pc' := 114) (L' := [(6, .inl (k)), (0, .inr (.inr (some (770)))), (1, .inl (3)), (2, .inr (.inr (some (q)))), (3, .inl ((u.length : Int))), (4, .inl (i)), (5, .inl (loc))]) (st' := [.inl ((u.length : Int)), .inl (k)]) rfl ?_
    refine ez_icmp rfl rfl ⟨by first | omega | exact (sz_i32 _).1, by first | omega | exact (sz_i32 _).2⟩ ⟨by first | omega | exact (sz_i32 _).1, by first | omega | exact (sz_i32 _).2⟩ (fun (c1 : ((u.length : Int)) ≤ (k)) => ?_) (fun (c1 : ¬(((u.length : Int)) ≤ (k))) => ?_)
    · skip
      refine ez_go (n := 2) (pc' := 138) (L' := [(6, .inl (k)), (0, .inr (.inr (some (770)))), (1, .inl (3)), (2, .inr (.inr (some (q)))), (3, .inl ((u.length : Int))), (4, .inl (i)), (5, .inl (loc))]) (st' := [.inl ((u.length : Int)), .inl (k)]) rfl ?_
      refine ez_icmp rfl rfl ⟨by first | omega | exact (sz_i32 _).1, by first | omega | exact (sz_i32 _).2⟩ ⟨by first | omega | exact (sz_i32 _).1, by first | omega | exact (sz_i32 _).2⟩ (fun (c2 : (k) = ((u.length : Int))) => ?_) (fun (c2 : ¬((k) = ((u.length : Int)))) => ?_)
      · skip
        refine ez_go (n := 2) (pc' := 157) (L' := [(6, .inl (k)), (0, .inr (.inr (some (770)))), (1, .inl (3)), (2, .inr (.inr (some (q)))), (3, .inl ((u.length : Int))), (4, .inl (i)), (5, .inl (loc))]) (st' := [.inl (1)]) rfl ?_
        exact ez_retZ rfl rfl (Or.inr rfl) (kN (by first | exact scA_no hn (by omega) | exact scA_not hn (by omega) (by omega) (by unfold sP3; omega) wc))
      · skip
        refine ez_go (n := 3) (pc' := 145) (L' := [(6, .inl (k)), (0, .inr (.inr (some (770)))), (1, .inl (3)), (2, .inr (.inr (some (q)))), (3, .inl ((u.length : Int))), (4, .inl (i)), (5, .inl (loc))]) (st' := [.inl (k), .inr (.inr (some (q))), .inr (.inr (some (770)))]) rfl ?_
        have n4 : 2000 ≤ qz_N h q ∧ qz_N h q ≤ 2000 := ez_len hB tq tq_37 rfl
        refine ez_aI hB tq rfl tq_37 rfl rfl (by omega) (by omega) (fun (b3 : -2147483648 ≤ qz_I h q (k).toNat) (b3' : qz_I h q (k).toNat ≤ 2147483647) => ?_)
        have pb := uX_ptl mt.2.1.2 (show (k).toNat < u.length by omega)
        have prg : ez_rg (uX u k) := ⟨by omega, by omega⟩
        rw [mt.2.2 k (by omega) (by omega)]
        refine ez_cv hB t770 rfl rfl rfl tq_75 rfl rfl rfl (rd_mcased hI prg (fun wc => ez_K1 ?_) (fun wc => ez_K1 ?_))
        · skip
          refine ez_if rfl rfl ⟨by decide, by decide⟩ (fun _ => ?_) (fun (c5 : ¬((1 : Int) ≠ (0))) => absurd c5 (by decide))
          refine ez_go (n := 1) (pc' := 157) (L' := [(6, .inl (k)), (0, .inr (.inr (some (770)))), (1, .inl (3)), (2, .inr (.inr (some (q)))), (3, .inl ((u.length : Int))), (4, .inl (i)), (5, .inl (loc))]) (st' := [.inl (0)]) rfl ?_
          exact ez_retZ rfl rfl (Or.inl rfl) (kA (by first | (exfalso; omega) | exact ⟨k, by omega, by omega, by unfold sP3; omega, wc, hn⟩))
        · skip
          refine ez_if rfl rfl ⟨by decide, by decide⟩ (fun (c6 : (0 : Int) ≠ (0)) => absurd c6 (by decide)) (fun _ => ?_)
          refine ez_go (n := 2) (pc' := 157) (L' := [(6, .inl (k)), (0, .inr (.inr (some (770)))), (1, .inl (3)), (2, .inr (.inr (some (q)))), (3, .inl ((u.length : Int))), (4, .inl (i)), (5, .inl (loc))]) (st' := [.inl (1)]) rfl ?_
          exact ez_retZ rfl rfl (Or.inr rfl) (kN (by first | exact scA_no hn (by omega) | exact scA_not hn (by omega) (by omega) (by unfold sP3; omega) wc))
    · skip
      refine ez_go (n := 3) (pc' := 121) (L' := [(6, .inl (k)), (0, .inr (.inr (some (770)))), (1, .inl (3)), (2, .inr (.inr (some (q)))), (3, .inl ((u.length : Int))), (4, .inl (i)), (5, .inl (loc))]) (st' := [.inl (k), .inr (.inr (some (q))), .inr (.inr (some (770)))]) rfl ?_
      have n8 : 2000 ≤ qz_N h q ∧ qz_N h q ≤ 2000 := ez_len hB tq tq_37 rfl
      refine ez_aI hB tq rfl tq_37 rfl rfl (by omega) (by omega) (fun (b7 : -2147483648 ≤ qz_I h q (k).toNat) (b7' : qz_I h q (k).toNat ≤ 2147483647) => ?_)
      have pb := uX_ptl mt.2.1.2 (show (k).toNat < u.length by omega)
      have prg : ez_rg (uX u k) := ⟨by omega, by omega⟩
      rw [mt.2.2 k (by omega) (by omega)]
      refine ez_go (n := 1) (pc' := 123) (L' := [(6, .inl (k)), (0, .inr (.inr (some (770)))), (1, .inl (3)), (2, .inr (.inr (some (q)))), (3, .inl ((u.length : Int))), (4, .inl (i)), (5, .inl (loc))]) (st' := [.inl (1), .inl (uX u k), .inr (.inr (some (770)))]) rfl ?_
      refine ez_cv hB t770 rfl rfl rfl tq_75 rfl rfl rfl (rd_mhas (m := 2) hI prg (by unfold qm; omega) (fun wh => ez_K1 ?_) (fun wh => ez_K1 ?_))
      · have kt : kT (yD Ls) u 2 k ≠ 0 := wh
        refine ez_if rfl rfl ⟨by decide, by decide⟩ (fun (c9 : (1 : Int) = (0)) => absurd c9 (by decide)) (fun _ => ?_)
        refine ez_go (n := 2) (pc' := 111) (L' := [(6, .inl (k + 1)), (0, .inr (.inr (some (770)))), (1, .inl (3)), (2, .inr (.inr (some (q)))), (3, .inl ((u.length : Int))), (4, .inl (i)), (5, .inl (loc))]) (st' := []) rfl ?_
        refine ez_less [(6, .inl (k + 1)), (0, .inr (.inr (some (770)))), (1, .inl (3)), (2, .inr (.inr (some (q)))), (3, .inl ((u.length : Int))), (4, .inl (i)), (5, .inl (loc))] rfl ⟨rfl, rfl, rfl, rfl, rfl, rfl, rfl, trivial⟩ ?_
        exact ih _ (by omega) (by omega) (by omega) (scA_st hn (by unfold sP3; omega))
      · have kt : kT (yD Ls) u 2 k = 0 := Classical.not_not.mp wh
        refine ez_if rfl rfl ⟨by decide, by decide⟩ (fun _ => ?_) (fun (c10 : ¬((0 : Int) = (0))) => absurd c10 (by decide))
        refine ez_go (n := 2) (pc' := 138) (L' := [(6, .inl (k)), (0, .inr (.inr (some (770)))), (1, .inl (3)), (2, .inr (.inr (some (q)))), (3, .inl ((u.length : Int))), (4, .inl (i)), (5, .inl (loc))]) (st' := [.inl ((u.length : Int)), .inl (k)]) rfl ?_
        refine ez_icmp rfl rfl ⟨by first | omega | exact (sz_i32 _).1, by first | omega | exact (sz_i32 _).2⟩ ⟨by first | omega | exact (sz_i32 _).1, by first | omega | exact (sz_i32 _).2⟩ (fun (c11 : (k) = ((u.length : Int))) => ?_) (fun (c11 : ¬((k) = ((u.length : Int)))) => ?_)
        · skip
          refine ez_go (n := 2) (pc' := 157) (L' := [(6, .inl (k)), (0, .inr (.inr (some (770)))), (1, .inl (3)), (2, .inr (.inr (some (q)))), (3, .inl ((u.length : Int))), (4, .inl (i)), (5, .inl (loc))]) (st' := [.inl (1)]) rfl ?_
          exact ez_retZ rfl rfl (Or.inr rfl) (kN (by first | exact scA_no hn (by omega) | exact scA_not hn (by omega) (by omega) (by unfold sP3; omega) wc))
        · skip
          refine ez_go (n := 3) (pc' := 145) (L' := [(6, .inl (k)), (0, .inr (.inr (some (770)))), (1, .inl (3)), (2, .inr (.inr (some (q)))), (3, .inl ((u.length : Int))), (4, .inl (i)), (5, .inl (loc))]) (st' := [.inl (k), .inr (.inr (some (q))), .inr (.inr (some (770)))]) rfl ?_
          have n13 : 2000 ≤ qz_N h q ∧ qz_N h q ≤ 2000 := ez_len hB tq tq_37 rfl
          refine ez_aI hB tq rfl tq_37 rfl rfl (by omega) (by omega) (fun (b12 : -2147483648 ≤ qz_I h q (k).toNat) (b12' : qz_I h q (k).toNat ≤ 2147483647) => ?_)
          have pb := uX_ptl mt.2.1.2 (show (k).toNat < u.length by omega)
          have prg : ez_rg (uX u k) := ⟨by omega, by omega⟩
          rw [mt.2.2 k (by omega) (by omega)]
          refine ez_cv hB t770 rfl rfl rfl tq_75 rfl rfl rfl (rd_mcased hI prg (fun wc => ez_K1 ?_) (fun wc => ez_K1 ?_))
          · skip
            refine ez_if rfl rfl ⟨by decide, by decide⟩ (fun _ => ?_) (fun (c14 : ¬((1 : Int) ≠ (0))) => absurd c14 (by decide))
            refine ez_go (n := 1) (pc' := 157) (L' := [(6, .inl (k)), (0, .inr (.inr (some (770)))), (1, .inl (3)), (2, .inr (.inr (some (q)))), (3, .inl ((u.length : Int))), (4, .inl (i)), (5, .inl (loc))]) (st' := [.inl (0)]) rfl ?_
            exact ez_retZ rfl rfl (Or.inl rfl) (kA (by first | (exfalso; omega) | exact ⟨k, by omega, by omega, by unfold sP3; omega, wc, hn⟩))
          · skip
            refine ez_if rfl rfl ⟨by decide, by decide⟩ (fun (c15 : (0 : Int) ≠ (0)) => absurd c15 (by decide)) (fun _ => ?_)
            refine ez_go (n := 2) (pc' := 157) (L' := [(6, .inl (k)), (0, .inr (.inr (some (770)))), (1, .inl (3)), (2, .inr (.inr (some (q)))), (3, .inl ((u.length : Int))), (4, .inl (i)), (5, .inl (loc))]) (st' := [.inl (1)]) rfl ?_
            exact ez_retZ rfl rfl (Or.inr rfl) (kN (by first | exact scA_no hn (by omega) | exact scA_not hn (by omega) (by omega) (by unfold sP3; omega) wc))

theorem rd_mh3a {i : Int} (hI : mI τ h Ls b) (mt : mtx τ h q u) (i0 : 0 ≤ i) (i1 : i < (u.length : Int)) (lr : ez_rg loc) (k1 : cnd (yD Ls) (vF Ls) u loc 3 i → Q (.inl (some (ez_v (.inl 1))), h)) (k0 : ¬ cnd (yD Ls) (vF Ls) u loc 3 i → Q (.inl (some (ez_v (.inl 0))), h)) : ∀ (n : Nat) (k : Int), n = (k + 1).toNat → -1 ≤ k → k < i → (∀ j, k < j → j < i → ¬ (sP3 (yD Ls) u) j) → ez_W (d + 3) cm_266 64 [(6, .inl (k)), (0, .inr (.inr (some (770)))), (1, .inl (3)), (2, .inr (.inr (some (q)))), (3, .inl ((u.length : Int))), (4, .inl (i)), (5, .inl (loc))] [] h Q := by
  have hB := hI.1
  have t770 : τ 770 = 75 := hI.2.1 770 (by decide)
  have b12 : 0 ≤ qz_I h 770 12 ∧ qz_I h 770 12 ≤ 512 := ez_fB (cl := 11) (k := 12) hB t770 tq_75 rfl rfl (by decide)
  have lce : lc h = qz_I h 770 12 := rfl
  have nls : lc h ≤ qz_N h (ls h) := hI.2.2.1.1.1
  have tq := mt.1
  have n2 := mt.2.1.1
  intro n
  induction n with
  | zero =>
    intro k hn0 ka kb hn
    refine ez_go (n := 1) (pc' := 66) (L' := [(6, .inl (k)), (0, .inr (.inr (some (770)))), (1, .inl (3)), (2, .inr (.inr (some (q)))), (3, .inl ((u.length : Int))), (4, .inl (i)), (5, .inl (loc))]) (st' := [.inl (k)]) rfl ?_
    refine ez_if rfl rfl ⟨by first | omega | exact (sz_i32 _).1, by first | omega | exact (sz_i32 _).2⟩ (fun (c1 : (k) < (0)) => ?_) (fun (c1 : ¬((k) < (0))) => ?_)
    · skip
      refine ez_go (n := 1) (pc' := 89) (L' := [(6, .inl (k)), (0, .inr (.inr (some (770)))), (1, .inl (3)), (2, .inr (.inr (some (q)))), (3, .inl ((u.length : Int))), (4, .inl (i)), (5, .inl (loc))]) (st' := [.inl (k)]) rfl ?_
      refine ez_if rfl rfl ⟨by first | omega | exact (sz_i32 _).1, by first | omega | exact (sz_i32 _).2⟩ (fun (c2 : (k) < (0)) => ?_) (fun (c2 : ¬((k) < (0))) => ?_)
      · skip
        refine ez_go (n := 1) (pc' := 104) (L' := [(6, .inl (k)), (0, .inr (.inr (some (770)))), (1, .inl (3)), (2, .inr (.inr (some (q)))), (3, .inl ((u.length : Int))), (4, .inl (i)), (5, .inl (loc))]) (st' := [.inl (0)]) rfl ?_
        exact ez_retZ rfl rfl (Or.inl rfl) (k0 (fun q => (show ¬ scB (sP3 (yD Ls) u) (sH3 (yD Ls) u) i by first | exact scB_no hn (by omega) | exact scB_not hn (by omega) (by omega) (by unfold sP3; omega) wc) (cnd_3.mp q).1))
      · skip
        refine ez_go (n := 3) (pc' := 96) (L' := [(6, .inl (k)), (0, .inr (.inr (some (770)))), (1, .inl (3)), (2, .inr (.inr (some (q)))), (3, .inl ((u.length : Int))), (4, .inl (i)), (5, .inl (loc))]) (st' := [.inl (k), .inr (.inr (some (q))), .inr (.inr (some (770)))]) rfl ?_
        have n4 : 2000 ≤ qz_N h q ∧ qz_N h q ≤ 2000 := ez_len hB tq tq_37 rfl
        refine ez_aI hB tq rfl tq_37 rfl rfl (by omega) (by omega) (fun (b3 : -2147483648 ≤ qz_I h q (k).toNat) (b3' : qz_I h q (k).toNat ≤ 2147483647) => ?_)
        have pb := uX_ptl mt.2.1.2 (show (k).toNat < u.length by omega)
        have prg : ez_rg (uX u k) := ⟨by omega, by omega⟩
        rw [mt.2.2 k (by omega) (by omega)]
        refine ez_cv hB t770 rfl rfl rfl tq_75 rfl rfl rfl (rd_mcased hI prg (fun wc => ez_K1 ?_) (fun wc => ez_K1 ?_))
        · skip
          refine ez_if rfl rfl ⟨by decide, by decide⟩ (fun _ => ?_) (fun (c5 : ¬((1 : Int) ≠ (0))) => absurd c5 (by decide))
          refine ez_go (n := 4) (pc' := 111) (L' := [(6, .inl ((i) + (1))), (0, .inr (.inr (some (770)))), (1, .inl (3)), (2, .inr (.inr (some (q)))), (3, .inl ((u.length : Int))), (4, .inl (i)), (5, .inl (loc))]) (st' := []) rfl ?_
          refine ez_less [(6, .inl ((i) + (1))), (0, .inr (.inr (some (770)))), (1, .inl (3)), (2, .inr (.inr (some (q)))), (3, .inl ((u.length : Int))), (4, .inl (i)), (5, .inl (loc))] rfl ⟨rfl, rfl, rfl, rfl, rfl, rfl, rfl, trivial⟩ ?_
          first | (exfalso; omega) | (have sb : scB (sP3 (yD Ls) u) (sH3 (yD Ls) u) i := ⟨k, by omega, by omega, by unfold sP3; omega, wc, hn⟩; exact rd_mh3b hI mt i0 i1 lr (fun w => k1 (cnd_3.mpr ⟨sb, w⟩)) (fun w => k0 (fun q => (cnd_3.mp q).2 w)) _ _ rfl (by omega) (by omega) (fun j a b => by omega))
        · skip
          refine ez_if rfl rfl ⟨by decide, by decide⟩ (fun (c6 : (0 : Int) ≠ (0)) => absurd c6 (by decide)) (fun _ => ?_)
          refine ez_go (n := 1) (pc' := 104) (L' := [(6, .inl (k)), (0, .inr (.inr (some (770)))), (1, .inl (3)), (2, .inr (.inr (some (q)))), (3, .inl ((u.length : Int))), (4, .inl (i)), (5, .inl (loc))]) (st' := [.inl (0)]) rfl ?_
          exact ez_retZ rfl rfl (Or.inl rfl) (k0 (fun q => (show ¬ scB (sP3 (yD Ls) u) (sH3 (yD Ls) u) i by first | exact scB_no hn (by omega) | exact scB_not hn (by omega) (by omega) (by unfold sP3; omega) wc) (cnd_3.mp q).1))
    · skip
      refine ez_go (n := 3) (pc' := 73) (L' := [(6, .inl (k)), (0, .inr (.inr (some (770)))), (1, .inl (3)), (2, .inr (.inr (some (q)))), (3, .inl ((u.length : Int))), (4, .inl (i)), (5, .inl (loc))]) (st' := [.inl (k), .inr (.inr (some (q))), .inr (.inr (some (770)))]) rfl ?_
      have n8 : 2000 ≤ qz_N h q ∧ qz_N h q ≤ 2000 := ez_len hB tq tq_37 rfl
      refine ez_aI hB tq rfl tq_37 rfl rfl (by omega) (by omega) (fun (b7 : -2147483648 ≤ qz_I h q (k).toNat) (b7' : qz_I h q (k).toNat ≤ 2147483647) => ?_)
      have pb := uX_ptl mt.2.1.2 (show (k).toNat < u.length by omega)
      have prg : ez_rg (uX u k) := ⟨by omega, by omega⟩
      rw [mt.2.2 k (by omega) (by omega)]
      refine ez_go (n := 1) (pc' := 75) (L' := [(6, .inl (k)), (0, .inr (.inr (some (770)))), (1, .inl (3)), (2, .inr (.inr (some (q)))), (3, .inl ((u.length : Int))), (4, .inl (i)), (5, .inl (loc))]) (st' := [.inl (1), .inl (uX u k), .inr (.inr (some (770)))]) rfl ?_
      refine ez_cv hB t770 rfl rfl rfl tq_75 rfl rfl rfl (rd_mhas (m := 2) hI prg (by unfold qm; omega) (fun wh => ez_K1 ?_) (fun wh => ez_K1 ?_))
      · have kt : kT (yD Ls) u 2 k ≠ 0 := wh
        refine ez_if rfl rfl ⟨by decide, by decide⟩ (fun (c9 : (1 : Int) = (0)) => absurd c9 (by decide)) (fun _ => ?_)
        refine ez_go (n := 2) (pc' := 64) (L' := [(6, .inl (k + (-1))), (0, .inr (.inr (some (770)))), (1, .inl (3)), (2, .inr (.inr (some (q)))), (3, .inl ((u.length : Int))), (4, .inl (i)), (5, .inl (loc))]) (st' := []) rfl ?_
        exfalso; omega
      · have kt : kT (yD Ls) u 2 k = 0 := Classical.not_not.mp wh
        refine ez_if rfl rfl ⟨by decide, by decide⟩ (fun _ => ?_) (fun (c10 : ¬((0 : Int) = (0))) => absurd c10 (by decide))
        refine ez_go (n := 1) (pc' := 89) (L' := [(6, .inl (k)), (0, .inr (.inr (some (770)))), (1, .inl (3)), (2, .inr (.inr (some (q)))), (3, .inl ((u.length : Int))), (4, .inl (i)), (5, .inl (loc))]) (st' := [.inl (k)]) rfl ?_
        refine ez_if rfl rfl ⟨by first | omega | exact (sz_i32 _).1, by first | omega | exact (sz_i32 _).2⟩ (fun (c11 : (k) < (0)) => ?_) (fun (c11 : ¬((k) < (0))) => ?_)
        · skip
          refine ez_go (n := 1) (pc' := 104) (L' := [(6, .inl (k)), (0, .inr (.inr (some (770)))), (1, .inl (3)), (2, .inr (.inr (some (q)))), (3, .inl ((u.length : Int))), (4, .inl (i)), (5, .inl (loc))]) (st' := [.inl (0)]) rfl ?_
          exact ez_retZ rfl rfl (Or.inl rfl) (k0 (fun q => (show ¬ scB (sP3 (yD Ls) u) (sH3 (yD Ls) u) i by first | exact scB_no hn (by omega) | exact scB_not hn (by omega) (by omega) (by unfold sP3; omega) wc) (cnd_3.mp q).1))
        · skip
          refine ez_go (n := 3) (pc' := 96) (L' := [(6, .inl (k)), (0, .inr (.inr (some (770)))), (1, .inl (3)), (2, .inr (.inr (some (q)))), (3, .inl ((u.length : Int))), (4, .inl (i)), (5, .inl (loc))]) (st' := [.inl (k), .inr (.inr (some (q))), .inr (.inr (some (770)))]) rfl ?_
          have n13 : 2000 ≤ qz_N h q ∧ qz_N h q ≤ 2000 := ez_len hB tq tq_37 rfl
          refine ez_aI hB tq rfl tq_37 rfl rfl (by omega) (by omega) (fun (b12 : -2147483648 ≤ qz_I h q (k).toNat) (b12' : qz_I h q (k).toNat ≤ 2147483647) => ?_)
          have pb := uX_ptl mt.2.1.2 (show (k).toNat < u.length by omega)
          have prg : ez_rg (uX u k) := ⟨by omega, by omega⟩
          rw [mt.2.2 k (by omega) (by omega)]
          refine ez_cv hB t770 rfl rfl rfl tq_75 rfl rfl rfl (rd_mcased hI prg (fun wc => ez_K1 ?_) (fun wc => ez_K1 ?_))
          · skip
            refine ez_if rfl rfl ⟨by decide, by decide⟩ (fun _ => ?_) (fun (c14 : ¬((1 : Int) ≠ (0))) => absurd c14 (by decide))
            refine ez_go (n := 4) (pc' := 111) (L' := [(6, .inl ((i) + (1))), (0, .inr (.inr (some (770)))), (1, .inl (3)), (2, .inr (.inr (some (q)))), (3, .inl ((u.length : Int))), (4, .inl (i)), (5, .inl (loc))]) (st' := []) rfl ?_
            refine ez_less [(6, .inl ((i) + (1))), (0, .inr (.inr (some (770)))), (1, .inl (3)), (2, .inr (.inr (some (q)))), (3, .inl ((u.length : Int))), (4, .inl (i)), (5, .inl (loc))] rfl ⟨rfl, rfl, rfl, rfl, rfl, rfl, rfl, trivial⟩ ?_
            first | (exfalso; omega) | (have sb : scB (sP3 (yD Ls) u) (sH3 (yD Ls) u) i := ⟨k, by omega, by omega, by unfold sP3; omega, wc, hn⟩; exact rd_mh3b hI mt i0 i1 lr (fun w => k1 (cnd_3.mpr ⟨sb, w⟩)) (fun w => k0 (fun q => (cnd_3.mp q).2 w)) _ _ rfl (by omega) (by omega) (fun j a b => by omega))
          · skip
            refine ez_if rfl rfl ⟨by decide, by decide⟩ (fun (c15 : (0 : Int) ≠ (0)) => absurd c15 (by decide)) (fun _ => ?_)
            refine ez_go (n := 1) (pc' := 104) (L' := [(6, .inl (k)), (0, .inr (.inr (some (770)))), (1, .inl (3)), (2, .inr (.inr (some (q)))), (3, .inl ((u.length : Int))), (4, .inl (i)), (5, .inl (loc))]) (st' := [.inl (0)]) rfl ?_
            exact ez_retZ rfl rfl (Or.inl rfl) (k0 (fun q => (show ¬ scB (sP3 (yD Ls) u) (sH3 (yD Ls) u) i by first | exact scB_no hn (by omega) | exact scB_not hn (by omega) (by omega) (by unfold sP3; omega) wc) (cnd_3.mp q).1))
  | succ n ih =>
    intro k hn0 ka kb hn
    refine ez_go (n := 1) (pc' := 66) (L' := [(6, .inl (k)), (0, .inr (.inr (some (770)))), (1, .inl (3)), (2, .inr (.inr (some (q)))), (3, .inl ((u.length : Int))), (4, .inl (i)), (5, .inl (loc))]) (st' := [.inl (k)]) rfl ?_
    refine ez_if rfl rfl ⟨by first | omega | exact (sz_i32 _).1, by first | omega | exact (sz_i32 _).2⟩ (fun (c1 : (k) < (0)) => ?_) (fun (c1 : ¬((k) < (0))) => ?_)
    · skip
      refine ez_go (n := 1) (pc' := 89) (L' := [(6, .inl (k)), (0, .inr (.inr (some (770)))), (1, .inl (3)), (2, .inr (.inr (some (q)))), (3, .inl ((u.length : Int))), (4, .inl (i)), (5, .inl (loc))]) (st' := [.inl (k)]) rfl ?_
      refine ez_if rfl rfl ⟨by first | omega | exact (sz_i32 _).1, by first | omega | exact (sz_i32 _).2⟩ (fun (c2 : (k) < (0)) => ?_) (fun (c2 : ¬((k) < (0))) => ?_)
      · skip
        refine ez_go (n := 1) (pc' := 104) (L' := [(6, .inl (k)), (0, .inr (.inr (some (770)))), (1, .inl (3)), (2, .inr (.inr (some (q)))), (3, .inl ((u.length : Int))), (4, .inl (i)), (5, .inl (loc))]) (st' := [.inl (0)]) rfl ?_
        exact ez_retZ rfl rfl (Or.inl rfl) (k0 (fun q => (show ¬ scB (sP3 (yD Ls) u) (sH3 (yD Ls) u) i by first | exact scB_no hn (by omega) | exact scB_not hn (by omega) (by omega) (by unfold sP3; omega) wc) (cnd_3.mp q).1))
      · skip
        refine ez_go (n := 3) (pc' := 96) (L' := [(6, .inl (k)), (0, .inr (.inr (some (770)))), (1, .inl (3)), (2, .inr (.inr (some (q)))), (3, .inl ((u.length : Int))), (4, .inl (i)), (5, .inl (loc))]) (st' := [.inl (k), .inr (.inr (some (q))), .inr (.inr (some (770)))]) rfl ?_
        have n4 : 2000 ≤ qz_N h q ∧ qz_N h q ≤ 2000 := ez_len hB tq tq_37 rfl
        refine ez_aI hB tq rfl tq_37 rfl rfl (by omega) (by omega) (fun (b3 : -2147483648 ≤ qz_I h q (k).toNat) (b3' : qz_I h q (k).toNat ≤ 2147483647) => ?_)
        have pb := uX_ptl mt.2.1.2 (show (k).toNat < u.length by omega)
        have prg : ez_rg (uX u k) := ⟨by omega, by omega⟩
        rw [mt.2.2 k (by omega) (by omega)]
        refine ez_cv hB t770 rfl rfl rfl tq_75 rfl rfl rfl (rd_mcased hI prg (fun wc => ez_K1 ?_) (fun wc => ez_K1 ?_))
        · skip
          refine ez_if rfl rfl ⟨by decide, by decide⟩ (fun _ => ?_) (fun (c5 : ¬((1 : Int) ≠ (0))) => absurd c5 (by decide))
          refine ez_go (n := 4) (pc' := 111) (L' := [(6, .inl ((i) + (1))), (0, .inr (.inr (some (770)))), (1, .inl (3)), (2, .inr (.inr (some (q)))), (3, .inl ((u.length : Int))), (4, .inl (i)), (5, .inl (loc))]) (st' := []) rfl ?_
          refine ez_less [(6, .inl ((i) + (1))), (0, .inr (.inr (some (770)))), (1, .inl (3)), (2, .inr (.inr (some (q)))), (3, .inl ((u.length : Int))), (4, .inl (i)), (5, .inl (loc))] rfl ⟨rfl, rfl, rfl, rfl, rfl, rfl, rfl, trivial⟩ ?_
          first | (exfalso; omega) | (have sb : scB (sP3 (yD Ls) u) (sH3 (yD Ls) u) i := ⟨k, by omega, by omega, by unfold sP3; omega, wc, hn⟩; exact rd_mh3b hI mt i0 i1 lr (fun w => k1 (cnd_3.mpr ⟨sb, w⟩)) (fun w => k0 (fun q => (cnd_3.mp q).2 w)) _ _ rfl (by omega) (by omega) (fun j a b => by omega))
        · skip
          refine ez_if rfl rfl ⟨by decide, by decide⟩ (fun (c6 : (0 : Int) ≠ (0)) => absurd c6 (by decide)) (fun _ => ?_)
          refine ez_go (n := 1) (pc' := 104) (L' := [(6, .inl (k)), (0, .inr (.inr (some (770)))), (1, .inl (3)), (2, .inr (.inr (some (q)))), (3, .inl ((u.length : Int))), (4, .inl (i)), (5, .inl (loc))]) (st' := [.inl (0)]) rfl ?_
          exact ez_retZ rfl rfl (Or.inl rfl) (k0 (fun q => (show ¬ scB (sP3 (yD Ls) u) (sH3 (yD Ls) u) i by first | exact scB_no hn (by omega) | exact scB_not hn (by omega) (by omega) (by unfold sP3; omega) wc) (cnd_3.mp q).1))
    · skip
      refine ez_go (n := 3) (pc' := 73) (L' := [(6, .inl (k)), (0, .inr (.inr (some (770)))), (1, .inl (3)), (2, .inr (.inr (some (q)))), (3, .inl ((u.length : Int))), (4, .inl (i)), (5, .inl (loc))]) (st' := [.inl (k), .inr (.inr (some (q))), .inr (.inr (some (770)))]) rfl ?_
      have n8 : 2000 ≤ qz_N h q ∧ qz_N h q ≤ 2000 := ez_len hB tq tq_37 rfl
      refine ez_aI hB tq rfl tq_37 rfl rfl (by omega) (by omega) (fun (b7 : -2147483648 ≤ qz_I h q (k).toNat) (b7' : qz_I h q (k).toNat ≤ 2147483647) => ?_)
      have pb := uX_ptl mt.2.1.2 (show (k).toNat < u.length by omega)
      have prg : ez_rg (uX u k) := ⟨by omega, by omega⟩
      rw [mt.2.2 k (by omega) (by omega)]
      refine ez_go (n := 1) (pc' := 75) (L' := [(6, .inl (k)), (0, .inr (.inr (some (770)))), (1, .inl (3)), (2, .inr (.inr (some (q)))), (3, .inl ((u.length : Int))), (4, .inl (i)), (5, .inl (loc))]) (st' := [.inl (1), .inl (uX u k), .inr (.inr (some (770)))]) rfl ?_
      refine ez_cv hB t770 rfl rfl rfl tq_75 rfl rfl rfl (rd_mhas (m := 2) hI prg (by unfold qm; omega) (fun wh => ez_K1 ?_) (fun wh => ez_K1 ?_))
      · have kt : kT (yD Ls) u 2 k ≠ 0 := wh
        refine ez_if rfl rfl ⟨by decide, by decide⟩ (fun (c9 : (1 : Int) = (0)) => absurd c9 (by decide)) (fun _ => ?_)
        refine ez_go (n := 2) (pc' := 64) (L' := [(6, .inl (k + (-1))), (0, .inr (.inr (some (770)))), (1, .inl (3)), (2, .inr (.inr (some (q)))), (3, .inl ((u.length : Int))), (4, .inl (i)), (5, .inl (loc))]) (st' := []) rfl ?_
        refine ez_less [(6, .inl (k + (-1))), (0, .inr (.inr (some (770)))), (1, .inl (3)), (2, .inr (.inr (some (q)))), (3, .inl ((u.length : Int))), (4, .inl (i)), (5, .inl (loc))] rfl ⟨rfl, rfl, rfl, rfl, rfl, rfl, rfl, trivial⟩ ?_
        exact ih _ (by omega) (by omega) (by omega) (scB_st hn (by unfold sP3; omega))
      · have kt : kT (yD Ls) u 2 k = 0 := Classical.not_not.mp wh
        refine ez_if rfl rfl ⟨by decide, by decide⟩ (fun _ => ?_) (fun (c10 : ¬((0 : Int) = (0))) => absurd c10 (by decide))
        refine ez_go (n := 1) (pc' := 89) (L' := [(6, .inl (k)), (0, .inr (.inr (some (770)))), (1, .inl (3)), (2, .inr (.inr (some (q)))), (3, .inl ((u.length : Int))), (4, .inl (i)), (5, .inl (loc))]) (st' := [.inl (k)]) rfl ?_
        refine ez_if rfl rfl ⟨by first | omega | exact (sz_i32 _).1, by first | omega | exact (sz_i32 _).2⟩ (fun (c11 : (k) < (0)) => ?_) (fun (c11 : ¬((k) < (0))) => ?_)
        · skip
          refine ez_go (n := 1) (pc' := 104) (L' := [(6, .inl (k)), (0, .inr (.inr (some (770)))), (1, .inl (3)), (2, .inr (.inr (some (q)))), (3, .inl ((u.length : Int))), (4, .inl (i)), (5, .inl (loc))]) (st' := [.inl (0)]) rfl ?_
          exact ez_retZ rfl rfl (Or.inl rfl) (k0 (fun q => (show ¬ scB (sP3 (yD Ls) u) (sH3 (yD Ls) u) i by first | exact scB_no hn (by omega) | exact scB_not hn (by omega) (by omega) (by unfold sP3; omega) wc) (cnd_3.mp q).1))
        · skip
          refine ez_go (n := 3) (pc' := 96) (L' := [(6, .inl (k)), (0, .inr (.inr (some (770)))), (1, .inl (3)), (2, .inr (.inr (some (q)))), (3, .inl ((u.length : Int))), (4, .inl (i)), (5, .inl (loc))]) (st' := [.inl (k), .inr (.inr (some (q))), .inr (.inr (some (770)))]) rfl ?_
          have n13 : 2000 ≤ qz_N h q ∧ qz_N h q ≤ 2000 := ez_len hB tq tq_37 rfl
          refine ez_aI hB tq rfl tq_37 rfl rfl (by omega) (by omega) (fun (b12 : -2147483648 ≤ qz_I h q (k).toNat) (b12' : qz_I h q (k).toNat ≤ 2147483647) => ?_)
          have pb := uX_ptl mt.2.1.2 (show (k).toNat < u.length by omega)
          have prg : ez_rg (uX u k) := ⟨by omega, by omega⟩
          rw [mt.2.2 k (by omega) (by omega)]
          refine ez_cv hB t770 rfl rfl rfl tq_75 rfl rfl rfl (rd_mcased hI prg (fun wc => ez_K1 ?_) (fun wc => ez_K1 ?_))
          · skip
            refine ez_if rfl rfl ⟨by decide, by decide⟩ (fun _ => ?_) (fun (c14 : ¬((1 : Int) ≠ (0))) => absurd c14 (by decide))
            refine ez_go (n := 4) (pc' := 111) (L' := [(6, .inl ((i) + (1))), (0, .inr (.inr (some (770)))), (1, .inl (3)), (2, .inr (.inr (some (q)))), (3, .inl ((u.length : Int))), (4, .inl (i)), (5, .inl (loc))]) (st' := []) rfl ?_
            refine ez_less [(6, .inl ((i) + (1))), (0, .inr (.inr (some (770)))), (1, .inl (3)), (2, .inr (.inr (some (q)))), (3, .inl ((u.length : Int))), (4, .inl (i)), (5, .inl (loc))] rfl ⟨rfl, rfl, rfl, rfl, rfl, rfl, rfl, trivial⟩ ?_
            first | (exfalso; omega) | (have sb : scB (sP3 (yD Ls) u) (sH3 (yD Ls) u) i := ⟨k, by omega, by omega, by unfold sP3; omega, wc, hn⟩; exact rd_mh3b hI mt i0 i1 lr (fun w => k1 (cnd_3.mpr ⟨sb, w⟩)) (fun w => k0 (fun q => (cnd_3.mp q).2 w)) _ _ rfl (by omega) (by omega) (fun j a b => by omega))
          · skip
            refine ez_if rfl rfl ⟨by decide, by decide⟩ (fun (c15 : (0 : Int) ≠ (0)) => absurd c15 (by decide)) (fun _ => ?_)
            refine ez_go (n := 1) (pc' := 104) (L' := [(6, .inl (k)), (0, .inr (.inr (some (770)))), (1, .inl (3)), (2, .inr (.inr (some (q)))), (3, .inl ((u.length : Int))), (4, .inl (i)), (5, .inl (loc))]) (st' := [.inl (0)]) rfl ?_
            exact ez_retZ rfl rfl (Or.inl rfl) (k0 (fun q => (show ¬ scB (sP3 (yD Ls) u) (sH3 (yD Ls) u) i by first | exact scB_no hn (by omega) | exact scB_not hn (by omega) (by omega) (by unfold sP3; omega) wc) (cnd_3.mp q).1))

theorem rd_mh4a {i : Int} (hI : mI τ h Ls b) (mt : mtx τ h q u) (i0 : 0 ≤ i) (i1 : i < (u.length : Int)) (lr : ez_rg loc) (k1 : cnd (yD Ls) (vF Ls) u loc 4 i → Q (.inl (some (ez_v (.inl 1))), h)) (k0 : ¬ cnd (yD Ls) (vF Ls) u loc 4 i → Q (.inl (some (ez_v (.inl 0))), h)) : ∀ (n : Nat) (k : Int), n = (k + 1).toNat → -1 ≤ k → k < i → (∀ j, k < j → j < i → ¬ (sP4 (yD Ls) (vF Ls) u) j) → ez_W (d + 3) cm_266 158 [(6, .inl (k)), (0, .inr (.inr (some (770)))), (1, .inl (4)), (2, .inr (.inr (some (q)))), (3, .inl ((u.length : Int))), (4, .inl (i)), (5, .inl (loc))] [] h Q := by
  have hB := hI.1
  have t770 : τ 770 = 75 := hI.2.1 770 (by decide)
  have b12 : 0 ≤ qz_I h 770 12 ∧ qz_I h 770 12 ≤ 512 := ez_fB (cl := 11) (k := 12) hB t770 tq_75 rfl rfl (by decide)
  have lce : lc h = qz_I h 770 12 := rfl
  have nls : lc h ≤ qz_N h (ls h) := hI.2.2.1.1.1
  have tq := mt.1
  have n2 := mt.2.1.1
  intro n
  induction n with
  | zero =>
    intro k hn0 ka kb hn
    refine ez_go (n := 1) (pc' := 160) (L' := [(6, .inl (k)), (0, .inr (.inr (some (770)))), (1, .inl (4)), (2, .inr (.inr (some (q)))), (3, .inl ((u.length : Int))), (4, .inl (i)), (5, .inl (loc))]) (st' := [.inl (k)]) rfl ?_
    refine ez_if rfl rfl ⟨by first | omega | exact (sz_i32 _).1, by first | omega | exact (sz_i32 _).2⟩ (fun (c1 : (k) < (0)) => ?_) (fun (c1 : ¬((k) < (0))) => ?_)
    · skip
      refine ez_go (n := 1) (pc' := 226) (L' := [(6, .inl (k)), (0, .inr (.inr (some (770)))), (1, .inl (4)), (2, .inr (.inr (some (q)))), (3, .inl ((u.length : Int))), (4, .inl (i)), (5, .inl (loc))]) (st' := [.inl (0)]) rfl ?_
      exact ez_retZ rfl rfl (Or.inl rfl) (k0 (fun q => (show ¬ scB (sP4 (yD Ls) (vF Ls) u) (sH4 (yD Ls) u) i by first | exact scB_no hn (by omega) | exact scB_not hn (by omega) (by omega) (by unfold sP4; omega) (by unfold sH4; omega)) (cnd_4.mp q)))
    · skip
      refine ez_go (n := 2) (pc' := 165) (L' := [(6, .inl (k)), (0, .inr (.inr (some (770)))), (1, .inl (4)), (2, .inr (.inr (some (q)))), (3, .inl ((u.length : Int))), (4, .inl (i)), (5, .inl (loc))]) (st' := [.inl (4), .inl (4)]) rfl ?_
      refine ez_icmp rfl rfl ⟨by decide, by decide⟩ ⟨by decide, by decide⟩ (fun (c2 : (4 : Int) ≠ (4)) => absurd c2 (by decide)) (fun _ => ?_)
      refine ez_go (n := 3) (pc' := 172) (L' := [(6, .inl (k)), (0, .inr (.inr (some (770)))), (1, .inl (4)), (2, .inr (.inr (some (q)))), (3, .inl ((u.length : Int))), (4, .inl (i)), (5, .inl (loc))]) (st' := [.inl (k), .inr (.inr (some (q))), .inr (.inr (some (770)))]) rfl ?_
      have n4 : 2000 ≤ qz_N h q ∧ qz_N h q ≤ 2000 := ez_len hB tq tq_37 rfl
      refine ez_aI hB tq rfl tq_37 rfl rfl (by omega) (by omega) (fun (b3 : -2147483648 ≤ qz_I h q (k).toNat) (b3' : qz_I h q (k).toNat ≤ 2147483647) => ?_)
      have pb := uX_ptl mt.2.1.2 (show (k).toNat < u.length by omega)
      have prg : ez_rg (uX u k) := ⟨by omega, by omega⟩
      rw [mt.2.2 k (by omega) (by omega)]
      refine ez_go (n := 1) (pc' := 174) (L' := [(6, .inl (k)), (0, .inr (.inr (some (770)))), (1, .inl (4)), (2, .inr (.inr (some (q)))), (3, .inl ((u.length : Int))), (4, .inl (i)), (5, .inl (loc))]) (st' := [.inl (3), .inl (uX u k), .inr (.inr (some (770)))]) rfl ?_
      refine ez_cv hB t770 rfl rfl rfl tq_75 rfl rfl rfl (rd_mhas (m := 8) hI prg (by unfold qm; omega) (fun wh => ez_K1 ?_) (fun wh => ez_K1 ?_))
      · have kt : kT (yD Ls) u 8 k ≠ 0 := wh
        refine ez_if rfl rfl ⟨by decide, by decide⟩ (fun (c5 : (1 : Int) = (0)) => absurd c5 (by decide)) (fun _ => ?_)
        refine ez_go (n := 2) (pc' := 193) (L' := [(6, .inl (k)), (0, .inr (.inr (some (770)))), (1, .inl (4)), (2, .inr (.inr (some (q)))), (3, .inl ((u.length : Int))), (4, .inl (i)), (5, .inl (loc))]) (st' := [.inl (1)]) rfl ?_
        exact ez_retZ rfl rfl (Or.inr rfl) (k1 (cnd_4.mpr ⟨k, by omega, by omega, by unfold sP4; omega, by unfold sH4; omega, hn⟩))
      · have kt : kT (yD Ls) u 8 k = 0 := Classical.not_not.mp wh
        refine ez_if rfl rfl ⟨by decide, by decide⟩ (fun _ => ?_) (fun (c6 : ¬((0 : Int) = (0))) => absurd c6 (by decide))
        refine ez_go (n := 3) (pc' := 198) (L' := [(6, .inl (k)), (0, .inr (.inr (some (770)))), (1, .inl (4)), (2, .inr (.inr (some (q)))), (3, .inl ((u.length : Int))), (4, .inl (i)), (5, .inl (loc))]) (st' := [.inl (k), .inr (.inr (some (q))), .inr (.inr (some (770)))]) rfl ?_
        have n8 : 2000 ≤ qz_N h q ∧ qz_N h q ≤ 2000 := ez_len hB tq tq_37 rfl
        refine ez_aI hB tq rfl tq_37 rfl rfl (by omega) (by omega) (fun (b7 : -2147483648 ≤ qz_I h q (k).toNat) (b7' : qz_I h q (k).toNat ≤ 2147483647) => ?_)
        have pb := uX_ptl mt.2.1.2 (show (k).toNat < u.length by omega)
        have prg : ez_rg (uX u k) := ⟨by omega, by omega⟩
        rw [mt.2.2 k (by omega) (by omega)]
        refine ez_cv hB t770 rfl rfl rfl tq_75 rfl rfl rfl (rd_mrank hI prg (fun rr => ez_K1 ?_))
        obtain ⟨rr1, rr2⟩ := id rr
        rw [show (vF Ls (uX u k)).1 = kc (vF Ls) u k from rfl] at *
        refine ez_go (n := 2) (pc' := 206) (L' := [(7, .inl (kc (vF Ls) u k)), (6, .inl (k)), (0, .inr (.inr (some (770)))), (1, .inl (4)), (2, .inr (.inr (some (q)))), (3, .inl ((u.length : Int))), (4, .inl (i)), (5, .inl (loc))]) (st' := [.inl (kc (vF Ls) u k)]) rfl ?_
        refine ez_if rfl rfl ⟨by first | omega | exact (sz_i32 _).1, by first | omega | exact (sz_i32 _).2⟩ (fun (c9 : (kc (vF Ls) u k) = (0)) => ?_) (fun (c9 : ¬((kc (vF Ls) u k) = (0))) => ?_)
        · skip
          refine ez_go (n := 1) (pc' := 218) (L' := [(7, .inl (kc (vF Ls) u k)), (6, .inl (k)), (0, .inr (.inr (some (770)))), (1, .inl (4)), (2, .inr (.inr (some (q)))), (3, .inl ((u.length : Int))), (4, .inl (i)), (5, .inl (loc))]) (st' := [.inl (0)]) rfl ?_
          exact ez_retZ rfl rfl (Or.inl rfl) (k0 (fun q => (show ¬ scB (sP4 (yD Ls) (vF Ls) u) (sH4 (yD Ls) u) i by first | exact scB_no hn (by omega) | exact scB_not hn (by omega) (by omega) (by unfold sP4; omega) (by unfold sH4; omega)) (cnd_4.mp q)))
        · skip
          refine ez_go (n := 2) (pc' := 214) (L' := [(7, .inl (kc (vF Ls) u k)), (6, .inl (k)), (0, .inr (.inr (some (770)))), (1, .inl (4)), (2, .inr (.inr (some (q)))), (3, .inl ((u.length : Int))), (4, .inl (i)), (5, .inl (loc))]) (st' := [.inl (230), .inl (kc (vF Ls) u k)]) rfl ?_
          refine ez_icmp rfl rfl ⟨by first | omega | exact (sz_i32 _).1, by first | omega | exact (sz_i32 _).2⟩ ⟨by first | omega | exact (sz_i32 _).1, by first | omega | exact (sz_i32 _).2⟩ (fun (c10 : (kc (vF Ls) u k) ≠ (230)) => ?_) (fun (c10 : ¬((kc (vF Ls) u k) ≠ (230))) => ?_)
          · skip
            refine ez_go (n := 2) (pc' := 158) (L' := [(6, .inl (k + (-1))), (7, .inl (kc (vF Ls) u k)), (0, .inr (.inr (some (770)))), (1, .inl (4)), (2, .inr (.inr (some (q)))), (3, .inl ((u.length : Int))), (4, .inl (i)), (5, .inl (loc))]) (st' := []) rfl ?_
            exfalso; omega
          · skip
            refine ez_go (n := 1) (pc' := 218) (L' := [(7, .inl (kc (vF Ls) u k)), (6, .inl (k)), (0, .inr (.inr (some (770)))), (1, .inl (4)), (2, .inr (.inr (some (q)))), (3, .inl ((u.length : Int))), (4, .inl (i)), (5, .inl (loc))]) (st' := [.inl (0)]) rfl ?_
            exact ez_retZ rfl rfl (Or.inl rfl) (k0 (fun q => (show ¬ scB (sP4 (yD Ls) (vF Ls) u) (sH4 (yD Ls) u) i by first | exact scB_no hn (by omega) | exact scB_not hn (by omega) (by omega) (by unfold sP4; omega) (by unfold sH4; omega)) (cnd_4.mp q)))
  | succ n ih =>
    intro k hn0 ka kb hn
    refine ez_go (n := 1) (pc' := 160) (L' := [(6, .inl (k)), (0, .inr (.inr (some (770)))), (1, .inl (4)), (2, .inr (.inr (some (q)))), (3, .inl ((u.length : Int))), (4, .inl (i)), (5, .inl (loc))]) (st' := [.inl (k)]) rfl ?_
    refine ez_if rfl rfl ⟨by first | omega | exact (sz_i32 _).1, by first | omega | exact (sz_i32 _).2⟩ (fun (c1 : (k) < (0)) => ?_) (fun (c1 : ¬((k) < (0))) => ?_)
    · skip
      refine ez_go (n := 1) (pc' := 226) (L' := [(6, .inl (k)), (0, .inr (.inr (some (770)))), (1, .inl (4)), (2, .inr (.inr (some (q)))), (3, .inl ((u.length : Int))), (4, .inl (i)), (5, .inl (loc))]) (st' := [.inl (0)]) rfl ?_
      exact ez_retZ rfl rfl (Or.inl rfl) (k0 (fun q => (show ¬ scB (sP4 (yD Ls) (vF Ls) u) (sH4 (yD Ls) u) i by first | exact scB_no hn (by omega) | exact scB_not hn (by omega) (by omega) (by unfold sP4; omega) (by unfold sH4; omega)) (cnd_4.mp q)))
    · skip
      refine ez_go (n := 2) (pc' := 165) (L' := [(6, .inl (k)), (0, .inr (.inr (some (770)))), (1, .inl (4)), (2, .inr (.inr (some (q)))), (3, .inl ((u.length : Int))), (4, .inl (i)), (5, .inl (loc))]) (st' := [.inl (4), .inl (4)]) rfl ?_
      refine ez_icmp rfl rfl ⟨by decide, by decide⟩ ⟨by decide, by decide⟩ (fun (c2 : (4 : Int) ≠ (4)) => absurd c2 (by decide)) (fun _ => ?_)
      refine ez_go (n := 3) (pc' := 172) (L' := [(6, .inl (k)), (0, .inr (.inr (some (770)))), (1, .inl (4)), (2, .inr (.inr (some (q)))), (3, .inl ((u.length : Int))), (4, .inl (i)), (5, .inl (loc))]) (st' := [.inl (k), .inr (.inr (some (q))), .inr (.inr (some (770)))]) rfl ?_
      have n4 : 2000 ≤ qz_N h q ∧ qz_N h q ≤ 2000 := ez_len hB tq tq_37 rfl
      refine ez_aI hB tq rfl tq_37 rfl rfl (by omega) (by omega) (fun (b3 : -2147483648 ≤ qz_I h q (k).toNat) (b3' : qz_I h q (k).toNat ≤ 2147483647) => ?_)
      have pb := uX_ptl mt.2.1.2 (show (k).toNat < u.length by omega)
      have prg : ez_rg (uX u k) := ⟨by omega, by omega⟩
      rw [mt.2.2 k (by omega) (by omega)]
      refine ez_go (n := 1) (pc' := 174) (L' := [(6, .inl (k)), (0, .inr (.inr (some (770)))), (1, .inl (4)), (2, .inr (.inr (some (q)))), (3, .inl ((u.length : Int))), (4, .inl (i)), (5, .inl (loc))]) (st' := [.inl (3), .inl (uX u k), .inr (.inr (some (770)))]) rfl ?_
      refine ez_cv hB t770 rfl rfl rfl tq_75 rfl rfl rfl (rd_mhas (m := 8) hI prg (by unfold qm; omega) (fun wh => ez_K1 ?_) (fun wh => ez_K1 ?_))
      · have kt : kT (yD Ls) u 8 k ≠ 0 := wh
        refine ez_if rfl rfl ⟨by decide, by decide⟩ (fun (c5 : (1 : Int) = (0)) => absurd c5 (by decide)) (fun _ => ?_)
        refine ez_go (n := 2) (pc' := 193) (L' := [(6, .inl (k)), (0, .inr (.inr (some (770)))), (1, .inl (4)), (2, .inr (.inr (some (q)))), (3, .inl ((u.length : Int))), (4, .inl (i)), (5, .inl (loc))]) (st' := [.inl (1)]) rfl ?_
        exact ez_retZ rfl rfl (Or.inr rfl) (k1 (cnd_4.mpr ⟨k, by omega, by omega, by unfold sP4; omega, by unfold sH4; omega, hn⟩))
      · have kt : kT (yD Ls) u 8 k = 0 := Classical.not_not.mp wh
        refine ez_if rfl rfl ⟨by decide, by decide⟩ (fun _ => ?_) (fun (c6 : ¬((0 : Int) = (0))) => absurd c6 (by decide))
        refine ez_go (n := 3) (pc' := 198) (L' := [(6, .inl (k)), (0, .inr (.inr (some (770)))), (1, .inl (4)), (2, .inr (.inr (some (q)))), (3, .inl ((u.length : Int))), (4, .inl (i)), (5, .inl (loc))]) (st' := [.inl (k), .inr (.inr (some (q))), .inr (.inr (some (770)))]) rfl ?_
        have n8 : 2000 ≤ qz_N h q ∧ qz_N h q ≤ 2000 := ez_len hB tq tq_37 rfl
        refine ez_aI hB tq rfl tq_37 rfl rfl (by omega) (by omega) (fun (b7 : -2147483648 ≤ qz_I h q (k).toNat) (b7' : qz_I h q (k).toNat ≤ 2147483647) => ?_)
        have pb := uX_ptl mt.2.1.2 (show (k).toNat < u.length by omega)
        have prg : ez_rg (uX u k) := ⟨by omega, by omega⟩
        rw [mt.2.2 k (by omega) (by omega)]
        refine ez_cv hB t770 rfl rfl rfl tq_75 rfl rfl rfl (rd_mrank hI prg (fun rr => ez_K1 ?_))
        obtain ⟨rr1, rr2⟩ := id rr
        rw [show (vF Ls (uX u k)).1 = kc (vF Ls) u k from rfl] at *
        refine ez_go (n := 2) (pc' := 206) (L' := [(7, .inl (kc (vF Ls) u k)), (6, .inl (k)), (0, .inr (.inr (some (770)))), (1, .inl (4)), (2, .inr (.inr (some (q)))), (3, .inl ((u.length : Int))), (4, .inl (i)), (5, .inl (loc))]) (st' := [.inl (kc (vF Ls) u k)]) rfl ?_
        refine ez_if rfl rfl ⟨by first | omega | exact (sz_i32 _).1, by first | omega | exact (sz_i32 _).2⟩ (fun (c9 : (kc (vF Ls) u k) = (0)) => ?_) (fun (c9 : ¬((kc (vF Ls) u k) = (0))) => ?_)
        · skip
          refine ez_go (n := 1) (pc' := 218) (L' := [(7, .inl (kc (vF Ls) u k)), (6, .inl (k)), (0, .inr (.inr (some (770)))), (1, .inl (4)), (2, .inr (.inr (some (q)))), (3, .inl ((u.length : Int))), (4, .inl (i)), (5, .inl (loc))]) (st' := [.inl (0)]) rfl ?_
          exact ez_retZ rfl rfl (Or.inl rfl) (k0 (fun q => (show ¬ scB (sP4 (yD Ls) (vF Ls) u) (sH4 (yD Ls) u) i by first | exact scB_no hn (by omega) | exact scB_not hn (by omega) (by omega) (by unfold sP4; omega) (by unfold sH4; omega)) (cnd_4.mp q)))
        · skip
          refine ez_go (n := 2) (pc' := 214) (L' := [(7, .inl (kc (vF Ls) u k)), (6, .inl (k)), (0, .inr (.inr (some (770)))), (1, .inl (4)), (2, .inr (.inr (some (q)))), (3, .inl ((u.length : Int))), (4, .inl (i)), (5, .inl (loc))]) (st' := [.inl (230), .inl (kc (vF Ls) u k)]) rfl ?_
          refine ez_icmp rfl rfl ⟨by first | omega | exact (sz_i32 _).1, by first | omega | exact (sz_i32 _).2⟩ ⟨by first | omega | exact (sz_i32 _).1, by first | omega | exact (sz_i32 _).2⟩ (fun (c10 : (kc (vF Ls) u k) ≠ (230)) => ?_) (fun (c10 : ¬((kc (vF Ls) u k) ≠ (230))) => ?_)
          · skip
            refine ez_go (n := 2) (pc' := 158) (L' := [(6, .inl (k + (-1))), (7, .inl (kc (vF Ls) u k)), (0, .inr (.inr (some (770)))), (1, .inl (4)), (2, .inr (.inr (some (q)))), (3, .inl ((u.length : Int))), (4, .inl (i)), (5, .inl (loc))]) (st' := []) rfl ?_
            refine ez_less [(6, .inl (k + (-1))), (0, .inr (.inr (some (770)))), (1, .inl (4)), (2, .inr (.inr (some (q)))), (3, .inl ((u.length : Int))), (4, .inl (i)), (5, .inl (loc))] rfl ⟨rfl, rfl, rfl, rfl, rfl, rfl, rfl, trivial⟩ ?_
            exact ih _ (by omega) (by omega) (by omega) (scB_st hn (by unfold sP4; omega))
          · skip
            refine ez_go (n := 1) (pc' := 218) (L' := [(7, .inl (kc (vF Ls) u k)), (6, .inl (k)), (0, .inr (.inr (some (770)))), (1, .inl (4)), (2, .inr (.inr (some (q)))), (3, .inl ((u.length : Int))), (4, .inl (i)), (5, .inl (loc))]) (st' := [.inl (0)]) rfl ?_
            exact ez_retZ rfl rfl (Or.inl rfl) (k0 (fun q => (show ¬ scB (sP4 (yD Ls) (vF Ls) u) (sH4 (yD Ls) u) i by first | exact scB_no hn (by omega) | exact scB_not hn (by omega) (by omega) (by unfold sP4; omega) (by unfold sH4; omega)) (cnd_4.mp q)))

theorem rd_mh8a {i : Int} (hI : mI τ h Ls b) (mt : mtx τ h q u) (i0 : 0 ≤ i) (i1 : i < (u.length : Int)) (lr : ez_rg loc) (k1 : cnd (yD Ls) (vF Ls) u loc 8 i → Q (.inl (some (ez_v (.inl 1))), h)) (k0 : ¬ cnd (yD Ls) (vF Ls) u loc 8 i → Q (.inl (some (ez_v (.inl 0))), h)) : ∀ (n : Nat) (k : Int), n = (k + 1).toNat → -1 ≤ k → k < i → (∀ j, k < j → j < i → ¬ (sP6 (vF Ls) u 73) j) → ez_W (d + 3) cm_266 158 [(6, .inl (k)), (0, .inr (.inr (some (770)))), (1, .inl (8)), (2, .inr (.inr (some (q)))), (3, .inl ((u.length : Int))), (4, .inl (i)), (5, .inl (loc))] [] h Q := by
  have hB := hI.1
  have t770 : τ 770 = 75 := hI.2.1 770 (by decide)
  have b12 : 0 ≤ qz_I h 770 12 ∧ qz_I h 770 12 ≤ 512 := ez_fB (cl := 11) (k := 12) hB t770 tq_75 rfl rfl (by decide)
  have lce : lc h = qz_I h 770 12 := rfl
  have nls : lc h ≤ qz_N h (ls h) := hI.2.2.1.1.1
  have tq := mt.1
  have n2 := mt.2.1.1
  intro n
  induction n with
  | zero =>
    intro k hn0 ka kb hn
    refine ez_go (n := 1) (pc' := 160) (L' := [(6, .inl (k)), (0, .inr (.inr (some (770)))), (1, .inl (8)), (2, .inr (.inr (some (q)))), (3, .inl ((u.length : Int))), (4, .inl (i)), (5, .inl (loc))]) (st' := [.inl (k)]) rfl ?_
    refine ez_if rfl rfl ⟨by first | omega | exact (sz_i32 _).1, by first | omega | exact (sz_i32 _).2⟩ (fun (c1 : (k) < (0)) => ?_) (fun (c1 : ¬((k) < (0))) => ?_)
    · skip
      refine ez_go (n := 1) (pc' := 226) (L' := [(6, .inl (k)), (0, .inr (.inr (some (770)))), (1, .inl (8)), (2, .inr (.inr (some (q)))), (3, .inl ((u.length : Int))), (4, .inl (i)), (5, .inl (loc))]) (st' := [.inl (0)]) rfl ?_
      exact ez_retZ rfl rfl (Or.inl rfl) (k0 (fun q => (show ¬ scB (sP6 (vF Ls) u 73) (sH6 u 73) i by first | exact scB_no hn (by omega) | exact scB_not hn (by omega) (by omega) (by unfold sP6; omega) (by unfold sH6; omega)) (cnd_8.mp q)))
    · skip
      refine ez_go (n := 2) (pc' := 165) (L' := [(6, .inl (k)), (0, .inr (.inr (some (770)))), (1, .inl (8)), (2, .inr (.inr (some (q)))), (3, .inl ((u.length : Int))), (4, .inl (i)), (5, .inl (loc))]) (st' := [.inl (4), .inl (8)]) rfl ?_
      refine ez_icmp rfl rfl ⟨by decide, by decide⟩ ⟨by decide, by decide⟩ (fun _ => ?_) (fun (c2 : ¬((8 : Int) ≠ (4))) => absurd c2 (by decide))
      refine ez_go (n := 2) (pc' := 186) (L' := [(6, .inl (k)), (0, .inr (.inr (some (770)))), (1, .inl (8)), (2, .inr (.inr (some (q)))), (3, .inl ((u.length : Int))), (4, .inl (i)), (5, .inl (loc))]) (st' := [.inl (k), .inr (.inr (some (q)))]) rfl ?_
      have n4 : 2000 ≤ qz_N h q ∧ qz_N h q ≤ 2000 := ez_len hB tq tq_37 rfl
      refine ez_aI hB tq rfl tq_37 rfl rfl (by omega) (by omega) (fun (b3 : -2147483648 ≤ qz_I h q (k).toNat) (b3' : qz_I h q (k).toNat ≤ 2147483647) => ?_)
      have pb := uX_ptl mt.2.1.2 (show (k).toNat < u.length by omega)
      have prg : ez_rg (uX u k) := ⟨by omega, by omega⟩
      rw [mt.2.2 k (by omega) (by omega)]
      refine ez_go (n := 1) (pc' := 189) (L' := [(6, .inl (k)), (0, .inr (.inr (some (770)))), (1, .inl (8)), (2, .inr (.inr (some (q)))), (3, .inl ((u.length : Int))), (4, .inl (i)), (5, .inl (loc))]) (st' := [.inl (73), .inl (uX u k)]) rfl ?_
      refine ez_icmp rfl rfl ⟨by first | omega | exact (sz_i32 _).1, by first | omega | exact (sz_i32 _).2⟩ ⟨by first | omega | exact (sz_i32 _).1, by first | omega | exact (sz_i32 _).2⟩ (fun (c5 : (uX u k) ≠ (73)) => ?_) (fun (c5 : ¬((uX u k) ≠ (73))) => ?_)
      · skip
        refine ez_go (n := 3) (pc' := 198) (L' := [(6, .inl (k)), (0, .inr (.inr (some (770)))), (1, .inl (8)), (2, .inr (.inr (some (q)))), (3, .inl ((u.length : Int))), (4, .inl (i)), (5, .inl (loc))]) (st' := [.inl (k), .inr (.inr (some (q))), .inr (.inr (some (770)))]) rfl ?_
        have n7 : 2000 ≤ qz_N h q ∧ qz_N h q ≤ 2000 := ez_len hB tq tq_37 rfl
        refine ez_aI hB tq rfl tq_37 rfl rfl (by omega) (by omega) (fun (b6 : -2147483648 ≤ qz_I h q (k).toNat) (b6' : qz_I h q (k).toNat ≤ 2147483647) => ?_)
        have pb := uX_ptl mt.2.1.2 (show (k).toNat < u.length by omega)
        have prg : ez_rg (uX u k) := ⟨by omega, by omega⟩
        rw [mt.2.2 k (by omega) (by omega)]
        refine ez_cv hB t770 rfl rfl rfl tq_75 rfl rfl rfl (rd_mrank hI prg (fun rr => ez_K1 ?_))
        obtain ⟨rr1, rr2⟩ := id rr
        rw [show (vF Ls (uX u k)).1 = kc (vF Ls) u k from rfl] at *
        refine ez_go (n := 2) (pc' := 206) (L' := [(7, .inl (kc (vF Ls) u k)), (6, .inl (k)), (0, .inr (.inr (some (770)))), (1, .inl (8)), (2, .inr (.inr (some (q)))), (3, .inl ((u.length : Int))), (4, .inl (i)), (5, .inl (loc))]) (st' := [.inl (kc (vF Ls) u k)]) rfl ?_
        refine ez_if rfl rfl ⟨by first | omega | exact (sz_i32 _).1, by first | omega | exact (sz_i32 _).2⟩ (fun (c8 : (kc (vF Ls) u k) = (0)) => ?_) (fun (c8 : ¬((kc (vF Ls) u k) = (0))) => ?_)
        · skip
          refine ez_go (n := 1) (pc' := 218) (L' := [(7, .inl (kc (vF Ls) u k)), (6, .inl (k)), (0, .inr (.inr (some (770)))), (1, .inl (8)), (2, .inr (.inr (some (q)))), (3, .inl ((u.length : Int))), (4, .inl (i)), (5, .inl (loc))]) (st' := [.inl (0)]) rfl ?_
          exact ez_retZ rfl rfl (Or.inl rfl) (k0 (fun q => (show ¬ scB (sP6 (vF Ls) u 73) (sH6 u 73) i by first | exact scB_no hn (by omega) | exact scB_not hn (by omega) (by omega) (by unfold sP6; omega) (by unfold sH6; omega)) (cnd_8.mp q)))
        · skip
          refine ez_go (n := 2) (pc' := 214) (L' := [(7, .inl (kc (vF Ls) u k)), (6, .inl (k)), (0, .inr (.inr (some (770)))), (1, .inl (8)), (2, .inr (.inr (some (q)))), (3, .inl ((u.length : Int))), (4, .inl (i)), (5, .inl (loc))]) (st' := [.inl (230), .inl (kc (vF Ls) u k)]) rfl ?_
          refine ez_icmp rfl rfl ⟨by first | omega | exact (sz_i32 _).1, by first | omega | exact (sz_i32 _).2⟩ ⟨by first | omega | exact (sz_i32 _).1, by first | omega | exact (sz_i32 _).2⟩ (fun (c9 : (kc (vF Ls) u k) ≠ (230)) => ?_) (fun (c9 : ¬((kc (vF Ls) u k) ≠ (230))) => ?_)
          · skip
            refine ez_go (n := 2) (pc' := 158) (L' := [(6, .inl (k + (-1))), (7, .inl (kc (vF Ls) u k)), (0, .inr (.inr (some (770)))), (1, .inl (8)), (2, .inr (.inr (some (q)))), (3, .inl ((u.length : Int))), (4, .inl (i)), (5, .inl (loc))]) (st' := []) rfl ?_
            exfalso; omega
          · skip
            refine ez_go (n := 1) (pc' := 218) (L' := [(7, .inl (kc (vF Ls) u k)), (6, .inl (k)), (0, .inr (.inr (some (770)))), (1, .inl (8)), (2, .inr (.inr (some (q)))), (3, .inl ((u.length : Int))), (4, .inl (i)), (5, .inl (loc))]) (st' := [.inl (0)]) rfl ?_
            exact ez_retZ rfl rfl (Or.inl rfl) (k0 (fun q => (show ¬ scB (sP6 (vF Ls) u 73) (sH6 u 73) i by first | exact scB_no hn (by omega) | exact scB_not hn (by omega) (by omega) (by unfold sP6; omega) (by unfold sH6; omega)) (cnd_8.mp q)))
      · skip
        refine ez_go (n := 1) (pc' := 193) (L' := [(6, .inl (k)), (0, .inr (.inr (some (770)))), (1, .inl (8)), (2, .inr (.inr (some (q)))), (3, .inl ((u.length : Int))), (4, .inl (i)), (5, .inl (loc))]) (st' := [.inl (1)]) rfl ?_
        exact ez_retZ rfl rfl (Or.inr rfl) (k1 (cnd_8.mpr ⟨k, by omega, by omega, by unfold sP6; omega, by unfold sH6; omega, hn⟩))
  | succ n ih =>
    intro k hn0 ka kb hn
    refine ez_go (n := 1) (pc' := 160) (L' := [(6, .inl (k)), (0, .inr (.inr (some (770)))), (1, .inl (8)), (2, .inr (.inr (some (q)))), (3, .inl ((u.length : Int))), (4, .inl (i)), (5, .inl (loc))]) (st' := [.inl (k)]) rfl ?_
    refine ez_if rfl rfl ⟨by first | omega | exact (sz_i32 _).1, by first | omega | exact (sz_i32 _).2⟩ (fun (c1 : (k) < (0)) => ?_) (fun (c1 : ¬((k) < (0))) => ?_)
    · skip
      refine ez_go (n := 1) (pc' := 226) (L' := [(6, .inl (k)), (0, .inr (.inr (some (770)))), (1, .inl (8)), (2, .inr (.inr (some (q)))), (3, .inl ((u.length : Int))), (4, .inl (i)), (5, .inl (loc))]) (st' := [.inl (0)]) rfl ?_
      exact ez_retZ rfl rfl (Or.inl rfl) (k0 (fun q => (show ¬ scB (sP6 (vF Ls) u 73) (sH6 u 73) i by first | exact scB_no hn (by omega) | exact scB_not hn (by omega) (by omega) (by unfold sP6; omega) (by unfold sH6; omega)) (cnd_8.mp q)))
    · skip
      refine ez_go (n := 2) (pc' := 165) (L' := [(6, .inl (k)), (0, .inr (.inr (some (770)))), (1, .inl (8)), (2, .inr (.inr (some (q)))), (3, .inl ((u.length : Int))), (4, .inl (i)), (5, .inl (loc))]) (st' := [.inl (4), .inl (8)]) rfl ?_
      refine ez_icmp rfl rfl ⟨by decide, by decide⟩ ⟨by decide, by decide⟩ (fun _ => ?_) (fun (c2 : ¬((8 : Int) ≠ (4))) => absurd c2 (by decide))
      refine ez_go (n := 2) (pc' := 186) (L' := [(6, .inl (k)), (0, .inr (.inr (some (770)))), (1, .inl (8)), (2, .inr (.inr (some (q)))), (3, .inl ((u.length : Int))), (4, .inl (i)), (5, .inl (loc))]) (st' := [.inl (k), .inr (.inr (some (q)))]) rfl ?_
      have n4 : 2000 ≤ qz_N h q ∧ qz_N h q ≤ 2000 := ez_len hB tq tq_37 rfl
      refine ez_aI hB tq rfl tq_37 rfl rfl (by omega) (by omega) (fun (b3 : -2147483648 ≤ qz_I h q (k).toNat) (b3' : qz_I h q (k).toNat ≤ 2147483647) => ?_)
      have pb := uX_ptl mt.2.1.2 (show (k).toNat < u.length by omega)
      have prg : ez_rg (uX u k) := ⟨by omega, by omega⟩
      rw [mt.2.2 k (by omega) (by omega)]
      refine ez_go (n := 1) (pc' := 189) (L' := [(6, .inl (k)), (0, .inr (.inr (some (770)))), (1, .inl (8)), (2, .inr (.inr (some (q)))), (3, .inl ((u.length : Int))), (4, .inl (i)), (5, .inl (loc))]) (st' := [.inl (73), .inl (uX u k)]) rfl ?_
      refine ez_icmp rfl rfl ⟨by first | omega | exact (sz_i32 _).1, by first | omega | exact (sz_i32 _).2⟩ ⟨by first | omega | exact (sz_i32 _).1, by first | omega | exact (sz_i32 _).2⟩ (fun (c5 : (uX u k) ≠ (73)) => ?_) (fun (c5 : ¬((uX u k) ≠ (73))) => ?_)
      · skip
        refine ez_go (n := 3) (pc' := 198) (L' := [(6, .inl (k)), (0, .inr (.inr (some (770)))), (1, .inl (8)), (2, .inr (.inr (some (q)))), (3, .inl ((u.length : Int))), (4, .inl (i)), (5, .inl (loc))]) (st' := [.inl (k), .inr (.inr (some (q))), .inr (.inr (some (770)))]) rfl ?_
        have n7 : 2000 ≤ qz_N h q ∧ qz_N h q ≤ 2000 := ez_len hB tq tq_37 rfl
        refine ez_aI hB tq rfl tq_37 rfl rfl (by omega) (by omega) (fun (b6 : -2147483648 ≤ qz_I h q (k).toNat) (b6' : qz_I h q (k).toNat ≤ 2147483647) => ?_)
        have pb := uX_ptl mt.2.1.2 (show (k).toNat < u.length by omega)
        have prg : ez_rg (uX u k) := ⟨by omega, by omega⟩
        rw [mt.2.2 k (by omega) (by omega)]
        refine ez_cv hB t770 rfl rfl rfl tq_75 rfl rfl rfl (rd_mrank hI prg (fun rr => ez_K1 ?_))
        obtain ⟨rr1, rr2⟩ := id rr
        rw [show (vF Ls (uX u k)).1 = kc (vF Ls) u k from rfl] at *
        refine ez_go (n := 2) (pc' := 206) (L' := [(7, .inl (kc (vF Ls) u k)), (6, .inl (k)), (0, .inr (.inr (some (770)))), (1, .inl (8)), (2, .inr (.inr (some (q)))), (3, .inl ((u.length : Int))), (4, .inl (i)), (5, .inl (loc))]) (st' := [.inl (kc (vF Ls) u k)]) rfl ?_
        refine ez_if rfl rfl ⟨by first | omega | exact (sz_i32 _).1, by first | omega | exact (sz_i32 _).2⟩ (fun (c8 : (kc (vF Ls) u k) = (0)) => ?_) (fun (c8 : ¬((kc (vF Ls) u k) = (0))) => ?_)
        · skip
          refine ez_go (n := 1) (pc' := 218) (L' := [(7, .inl (kc (vF Ls) u k)), (6, .inl (k)), (0, .inr (.inr (some (770)))), (1, .inl (8)), (2, .inr (.inr (some (q)))), (3, .inl ((u.length : Int))), (4, .inl (i)), (5, .inl (loc))]) (st' := [.inl (0)]) rfl ?_
          exact ez_retZ rfl rfl (Or.inl rfl) (k0 (fun q => (show ¬ scB (sP6 (vF Ls) u 73) (sH6 u 73) i by first | exact scB_no hn (by omega) | exact scB_not hn (by omega) (by omega) (by unfold sP6; omega) (by unfold sH6; omega)) (cnd_8.mp q)))
        · skip
          refine ez_go (n := 2) (pc' := 214) (L' := [(7, .inl (kc (vF Ls) u k)), (6, .inl (k)), (0, .inr (.inr (some (770)))), (1, .inl (8)), (2, .inr (.inr (some (q)))), (3, .inl ((u.length : Int))), (4, .inl (i)), (5, .inl (loc))]) (st' := [.inl (230), .inl (kc (vF Ls) u k)]) rfl ?_
          refine ez_icmp rfl rfl ⟨by first | omega | exact (sz_i32 _).1, by first | omega | exact (sz_i32 _).2⟩ ⟨by first | omega | exact (sz_i32 _).1, by first | omega | exact (sz_i32 _).2⟩ (fun (c9 : (kc (vF Ls) u k) ≠ (230)) => ?_) (fun (c9 : ¬((kc (vF Ls) u k) ≠ (230))) => ?_)
          · skip
            refine ez_go (n := 2) (pc' := 158) (L' := [(6, .inl (k + (-1))), (7, .inl (kc (vF Ls) u k)), (0, .inr (.inr (some (770)))), (1, .inl (8)), (2, .inr (.inr (some (q)))), (3, .inl ((u.length : Int))), (4, .inl (i)), (5, .inl (loc))]) (st' := []) rfl ?_
            refine ez_less [(6, .inl (k + (-1))), (0, .inr (.inr (some (770)))), (1, .inl (8)), (2, .inr (.inr (some (q)))), (3, .inl ((u.length : Int))), (4, .inl (i)), (5, .inl (loc))] rfl ⟨rfl, rfl, rfl, rfl, rfl, rfl, rfl, trivial⟩ ?_
            exact ih _ (by omega) (by omega) (by omega) (scB_st hn (by unfold sP6; omega))
          · skip
            refine ez_go (n := 1) (pc' := 218) (L' := [(7, .inl (kc (vF Ls) u k)), (6, .inl (k)), (0, .inr (.inr (some (770)))), (1, .inl (8)), (2, .inr (.inr (some (q)))), (3, .inl ((u.length : Int))), (4, .inl (i)), (5, .inl (loc))]) (st' := [.inl (0)]) rfl ?_
            exact ez_retZ rfl rfl (Or.inl rfl) (k0 (fun q => (show ¬ scB (sP6 (vF Ls) u 73) (sH6 u 73) i by first | exact scB_no hn (by omega) | exact scB_not hn (by omega) (by omega) (by unfold sP6; omega) (by unfold sH6; omega)) (cnd_8.mp q)))
      · skip
        refine ez_go (n := 1) (pc' := 193) (L' := [(6, .inl (k)), (0, .inr (.inr (some (770)))), (1, .inl (8)), (2, .inr (.inr (some (q)))), (3, .inl ((u.length : Int))), (4, .inl (i)), (5, .inl (loc))]) (st' := [.inl (1)]) rfl ?_
        exact ez_retZ rfl rfl (Or.inr rfl) (k1 (cnd_8.mpr ⟨k, by omega, by omega, by unfold sP6; omega, by unfold sH6; omega, hn⟩))

theorem rd_mh0 {i : Int} (hI : mI τ h Ls b) (mt : mtx τ h q u) (i0 : 0 ≤ i) (i1 : i < (u.length : Int)) (lr : ez_rg loc) (k1 : cnd (yD Ls) (vF Ls) u loc 0 i → Q (.inl (some (ez_v (.inl 1))), h)) (k0 : ¬ cnd (yD Ls) (vF Ls) u loc 0 i → Q (.inl (some (ez_v (.inl 0))), h)) : ez_W (d + 3) cm_266 0 [(0, .inr (.inr (some (770)))), (1, .inl (0)), (2, .inr (.inr (some (q)))), (3, .inl ((u.length : Int))), (4, .inl (i)), (5, .inl (loc))] [] h Q := by
  have hB := hI.1
  have t770 : τ 770 = 75 := hI.2.1 770 (by decide)
  have b12 : 0 ≤ qz_I h 770 12 ∧ qz_I h 770 12 ≤ 512 := ez_fB (cl := 11) (k := 12) hB t770 tq_75 rfl rfl (by decide)
  have lce : lc h = qz_I h 770 12 := rfl
  have nls : lc h ≤ qz_N h (ls h) := hI.2.2.1.1.1
  have tq := mt.1
  have n2 := mt.2.1.1
  obtain ⟨lr1, lr2⟩ := id lr
  refine ez_go (n := 2) (pc' := 2) (L' := [(0, .inr (.inr (some (770)))), (1, .inl (0)), (2, .inr (.inr (some (q)))), (3, .inl ((u.length : Int))), (4, .inl (i)), (5, .inl (loc))]) (st' := [.inl (3), .inl (0)]) rfl ?_
  refine ez_icmp rfl rfl ⟨by decide, by decide⟩ ⟨by decide, by decide⟩ (fun (c1 : (3) ≤ (0 : Int)) => absurd c1 (by decide)) (fun _ => ?_)
  refine ez_go (n := 4) (pc' := 10) (L' := [(0, .inr (.inr (some (770)))), (1, .inl (0)), (2, .inr (.inr (some (q)))), (3, .inl ((u.length : Int))), (4, .inl (i)), (5, .inl (loc))]) (st' := [.inl ((0) + (1)), .inl (loc)]) rfl ?_
  refine ez_icmp rfl rfl ⟨by first | omega | exact (sz_i32 _).1, by first | omega | exact (sz_i32 _).2⟩ ⟨by first | omega | exact (sz_i32 _).1, by first | omega | exact (sz_i32 _).2⟩ (fun (c2 : (loc) ≠ ((0) + (1))) => ?_) (fun (c2 : ¬((loc) ≠ ((0) + (1)))) => ?_)
  · skip
    refine ez_go (n := 1) (pc' := 18) (L' := [(0, .inr (.inr (some (770)))), (1, .inl (0)), (2, .inr (.inr (some (q)))), (3, .inl ((u.length : Int))), (4, .inl (i)), (5, .inl (loc))]) (st' := [.inl (0)]) rfl ?_
    exact ez_retZ rfl rfl (Or.inl rfl) (k0 (fun q => by have q := cnd_0.mp q; first | omega | exact w1 q | exact q w1))
  · skip
    refine ez_go (n := 2) (pc' := 18) (L' := [(0, .inr (.inr (some (770)))), (1, .inl (0)), (2, .inr (.inr (some (q)))), (3, .inl ((u.length : Int))), (4, .inl (i)), (5, .inl (loc))]) (st' := [.inl (1)]) rfl ?_
    exact ez_retZ rfl rfl (Or.inr rfl) (k1 (cnd_0.mpr (by first | omega | exact w1)))

theorem rd_mh1 {i : Int} (hI : mI τ h Ls b) (mt : mtx τ h q u) (i0 : 0 ≤ i) (i1 : i < (u.length : Int)) (lr : ez_rg loc) (k1 : cnd (yD Ls) (vF Ls) u loc 1 i → Q (.inl (some (ez_v (.inl 1))), h)) (k0 : ¬ cnd (yD Ls) (vF Ls) u loc 1 i → Q (.inl (some (ez_v (.inl 0))), h)) : ez_W (d + 3) cm_266 0 [(0, .inr (.inr (some (770)))), (1, .inl (1)), (2, .inr (.inr (some (q)))), (3, .inl ((u.length : Int))), (4, .inl (i)), (5, .inl (loc))] [] h Q := by
  have hB := hI.1
  have t770 : τ 770 = 75 := hI.2.1 770 (by decide)
  have b12 : 0 ≤ qz_I h 770 12 ∧ qz_I h 770 12 ≤ 512 := ez_fB (cl := 11) (k := 12) hB t770 tq_75 rfl rfl (by decide)
  have lce : lc h = qz_I h 770 12 := rfl
  have nls : lc h ≤ qz_N h (ls h) := hI.2.2.1.1.1
  have tq := mt.1
  have n2 := mt.2.1.1
  obtain ⟨lr1, lr2⟩ := id lr
  refine ez_go (n := 2) (pc' := 2) (L' := [(0, .inr (.inr (some (770)))), (1, .inl (1)), (2, .inr (.inr (some (q)))), (3, .inl ((u.length : Int))), (4, .inl (i)), (5, .inl (loc))]) (st' := [.inl (3), .inl (1)]) rfl ?_
  refine ez_icmp rfl rfl ⟨by decide, by decide⟩ ⟨by decide, by decide⟩ (fun (c1 : (3) ≤ (1 : Int)) => absurd c1 (by decide)) (fun _ => ?_)
  refine ez_go (n := 4) (pc' := 10) (L' := [(0, .inr (.inr (some (770)))), (1, .inl (1)), (2, .inr (.inr (some (q)))), (3, .inl ((u.length : Int))), (4, .inl (i)), (5, .inl (loc))]) (st' := [.inl ((1) + (1)), .inl (loc)]) rfl ?_
  refine ez_icmp rfl rfl ⟨by first | omega | exact (sz_i32 _).1, by first | omega | exact (sz_i32 _).2⟩ ⟨by first | omega | exact (sz_i32 _).1, by first | omega | exact (sz_i32 _).2⟩ (fun (c2 : (loc) ≠ ((1) + (1))) => ?_) (fun (c2 : ¬((loc) ≠ ((1) + (1)))) => ?_)
  · skip
    refine ez_go (n := 1) (pc' := 18) (L' := [(0, .inr (.inr (some (770)))), (1, .inl (1)), (2, .inr (.inr (some (q)))), (3, .inl ((u.length : Int))), (4, .inl (i)), (5, .inl (loc))]) (st' := [.inl (0)]) rfl ?_
    exact ez_retZ rfl rfl (Or.inl rfl) (k0 (fun q => by have q := cnd_1.mp q; first | omega | exact w1 q | exact q w1))
  · skip
    refine ez_go (n := 2) (pc' := 18) (L' := [(0, .inr (.inr (some (770)))), (1, .inl (1)), (2, .inr (.inr (some (q)))), (3, .inl ((u.length : Int))), (4, .inl (i)), (5, .inl (loc))]) (st' := [.inl (1)]) rfl ?_
    exact ez_retZ rfl rfl (Or.inr rfl) (k1 (cnd_1.mpr (by first | omega | exact w1)))

theorem rd_mh2 {i : Int} (hI : mI τ h Ls b) (mt : mtx τ h q u) (i0 : 0 ≤ i) (i1 : i < (u.length : Int)) (lr : ez_rg loc) (k1 : cnd (yD Ls) (vF Ls) u loc 2 i → Q (.inl (some (ez_v (.inl 1))), h)) (k0 : ¬ cnd (yD Ls) (vF Ls) u loc 2 i → Q (.inl (some (ez_v (.inl 0))), h)) : ez_W (d + 3) cm_266 0 [(0, .inr (.inr (some (770)))), (1, .inl (2)), (2, .inr (.inr (some (q)))), (3, .inl ((u.length : Int))), (4, .inl (i)), (5, .inl (loc))] [] h Q := by
  have hB := hI.1
  have t770 : τ 770 = 75 := hI.2.1 770 (by decide)
  have b12 : 0 ≤ qz_I h 770 12 ∧ qz_I h 770 12 ≤ 512 := ez_fB (cl := 11) (k := 12) hB t770 tq_75 rfl rfl (by decide)
  have lce : lc h = qz_I h 770 12 := rfl
  have nls : lc h ≤ qz_N h (ls h) := hI.2.2.1.1.1
  have tq := mt.1
  have n2 := mt.2.1.1
  obtain ⟨lr1, lr2⟩ := id lr
  refine ez_go (n := 2) (pc' := 2) (L' := [(0, .inr (.inr (some (770)))), (1, .inl (2)), (2, .inr (.inr (some (q)))), (3, .inl ((u.length : Int))), (4, .inl (i)), (5, .inl (loc))]) (st' := [.inl (3), .inl (2)]) rfl ?_
  refine ez_icmp rfl rfl ⟨by decide, by decide⟩ ⟨by decide, by decide⟩ (fun (c1 : (3) ≤ (2 : Int)) => absurd c1 (by decide)) (fun _ => ?_)
  refine ez_go (n := 4) (pc' := 10) (L' := [(0, .inr (.inr (some (770)))), (1, .inl (2)), (2, .inr (.inr (some (q)))), (3, .inl ((u.length : Int))), (4, .inl (i)), (5, .inl (loc))]) (st' := [.inl ((2) + (1)), .inl (loc)]) rfl ?_
  refine ez_icmp rfl rfl ⟨by first | omega | exact (sz_i32 _).1, by first | omega | exact (sz_i32 _).2⟩ ⟨by first | omega | exact (sz_i32 _).1, by first | omega | exact (sz_i32 _).2⟩ (fun (c2 : (loc) ≠ ((2) + (1))) => ?_) (fun (c2 : ¬((loc) ≠ ((2) + (1)))) => ?_)
  · skip
    refine ez_go (n := 1) (pc' := 18) (L' := [(0, .inr (.inr (some (770)))), (1, .inl (2)), (2, .inr (.inr (some (q)))), (3, .inl ((u.length : Int))), (4, .inl (i)), (5, .inl (loc))]) (st' := [.inl (0)]) rfl ?_
    exact ez_retZ rfl rfl (Or.inl rfl) (k0 (fun q => by have q := cnd_2.mp q; first | omega | exact w1 q | exact q w1))
  · skip
    refine ez_go (n := 2) (pc' := 18) (L' := [(0, .inr (.inr (some (770)))), (1, .inl (2)), (2, .inr (.inr (some (q)))), (3, .inl ((u.length : Int))), (4, .inl (i)), (5, .inl (loc))]) (st' := [.inl (1)]) rfl ?_
    exact ez_retZ rfl rfl (Or.inr rfl) (k1 (cnd_2.mpr (by first | omega | exact w1)))

theorem rd_mh3 {i : Int} (hI : mI τ h Ls b) (mt : mtx τ h q u) (i0 : 0 ≤ i) (i1 : i < (u.length : Int)) (lr : ez_rg loc) (k1 : cnd (yD Ls) (vF Ls) u loc 3 i → Q (.inl (some (ez_v (.inl 1))), h)) (k0 : ¬ cnd (yD Ls) (vF Ls) u loc 3 i → Q (.inl (some (ez_v (.inl 0))), h)) : ez_W (d + 3) cm_266 0 [(0, .inr (.inr (some (770)))), (1, .inl (3)), (2, .inr (.inr (some (q)))), (3, .inl ((u.length : Int))), (4, .inl (i)), (5, .inl (loc))] [] h Q := by
  have hB := hI.1
  have t770 : τ 770 = 75 := hI.2.1 770 (by decide)
  have b12 : 0 ≤ qz_I h 770 12 ∧ qz_I h 770 12 ≤ 512 := ez_fB (cl := 11) (k := 12) hB t770 tq_75 rfl rfl (by decide)
  have lce : lc h = qz_I h 770 12 := rfl
  have nls : lc h ≤ qz_N h (ls h) := hI.2.2.1.1.1
  have tq := mt.1
  have n2 := mt.2.1.1
  obtain ⟨lr1, lr2⟩ := id lr
  refine ez_go (n := 2) (pc' := 2) (L' := [(0, .inr (.inr (some (770)))), (1, .inl (3)), (2, .inr (.inr (some (q)))), (3, .inl ((u.length : Int))), (4, .inl (i)), (5, .inl (loc))]) (st' := [.inl (3), .inl (3)]) rfl ?_
  refine ez_icmp rfl rfl ⟨by decide, by decide⟩ ⟨by decide, by decide⟩ (fun _ => ?_) (fun (c1 : ¬((3 : Int) ≤ (3))) => absurd c1 (by decide))
  refine ez_go (n := 5) (pc' := 26) (L' := [(6, .inl ((i) - (1))), (0, .inr (.inr (some (770)))), (1, .inl (3)), (2, .inr (.inr (some (q)))), (3, .inl ((u.length : Int))), (4, .inl (i)), (5, .inl (loc))]) (st' := [.inl (3)]) rfl ?_
  refine ez_sw rfl ⟨by decide, by decide⟩ ⟨_, rfl, rfl⟩ ?_
  refine ez_less [(6, .inl ((i) - (1))), (0, .inr (.inr (some (770)))), (1, .inl (3)), (2, .inr (.inr (some (q)))), (3, .inl ((u.length : Int))), (4, .inl (i)), (5, .inl (loc))] rfl ⟨rfl, rfl, rfl, rfl, rfl, rfl, rfl, trivial⟩ ?_
  exact rd_mh3a hI mt i0 i1 lr k1 k0 _ _ rfl (by omega) (by omega) (fun j a b => by omega)

theorem rd_mh4 {i : Int} (hI : mI τ h Ls b) (mt : mtx τ h q u) (i0 : 0 ≤ i) (i1 : i < (u.length : Int)) (lr : ez_rg loc) (k1 : cnd (yD Ls) (vF Ls) u loc 4 i → Q (.inl (some (ez_v (.inl 1))), h)) (k0 : ¬ cnd (yD Ls) (vF Ls) u loc 4 i → Q (.inl (some (ez_v (.inl 0))), h)) : ez_W (d + 3) cm_266 0 [(0, .inr (.inr (some (770)))), (1, .inl (4)), (2, .inr (.inr (some (q)))), (3, .inl ((u.length : Int))), (4, .inl (i)), (5, .inl (loc))] [] h Q := by
  have hB := hI.1
  have t770 : τ 770 = 75 := hI.2.1 770 (by decide)
  have b12 : 0 ≤ qz_I h 770 12 ∧ qz_I h 770 12 ≤ 512 := ez_fB (cl := 11) (k := 12) hB t770 tq_75 rfl rfl (by decide)
  have lce : lc h = qz_I h 770 12 := rfl
  have nls : lc h ≤ qz_N h (ls h) := hI.2.2.1.1.1
  have tq := mt.1
  have n2 := mt.2.1.1
  obtain ⟨lr1, lr2⟩ := id lr
  refine ez_go (n := 2) (pc' := 2) (L' := [(0, .inr (.inr (some (770)))), (1, .inl (4)), (2, .inr (.inr (some (q)))), (3, .inl ((u.length : Int))), (4, .inl (i)), (5, .inl (loc))]) (st' := [.inl (3), .inl (4)]) rfl ?_
  refine ez_icmp rfl rfl ⟨by decide, by decide⟩ ⟨by decide, by decide⟩ (fun _ => ?_) (fun (c1 : ¬((3) ≤ (4 : Int))) => absurd c1 (by decide))
  refine ez_go (n := 5) (pc' := 26) (L' := [(6, .inl ((i) - (1))), (0, .inr (.inr (some (770)))), (1, .inl (4)), (2, .inr (.inr (some (q)))), (3, .inl ((u.length : Int))), (4, .inl (i)), (5, .inl (loc))]) (st' := [.inl (4)]) rfl ?_
  refine ez_sw rfl ⟨by decide, by decide⟩ ⟨_, rfl, rfl⟩ ?_
  refine ez_less [(6, .inl ((i) - (1))), (0, .inr (.inr (some (770)))), (1, .inl (4)), (2, .inr (.inr (some (q)))), (3, .inl ((u.length : Int))), (4, .inl (i)), (5, .inl (loc))] rfl ⟨rfl, rfl, rfl, rfl, rfl, rfl, rfl, trivial⟩ ?_
  exact rd_mh4a hI mt i0 i1 lr k1 k0 _ _ rfl (by omega) (by omega) (fun j a b => by omega)

theorem rd_mh5 {i : Int} (hI : mI τ h Ls b) (mt : mtx τ h q u) (i0 : 0 ≤ i) (i1 : i < (u.length : Int)) (lr : ez_rg loc) (k1 : cnd (yD Ls) (vF Ls) u loc 5 i → Q (.inl (some (ez_v (.inl 1))), h)) (k0 : ¬ cnd (yD Ls) (vF Ls) u loc 5 i → Q (.inl (some (ez_v (.inl 0))), h)) : ez_W (d + 3) cm_266 0 [(0, .inr (.inr (some (770)))), (1, .inl (5)), (2, .inr (.inr (some (q)))), (3, .inl ((u.length : Int))), (4, .inl (i)), (5, .inl (loc))] [] h Q := by
  have hB := hI.1
  have t770 : τ 770 = 75 := hI.2.1 770 (by decide)
  have b12 : 0 ≤ qz_I h 770 12 ∧ qz_I h 770 12 ≤ 512 := ez_fB (cl := 11) (k := 12) hB t770 tq_75 rfl rfl (by decide)
  have lce : lc h = qz_I h 770 12 := rfl
  have nls : lc h ≤ qz_N h (ls h) := hI.2.2.1.1.1
  have tq := mt.1
  have n2 := mt.2.1.1
  obtain ⟨lr1, lr2⟩ := id lr
  refine ez_go (n := 2) (pc' := 2) (L' := [(0, .inr (.inr (some (770)))), (1, .inl (5)), (2, .inr (.inr (some (q)))), (3, .inl ((u.length : Int))), (4, .inl (i)), (5, .inl (loc))]) (st' := [.inl (3), .inl (5)]) rfl ?_
  refine ez_icmp rfl rfl ⟨by decide, by decide⟩ ⟨by decide, by decide⟩ (fun _ => ?_) (fun (c1 : ¬((3) ≤ (5 : Int))) => absurd c1 (by decide))
  refine ez_go (n := 5) (pc' := 26) (L' := [(6, .inl ((i) - (1))), (0, .inr (.inr (some (770)))), (1, .inl (5)), (2, .inr (.inr (some (q)))), (3, .inl ((u.length : Int))), (4, .inl (i)), (5, .inl (loc))]) (st' := [.inl (5)]) rfl ?_
  refine ez_sw rfl ⟨by decide, by decide⟩ ⟨_, rfl, rfl⟩ ?_
  refine ez_go (n := 5) (pc' := 235) (L' := [(6, .inl ((i) - (1))), (0, .inr (.inr (some (770)))), (1, .inl (5)), (2, .inr (.inr (some (q)))), (3, .inl ((u.length : Int))), (4, .inl (i)), (5, .inl (loc))]) (st' := [.inl (230), .inl (i), .inl ((u.length : Int)), .inr (.inr (some (q))), .inr (.inr (some (770)))]) rfl ?_
  refine ez_cv hB t770 rfl rfl rfl tq_75 rfl rfl rfl (rd_mbhA hI mt i0 i1 (fun w1 => ez_K1 ?_) (fun w1 => ez_K1 ?_))
  · skip
    exact ez_retZ rfl rfl (Or.inr rfl) (k1 (cnd_5.mpr (by first | omega | exact w1)))
  · skip
    exact ez_retZ rfl rfl (Or.inl rfl) (k0 (fun q => by have q := cnd_5.mp q; first | omega | exact w1 q | exact q w1))

theorem rd_mh6 {i : Int} (hI : mI τ h Ls b) (mt : mtx τ h q u) (i0 : 0 ≤ i) (i1 : i < (u.length : Int)) (lr : ez_rg loc) (k1 : cnd (yD Ls) (vF Ls) u loc 6 i → Q (.inl (some (ez_v (.inl 1))), h)) (k0 : ¬ cnd (yD Ls) (vF Ls) u loc 6 i → Q (.inl (some (ez_v (.inl 0))), h)) : ez_W (d + 3) cm_266 0 [(0, .inr (.inr (some (770)))), (1, .inl (6)), (2, .inr (.inr (some (q)))), (3, .inl ((u.length : Int))), (4, .inl (i)), (5, .inl (loc))] [] h Q := by
  have hB := hI.1
  have t770 : τ 770 = 75 := hI.2.1 770 (by decide)
  have b12 : 0 ≤ qz_I h 770 12 ∧ qz_I h 770 12 ≤ 512 := ez_fB (cl := 11) (k := 12) hB t770 tq_75 rfl rfl (by decide)
  have lce : lc h = qz_I h 770 12 := rfl
  have nls : lc h ≤ qz_N h (ls h) := hI.2.2.1.1.1
  have tq := mt.1
  have n2 := mt.2.1.1
  obtain ⟨lr1, lr2⟩ := id lr
  refine ez_go (n := 2) (pc' := 2) (L' := [(0, .inr (.inr (some (770)))), (1, .inl (6)), (2, .inr (.inr (some (q)))), (3, .inl ((u.length : Int))), (4, .inl (i)), (5, .inl (loc))]) (st' := [.inl (3), .inl (6)]) rfl ?_
  refine ez_icmp rfl rfl ⟨by decide, by decide⟩ ⟨by decide, by decide⟩ (fun _ => ?_) (fun (c1 : ¬((3) ≤ (6 : Int))) => absurd c1 (by decide))
  refine ez_go (n := 5) (pc' := 26) (L' := [(6, .inl ((i) - (1))), (0, .inr (.inr (some (770)))), (1, .inl (6)), (2, .inr (.inr (some (q)))), (3, .inl ((u.length : Int))), (4, .inl (i)), (5, .inl (loc))]) (st' := [.inl (6)]) rfl ?_
  refine ez_sw rfl ⟨by decide, by decide⟩ ⟨_, rfl, rfl⟩ ?_
  refine ez_go (n := 5) (pc' := 247) (L' := [(6, .inl ((i) - (1))), (0, .inr (.inr (some (770)))), (1, .inl (6)), (2, .inr (.inr (some (q)))), (3, .inl ((u.length : Int))), (4, .inl (i)), (5, .inl (loc))]) (st' := [.inl (775), .inl (i), .inl ((u.length : Int)), .inr (.inr (some (q))), .inr (.inr (some (770)))]) rfl ?_
  refine ez_cv hB t770 rfl rfl rfl tq_75 rfl rfl rfl (rd_mbhD hI mt i0 i1 (fun w1 => ez_K1 ?_) (fun w1 => ez_K1 ?_))
  · skip
    exact ez_retZ rfl rfl (Or.inr rfl) (k1 (cnd_6.mpr (by first | omega | exact w1)))
  · skip
    exact ez_retZ rfl rfl (Or.inl rfl) (k0 (fun q => by have q := cnd_6.mp q; first | omega | exact w1 q | exact q w1))

theorem rd_mh7 {i : Int} (hI : mI τ h Ls b) (mt : mtx τ h q u) (i0 : 0 ≤ i) (i1 : i < (u.length : Int)) (lr : ez_rg loc) (k1 : cnd (yD Ls) (vF Ls) u loc 7 i → Q (.inl (some (ez_v (.inl 1))), h)) (k0 : ¬ cnd (yD Ls) (vF Ls) u loc 7 i → Q (.inl (some (ez_v (.inl 0))), h)) : ez_W (d + 3) cm_266 0 [(0, .inr (.inr (some (770)))), (1, .inl (7)), (2, .inr (.inr (some (q)))), (3, .inl ((u.length : Int))), (4, .inl (i)), (5, .inl (loc))] [] h Q := by
  have hB := hI.1
  have t770 : τ 770 = 75 := hI.2.1 770 (by decide)
  have b12 : 0 ≤ qz_I h 770 12 ∧ qz_I h 770 12 ≤ 512 := ez_fB (cl := 11) (k := 12) hB t770 tq_75 rfl rfl (by decide)
  have lce : lc h = qz_I h 770 12 := rfl
  have nls : lc h ≤ qz_N h (ls h) := hI.2.2.1.1.1
  have tq := mt.1
  have n2 := mt.2.1.1
  obtain ⟨lr1, lr2⟩ := id lr
  refine ez_go (n := 2) (pc' := 2) (L' := [(0, .inr (.inr (some (770)))), (1, .inl (7)), (2, .inr (.inr (some (q)))), (3, .inl ((u.length : Int))), (4, .inl (i)), (5, .inl (loc))]) (st' := [.inl (3), .inl (7)]) rfl ?_
  refine ez_icmp rfl rfl ⟨by decide, by decide⟩ ⟨by decide, by decide⟩ (fun _ => ?_) (fun (c1 : ¬((3) ≤ (7 : Int))) => absurd c1 (by decide))
  refine ez_go (n := 5) (pc' := 26) (L' := [(6, .inl ((i) - (1))), (0, .inr (.inr (some (770)))), (1, .inl (7)), (2, .inr (.inr (some (q)))), (3, .inl ((u.length : Int))), (4, .inl (i)), (5, .inl (loc))]) (st' := [.inl (7)]) rfl ?_
  refine ez_sw rfl ⟨by decide, by decide⟩ ⟨_, rfl, rfl⟩ ?_
  refine ez_go (n := 5) (pc' := 259) (L' := [(6, .inl ((i) - (1))), (0, .inr (.inr (some (770)))), (1, .inl (7)), (2, .inr (.inr (some (q)))), (3, .inl ((u.length : Int))), (4, .inl (i)), (5, .inl (loc))]) (st' := [.inl (775), .inl (i), .inl ((u.length : Int)), .inr (.inr (some (q))), .inr (.inr (some (770)))]) rfl ?_
  refine ez_cv hB t770 rfl rfl rfl tq_75 rfl rfl rfl (rd_mbhD hI mt i0 i1 (fun w1 => ez_K1 ?_) (fun w1 => ez_K1 ?_))
  · skip
    refine ez_if rfl rfl ⟨by decide, by decide⟩ (fun _ => ?_) (fun (c2 : ¬((1 : Int) ≠ (0))) => absurd c2 (by decide))
    refine ez_go (n := 1) (pc' := 270) (L' := [(6, .inl ((i) - (1))), (0, .inr (.inr (some (770)))), (1, .inl (7)), (2, .inr (.inr (some (q)))), (3, .inl ((u.length : Int))), (4, .inl (i)), (5, .inl (loc))]) (st' := [.inl (0)]) rfl ?_
    exact ez_retZ rfl rfl (Or.inl rfl) (k0 (fun q => by have q := cnd_7.mp q; first | omega | exact w1 q | exact q w1))
  · skip
    refine ez_if rfl rfl ⟨by decide, by decide⟩ (fun (c3 : (0 : Int) ≠ (0)) => absurd c3 (by decide)) (fun _ => ?_)
    refine ez_go (n := 2) (pc' := 270) (L' := [(6, .inl ((i) - (1))), (0, .inr (.inr (some (770)))), (1, .inl (7)), (2, .inr (.inr (some (q)))), (3, .inl ((u.length : Int))), (4, .inl (i)), (5, .inl (loc))]) (st' := [.inl (1)]) rfl ?_
    exact ez_retZ rfl rfl (Or.inr rfl) (k1 (cnd_7.mpr (by first | omega | exact w1)))

theorem rd_mh8 {i : Int} (hI : mI τ h Ls b) (mt : mtx τ h q u) (i0 : 0 ≤ i) (i1 : i < (u.length : Int)) (lr : ez_rg loc) (k1 : cnd (yD Ls) (vF Ls) u loc 8 i → Q (.inl (some (ez_v (.inl 1))), h)) (k0 : ¬ cnd (yD Ls) (vF Ls) u loc 8 i → Q (.inl (some (ez_v (.inl 0))), h)) : ez_W (d + 3) cm_266 0 [(0, .inr (.inr (some (770)))), (1, .inl (8)), (2, .inr (.inr (some (q)))), (3, .inl ((u.length : Int))), (4, .inl (i)), (5, .inl (loc))] [] h Q := by
  have hB := hI.1
  have t770 : τ 770 = 75 := hI.2.1 770 (by decide)
  have b12 : 0 ≤ qz_I h 770 12 ∧ qz_I h 770 12 ≤ 512 := ez_fB (cl := 11) (k := 12) hB t770 tq_75 rfl rfl (by decide)
  have lce : lc h = qz_I h 770 12 := rfl
  have nls : lc h ≤ qz_N h (ls h) := hI.2.2.1.1.1
  have tq := mt.1
  have n2 := mt.2.1.1
  obtain ⟨lr1, lr2⟩ := id lr
  refine ez_go (n := 2) (pc' := 2) (L' := [(0, .inr (.inr (some (770)))), (1, .inl (8)), (2, .inr (.inr (some (q)))), (3, .inl ((u.length : Int))), (4, .inl (i)), (5, .inl (loc))]) (st' := [.inl (3), .inl (8)]) rfl ?_
  refine ez_icmp rfl rfl ⟨by decide, by decide⟩ ⟨by decide, by decide⟩ (fun _ => ?_) (fun (c1 : ¬((3) ≤ (8 : Int))) => absurd c1 (by decide))
  refine ez_go (n := 5) (pc' := 26) (L' := [(6, .inl ((i) - (1))), (0, .inr (.inr (some (770)))), (1, .inl (8)), (2, .inr (.inr (some (q)))), (3, .inl ((u.length : Int))), (4, .inl (i)), (5, .inl (loc))]) (st' := [.inl (8)]) rfl ?_
  refine ez_sw rfl ⟨by decide, by decide⟩ ⟨_, rfl, rfl⟩ ?_
  refine ez_less [(6, .inl ((i) - (1))), (0, .inr (.inr (some (770)))), (1, .inl (8)), (2, .inr (.inr (some (q)))), (3, .inl ((u.length : Int))), (4, .inl (i)), (5, .inl (loc))] rfl ⟨rfl, rfl, rfl, rfl, rfl, rfl, rfl, trivial⟩ ?_
  exact rd_mh8a hI mt i0 i1 lr k1 k0 _ _ rfl (by omega) (by omega) (fun j a b => by omega)

theorem rd_mholds {i c9 : Int} (hI : mI τ h Ls b) (mt : mtx τ h q u) (i0 : 0 ≤ i) (i1 : i < (u.length : Int)) (lr : ez_rg loc) (c0 : 0 ≤ c9) (c8 : c9 < 9) (k1 : cnd (yD Ls) (vF Ls) u loc c9 i → Q (.inl (some (ez_v (.inl 1))), h)) (k0 : ¬ cnd (yD Ls) (vF Ls) u loc c9 i → Q (.inl (some (ez_v (.inl 0))), h)) : ez_W (d + 3) cm_266 0 [(0, .inr (.inr (some (770)))), (1, .inl (c9)), (2, .inr (.inr (some (q)))), (3, .inl ((u.length : Int))), (4, .inl (i)), (5, .inl (loc))] [] h Q := by
  have hc : c9 = 0 ∨ c9 = 1 ∨ c9 = 2 ∨ c9 = 3 ∨ c9 = 4 ∨ c9 = 5 ∨ c9 = 6 ∨ c9 = 7 ∨ c9 = 8 := by omega
  rcases hc with e | e | e | e | e | e | e | e | e <;> subst e
  · exact rd_mh0 hI mt i0 i1 lr k1 k0
  · exact rd_mh1 hI mt i0 i1 lr k1 k0
  · exact rd_mh2 hI mt i0 i1 lr k1 k0
  · exact rd_mh3 hI mt i0 i1 lr k1 k0
  · exact rd_mh4 hI mt i0 i1 lr k1 k0
  · exact rd_mh5 hI mt i0 i1 lr k1 k0
  · exact rd_mh6 hI mt i0 i1 lr k1 k0
  · exact rd_mh7 hI mt i0 i1 lr k1 k0
  · exact rd_mh8 hI mt i0 i1 lr k1 k0
end EzMy
theorem bit9_01 (m c : Int) : bit9 m c = 0 ∨ bit9 m c = 1 := by
  have w := dz_and_r (a := Int32.ofInt (Int32.ofInt m >>> (Int32.ofInt c &&& 31)).toInt) (b := Int32.ofInt 1) (by decide)
  have e : (Int32.ofInt 1).toInt = 1 := by decide
  rw [e] at w
  unfold bit9
  omega
/-- the best special case so far, its LINE -/
def obl (τ : Nat → Nat) (h : cz_H) (o : Option Nat) (r : Option spz) : Prop := (r = none → o = none) ∧ ∀ s, r = some s → ∃ (z : Nat) (v : vy), o = some z ∧ τ z = 13 ∧ vx h z v ∧ v.1.1 = 1 ∧ v.2.2.2 = s
/-- what the rest of the LINES makes of it -/
def psr (H : Int → Prop) (l : List spz) (best r : Option spz) : Prop := (∀ s, best = some s → s.1 ≠ 0 → r = best) ∧ ((∀ s, best = some s → s.1 = 0) → spR H l best r)
theorem psr_nil {H : Int → Prop} {best : Option spz} : psr H [] best best := ⟨fun _ _ _ => rfl, fun _ => rfl⟩
theorem psr_0 {H : Int → Prop} {l : List spz} {r : Option spz} : psr H l none r ↔ spR H l none r := ⟨fun w => w.2 (fun s e => by cases e), fun w => ⟨fun s e => (by cases e), fun _ => w⟩⟩
/-- a special case without conditions comes to stand first -/
theorem psr_p {H : Int → Prop} {l : List spz} {s : spz} {best r : Option spz} (h0 : s.1 = 0) (hb : ∀ t, best = some t → t.1 = 0) (w : psr H l (some s) r) : psr H (s :: l) best r := ⟨fun t e w2 => absurd (hb t e) w2, fun _ => ⟨fun _ => w.2 (fun t e => by cases e; exact h0), fun q => absurd h0 q⟩⟩
/-- or is passed over -/
theorem psr_f {H : Int → Prop} {l : List spz} {s t : spz} {r : Option spz} (ht : t.1 ≠ 0) (w : psr H l (some t) r) : psr H (s :: l) (some t) r := ⟨fun t2 e w2 => by cases e; exact w.1 t rfl ht, fun q => absurd (q t rfl) ht⟩
/-- one whose conditions hold -/
theorem psr_y {H : Int → Prop} {l : List spz} {s : spz} {best r : Option spz} (h0 : s.1 ≠ 0) (hH : H s.1) (hb : ∀ t, best = some t → t.1 = 0) (w : psr H l (some s) r) : psr H (s :: l) best r := ⟨fun t e w2 => absurd (hb t e) w2, fun _ => ⟨fun q => absurd q h0, fun _ => ⟨fun _ => w.1 s rfl h0, fun q => absurd hH q⟩⟩⟩
theorem psr_x {H : Int → Prop} {l : List spz} {s : spz} {best r : Option spz} (h0 : s.1 ≠ 0) (hH : ¬ H s.1) (hb : ∀ t, best = some t → t.1 = 0) (w : psr H l best r) : psr H (s :: l) best r := ⟨fun t e w2 => absurd (hb t e) w2, fun q => ⟨fun q => absurd q h0, fun _ => ⟨fun q => absurd q hH, fun _ => w.2 q⟩⟩⟩
theorem nk.mtxx {τ τ1 : Nat → Nat} {h g : cz_H} {q : Nat} {u : List Int} (a : nk τ h τ1 g) (hX : jz_X τ) (m : mtx τ h q u) : mtx τ1 g q u := by
  obtain ⟨m1, m2, m3⟩ := m
  refine ⟨(a.1 q (by rw [m1]; decide)).1.trans m1, m2, fun k k0 k1 => ?_⟩
  rw [← m3 k k0 k1]
  unfold qz_I
  rw [a.C hX (by rw [m1]; decide) (by rw [m1]; decide) (by rw [m1]; decide) (by rw [m1]; decide) (by rw [m1]; decide) (by rw [m1]; decide)]
/-- rows of a LINE where it was made -/
theorem nk.mrwx {τ : Nat → Nat} {h g : cz_H} {z k : Nat} {l : List Int} (a : nk τ h τ g) (hB : ez_B τ h) (hX : jz_X τ) (tz : τ z = 13) (t1 : τ (z + 1) = 15) (t2 : τ (z + 2) = 16) (m : mrw h (z + 1) (z + 2) k l) : mrw g (z + 1) (z + 2) k l := by
  have tp := (ez_tls hB (hX 770 (by decide))).2
  have e1 : ∀ j, qz_I g (z + 1) j = qz_I h (z + 1) j := fun j => by unfold qz_I; rw [a.C hX (by rw [t1]; decide) (by rw [t1]; decide) (by rw [t1]; decide) (by rw [t1]; decide) (by rw [t1]; decide) (by rw [t1]; decide)]
  have e2 : ∀ j, qz_I g (z + 2) j = qz_I h (z + 2) j := fun j => by unfold qz_I; rw [a.C hX (by rw [t2]; decide) (by rw [t2]; decide) (by rw [t2]; decide) (by rw [t2]; decide) (by rw [t2]; decide) (by rw [t2]; decide)]
  have e9 : po g = po h := by unfold po qz_P; rw [a.2.2.1 9 (by decide) (by decide) (by decide)]
  have en : pn g = pn h := a.2.2.1 10 (by decide) (by decide) (by decide)
  have ep : ∀ j, pl g j = pl h j := fun j => by unfold pl; rw [e9]; unfold qz_I; rw [a.C hX (by rw [tp]; decide) (by rw [tp]; decide) (by rw [tp]; decide) (by rw [tp]; decide) (by rw [tp]; decide) (by rw [tp]; decide)]
  obtain ⟨m1, m2, m3, m4⟩ := m
  exact ⟨by rw [e2]; exact m1, by rw [e1]; exact m2, by rw [e1, en]; exact m3, fun j v hv => by rw [e1, ep]; exact m4 j v hv⟩
/-! The model: cases, folds. (Written by wip/p2/py/pvy6.py.) -/
section EzMc
variable {d : Nat} {h : cz_H} {τ : Nat → Nat} {Q : cz_F → Prop} {Ls : List vz} {b : Int} {u l : List Int} {loc : Int} {q : Nat}
theorem rd_mall {i kind k m : Int} {z : Nat} {o7 : Option Nat} (hI : mI τ h Ls b) (mt : mtx τ h q u) (i0 : 0 ≤ i) (i1 : i < (u.length : Int)) (lr : ez_rg loc) (kr : ez_rg kind) (tz : τ z = 13) (e12 : qz_I h z 12 = m) (kx : ∀ al, ((al = 1 ∧ aho (yD Ls) (vF Ls) u loc m i) ∨ (al = 0 ∧ ¬ aho (yD Ls) (vF Ls) u loc m i)) → ez_W (d + 4) cm_230 145 [(10, .inl (al)), (9, .inr (.inr (some (z)))), (8, .inl (k)), (7, .inr (.inr (o7))), (6, .inl (uX u i)), (0, .inr (.inr (some (770)))), (1, .inr (.inr (some (q)))), (2, .inl ((u.length : Int))), (3, .inl (i)), (4, .inl (kind)), (5, .inl (loc))] [] h Q) : ∀ (n : Nat) (c al : Int), n = (9 - c).toNat → 0 ≤ c → c ≤ 9 → ((al = 1 ∧ ∀ c9, 0 ≤ c9 → c9 < c → bit9 m c9 ≠ 0 → cnd (yD Ls) (vF Ls) u loc c9 i) ∨ (al = 0 ∧ ¬ aho (yD Ls) (vF Ls) u loc m i)) → ez_W (d + 4) cm_230 101 [(11, .inl (c)), (10, .inl (al)), (9, .inr (.inr (some (z)))), (8, .inl (k)), (7, .inr (.inr (o7))), (6, .inl (uX u i)), (0, .inr (.inr (some (770)))), (1, .inr (.inr (some (q)))), (2, .inl ((u.length : Int))), (3, .inl (i)), (4, .inl (kind)), (5, .inl (loc))] [] h Q := by
  have hB := hI.1
  have t770 : τ 770 = 75 := hI.2.1 770 (by decide)
  have b12 : 0 ≤ qz_I h 770 12 ∧ qz_I h 770 12 ≤ 512 := ez_fB (cl := 11) (k := 12) hB t770 tq_75 rfl rfl (by decide)
  have lce : lc h = qz_I h 770 12 := rfl
  have nls : lc h ≤ qz_N h (ls h) := hI.2.2.1.1.1
  have tq := mt.1
  have n2 := mt.2.1.1
  have m12 : -2147483648 ≤ qz_I h z 12 ∧ qz_I h z 12 ≤ 2147483647 := ez_fB (cl := 12) (k := 12) hB tz tq_13 rfl rfl (by decide)
  rw [e12] at m12
  intro n
  induction n with
  | zero =>
    intro c al hn0 c0 c9' ha
    refine ez_go (n := 2) (pc' := 105) (L' := [(11, .inl (c)), (10, .inl (al)), (9, .inr (.inr (some (z)))), (8, .inl (k)), (7, .inr (.inr (o7))), (6, .inl (uX u i)), (0, .inr (.inr (some (770)))), (1, .inr (.inr (some (q)))), (2, .inl ((u.length : Int))), (3, .inl (i)), (4, .inl (kind)), (5, .inl (loc))]) (st' := [.inl (9), .inl (c)]) rfl ?_
    refine ez_icmp rfl rfl ⟨by first | omega | exact (sz_i32 _).1, by first | omega | exact (sz_i32 _).2⟩ ⟨by first | omega | exact (sz_i32 _).1, by first | omega | exact (sz_i32 _).2⟩ (fun (c1 : (9) ≤ (c)) => ?_) (fun (c1 : ¬((9) ≤ (c))) => ?_)
    · skip
      refine ez_less [(10, .inl (al)), (9, .inr (.inr (some (z)))), (8, .inl (k)), (7, .inr (.inr (o7))), (6, .inl (uX u i)), (0, .inr (.inr (some (770)))), (1, .inr (.inr (some (q)))), (2, .inl ((u.length : Int))), (3, .inl (i)), (4, .inl (kind)), (5, .inl (loc))] rfl ⟨rfl, rfl, rfl, rfl, rfl, rfl, rfl, rfl, rfl, rfl, rfl, trivial⟩ ?_
      refine kx al ?_
      rcases ha with ⟨a1, a2⟩ | a1
      · exact Or.inl ⟨a1, fun c9 p1 p2 p3 => a2 c9 p1 (by omega) p3⟩
      · exact Or.inr a1
    · skip
      refine ez_go (n := 1) (pc' := 110) (L' := [(11, .inl (c)), (10, .inl (al)), (9, .inr (.inr (some (z)))), (8, .inl (k)), (7, .inr (.inr (o7))), (6, .inl (uX u i)), (0, .inr (.inr (some (770)))), (1, .inr (.inr (some (q)))), (2, .inl ((u.length : Int))), (3, .inl (i)), (4, .inl (kind)), (5, .inl (loc))]) (st' := [.inr (.inr (some (z)))]) rfl ?_
      refine ez_gI hB tz rfl rfl tq_13 rfl rfl (fun (b2 : -2147483648 ≤ qz_I h z 12) (b2' : qz_I h z 12 ≤ 2147483647) => ?_)
      rw [e12]
      refine ez_go (n := 5) (pc' := 119) (L' := [(11, .inl (c)), (10, .inl (al)), (9, .inr (.inr (some (z)))), (8, .inl (k)), (7, .inr (.inr (o7))), (6, .inl (uX u i)), (0, .inr (.inr (some (770)))), (1, .inr (.inr (some (q)))), (2, .inl ((u.length : Int))), (3, .inl (i)), (4, .inl (kind)), (5, .inl (loc))]) (st' := [.inl (1), .inl ((Int32.ofInt ((Int32.ofInt (m) >>> (Int32.ofInt (c) &&& 31)).toInt) &&& Int32.ofInt (1)).toInt)]) rfl ?_
      refine ez_icmp rfl rfl ⟨by first | omega | exact (sz_i32 _).1, by first | omega | exact (sz_i32 _).2⟩ ⟨by first | omega | exact (sz_i32 _).1, by first | omega | exact (sz_i32 _).2⟩ (fun (c3 : ((Int32.ofInt ((Int32.ofInt (m) >>> (Int32.ofInt (c) &&& 31)).toInt) &&& Int32.ofInt (1)).toInt) ≠ (1)) => ?_) (fun (c3 : ¬(((Int32.ofInt ((Int32.ofInt (m) >>> (Int32.ofInt (c) &&& 31)).toInt) &&& Int32.ofInt (1)).toInt) ≠ (1))) => ?_)
      · skip
        refine ez_go (n := 2) (pc' := 101) (L' := [(11, .inl (c + 1)), (10, .inl (al)), (9, .inr (.inr (some (z)))), (8, .inl (k)), (7, .inr (.inr (o7))), (6, .inl (uX u i)), (0, .inr (.inr (some (770)))), (1, .inr (.inr (some (q)))), (2, .inl ((u.length : Int))), (3, .inl (i)), (4, .inl (kind)), (5, .inl (loc))]) (st' := []) rfl ?_
        exfalso; omega
      · skip
        refine ez_go (n := 6) (pc' := 130) (L' := [(11, .inl (c)), (10, .inl (al)), (9, .inr (.inr (some (z)))), (8, .inl (k)), (7, .inr (.inr (o7))), (6, .inl (uX u i)), (0, .inr (.inr (some (770)))), (1, .inr (.inr (some (q)))), (2, .inl ((u.length : Int))), (3, .inl (i)), (4, .inl (kind)), (5, .inl (loc))]) (st' := [.inl (loc), .inl (i), .inl ((u.length : Int)), .inr (.inr (some (q))), .inl (c), .inr (.inr (some (770)))]) rfl ?_
        refine ez_cv hB t770 rfl rfl rfl tq_75 rfl rfl rfl (rd_mholds hI mt i0 i1 lr (by omega) (by omega) (fun w => ez_K1 ?_) (fun w => ez_K1 ?_))
        · skip
          refine ez_if rfl rfl ⟨by decide, by decide⟩ (fun _ => ?_) (fun (c4 : ¬((1 : Int) ≠ (0))) => absurd c4 (by decide))
          refine ez_go (n := 2) (pc' := 101) (L' := [(11, .inl (c + 1)), (10, .inl (al)), (9, .inr (.inr (some (z)))), (8, .inl (k)), (7, .inr (.inr (o7))), (6, .inl (uX u i)), (0, .inr (.inr (some (770)))), (1, .inr (.inr (some (q)))), (2, .inl ((u.length : Int))), (3, .inl (i)), (4, .inl (kind)), (5, .inl (loc))]) (st' := []) rfl ?_
          exfalso; omega
        · skip
          refine ez_if rfl rfl ⟨by decide, by decide⟩ (fun (c5 : (0 : Int) ≠ (0)) => absurd c5 (by decide)) (fun _ => ?_)
          refine ez_go (n := 4) (pc' := 101) (L' := [(11, .inl (c + 1)), (10, .inl (0)), (9, .inr (.inr (some (z)))), (8, .inl (k)), (7, .inr (.inr (o7))), (6, .inl (uX u i)), (0, .inr (.inr (some (770)))), (1, .inr (.inr (some (q)))), (2, .inl ((u.length : Int))), (3, .inl (i)), (4, .inl (kind)), (5, .inl (loc))]) (st' := []) rfl ?_
          exfalso; omega
  | succ n ih =>
    intro c al hn0 c0 c9' ha
    refine ez_go (n := 2) (pc' := 105) (L' := [(11, .inl (c)), (10, .inl (al)), (9, .inr (.inr (some (z)))), (8, .inl (k)), (7, .inr (.inr (o7))), (6, .inl (uX u i)), (0, .inr (.inr (some (770)))), (1, .inr (.inr (some (q)))), (2, .inl ((u.length : Int))), (3, .inl (i)), (4, .inl (kind)), (5, .inl (loc))]) (st' := [.inl (9), .inl (c)]) rfl ?_
    refine ez_icmp rfl rfl ⟨by first | omega | exact (sz_i32 _).1, by first | omega | exact (sz_i32 _).2⟩ ⟨by first | omega | exact (sz_i32 _).1, by first | omega | exact (sz_i32 _).2⟩ (fun (c1 : (9) ≤ (c)) => ?_) (fun (c1 : ¬((9) ≤ (c))) => ?_)
    · skip
      refine ez_less [(10, .inl (al)), (9, .inr (.inr (some (z)))), (8, .inl (k)), (7, .inr (.inr (o7))), (6, .inl (uX u i)), (0, .inr (.inr (some (770)))), (1, .inr (.inr (some (q)))), (2, .inl ((u.length : Int))), (3, .inl (i)), (4, .inl (kind)), (5, .inl (loc))] rfl ⟨rfl, rfl, rfl, rfl, rfl, rfl, rfl, rfl, rfl, rfl, rfl, trivial⟩ ?_
      refine kx al ?_
      rcases ha with ⟨a1, a2⟩ | a1
      · exact Or.inl ⟨a1, fun c9 p1 p2 p3 => a2 c9 p1 (by omega) p3⟩
      · exact Or.inr a1
    · skip
      refine ez_go (n := 1) (pc' := 110) (L' := [(11, .inl (c)), (10, .inl (al)), (9, .inr (.inr (some (z)))), (8, .inl (k)), (7, .inr (.inr (o7))), (6, .inl (uX u i)), (0, .inr (.inr (some (770)))), (1, .inr (.inr (some (q)))), (2, .inl ((u.length : Int))), (3, .inl (i)), (4, .inl (kind)), (5, .inl (loc))]) (st' := [.inr (.inr (some (z)))]) rfl ?_
      refine ez_gI hB tz rfl rfl tq_13 rfl rfl (fun (b2 : -2147483648 ≤ qz_I h z 12) (b2' : qz_I h z 12 ≤ 2147483647) => ?_)
      rw [e12]
      refine ez_go (n := 5) (pc' := 119) (L' := [(11, .inl (c)), (10, .inl (al)), (9, .inr (.inr (some (z)))), (8, .inl (k)), (7, .inr (.inr (o7))), (6, .inl (uX u i)), (0, .inr (.inr (some (770)))), (1, .inr (.inr (some (q)))), (2, .inl ((u.length : Int))), (3, .inl (i)), (4, .inl (kind)), (5, .inl (loc))]) (st' := [.inl (1), .inl ((Int32.ofInt ((Int32.ofInt (m) >>> (Int32.ofInt (c) &&& 31)).toInt) &&& Int32.ofInt (1)).toInt)]) rfl ?_
      refine ez_icmp rfl rfl ⟨by first | omega | exact (sz_i32 _).1, by first | omega | exact (sz_i32 _).2⟩ ⟨by first | omega | exact (sz_i32 _).1, by first | omega | exact (sz_i32 _).2⟩ (fun (c3 : ((Int32.ofInt ((Int32.ofInt (m) >>> (Int32.ofInt (c) &&& 31)).toInt) &&& Int32.ofInt (1)).toInt) ≠ (1)) => ?_) (fun (c3 : ¬(((Int32.ofInt ((Int32.ofInt (m) >>> (Int32.ofInt (c) &&& 31)).toInt) &&& Int32.ofInt (1)).toInt) ≠ (1))) => ?_)
      · skip
        refine ez_go (n := 2) (pc' := 101) (L' := [(11, .inl (c + 1)), (10, .inl (al)), (9, .inr (.inr (some (z)))), (8, .inl (k)), (7, .inr (.inr (o7))), (6, .inl (uX u i)), (0, .inr (.inr (some (770)))), (1, .inr (.inr (some (q)))), (2, .inl ((u.length : Int))), (3, .inl (i)), (4, .inl (kind)), (5, .inl (loc))]) (st' := []) rfl ?_
        refine ez_less [(11, .inl (c + 1)), (10, .inl (al)), (9, .inr (.inr (some (z)))), (8, .inl (k)), (7, .inr (.inr (o7))), (6, .inl (uX u i)), (0, .inr (.inr (some (770)))), (1, .inr (.inr (some (q)))), (2, .inl ((u.length : Int))), (3, .inl (i)), (4, .inl (kind)), (5, .inl (loc))] rfl ⟨rfl, rfl, rfl, rfl, rfl, rfl, rfl, rfl, rfl, rfl, rfl, rfl, trivial⟩ ?_
        refine ih _ al (by omega) (by omega) (by omega) ?_
        rcases ha with ⟨a1, a2⟩ | a1
        · refine Or.inl ⟨a1, fun c9 p1 p2 p3 => ?_⟩
          by_cases ec : c9 = c
          · subst ec
            first | exact w | (exfalso; rcases bit9_01 m c9 with q | q <;> (unfold bit9 at q p3; omega))
          · exact a2 c9 p1 (by omega) p3
        · exact Or.inr a1
      · skip
        refine ez_go (n := 6) (pc' := 130) (L' := [(11, .inl (c)), (10, .inl (al)), (9, .inr (.inr (some (z)))), (8, .inl (k)), (7, .inr (.inr (o7))), (6, .inl (uX u i)), (0, .inr (.inr (some (770)))), (1, .inr (.inr (some (q)))), (2, .inl ((u.length : Int))), (3, .inl (i)), (4, .inl (kind)), (5, .inl (loc))]) (st' := [.inl (loc), .inl (i), .inl ((u.length : Int)), .inr (.inr (some (q))), .inl (c), .inr (.inr (some (770)))]) rfl ?_
        refine ez_cv hB t770 rfl rfl rfl tq_75 rfl rfl rfl (rd_mholds hI mt i0 i1 lr (by omega) (by omega) (fun w => ez_K1 ?_) (fun w => ez_K1 ?_))
        · skip
          refine ez_if rfl rfl ⟨by decide, by decide⟩ (fun _ => ?_) (fun (c4 : ¬((1 : Int) ≠ (0))) => absurd c4 (by decide))
          refine ez_go (n := 2) (pc' := 101) (L' := [(11, .inl (c + 1)), (10, .inl (al)), (9, .inr (.inr (some (z)))), (8, .inl (k)), (7, .inr (.inr (o7))), (6, .inl (uX u i)), (0, .inr (.inr (some (770)))), (1, .inr (.inr (some (q)))), (2, .inl ((u.length : Int))), (3, .inl (i)), (4, .inl (kind)), (5, .inl (loc))]) (st' := []) rfl ?_
          refine ez_less [(11, .inl (c + 1)), (10, .inl (al)), (9, .inr (.inr (some (z)))), (8, .inl (k)), (7, .inr (.inr (o7))), (6, .inl (uX u i)), (0, .inr (.inr (some (770)))), (1, .inr (.inr (some (q)))), (2, .inl ((u.length : Int))), (3, .inl (i)), (4, .inl (kind)), (5, .inl (loc))] rfl ⟨rfl, rfl, rfl, rfl, rfl, rfl, rfl, rfl, rfl, rfl, rfl, rfl, trivial⟩ ?_
          refine ih _ al (by omega) (by omega) (by omega) ?_
          rcases ha with ⟨a1, a2⟩ | a1
          · refine Or.inl ⟨a1, fun c9 p1 p2 p3 => ?_⟩
            by_cases ec : c9 = c
            · subst ec
              first | exact w | (exfalso; rcases bit9_01 m c9 with q | q <;> (unfold bit9 at q p3; omega))
            · exact a2 c9 p1 (by omega) p3
          · exact Or.inr a1
        · skip
          refine ez_if rfl rfl ⟨by decide, by decide⟩ (fun (c5 : (0 : Int) ≠ (0)) => absurd c5 (by decide)) (fun _ => ?_)
          refine ez_go (n := 4) (pc' := 101) (L' := [(11, .inl (c + 1)), (10, .inl (0)), (9, .inr (.inr (some (z)))), (8, .inl (k)), (7, .inr (.inr (o7))), (6, .inl (uX u i)), (0, .inr (.inr (some (770)))), (1, .inr (.inr (some (q)))), (2, .inl ((u.length : Int))), (3, .inl (i)), (4, .inl (kind)), (5, .inl (loc))]) (st' := []) rfl ?_
          refine ez_less [(11, .inl (c + 1)), (10, .inl (0)), (9, .inr (.inr (some (z)))), (8, .inl (k)), (7, .inr (.inr (o7))), (6, .inl (uX u i)), (0, .inr (.inr (some (770)))), (1, .inr (.inr (some (q)))), (2, .inl ((u.length : Int))), (3, .inl (i)), (4, .inl (kind)), (5, .inl (loc))] rfl ⟨rfl, rfl, rfl, rfl, rfl, rfl, rfl, rfl, rfl, rfl, rfl, rfl, trivial⟩ ?_
          exact ih _ 0 (by omega) (by omega) (by omega) (Or.inr ⟨rfl, fun a => w (a c (by omega) (by omega) (by unfold bit9; omega))⟩)

theorem rd_mcl {i kind : Int} (hI : mI τ h Ls b) (mt : mtx τ h q u) (i0 : 0 ≤ i) (i1 : i < (u.length : Int)) (lr : ez_rg loc) (kr : ez_rg kind) (kx : ∀ r o, spR (fun m => aho (yD Ls) (vF Ls) u loc m i) (yD Ls (uX u i)).2.2.2 none r → obl τ h o r → ez_W (d + 4) cm_230 160 [(7, .inr (.inr (o))), (6, .inl (uX u i)), (0, .inr (.inr (some (770)))), (1, .inr (.inr (some (q)))), (2, .inl ((u.length : Int))), (3, .inl (i)), (4, .inl (kind)), (5, .inl (loc))] [] h Q) : ∀ (n : Nat) (k : Int) (o7 : Option Nat) (best : Option spz), n = (lc h - k).toNat → 0 ≤ k → k ≤ lc h → obl τ h o7 best → (∀ r, psr (fun m => aho (yD Ls) (vF Ls) u loc m i) (spl (uX u i) ((Ls.map ey).drop k.toNat)) best r → spR (fun m => aho (yD Ls) (vF Ls) u loc m i) (yD Ls (uX u i)).2.2.2 none r) → ez_W (d + 4) cm_230 11 [(8, .inl (k)), (7, .inr (.inr (o7))), (6, .inl (uX u i)), (0, .inr (.inr (some (770)))), (1, .inr (.inr (some (q)))), (2, .inl ((u.length : Int))), (3, .inl (i)), (4, .inl (kind)), (5, .inl (loc))] [] h Q := by
  have hB := hI.1
  have t770 : τ 770 = 75 := hI.2.1 770 (by decide)
  have b12 : 0 ≤ qz_I h 770 12 ∧ qz_I h 770 12 ≤ 512 := ez_fB (cl := 11) (k := 12) hB t770 tq_75 rfl rfl (by decide)
  have lce : lc h = qz_I h 770 12 := rfl
  have nls : lc h ≤ qz_N h (ls h) := hI.2.2.1.1.1
  have tq := mt.1
  have n2 := mt.2.1.1
  have pb := uX_ptl mt.2.1.2 (show (i).toNat < u.length by omega)
  intro n
  induction n with
  | zero =>
    intro k o7 best hn0 k0 k1 ho hs
    obtain e7 | ⟨s7, e7⟩ : best = none ∨ ∃ s, best = some s := by cases best with | none => exact Or.inl rfl | some s => exact Or.inr ⟨s, rfl⟩
    · subst e7
      have eo := ho.1 rfl
      subst eo
      refine ez_go (n := 2) (pc' := 14) (L' := [(8, .inl (k)), (7, .inr (.inr none)), (6, .inl (uX u i)), (0, .inr (.inr (some (770)))), (1, .inr (.inr (some (q)))), (2, .inl ((u.length : Int))), (3, .inl (i)), (4, .inl (kind)), (5, .inl (loc))]) (st' := [.inr (.inr (some (770))), .inl (k)]) rfl ?_
      refine ez_gI hB t770 rfl rfl tq_75 rfl rfl (fun (b1 : 0 ≤ qz_I h 770 12) (b1' : qz_I h 770 12 ≤ 512) => ?_)
      refine ez_icmp rfl rfl ⟨by first | omega | exact (sz_i32 _).1, by first | omega | exact (sz_i32 _).2⟩ ⟨by first | omega | exact (sz_i32 _).1, by first | omega | exact (sz_i32 _).2⟩ (fun (c2 : (qz_I h 770 12) ≤ (k)) => ?_) (fun (c2 : ¬((qz_I h 770 12) ≤ (k))) => ?_)
      · skip
        refine ez_less [(7, .inr (.inr none)), (6, .inl (uX u i)), (0, .inr (.inr (some (770)))), (1, .inr (.inr (some (q)))), (2, .inl ((u.length : Int))), (3, .inl (i)), (4, .inl (kind)), (5, .inl (loc))] rfl ⟨rfl, rfl, rfl, rfl, rfl, rfl, rfl, rfl, trivial⟩ ?_
        have hk9 : k = lc h := by omega
        exact kx none none (hs _ (by rw [List.drop_eq_nil_of_le (by rw [List.length_map]; have := hI.2.2.2.2.2.2.1; omega)]; exact psr_nil)) ⟨fun _ => rfl, fun s e => by cases e⟩
      · skip
        refine ez_go (n := 1) (pc' := 21) (L' := [(8, .inl (k)), (7, .inr (.inr none)), (6, .inl (uX u i)), (0, .inr (.inr (some (770)))), (1, .inr (.inr (some (q)))), (2, .inl ((u.length : Int))), (3, .inl (i)), (4, .inl (kind)), (5, .inl (loc))]) (st' := [.inr (.inr (some (770)))]) rfl ?_
        refine ez_gR hB t770 rfl rfl tq_75 rfl rfl (fun (t3 : _ = 18) (t3' : 1 ≤ qz_I h 770 11) => ?_)
        rw [show qz_P h 770 11 = ls h from rfl] at *
        refine ez_go (n := 1) (pc' := 26) (L' := [(8, .inl (k)), (7, .inr (.inr none)), (6, .inl (uX u i)), (0, .inr (.inr (some (770)))), (1, .inr (.inr (some (q)))), (2, .inl ((u.length : Int))), (3, .inl (i)), (4, .inl (kind)), (5, .inl (loc))]) (st' := [.inl (k), .inr (.inr (some ((ls h))))]) rfl ?_
        have n5 : 64 ≤ qz_N h ((ls h)) ∧ qz_N h ((ls h)) ≤ 4096 := ez_len hB t3 tq_18 rfl
        have y6 : 1 ≤ qz_I h ((ls h)) (k).toNat := (hI.at2 (k := k) (by omega) (by omega)).choose_spec.2.2.2
        have y7 : 0 ≤ qz_I h ((ls h)) (k).toNat ∧ qz_I h ((ls h)) (k).toNat ≤ 1000000 := ez_aB hB t3 tq_18 rfl rfl (by decide) (by omega) (by omega)
        have y7' : ((qz_P h ((ls h)) (k).toNat : Nat) : Int) + 1 = qz_I h ((ls h)) (k).toNat := by unfold qz_P; omega
        refine ez_aR hB t3 rfl tq_18 rfl rfl (by omega) (by omega) (by omega) (fun (t4 : _ = 13) => ?_)
        obtain ⟨x, hx, ax, tl, -⟩ := hI.at2 (k := k) (by omega) (by omega)
        have cq := vx_c1 (p := uX u i) ax
        have dr : (Ls.map ey).drop k.toNat = ey x :: (Ls.map ey).drop (k + 1).toNat := by rw [show (k + 1).toNat = k.toNat + 1 by omega]; exact drop_at (at_map hx)
        refine ez_go (n := 2) (pc' := 31) (L' := [(9, .inr (.inr (some (qz_P h ((ls h)) (k).toNat)))), (8, .inl (k)), (7, .inr (.inr none)), (6, .inl (uX u i)), (0, .inr (.inr (some (770)))), (1, .inr (.inr (some (q)))), (2, .inl ((u.length : Int))), (3, .inl (i)), (4, .inl (kind)), (5, .inl (loc))]) (st' := [.inr (.inr (some (qz_P h ((ls h)) (k).toNat)))]) rfl ?_
        refine ez_gI hB t4 rfl rfl tq_13 rfl rfl (fun (b8 : 0 ≤ qz_I h (qz_P h ((ls h)) (k).toNat) 0) (b8' : qz_I h (qz_P h ((ls h)) (k).toNat) 0 ≤ 4) => ?_)
        refine ez_go (n := 1) (pc' := 35) (L' := [(9, .inr (.inr (some (qz_P h ((ls h)) (k).toNat)))), (8, .inl (k)), (7, .inr (.inr none)), (6, .inl (uX u i)), (0, .inr (.inr (some (770)))), (1, .inr (.inr (some (q)))), (2, .inl ((u.length : Int))), (3, .inl (i)), (4, .inl (kind)), (5, .inl (loc))]) (st' := [.inl (1), .inl (qz_I h (qz_P h ((ls h)) (k).toNat) 0)]) rfl ?_
        refine ez_icmp rfl rfl ⟨by first | omega | exact (sz_i32 _).1, by first | omega | exact (sz_i32 _).2⟩ ⟨by first | omega | exact (sz_i32 _).1, by first | omega | exact (sz_i32 _).2⟩ (fun (c9 : (qz_I h (qz_P h ((ls h)) (k).toNat) 0) ≠ (1)) => ?_) (fun (c9 : ¬((qz_I h (qz_P h ((ls h)) (k).toNat) 0) ≠ (1))) => ?_)
        · skip
          refine ez_go (n := 2) (pc' := 11) (L' := [(8, .inl (k + 1)), (9, .inr (.inr (some (qz_P h ((ls h)) (k).toNat)))), (7, .inr (.inr none)), (6, .inl (uX u i)), (0, .inr (.inr (some (770)))), (1, .inr (.inr (some (q)))), (2, .inl ((u.length : Int))), (3, .inl (i)), (4, .inl (kind)), (5, .inl (loc))]) (st' := []) rfl ?_
          exfalso; omega
        · skip
          refine ez_go (n := 1) (pc' := 40) (L' := [(9, .inr (.inr (some (qz_P h ((ls h)) (k).toNat)))), (8, .inl (k)), (7, .inr (.inr none)), (6, .inl (uX u i)), (0, .inr (.inr (some (770)))), (1, .inr (.inr (some (q)))), (2, .inl ((u.length : Int))), (3, .inl (i)), (4, .inl (kind)), (5, .inl (loc))]) (st' := [.inr (.inr (some (qz_P h ((ls h)) (k).toNat)))]) rfl ?_
          refine ez_gI hB t4 rfl rfl tq_13 rfl rfl (fun (b10 : -2147483648 ≤ qz_I h (qz_P h ((ls h)) (k).toNat) 1) (b10' : qz_I h (qz_P h ((ls h)) (k).toNat) 1 ≤ 2147483647) => ?_)
          refine ez_go (n := 1) (pc' := 45) (L' := [(9, .inr (.inr (some (qz_P h ((ls h)) (k).toNat)))), (8, .inl (k)), (7, .inr (.inr none)), (6, .inl (uX u i)), (0, .inr (.inr (some (770)))), (1, .inr (.inr (some (q)))), (2, .inl ((u.length : Int))), (3, .inl (i)), (4, .inl (kind)), (5, .inl (loc))]) (st' := [.inl (uX u i), .inl (qz_I h (qz_P h ((ls h)) (k).toNat) 1)]) rfl ?_
          refine ez_icmp rfl rfl ⟨by first | omega | exact (sz_i32 _).1, by first | omega | exact (sz_i32 _).2⟩ ⟨by first | omega | exact (sz_i32 _).1, by first | omega | exact (sz_i32 _).2⟩ (fun (c11 : (qz_I h (qz_P h ((ls h)) (k).toNat) 1) = (uX u i)) => ?_) (fun (c11 : ¬((qz_I h (qz_P h ((ls h)) (k).toNat) 1) = (uX u i))) => ?_)
          · skip
            refine ez_go (n := 1) (pc' := 53) (L' := [(9, .inr (.inr (some (qz_P h ((ls h)) (k).toNat)))), (8, .inl (k)), (7, .inr (.inr none)), (6, .inl (uX u i)), (0, .inr (.inr (some (770)))), (1, .inr (.inr (some (q)))), (2, .inl ((u.length : Int))), (3, .inl (i)), (4, .inl (kind)), (5, .inl (loc))]) (st' := [.inr (.inr (some (qz_P h ((ls h)) (k).toNat)))]) rfl ?_
            refine ez_gI hB t4 rfl rfl tq_13 rfl rfl (fun (b12 : -2147483648 ≤ qz_I h (qz_P h ((ls h)) (k).toNat) 12) (b12' : qz_I h (qz_P h ((ls h)) (k).toNat) 12 ≤ 2147483647) => ?_)
            have cy := cq.mp ⟨by omega, by omega⟩
            have a12 := (ax.2.2.1 cy.1).2.1
            rw [show qz_I h (qz_P h ((ls h)) (k).toNat) 12 = (ey x).2.2.2.1 from a12]
            refine ez_if rfl rfl ⟨by first | omega | exact (sz_i32 _).1, by first | omega | exact (sz_i32 _).2⟩ (fun (c13 : ((ey x).2.2.2.1) ≠ (0)) => ?_) (fun (c13 : ¬(((ey x).2.2.2.1) ≠ (0))) => ?_)
            · skip
              refine ez_go (n := 1) (pc' := 81) (L' := [(9, .inr (.inr (some (qz_P h ((ls h)) (k).toNat)))), (8, .inl (k)), (7, .inr (.inr none)), (6, .inl (uX u i)), (0, .inr (.inr (some (770)))), (1, .inr (.inr (some (q)))), (2, .inl ((u.length : Int))), (3, .inl (i)), (4, .inl (kind)), (5, .inl (loc))]) (st' := [.inr (.inr none)]) rfl ?_
              refine ez_null0 rfl rfl ?_
              refine ez_go (n := 4) (pc' := 101) (L' := [(11, .inl (0)), (10, .inl (1)), (9, .inr (.inr (some (qz_P h ((ls h)) (k).toNat)))), (8, .inl (k)), (7, .inr (.inr none)), (6, .inl (uX u i)), (0, .inr (.inr (some (770)))), (1, .inr (.inr (some (q)))), (2, .inl ((u.length : Int))), (3, .inl (i)), (4, .inl (kind)), (5, .inl (loc))]) (st' := []) rfl ?_
              refine ez_less [(11, .inl (0)), (10, .inl (1)), (9, .inr (.inr (some (qz_P h ((ls h)) (k).toNat)))), (8, .inl (k)), (7, .inr (.inr none)), (6, .inl (uX u i)), (0, .inr (.inr (some (770)))), (1, .inr (.inr (some (q)))), (2, .inl ((u.length : Int))), (3, .inl (i)), (4, .inl (kind)), (5, .inl (loc))] rfl ⟨rfl, rfl, rfl, rfl, rfl, rfl, rfl, rfl, rfl, rfl, rfl, rfl, trivial⟩ ?_
              refine rd_mall hI mt i0 i1 lr kr t4 a12 (fun al hal => ?_) _ 0 1 rfl (by omega) (by omega) (Or.inl ⟨rfl, fun c9 p1 p2 => by omega⟩)
              rcases hal with ⟨rfl, hah⟩ | ⟨rfl, hah⟩
              · skip
                refine ez_go (n := 1) (pc' := 147) (L' := [(10, .inl (1)), (9, .inr (.inr (some (qz_P h ((ls h)) (k).toNat)))), (8, .inl (k)), (7, .inr (.inr none)), (6, .inl (uX u i)), (0, .inr (.inr (some (770)))), (1, .inr (.inr (some (q)))), (2, .inl ((u.length : Int))), (3, .inl (i)), (4, .inl (kind)), (5, .inl (loc))]) (st' := [.inl (1)]) rfl ?_
                refine ez_if rfl rfl ⟨by decide, by decide⟩ (fun (c14 : (1 : Int) = (0)) => absurd c14 (by decide)) (fun _ => ?_)
                refine ez_go (n := 4) (pc' := 11) (L' := [(8, .inl (k + 1)), (7, .inr (.inr (some (qz_P h ((ls h)) (k).toNat)))), (10, .inl (1)), (9, .inr (.inr (some (qz_P h ((ls h)) (k).toNat)))), (6, .inl (uX u i)), (0, .inr (.inr (some (770)))), (1, .inr (.inr (some (q)))), (2, .inl ((u.length : Int))), (3, .inl (i)), (4, .inl (kind)), (5, .inl (loc))]) (st' := []) rfl ?_
                exfalso; omega
              · skip
                refine ez_go (n := 1) (pc' := 147) (L' := [(10, .inl (0)), (9, .inr (.inr (some (qz_P h ((ls h)) (k).toNat)))), (8, .inl (k)), (7, .inr (.inr none)), (6, .inl (uX u i)), (0, .inr (.inr (some (770)))), (1, .inr (.inr (some (q)))), (2, .inl ((u.length : Int))), (3, .inl (i)), (4, .inl (kind)), (5, .inl (loc))]) (st' := [.inl (0)]) rfl ?_
                refine ez_if rfl rfl ⟨by decide, by decide⟩ (fun _ => ?_) (fun (c15 : ¬((0 : Int) = (0))) => absurd c15 (by decide))
                refine ez_go (n := 2) (pc' := 11) (L' := [(8, .inl (k + 1)), (10, .inl (0)), (9, .inr (.inr (some (qz_P h ((ls h)) (k).toNat)))), (7, .inr (.inr none)), (6, .inl (uX u i)), (0, .inr (.inr (some (770)))), (1, .inr (.inr (some (q)))), (2, .inl ((u.length : Int))), (3, .inl (i)), (4, .inl (kind)), (5, .inl (loc))]) (st' := []) rfl ?_
                exfalso; omega
            · skip
              refine ez_go (n := 1) (pc' := 61) (L' := [(9, .inr (.inr (some (qz_P h ((ls h)) (k).toNat)))), (8, .inl (k)), (7, .inr (.inr none)), (6, .inl (uX u i)), (0, .inr (.inr (some (770)))), (1, .inr (.inr (some (q)))), (2, .inl ((u.length : Int))), (3, .inl (i)), (4, .inl (kind)), (5, .inl (loc))]) (st' := [.inr (.inr none)]) rfl ?_
              refine ez_null0 rfl rfl ?_
              refine ez_go (n := 5) (pc' := 11) (L' := [(8, .inl (k + 1)), (7, .inr (.inr (some (qz_P h ((ls h)) (k).toNat)))), (9, .inr (.inr (some (qz_P h ((ls h)) (k).toNat)))), (6, .inl (uX u i)), (0, .inr (.inr (some (770)))), (1, .inr (.inr (some (q)))), (2, .inl ((u.length : Int))), (3, .inl (i)), (4, .inl (kind)), (5, .inl (loc))]) (st' := []) rfl ?_
              exfalso; omega
          · skip
            refine ez_go (n := 3) (pc' := 11) (L' := [(8, .inl (k + 1)), (9, .inr (.inr (some (qz_P h ((ls h)) (k).toNat)))), (7, .inr (.inr none)), (6, .inl (uX u i)), (0, .inr (.inr (some (770)))), (1, .inr (.inr (some (q)))), (2, .inl ((u.length : Int))), (3, .inl (i)), (4, .inl (kind)), (5, .inl (loc))]) (st' := []) rfl ?_
            exfalso; omega
    · subst e7
      obtain ⟨z7, v7, eo, t7, x7, k7, f7⟩ := ho.2 s7 rfl
      subst eo
      have c7 : qz_I h z7 12 = s7.1 := by rw [← f7]; exact (x7.2.2.1 k7).2.1
      have m7 : -2147483648 ≤ qz_I h z7 12 ∧ qz_I h z7 12 ≤ 2147483647 := ez_fB (cl := 12) (k := 12) hB t7 tq_13 rfl rfl (by decide)
      refine ez_go (n := 2) (pc' := 14) (L' := [(8, .inl (k)), (7, .inr (.inr (some (z7)))), (6, .inl (uX u i)), (0, .inr (.inr (some (770)))), (1, .inr (.inr (some (q)))), (2, .inl ((u.length : Int))), (3, .inl (i)), (4, .inl (kind)), (5, .inl (loc))]) (st' := [.inr (.inr (some (770))), .inl (k)]) rfl ?_
      refine ez_gI hB t770 rfl rfl tq_75 rfl rfl (fun (b1 : 0 ≤ qz_I h 770 12) (b1' : qz_I h 770 12 ≤ 512) => ?_)
      refine ez_icmp rfl rfl ⟨by first | omega | exact (sz_i32 _).1, by first | omega | exact (sz_i32 _).2⟩ ⟨by first | omega | exact (sz_i32 _).1, by first | omega | exact (sz_i32 _).2⟩ (fun (c2 : (qz_I h 770 12) ≤ (k)) => ?_) (fun (c2 : ¬((qz_I h 770 12) ≤ (k))) => ?_)
      · skip
        refine ez_less [(7, .inr (.inr (some (z7)))), (6, .inl (uX u i)), (0, .inr (.inr (some (770)))), (1, .inr (.inr (some (q)))), (2, .inl ((u.length : Int))), (3, .inl (i)), (4, .inl (kind)), (5, .inl (loc))] rfl ⟨rfl, rfl, rfl, rfl, rfl, rfl, rfl, rfl, trivial⟩ ?_
        have hk9 : k = lc h := by omega
        exact kx (some s7) (some z7) (hs _ (by rw [List.drop_eq_nil_of_le (by rw [List.length_map]; have := hI.2.2.2.2.2.2.1; omega)]; exact psr_nil)) ho
      · skip
        refine ez_go (n := 1) (pc' := 21) (L' := [(8, .inl (k)), (7, .inr (.inr (some (z7)))), (6, .inl (uX u i)), (0, .inr (.inr (some (770)))), (1, .inr (.inr (some (q)))), (2, .inl ((u.length : Int))), (3, .inl (i)), (4, .inl (kind)), (5, .inl (loc))]) (st' := [.inr (.inr (some (770)))]) rfl ?_
        refine ez_gR hB t770 rfl rfl tq_75 rfl rfl (fun (t3 : _ = 18) (t3' : 1 ≤ qz_I h 770 11) => ?_)
        rw [show qz_P h 770 11 = ls h from rfl] at *
        refine ez_go (n := 1) (pc' := 26) (L' := [(8, .inl (k)), (7, .inr (.inr (some (z7)))), (6, .inl (uX u i)), (0, .inr (.inr (some (770)))), (1, .inr (.inr (some (q)))), (2, .inl ((u.length : Int))), (3, .inl (i)), (4, .inl (kind)), (5, .inl (loc))]) (st' := [.inl (k), .inr (.inr (some ((ls h))))]) rfl ?_
        have n5 : 64 ≤ qz_N h ((ls h)) ∧ qz_N h ((ls h)) ≤ 4096 := ez_len hB t3 tq_18 rfl
        have y6 : 1 ≤ qz_I h ((ls h)) (k).toNat := (hI.at2 (k := k) (by omega) (by omega)).choose_spec.2.2.2
        have y7 : 0 ≤ qz_I h ((ls h)) (k).toNat ∧ qz_I h ((ls h)) (k).toNat ≤ 1000000 := ez_aB hB t3 tq_18 rfl rfl (by decide) (by omega) (by omega)
        have y7' : ((qz_P h ((ls h)) (k).toNat : Nat) : Int) + 1 = qz_I h ((ls h)) (k).toNat := by unfold qz_P; omega
        refine ez_aR hB t3 rfl tq_18 rfl rfl (by omega) (by omega) (by omega) (fun (t4 : _ = 13) => ?_)
        obtain ⟨x, hx, ax, tl, -⟩ := hI.at2 (k := k) (by omega) (by omega)
        have cq := vx_c1 (p := uX u i) ax
        have dr : (Ls.map ey).drop k.toNat = ey x :: (Ls.map ey).drop (k + 1).toNat := by rw [show (k + 1).toNat = k.toNat + 1 by omega]; exact drop_at (at_map hx)
        refine ez_go (n := 2) (pc' := 31) (L' := [(9, .inr (.inr (some (qz_P h ((ls h)) (k).toNat)))), (8, .inl (k)), (7, .inr (.inr (some (z7)))), (6, .inl (uX u i)), (0, .inr (.inr (some (770)))), (1, .inr (.inr (some (q)))), (2, .inl ((u.length : Int))), (3, .inl (i)), (4, .inl (kind)), (5, .inl (loc))]) (st' := [.inr (.inr (some (qz_P h ((ls h)) (k).toNat)))]) rfl ?_
        refine ez_gI hB t4 rfl rfl tq_13 rfl rfl (fun (b8 : 0 ≤ qz_I h (qz_P h ((ls h)) (k).toNat) 0) (b8' : qz_I h (qz_P h ((ls h)) (k).toNat) 0 ≤ 4) => ?_)
        refine ez_go (n := 1) (pc' := 35) (L' := [(9, .inr (.inr (some (qz_P h ((ls h)) (k).toNat)))), (8, .inl (k)), (7, .inr (.inr (some (z7)))), (6, .inl (uX u i)), (0, .inr (.inr (some (770)))), (1, .inr (.inr (some (q)))), (2, .inl ((u.length : Int))), (3, .inl (i)), (4, .inl (kind)), (5, .inl (loc))]) (st' := [.inl (1), .inl (qz_I h (qz_P h ((ls h)) (k).toNat) 0)]) rfl ?_
        refine ez_icmp rfl rfl ⟨by first | omega | exact (sz_i32 _).1, by first | omega | exact (sz_i32 _).2⟩ ⟨by first | omega | exact (sz_i32 _).1, by first | omega | exact (sz_i32 _).2⟩ (fun (c9 : (qz_I h (qz_P h ((ls h)) (k).toNat) 0) ≠ (1)) => ?_) (fun (c9 : ¬((qz_I h (qz_P h ((ls h)) (k).toNat) 0) ≠ (1))) => ?_)
        · skip
          refine ez_go (n := 2) (pc' := 11) (L' := [(8, .inl (k + 1)), (9, .inr (.inr (some (qz_P h ((ls h)) (k).toNat)))), (7, .inr (.inr (some (z7)))), (6, .inl (uX u i)), (0, .inr (.inr (some (770)))), (1, .inr (.inr (some (q)))), (2, .inl ((u.length : Int))), (3, .inl (i)), (4, .inl (kind)), (5, .inl (loc))]) (st' := []) rfl ?_
          exfalso; omega
        · skip
          refine ez_go (n := 1) (pc' := 40) (L' := [(9, .inr (.inr (some (qz_P h ((ls h)) (k).toNat)))), (8, .inl (k)), (7, .inr (.inr (some (z7)))), (6, .inl (uX u i)), (0, .inr (.inr (some (770)))), (1, .inr (.inr (some (q)))), (2, .inl ((u.length : Int))), (3, .inl (i)), (4, .inl (kind)), (5, .inl (loc))]) (st' := [.inr (.inr (some (qz_P h ((ls h)) (k).toNat)))]) rfl ?_
          refine ez_gI hB t4 rfl rfl tq_13 rfl rfl (fun (b10 : -2147483648 ≤ qz_I h (qz_P h ((ls h)) (k).toNat) 1) (b10' : qz_I h (qz_P h ((ls h)) (k).toNat) 1 ≤ 2147483647) => ?_)
          refine ez_go (n := 1) (pc' := 45) (L' := [(9, .inr (.inr (some (qz_P h ((ls h)) (k).toNat)))), (8, .inl (k)), (7, .inr (.inr (some (z7)))), (6, .inl (uX u i)), (0, .inr (.inr (some (770)))), (1, .inr (.inr (some (q)))), (2, .inl ((u.length : Int))), (3, .inl (i)), (4, .inl (kind)), (5, .inl (loc))]) (st' := [.inl (uX u i), .inl (qz_I h (qz_P h ((ls h)) (k).toNat) 1)]) rfl ?_
          refine ez_icmp rfl rfl ⟨by first | omega | exact (sz_i32 _).1, by first | omega | exact (sz_i32 _).2⟩ ⟨by first | omega | exact (sz_i32 _).1, by first | omega | exact (sz_i32 _).2⟩ (fun (c11 : (qz_I h (qz_P h ((ls h)) (k).toNat) 1) = (uX u i)) => ?_) (fun (c11 : ¬((qz_I h (qz_P h ((ls h)) (k).toNat) 1) = (uX u i))) => ?_)
          · skip
            refine ez_go (n := 1) (pc' := 53) (L' := [(9, .inr (.inr (some (qz_P h ((ls h)) (k).toNat)))), (8, .inl (k)), (7, .inr (.inr (some (z7)))), (6, .inl (uX u i)), (0, .inr (.inr (some (770)))), (1, .inr (.inr (some (q)))), (2, .inl ((u.length : Int))), (3, .inl (i)), (4, .inl (kind)), (5, .inl (loc))]) (st' := [.inr (.inr (some (qz_P h ((ls h)) (k).toNat)))]) rfl ?_
            refine ez_gI hB t4 rfl rfl tq_13 rfl rfl (fun (b12 : -2147483648 ≤ qz_I h (qz_P h ((ls h)) (k).toNat) 12) (b12' : qz_I h (qz_P h ((ls h)) (k).toNat) 12 ≤ 2147483647) => ?_)
            have cy := cq.mp ⟨by omega, by omega⟩
            have a12 := (ax.2.2.1 cy.1).2.1
            rw [show qz_I h (qz_P h ((ls h)) (k).toNat) 12 = (ey x).2.2.2.1 from a12]
            refine ez_if rfl rfl ⟨by first | omega | exact (sz_i32 _).1, by first | omega | exact (sz_i32 _).2⟩ (fun (c13 : ((ey x).2.2.2.1) ≠ (0)) => ?_) (fun (c13 : ¬(((ey x).2.2.2.1) ≠ (0))) => ?_)
            · skip
              refine ez_go (n := 1) (pc' := 81) (L' := [(9, .inr (.inr (some (qz_P h ((ls h)) (k).toNat)))), (8, .inl (k)), (7, .inr (.inr (some (z7)))), (6, .inl (uX u i)), (0, .inr (.inr (some (770)))), (1, .inr (.inr (some (q)))), (2, .inl ((u.length : Int))), (3, .inl (i)), (4, .inl (kind)), (5, .inl (loc))]) (st' := [.inr (.inr (some (z7)))]) rfl ?_
              refine ez_null1 rfl ?_
              refine ez_go (n := 1) (pc' := 86) (L' := [(9, .inr (.inr (some (qz_P h ((ls h)) (k).toNat)))), (8, .inl (k)), (7, .inr (.inr (some (z7)))), (6, .inl (uX u i)), (0, .inr (.inr (some (770)))), (1, .inr (.inr (some (q)))), (2, .inl ((u.length : Int))), (3, .inl (i)), (4, .inl (kind)), (5, .inl (loc))]) (st' := [.inr (.inr (some (z7)))]) rfl ?_
              refine ez_gI hB t7 rfl rfl tq_13 rfl rfl (fun (b14 : -2147483648 ≤ qz_I h z7 12) (b14' : qz_I h z7 12 ≤ 2147483647) => ?_)
              rw [show qz_I h z7 12 = s7.1 from c7]
              refine ez_if rfl rfl ⟨by first | omega | exact (sz_i32 _).1, by first | omega | exact (sz_i32 _).2⟩ (fun (c15 : (s7.1) = (0)) => ?_) (fun (c15 : ¬((s7.1) = (0))) => ?_)
              · skip
                refine ez_go (n := 4) (pc' := 101) (L' := [(11, .inl (0)), (10, .inl (1)), (9, .inr (.inr (some (qz_P h ((ls h)) (k).toNat)))), (8, .inl (k)), (7, .inr (.inr (some (z7)))), (6, .inl (uX u i)), (0, .inr (.inr (some (770)))), (1, .inr (.inr (some (q)))), (2, .inl ((u.length : Int))), (3, .inl (i)), (4, .inl (kind)), (5, .inl (loc))]) (st' := []) rfl ?_
                refine ez_less [(11, .inl (0)), (10, .inl (1)), (9, .inr (.inr (some (qz_P h ((ls h)) (k).toNat)))), (8, .inl (k)), (7, .inr (.inr (some (z7)))), (6, .inl (uX u i)), (0, .inr (.inr (some (770)))), (1, .inr (.inr (some (q)))), (2, .inl ((u.length : Int))), (3, .inl (i)), (4, .inl (kind)), (5, .inl (loc))] rfl ⟨rfl, rfl, rfl, rfl, rfl, rfl, rfl, rfl, rfl, rfl, rfl, rfl, trivial⟩ ?_
                refine rd_mall hI mt i0 i1 lr kr t4 a12 (fun al hal => ?_) _ 0 1 rfl (by omega) (by omega) (Or.inl ⟨rfl, fun c9 p1 p2 => by omega⟩)
                rcases hal with ⟨rfl, hah⟩ | ⟨rfl, hah⟩
                · skip
                  refine ez_go (n := 1) (pc' := 147) (L' := [(10, .inl (1)), (9, .inr (.inr (some (qz_P h ((ls h)) (k).toNat)))), (8, .inl (k)), (7, .inr (.inr (some (z7)))), (6, .inl (uX u i)), (0, .inr (.inr (some (770)))), (1, .inr (.inr (some (q)))), (2, .inl ((u.length : Int))), (3, .inl (i)), (4, .inl (kind)), (5, .inl (loc))]) (st' := [.inl (1)]) rfl ?_
                  refine ez_if rfl rfl ⟨by decide, by decide⟩ (fun (c16 : (1 : Int) = (0)) => absurd c16 (by decide)) (fun _ => ?_)
                  refine ez_go (n := 4) (pc' := 11) (L' := [(8, .inl (k + 1)), (7, .inr (.inr (some (qz_P h ((ls h)) (k).toNat)))), (10, .inl (1)), (9, .inr (.inr (some (qz_P h ((ls h)) (k).toNat)))), (6, .inl (uX u i)), (0, .inr (.inr (some (770)))), (1, .inr (.inr (some (q)))), (2, .inl ((u.length : Int))), (3, .inl (i)), (4, .inl (kind)), (5, .inl (loc))]) (st' := []) rfl ?_
                  exfalso; omega
                · skip
                  refine ez_go (n := 1) (pc' := 147) (L' := [(10, .inl (0)), (9, .inr (.inr (some (qz_P h ((ls h)) (k).toNat)))), (8, .inl (k)), (7, .inr (.inr (some (z7)))), (6, .inl (uX u i)), (0, .inr (.inr (some (770)))), (1, .inr (.inr (some (q)))), (2, .inl ((u.length : Int))), (3, .inl (i)), (4, .inl (kind)), (5, .inl (loc))]) (st' := [.inl (0)]) rfl ?_
                  refine ez_if rfl rfl ⟨by decide, by decide⟩ (fun _ => ?_) (fun (c17 : ¬((0 : Int) = (0))) => absurd c17 (by decide))
                  refine ez_go (n := 2) (pc' := 11) (L' := [(8, .inl (k + 1)), (10, .inl (0)), (9, .inr (.inr (some (qz_P h ((ls h)) (k).toNat)))), (7, .inr (.inr (some (z7)))), (6, .inl (uX u i)), (0, .inr (.inr (some (770)))), (1, .inr (.inr (some (q)))), (2, .inl ((u.length : Int))), (3, .inl (i)), (4, .inl (kind)), (5, .inl (loc))]) (st' := []) rfl ?_
                  exfalso; omega
              · skip
                refine ez_go (n := 3) (pc' := 11) (L' := [(8, .inl (k + 1)), (9, .inr (.inr (some (qz_P h ((ls h)) (k).toNat)))), (7, .inr (.inr (some (z7)))), (6, .inl (uX u i)), (0, .inr (.inr (some (770)))), (1, .inr (.inr (some (q)))), (2, .inl ((u.length : Int))), (3, .inl (i)), (4, .inl (kind)), (5, .inl (loc))]) (st' := []) rfl ?_
                exfalso; omega
            · skip
              refine ez_go (n := 1) (pc' := 61) (L' := [(9, .inr (.inr (some (qz_P h ((ls h)) (k).toNat)))), (8, .inl (k)), (7, .inr (.inr (some (z7)))), (6, .inl (uX u i)), (0, .inr (.inr (some (770)))), (1, .inr (.inr (some (q)))), (2, .inl ((u.length : Int))), (3, .inl (i)), (4, .inl (kind)), (5, .inl (loc))]) (st' := [.inr (.inr (some (z7)))]) rfl ?_
              refine ez_null1 rfl ?_
              refine ez_go (n := 1) (pc' := 66) (L' := [(9, .inr (.inr (some (qz_P h ((ls h)) (k).toNat)))), (8, .inl (k)), (7, .inr (.inr (some (z7)))), (6, .inl (uX u i)), (0, .inr (.inr (some (770)))), (1, .inr (.inr (some (q)))), (2, .inl ((u.length : Int))), (3, .inl (i)), (4, .inl (kind)), (5, .inl (loc))]) (st' := [.inr (.inr (some (z7)))]) rfl ?_
              refine ez_gI hB t7 rfl rfl tq_13 rfl rfl (fun (b18 : -2147483648 ≤ qz_I h z7 12) (b18' : qz_I h z7 12 ≤ 2147483647) => ?_)
              rw [show qz_I h z7 12 = s7.1 from c7]
              refine ez_if rfl rfl ⟨by first | omega | exact (sz_i32 _).1, by first | omega | exact (sz_i32 _).2⟩ (fun (c19 : (s7.1) ≠ (0)) => ?_) (fun (c19 : ¬((s7.1) ≠ (0))) => ?_)
              · skip
                refine ez_go (n := 2) (pc' := 11) (L' := [(8, .inl (k + 1)), (9, .inr (.inr (some (qz_P h ((ls h)) (k).toNat)))), (7, .inr (.inr (some (z7)))), (6, .inl (uX u i)), (0, .inr (.inr (some (770)))), (1, .inr (.inr (some (q)))), (2, .inl ((u.length : Int))), (3, .inl (i)), (4, .inl (kind)), (5, .inl (loc))]) (st' := []) rfl ?_
                exfalso; omega
              · skip
                refine ez_go (n := 5) (pc' := 11) (L' := [(8, .inl (k + 1)), (7, .inr (.inr (some (qz_P h ((ls h)) (k).toNat)))), (9, .inr (.inr (some (qz_P h ((ls h)) (k).toNat)))), (6, .inl (uX u i)), (0, .inr (.inr (some (770)))), (1, .inr (.inr (some (q)))), (2, .inl ((u.length : Int))), (3, .inl (i)), (4, .inl (kind)), (5, .inl (loc))]) (st' := []) rfl ?_
                exfalso; omega
          · skip
            refine ez_go (n := 3) (pc' := 11) (L' := [(8, .inl (k + 1)), (9, .inr (.inr (some (qz_P h ((ls h)) (k).toNat)))), (7, .inr (.inr (some (z7)))), (6, .inl (uX u i)), (0, .inr (.inr (some (770)))), (1, .inr (.inr (some (q)))), (2, .inl ((u.length : Int))), (3, .inl (i)), (4, .inl (kind)), (5, .inl (loc))]) (st' := []) rfl ?_
            exfalso; omega
  | succ n ih =>
    intro k o7 best hn0 k0 k1 ho hs
    obtain e7 | ⟨s7, e7⟩ : best = none ∨ ∃ s, best = some s := by cases best with | none => exact Or.inl rfl | some s => exact Or.inr ⟨s, rfl⟩
    · subst e7
      have eo := ho.1 rfl
      subst eo
      refine ez_go (n := 2) (pc' := 14) (L' := [(8, .inl (k)), (7, .inr (.inr none)), (6, .inl (uX u i)), (0, .inr (.inr (some (770)))), (1, .inr (.inr (some (q)))), (2, .inl ((u.length : Int))), (3, .inl (i)), (4, .inl (kind)), (5, .inl (loc))]) (st' := [.inr (.inr (some (770))), .inl (k)]) rfl ?_
      refine ez_gI hB t770 rfl rfl tq_75 rfl rfl (fun (b1 : 0 ≤ qz_I h 770 12) (b1' : qz_I h 770 12 ≤ 512) => ?_)
      refine ez_icmp rfl rfl ⟨by first | omega | exact (sz_i32 _).1, by first | omega | exact (sz_i32 _).2⟩ ⟨by first | omega | exact (sz_i32 _).1, by first | omega | exact (sz_i32 _).2⟩ (fun (c2 : (qz_I h 770 12) ≤ (k)) => ?_) (fun (c2 : ¬((qz_I h 770 12) ≤ (k))) => ?_)
      · skip
        refine ez_less [(7, .inr (.inr none)), (6, .inl (uX u i)), (0, .inr (.inr (some (770)))), (1, .inr (.inr (some (q)))), (2, .inl ((u.length : Int))), (3, .inl (i)), (4, .inl (kind)), (5, .inl (loc))] rfl ⟨rfl, rfl, rfl, rfl, rfl, rfl, rfl, rfl, trivial⟩ ?_
        have hk9 : k = lc h := by omega
        exact kx none none (hs _ (by rw [List.drop_eq_nil_of_le (by rw [List.length_map]; have := hI.2.2.2.2.2.2.1; omega)]; exact psr_nil)) ⟨fun _ => rfl, fun s e => by cases e⟩
      · skip
        refine ez_go (n := 1) (pc' := 21) (L' := [(8, .inl (k)), (7, .inr (.inr none)), (6, .inl (uX u i)), (0, .inr (.inr (some (770)))), (1, .inr (.inr (some (q)))), (2, .inl ((u.length : Int))), (3, .inl (i)), (4, .inl (kind)), (5, .inl (loc))]) (st' := [.inr (.inr (some (770)))]) rfl ?_
        refine ez_gR hB t770 rfl rfl tq_75 rfl rfl (fun (t3 : _ = 18) (t3' : 1 ≤ qz_I h 770 11) => ?_)
        rw [show qz_P h 770 11 = ls h from rfl] at *
        refine ez_go (n := 1) (pc' := 26) (L' := [(8, .inl (k)), (7, .inr (.inr none)), (6, .inl (uX u i)), (0, .inr (.inr (some (770)))), (1, .inr (.inr (some (q)))), (2, .inl ((u.length : Int))), (3, .inl (i)), (4, .inl (kind)), (5, .inl (loc))]) (st' := [.inl (k), .inr (.inr (some ((ls h))))]) rfl ?_
        have n5 : 64 ≤ qz_N h ((ls h)) ∧ qz_N h ((ls h)) ≤ 4096 := ez_len hB t3 tq_18 rfl
        have y6 : 1 ≤ qz_I h ((ls h)) (k).toNat := (hI.at2 (k := k) (by omega) (by omega)).choose_spec.2.2.2
        have y7 : 0 ≤ qz_I h ((ls h)) (k).toNat ∧ qz_I h ((ls h)) (k).toNat ≤ 1000000 := ez_aB hB t3 tq_18 rfl rfl (by decide) (by omega) (by omega)
        have y7' : ((qz_P h ((ls h)) (k).toNat : Nat) : Int) + 1 = qz_I h ((ls h)) (k).toNat := by unfold qz_P; omega
        refine ez_aR hB t3 rfl tq_18 rfl rfl (by omega) (by omega) (by omega) (fun (t4 : _ = 13) => ?_)
        obtain ⟨x, hx, ax, tl, -⟩ := hI.at2 (k := k) (by omega) (by omega)
        have cq := vx_c1 (p := uX u i) ax
        have dr : (Ls.map ey).drop k.toNat = ey x :: (Ls.map ey).drop (k + 1).toNat := by rw [show (k + 1).toNat = k.toNat + 1 by omega]; exact drop_at (at_map hx)
        refine ez_go (n := 2) (pc' := 31) (L' := [(9, .inr (.inr (some (qz_P h ((ls h)) (k).toNat)))), (8, .inl (k)), (7, .inr (.inr none)), (6, .inl (uX u i)), (0, .inr (.inr (some (770)))), (1, .inr (.inr (some (q)))), (2, .inl ((u.length : Int))), (3, .inl (i)), (4, .inl (kind)), (5, .inl (loc))]) (st' := [.inr (.inr (some (qz_P h ((ls h)) (k).toNat)))]) rfl ?_
        refine ez_gI hB t4 rfl rfl tq_13 rfl rfl (fun (b8 : 0 ≤ qz_I h (qz_P h ((ls h)) (k).toNat) 0) (b8' : qz_I h (qz_P h ((ls h)) (k).toNat) 0 ≤ 4) => ?_)
        refine ez_go (n := 1) (pc' := 35) (L' := [(9, .inr (.inr (some (qz_P h ((ls h)) (k).toNat)))), (8, .inl (k)), (7, .inr (.inr none)), (6, .inl (uX u i)), (0, .inr (.inr (some (770)))), (1, .inr (.inr (some (q)))), (2, .inl ((u.length : Int))), (3, .inl (i)), (4, .inl (kind)), (5, .inl (loc))]) (st' := [.inl (1), .inl (qz_I h (qz_P h ((ls h)) (k).toNat) 0)]) rfl ?_
        refine ez_icmp rfl rfl ⟨by first | omega | exact (sz_i32 _).1, by first | omega | exact (sz_i32 _).2⟩ ⟨by first | omega | exact (sz_i32 _).1, by first | omega | exact (sz_i32 _).2⟩ (fun (c9 : (qz_I h (qz_P h ((ls h)) (k).toNat) 0) ≠ (1)) => ?_) (fun (c9 : ¬((qz_I h (qz_P h ((ls h)) (k).toNat) 0) ≠ (1))) => ?_)
        · skip
          refine ez_go (n := 2) (pc' := 11) (L' := [(8, .inl (k + 1)), (9, .inr (.inr (some (qz_P h ((ls h)) (k).toNat)))), (7, .inr (.inr none)), (6, .inl (uX u i)), (0, .inr (.inr (some (770)))), (1, .inr (.inr (some (q)))), (2, .inl ((u.length : Int))), (3, .inl (i)), (4, .inl (kind)), (5, .inl (loc))]) (st' := []) rfl ?_
          refine ez_less [(8, .inl (k + 1)), (7, .inr (.inr none)), (6, .inl (uX u i)), (0, .inr (.inr (some (770)))), (1, .inr (.inr (some (q)))), (2, .inl ((u.length : Int))), (3, .inl (i)), (4, .inl (kind)), (5, .inl (loc))] rfl ⟨rfl, rfl, rfl, rfl, rfl, rfl, rfl, rfl, rfl, trivial⟩ ?_
          exact ih (k + 1) none none (by omega) (by omega) (by omega) ⟨fun _ => rfl, fun s e => by cases e⟩ (fun r hr => hs r (by first | (rw [dr, spl_n (fun w => by have w := cq.mpr w; omega)]; exact hr) | (rw [dr, spl_y cy]; exact psr_x (by omega) hah (fun t e => by cases e) hr)))
        · skip
          refine ez_go (n := 1) (pc' := 40) (L' := [(9, .inr (.inr (some (qz_P h ((ls h)) (k).toNat)))), (8, .inl (k)), (7, .inr (.inr none)), (6, .inl (uX u i)), (0, .inr (.inr (some (770)))), (1, .inr (.inr (some (q)))), (2, .inl ((u.length : Int))), (3, .inl (i)), (4, .inl (kind)), (5, .inl (loc))]) (st' := [.inr (.inr (some (qz_P h ((ls h)) (k).toNat)))]) rfl ?_
          refine ez_gI hB t4 rfl rfl tq_13 rfl rfl (fun (b10 : -2147483648 ≤ qz_I h (qz_P h ((ls h)) (k).toNat) 1) (b10' : qz_I h (qz_P h ((ls h)) (k).toNat) 1 ≤ 2147483647) => ?_)
          refine ez_go (n := 1) (pc' := 45) (L' := [(9, .inr (.inr (some (qz_P h ((ls h)) (k).toNat)))), (8, .inl (k)), (7, .inr (.inr none)), (6, .inl (uX u i)), (0, .inr (.inr (some (770)))), (1, .inr (.inr (some (q)))), (2, .inl ((u.length : Int))), (3, .inl (i)), (4, .inl (kind)), (5, .inl (loc))]) (st' := [.inl (uX u i), .inl (qz_I h (qz_P h ((ls h)) (k).toNat) 1)]) rfl ?_
          refine ez_icmp rfl rfl ⟨by first | omega | exact (sz_i32 _).1, by first | omega | exact (sz_i32 _).2⟩ ⟨by first | omega | exact (sz_i32 _).1, by first | omega | exact (sz_i32 _).2⟩ (fun (c11 : (qz_I h (qz_P h ((ls h)) (k).toNat) 1) = (uX u i)) => ?_) (fun (c11 : ¬((qz_I h (qz_P h ((ls h)) (k).toNat) 1) = (uX u i))) => ?_)
          · skip
            refine ez_go (n := 1) (pc' := 53) (L' := [(9, .inr (.inr (some (qz_P h ((ls h)) (k).toNat)))), (8, .inl (k)), (7, .inr (.inr none)), (6, .inl (uX u i)), (0, .inr (.inr (some (770)))), (1, .inr (.inr (some (q)))), (2, .inl ((u.length : Int))), (3, .inl (i)), (4, .inl (kind)), (5, .inl (loc))]) (st' := [.inr (.inr (some (qz_P h ((ls h)) (k).toNat)))]) rfl ?_
            refine ez_gI hB t4 rfl rfl tq_13 rfl rfl (fun (b12 : -2147483648 ≤ qz_I h (qz_P h ((ls h)) (k).toNat) 12) (b12' : qz_I h (qz_P h ((ls h)) (k).toNat) 12 ≤ 2147483647) => ?_)
            have cy := cq.mp ⟨by omega, by omega⟩
            have a12 := (ax.2.2.1 cy.1).2.1
            rw [show qz_I h (qz_P h ((ls h)) (k).toNat) 12 = (ey x).2.2.2.1 from a12]
            refine ez_if rfl rfl ⟨by first | omega | exact (sz_i32 _).1, by first | omega | exact (sz_i32 _).2⟩ (fun (c13 : ((ey x).2.2.2.1) ≠ (0)) => ?_) (fun (c13 : ¬(((ey x).2.2.2.1) ≠ (0))) => ?_)
            · skip
              refine ez_go (n := 1) (pc' := 81) (L' := [(9, .inr (.inr (some (qz_P h ((ls h)) (k).toNat)))), (8, .inl (k)), (7, .inr (.inr none)), (6, .inl (uX u i)), (0, .inr (.inr (some (770)))), (1, .inr (.inr (some (q)))), (2, .inl ((u.length : Int))), (3, .inl (i)), (4, .inl (kind)), (5, .inl (loc))]) (st' := [.inr (.inr none)]) rfl ?_
              refine ez_null0 rfl rfl ?_
              refine ez_go (n := 4) (pc' := 101) (L' := [(11, .inl (0)), (10, .inl (1)), (9, .inr (.inr (some (qz_P h ((ls h)) (k).toNat)))), (8, .inl (k)), (7, .inr (.inr none)), (6, .inl (uX u i)), (0, .inr (.inr (some (770)))), (1, .inr (.inr (some (q)))), (2, .inl ((u.length : Int))), (3, .inl (i)), (4, .inl (kind)), (5, .inl (loc))]) (st' := []) rfl ?_
              refine ez_less [(11, .inl (0)), (10, .inl (1)), (9, .inr (.inr (some (qz_P h ((ls h)) (k).toNat)))), (8, .inl (k)), (7, .inr (.inr none)), (6, .inl (uX u i)), (0, .inr (.inr (some (770)))), (1, .inr (.inr (some (q)))), (2, .inl ((u.length : Int))), (3, .inl (i)), (4, .inl (kind)), (5, .inl (loc))] rfl ⟨rfl, rfl, rfl, rfl, rfl, rfl, rfl, rfl, rfl, rfl, rfl, rfl, trivial⟩ ?_
              refine rd_mall hI mt i0 i1 lr kr t4 a12 (fun al hal => ?_) _ 0 1 rfl (by omega) (by omega) (Or.inl ⟨rfl, fun c9 p1 p2 => by omega⟩)
              rcases hal with ⟨rfl, hah⟩ | ⟨rfl, hah⟩
              · skip
                refine ez_go (n := 1) (pc' := 147) (L' := [(10, .inl (1)), (9, .inr (.inr (some (qz_P h ((ls h)) (k).toNat)))), (8, .inl (k)), (7, .inr (.inr none)), (6, .inl (uX u i)), (0, .inr (.inr (some (770)))), (1, .inr (.inr (some (q)))), (2, .inl ((u.length : Int))), (3, .inl (i)), (4, .inl (kind)), (5, .inl (loc))]) (st' := [.inl (1)]) rfl ?_
                refine ez_if rfl rfl ⟨by decide, by decide⟩ (fun (c14 : (1 : Int) = (0)) => absurd c14 (by decide)) (fun _ => ?_)
                refine ez_go (n := 4) (pc' := 11) (L' := [(8, .inl (k + 1)), (7, .inr (.inr (some (qz_P h ((ls h)) (k).toNat)))), (10, .inl (1)), (9, .inr (.inr (some (qz_P h ((ls h)) (k).toNat)))), (6, .inl (uX u i)), (0, .inr (.inr (some (770)))), (1, .inr (.inr (some (q)))), (2, .inl ((u.length : Int))), (3, .inl (i)), (4, .inl (kind)), (5, .inl (loc))]) (st' := []) rfl ?_
                refine ez_less [(8, .inl (k + 1)), (7, .inr (.inr (some (qz_P h ((ls h)) (k).toNat)))), (6, .inl (uX u i)), (0, .inr (.inr (some (770)))), (1, .inr (.inr (some (q)))), (2, .inl ((u.length : Int))), (3, .inl (i)), (4, .inl (kind)), (5, .inl (loc))] rfl ⟨rfl, rfl, rfl, rfl, rfl, rfl, rfl, rfl, rfl, trivial⟩ ?_
                exact ih (k + 1) (some (qz_P h ((ls h)) (k).toNat)) (some (ey x).2.2.2) (by omega) (by omega) (by omega) ⟨fun e => (by cases e), fun s e => by cases e; exact ⟨_, ey x, rfl, tl, ax, cy.1, rfl⟩⟩ (fun r hr => hs r (by rw [dr, spl_y cy]; exact psr_y (by omega) hah (fun t e => by cases e) hr))
              · skip
                refine ez_go (n := 1) (pc' := 147) (L' := [(10, .inl (0)), (9, .inr (.inr (some (qz_P h ((ls h)) (k).toNat)))), (8, .inl (k)), (7, .inr (.inr none)), (6, .inl (uX u i)), (0, .inr (.inr (some (770)))), (1, .inr (.inr (some (q)))), (2, .inl ((u.length : Int))), (3, .inl (i)), (4, .inl (kind)), (5, .inl (loc))]) (st' := [.inl (0)]) rfl ?_
                refine ez_if rfl rfl ⟨by decide, by decide⟩ (fun _ => ?_) (fun (c15 : ¬((0 : Int) = (0))) => absurd c15 (by decide))
                refine ez_go (n := 2) (pc' := 11) (L' := [(8, .inl (k + 1)), (10, .inl (0)), (9, .inr (.inr (some (qz_P h ((ls h)) (k).toNat)))), (7, .inr (.inr none)), (6, .inl (uX u i)), (0, .inr (.inr (some (770)))), (1, .inr (.inr (some (q)))), (2, .inl ((u.length : Int))), (3, .inl (i)), (4, .inl (kind)), (5, .inl (loc))]) (st' := []) rfl ?_
                refine ez_less [(8, .inl (k + 1)), (7, .inr (.inr none)), (6, .inl (uX u i)), (0, .inr (.inr (some (770)))), (1, .inr (.inr (some (q)))), (2, .inl ((u.length : Int))), (3, .inl (i)), (4, .inl (kind)), (5, .inl (loc))] rfl ⟨rfl, rfl, rfl, rfl, rfl, rfl, rfl, rfl, rfl, trivial⟩ ?_
                exact ih (k + 1) none none (by omega) (by omega) (by omega) ⟨fun _ => rfl, fun s e => by cases e⟩ (fun r hr => hs r (by first | (rw [dr, spl_n (fun w => by have w := cq.mpr w; omega)]; exact hr) | (rw [dr, spl_y cy]; exact psr_x (by omega) hah (fun t e => by cases e) hr)))
            · skip
              refine ez_go (n := 1) (pc' := 61) (L' := [(9, .inr (.inr (some (qz_P h ((ls h)) (k).toNat)))), (8, .inl (k)), (7, .inr (.inr none)), (6, .inl (uX u i)), (0, .inr (.inr (some (770)))), (1, .inr (.inr (some (q)))), (2, .inl ((u.length : Int))), (3, .inl (i)), (4, .inl (kind)), (5, .inl (loc))]) (st' := [.inr (.inr none)]) rfl ?_
              refine ez_null0 rfl rfl ?_
              refine ez_go (n := 5) (pc' := 11) (L' := [(8, .inl (k + 1)), (7, .inr (.inr (some (qz_P h ((ls h)) (k).toNat)))), (9, .inr (.inr (some (qz_P h ((ls h)) (k).toNat)))), (6, .inl (uX u i)), (0, .inr (.inr (some (770)))), (1, .inr (.inr (some (q)))), (2, .inl ((u.length : Int))), (3, .inl (i)), (4, .inl (kind)), (5, .inl (loc))]) (st' := []) rfl ?_
              refine ez_less [(8, .inl (k + 1)), (7, .inr (.inr (some (qz_P h ((ls h)) (k).toNat)))), (6, .inl (uX u i)), (0, .inr (.inr (some (770)))), (1, .inr (.inr (some (q)))), (2, .inl ((u.length : Int))), (3, .inl (i)), (4, .inl (kind)), (5, .inl (loc))] rfl ⟨rfl, rfl, rfl, rfl, rfl, rfl, rfl, rfl, rfl, trivial⟩ ?_
              exact ih (k + 1) (some (qz_P h ((ls h)) (k).toNat)) (some (ey x).2.2.2) (by omega) (by omega) (by omega) ⟨fun e => (by cases e), fun s e => by cases e; exact ⟨_, ey x, rfl, tl, ax, cy.1, rfl⟩⟩ (fun r hr => hs r (by rw [dr, spl_y cy]; exact psr_p (by omega) (fun t e => by cases e) hr))
          · skip
            refine ez_go (n := 3) (pc' := 11) (L' := [(8, .inl (k + 1)), (9, .inr (.inr (some (qz_P h ((ls h)) (k).toNat)))), (7, .inr (.inr none)), (6, .inl (uX u i)), (0, .inr (.inr (some (770)))), (1, .inr (.inr (some (q)))), (2, .inl ((u.length : Int))), (3, .inl (i)), (4, .inl (kind)), (5, .inl (loc))]) (st' := []) rfl ?_
            refine ez_less [(8, .inl (k + 1)), (7, .inr (.inr none)), (6, .inl (uX u i)), (0, .inr (.inr (some (770)))), (1, .inr (.inr (some (q)))), (2, .inl ((u.length : Int))), (3, .inl (i)), (4, .inl (kind)), (5, .inl (loc))] rfl ⟨rfl, rfl, rfl, rfl, rfl, rfl, rfl, rfl, rfl, trivial⟩ ?_
            exact ih (k + 1) none none (by omega) (by omega) (by omega) ⟨fun _ => rfl, fun s e => by cases e⟩ (fun r hr => hs r (by first | (rw [dr, spl_n (fun w => by have w := cq.mpr w; omega)]; exact hr) | (rw [dr, spl_y cy]; exact psr_x (by omega) hah (fun t e => by cases e) hr)))
    · subst e7
      obtain ⟨z7, v7, eo, t7, x7, k7, f7⟩ := ho.2 s7 rfl
      subst eo
      have c7 : qz_I h z7 12 = s7.1 := by rw [← f7]; exact (x7.2.2.1 k7).2.1
      have m7 : -2147483648 ≤ qz_I h z7 12 ∧ qz_I h z7 12 ≤ 2147483647 := ez_fB (cl := 12) (k := 12) hB t7 tq_13 rfl rfl (by decide)
      refine ez_go (n := 2) (pc' := 14) (L' := [(8, .inl (k)), (7, .inr (.inr (some (z7)))), (6, .inl (uX u i)), (0, .inr (.inr (some (770)))), (1, .inr (.inr (some (q)))), (2, .inl ((u.length : Int))), (3, .inl (i)), (4, .inl (kind)), (5, .inl (loc))]) (st' := [.inr (.inr (some (770))), .inl (k)]) rfl ?_
      refine ez_gI hB t770 rfl rfl tq_75 rfl rfl (fun (b1 : 0 ≤ qz_I h 770 12) (b1' : qz_I h 770 12 ≤ 512) => ?_)
      refine ez_icmp rfl rfl ⟨by first | omega | exact (sz_i32 _).1, by first | omega | exact (sz_i32 _).2⟩ ⟨by first | omega | exact (sz_i32 _).1, by first | omega | exact (sz_i32 _).2⟩ (fun (c2 : (qz_I h 770 12) ≤ (k)) => ?_) (fun (c2 : ¬((qz_I h 770 12) ≤ (k))) => ?_)
      · skip
        refine ez_less [(7, .inr (.inr (some (z7)))), (6, .inl (uX u i)), (0, .inr (.inr (some (770)))), (1, .inr (.inr (some (q)))), (2, .inl ((u.length : Int))), (3, .inl (i)), (4, .inl (kind)), (5, .inl (loc))] rfl ⟨rfl, rfl, rfl, rfl, rfl, rfl, rfl, rfl, trivial⟩ ?_
        have hk9 : k = lc h := by omega
        exact kx (some s7) (some z7) (hs _ (by rw [List.drop_eq_nil_of_le (by rw [List.length_map]; have := hI.2.2.2.2.2.2.1; omega)]; exact psr_nil)) ho
      · skip
        refine ez_go (n := 1) (pc' := 21) (L' := [(8, .inl (k)), (7, .inr (.inr (some (z7)))), (6, .inl (uX u i)), (0, .inr (.inr (some (770)))), (1, .inr (.inr (some (q)))), (2, .inl ((u.length : Int))), (3, .inl (i)), (4, .inl (kind)), (5, .inl (loc))]) (st' := [.inr (.inr (some (770)))]) rfl ?_
        refine ez_gR hB t770 rfl rfl tq_75 rfl rfl (fun (t3 : _ = 18) (t3' : 1 ≤ qz_I h 770 11) => ?_)
        rw [show qz_P h 770 11 = ls h from rfl] at *
        refine ez_go (n := 1) (pc' := 26) (L' := [(8, .inl (k)), (7, .inr (.inr (some (z7)))), (6, .inl (uX u i)), (0, .inr (.inr (some (770)))), (1, .inr (.inr (some (q)))), (2, .inl ((u.length : Int))), (3, .inl (i)), (4, .inl (kind)), (5, .inl (loc))]) (st' := [.inl (k), .inr (.inr (some ((ls h))))]) rfl ?_
        have n5 : 64 ≤ qz_N h ((ls h)) ∧ qz_N h ((ls h)) ≤ 4096 := ez_len hB t3 tq_18 rfl
        have y6 : 1 ≤ qz_I h ((ls h)) (k).toNat := (hI.at2 (k := k) (by omega) (by omega)).choose_spec.2.2.2
        have y7 : 0 ≤ qz_I h ((ls h)) (k).toNat ∧ qz_I h ((ls h)) (k).toNat ≤ 1000000 := ez_aB hB t3 tq_18 rfl rfl (by decide) (by omega) (by omega)
        have y7' : ((qz_P h ((ls h)) (k).toNat : Nat) : Int) + 1 = qz_I h ((ls h)) (k).toNat := by unfold qz_P; omega
        refine ez_aR hB t3 rfl tq_18 rfl rfl (by omega) (by omega) (by omega) (fun (t4 : _ = 13) => ?_)
        obtain ⟨x, hx, ax, tl, -⟩ := hI.at2 (k := k) (by omega) (by omega)
        have cq := vx_c1 (p := uX u i) ax
        have dr : (Ls.map ey).drop k.toNat = ey x :: (Ls.map ey).drop (k + 1).toNat := by rw [show (k + 1).toNat = k.toNat + 1 by omega]; exact drop_at (at_map hx)
        refine ez_go (n := 2) (pc' := 31) (L' := [(9, .inr (.inr (some (qz_P h ((ls h)) (k).toNat)))), (8, .inl (k)), (7, .inr (.inr (some (z7)))), (6, .inl (uX u i)), (0, .inr (.inr (some (770)))), (1, .inr (.inr (some (q)))), (2, .inl ((u.length : Int))), (3, .inl (i)), (4, .inl (kind)), (5, .inl (loc))]) (st' := [.inr (.inr (some (qz_P h ((ls h)) (k).toNat)))]) rfl ?_
        refine ez_gI hB t4 rfl rfl tq_13 rfl rfl (fun (b8 : 0 ≤ qz_I h (qz_P h ((ls h)) (k).toNat) 0) (b8' : qz_I h (qz_P h ((ls h)) (k).toNat) 0 ≤ 4) => ?_)
        refine ez_go (n := 1) (pc' := 35) (L' := [(9, .inr (.inr (some (qz_P h ((ls h)) (k).toNat)))), (8, .inl (k)), (7, .inr (.inr (some (z7)))), (6, .inl (uX u i)), (0, .inr (.inr (some (770)))), (1, .inr (.inr (some (q)))), (2, .inl ((u.length : Int))), (3, .inl (i)), (4, .inl (kind)), (5, .inl (loc))]) (st' := [.inl (1), .inl (qz_I h (qz_P h ((ls h)) (k).toNat) 0)]) rfl ?_
        refine ez_icmp rfl rfl ⟨by first | omega | exact (sz_i32 _).1, by first | omega | exact (sz_i32 _).2⟩ ⟨by first | omega | exact (sz_i32 _).1, by first | omega | exact (sz_i32 _).2⟩ (fun (c9 : (qz_I h (qz_P h ((ls h)) (k).toNat) 0) ≠ (1)) => ?_) (fun (c9 : ¬((qz_I h (qz_P h ((ls h)) (k).toNat) 0) ≠ (1))) => ?_)
        · skip
          refine ez_go (n := 2) (pc' := 11) (L' := [(8, .inl (k + 1)), (9, .inr (.inr (some (qz_P h ((ls h)) (k).toNat)))), (7, .inr (.inr (some (z7)))), (6, .inl (uX u i)), (0, .inr (.inr (some (770)))), (1, .inr (.inr (some (q)))), (2, .inl ((u.length : Int))), (3, .inl (i)), (4, .inl (kind)), (5, .inl (loc))]) (st' := []) rfl ?_
          refine ez_less [(8, .inl (k + 1)), (7, .inr (.inr (some (z7)))), (6, .inl (uX u i)), (0, .inr (.inr (some (770)))), (1, .inr (.inr (some (q)))), (2, .inl ((u.length : Int))), (3, .inl (i)), (4, .inl (kind)), (5, .inl (loc))] rfl ⟨rfl, rfl, rfl, rfl, rfl, rfl, rfl, rfl, rfl, trivial⟩ ?_
          exact ih (k + 1) (some (z7)) (some s7) (by omega) (by omega) (by omega) ho (fun r hr => hs r (by first | (rw [dr, spl_n (fun w => by have w := cq.mpr w; omega)]; exact hr) | (rw [dr, spl_y cy]; exact psr_f (by omega) hr) | (rw [dr, spl_y cy]; exact psr_x (by omega) hah (fun t e => by cases e; omega) hr)))
        · skip
          refine ez_go (n := 1) (pc' := 40) (L' := [(9, .inr (.inr (some (qz_P h ((ls h)) (k).toNat)))), (8, .inl (k)), (7, .inr (.inr (some (z7)))), (6, .inl (uX u i)), (0, .inr (.inr (some (770)))), (1, .inr (.inr (some (q)))), (2, .inl ((u.length : Int))), (3, .inl (i)), (4, .inl (kind)), (5, .inl (loc))]) (st' := [.inr (.inr (some (qz_P h ((ls h)) (k).toNat)))]) rfl ?_
          refine ez_gI hB t4 rfl rfl tq_13 rfl rfl (fun (b10 : -2147483648 ≤ qz_I h (qz_P h ((ls h)) (k).toNat) 1) (b10' : qz_I h (qz_P h ((ls h)) (k).toNat) 1 ≤ 2147483647) => ?_)
          refine ez_go (n := 1) (pc' := 45) (L' := [(9, .inr (.inr (some (qz_P h ((ls h)) (k).toNat)))), (8, .inl (k)), (7, .inr (.inr (some (z7)))), (6, .inl (uX u i)), (0, .inr (.inr (some (770)))), (1, .inr (.inr (some (q)))), (2, .inl ((u.length : Int))), (3, .inl (i)), (4, .inl (kind)), (5, .inl (loc))]) (st' := [.inl (uX u i), .inl (qz_I h (qz_P h ((ls h)) (k).toNat) 1)]) rfl ?_
          refine ez_icmp rfl rfl ⟨by first | omega | exact (sz_i32 _).1, by first | omega | exact (sz_i32 _).2⟩ ⟨by first | omega | exact (sz_i32 _).1, by first | omega | exact (sz_i32 _).2⟩ (fun (c11 : (qz_I h (qz_P h ((ls h)) (k).toNat) 1) = (uX u i)) => ?_) (fun (c11 : ¬((qz_I h (qz_P h ((ls h)) (k).toNat) 1) = (uX u i))) => ?_)
          · skip
            refine ez_go (n := 1) (pc' := 53) (L' := [(9, .inr (.inr (some (qz_P h ((ls h)) (k).toNat)))), (8, .inl (k)), (7, .inr (.inr (some (z7)))), (6, .inl (uX u i)), (0, .inr (.inr (some (770)))), (1, .inr (.inr (some (q)))), (2, .inl ((u.length : Int))), (3, .inl (i)), (4, .inl (kind)), (5, .inl (loc))]) (st' := [.inr (.inr (some (qz_P h ((ls h)) (k).toNat)))]) rfl ?_
            refine ez_gI hB t4 rfl rfl tq_13 rfl rfl (fun (b12 : -2147483648 ≤ qz_I h (qz_P h ((ls h)) (k).toNat) 12) (b12' : qz_I h (qz_P h ((ls h)) (k).toNat) 12 ≤ 2147483647) => ?_)
            have cy := cq.mp ⟨by omega, by omega⟩
            have a12 := (ax.2.2.1 cy.1).2.1
            rw [show qz_I h (qz_P h ((ls h)) (k).toNat) 12 = (ey x).2.2.2.1 from a12]
            refine ez_if rfl rfl ⟨by first | omega | exact (sz_i32 _).1, by first | omega | exact (sz_i32 _).2⟩ (fun (c13 : ((ey x).2.2.2.1) ≠ (0)) => ?_) (fun (c13 : ¬(((ey x).2.2.2.1) ≠ (0))) => ?_)
            · skip
              refine ez_go (n := 1) (pc' := 81) (L' := [(9, .inr (.inr (some (qz_P h ((ls h)) (k).toNat)))), (8, .inl (k)), (7, .inr (.inr (some (z7)))), (6, .inl (uX u i)), (0, .inr (.inr (some (770)))), (1, .inr (.inr (some (q)))), (2, .inl ((u.length : Int))), (3, .inl (i)), (4, .inl (kind)), (5, .inl (loc))]) (st' := [.inr (.inr (some (z7)))]) rfl ?_
              refine ez_null1 rfl ?_
              refine ez_go (n := 1) (pc' := 86) (L' := [(9, .inr (.inr (some (qz_P h ((ls h)) (k).toNat)))), (8, .inl (k)), (7, .inr (.inr (some (z7)))), (6, .inl (uX u i)), (0, .inr (.inr (some (770)))), (1, .inr (.inr (some (q)))), (2, .inl ((u.length : Int))), (3, .inl (i)), (4, .inl (kind)), (5, .inl (loc))]) (st' := [.inr (.inr (some (z7)))]) rfl ?_
              refine ez_gI hB t7 rfl rfl tq_13 rfl rfl (fun (b14 : -2147483648 ≤ qz_I h z7 12) (b14' : qz_I h z7 12 ≤ 2147483647) => ?_)
              rw [show qz_I h z7 12 = s7.1 from c7]
              refine ez_if rfl rfl ⟨by first | omega | exact (sz_i32 _).1, by first | omega | exact (sz_i32 _).2⟩ (fun (c15 : (s7.1) = (0)) => ?_) (fun (c15 : ¬((s7.1) = (0))) => ?_)
              · skip
                refine ez_go (n := 4) (pc' := 101) (L' := [(11, .inl (0)), (10, .inl (1)), (9, .inr (.inr (some (qz_P h ((ls h)) (k).toNat)))), (8, .inl (k)), (7, .inr (.inr (some (z7)))), (6, .inl (uX u i)), (0, .inr (.inr (some (770)))), (1, .inr (.inr (some (q)))), (2, .inl ((u.length : Int))), (3, .inl (i)), (4, .inl (kind)), (5, .inl (loc))]) (st' := []) rfl ?_
                refine ez_less [(11, .inl (0)), (10, .inl (1)), (9, .inr (.inr (some (qz_P h ((ls h)) (k).toNat)))), (8, .inl (k)), (7, .inr (.inr (some (z7)))), (6, .inl (uX u i)), (0, .inr (.inr (some (770)))), (1, .inr (.inr (some (q)))), (2, .inl ((u.length : Int))), (3, .inl (i)), (4, .inl (kind)), (5, .inl (loc))] rfl ⟨rfl, rfl, rfl, rfl, rfl, rfl, rfl, rfl, rfl, rfl, rfl, rfl, trivial⟩ ?_
                refine rd_mall hI mt i0 i1 lr kr t4 a12 (fun al hal => ?_) _ 0 1 rfl (by omega) (by omega) (Or.inl ⟨rfl, fun c9 p1 p2 => by omega⟩)
                rcases hal with ⟨rfl, hah⟩ | ⟨rfl, hah⟩
                · skip
                  refine ez_go (n := 1) (pc' := 147) (L' := [(10, .inl (1)), (9, .inr (.inr (some (qz_P h ((ls h)) (k).toNat)))), (8, .inl (k)), (7, .inr (.inr (some (z7)))), (6, .inl (uX u i)), (0, .inr (.inr (some (770)))), (1, .inr (.inr (some (q)))), (2, .inl ((u.length : Int))), (3, .inl (i)), (4, .inl (kind)), (5, .inl (loc))]) (st' := [.inl (1)]) rfl ?_
                  refine ez_if rfl rfl ⟨by decide, by decide⟩ (fun (c16 : (1 : Int) = (0)) => absurd c16 (by decide)) (fun _ => ?_)
                  refine ez_go (n := 4) (pc' := 11) (L' := [(8, .inl (k + 1)), (7, .inr (.inr (some (qz_P h ((ls h)) (k).toNat)))), (10, .inl (1)), (9, .inr (.inr (some (qz_P h ((ls h)) (k).toNat)))), (6, .inl (uX u i)), (0, .inr (.inr (some (770)))), (1, .inr (.inr (some (q)))), (2, .inl ((u.length : Int))), (3, .inl (i)), (4, .inl (kind)), (5, .inl (loc))]) (st' := []) rfl ?_
                  refine ez_less [(8, .inl (k + 1)), (7, .inr (.inr (some (qz_P h ((ls h)) (k).toNat)))), (6, .inl (uX u i)), (0, .inr (.inr (some (770)))), (1, .inr (.inr (some (q)))), (2, .inl ((u.length : Int))), (3, .inl (i)), (4, .inl (kind)), (5, .inl (loc))] rfl ⟨rfl, rfl, rfl, rfl, rfl, rfl, rfl, rfl, rfl, trivial⟩ ?_
                  exact ih (k + 1) (some (qz_P h ((ls h)) (k).toNat)) (some (ey x).2.2.2) (by omega) (by omega) (by omega) ⟨fun e => (by cases e), fun s e => by cases e; exact ⟨_, ey x, rfl, tl, ax, cy.1, rfl⟩⟩ (fun r hr => hs r (by rw [dr, spl_y cy]; exact psr_y (by omega) hah (fun t e => by cases e; omega) hr))
                · skip
                  refine ez_go (n := 1) (pc' := 147) (L' := [(10, .inl (0)), (9, .inr (.inr (some (qz_P h ((ls h)) (k).toNat)))), (8, .inl (k)), (7, .inr (.inr (some (z7)))), (6, .inl (uX u i)), (0, .inr (.inr (some (770)))), (1, .inr (.inr (some (q)))), (2, .inl ((u.length : Int))), (3, .inl (i)), (4, .inl (kind)), (5, .inl (loc))]) (st' := [.inl (0)]) rfl ?_
                  refine ez_if rfl rfl ⟨by decide, by decide⟩ (fun _ => ?_) (fun (c17 : ¬((0 : Int) = (0))) => absurd c17 (by decide))
                  refine ez_go (n := 2) (pc' := 11) (L' := [(8, .inl (k + 1)), (10, .inl (0)), (9, .inr (.inr (some (qz_P h ((ls h)) (k).toNat)))), (7, .inr (.inr (some (z7)))), (6, .inl (uX u i)), (0, .inr (.inr (some (770)))), (1, .inr (.inr (some (q)))), (2, .inl ((u.length : Int))), (3, .inl (i)), (4, .inl (kind)), (5, .inl (loc))]) (st' := []) rfl ?_
                  refine ez_less [(8, .inl (k + 1)), (7, .inr (.inr (some (z7)))), (6, .inl (uX u i)), (0, .inr (.inr (some (770)))), (1, .inr (.inr (some (q)))), (2, .inl ((u.length : Int))), (3, .inl (i)), (4, .inl (kind)), (5, .inl (loc))] rfl ⟨rfl, rfl, rfl, rfl, rfl, rfl, rfl, rfl, rfl, trivial⟩ ?_
                  exact ih (k + 1) (some (z7)) (some s7) (by omega) (by omega) (by omega) ho (fun r hr => hs r (by first | (rw [dr, spl_n (fun w => by have w := cq.mpr w; omega)]; exact hr) | (rw [dr, spl_y cy]; exact psr_f (by omega) hr) | (rw [dr, spl_y cy]; exact psr_x (by omega) hah (fun t e => by cases e; omega) hr)))
              · skip
                refine ez_go (n := 3) (pc' := 11) (L' := [(8, .inl (k + 1)), (9, .inr (.inr (some (qz_P h ((ls h)) (k).toNat)))), (7, .inr (.inr (some (z7)))), (6, .inl (uX u i)), (0, .inr (.inr (some (770)))), (1, .inr (.inr (some (q)))), (2, .inl ((u.length : Int))), (3, .inl (i)), (4, .inl (kind)), (5, .inl (loc))]) (st' := []) rfl ?_
                refine ez_less [(8, .inl (k + 1)), (7, .inr (.inr (some (z7)))), (6, .inl (uX u i)), (0, .inr (.inr (some (770)))), (1, .inr (.inr (some (q)))), (2, .inl ((u.length : Int))), (3, .inl (i)), (4, .inl (kind)), (5, .inl (loc))] rfl ⟨rfl, rfl, rfl, rfl, rfl, rfl, rfl, rfl, rfl, trivial⟩ ?_
                exact ih (k + 1) (some (z7)) (some s7) (by omega) (by omega) (by omega) ho (fun r hr => hs r (by first | (rw [dr, spl_n (fun w => by have w := cq.mpr w; omega)]; exact hr) | (rw [dr, spl_y cy]; exact psr_f (by omega) hr) | (rw [dr, spl_y cy]; exact psr_x (by omega) hah (fun t e => by cases e; omega) hr)))
            · skip
              refine ez_go (n := 1) (pc' := 61) (L' := [(9, .inr (.inr (some (qz_P h ((ls h)) (k).toNat)))), (8, .inl (k)), (7, .inr (.inr (some (z7)))), (6, .inl (uX u i)), (0, .inr (.inr (some (770)))), (1, .inr (.inr (some (q)))), (2, .inl ((u.length : Int))), (3, .inl (i)), (4, .inl (kind)), (5, .inl (loc))]) (st' := [.inr (.inr (some (z7)))]) rfl ?_
              refine ez_null1 rfl ?_
              refine ez_go (n := 1) (pc' := 66) (L' := [(9, .inr (.inr (some (qz_P h ((ls h)) (k).toNat)))), (8, .inl (k)), (7, .inr (.inr (some (z7)))), (6, .inl (uX u i)), (0, .inr (.inr (some (770)))), (1, .inr (.inr (some (q)))), (2, .inl ((u.length : Int))), (3, .inl (i)), (4, .inl (kind)), (5, .inl (loc))]) (st' := [.inr (.inr (some (z7)))]) rfl ?_
              refine ez_gI hB t7 rfl rfl tq_13 rfl rfl (fun (b18 : -2147483648 ≤ qz_I h z7 12) (b18' : qz_I h z7 12 ≤ 2147483647) => ?_)
              rw [show qz_I h z7 12 = s7.1 from c7]
              refine ez_if rfl rfl ⟨by first | omega | exact (sz_i32 _).1, by first | omega | exact (sz_i32 _).2⟩ (fun (c19 : (s7.1) ≠ (0)) => ?_) (fun (c19 : ¬((s7.1) ≠ (0))) => ?_)
              · skip
                refine ez_go (n := 2) (pc' := 11) (L' := [(8, .inl (k + 1)), (9, .inr (.inr (some (qz_P h ((ls h)) (k).toNat)))), (7, .inr (.inr (some (z7)))), (6, .inl (uX u i)), (0, .inr (.inr (some (770)))), (1, .inr (.inr (some (q)))), (2, .inl ((u.length : Int))), (3, .inl (i)), (4, .inl (kind)), (5, .inl (loc))]) (st' := []) rfl ?_
                refine ez_less [(8, .inl (k + 1)), (7, .inr (.inr (some (z7)))), (6, .inl (uX u i)), (0, .inr (.inr (some (770)))), (1, .inr (.inr (some (q)))), (2, .inl ((u.length : Int))), (3, .inl (i)), (4, .inl (kind)), (5, .inl (loc))] rfl ⟨rfl, rfl, rfl, rfl, rfl, rfl, rfl, rfl, rfl, trivial⟩ ?_
                exact ih (k + 1) (some (z7)) (some s7) (by omega) (by omega) (by omega) ho (fun r hr => hs r (by first | (rw [dr, spl_n (fun w => by have w := cq.mpr w; omega)]; exact hr) | (rw [dr, spl_y cy]; exact psr_f (by omega) hr) | (rw [dr, spl_y cy]; exact psr_x (by omega) hah (fun t e => by cases e; omega) hr)))
              · skip
                refine ez_go (n := 5) (pc' := 11) (L' := [(8, .inl (k + 1)), (7, .inr (.inr (some (qz_P h ((ls h)) (k).toNat)))), (9, .inr (.inr (some (qz_P h ((ls h)) (k).toNat)))), (6, .inl (uX u i)), (0, .inr (.inr (some (770)))), (1, .inr (.inr (some (q)))), (2, .inl ((u.length : Int))), (3, .inl (i)), (4, .inl (kind)), (5, .inl (loc))]) (st' := []) rfl ?_
                refine ez_less [(8, .inl (k + 1)), (7, .inr (.inr (some (qz_P h ((ls h)) (k).toNat)))), (6, .inl (uX u i)), (0, .inr (.inr (some (770)))), (1, .inr (.inr (some (q)))), (2, .inl ((u.length : Int))), (3, .inl (i)), (4, .inl (kind)), (5, .inl (loc))] rfl ⟨rfl, rfl, rfl, rfl, rfl, rfl, rfl, rfl, rfl, trivial⟩ ?_
                exact ih (k + 1) (some (qz_P h ((ls h)) (k).toNat)) (some (ey x).2.2.2) (by omega) (by omega) (by omega) ⟨fun e => (by cases e), fun s e => by cases e; exact ⟨_, ey x, rfl, tl, ax, cy.1, rfl⟩⟩ (fun r hr => hs r (by rw [dr, spl_y cy]; exact psr_p (by omega) (fun t e => by cases e; omega) hr))
          · skip
            refine ez_go (n := 3) (pc' := 11) (L' := [(8, .inl (k + 1)), (9, .inr (.inr (some (qz_P h ((ls h)) (k).toNat)))), (7, .inr (.inr (some (z7)))), (6, .inl (uX u i)), (0, .inr (.inr (some (770)))), (1, .inr (.inr (some (q)))), (2, .inl ((u.length : Int))), (3, .inl (i)), (4, .inl (kind)), (5, .inl (loc))]) (st' := []) rfl ?_
            refine ez_less [(8, .inl (k + 1)), (7, .inr (.inr (some (z7)))), (6, .inl (uX u i)), (0, .inr (.inr (some (770)))), (1, .inr (.inr (some (q)))), (2, .inl ((u.length : Int))), (3, .inl (i)), (4, .inl (kind)), (5, .inl (loc))] rfl ⟨rfl, rfl, rfl, rfl, rfl, rfl, rfl, rfl, rfl, trivial⟩ ?_
            exact ih (k + 1) (some (z7)) (some s7) (by omega) (by omega) (by omega) ho (fun r hr => hs r (by first | (rw [dr, spl_n (fun w => by have w := cq.mpr w; omega)]; exact hr) | (rw [dr, spl_y cy]; exact psr_f (by omega) hr) | (rw [dr, spl_y cy]; exact psr_x (by omega) hah (fun t e => by cases e; omega) hr)))

theorem rd_mcr0 {z : Nat} {m : List Int}  (hI : mI τ h Ls b) (tz : τ z = 13) (tz1 : τ (z + 1) = 15) (tz2 : τ (z + 2) = 16) (mr : mrw h (z + 1) (z + 2) 0 m) (pm : ptl m) (m18 : m.length ≤ 18) (hr1 : h.1 + 1 ≤ 600192) (hr2 : h.2.1 + 6 ≤ 7302232) (k1 : l.length + m.length ≤ 2000 → ∀ g, ez_B τ g → nk τ h τ g → g.1 = h.1 ∧ g.2.1 = h.2.1 → tm g (l ++ m) → Q (.inl none, g)) (k0 : 2000 < l.length + m.length → ∀ g, ez_B τ g → nk τ h τ g → g.1 = h.1 ∧ g.2.1 = h.2.1 → Q (.inr g.1, xc g 0)) : ∀ (n : Nat) (j : Int) (g : cz_H), n = ((m.length : Int) - j).toNat → 0 ≤ j → j ≤ (m.length : Int) → ez_B τ g → nk τ h τ g → g.1 = h.1 ∧ g.2.1 = h.2.1 → tm g (l ++ m.take j.toNat) → ez_W (d + 7) cm_230 190 [(9, .inl (j)), (8, .inl (0)), (7, .inr (.inr (some (z)))), (0, .inr (.inr (some (770))))] [] g Q := by
  have hB := hI.1
  have hX := hI.2.1
  have t770 : τ 770 = 75 := hX 770 (by decide)
  intro n
  induction n with
  | zero =>
    intro j g hn0 j0 j1 hBg hk hrm ag
    have mg := hk.mrwx hB hX tz tz1 tz2 mr
    have npo : pn g ≤ qz_N g (po g) := (hk.mIx hI hBg).2.2.1.1.2
    refine ez_go (n := 2) (pc' := 194) (L' := [(9, .inl (j)), (8, .inl (0)), (7, .inr (.inr (some (z)))), (0, .inr (.inr (some (770))))]) (st' := [.inr (.inr (some (z))), .inl (j)]) rfl ?_
    refine ez_gR hBg tz rfl rfl tq_13 rfl rfl (fun (t1 : _ = 16) (t1' : 1 ≤ qz_I g z 8) => ?_)
    rw [show qz_P g z 8 = z + 2 from (ez_l78 hBg tz).2]
    refine ez_go (n := 1) (pc' := 199) (L' := [(9, .inl (j)), (8, .inl (0)), (7, .inr (.inr (some (z)))), (0, .inr (.inr (some (770))))]) (st' := [.inl (0), .inr (.inr (some (z + 2))), .inl (j)]) rfl ?_
    have n3 : 3 ≤ qz_N g (z + 2) ∧ qz_N g (z + 2) ≤ 3 := ez_len hBg tz2 tq_16 rfl
    refine ez_aI hBg tz2 rfl tq_16 rfl rfl (by omega) (by omega) (fun (b2 : 0 ≤ qz_I g (z + 2) (0 : Int).toNat) (b2' : qz_I g (z + 2) (0 : Int).toNat ≤ 18) => ?_)
    rw [show qz_I g (z + 2) (0 : Int).toNat = (m.length : Int) from by first | exact mg.1 | (rw [ez_K8]; exact mg.1)]
    refine ez_icmp rfl rfl ⟨by first | omega | exact (sz_i32 _).1, by first | omega | exact (sz_i32 _).2⟩ ⟨by first | omega | exact (sz_i32 _).1, by first | omega | exact (sz_i32 _).2⟩ (fun (c4 : ((m.length : Int)) ≤ (j)) => ?_) (fun (c4 : ¬(((m.length : Int)) ≤ (j))) => ?_)
    · skip
      have ej : j = (m.length : Int) := by omega
      rw [show j.toNat = m.length by omega, List.take_length] at ag
      exact ez_ret0 rfl rfl (k1 (by have := ag.1; rw [List.length_append] at this; have : 0 ≤ qz_I g 770 30 ∧ qz_I g 770 30 ≤ 2000 := ez_fB (cl := 11) (k := 30) hBg t770 tq_75 rfl rfl (by decide); omega) g hBg hk hrm ag)
    · skip
      refine ez_go (n := 2) (pc' := 205) (L' := [(9, .inl (j)), (8, .inl (0)), (7, .inr (.inr (some (z)))), (0, .inr (.inr (some (770))))]) (st' := [.inr (.inr (some (770))), .inr (.inr (some (770)))]) rfl ?_
      refine ez_gR hBg t770 rfl rfl tq_75 rfl rfl (fun (t5 : _ = 17) (t5' : 1 ≤ qz_I g 770 9) => ?_)
      rw [show qz_P g 770 9 = po g from rfl]
      refine ez_go (n := 1) (pc' := 210) (L' := [(9, .inl (j)), (8, .inl (0)), (7, .inr (.inr (some (z)))), (0, .inr (.inr (some (770))))]) (st' := [.inr (.inr (some (z))), .inr (.inr (some (po g))), .inr (.inr (some (770)))]) rfl ?_
      refine ez_gR hBg tz rfl rfl tq_13 rfl rfl (fun (t6 : _ = 15) (t6' : 1 ≤ qz_I g z 7) => ?_)
      rw [show qz_P g z 7 = z + 1 from (ez_l78 hBg tz).1]
      refine ez_go (n := 1) (pc' := 215) (L' := [(9, .inl (j)), (8, .inl (0)), (7, .inr (.inr (some (z)))), (0, .inr (.inr (some (770))))]) (st' := [.inl (0), .inr (.inr (some (z + 1))), .inr (.inr (some (po g))), .inr (.inr (some (770)))]) rfl ?_
      have n8 : 3 ≤ qz_N g (z + 1) ∧ qz_N g (z + 1) ≤ 3 := ez_len hBg tz1 tq_15 rfl
      refine ez_aI hBg tz1 rfl tq_15 rfl rfl (by omega) (by omega) (fun (b7 : 0 ≤ qz_I g (z + 1) (0 : Int).toNat) (b7' : qz_I g (z + 1) (0 : Int).toNat ≤ 38500) => ?_)
      have m2 := mg.2.1; have m3 := mg.2.2.1
      have z9 : qz_I g (z + 1) (0 : Int).toNat = qz_I g (z + 1) 0 := rfl
      have l9 : j.toNat < m.length := by omega
      have hv := List.getElem?_eq_getElem l9
      refine ez_go (n := 2) (pc' := 219) (L' := [(9, .inl (j)), (8, .inl (0)), (7, .inr (.inr (some (z)))), (0, .inr (.inr (some (770))))]) (st' := [.inl ((qz_I g (z + 1) (0 : Int).toNat) + (j)), .inr (.inr (some (po g))), .inr (.inr (some (770)))]) rfl ?_
      have n10 : 1024 ≤ qz_N g (po g) ∧ qz_N g (po g) ≤ 77100 := ez_len hBg (ez_tls hBg t770).2 tq_17 rfl
      refine ez_aI hBg (ez_tls hBg t770).2 rfl tq_17 rfl rfl (by omega) (by omega) (fun (b9 : -2147483648 ≤ qz_I g (po g) ((qz_I g (z + 1) (0 : Int).toNat) + (j)).toNat) (b9' : qz_I g (po g) ((qz_I g (z + 1) (0 : Int).toNat) + (j)).toNat ≤ 2147483647) => ?_)
      have ev := mg.2.2.2 _ _ hv
      have vr : ez_rg m[j.toNat] := ptl_rg pm _ _ hv
      rw [show qz_I g (po g) ((qz_I g (z + 1) (0 : Int).toNat) + (j)).toNat = m[j.toNat] from by unfold pl at ev; rw [show ((j.toNat : Nat) : Int) = j by omega] at ev; exact ev]
      refine ez_cv hBg t770 rfl rfl rfl tq_75 rfl rfl rfl (rd_make hBg t770 ag vr (by omega) (by omega) (fun lt g2 hB2 f2 i2 a2 => ez_K0 ?_) (fun ge => ez_Kp (xc_exc hBg rfl) rfl (k0 (by rw [List.length_append, List.length_take] at ge; omega) g hBg hk hrm)))
      have nk2 := hk.trans (nk.fr hBg t770 hX f2 (fun q9 hq9 => by unfold nz_PL at hq9; rcases Bool.or_eq_true_iff.mp hq9 with w | w; (· exact Or.inl (Nat.eq_of_beq_eq_true w)); (· exact Or.inr (Or.inl (Nat.eq_of_beq_eq_true w)))) i2)
      have rm2 : g2.1 = h.1 ∧ g2.2.1 = h.2.1 := ⟨f2.1.trans hrm.1, f2.2.1.trans hrm.2⟩
      refine ez_go (n := 2) (pc' := 190) (L' := [(9, .inl (j + 1)), (8, .inl (0)), (7, .inr (.inr (some (z)))), (0, .inr (.inr (some (770))))]) (st' := []) rfl ?_
      exfalso; omega
  | succ n ih =>
    intro j g hn0 j0 j1 hBg hk hrm ag
    have mg := hk.mrwx hB hX tz tz1 tz2 mr
    have npo : pn g ≤ qz_N g (po g) := (hk.mIx hI hBg).2.2.1.1.2
    refine ez_go (n := 2) (pc' := 194) (L' := [(9, .inl (j)), (8, .inl (0)), (7, .inr (.inr (some (z)))), (0, .inr (.inr (some (770))))]) (st' := [.inr (.inr (some (z))), .inl (j)]) rfl ?_
    refine ez_gR hBg tz rfl rfl tq_13 rfl rfl (fun (t1 : _ = 16) (t1' : 1 ≤ qz_I g z 8) => ?_)
    rw [show qz_P g z 8 = z + 2 from (ez_l78 hBg tz).2]
    refine ez_go (n := 1) (pc' := 199) (L' := [(9, .inl (j)), (8, .inl (0)), (7, .inr (.inr (some (z)))), (0, .inr (.inr (some (770))))]) (st' := [.inl (0), .inr (.inr (some (z + 2))), .inl (j)]) rfl ?_
    have n3 : 3 ≤ qz_N g (z + 2) ∧ qz_N g (z + 2) ≤ 3 := ez_len hBg tz2 tq_16 rfl
    refine ez_aI hBg tz2 rfl tq_16 rfl rfl (by omega) (by omega) (fun (b2 : 0 ≤ qz_I g (z + 2) (0 : Int).toNat) (b2' : qz_I g (z + 2) (0 : Int).toNat ≤ 18) => ?_)
    rw [show qz_I g (z + 2) (0 : Int).toNat = (m.length : Int) from by first | exact mg.1 | (rw [ez_K8]; exact mg.1)]
    refine ez_icmp rfl rfl ⟨by first | omega | exact (sz_i32 _).1, by first | omega | exact (sz_i32 _).2⟩ ⟨by first | omega | exact (sz_i32 _).1, by first | omega | exact (sz_i32 _).2⟩ (fun (c4 : ((m.length : Int)) ≤ (j)) => ?_) (fun (c4 : ¬(((m.length : Int)) ≤ (j))) => ?_)
    · skip
      have ej : j = (m.length : Int) := by omega
      rw [show j.toNat = m.length by omega, List.take_length] at ag
      exact ez_ret0 rfl rfl (k1 (by have := ag.1; rw [List.length_append] at this; have : 0 ≤ qz_I g 770 30 ∧ qz_I g 770 30 ≤ 2000 := ez_fB (cl := 11) (k := 30) hBg t770 tq_75 rfl rfl (by decide); omega) g hBg hk hrm ag)
    · skip
      refine ez_go (n := 2) (pc' := 205) (L' := [(9, .inl (j)), (8, .inl (0)), (7, .inr (.inr (some (z)))), (0, .inr (.inr (some (770))))]) (st' := [.inr (.inr (some (770))), .inr (.inr (some (770)))]) rfl ?_
      refine ez_gR hBg t770 rfl rfl tq_75 rfl rfl (fun (t5 : _ = 17) (t5' : 1 ≤ qz_I g 770 9) => ?_)
      rw [show qz_P g 770 9 = po g from rfl]
      refine ez_go (n := 1) (pc' := 210) (L' := [(9, .inl (j)), (8, .inl (0)), (7, .inr (.inr (some (z)))), (0, .inr (.inr (some (770))))]) (st' := [.inr (.inr (some (z))), .inr (.inr (some (po g))), .inr (.inr (some (770)))]) rfl ?_
      refine ez_gR hBg tz rfl rfl tq_13 rfl rfl (fun (t6 : _ = 15) (t6' : 1 ≤ qz_I g z 7) => ?_)
      rw [show qz_P g z 7 = z + 1 from (ez_l78 hBg tz).1]
      refine ez_go (n := 1) (pc' := 215) (L' := [(9, .inl (j)), (8, .inl (0)), (7, .inr (.inr (some (z)))), (0, .inr (.inr (some (770))))]) (st' := [.inl (0), .inr (.inr (some (z + 1))), .inr (.inr (some (po g))), .inr (.inr (some (770)))]) rfl ?_
      have n8 : 3 ≤ qz_N g (z + 1) ∧ qz_N g (z + 1) ≤ 3 := ez_len hBg tz1 tq_15 rfl
      refine ez_aI hBg tz1 rfl tq_15 rfl rfl (by omega) (by omega) (fun (b7 : 0 ≤ qz_I g (z + 1) (0 : Int).toNat) (b7' : qz_I g (z + 1) (0 : Int).toNat ≤ 38500) => ?_)
      have m2 := mg.2.1; have m3 := mg.2.2.1
      have z9 : qz_I g (z + 1) (0 : Int).toNat = qz_I g (z + 1) 0 := rfl
      have l9 : j.toNat < m.length := by omega
      have hv := List.getElem?_eq_getElem l9
      refine ez_go (n := 2) (pc' := 219) (L' := [(9, .inl (j)), (8, .inl (0)), (7, .inr (.inr (some (z)))), (0, .inr (.inr (some (770))))]) (st' := [.inl ((qz_I g (z + 1) (0 : Int).toNat) + (j)), .inr (.inr (some (po g))), .inr (.inr (some (770)))]) rfl ?_
      have n10 : 1024 ≤ qz_N g (po g) ∧ qz_N g (po g) ≤ 77100 := ez_len hBg (ez_tls hBg t770).2 tq_17 rfl
      refine ez_aI hBg (ez_tls hBg t770).2 rfl tq_17 rfl rfl (by omega) (by omega) (fun (b9 : -2147483648 ≤ qz_I g (po g) ((qz_I g (z + 1) (0 : Int).toNat) + (j)).toNat) (b9' : qz_I g (po g) ((qz_I g (z + 1) (0 : Int).toNat) + (j)).toNat ≤ 2147483647) => ?_)
      have ev := mg.2.2.2 _ _ hv
      have vr : ez_rg m[j.toNat] := ptl_rg pm _ _ hv
      rw [show qz_I g (po g) ((qz_I g (z + 1) (0 : Int).toNat) + (j)).toNat = m[j.toNat] from by unfold pl at ev; rw [show ((j.toNat : Nat) : Int) = j by omega] at ev; exact ev]
      refine ez_cv hBg t770 rfl rfl rfl tq_75 rfl rfl rfl (rd_make hBg t770 ag vr (by omega) (by omega) (fun lt g2 hB2 f2 i2 a2 => ez_K0 ?_) (fun ge => ez_Kp (xc_exc hBg rfl) rfl (k0 (by rw [List.length_append, List.length_take] at ge; omega) g hBg hk hrm)))
      have nk2 := hk.trans (nk.fr hBg t770 hX f2 (fun q9 hq9 => by unfold nz_PL at hq9; rcases Bool.or_eq_true_iff.mp hq9 with w | w; (· exact Or.inl (Nat.eq_of_beq_eq_true w)); (· exact Or.inr (Or.inl (Nat.eq_of_beq_eq_true w)))) i2)
      have rm2 : g2.1 = h.1 ∧ g2.2.1 = h.2.1 := ⟨f2.1.trans hrm.1, f2.2.1.trans hrm.2⟩
      refine ez_go (n := 2) (pc' := 190) (L' := [(9, .inl (j + 1)), (8, .inl (0)), (7, .inr (.inr (some (z)))), (0, .inr (.inr (some (770))))]) (st' := []) rfl ?_
      refine ez_less [(9, .inl (j + 1)), (8, .inl (0)), (7, .inr (.inr (some (z)))), (0, .inr (.inr (some (770))))] rfl ⟨rfl, rfl, rfl, rfl, trivial⟩ ?_
      refine ih (j + 1) g2 (by omega) (by omega) (by omega) hB2 nk2 rm2 ?_
      rw [show (j + 1).toNat = j.toNat + 1 by omega, List.take_succ, hv, Option.toList_some, ← List.append_assoc]; exact a2

theorem rd_mcr1 {z : Nat} {m : List Int}  (hI : mI τ h Ls b) (tz : τ z = 13) (tz1 : τ (z + 1) = 15) (tz2 : τ (z + 2) = 16) (mr : mrw h (z + 1) (z + 2) 1 m) (pm : ptl m) (m18 : m.length ≤ 18) (hr1 : h.1 + 1 ≤ 600192) (hr2 : h.2.1 + 6 ≤ 7302232) (k1 : l.length + m.length ≤ 2000 → ∀ g, ez_B τ g → nk τ h τ g → g.1 = h.1 ∧ g.2.1 = h.2.1 → tm g (l ++ m) → Q (.inl none, g)) (k0 : 2000 < l.length + m.length → ∀ g, ez_B τ g → nk τ h τ g → g.1 = h.1 ∧ g.2.1 = h.2.1 → Q (.inr g.1, xc g 0)) : ∀ (n : Nat) (j : Int) (g : cz_H), n = ((m.length : Int) - j).toNat → 0 ≤ j → j ≤ (m.length : Int) → ez_B τ g → nk τ h τ g → g.1 = h.1 ∧ g.2.1 = h.2.1 → tm g (l ++ m.take j.toNat) → ez_W (d + 7) cm_230 190 [(9, .inl (j)), (8, .inl (1)), (7, .inr (.inr (some (z)))), (0, .inr (.inr (some (770))))] [] g Q := by
  have hB := hI.1
  have hX := hI.2.1
  have t770 : τ 770 = 75 := hX 770 (by decide)
  intro n
  induction n with
  | zero =>
    intro j g hn0 j0 j1 hBg hk hrm ag
    have mg := hk.mrwx hB hX tz tz1 tz2 mr
    have npo : pn g ≤ qz_N g (po g) := (hk.mIx hI hBg).2.2.1.1.2
    refine ez_go (n := 2) (pc' := 194) (L' := [(9, .inl (j)), (8, .inl (1)), (7, .inr (.inr (some (z)))), (0, .inr (.inr (some (770))))]) (st' := [.inr (.inr (some (z))), .inl (j)]) rfl ?_
    refine ez_gR hBg tz rfl rfl tq_13 rfl rfl (fun (t1 : _ = 16) (t1' : 1 ≤ qz_I g z 8) => ?_)
    rw [show qz_P g z 8 = z + 2 from (ez_l78 hBg tz).2]
    refine ez_go (n := 1) (pc' := 199) (L' := [(9, .inl (j)), (8, .inl (1)), (7, .inr (.inr (some (z)))), (0, .inr (.inr (some (770))))]) (st' := [.inl (1), .inr (.inr (some (z + 2))), .inl (j)]) rfl ?_
    have n3 : 3 ≤ qz_N g (z + 2) ∧ qz_N g (z + 2) ≤ 3 := ez_len hBg tz2 tq_16 rfl
    refine ez_aI hBg tz2 rfl tq_16 rfl rfl (by omega) (by omega) (fun (b2 : 0 ≤ qz_I g (z + 2) (1 : Int).toNat) (b2' : qz_I g (z + 2) (1 : Int).toNat ≤ 18) => ?_)
    rw [show qz_I g (z + 2) (1 : Int).toNat = (m.length : Int) from by first | exact mg.1 | (rw [ez_K8]; exact mg.1)]
    refine ez_icmp rfl rfl ⟨by first | omega | exact (sz_i32 _).1, by first | omega | exact (sz_i32 _).2⟩ ⟨by first | omega | exact (sz_i32 _).1, by first | omega | exact (sz_i32 _).2⟩ (fun (c4 : ((m.length : Int)) ≤ (j)) => ?_) (fun (c4 : ¬(((m.length : Int)) ≤ (j))) => ?_)
    · skip
      have ej : j = (m.length : Int) := by omega
      rw [show j.toNat = m.length by omega, List.take_length] at ag
      exact ez_ret0 rfl rfl (k1 (by have := ag.1; rw [List.length_append] at this; have : 0 ≤ qz_I g 770 30 ∧ qz_I g 770 30 ≤ 2000 := ez_fB (cl := 11) (k := 30) hBg t770 tq_75 rfl rfl (by decide); omega) g hBg hk hrm ag)
    · skip
      refine ez_go (n := 2) (pc' := 205) (L' := [(9, .inl (j)), (8, .inl (1)), (7, .inr (.inr (some (z)))), (0, .inr (.inr (some (770))))]) (st' := [.inr (.inr (some (770))), .inr (.inr (some (770)))]) rfl ?_
      refine ez_gR hBg t770 rfl rfl tq_75 rfl rfl (fun (t5 : _ = 17) (t5' : 1 ≤ qz_I g 770 9) => ?_)
      rw [show qz_P g 770 9 = po g from rfl]
      refine ez_go (n := 1) (pc' := 210) (L' := [(9, .inl (j)), (8, .inl (1)), (7, .inr (.inr (some (z)))), (0, .inr (.inr (some (770))))]) (st' := [.inr (.inr (some (z))), .inr (.inr (some (po g))), .inr (.inr (some (770)))]) rfl ?_
      refine ez_gR hBg tz rfl rfl tq_13 rfl rfl (fun (t6 : _ = 15) (t6' : 1 ≤ qz_I g z 7) => ?_)
      rw [show qz_P g z 7 = z + 1 from (ez_l78 hBg tz).1]
      refine ez_go (n := 1) (pc' := 215) (L' := [(9, .inl (j)), (8, .inl (1)), (7, .inr (.inr (some (z)))), (0, .inr (.inr (some (770))))]) (st' := [.inl (1), .inr (.inr (some (z + 1))), .inr (.inr (some (po g))), .inr (.inr (some (770)))]) rfl ?_
      have n8 : 3 ≤ qz_N g (z + 1) ∧ qz_N g (z + 1) ≤ 3 := ez_len hBg tz1 tq_15 rfl
      refine ez_aI hBg tz1 rfl tq_15 rfl rfl (by omega) (by omega) (fun (b7 : 0 ≤ qz_I g (z + 1) (1 : Int).toNat) (b7' : qz_I g (z + 1) (1 : Int).toNat ≤ 38500) => ?_)
      have m2 := mg.2.1; have m3 := mg.2.2.1
      have z9 : qz_I g (z + 1) (1 : Int).toNat = qz_I g (z + 1) 1 := rfl
      have l9 : j.toNat < m.length := by omega
      have hv := List.getElem?_eq_getElem l9
      refine ez_go (n := 2) (pc' := 219) (L' := [(9, .inl (j)), (8, .inl (1)), (7, .inr (.inr (some (z)))), (0, .inr (.inr (some (770))))]) (st' := [.inl ((qz_I g (z + 1) (1 : Int).toNat) + (j)), .inr (.inr (some (po g))), .inr (.inr (some (770)))]) rfl ?_
      have n10 : 1024 ≤ qz_N g (po g) ∧ qz_N g (po g) ≤ 77100 := ez_len hBg (ez_tls hBg t770).2 tq_17 rfl
      refine ez_aI hBg (ez_tls hBg t770).2 rfl tq_17 rfl rfl (by omega) (by omega) (fun (b9 : -2147483648 ≤ qz_I g (po g) ((qz_I g (z + 1) (1 : Int).toNat) + (j)).toNat) (b9' : qz_I g (po g) ((qz_I g (z + 1) (1 : Int).toNat) + (j)).toNat ≤ 2147483647) => ?_)
      have ev := mg.2.2.2 _ _ hv
      have vr : ez_rg m[j.toNat] := ptl_rg pm _ _ hv
      rw [show qz_I g (po g) ((qz_I g (z + 1) (1 : Int).toNat) + (j)).toNat = m[j.toNat] from by unfold pl at ev; rw [show ((j.toNat : Nat) : Int) = j by omega] at ev; exact ev]
      refine ez_cv hBg t770 rfl rfl rfl tq_75 rfl rfl rfl (rd_make hBg t770 ag vr (by omega) (by omega) (fun lt g2 hB2 f2 i2 a2 => ez_K0 ?_) (fun ge => ez_Kp (xc_exc hBg rfl) rfl (k0 (by rw [List.length_append, List.length_take] at ge; omega) g hBg hk hrm)))
      have nk2 := hk.trans (nk.fr hBg t770 hX f2 (fun q9 hq9 => by unfold nz_PL at hq9; rcases Bool.or_eq_true_iff.mp hq9 with w | w; (· exact Or.inl (Nat.eq_of_beq_eq_true w)); (· exact Or.inr (Or.inl (Nat.eq_of_beq_eq_true w)))) i2)
      have rm2 : g2.1 = h.1 ∧ g2.2.1 = h.2.1 := ⟨f2.1.trans hrm.1, f2.2.1.trans hrm.2⟩
      refine ez_go (n := 2) (pc' := 190) (L' := [(9, .inl (j + 1)), (8, .inl (1)), (7, .inr (.inr (some (z)))), (0, .inr (.inr (some (770))))]) (st' := []) rfl ?_
      exfalso; omega
  | succ n ih =>
    intro j g hn0 j0 j1 hBg hk hrm ag
    have mg := hk.mrwx hB hX tz tz1 tz2 mr
    have npo : pn g ≤ qz_N g (po g) := (hk.mIx hI hBg).2.2.1.1.2
    refine ez_go (n := 2) (pc' := 194) (L' := [(9, .inl (j)), (8, .inl (1)), (7, .inr (.inr (some (z)))), (0, .inr (.inr (some (770))))]) (st' := [.inr (.inr (some (z))), .inl (j)]) rfl ?_
    refine ez_gR hBg tz rfl rfl tq_13 rfl rfl (fun (t1 : _ = 16) (t1' : 1 ≤ qz_I g z 8) => ?_)
    rw [show qz_P g z 8 = z + 2 from (ez_l78 hBg tz).2]
    refine ez_go (n := 1) (pc' := 199) (L' := [(9, .inl (j)), (8, .inl (1)), (7, .inr (.inr (some (z)))), (0, .inr (.inr (some (770))))]) (st' := [.inl (1), .inr (.inr (some (z + 2))), .inl (j)]) rfl ?_
    have n3 : 3 ≤ qz_N g (z + 2) ∧ qz_N g (z + 2) ≤ 3 := ez_len hBg tz2 tq_16 rfl
    refine ez_aI hBg tz2 rfl tq_16 rfl rfl (by omega) (by omega) (fun (b2 : 0 ≤ qz_I g (z + 2) (1 : Int).toNat) (b2' : qz_I g (z + 2) (1 : Int).toNat ≤ 18) => ?_)
    rw [show qz_I g (z + 2) (1 : Int).toNat = (m.length : Int) from by first | exact mg.1 | (rw [ez_K8]; exact mg.1)]
    refine ez_icmp rfl rfl ⟨by first | omega | exact (sz_i32 _).1, by first | omega | exact (sz_i32 _).2⟩ ⟨by first | omega | exact (sz_i32 _).1, by first | omega | exact (sz_i32 _).2⟩ (fun (c4 : ((m.length : Int)) ≤ (j)) => ?_) (fun (c4 : ¬(((m.length : Int)) ≤ (j))) => ?_)
    · skip
      have ej : j = (m.length : Int) := by omega
      rw [show j.toNat = m.length by omega, List.take_length] at ag
      exact ez_ret0 rfl rfl (k1 (by have := ag.1; rw [List.length_append] at this; have : 0 ≤ qz_I g 770 30 ∧ qz_I g 770 30 ≤ 2000 := ez_fB (cl := 11) (k := 30) hBg t770 tq_75 rfl rfl (by decide); omega) g hBg hk hrm ag)
    · skip
      refine ez_go (n := 2) (pc' := 205) (L' := [(9, .inl (j)), (8, .inl (1)), (7, .inr (.inr (some (z)))), (0, .inr (.inr (some (770))))]) (st' := [.inr (.inr (some (770))), .inr (.inr (some (770)))]) rfl ?_
      refine ez_gR hBg t770 rfl rfl tq_75 rfl rfl (fun (t5 : _ = 17) (t5' : 1 ≤ qz_I g 770 9) => ?_)
      rw [show qz_P g 770 9 = po g from rfl]
      refine ez_go (n := 1) (pc' := 210) (L' := [(9, .inl (j)), (8, .inl (1)), (7, .inr (.inr (some (z)))), (0, .inr (.inr (some (770))))]) (st' := [.inr (.inr (some (z))), .inr (.inr (some (po g))), .inr (.inr (some (770)))]) rfl ?_
      refine ez_gR hBg tz rfl rfl tq_13 rfl rfl (fun (t6 : _ = 15) (t6' : 1 ≤ qz_I g z 7) => ?_)
      rw [show qz_P g z 7 = z + 1 from (ez_l78 hBg tz).1]
      refine ez_go (n := 1) (pc' := 215) (L' := [(9, .inl (j)), (8, .inl (1)), (7, .inr (.inr (some (z)))), (0, .inr (.inr (some (770))))]) (st' := [.inl (1), .inr (.inr (some (z + 1))), .inr (.inr (some (po g))), .inr (.inr (some (770)))]) rfl ?_
      have n8 : 3 ≤ qz_N g (z + 1) ∧ qz_N g (z + 1) ≤ 3 := ez_len hBg tz1 tq_15 rfl
      refine ez_aI hBg tz1 rfl tq_15 rfl rfl (by omega) (by omega) (fun (b7 : 0 ≤ qz_I g (z + 1) (1 : Int).toNat) (b7' : qz_I g (z + 1) (1 : Int).toNat ≤ 38500) => ?_)
      have m2 := mg.2.1; have m3 := mg.2.2.1
      have z9 : qz_I g (z + 1) (1 : Int).toNat = qz_I g (z + 1) 1 := rfl
      have l9 : j.toNat < m.length := by omega
      have hv := List.getElem?_eq_getElem l9
      refine ez_go (n := 2) (pc' := 219) (L' := [(9, .inl (j)), (8, .inl (1)), (7, .inr (.inr (some (z)))), (0, .inr (.inr (some (770))))]) (st' := [.inl ((qz_I g (z + 1) (1 : Int).toNat) + (j)), .inr (.inr (some (po g))), .inr (.inr (some (770)))]) rfl ?_
      have n10 : 1024 ≤ qz_N g (po g) ∧ qz_N g (po g) ≤ 77100 := ez_len hBg (ez_tls hBg t770).2 tq_17 rfl
      refine ez_aI hBg (ez_tls hBg t770).2 rfl tq_17 rfl rfl (by omega) (by omega) (fun (b9 : -2147483648 ≤ qz_I g (po g) ((qz_I g (z + 1) (1 : Int).toNat) + (j)).toNat) (b9' : qz_I g (po g) ((qz_I g (z + 1) (1 : Int).toNat) + (j)).toNat ≤ 2147483647) => ?_)
      have ev := mg.2.2.2 _ _ hv
      have vr : ez_rg m[j.toNat] := ptl_rg pm _ _ hv
      rw [show qz_I g (po g) ((qz_I g (z + 1) (1 : Int).toNat) + (j)).toNat = m[j.toNat] from by unfold pl at ev; rw [show ((j.toNat : Nat) : Int) = j by omega] at ev; exact ev]
      refine ez_cv hBg t770 rfl rfl rfl tq_75 rfl rfl rfl (rd_make hBg t770 ag vr (by omega) (by omega) (fun lt g2 hB2 f2 i2 a2 => ez_K0 ?_) (fun ge => ez_Kp (xc_exc hBg rfl) rfl (k0 (by rw [List.length_append, List.length_take] at ge; omega) g hBg hk hrm)))
      have nk2 := hk.trans (nk.fr hBg t770 hX f2 (fun q9 hq9 => by unfold nz_PL at hq9; rcases Bool.or_eq_true_iff.mp hq9 with w | w; (· exact Or.inl (Nat.eq_of_beq_eq_true w)); (· exact Or.inr (Or.inl (Nat.eq_of_beq_eq_true w)))) i2)
      have rm2 : g2.1 = h.1 ∧ g2.2.1 = h.2.1 := ⟨f2.1.trans hrm.1, f2.2.1.trans hrm.2⟩
      refine ez_go (n := 2) (pc' := 190) (L' := [(9, .inl (j + 1)), (8, .inl (1)), (7, .inr (.inr (some (z)))), (0, .inr (.inr (some (770))))]) (st' := []) rfl ?_
      refine ez_less [(9, .inl (j + 1)), (8, .inl (1)), (7, .inr (.inr (some (z)))), (0, .inr (.inr (some (770))))] rfl ⟨rfl, rfl, rfl, rfl, trivial⟩ ?_
      refine ih (j + 1) g2 (by omega) (by omega) (by omega) hB2 nk2 rm2 ?_
      rw [show (j + 1).toNat = j.toNat + 1 by omega, List.take_succ, hv, Option.toList_some, ← List.append_assoc]; exact a2

theorem rd_mcr2 {z : Nat} {m : List Int}  (hI : mI τ h Ls b) (tz : τ z = 13) (tz1 : τ (z + 1) = 15) (tz2 : τ (z + 2) = 16) (mr : mrw h (z + 1) (z + 2) 2 m) (pm : ptl m) (m18 : m.length ≤ 18) (hr1 : h.1 + 1 ≤ 600192) (hr2 : h.2.1 + 6 ≤ 7302232) (k1 : l.length + m.length ≤ 2000 → ∀ g, ez_B τ g → nk τ h τ g → g.1 = h.1 ∧ g.2.1 = h.2.1 → tm g (l ++ m) → Q (.inl none, g)) (k0 : 2000 < l.length + m.length → ∀ g, ez_B τ g → nk τ h τ g → g.1 = h.1 ∧ g.2.1 = h.2.1 → Q (.inr g.1, xc g 0)) : ∀ (n : Nat) (j : Int) (g : cz_H), n = ((m.length : Int) - j).toNat → 0 ≤ j → j ≤ (m.length : Int) → ez_B τ g → nk τ h τ g → g.1 = h.1 ∧ g.2.1 = h.2.1 → tm g (l ++ m.take j.toNat) → ez_W (d + 7) cm_230 190 [(9, .inl (j)), (8, .inl (2)), (7, .inr (.inr (some (z)))), (0, .inr (.inr (some (770))))] [] g Q := by
  have hB := hI.1
  have hX := hI.2.1
  have t770 : τ 770 = 75 := hX 770 (by decide)
  intro n
  induction n with
  | zero =>
    intro j g hn0 j0 j1 hBg hk hrm ag
    have mg := hk.mrwx hB hX tz tz1 tz2 mr
    have npo : pn g ≤ qz_N g (po g) := (hk.mIx hI hBg).2.2.1.1.2
    refine ez_go (n := 2) (pc' := 194) (L' := [(9, .inl (j)), (8, .inl (2)), (7, .inr (.inr (some (z)))), (0, .inr (.inr (some (770))))]) (st' := [.inr (.inr (some (z))), .inl (j)]) rfl ?_
    refine ez_gR hBg tz rfl rfl tq_13 rfl rfl (fun (t1 : _ = 16) (t1' : 1 ≤ qz_I g z 8) => ?_)
    rw [show qz_P g z 8 = z + 2 from (ez_l78 hBg tz).2]
    refine ez_go (n := 1) (pc' := 199) (L' := [(9, .inl (j)), (8, .inl (2)), (7, .inr (.inr (some (z)))), (0, .inr (.inr (some (770))))]) (st' := [.inl (2), .inr (.inr (some (z + 2))), .inl (j)]) rfl ?_
    have n3 : 3 ≤ qz_N g (z + 2) ∧ qz_N g (z + 2) ≤ 3 := ez_len hBg tz2 tq_16 rfl
    refine ez_aI hBg tz2 rfl tq_16 rfl rfl (by omega) (by omega) (fun (b2 : 0 ≤ qz_I g (z + 2) (2 : Int).toNat) (b2' : qz_I g (z + 2) (2 : Int).toNat ≤ 18) => ?_)
    rw [show qz_I g (z + 2) (2 : Int).toNat = (m.length : Int) from by first | exact mg.1 | (rw [ez_K8]; exact mg.1)]
    refine ez_icmp rfl rfl ⟨by first | omega | exact (sz_i32 _).1, by first | omega | exact (sz_i32 _).2⟩ ⟨by first | omega | exact (sz_i32 _).1, by first | omega | exact (sz_i32 _).2⟩ (fun (c4 : ((m.length : Int)) ≤ (j)) => ?_) (fun (c4 : ¬(((m.length : Int)) ≤ (j))) => ?_)
    · skip
      have ej : j = (m.length : Int) := by omega
      rw [show j.toNat = m.length by omega, List.take_length] at ag
      exact ez_ret0 rfl rfl (k1 (by have := ag.1; rw [List.length_append] at this; have : 0 ≤ qz_I g 770 30 ∧ qz_I g 770 30 ≤ 2000 := ez_fB (cl := 11) (k := 30) hBg t770 tq_75 rfl rfl (by decide); omega) g hBg hk hrm ag)
    · skip
      refine ez_go (n := 2) (pc' := 205) (L' := [(9, .inl (j)), (8, .inl (2)), (7, .inr (.inr (some (z)))), (0, .inr (.inr (some (770))))]) (st' := [.inr (.inr (some (770))), .inr (.inr (some (770)))]) rfl ?_
      refine ez_gR hBg t770 rfl rfl tq_75 rfl rfl (fun (t5 : _ = 17) (t5' : 1 ≤ qz_I g 770 9) => ?_)
      rw [show qz_P g 770 9 = po g from rfl]
      refine ez_go (n := 1) (pc' := 210) (L' := [(9, .inl (j)), (8, .inl (2)), (7, .inr (.inr (some (z)))), (0, .inr (.inr (some (770))))]) (st' := [.inr (.inr (some (z))), .inr (.inr (some (po g))), .inr (.inr (some (770)))]) rfl ?_
      refine ez_gR hBg tz rfl rfl tq_13 rfl rfl (fun (t6 : _ = 15) (t6' : 1 ≤ qz_I g z 7) => ?_)
      rw [show qz_P g z 7 = z + 1 from (ez_l78 hBg tz).1]
      refine ez_go (n := 1) (pc' := 215) (L' := [(9, .inl (j)), (8, .inl (2)), (7, .inr (.inr (some (z)))), (0, .inr (.inr (some (770))))]) (st' := [.inl (2), .inr (.inr (some (z + 1))), .inr (.inr (some (po g))), .inr (.inr (some (770)))]) rfl ?_
      have n8 : 3 ≤ qz_N g (z + 1) ∧ qz_N g (z + 1) ≤ 3 := ez_len hBg tz1 tq_15 rfl
      refine ez_aI hBg tz1 rfl tq_15 rfl rfl (by omega) (by omega) (fun (b7 : 0 ≤ qz_I g (z + 1) (2 : Int).toNat) (b7' : qz_I g (z + 1) (2 : Int).toNat ≤ 38500) => ?_)
      have m2 := mg.2.1; have m3 := mg.2.2.1
      have z9 : qz_I g (z + 1) (2 : Int).toNat = qz_I g (z + 1) 2 := rfl
      have l9 : j.toNat < m.length := by omega
      have hv := List.getElem?_eq_getElem l9
      refine ez_go (n := 2) (pc' := 219) (L' := [(9, .inl (j)), (8, .inl (2)), (7, .inr (.inr (some (z)))), (0, .inr (.inr (some (770))))]) (st' := [.inl ((qz_I g (z + 1) (2 : Int).toNat) + (j)), .inr (.inr (some (po g))), .inr (.inr (some (770)))]) rfl ?_
      have n10 : 1024 ≤ qz_N g (po g) ∧ qz_N g (po g) ≤ 77100 := ez_len hBg (ez_tls hBg t770).2 tq_17 rfl
      refine ez_aI hBg (ez_tls hBg t770).2 rfl tq_17 rfl rfl (by omega) (by omega) (fun (b9 : -2147483648 ≤ qz_I g (po g) ((qz_I g (z + 1) (2 : Int).toNat) + (j)).toNat) (b9' : qz_I g (po g) ((qz_I g (z + 1) (2 : Int).toNat) + (j)).toNat ≤ 2147483647) => ?_)
      have ev := mg.2.2.2 _ _ hv
      have vr : ez_rg m[j.toNat] := ptl_rg pm _ _ hv
      rw [show qz_I g (po g) ((qz_I g (z + 1) (2 : Int).toNat) + (j)).toNat = m[j.toNat] from by unfold pl at ev; rw [show ((j.toNat : Nat) : Int) = j by omega] at ev; exact ev]
      refine ez_cv hBg t770 rfl rfl rfl tq_75 rfl rfl rfl (rd_make hBg t770 ag vr (by omega) (by omega) (fun lt g2 hB2 f2 i2 a2 => ez_K0 ?_) (fun ge => ez_Kp (xc_exc hBg rfl) rfl (k0 (by rw [List.length_append, List.length_take] at ge; omega) g hBg hk hrm)))
      have nk2 := hk.trans (nk.fr hBg t770 hX f2 (fun q9 hq9 => by unfold nz_PL at hq9; rcases Bool.or_eq_true_iff.mp hq9 with w | w; (· exact Or.inl (Nat.eq_of_beq_eq_true w)); (· exact Or.inr (Or.inl (Nat.eq_of_beq_eq_true w)))) i2)
      have rm2 : g2.1 = h.1 ∧ g2.2.1 = h.2.1 := ⟨f2.1.trans hrm.1, f2.2.1.trans hrm.2⟩
      refine ez_go (n := 2) (pc' := 190) (L' := [(9, .inl (j + 1)), (8, .inl (2)), (7, .inr (.inr (some (z)))), (0, .inr (.inr (some (770))))]) (st' := []) rfl ?_
      exfalso; omega
  | succ n ih =>
    intro j g hn0 j0 j1 hBg hk hrm ag
    have mg := hk.mrwx hB hX tz tz1 tz2 mr
    have npo : pn g ≤ qz_N g (po g) := (hk.mIx hI hBg).2.2.1.1.2
    refine ez_go (n := 2) (pc' := 194) (L' := [(9, .inl (j)), (8, .inl (2)), (7, .inr (.inr (some (z)))), (0, .inr (.inr (some (770))))]) (st' := [.inr (.inr (some (z))), .inl (j)]) rfl ?_
    refine ez_gR hBg tz rfl rfl tq_13 rfl rfl (fun (t1 : _ = 16) (t1' : 1 ≤ qz_I g z 8) => ?_)
    rw [show qz_P g z 8 = z + 2 from (ez_l78 hBg tz).2]
    refine ez_go (n := 1) (pc' := 199) (L' := [(9, .inl (j)), (8, .inl (2)), (7, .inr (.inr (some (z)))), (0, .inr (.inr (some (770))))]) (st' := [.inl (2), .inr (.inr (some (z + 2))), .inl (j)]) rfl ?_
    have n3 : 3 ≤ qz_N g (z + 2) ∧ qz_N g (z + 2) ≤ 3 := ez_len hBg tz2 tq_16 rfl
    refine ez_aI hBg tz2 rfl tq_16 rfl rfl (by omega) (by omega) (fun (b2 : 0 ≤ qz_I g (z + 2) (2 : Int).toNat) (b2' : qz_I g (z + 2) (2 : Int).toNat ≤ 18) => ?_)
    rw [show qz_I g (z + 2) (2 : Int).toNat = (m.length : Int) from by first | exact mg.1 | (rw [ez_K8]; exact mg.1)]
    refine ez_icmp rfl rfl ⟨by first | omega | exact (sz_i32 _).1, by first | omega | exact (sz_i32 _).2⟩ ⟨by first | omega | exact (sz_i32 _).1, by first | omega | exact (sz_i32 _).2⟩ (fun (c4 : ((m.length : Int)) ≤ (j)) => ?_) (fun (c4 : ¬(((m.length : Int)) ≤ (j))) => ?_)
    · skip
      have ej : j = (m.length : Int) := by omega
      rw [show j.toNat = m.length by omega, List.take_length] at ag
      exact ez_ret0 rfl rfl (k1 (by have := ag.1; rw [List.length_append] at this; have : 0 ≤ qz_I g 770 30 ∧ qz_I g 770 30 ≤ 2000 := ez_fB (cl := 11) (k := 30) hBg t770 tq_75 rfl rfl (by decide); omega) g hBg hk hrm ag)
    · skip
      refine ez_go (n := 2) (pc' := 205) (L' := [(9, .inl (j)), (8, .inl (2)), (7, .inr (.inr (some (z)))), (0, .inr (.inr (some (770))))]) (st' := [.inr (.inr (some (770))), .inr (.inr (some (770)))]) rfl ?_
      refine ez_gR hBg t770 rfl rfl tq_75 rfl rfl (fun (t5 : _ = 17) (t5' : 1 ≤ qz_I g 770 9) => ?_)
      rw [show qz_P g 770 9 = po g from rfl]
      refine ez_go (n := 1) (pc' := 210) (L' := [(9, .inl (j)), (8, .inl (2)), (7, .inr (.inr (some (z)))), (0, .inr (.inr (some (770))))]) (st' := [.inr (.inr (some (z))), .inr (.inr (some (po g))), .inr (.inr (some (770)))]) rfl ?_
      refine ez_gR hBg tz rfl rfl tq_13 rfl rfl (fun (t6 : _ = 15) (t6' : 1 ≤ qz_I g z 7) => ?_)
      rw [show qz_P g z 7 = z + 1 from (ez_l78 hBg tz).1]
      refine ez_go (n := 1) (pc' := 215) (L' := [(9, .inl (j)), (8, .inl (2)), (7, .inr (.inr (some (z)))), (0, .inr (.inr (some (770))))]) (st' := [.inl (2), .inr (.inr (some (z + 1))), .inr (.inr (some (po g))), .inr (.inr (some (770)))]) rfl ?_
      have n8 : 3 ≤ qz_N g (z + 1) ∧ qz_N g (z + 1) ≤ 3 := ez_len hBg tz1 tq_15 rfl
      refine ez_aI hBg tz1 rfl tq_15 rfl rfl (by omega) (by omega) (fun (b7 : 0 ≤ qz_I g (z + 1) (2 : Int).toNat) (b7' : qz_I g (z + 1) (2 : Int).toNat ≤ 38500) => ?_)
      have m2 := mg.2.1; have m3 := mg.2.2.1
      have z9 : qz_I g (z + 1) (2 : Int).toNat = qz_I g (z + 1) 2 := rfl
      have l9 : j.toNat < m.length := by omega
      have hv := List.getElem?_eq_getElem l9
      refine ez_go (n := 2) (pc' := 219) (L' := [(9, .inl (j)), (8, .inl (2)), (7, .inr (.inr (some (z)))), (0, .inr (.inr (some (770))))]) (st' := [.inl ((qz_I g (z + 1) (2 : Int).toNat) + (j)), .inr (.inr (some (po g))), .inr (.inr (some (770)))]) rfl ?_
      have n10 : 1024 ≤ qz_N g (po g) ∧ qz_N g (po g) ≤ 77100 := ez_len hBg (ez_tls hBg t770).2 tq_17 rfl
      refine ez_aI hBg (ez_tls hBg t770).2 rfl tq_17 rfl rfl (by omega) (by omega) (fun (b9 : -2147483648 ≤ qz_I g (po g) ((qz_I g (z + 1) (2 : Int).toNat) + (j)).toNat) (b9' : qz_I g (po g) ((qz_I g (z + 1) (2 : Int).toNat) + (j)).toNat ≤ 2147483647) => ?_)
      have ev := mg.2.2.2 _ _ hv
      have vr : ez_rg m[j.toNat] := ptl_rg pm _ _ hv
      rw [show qz_I g (po g) ((qz_I g (z + 1) (2 : Int).toNat) + (j)).toNat = m[j.toNat] from by unfold pl at ev; rw [show ((j.toNat : Nat) : Int) = j by omega] at ev; exact ev]
      refine ez_cv hBg t770 rfl rfl rfl tq_75 rfl rfl rfl (rd_make hBg t770 ag vr (by omega) (by omega) (fun lt g2 hB2 f2 i2 a2 => ez_K0 ?_) (fun ge => ez_Kp (xc_exc hBg rfl) rfl (k0 (by rw [List.length_append, List.length_take] at ge; omega) g hBg hk hrm)))
      have nk2 := hk.trans (nk.fr hBg t770 hX f2 (fun q9 hq9 => by unfold nz_PL at hq9; rcases Bool.or_eq_true_iff.mp hq9 with w | w; (· exact Or.inl (Nat.eq_of_beq_eq_true w)); (· exact Or.inr (Or.inl (Nat.eq_of_beq_eq_true w)))) i2)
      have rm2 : g2.1 = h.1 ∧ g2.2.1 = h.2.1 := ⟨f2.1.trans hrm.1, f2.2.1.trans hrm.2⟩
      refine ez_go (n := 2) (pc' := 190) (L' := [(9, .inl (j + 1)), (8, .inl (2)), (7, .inr (.inr (some (z)))), (0, .inr (.inr (some (770))))]) (st' := []) rfl ?_
      refine ez_less [(9, .inl (j + 1)), (8, .inl (2)), (7, .inr (.inr (some (z)))), (0, .inr (.inr (some (770))))] rfl ⟨rfl, rfl, rfl, rfl, trivial⟩ ?_
      refine ih (j + 1) g2 (by omega) (by omega) (by omega) hB2 nk2 rm2 ?_
      rw [show (j + 1).toNat = j.toNat + 1 by omega, List.take_succ, hv, Option.toList_some, ← List.append_assoc]; exact a2

theorem rd_mce1 {i kind : Int} (hI : mI τ h Ls b) (mt : mtx τ h q u) (i0 : 0 ≤ i) (i1 : i < (u.length : Int)) (lr : ez_rg loc) (kr : ez_rg kind) (hd : dok (yD Ls)) (kd0 : 0 ≤ kind) (kd2 : kind ≤ 2) (ag : tm h l) (hr1 : h.1 + 1 ≤ 600192) (hr2 : h.2.1 + 6 ≤ 7302232) (k1 : ∀ m, cmR (yD Ls) (vF Ls) u loc kind i m → l.length + m.length ≤ 2000 → ∀ g, ez_B τ g → nk τ h τ g → g.1 = h.1 ∧ g.2.1 = h.2.1 → tm g (l ++ m) → Q (.inl none, g)) (k0 : ∀ m, cmR (yD Ls) (vF Ls) u loc kind i m → 2000 < l.length + m.length → ∀ g, ez_B τ g → nk τ h τ g → g.1 = h.1 ∧ g.2.1 = h.2.1 → Q (.inr g.1, xc g 0)) {z : Nat} {v : vy} {s : spz} {r : Option spz} (sp : spR (fun m => aho (yD Ls) (vF Ls) u loc m i) (yD Ls (uX u i)).2.2.2 none r) (er : r = some s) (tz : τ z = 13) (vz9 : vx h z v) (k9 : v.1.1 = 1) (f9 : v.2.2.2 = s) : ez_W (d + 7) cm_230 160 [(7, .inr (.inr (some (z)))), (6, .inl (uX u i)), (0, .inr (.inr (some (770)))), (1, .inr (.inr (some (q)))), (2, .inl ((u.length : Int))), (3, .inl (i)), (4, .inl (kind)), (5, .inl (loc))] [] h Q := by
  have hB := hI.1
  have t770 : τ 770 = 75 := hI.2.1 770 (by decide)
  have b12 : 0 ≤ qz_I h 770 12 ∧ qz_I h 770 12 ≤ 512 := ez_fB (cl := 11) (k := 12) hB t770 tq_75 rfl rfl (by decide)
  have lce : lc h = qz_I h 770 12 := rfl
  have nls : lc h ≤ qz_N h (ls h) := hI.2.2.1.1.1
  have tq := mt.1
  have n2 := mt.2.1.1
  have pb := uX_ptl mt.2.1.2 (show (i).toNat < u.length by omega)
  have hX := hI.2.1
  have tt : τ (z + 1) = 15 ∧ τ (z + 2) = 16 := ⟨(hI.2.2.2.2.1.2 z tz).1, (hI.2.2.2.2.1.2 z tz).2.1⟩
  obtain ⟨-, -, m0, m1, m2⟩ := vz9.2.2.1 k9
  rw [f9] at m0 m1 m2
  have cm : cmR (yD Ls) (vF Ls) u loc kind i (rowK s kind) := ⟨r, sp, fun s2 e => (by rw [er] at e; cases e; rfl), fun e => (by rw [er] at e; cases e)⟩
  have ro : ptl (rowK s kind) ∧ (rowK s kind).length ≤ 18 := by
    rcases spR_mem sp with w9 | ⟨q, q1, q2⟩
    · rw [er] at w9; cases w9
    · rw [er] at q2; cases q2; exact rowK_ok hd q1
  refine ez_go (n := 1) (pc' := 162) (L' := [(7, .inr (.inr (some (z)))), (6, .inl (uX u i)), (0, .inr (.inr (some (770)))), (1, .inr (.inr (some (q)))), (2, .inl ((u.length : Int))), (3, .inl (i)), (4, .inl (kind)), (5, .inl (loc))]) (st' := [.inr (.inr (some (z)))]) rfl ?_
  refine ez_null1 rfl ?_
  refine ez_go (n := 1) (pc' := 167) (L' := [(7, .inr (.inr (some (z)))), (6, .inl (uX u i)), (0, .inr (.inr (some (770)))), (1, .inr (.inr (some (q)))), (2, .inl ((u.length : Int))), (3, .inl (i)), (4, .inl (kind)), (5, .inl (loc))]) (st' := [.inl (kind)]) rfl ?_
  refine ez_if rfl rfl ⟨by first | omega | exact (sz_i32 _).1, by first | omega | exact (sz_i32 _).2⟩ (fun (c1 : (kind) ≠ (0)) => ?_) (fun (c1 : ¬((kind) ≠ (0))) => ?_)
  · skip
    refine ez_go (n := 2) (pc' := 177) (L' := [(7, .inr (.inr (some (z)))), (6, .inl (uX u i)), (0, .inr (.inr (some (770)))), (1, .inr (.inr (some (q)))), (2, .inl ((u.length : Int))), (3, .inl (i)), (4, .inl (kind)), (5, .inl (loc))]) (st' := [.inl (2), .inl (kind)]) rfl ?_
    refine ez_icmp rfl rfl ⟨by first | omega | exact (sz_i32 _).1, by first | omega | exact (sz_i32 _).2⟩ ⟨by first | omega | exact (sz_i32 _).1, by first | omega | exact (sz_i32 _).2⟩ (fun (c2 : (kind) ≠ (2)) => ?_) (fun (c2 : ¬((kind) ≠ (2))) => ?_)
    · skip
      refine ez_go (n := 4) (pc' := 190) (L' := [(9, .inl (0)), (8, .inl (2)), (7, .inr (.inr (some (z)))), (6, .inl (uX u i)), (0, .inr (.inr (some (770)))), (1, .inr (.inr (some (q)))), (2, .inl ((u.length : Int))), (3, .inl (i)), (4, .inl (kind)), (5, .inl (loc))]) (st' := []) rfl ?_
      refine ez_less [(9, .inl (0)), (8, .inl (2)), (7, .inr (.inr (some (z)))), (0, .inr (.inr (some (770))))] rfl ⟨rfl, rfl, rfl, rfl, trivial⟩ ?_
      have erk : rowK s kind = s.2.2.2 := by unfold rowK; rw [if_neg (by omega), if_pos (by omega)]
      rw [erk] at cm ro
      exact rd_mcr2 hI tz tt.1 tt.2 m2 ro.1 ro.2 hr1 hr2 (fun lt g gB gk gr gt => k1 _ cm lt g gB gk gr gt) (fun lt g gB gk gr => k0 _ cm lt g gB gk gr) _ 0 h rfl (by omega) (by omega) hB (nk.refl τ h) ⟨rfl, rfl⟩ (by rw [show (0 : Int).toNat = 0 from rfl, List.take_zero, List.append_nil]; exact ag)
    · skip
      refine ez_go (n := 5) (pc' := 190) (L' := [(9, .inl (0)), (8, .inl (1)), (7, .inr (.inr (some (z)))), (6, .inl (uX u i)), (0, .inr (.inr (some (770)))), (1, .inr (.inr (some (q)))), (2, .inl ((u.length : Int))), (3, .inl (i)), (4, .inl (kind)), (5, .inl (loc))]) (st' := []) rfl ?_
      refine ez_less [(9, .inl (0)), (8, .inl (1)), (7, .inr (.inr (some (z)))), (0, .inr (.inr (some (770))))] rfl ⟨rfl, rfl, rfl, rfl, trivial⟩ ?_
      have erk : rowK s kind = s.2.2.1 := by unfold rowK; rw [if_neg (by omega), if_neg (by omega)]
      rw [erk] at cm ro
      exact rd_mcr1 hI tz tt.1 tt.2 m1 ro.1 ro.2 hr1 hr2 (fun lt g gB gk gr gt => k1 _ cm lt g gB gk gr gt) (fun lt g gB gk gr => k0 _ cm lt g gB gk gr) _ 0 h rfl (by omega) (by omega) hB (nk.refl τ h) ⟨rfl, rfl⟩ (by rw [show (0 : Int).toNat = 0 from rfl, List.take_zero, List.append_nil]; exact ag)
  · skip
    refine ez_go (n := 5) (pc' := 190) (L' := [(9, .inl (0)), (8, .inl (0)), (7, .inr (.inr (some (z)))), (6, .inl (uX u i)), (0, .inr (.inr (some (770)))), (1, .inr (.inr (some (q)))), (2, .inl ((u.length : Int))), (3, .inl (i)), (4, .inl (kind)), (5, .inl (loc))]) (st' := []) rfl ?_
    refine ez_less [(9, .inl (0)), (8, .inl (0)), (7, .inr (.inr (some (z)))), (0, .inr (.inr (some (770))))] rfl ⟨rfl, rfl, rfl, rfl, trivial⟩ ?_
    have erk : rowK s kind = s.2.1 := by unfold rowK; rw [if_pos (by omega)]
    rw [erk] at cm ro
    exact rd_mcr0 hI tz tt.1 tt.2 m0 ro.1 ro.2 hr1 hr2 (fun lt g gB gk gr gt => k1 _ cm lt g gB gk gr gt) (fun lt g gB gk gr => k0 _ cm lt g gB gk gr) _ 0 h rfl (by omega) (by omega) hB (nk.refl τ h) ⟨rfl, rfl⟩ (by rw [show (0 : Int).toNat = 0 from rfl, List.take_zero, List.append_nil]; exact ag)

theorem rd_mce0 {i kind : Int} (hI : mI τ h Ls b) (mt : mtx τ h q u) (i0 : 0 ≤ i) (i1 : i < (u.length : Int)) (lr : ez_rg loc) (kr : ez_rg kind) (hd : dok (yD Ls)) (kd0 : 0 ≤ kind) (kd2 : kind ≤ 2) (ag : tm h l) (hr1 : h.1 + 1 ≤ 600192) (hr2 : h.2.1 + 6 ≤ 7302232) (k1 : ∀ m, cmR (yD Ls) (vF Ls) u loc kind i m → l.length + m.length ≤ 2000 → ∀ g, ez_B τ g → nk τ h τ g → g.1 = h.1 ∧ g.2.1 = h.2.1 → tm g (l ++ m) → Q (.inl none, g)) (k0 : ∀ m, cmR (yD Ls) (vF Ls) u loc kind i m → 2000 < l.length + m.length → ∀ g, ez_B τ g → nk τ h τ g → g.1 = h.1 ∧ g.2.1 = h.2.1 → Q (.inr g.1, xc g 0)) {r : Option spz} (sp : spR (fun m => aho (yD Ls) (vF Ls) u loc m i) (yD Ls (uX u i)).2.2.2 none r) (er : r = none) : ez_W (d + 7) cm_230 160 [(7, .inr (.inr none)), (6, .inl (uX u i)), (0, .inr (.inr (some (770)))), (1, .inr (.inr (some (q)))), (2, .inl ((u.length : Int))), (3, .inl (i)), (4, .inl (kind)), (5, .inl (loc))] [] h Q := by
  have hB := hI.1
  have t770 : τ 770 = 75 := hI.2.1 770 (by decide)
  have b12 : 0 ≤ qz_I h 770 12 ∧ qz_I h 770 12 ≤ 512 := ez_fB (cl := 11) (k := 12) hB t770 tq_75 rfl rfl (by decide)
  have lce : lc h = qz_I h 770 12 := rfl
  have nls : lc h ≤ qz_N h (ls h) := hI.2.2.1.1.1
  have tq := mt.1
  have n2 := mt.2.1.1
  have pb := uX_ptl mt.2.1.2 (show (i).toNat < u.length by omega)
  have hX := hI.2.1
  have cm : cmR (yD Ls) (vF Ls) u loc kind i [ownc (yD Ls (uX u i)).1 kind (uX u i)] := ⟨r, sp, fun s e => (by rw [er] at e; cases e), fun _ => rfl⟩
  refine ez_go (n := 1) (pc' := 162) (L' := [(7, .inr (.inr none)), (6, .inl (uX u i)), (0, .inr (.inr (some (770)))), (1, .inr (.inr (some (q)))), (2, .inl ((u.length : Int))), (3, .inl (i)), (4, .inl (kind)), (5, .inl (loc))]) (st' := [.inr (.inr none)]) rfl ?_
  refine ez_null0 rfl rfl ?_
  refine ez_go (n := 2) (pc' := 233) (L' := [(7, .inr (.inr none)), (6, .inl (uX u i)), (0, .inr (.inr (some (770)))), (1, .inr (.inr (some (q)))), (2, .inl ((u.length : Int))), (3, .inl (i)), (4, .inl (kind)), (5, .inl (loc))]) (st' := [.inl (uX u i), .inr (.inr (some (770)))]) rfl ?_
  refine ez_cv hB t770 rfl rfl rfl tq_75 rfl rfl rfl (rd_told hI ⟨by omega, by omega⟩ (fun hno => ez_KA ?_) (fun k x hx hc hno => ez_KA ?_))
  · have yd := yD_n hI hno
    refine ez_go (n := 2) (pc' := 240) (L' := [(8, .inr (.inr none)), (7, .inr (.inr none)), (6, .inl (uX u i)), (0, .inr (.inr (some (770)))), (1, .inr (.inr (some (q)))), (2, .inl ((u.length : Int))), (3, .inl (i)), (4, .inl (kind)), (5, .inl (loc))]) (st' := [.inr (.inr none)]) rfl ?_
    refine ez_nonn0 rfl ?_
    refine ez_go (n := 5) (pc' := 292) (L' := [(9, .inl (-1)), (8, .inr (.inr none)), (7, .inr (.inr none)), (6, .inl (uX u i)), (0, .inr (.inr (some (770)))), (1, .inr (.inr (some (q)))), (2, .inl ((u.length : Int))), (3, .inl (i)), (4, .inl (kind)), (5, .inl (loc))]) (st' := [.inl (-1), .inr (.inr (some (770)))]) rfl ?_
    refine ez_if rfl rfl ⟨by decide, by decide⟩ (fun (c1 : (0) ≤ (-1 : Int)) => absurd c1 (by decide)) (fun _ => ?_)
    refine ez_go (n := 2) (pc' := 302) (L' := [(9, .inl (-1)), (8, .inr (.inr none)), (7, .inr (.inr none)), (6, .inl (uX u i)), (0, .inr (.inr (some (770)))), (1, .inr (.inr (some (q)))), (2, .inl ((u.length : Int))), (3, .inl (i)), (4, .inl (kind)), (5, .inl (loc))]) (st' := [.inl (uX u i), .inr (.inr (some (770)))]) rfl ?_
    have eo : uX u i = ownc (yD Ls (uX u i)).1 kind (uX u i) := by
      rw [yd]
      unfold ownc owm
      by_cases e1 : kind = 0
      · rw [if_pos e1]
        first | (exfalso; omega) | rw [if_pos (by omega)] | rw [if_neg (by omega)] | rfl
      · rw [if_neg e1]
        by_cases e2 : kind = 2 ∧ ((17262, -1, -1, -1) : Int × Int × Int × Int).2.2.2 ≠ -1
        · rw [if_pos e2]
          first | (exfalso; omega) | exact absurd rfl e2.2 | rw [if_pos (by omega)] | rw [if_neg (by omega)] | rfl
        · rw [if_neg e2]
          first | (exfalso; omega) | rw [if_pos (by omega)] | rw [if_neg (by omega)] | rfl
    rw [eo]
    have ob := ownc_ok hd (kind := kind) pb
    refine ez_cv hB t770 rfl rfl rfl tq_75 rfl rfl rfl (rd_make hB t770 ag ⟨by omega, by omega⟩ (by omega) (by omega) (fun lt g2 hB2 f2 i2 a2 => ez_K0 ?_) (fun ge => ez_Kp (xc_exc hB rfl) rfl (k0 _ cm (by show 2000 < l.length + 1; omega) h hB (nk.refl τ h) ⟨rfl, rfl⟩)))
    have nk2 := nk.fr hB t770 hX f2 (fun q9 hq9 => by unfold nz_PL at hq9; rcases Bool.or_eq_true_iff.mp hq9 with w | w; (· exact Or.inl (Nat.eq_of_beq_eq_true w)); (· exact Or.inr (Or.inl (Nat.eq_of_beq_eq_true w)))) i2
    exact ez_ret0 rfl rfl (k1 _ cm (by show l.length + 1 ≤ 2000; omega) g2 hB2 nk2 ⟨f2.1, f2.2.1⟩ a2)
  · skip
    have hk : (k : Int) < lc h := by have := (List.getElem?_eq_some_iff.mp hx).1; have := hI.2.2.2.2.2.2.1; omega
    have tl := (hI.L hk).1
    have ax := (hI.x hx).2
    have a0 := ax.2.1 (by rw [← ax.1, (hI.x hx).1.1.1]; exact hc.1)
    have yd := yD_a hI hx hc hno
    have db := (hd (uX u i)).1
    rw [yd] at db
    refine ez_go (n := 2) (pc' := 240) (L' := [(8, .inr (.inr (some (qz_P h (ls h) k)))), (7, .inr (.inr none)), (6, .inl (uX u i)), (0, .inr (.inr (some (770)))), (1, .inr (.inr (some (q)))), (2, .inl ((u.length : Int))), (3, .inl (i)), (4, .inl (kind)), (5, .inl (loc))]) (st' := [.inr (.inr (some (qz_P h (ls h) k)))]) rfl ?_
    refine ez_nonn1 rfl rfl ?_
    refine ez_go (n := 1) (pc' := 249) (L' := [(8, .inr (.inr (some (qz_P h (ls h) k)))), (7, .inr (.inr none)), (6, .inl (uX u i)), (0, .inr (.inr (some (770)))), (1, .inr (.inr (some (q)))), (2, .inl ((u.length : Int))), (3, .inl (i)), (4, .inl (kind)), (5, .inl (loc))]) (st' := [.inl (kind)]) rfl ?_
    refine ez_if rfl rfl ⟨by first | omega | exact (sz_i32 _).1, by first | omega | exact (sz_i32 _).2⟩ (fun (c2 : (kind) ≠ (0)) => ?_) (fun (c2 : ¬((kind) ≠ (0))) => ?_)
    · skip
      refine ez_go (n := 2) (pc' := 263) (L' := [(8, .inr (.inr (some (qz_P h (ls h) k)))), (7, .inr (.inr none)), (6, .inl (uX u i)), (0, .inr (.inr (some (770)))), (1, .inr (.inr (some (q)))), (2, .inl ((u.length : Int))), (3, .inl (i)), (4, .inl (kind)), (5, .inl (loc))]) (st' := [.inl (1), .inl (kind)]) rfl ?_
      refine ez_icmp rfl rfl ⟨by first | omega | exact (sz_i32 _).1, by first | omega | exact (sz_i32 _).2⟩ ⟨by first | omega | exact (sz_i32 _).1, by first | omega | exact (sz_i32 _).2⟩ (fun (c3 : (kind) = (1)) => ?_) (fun (c3 : ¬((kind) = (1))) => ?_)
      · skip
        refine ez_go (n := 1) (pc' := 276) (L' := [(8, .inr (.inr (some (qz_P h (ls h) k)))), (7, .inr (.inr none)), (6, .inl (uX u i)), (0, .inr (.inr (some (770)))), (1, .inr (.inr (some (q)))), (2, .inl ((u.length : Int))), (3, .inl (i)), (4, .inl (kind)), (5, .inl (loc))]) (st' := [.inr (.inr (some (qz_P h (ls h) k)))]) rfl ?_
        refine ez_gI hB tl rfl rfl tq_13 rfl rfl (fun (b4 : -2147483648 ≤ qz_I h (qz_P h (ls h) k) 9) (b4' : qz_I h (qz_P h (ls h) k) 9 ≤ 2147483647) => ?_)
        rw [show qz_I h (qz_P h (ls h) k) 9 = (ey x).2.1.2.1 from a0.2.2.1]
        refine ez_go (n := 4) (pc' := 292) (L' := [(9, .inl ((ey x).2.1.2.1)), (8, .inr (.inr (some (qz_P h (ls h) k)))), (7, .inr (.inr none)), (6, .inl (uX u i)), (0, .inr (.inr (some (770)))), (1, .inr (.inr (some (q)))), (2, .inl ((u.length : Int))), (3, .inl (i)), (4, .inl (kind)), (5, .inl (loc))]) (st' := [.inl ((ey x).2.1.2.1), .inr (.inr (some (770)))]) rfl ?_
        refine ez_if rfl rfl ⟨by first | omega | exact (sz_i32 _).1, by first | omega | exact (sz_i32 _).2⟩ (fun (c5 : (0) ≤ ((ey x).2.1.2.1)) => ?_) (fun (c5 : ¬((0) ≤ ((ey x).2.1.2.1))) => ?_)
        · skip
          refine ez_go (n := 1) (pc' := 302) (L' := [(9, .inl ((ey x).2.1.2.1)), (8, .inr (.inr (some (qz_P h (ls h) k)))), (7, .inr (.inr none)), (6, .inl (uX u i)), (0, .inr (.inr (some (770)))), (1, .inr (.inr (some (q)))), (2, .inl ((u.length : Int))), (3, .inl (i)), (4, .inl (kind)), (5, .inl (loc))]) (st' := [.inl ((ey x).2.1.2.1), .inr (.inr (some (770)))]) rfl ?_
          have eo : (ey x).2.1.2.1 = ownc (yD Ls (uX u i)).1 kind (uX u i) := by
            rw [yd]
            unfold ownc owm
            by_cases e1 : kind = 0
            · rw [if_pos e1]
              first | (exfalso; omega) | rw [if_pos (by omega)] | rw [if_neg (by omega)] | rfl
            · rw [if_neg e1]
              by_cases e2 : kind = 2 ∧ (ey x).2.1.2.2.2 ≠ -1
              · rw [if_pos e2]
                first | (exfalso; omega) | exact absurd rfl e2.2 | rw [if_pos (by omega)] | rw [if_neg (by omega)] | rfl
              · rw [if_neg e2]
                first | (exfalso; omega) | rw [if_pos (by omega)] | rw [if_neg (by omega)] | rfl
          rw [eo]
          have ob := ownc_ok hd (kind := kind) pb
          refine ez_cv hB t770 rfl rfl rfl tq_75 rfl rfl rfl (rd_make hB t770 ag ⟨by omega, by omega⟩ (by omega) (by omega) (fun lt g2 hB2 f2 i2 a2 => ez_K0 ?_) (fun ge => ez_Kp (xc_exc hB rfl) rfl (k0 _ cm (by show 2000 < l.length + 1; omega) h hB (nk.refl τ h) ⟨rfl, rfl⟩)))
          have nk2 := nk.fr hB t770 hX f2 (fun q9 hq9 => by unfold nz_PL at hq9; rcases Bool.or_eq_true_iff.mp hq9 with w | w; (· exact Or.inl (Nat.eq_of_beq_eq_true w)); (· exact Or.inr (Or.inl (Nat.eq_of_beq_eq_true w)))) i2
          exact ez_ret0 rfl rfl (k1 _ cm (by show l.length + 1 ≤ 2000; omega) g2 hB2 nk2 ⟨f2.1, f2.2.1⟩ a2)
        · skip
          refine ez_go (n := 2) (pc' := 302) (L' := [(9, .inl ((ey x).2.1.2.1)), (8, .inr (.inr (some (qz_P h (ls h) k)))), (7, .inr (.inr none)), (6, .inl (uX u i)), (0, .inr (.inr (some (770)))), (1, .inr (.inr (some (q)))), (2, .inl ((u.length : Int))), (3, .inl (i)), (4, .inl (kind)), (5, .inl (loc))]) (st' := [.inl (uX u i), .inr (.inr (some (770)))]) rfl ?_
          have eo : uX u i = ownc (yD Ls (uX u i)).1 kind (uX u i) := by
            rw [yd]
            unfold ownc owm
            by_cases e1 : kind = 0
            · rw [if_pos e1]
              first | (exfalso; omega) | rw [if_pos (by omega)] | rw [if_neg (by omega)] | rfl
            · rw [if_neg e1]
              by_cases e2 : kind = 2 ∧ (ey x).2.1.2.2.2 ≠ -1
              · rw [if_pos e2]
                first | (exfalso; omega) | exact absurd rfl e2.2 | rw [if_pos (by omega)] | rw [if_neg (by omega)] | rfl
              · rw [if_neg e2]
                first | (exfalso; omega) | rw [if_pos (by omega)] | rw [if_neg (by omega)] | rfl
          rw [eo]
          have ob := ownc_ok hd (kind := kind) pb
          refine ez_cv hB t770 rfl rfl rfl tq_75 rfl rfl rfl (rd_make hB t770 ag ⟨by omega, by omega⟩ (by omega) (by omega) (fun lt g2 hB2 f2 i2 a2 => ez_K0 ?_) (fun ge => ez_Kp (xc_exc hB rfl) rfl (k0 _ cm (by show 2000 < l.length + 1; omega) h hB (nk.refl τ h) ⟨rfl, rfl⟩)))
          have nk2 := nk.fr hB t770 hX f2 (fun q9 hq9 => by unfold nz_PL at hq9; rcases Bool.or_eq_true_iff.mp hq9 with w | w; (· exact Or.inl (Nat.eq_of_beq_eq_true w)); (· exact Or.inr (Or.inl (Nat.eq_of_beq_eq_true w)))) i2
          exact ez_ret0 rfl rfl (k1 _ cm (by show l.length + 1 ≤ 2000; omega) g2 hB2 nk2 ⟨f2.1, f2.2.1⟩ a2)
      · skip
        refine ez_go (n := 1) (pc' := 268) (L' := [(8, .inr (.inr (some (qz_P h (ls h) k)))), (7, .inr (.inr none)), (6, .inl (uX u i)), (0, .inr (.inr (some (770)))), (1, .inr (.inr (some (q)))), (2, .inl ((u.length : Int))), (3, .inl (i)), (4, .inl (kind)), (5, .inl (loc))]) (st' := [.inr (.inr (some (qz_P h (ls h) k)))]) rfl ?_
        refine ez_gI hB tl rfl rfl tq_13 rfl rfl (fun (b6 : -2147483648 ≤ qz_I h (qz_P h (ls h) k) 11) (b6' : qz_I h (qz_P h (ls h) k) 11 ≤ 2147483647) => ?_)
        rw [show qz_I h (qz_P h (ls h) k) 11 = (ey x).2.1.2.2.2 from a0.2.2.2.2]
        refine ez_if rfl rfl ⟨by first | omega | exact (sz_i32 _).1, by first | omega | exact (sz_i32 _).2⟩ (fun (c7 : (0) ≤ ((ey x).2.1.2.2.2)) => ?_) (fun (c7 : ¬((0) ≤ ((ey x).2.1.2.2.2))) => ?_)
        · skip
          refine ez_go (n := 1) (pc' := 284) (L' := [(8, .inr (.inr (some (qz_P h (ls h) k)))), (7, .inr (.inr none)), (6, .inl (uX u i)), (0, .inr (.inr (some (770)))), (1, .inr (.inr (some (q)))), (2, .inl ((u.length : Int))), (3, .inl (i)), (4, .inl (kind)), (5, .inl (loc))]) (st' := [.inr (.inr (some (qz_P h (ls h) k)))]) rfl ?_
          refine ez_gI hB tl rfl rfl tq_13 rfl rfl (fun (b8 : -2147483648 ≤ qz_I h (qz_P h (ls h) k) 11) (b8' : qz_I h (qz_P h (ls h) k) 11 ≤ 2147483647) => ?_)
          rw [show qz_I h (qz_P h (ls h) k) 11 = (ey x).2.1.2.2.2 from a0.2.2.2.2]
          refine ez_go (n := 3) (pc' := 292) (L' := [(9, .inl ((ey x).2.1.2.2.2)), (8, .inr (.inr (some (qz_P h (ls h) k)))), (7, .inr (.inr none)), (6, .inl (uX u i)), (0, .inr (.inr (some (770)))), (1, .inr (.inr (some (q)))), (2, .inl ((u.length : Int))), (3, .inl (i)), (4, .inl (kind)), (5, .inl (loc))]) (st' := [.inl ((ey x).2.1.2.2.2), .inr (.inr (some (770)))]) rfl ?_
          refine ez_if rfl rfl ⟨by first | omega | exact (sz_i32 _).1, by first | omega | exact (sz_i32 _).2⟩ (fun (c9 : (0) ≤ ((ey x).2.1.2.2.2)) => ?_) (fun (c9 : ¬((0) ≤ ((ey x).2.1.2.2.2))) => ?_)
          · skip
            refine ez_go (n := 1) (pc' := 302) (L' := [(9, .inl ((ey x).2.1.2.2.2)), (8, .inr (.inr (some (qz_P h (ls h) k)))), (7, .inr (.inr none)), (6, .inl (uX u i)), (0, .inr (.inr (some (770)))), (1, .inr (.inr (some (q)))), (2, .inl ((u.length : Int))), (3, .inl (i)), (4, .inl (kind)), (5, .inl (loc))]) (st' := [.inl ((ey x).2.1.2.2.2), .inr (.inr (some (770)))]) rfl ?_
            have eo : (ey x).2.1.2.2.2 = ownc (yD Ls (uX u i)).1 kind (uX u i) := by
              rw [yd]
              unfold ownc owm
              by_cases e1 : kind = 0
              · rw [if_pos e1]
                first | (exfalso; omega) | rw [if_pos (by omega)] | rw [if_neg (by omega)] | rfl
              · rw [if_neg e1]
                by_cases e2 : kind = 2 ∧ (ey x).2.1.2.2.2 ≠ -1
                · rw [if_pos e2]
                  first | (exfalso; omega) | exact absurd rfl e2.2 | rw [if_pos (by omega)] | rw [if_neg (by omega)] | rfl
                · rw [if_neg e2]
                  first | (exfalso; omega) | rw [if_pos (by omega)] | rw [if_neg (by omega)] | rfl
            rw [eo]
            have ob := ownc_ok hd (kind := kind) pb
            refine ez_cv hB t770 rfl rfl rfl tq_75 rfl rfl rfl (rd_make hB t770 ag ⟨by omega, by omega⟩ (by omega) (by omega) (fun lt g2 hB2 f2 i2 a2 => ez_K0 ?_) (fun ge => ez_Kp (xc_exc hB rfl) rfl (k0 _ cm (by show 2000 < l.length + 1; omega) h hB (nk.refl τ h) ⟨rfl, rfl⟩)))
            have nk2 := nk.fr hB t770 hX f2 (fun q9 hq9 => by unfold nz_PL at hq9; rcases Bool.or_eq_true_iff.mp hq9 with w | w; (· exact Or.inl (Nat.eq_of_beq_eq_true w)); (· exact Or.inr (Or.inl (Nat.eq_of_beq_eq_true w)))) i2
            exact ez_ret0 rfl rfl (k1 _ cm (by show l.length + 1 ≤ 2000; omega) g2 hB2 nk2 ⟨f2.1, f2.2.1⟩ a2)
          · skip
            refine ez_go (n := 2) (pc' := 302) (L' := [(9, .inl ((ey x).2.1.2.2.2)), (8, .inr (.inr (some (qz_P h (ls h) k)))), (7, .inr (.inr none)), (6, .inl (uX u i)), (0, .inr (.inr (some (770)))), (1, .inr (.inr (some (q)))), (2, .inl ((u.length : Int))), (3, .inl (i)), (4, .inl (kind)), (5, .inl (loc))]) (st' := [.inl (uX u i), .inr (.inr (some (770)))]) rfl ?_
            have eo : uX u i = ownc (yD Ls (uX u i)).1 kind (uX u i) := by
              rw [yd]
              unfold ownc owm
              by_cases e1 : kind = 0
              · rw [if_pos e1]
                first | (exfalso; omega) | rw [if_pos (by omega)] | rw [if_neg (by omega)] | rfl
              · rw [if_neg e1]
                by_cases e2 : kind = 2 ∧ (ey x).2.1.2.2.2 ≠ -1
                · rw [if_pos e2]
                  first | (exfalso; omega) | exact absurd rfl e2.2 | rw [if_pos (by omega)] | rw [if_neg (by omega)] | rfl
                · rw [if_neg e2]
                  first | (exfalso; omega) | rw [if_pos (by omega)] | rw [if_neg (by omega)] | rfl
            rw [eo]
            have ob := ownc_ok hd (kind := kind) pb
            refine ez_cv hB t770 rfl rfl rfl tq_75 rfl rfl rfl (rd_make hB t770 ag ⟨by omega, by omega⟩ (by omega) (by omega) (fun lt g2 hB2 f2 i2 a2 => ez_K0 ?_) (fun ge => ez_Kp (xc_exc hB rfl) rfl (k0 _ cm (by show 2000 < l.length + 1; omega) h hB (nk.refl τ h) ⟨rfl, rfl⟩)))
            have nk2 := nk.fr hB t770 hX f2 (fun q9 hq9 => by unfold nz_PL at hq9; rcases Bool.or_eq_true_iff.mp hq9 with w | w; (· exact Or.inl (Nat.eq_of_beq_eq_true w)); (· exact Or.inr (Or.inl (Nat.eq_of_beq_eq_true w)))) i2
            exact ez_ret0 rfl rfl (k1 _ cm (by show l.length + 1 ≤ 2000; omega) g2 hB2 nk2 ⟨f2.1, f2.2.1⟩ a2)
        · skip
          refine ez_go (n := 1) (pc' := 276) (L' := [(8, .inr (.inr (some (qz_P h (ls h) k)))), (7, .inr (.inr none)), (6, .inl (uX u i)), (0, .inr (.inr (some (770)))), (1, .inr (.inr (some (q)))), (2, .inl ((u.length : Int))), (3, .inl (i)), (4, .inl (kind)), (5, .inl (loc))]) (st' := [.inr (.inr (some (qz_P h (ls h) k)))]) rfl ?_
          refine ez_gI hB tl rfl rfl tq_13 rfl rfl (fun (b10 : -2147483648 ≤ qz_I h (qz_P h (ls h) k) 9) (b10' : qz_I h (qz_P h (ls h) k) 9 ≤ 2147483647) => ?_)
          rw [show qz_I h (qz_P h (ls h) k) 9 = (ey x).2.1.2.1 from a0.2.2.1]
          refine ez_go (n := 4) (pc' := 292) (L' := [(9, .inl ((ey x).2.1.2.1)), (8, .inr (.inr (some (qz_P h (ls h) k)))), (7, .inr (.inr none)), (6, .inl (uX u i)), (0, .inr (.inr (some (770)))), (1, .inr (.inr (some (q)))), (2, .inl ((u.length : Int))), (3, .inl (i)), (4, .inl (kind)), (5, .inl (loc))]) (st' := [.inl ((ey x).2.1.2.1), .inr (.inr (some (770)))]) rfl ?_
          refine ez_if rfl rfl ⟨by first | omega | exact (sz_i32 _).1, by first | omega | exact (sz_i32 _).2⟩ (fun (c11 : (0) ≤ ((ey x).2.1.2.1)) => ?_) (fun (c11 : ¬((0) ≤ ((ey x).2.1.2.1))) => ?_)
          · skip
            refine ez_go (n := 1) (pc' := 302) (L' := [(9, .inl ((ey x).2.1.2.1)), (8, .inr (.inr (some (qz_P h (ls h) k)))), (7, .inr (.inr none)), (6, .inl (uX u i)), (0, .inr (.inr (some (770)))), (1, .inr (.inr (some (q)))), (2, .inl ((u.length : Int))), (3, .inl (i)), (4, .inl (kind)), (5, .inl (loc))]) (st' := [.inl ((ey x).2.1.2.1), .inr (.inr (some (770)))]) rfl ?_
            have eo : (ey x).2.1.2.1 = ownc (yD Ls (uX u i)).1 kind (uX u i) := by
              rw [yd]
              unfold ownc owm
              by_cases e1 : kind = 0
              · rw [if_pos e1]
                first | (exfalso; omega) | rw [if_pos (by omega)] | rw [if_neg (by omega)] | rfl
              · rw [if_neg e1]
                by_cases e2 : kind = 2 ∧ (ey x).2.1.2.2.2 ≠ -1
                · rw [if_pos e2]
                  first | (exfalso; omega) | exact absurd rfl e2.2 | rw [if_pos (by omega)] | rw [if_neg (by omega)] | rfl
                · rw [if_neg e2]
                  first | (exfalso; omega) | rw [if_pos (by omega)] | rw [if_neg (by omega)] | rfl
            rw [eo]
            have ob := ownc_ok hd (kind := kind) pb
            refine ez_cv hB t770 rfl rfl rfl tq_75 rfl rfl rfl (rd_make hB t770 ag ⟨by omega, by omega⟩ (by omega) (by omega) (fun lt g2 hB2 f2 i2 a2 => ez_K0 ?_) (fun ge => ez_Kp (xc_exc hB rfl) rfl (k0 _ cm (by show 2000 < l.length + 1; omega) h hB (nk.refl τ h) ⟨rfl, rfl⟩)))
            have nk2 := nk.fr hB t770 hX f2 (fun q9 hq9 => by unfold nz_PL at hq9; rcases Bool.or_eq_true_iff.mp hq9 with w | w; (· exact Or.inl (Nat.eq_of_beq_eq_true w)); (· exact Or.inr (Or.inl (Nat.eq_of_beq_eq_true w)))) i2
            exact ez_ret0 rfl rfl (k1 _ cm (by show l.length + 1 ≤ 2000; omega) g2 hB2 nk2 ⟨f2.1, f2.2.1⟩ a2)
          · skip
            refine ez_go (n := 2) (pc' := 302) (L' := [(9, .inl ((ey x).2.1.2.1)), (8, .inr (.inr (some (qz_P h (ls h) k)))), (7, .inr (.inr none)), (6, .inl (uX u i)), (0, .inr (.inr (some (770)))), (1, .inr (.inr (some (q)))), (2, .inl ((u.length : Int))), (3, .inl (i)), (4, .inl (kind)), (5, .inl (loc))]) (st' := [.inl (uX u i), .inr (.inr (some (770)))]) rfl ?_
            have eo : uX u i = ownc (yD Ls (uX u i)).1 kind (uX u i) := by
              rw [yd]
              unfold ownc owm
              by_cases e1 : kind = 0
              · rw [if_pos e1]
                first | (exfalso; omega) | rw [if_pos (by omega)] | rw [if_neg (by omega)] | rfl
              · rw [if_neg e1]
                by_cases e2 : kind = 2 ∧ (ey x).2.1.2.2.2 ≠ -1
                · rw [if_pos e2]
                  first | (exfalso; omega) | exact absurd rfl e2.2 | rw [if_pos (by omega)] | rw [if_neg (by omega)] | rfl
                · rw [if_neg e2]
                  first | (exfalso; omega) | rw [if_pos (by omega)] | rw [if_neg (by omega)] | rfl
            rw [eo]
            have ob := ownc_ok hd (kind := kind) pb
            refine ez_cv hB t770 rfl rfl rfl tq_75 rfl rfl rfl (rd_make hB t770 ag ⟨by omega, by omega⟩ (by omega) (by omega) (fun lt g2 hB2 f2 i2 a2 => ez_K0 ?_) (fun ge => ez_Kp (xc_exc hB rfl) rfl (k0 _ cm (by show 2000 < l.length + 1; omega) h hB (nk.refl τ h) ⟨rfl, rfl⟩)))
            have nk2 := nk.fr hB t770 hX f2 (fun q9 hq9 => by unfold nz_PL at hq9; rcases Bool.or_eq_true_iff.mp hq9 with w | w; (· exact Or.inl (Nat.eq_of_beq_eq_true w)); (· exact Or.inr (Or.inl (Nat.eq_of_beq_eq_true w)))) i2
            exact ez_ret0 rfl rfl (k1 _ cm (by show l.length + 1 ≤ 2000; omega) g2 hB2 nk2 ⟨f2.1, f2.2.1⟩ a2)
    · skip
      refine ez_go (n := 1) (pc' := 254) (L' := [(8, .inr (.inr (some (qz_P h (ls h) k)))), (7, .inr (.inr none)), (6, .inl (uX u i)), (0, .inr (.inr (some (770)))), (1, .inr (.inr (some (q)))), (2, .inl ((u.length : Int))), (3, .inl (i)), (4, .inl (kind)), (5, .inl (loc))]) (st' := [.inr (.inr (some (qz_P h (ls h) k)))]) rfl ?_
      refine ez_gI hB tl rfl rfl tq_13 rfl rfl (fun (b12 : -2147483648 ≤ qz_I h (qz_P h (ls h) k) 10) (b12' : qz_I h (qz_P h (ls h) k) 10 ≤ 2147483647) => ?_)
      rw [show qz_I h (qz_P h (ls h) k) 10 = (ey x).2.1.2.2.1 from a0.2.2.2.1]
      refine ez_go (n := 4) (pc' := 292) (L' := [(9, .inl ((ey x).2.1.2.2.1)), (8, .inr (.inr (some (qz_P h (ls h) k)))), (7, .inr (.inr none)), (6, .inl (uX u i)), (0, .inr (.inr (some (770)))), (1, .inr (.inr (some (q)))), (2, .inl ((u.length : Int))), (3, .inl (i)), (4, .inl (kind)), (5, .inl (loc))]) (st' := [.inl ((ey x).2.1.2.2.1), .inr (.inr (some (770)))]) rfl ?_
      refine ez_if rfl rfl ⟨by first | omega | exact (sz_i32 _).1, by first | omega | exact (sz_i32 _).2⟩ (fun (c13 : (0) ≤ ((ey x).2.1.2.2.1)) => ?_) (fun (c13 : ¬((0) ≤ ((ey x).2.1.2.2.1))) => ?_)
      · skip
        refine ez_go (n := 1) (pc' := 302) (L' := [(9, .inl ((ey x).2.1.2.2.1)), (8, .inr (.inr (some (qz_P h (ls h) k)))), (7, .inr (.inr none)), (6, .inl (uX u i)), (0, .inr (.inr (some (770)))), (1, .inr (.inr (some (q)))), (2, .inl ((u.length : Int))), (3, .inl (i)), (4, .inl (kind)), (5, .inl (loc))]) (st' := [.inl ((ey x).2.1.2.2.1), .inr (.inr (some (770)))]) rfl ?_
        have eo : (ey x).2.1.2.2.1 = ownc (yD Ls (uX u i)).1 kind (uX u i) := by
          rw [yd]
          unfold ownc owm
          by_cases e1 : kind = 0
          · rw [if_pos e1]
            first | (exfalso; omega) | rw [if_pos (by omega)] | rw [if_neg (by omega)] | rfl
          · rw [if_neg e1]
            by_cases e2 : kind = 2 ∧ (ey x).2.1.2.2.2 ≠ -1
            · rw [if_pos e2]
              first | (exfalso; omega) | exact absurd rfl e2.2 | rw [if_pos (by omega)] | rw [if_neg (by omega)] | rfl
            · rw [if_neg e2]
              first | (exfalso; omega) | rw [if_pos (by omega)] | rw [if_neg (by omega)] | rfl
        rw [eo]
        have ob := ownc_ok hd (kind := kind) pb
        refine ez_cv hB t770 rfl rfl rfl tq_75 rfl rfl rfl (rd_make hB t770 ag ⟨by omega, by omega⟩ (by omega) (by omega) (fun lt g2 hB2 f2 i2 a2 => ez_K0 ?_) (fun ge => ez_Kp (xc_exc hB rfl) rfl (k0 _ cm (by show 2000 < l.length + 1; omega) h hB (nk.refl τ h) ⟨rfl, rfl⟩)))
        have nk2 := nk.fr hB t770 hX f2 (fun q9 hq9 => by unfold nz_PL at hq9; rcases Bool.or_eq_true_iff.mp hq9 with w | w; (· exact Or.inl (Nat.eq_of_beq_eq_true w)); (· exact Or.inr (Or.inl (Nat.eq_of_beq_eq_true w)))) i2
        exact ez_ret0 rfl rfl (k1 _ cm (by show l.length + 1 ≤ 2000; omega) g2 hB2 nk2 ⟨f2.1, f2.2.1⟩ a2)
      · skip
        refine ez_go (n := 2) (pc' := 302) (L' := [(9, .inl ((ey x).2.1.2.2.1)), (8, .inr (.inr (some (qz_P h (ls h) k)))), (7, .inr (.inr none)), (6, .inl (uX u i)), (0, .inr (.inr (some (770)))), (1, .inr (.inr (some (q)))), (2, .inl ((u.length : Int))), (3, .inl (i)), (4, .inl (kind)), (5, .inl (loc))]) (st' := [.inl (uX u i), .inr (.inr (some (770)))]) rfl ?_
        have eo : uX u i = ownc (yD Ls (uX u i)).1 kind (uX u i) := by
          rw [yd]
          unfold ownc owm
          by_cases e1 : kind = 0
          · rw [if_pos e1]
            first | (exfalso; omega) | rw [if_pos (by omega)] | rw [if_neg (by omega)] | rfl
          · rw [if_neg e1]
            by_cases e2 : kind = 2 ∧ (ey x).2.1.2.2.2 ≠ -1
            · rw [if_pos e2]
              first | (exfalso; omega) | exact absurd rfl e2.2 | rw [if_pos (by omega)] | rw [if_neg (by omega)] | rfl
            · rw [if_neg e2]
              first | (exfalso; omega) | rw [if_pos (by omega)] | rw [if_neg (by omega)] | rfl
        rw [eo]
        have ob := ownc_ok hd (kind := kind) pb
        refine ez_cv hB t770 rfl rfl rfl tq_75 rfl rfl rfl (rd_make hB t770 ag ⟨by omega, by omega⟩ (by omega) (by omega) (fun lt g2 hB2 f2 i2 a2 => ez_K0 ?_) (fun ge => ez_Kp (xc_exc hB rfl) rfl (k0 _ cm (by show 2000 < l.length + 1; omega) h hB (nk.refl τ h) ⟨rfl, rfl⟩)))
        have nk2 := nk.fr hB t770 hX f2 (fun q9 hq9 => by unfold nz_PL at hq9; rcases Bool.or_eq_true_iff.mp hq9 with w | w; (· exact Or.inl (Nat.eq_of_beq_eq_true w)); (· exact Or.inr (Or.inl (Nat.eq_of_beq_eq_true w)))) i2
        exact ez_ret0 rfl rfl (k1 _ cm (by show l.length + 1 ≤ 2000; omega) g2 hB2 nk2 ⟨f2.1, f2.2.1⟩ a2)

theorem rd_mcases {i kind : Int} (hI : mI τ h Ls b) (mt : mtx τ h q u) (i0 : 0 ≤ i) (i1 : i < (u.length : Int)) (lr : ez_rg loc) (kr : ez_rg kind) (hd : dok (yD Ls)) (kd0 : 0 ≤ kind) (kd2 : kind ≤ 2) (ag : tm h l) (hr1 : h.1 + 1 ≤ 600192) (hr2 : h.2.1 + 6 ≤ 7302232) (k1 : ∀ m, cmR (yD Ls) (vF Ls) u loc kind i m → l.length + m.length ≤ 2000 → ∀ g, ez_B τ g → nk τ h τ g → g.1 = h.1 ∧ g.2.1 = h.2.1 → tm g (l ++ m) → Q (.inl none, g)) (k0 : ∀ m, cmR (yD Ls) (vF Ls) u loc kind i m → 2000 < l.length + m.length → ∀ g, ez_B τ g → nk τ h τ g → g.1 = h.1 ∧ g.2.1 = h.2.1 → Q (.inr g.1, xc g 0)) : ez_W (d + 7) cm_230 0 [(0, .inr (.inr (some (770)))), (1, .inr (.inr (some (q)))), (2, .inl ((u.length : Int))), (3, .inl (i)), (4, .inl (kind)), (5, .inl (loc))] [] h Q := by
  have hB := hI.1
  have t770 : τ 770 = 75 := hI.2.1 770 (by decide)
  have b12 : 0 ≤ qz_I h 770 12 ∧ qz_I h 770 12 ≤ 512 := ez_fB (cl := 11) (k := 12) hB t770 tq_75 rfl rfl (by decide)
  have lce : lc h = qz_I h 770 12 := rfl
  have nls : lc h ≤ qz_N h (ls h) := hI.2.2.1.1.1
  have tq := mt.1
  have n2 := mt.2.1.1
  refine ez_go (n := 2) (pc' := 2) (L' := [(0, .inr (.inr (some (770)))), (1, .inr (.inr (some (q)))), (2, .inl ((u.length : Int))), (3, .inl (i)), (4, .inl (kind)), (5, .inl (loc))]) (st' := [.inl (i), .inr (.inr (some (q)))]) rfl ?_
  have n2 : 2000 ≤ qz_N h q ∧ qz_N h q ≤ 2000 := ez_len hB tq tq_37 rfl
  refine ez_aI hB tq rfl tq_37 rfl rfl (by omega) (by omega) (fun (b1 : -2147483648 ≤ qz_I h q (i).toNat) (b1' : qz_I h q (i).toNat ≤ 2147483647) => ?_)
  have pb := uX_ptl mt.2.1.2 (show (i).toNat < u.length by omega)
  have prg : ez_rg (uX u i) := ⟨by omega, by omega⟩
  rw [mt.2.2 i (by omega) (by omega)]
  refine ez_go (n := 5) (pc' := 11) (L' := [(8, .inl (0)), (7, .inr (.inr none)), (6, .inl (uX u i)), (0, .inr (.inr (some (770)))), (1, .inr (.inr (some (q)))), (2, .inl ((u.length : Int))), (3, .inl (i)), (4, .inl (kind)), (5, .inl (loc))]) (st' := []) rfl ?_
  refine ez_less [(8, .inl (0)), (7, .inr (.inr none)), (6, .inl (uX u i)), (0, .inr (.inr (some (770)))), (1, .inr (.inr (some (q)))), (2, .inl ((u.length : Int))), (3, .inl (i)), (4, .inl (kind)), (5, .inl (loc))] rfl ⟨rfl, rfl, rfl, rfl, rfl, rfl, rfl, rfl, rfl, trivial⟩ ?_
  refine rd_mcl hI mt i0 i1 lr kr (fun r o sp ho => ?_) _ 0 none none rfl (by omega) (by omega) ⟨fun _ => rfl, fun s e => by cases e⟩ (fun r hr => by rw [show (0 : Int).toNat = 0 from rfl, List.drop_zero] at hr; rw [show (yD Ls (uX u i)).2.2.2 = spl (uX u i) (Ls.map ey) from yds_a]; exact psr_0.mp hr)
  obtain e9 | ⟨s, e9⟩ : r = none ∨ ∃ s, r = some s := by cases r with | none => exact Or.inl rfl | some s => exact Or.inr ⟨s, rfl⟩
  · have eo := ho.1 e9
    subst eo
    exact rd_mce0 hI mt i0 i1 lr kr hd kd0 kd2 ag hr1 hr2 k1 k0 sp e9
  · obtain ⟨z, v, eo, tz, v1, v2, v3⟩ := ho.2 s e9
    subst eo
    exact rd_mce1 hI mt i0 i1 lr kr hd kd0 kd2 ag hr1 hr2 k1 k0 sp e9 tz v1 v2 v3

theorem rd_mfr {z : Nat} {m : List Int}  (hI : mI τ h Ls b) (tz : τ z = 13) (tz1 : τ (z + 1) = 15) (tz2 : τ (z + 2) = 16) (mr : mrw h (z + 1) (z + 2) 0 m) (pm : ptl m) (m18 : m.length ≤ 18) (hr1 : h.1 + 1 ≤ 600192) (hr2 : h.2.1 + 6 ≤ 7302232) (k1 : l.length + m.length ≤ 2000 → ∀ g, ez_B τ g → nk τ h τ g → g.1 = h.1 ∧ g.2.1 = h.2.1 → tm g (l ++ m) → Q (.inl none, g)) (k0 : 2000 < l.length + m.length → ∀ g, ez_B τ g → nk τ h τ g → g.1 = h.1 ∧ g.2.1 = h.2.1 → Q (.inr g.1, xc g 0)) : ∀ (n : Nat) (j : Int) (g : cz_H), n = ((m.length : Int) - j).toNat → 0 ≤ j → j ≤ (m.length : Int) → ez_B τ g → nk τ h τ g → g.1 = h.1 ∧ g.2.1 = h.2.1 → tm g (l ++ m.take j.toNat) → ez_W (d + 7) cm_256 61 [(4, .inl (j)), (3, .inr (.inr (some (z)))), (0, .inr (.inr (some (770))))] [] g Q := by
  have hB := hI.1
  have hX := hI.2.1
  have t770 : τ 770 = 75 := hX 770 (by decide)
  intro n
  induction n with
  | zero =>
    intro j g hn0 j0 j1 hBg hk hrm ag
    have mg := hk.mrwx hB hX tz tz1 tz2 mr
    have npo : pn g ≤ qz_N g (po g) := (hk.mIx hI hBg).2.2.1.1.2
    refine ez_go (n := 2) (pc' := 64) (L' := [(4, .inl (j)), (3, .inr (.inr (some (z)))), (0, .inr (.inr (some (770))))]) (st' := [.inr (.inr (some (z))), .inl (j)]) rfl ?_
    refine ez_gR hBg tz rfl rfl tq_13 rfl rfl (fun (t1 : _ = 16) (t1' : 1 ≤ qz_I g z 8) => ?_)
    rw [show qz_P g z 8 = z + 2 from (ez_l78 hBg tz).2]
    refine ez_go (n := 1) (pc' := 68) (L' := [(4, .inl (j)), (3, .inr (.inr (some (z)))), (0, .inr (.inr (some (770))))]) (st' := [.inl (0), .inr (.inr (some (z + 2))), .inl (j)]) rfl ?_
    have n3 : 3 ≤ qz_N g (z + 2) ∧ qz_N g (z + 2) ≤ 3 := ez_len hBg tz2 tq_16 rfl
    refine ez_aI hBg tz2 rfl tq_16 rfl rfl (by omega) (by omega) (fun (b2 : 0 ≤ qz_I g (z + 2) (0 : Int).toNat) (b2' : qz_I g (z + 2) (0 : Int).toNat ≤ 18) => ?_)
    rw [show qz_I g (z + 2) (0 : Int).toNat = (m.length : Int) from by first | exact mg.1 | (rw [ez_K8]; exact mg.1)]
    refine ez_icmp rfl rfl ⟨by first | omega | exact (sz_i32 _).1, by first | omega | exact (sz_i32 _).2⟩ ⟨by first | omega | exact (sz_i32 _).1, by first | omega | exact (sz_i32 _).2⟩ (fun (c4 : ((m.length : Int)) ≤ (j)) => ?_) (fun (c4 : ¬(((m.length : Int)) ≤ (j))) => ?_)
    · skip
      have ej : j = (m.length : Int) := by omega
      rw [show j.toNat = m.length by omega, List.take_length] at ag
      exact ez_ret0 rfl rfl (k1 (by have := ag.1; rw [List.length_append] at this; have : 0 ≤ qz_I g 770 30 ∧ qz_I g 770 30 ≤ 2000 := ez_fB (cl := 11) (k := 30) hBg t770 tq_75 rfl rfl (by decide); omega) g hBg hk hrm ag)
    · skip
      refine ez_go (n := 2) (pc' := 74) (L' := [(4, .inl (j)), (3, .inr (.inr (some (z)))), (0, .inr (.inr (some (770))))]) (st' := [.inr (.inr (some (770))), .inr (.inr (some (770)))]) rfl ?_
      refine ez_gR hBg t770 rfl rfl tq_75 rfl rfl (fun (t5 : _ = 17) (t5' : 1 ≤ qz_I g 770 9) => ?_)
      rw [show qz_P g 770 9 = po g from rfl]
      refine ez_go (n := 1) (pc' := 78) (L' := [(4, .inl (j)), (3, .inr (.inr (some (z)))), (0, .inr (.inr (some (770))))]) (st' := [.inr (.inr (some (z))), .inr (.inr (some (po g))), .inr (.inr (some (770)))]) rfl ?_
      refine ez_gR hBg tz rfl rfl tq_13 rfl rfl (fun (t6 : _ = 15) (t6' : 1 ≤ qz_I g z 7) => ?_)
      rw [show qz_P g z 7 = z + 1 from (ez_l78 hBg tz).1]
      refine ez_go (n := 1) (pc' := 82) (L' := [(4, .inl (j)), (3, .inr (.inr (some (z)))), (0, .inr (.inr (some (770))))]) (st' := [.inl (0), .inr (.inr (some (z + 1))), .inr (.inr (some (po g))), .inr (.inr (some (770)))]) rfl ?_
      have n8 : 3 ≤ qz_N g (z + 1) ∧ qz_N g (z + 1) ≤ 3 := ez_len hBg tz1 tq_15 rfl
      refine ez_aI hBg tz1 rfl tq_15 rfl rfl (by omega) (by omega) (fun (b7 : 0 ≤ qz_I g (z + 1) (0 : Int).toNat) (b7' : qz_I g (z + 1) (0 : Int).toNat ≤ 38500) => ?_)
      have m2 := mg.2.1; have m3 := mg.2.2.1
      have z9 : qz_I g (z + 1) (0 : Int).toNat = qz_I g (z + 1) 0 := rfl
      have l9 : j.toNat < m.length := by omega
      have hv := List.getElem?_eq_getElem l9
      refine ez_go (n := 2) (pc' := 86) (L' := [(4, .inl (j)), (3, .inr (.inr (some (z)))), (0, .inr (.inr (some (770))))]) (st' := [.inl ((qz_I g (z + 1) (0 : Int).toNat) + (j)), .inr (.inr (some (po g))), .inr (.inr (some (770)))]) rfl ?_
      have n10 : 1024 ≤ qz_N g (po g) ∧ qz_N g (po g) ≤ 77100 := ez_len hBg (ez_tls hBg t770).2 tq_17 rfl
      refine ez_aI hBg (ez_tls hBg t770).2 rfl tq_17 rfl rfl (by omega) (by omega) (fun (b9 : -2147483648 ≤ qz_I g (po g) ((qz_I g (z + 1) (0 : Int).toNat) + (j)).toNat) (b9' : qz_I g (po g) ((qz_I g (z + 1) (0 : Int).toNat) + (j)).toNat ≤ 2147483647) => ?_)
      have ev := mg.2.2.2 _ _ hv
      have vr : ez_rg m[j.toNat] := ptl_rg pm _ _ hv
      rw [show qz_I g (po g) ((qz_I g (z + 1) (0 : Int).toNat) + (j)).toNat = m[j.toNat] from by unfold pl at ev; rw [show ((j.toNat : Nat) : Int) = j by omega] at ev; exact ev]
      refine ez_cv hBg t770 rfl rfl rfl tq_75 rfl rfl rfl (rd_make hBg t770 ag vr (by omega) (by omega) (fun lt g2 hB2 f2 i2 a2 => ez_K0 ?_) (fun ge => ez_Kp (xc_exc hBg rfl) rfl (k0 (by rw [List.length_append, List.length_take] at ge; omega) g hBg hk hrm)))
      have nk2 := hk.trans (nk.fr hBg t770 hX f2 (fun q9 hq9 => by unfold nz_PL at hq9; rcases Bool.or_eq_true_iff.mp hq9 with w | w; (· exact Or.inl (Nat.eq_of_beq_eq_true w)); (· exact Or.inr (Or.inl (Nat.eq_of_beq_eq_true w)))) i2)
      have rm2 : g2.1 = h.1 ∧ g2.2.1 = h.2.1 := ⟨f2.1.trans hrm.1, f2.2.1.trans hrm.2⟩
      refine ez_go (n := 2) (pc' := 61) (L' := [(4, .inl (j + 1)), (3, .inr (.inr (some (z)))), (0, .inr (.inr (some (770))))]) (st' := []) rfl ?_
      exfalso; omega
  | succ n ih =>
    intro j g hn0 j0 j1 hBg hk hrm ag
    have mg := hk.mrwx hB hX tz tz1 tz2 mr
    have npo : pn g ≤ qz_N g (po g) := (hk.mIx hI hBg).2.2.1.1.2
    refine ez_go (n := 2) (pc' := 64) (L' := [(4, .inl (j)), (3, .inr (.inr (some (z)))), (0, .inr (.inr (some (770))))]) (st' := [.inr (.inr (some (z))), .inl (j)]) rfl ?_
    refine ez_gR hBg tz rfl rfl tq_13 rfl rfl (fun (t1 : _ = 16) (t1' : 1 ≤ qz_I g z 8) => ?_)
    rw [show qz_P g z 8 = z + 2 from (ez_l78 hBg tz).2]
    refine ez_go (n := 1) (pc' := 68) (L' := [(4, .inl (j)), (3, .inr (.inr (some (z)))), (0, .inr (.inr (some (770))))]) (st' := [.inl (0), .inr (.inr (some (z + 2))), .inl (j)]) rfl ?_
    have n3 : 3 ≤ qz_N g (z + 2) ∧ qz_N g (z + 2) ≤ 3 := ez_len hBg tz2 tq_16 rfl
    refine ez_aI hBg tz2 rfl tq_16 rfl rfl (by omega) (by omega) (fun (b2 : 0 ≤ qz_I g (z + 2) (0 : Int).toNat) (b2' : qz_I g (z + 2) (0 : Int).toNat ≤ 18) => ?_)
    rw [show qz_I g (z + 2) (0 : Int).toNat = (m.length : Int) from by first | exact mg.1 | (rw [ez_K8]; exact mg.1)]
    refine ez_icmp rfl rfl ⟨by first | omega | exact (sz_i32 _).1, by first | omega | exact (sz_i32 _).2⟩ ⟨by first | omega | exact (sz_i32 _).1, by first | omega | exact (sz_i32 _).2⟩ (fun (c4 : ((m.length : Int)) ≤ (j)) => ?_) (fun (c4 : ¬(((m.length : Int)) ≤ (j))) => ?_)
    · skip
      have ej : j = (m.length : Int) := by omega
      rw [show j.toNat = m.length by omega, List.take_length] at ag
      exact ez_ret0 rfl rfl (k1 (by have := ag.1; rw [List.length_append] at this; have : 0 ≤ qz_I g 770 30 ∧ qz_I g 770 30 ≤ 2000 := ez_fB (cl := 11) (k := 30) hBg t770 tq_75 rfl rfl (by decide); omega) g hBg hk hrm ag)
    · skip
      refine ez_go (n := 2) (pc' := 74) (L' := [(4, .inl (j)), (3, .inr (.inr (some (z)))), (0, .inr (.inr (some (770))))]) (st' := [.inr (.inr (some (770))), .inr (.inr (some (770)))]) rfl ?_
      refine ez_gR hBg t770 rfl rfl tq_75 rfl rfl (fun (t5 : _ = 17) (t5' : 1 ≤ qz_I g 770 9) => ?_)
      rw [show qz_P g 770 9 = po g from rfl]
      refine ez_go (n := 1) (pc' := 78) (L' := [(4, .inl (j)), (3, .inr (.inr (some (z)))), (0, .inr (.inr (some (770))))]) (st' := [.inr (.inr (some (z))), .inr (.inr (some (po g))), .inr (.inr (some (770)))]) rfl ?_
      refine ez_gR hBg tz rfl rfl tq_13 rfl rfl (fun (t6 : _ = 15) (t6' : 1 ≤ qz_I g z 7) => ?_)
      rw [show qz_P g z 7 = z + 1 from (ez_l78 hBg tz).1]
      refine ez_go (n := 1) (pc' := 82) (L' := [(4, .inl (j)), (3, .inr (.inr (some (z)))), (0, .inr (.inr (some (770))))]) (st' := [.inl (0), .inr (.inr (some (z + 1))), .inr (.inr (some (po g))), .inr (.inr (some (770)))]) rfl ?_
      have n8 : 3 ≤ qz_N g (z + 1) ∧ qz_N g (z + 1) ≤ 3 := ez_len hBg tz1 tq_15 rfl
      refine ez_aI hBg tz1 rfl tq_15 rfl rfl (by omega) (by omega) (fun (b7 : 0 ≤ qz_I g (z + 1) (0 : Int).toNat) (b7' : qz_I g (z + 1) (0 : Int).toNat ≤ 38500) => ?_)
      have m2 := mg.2.1; have m3 := mg.2.2.1
      have z9 : qz_I g (z + 1) (0 : Int).toNat = qz_I g (z + 1) 0 := rfl
      have l9 : j.toNat < m.length := by omega
      have hv := List.getElem?_eq_getElem l9
      refine ez_go (n := 2) (pc' := 86) (L' := [(4, .inl (j)), (3, .inr (.inr (some (z)))), (0, .inr (.inr (some (770))))]) (st' := [.inl ((qz_I g (z + 1) (0 : Int).toNat) + (j)), .inr (.inr (some (po g))), .inr (.inr (some (770)))]) rfl ?_
      have n10 : 1024 ≤ qz_N g (po g) ∧ qz_N g (po g) ≤ 77100 := ez_len hBg (ez_tls hBg t770).2 tq_17 rfl
      refine ez_aI hBg (ez_tls hBg t770).2 rfl tq_17 rfl rfl (by omega) (by omega) (fun (b9 : -2147483648 ≤ qz_I g (po g) ((qz_I g (z + 1) (0 : Int).toNat) + (j)).toNat) (b9' : qz_I g (po g) ((qz_I g (z + 1) (0 : Int).toNat) + (j)).toNat ≤ 2147483647) => ?_)
      have ev := mg.2.2.2 _ _ hv
      have vr : ez_rg m[j.toNat] := ptl_rg pm _ _ hv
      rw [show qz_I g (po g) ((qz_I g (z + 1) (0 : Int).toNat) + (j)).toNat = m[j.toNat] from by unfold pl at ev; rw [show ((j.toNat : Nat) : Int) = j by omega] at ev; exact ev]
      refine ez_cv hBg t770 rfl rfl rfl tq_75 rfl rfl rfl (rd_make hBg t770 ag vr (by omega) (by omega) (fun lt g2 hB2 f2 i2 a2 => ez_K0 ?_) (fun ge => ez_Kp (xc_exc hBg rfl) rfl (k0 (by rw [List.length_append, List.length_take] at ge; omega) g hBg hk hrm)))
      have nk2 := hk.trans (nk.fr hBg t770 hX f2 (fun q9 hq9 => by unfold nz_PL at hq9; rcases Bool.or_eq_true_iff.mp hq9 with w | w; (· exact Or.inl (Nat.eq_of_beq_eq_true w)); (· exact Or.inr (Or.inl (Nat.eq_of_beq_eq_true w)))) i2)
      have rm2 : g2.1 = h.1 ∧ g2.2.1 = h.2.1 := ⟨f2.1.trans hrm.1, f2.2.1.trans hrm.2⟩
      refine ez_go (n := 2) (pc' := 61) (L' := [(4, .inl (j + 1)), (3, .inr (.inr (some (z)))), (0, .inr (.inr (some (770))))]) (st' := []) rfl ?_
      refine ez_less [(4, .inl (j + 1)), (3, .inr (.inr (some (z)))), (0, .inr (.inr (some (770))))] rfl ⟨rfl, rfl, rfl, trivial⟩ ?_
      refine ih (j + 1) g2 (by omega) (by omega) (by omega) hB2 nk2 rm2 ?_
      rw [show (j + 1).toNat = j.toNat + 1 by omega, List.take_succ, hv, Option.toList_some, ← List.append_assoc]; exact a2

theorem rd_mf1 {p : Int} (hI : mI τ h Ls b) (hd : dok (yD Ls)) (lr : ez_rg loc) (pb : 0 ≤ p ∧ p ≤ 1114111) (ag : tm h l) (hr1 : h.1 + 1 ≤ 600192) (hr2 : h.2.1 + 6 ≤ 7302232) (k1 : l.length + (fdl loc (yD Ls p) p).length ≤ 2000 → ∀ g, ez_B τ g → nk τ h τ g → g.1 = h.1 ∧ g.2.1 = h.2.1 → tm g (l ++ fdl loc (yD Ls p) p) → Q (.inl none, g)) (k0 : 2000 < l.length + (fdl loc (yD Ls p) p).length → ∀ g, ez_B τ g → nk τ h τ g → g.1 = h.1 ∧ g.2.1 = h.2.1 → Q (.inr g.1, xc g 0)) {z : Nat} {m : List Int} (tz : τ z = 13) (mr : mrw h (z + 1) (z + 2) 0 m) (fo : fdo loc (yD Ls p) = some m) : ez_W (d + 7) cm_256 46 [(3, .inr (.inr (some (z)))), (0, .inr (.inr (some (770)))), (1, .inl (p)), (2, .inl (loc))] [] h Q := by
  have hB := hI.1
  have t770 : τ 770 = 75 := hI.2.1 770 (by decide)
  have b12 : 0 ≤ qz_I h 770 12 ∧ qz_I h 770 12 ≤ 512 := ez_fB (cl := 11) (k := 12) hB t770 tq_75 rfl rfl (by decide)
  have lce : lc h = qz_I h 770 12 := rfl
  have nls : lc h ≤ qz_N h (ls h) := hI.2.2.1.1.1
  have hX := hI.2.1
  have pr : ez_rg p := ⟨by omega, by omega⟩
  obtain ⟨lr1, lr2⟩ := id lr
  have tt : τ (z + 1) = 15 ∧ τ (z + 2) = 16 := ⟨(hI.2.2.2.2.1.2 z tz).1, (hI.2.2.2.2.1.2 z tz).2.1⟩
  have ef : fdl loc (yD Ls p) p = m := fdl_s fo
  have ro := fdo_ok hd fo
  refine ez_go (n := 1) (pc' := 47) (L' := [(3, .inr (.inr (some (z)))), (0, .inr (.inr (some (770)))), (1, .inl (p)), (2, .inl (loc))]) (st' := [.inr (.inr (some (z)))]) rfl ?_
  refine ez_nonn1 rfl rfl ?_
  refine ez_go (n := 2) (pc' := 61) (L' := [(4, .inl (0)), (3, .inr (.inr (some (z)))), (0, .inr (.inr (some (770)))), (1, .inl (p)), (2, .inl (loc))]) (st' := []) rfl ?_
  refine ez_less [(4, .inl (0)), (3, .inr (.inr (some (z)))), (0, .inr (.inr (some (770))))] rfl ⟨rfl, rfl, rfl, trivial⟩ ?_
  exact rd_mfr hI tz tt.1 tt.2 mr ro.1 ro.2 hr1 hr2 (fun lt g gB gk gr gt => by rw [ef] at k1; exact k1 lt g gB gk gr gt) (fun lt g gB gk gr => by rw [ef] at k0; exact k0 lt g gB gk gr) _ 0 h rfl (by omega) (by omega) hB (nk.refl τ h) ⟨rfl, rfl⟩ (by rw [show (0 : Int).toNat = 0 from rfl, List.take_zero, List.append_nil]; exact ag)

theorem rd_mf0 {p : Int} (hI : mI τ h Ls b) (hd : dok (yD Ls)) (lr : ez_rg loc) (pb : 0 ≤ p ∧ p ≤ 1114111) (ag : tm h l) (hr1 : h.1 + 1 ≤ 600192) (hr2 : h.2.1 + 6 ≤ 7302232) (k1 : l.length + (fdl loc (yD Ls p) p).length ≤ 2000 → ∀ g, ez_B τ g → nk τ h τ g → g.1 = h.1 ∧ g.2.1 = h.2.1 → tm g (l ++ fdl loc (yD Ls p) p) → Q (.inl none, g)) (k0 : 2000 < l.length + (fdl loc (yD Ls p) p).length → ∀ g, ez_B τ g → nk τ h τ g → g.1 = h.1 ∧ g.2.1 = h.2.1 → Q (.inr g.1, xc g 0)) (fo : fdo loc (yD Ls p) = none) : ez_W (d + 7) cm_256 46 [(3, .inr (.inr none)), (0, .inr (.inr (some (770)))), (1, .inl (p)), (2, .inl (loc))] [] h Q := by
  have hB := hI.1
  have t770 : τ 770 = 75 := hI.2.1 770 (by decide)
  have b12 : 0 ≤ qz_I h 770 12 ∧ qz_I h 770 12 ≤ 512 := ez_fB (cl := 11) (k := 12) hB t770 tq_75 rfl rfl (by decide)
  have lce : lc h = qz_I h 770 12 := rfl
  have nls : lc h ≤ qz_N h (ls h) := hI.2.2.1.1.1
  have hX := hI.2.1
  have pr : ez_rg p := ⟨by omega, by omega⟩
  obtain ⟨lr1, lr2⟩ := id lr
  have ef : fdl loc (yD Ls p) p = [p] := fdl_n fo
  refine ez_go (n := 1) (pc' := 47) (L' := [(3, .inr (.inr none)), (0, .inr (.inr (some (770)))), (1, .inl (p)), (2, .inl (loc))]) (st' := [.inr (.inr none)]) rfl ?_
  refine ez_nonn0 rfl ?_
  refine ez_go (n := 2) (pc' := 52) (L' := [(3, .inr (.inr none)), (0, .inr (.inr (some (770)))), (1, .inl (p)), (2, .inl (loc))]) (st' := [.inl (p), .inr (.inr (some (770)))]) rfl ?_
  refine ez_cv hB t770 rfl rfl rfl tq_75 rfl rfl rfl (rd_make hB t770 ag pr (by omega) (by omega) (fun lt g2 hB2 f2 i2 a2 => ez_K0 ?_) (fun ge => ez_Kp (xc_exc hB rfl) rfl (by rw [ef] at k0; exact k0 (by show 2000 < l.length + 1; omega) h hB (nk.refl τ h) ⟨rfl, rfl⟩)))
  have nk2 := nk.fr hB t770 hX f2 (fun q9 hq9 => by unfold nz_PL at hq9; rcases Bool.or_eq_true_iff.mp hq9 with w | w; (· exact Or.inl (Nat.eq_of_beq_eq_true w)); (· exact Or.inr (Or.inl (Nat.eq_of_beq_eq_true w)))) i2
  refine ez_go (n := 1) (pc' := 96) (L' := [(3, .inr (.inr none)), (0, .inr (.inr (some (770)))), (1, .inl (p)), (2, .inl (loc))]) (st' := []) rfl ?_
  exact ez_ret0 rfl rfl (by rw [ef] at k1; exact k1 (by show l.length + 1 ≤ 2000; omega) g2 hB2 nk2 ⟨f2.1, f2.2.1⟩ a2)

theorem rd_mfold {p : Int} (hI : mI τ h Ls b) (hd : dok (yD Ls)) (lr : ez_rg loc) (pb : 0 ≤ p ∧ p ≤ 1114111) (ag : tm h l) (hr1 : h.1 + 1 ≤ 600192) (hr2 : h.2.1 + 6 ≤ 7302232) (k1 : l.length + (fdl loc (yD Ls p) p).length ≤ 2000 → ∀ g, ez_B τ g → nk τ h τ g → g.1 = h.1 ∧ g.2.1 = h.2.1 → tm g (l ++ fdl loc (yD Ls p) p) → Q (.inl none, g)) (k0 : 2000 < l.length + (fdl loc (yD Ls p) p).length → ∀ g, ez_B τ g → nk τ h τ g → g.1 = h.1 ∧ g.2.1 = h.2.1 → Q (.inr g.1, xc g 0)) : ez_W (d + 7) cm_256 0 [(0, .inr (.inr (some (770)))), (1, .inl (p)), (2, .inl (loc))] [] h Q := by
  have hB := hI.1
  have t770 : τ 770 = 75 := hI.2.1 770 (by decide)
  have b12 : 0 ≤ qz_I h 770 12 ∧ qz_I h 770 12 ≤ 512 := ez_fB (cl := 11) (k := 12) hB t770 tq_75 rfl rfl (by decide)
  have lce : lc h = qz_I h 770 12 := rfl
  have nls : lc h ≤ qz_N h (ls h) := hI.2.2.1.1.1
  have hX := hI.2.1
  have pr : ez_rg p := ⟨by omega, by omega⟩
  obtain ⟨lr1, lr2⟩ := id lr
  refine ez_go (n := 2) (pc' := 2) (L' := [(0, .inr (.inr (some (770)))), (1, .inl (p)), (2, .inl (loc))]) (st' := [.inl (1), .inl (loc)]) rfl ?_
  refine ez_icmp rfl rfl ⟨by first | omega | exact (sz_i32 _).1, by first | omega | exact (sz_i32 _).2⟩ ⟨by first | omega | exact (sz_i32 _).1, by first | omega | exact (sz_i32 _).2⟩ (fun (c1 : (loc) = (1)) => ?_) (fun (c1 : ¬((loc) = (1))) => ?_)
  · skip
    refine ez_go (n := 3) (pc' := 14) (L' := [(0, .inr (.inr (some (770)))), (1, .inl (p)), (2, .inl (loc))]) (st' := [.inl (84), .inl (p), .inr (.inr (some (770)))]) rfl ?_
    refine ez_cv hB t770 rfl rfl rfl tq_75 rfl rfl rfl (rd_mfld hI pr (by omega) (fun o84 of84 => ez_KA ?_))
    generalize er84 : fdc 84 (yD Ls p) = r9 at of84
    obtain e9 | ⟨s, e9⟩ : r9 = none ∨ ∃ s, r9 = some s := by cases r9 with | none => exact Or.inl rfl | some s => exact Or.inr ⟨s, rfl⟩
    · have eo := of84.1 e9
      subst eo
      have n84 : fdc 84 (yD Ls p) = none := er84.trans e9
      refine ez_go (n := 3) (pc' := 23) (L' := [(3, .inr (.inr none)), (0, .inr (.inr (some (770)))), (1, .inl (p)), (2, .inl (loc))]) (st' := [.inr (.inr none)]) rfl ?_
      refine ez_nonn0 rfl ?_
      refine ez_go (n := 3) (pc' := 30) (L' := [(3, .inr (.inr none)), (0, .inr (.inr (some (770)))), (1, .inl (p)), (2, .inl (loc))]) (st' := [.inl (70), .inl (p), .inr (.inr (some (770)))]) rfl ?_
      refine ez_cv hB t770 rfl rfl rfl tq_75 rfl rfl rfl (rd_mfld hI pr (by omega) (fun o70 of70 => ez_KA ?_))
      generalize er70 : fdc 70 (yD Ls p) = r9 at of70
      obtain e9 | ⟨s, e9⟩ : r9 = none ∨ ∃ s, r9 = some s := by cases r9 with | none => exact Or.inl rfl | some s => exact Or.inr ⟨s, rfl⟩
      · have eo := of70.1 e9
        subst eo
        have n70 : fdc 70 (yD Ls p) = none := er70.trans e9
        refine ez_go (n := 2) (pc' := 35) (L' := [(3, .inr (.inr none)), (0, .inr (.inr (some (770)))), (1, .inl (p)), (2, .inl (loc))]) (st' := [.inr (.inr none)]) rfl ?_
        refine ez_nonn0 rfl ?_
        refine ez_go (n := 3) (pc' := 42) (L' := [(3, .inr (.inr none)), (0, .inr (.inr (some (770)))), (1, .inl (p)), (2, .inl (loc))]) (st' := [.inl (67), .inl (p), .inr (.inr (some (770)))]) rfl ?_
        refine ez_cv hB t770 rfl rfl rfl tq_75 rfl rfl rfl (rd_mfld hI pr (by omega) (fun o67 of67 => ez_KA ?_))
        generalize er67 : fdc 67 (yD Ls p) = r9 at of67
        obtain e9 | ⟨s, e9⟩ : r9 = none ∨ ∃ s, r9 = some s := by cases r9 with | none => exact Or.inl rfl | some s => exact Or.inr ⟨s, rfl⟩
        · have eo := of67.1 e9
          subst eo
          have n67 : fdc 67 (yD Ls p) = none := er67.trans e9
          refine ez_go (n := 1) (pc' := 46) (L' := [(3, .inr (.inr none)), (0, .inr (.inr (some (770)))), (1, .inl (p)), (2, .inl (loc))]) (st' := []) rfl ?_
          refine ez_less [(3, .inr (.inr none)), (0, .inr (.inr (some (770)))), (1, .inl (p)), (2, .inl (loc))] rfl ⟨rfl, rfl, rfl, rfl, trivial⟩ ?_
          exact rd_mf0 hI hd lr pb ag hr1 hr2 k1 k0 (by rw [fdo_c, if_neg (fun w => by first | (exfalso; omega) | exact w.2 n84), if_neg (fun w => w n70)]; exact n67)
        · obtain ⟨z, eo, tz, mr⟩ := of67.2 s e9
          subst eo
          have y67 : fdc 67 (yD Ls p) = some s := er67.trans e9
          refine ez_go (n := 1) (pc' := 46) (L' := [(3, .inr (.inr (some (z)))), (0, .inr (.inr (some (770)))), (1, .inl (p)), (2, .inl (loc))]) (st' := []) rfl ?_
          refine ez_less [(3, .inr (.inr (some (z)))), (0, .inr (.inr (some (770)))), (1, .inl (p)), (2, .inl (loc))] rfl ⟨rfl, rfl, rfl, rfl, trivial⟩ ?_
          exact rd_mf1 hI hd lr pb ag hr1 hr2 k1 k0 tz mr (by rw [fdo_c, if_neg (fun w => by first | (exfalso; omega) | exact w.2 n84), if_neg (fun w => w n70)]; exact y67)
      · obtain ⟨z, eo, tz, mr⟩ := of70.2 s e9
        subst eo
        have y70 : fdc 70 (yD Ls p) = some s := er70.trans e9
        refine ez_go (n := 2) (pc' := 35) (L' := [(3, .inr (.inr (some (z)))), (0, .inr (.inr (some (770)))), (1, .inl (p)), (2, .inl (loc))]) (st' := [.inr (.inr (some (z)))]) rfl ?_
        refine ez_nonn1 rfl rfl ?_
        refine ez_less [(3, .inr (.inr (some (z)))), (0, .inr (.inr (some (770)))), (1, .inl (p)), (2, .inl (loc))] rfl ⟨rfl, rfl, rfl, rfl, trivial⟩ ?_
        exact rd_mf1 hI hd lr pb ag hr1 hr2 k1 k0 tz mr (by rw [fdo_c, if_neg (fun w => by first | (exfalso; omega) | exact w.2 n84), if_pos (by rw [y70]; exact fun w => by cases w)]; exact y70)
    · obtain ⟨z, eo, tz, mr⟩ := of84.2 s e9
      subst eo
      have y84 : fdc 84 (yD Ls p) = some s := er84.trans e9
      refine ez_go (n := 3) (pc' := 23) (L' := [(3, .inr (.inr (some (z)))), (0, .inr (.inr (some (770)))), (1, .inl (p)), (2, .inl (loc))]) (st' := [.inr (.inr (some (z)))]) rfl ?_
      refine ez_nonn1 rfl rfl ?_
      refine ez_go (n := 1) (pc' := 35) (L' := [(3, .inr (.inr (some (z)))), (0, .inr (.inr (some (770)))), (1, .inl (p)), (2, .inl (loc))]) (st' := [.inr (.inr (some (z)))]) rfl ?_
      refine ez_nonn1 rfl rfl ?_
      refine ez_less [(3, .inr (.inr (some (z)))), (0, .inr (.inr (some (770)))), (1, .inl (p)), (2, .inl (loc))] rfl ⟨rfl, rfl, rfl, rfl, trivial⟩ ?_
      exact rd_mf1 hI hd lr pb ag hr1 hr2 k1 k0 tz mr (by rw [fdo_c, if_pos ⟨by omega, by rw [y84]; exact fun w => by cases w⟩]; exact y84)
  · skip
    refine ez_go (n := 2) (pc' := 7) (L' := [(0, .inr (.inr (some (770)))), (1, .inl (p)), (2, .inl (loc))]) (st' := [.inl (2), .inl (loc)]) rfl ?_
    refine ez_icmp rfl rfl ⟨by first | omega | exact (sz_i32 _).1, by first | omega | exact (sz_i32 _).2⟩ ⟨by first | omega | exact (sz_i32 _).1, by first | omega | exact (sz_i32 _).2⟩ (fun (c2 : (loc) ≠ (2)) => ?_) (fun (c2 : ¬((loc) ≠ (2))) => ?_)
    · skip
      refine ez_go (n := 3) (pc' := 23) (L' := [(3, .inr (.inr none)), (0, .inr (.inr (some (770)))), (1, .inl (p)), (2, .inl (loc))]) (st' := [.inr (.inr none)]) rfl ?_
      refine ez_nonn0 rfl ?_
      refine ez_go (n := 3) (pc' := 30) (L' := [(3, .inr (.inr none)), (0, .inr (.inr (some (770)))), (1, .inl (p)), (2, .inl (loc))]) (st' := [.inl (70), .inl (p), .inr (.inr (some (770)))]) rfl ?_
      refine ez_cv hB t770 rfl rfl rfl tq_75 rfl rfl rfl (rd_mfld hI pr (by omega) (fun o70 of70 => ez_KA ?_))
      generalize er70 : fdc 70 (yD Ls p) = r9 at of70
      obtain e9 | ⟨s, e9⟩ : r9 = none ∨ ∃ s, r9 = some s := by cases r9 with | none => exact Or.inl rfl | some s => exact Or.inr ⟨s, rfl⟩
      · have eo := of70.1 e9
        subst eo
        have n70 : fdc 70 (yD Ls p) = none := er70.trans e9
        refine ez_go (n := 2) (pc' := 35) (L' := [(3, .inr (.inr none)), (0, .inr (.inr (some (770)))), (1, .inl (p)), (2, .inl (loc))]) (st' := [.inr (.inr none)]) rfl ?_
        refine ez_nonn0 rfl ?_
        refine ez_go (n := 3) (pc' := 42) (L' := [(3, .inr (.inr none)), (0, .inr (.inr (some (770)))), (1, .inl (p)), (2, .inl (loc))]) (st' := [.inl (67), .inl (p), .inr (.inr (some (770)))]) rfl ?_
        refine ez_cv hB t770 rfl rfl rfl tq_75 rfl rfl rfl (rd_mfld hI pr (by omega) (fun o67 of67 => ez_KA ?_))
        generalize er67 : fdc 67 (yD Ls p) = r9 at of67
        obtain e9 | ⟨s, e9⟩ : r9 = none ∨ ∃ s, r9 = some s := by cases r9 with | none => exact Or.inl rfl | some s => exact Or.inr ⟨s, rfl⟩
        · have eo := of67.1 e9
          subst eo
          have n67 : fdc 67 (yD Ls p) = none := er67.trans e9
          refine ez_go (n := 1) (pc' := 46) (L' := [(3, .inr (.inr none)), (0, .inr (.inr (some (770)))), (1, .inl (p)), (2, .inl (loc))]) (st' := []) rfl ?_
          refine ez_less [(3, .inr (.inr none)), (0, .inr (.inr (some (770)))), (1, .inl (p)), (2, .inl (loc))] rfl ⟨rfl, rfl, rfl, rfl, trivial⟩ ?_
          exact rd_mf0 hI hd lr pb ag hr1 hr2 k1 k0 (by rw [fdo_c, if_neg (fun w => by first | (exfalso; omega) | exact w.2 n84), if_neg (fun w => w n70)]; exact n67)
        · obtain ⟨z, eo, tz, mr⟩ := of67.2 s e9
          subst eo
          have y67 : fdc 67 (yD Ls p) = some s := er67.trans e9
          refine ez_go (n := 1) (pc' := 46) (L' := [(3, .inr (.inr (some (z)))), (0, .inr (.inr (some (770)))), (1, .inl (p)), (2, .inl (loc))]) (st' := []) rfl ?_
          refine ez_less [(3, .inr (.inr (some (z)))), (0, .inr (.inr (some (770)))), (1, .inl (p)), (2, .inl (loc))] rfl ⟨rfl, rfl, rfl, rfl, trivial⟩ ?_
          exact rd_mf1 hI hd lr pb ag hr1 hr2 k1 k0 tz mr (by rw [fdo_c, if_neg (fun w => by first | (exfalso; omega) | exact w.2 n84), if_neg (fun w => w n70)]; exact y67)
      · obtain ⟨z, eo, tz, mr⟩ := of70.2 s e9
        subst eo
        have y70 : fdc 70 (yD Ls p) = some s := er70.trans e9
        refine ez_go (n := 2) (pc' := 35) (L' := [(3, .inr (.inr (some (z)))), (0, .inr (.inr (some (770)))), (1, .inl (p)), (2, .inl (loc))]) (st' := [.inr (.inr (some (z)))]) rfl ?_
        refine ez_nonn1 rfl rfl ?_
        refine ez_less [(3, .inr (.inr (some (z)))), (0, .inr (.inr (some (770)))), (1, .inl (p)), (2, .inl (loc))] rfl ⟨rfl, rfl, rfl, rfl, trivial⟩ ?_
        exact rd_mf1 hI hd lr pb ag hr1 hr2 k1 k0 tz mr (by rw [fdo_c, if_neg (fun w => by first | (exfalso; omega) | exact w.2 n84), if_pos (by rw [y70]; exact fun w => by cases w)]; exact y70)
    · skip
      refine ez_go (n := 3) (pc' := 14) (L' := [(0, .inr (.inr (some (770)))), (1, .inl (p)), (2, .inl (loc))]) (st' := [.inl (84), .inl (p), .inr (.inr (some (770)))]) rfl ?_
      refine ez_cv hB t770 rfl rfl rfl tq_75 rfl rfl rfl (rd_mfld hI pr (by omega) (fun o84 of84 => ez_KA ?_))
      generalize er84 : fdc 84 (yD Ls p) = r9 at of84
      obtain e9 | ⟨s, e9⟩ : r9 = none ∨ ∃ s, r9 = some s := by cases r9 with | none => exact Or.inl rfl | some s => exact Or.inr ⟨s, rfl⟩
      · have eo := of84.1 e9
        subst eo
        have n84 : fdc 84 (yD Ls p) = none := er84.trans e9
        refine ez_go (n := 3) (pc' := 23) (L' := [(3, .inr (.inr none)), (0, .inr (.inr (some (770)))), (1, .inl (p)), (2, .inl (loc))]) (st' := [.inr (.inr none)]) rfl ?_
        refine ez_nonn0 rfl ?_
        refine ez_go (n := 3) (pc' := 30) (L' := [(3, .inr (.inr none)), (0, .inr (.inr (some (770)))), (1, .inl (p)), (2, .inl (loc))]) (st' := [.inl (70), .inl (p), .inr (.inr (some (770)))]) rfl ?_
        refine ez_cv hB t770 rfl rfl rfl tq_75 rfl rfl rfl (rd_mfld hI pr (by omega) (fun o70 of70 => ez_KA ?_))
        generalize er70 : fdc 70 (yD Ls p) = r9 at of70
        obtain e9 | ⟨s, e9⟩ : r9 = none ∨ ∃ s, r9 = some s := by cases r9 with | none => exact Or.inl rfl | some s => exact Or.inr ⟨s, rfl⟩
        · have eo := of70.1 e9
          subst eo
          have n70 : fdc 70 (yD Ls p) = none := er70.trans e9
          refine ez_go (n := 2) (pc' := 35) (L' := [(3, .inr (.inr none)), (0, .inr (.inr (some (770)))), (1, .inl (p)), (2, .inl (loc))]) (st' := [.inr (.inr none)]) rfl ?_
          refine ez_nonn0 rfl ?_
          refine ez_go (n := 3) (pc' := 42) (L' := [(3, .inr (.inr none)), (0, .inr (.inr (some (770)))), (1, .inl (p)), (2, .inl (loc))]) (st' := [.inl (67), .inl (p), .inr (.inr (some (770)))]) rfl ?_
          refine ez_cv hB t770 rfl rfl rfl tq_75 rfl rfl rfl (rd_mfld hI pr (by omega) (fun o67 of67 => ez_KA ?_))
          generalize er67 : fdc 67 (yD Ls p) = r9 at of67
          obtain e9 | ⟨s, e9⟩ : r9 = none ∨ ∃ s, r9 = some s := by cases r9 with | none => exact Or.inl rfl | some s => exact Or.inr ⟨s, rfl⟩
          · have eo := of67.1 e9
            subst eo
            have n67 : fdc 67 (yD Ls p) = none := er67.trans e9
            refine ez_go (n := 1) (pc' := 46) (L' := [(3, .inr (.inr none)), (0, .inr (.inr (some (770)))), (1, .inl (p)), (2, .inl (loc))]) (st' := []) rfl ?_
            refine ez_less [(3, .inr (.inr none)), (0, .inr (.inr (some (770)))), (1, .inl (p)), (2, .inl (loc))] rfl ⟨rfl, rfl, rfl, rfl, trivial⟩ ?_
            exact rd_mf0 hI hd lr pb ag hr1 hr2 k1 k0 (by rw [fdo_c, if_neg (fun w => by first | (exfalso; omega) | exact w.2 n84), if_neg (fun w => w n70)]; exact n67)
          · obtain ⟨z, eo, tz, mr⟩ := of67.2 s e9
            subst eo
            have y67 : fdc 67 (yD Ls p) = some s := er67.trans e9
            refine ez_go (n := 1) (pc' := 46) (L' := [(3, .inr (.inr (some (z)))), (0, .inr (.inr (some (770)))), (1, .inl (p)), (2, .inl (loc))]) (st' := []) rfl ?_
            refine ez_less [(3, .inr (.inr (some (z)))), (0, .inr (.inr (some (770)))), (1, .inl (p)), (2, .inl (loc))] rfl ⟨rfl, rfl, rfl, rfl, trivial⟩ ?_
            exact rd_mf1 hI hd lr pb ag hr1 hr2 k1 k0 tz mr (by rw [fdo_c, if_neg (fun w => by first | (exfalso; omega) | exact w.2 n84), if_neg (fun w => w n70)]; exact y67)
        · obtain ⟨z, eo, tz, mr⟩ := of70.2 s e9
          subst eo
          have y70 : fdc 70 (yD Ls p) = some s := er70.trans e9
          refine ez_go (n := 2) (pc' := 35) (L' := [(3, .inr (.inr (some (z)))), (0, .inr (.inr (some (770)))), (1, .inl (p)), (2, .inl (loc))]) (st' := [.inr (.inr (some (z)))]) rfl ?_
          refine ez_nonn1 rfl rfl ?_
          refine ez_less [(3, .inr (.inr (some (z)))), (0, .inr (.inr (some (770)))), (1, .inl (p)), (2, .inl (loc))] rfl ⟨rfl, rfl, rfl, rfl, trivial⟩ ?_
          exact rd_mf1 hI hd lr pb ag hr1 hr2 k1 k0 tz mr (by rw [fdo_c, if_neg (fun w => by first | (exfalso; omega) | exact w.2 n84), if_pos (by rw [y70]; exact fun w => by cases w)]; exact y70)
      · obtain ⟨z, eo, tz, mr⟩ := of84.2 s e9
        subst eo
        have y84 : fdc 84 (yD Ls p) = some s := er84.trans e9
        refine ez_go (n := 3) (pc' := 23) (L' := [(3, .inr (.inr (some (z)))), (0, .inr (.inr (some (770)))), (1, .inl (p)), (2, .inl (loc))]) (st' := [.inr (.inr (some (z)))]) rfl ?_
        refine ez_nonn1 rfl rfl ?_
        refine ez_go (n := 1) (pc' := 35) (L' := [(3, .inr (.inr (some (z)))), (0, .inr (.inr (some (770)))), (1, .inl (p)), (2, .inl (loc))]) (st' := [.inr (.inr (some (z)))]) rfl ?_
        refine ez_nonn1 rfl rfl ?_
        refine ez_less [(3, .inr (.inr (some (z)))), (0, .inr (.inr (some (770)))), (1, .inl (p)), (2, .inl (loc))] rfl ⟨rfl, rfl, rfl, rfl, trivial⟩ ?_
        exact rd_mf1 hI hd lr pb ag hr1 hr2 k1 k0 tz mr (by rw [fdo_c, if_pos ⟨by omega, by rw [y84]; exact fun w => by cases w⟩]; exact y84)

end EzMc
/-! The model: boundaries of WORDS, titles. (Written by wip/p2/py/pvy7.py.) -/
section EzMw
variable {d : Nat} {h : cz_H} {τ : Nat → Nat} {Q : cz_F → Prop} {Ls : List vz} {b : Int} {u l : List Int} {loc : Int} {q : Nat}
theorem rd_mpassed {v : Int} (vr : ez_rg v) (k1 : ign v → Q (.inl (some (ez_v (.inl 1))), h)) (k0 : ¬ ign v → Q (.inl (some (ez_v (.inl 0))), h)) : ez_W d cm_288 0 [(0, .inr (.inr (some (770)))), (1, .inl (v))] [] h Q := by
  obtain ⟨vr1, vr2⟩ := id vr
  refine ez_go (n := 2) (pc' := 2) (L' := [(0, .inr (.inr (some (770)))), (1, .inl (v))]) (st' := [.inl (4), .inl (v)]) rfl ?_
  refine ez_icmp rfl rfl ⟨by first | omega | exact (sz_i32 _).1, by first | omega | exact (sz_i32 _).2⟩ ⟨by first | omega | exact (sz_i32 _).1, by first | omega | exact (sz_i32 _).2⟩ (fun (c1 : (v) = (4)) => ?_) (fun (c1 : ¬((v) = (4))) => ?_)
  · skip
    refine ez_go (n := 2) (pc' := 21) (L' := [(0, .inr (.inr (some (770)))), (1, .inl (v))]) (st' := [.inl (1)]) rfl ?_
    exact ez_retZ rfl rfl (Or.inr rfl) (k1 (by omega))
  · skip
    refine ez_go (n := 2) (pc' := 7) (L' := [(0, .inr (.inr (some (770)))), (1, .inl (v))]) (st' := [.inl (5), .inl (v)]) rfl ?_
    refine ez_icmp rfl rfl ⟨by first | omega | exact (sz_i32 _).1, by first | omega | exact (sz_i32 _).2⟩ ⟨by first | omega | exact (sz_i32 _).1, by first | omega | exact (sz_i32 _).2⟩ (fun (c2 : (v) = (5)) => ?_) (fun (c2 : ¬((v) = (5))) => ?_)
    · skip
      refine ez_go (n := 2) (pc' := 21) (L' := [(0, .inr (.inr (some (770)))), (1, .inl (v))]) (st' := [.inl (1)]) rfl ?_
      exact ez_retZ rfl rfl (Or.inr rfl) (k1 (by omega))
    · skip
      refine ez_go (n := 2) (pc' := 13) (L' := [(0, .inr (.inr (some (770)))), (1, .inl (v))]) (st' := [.inl (7), .inl (v)]) rfl ?_
      refine ez_icmp rfl rfl ⟨by first | omega | exact (sz_i32 _).1, by first | omega | exact (sz_i32 _).2⟩ ⟨by first | omega | exact (sz_i32 _).1, by first | omega | exact (sz_i32 _).2⟩ (fun (c3 : (v) ≠ (7)) => ?_) (fun (c3 : ¬((v) ≠ (7))) => ?_)
      · skip
        refine ez_go (n := 1) (pc' := 21) (L' := [(0, .inr (.inr (some (770)))), (1, .inl (v))]) (st' := [.inl (0)]) rfl ?_
        exact ez_retZ rfl rfl (Or.inl rfl) (k0 (by omega))
      · skip
        refine ez_go (n := 2) (pc' := 21) (L' := [(0, .inr (.inr (some (770)))), (1, .inl (v))]) (st' := [.inl (1)]) rfl ?_
        exact ez_retZ rfl rfl (Or.inr rfl) (k1 (by omega))

theorem rd_mbreaks {v : Int} (vr : ez_rg v) (k1 : lnd v → Q (.inl (some (ez_v (.inl 1))), h)) (k0 : ¬ lnd v → Q (.inl (some (ez_v (.inl 0))), h)) : ez_W d cm_225 0 [(0, .inr (.inr (some (770)))), (1, .inl (v))] [] h Q := by
  obtain ⟨vr1, vr2⟩ := id vr
  refine ez_go (n := 2) (pc' := 2) (L' := [(0, .inr (.inr (some (770)))), (1, .inl (v))]) (st' := [.inl (1), .inl (v)]) rfl ?_
  refine ez_icmp rfl rfl ⟨by first | omega | exact (sz_i32 _).1, by first | omega | exact (sz_i32 _).2⟩ ⟨by first | omega | exact (sz_i32 _).1, by first | omega | exact (sz_i32 _).2⟩ (fun (c1 : (v) < (1)) => ?_) (fun (c1 : ¬((v) < (1))) => ?_)
  · skip
    refine ez_go (n := 1) (pc' := 15) (L' := [(0, .inr (.inr (some (770)))), (1, .inl (v))]) (st' := [.inl (0)]) rfl ?_
    exact ez_retZ rfl rfl (Or.inl rfl) (k0 (by omega))
  · skip
    refine ez_go (n := 2) (pc' := 7) (L' := [(0, .inr (.inr (some (770)))), (1, .inl (v))]) (st' := [.inl (3), .inl (v)]) rfl ?_
    refine ez_icmp rfl rfl ⟨by first | omega | exact (sz_i32 _).1, by first | omega | exact (sz_i32 _).2⟩ ⟨by first | omega | exact (sz_i32 _).1, by first | omega | exact (sz_i32 _).2⟩ (fun (c2 : (3) < (v)) => ?_) (fun (c2 : ¬((3) < (v))) => ?_)
    · skip
      refine ez_go (n := 1) (pc' := 15) (L' := [(0, .inr (.inr (some (770)))), (1, .inl (v))]) (st' := [.inl (0)]) rfl ?_
      exact ez_retZ rfl rfl (Or.inl rfl) (k0 (by omega))
    · skip
      refine ez_go (n := 2) (pc' := 15) (L' := [(0, .inr (.inr (some (770)))), (1, .inl (v))]) (st' := [.inl (1)]) rfl ?_
      exact ez_retZ rfl rfl (Or.inr rfl) (k1 (by omega))

theorem rd_mletter {v : Int} (vr : ez_rg v) (k1 : wle v → Q (.inl (some (ez_v (.inl 1))), h)) (k0 : ¬ wle v → Q (.inl (some (ez_v (.inl 0))), h)) : ez_W d cm_275 0 [(0, .inr (.inr (some (770)))), (1, .inl (v))] [] h Q := by
  obtain ⟨vr1, vr2⟩ := id vr
  refine ez_go (n := 2) (pc' := 3) (L' := [(0, .inr (.inr (some (770)))), (1, .inl (v))]) (st' := [.inl (9), .inl (v)]) rfl ?_
  refine ez_icmp rfl rfl ⟨by first | omega | exact (sz_i32 _).1, by first | omega | exact (sz_i32 _).2⟩ ⟨by first | omega | exact (sz_i32 _).1, by first | omega | exact (sz_i32 _).2⟩ (fun (c1 : (v) = (9)) => ?_) (fun (c1 : ¬((v) = (9))) => ?_)
  · skip
    refine ez_go (n := 2) (pc' := 17) (L' := [(0, .inr (.inr (some (770)))), (1, .inl (v))]) (st' := [.inl (1)]) rfl ?_
    exact ez_retZ rfl rfl (Or.inr rfl) (k1 (by omega))
  · skip
    refine ez_go (n := 2) (pc' := 9) (L' := [(0, .inr (.inr (some (770)))), (1, .inl (v))]) (st' := [.inl (10), .inl (v)]) rfl ?_
    refine ez_icmp rfl rfl ⟨by first | omega | exact (sz_i32 _).1, by first | omega | exact (sz_i32 _).2⟩ ⟨by first | omega | exact (sz_i32 _).1, by first | omega | exact (sz_i32 _).2⟩ (fun (c2 : (v) ≠ (10)) => ?_) (fun (c2 : ¬((v) ≠ (10))) => ?_)
    · skip
      refine ez_go (n := 1) (pc' := 17) (L' := [(0, .inr (.inr (some (770)))), (1, .inl (v))]) (st' := [.inl (0)]) rfl ?_
      exact ez_retZ rfl rfl (Or.inl rfl) (k0 (by omega))
    · skip
      refine ez_go (n := 2) (pc' := 17) (L' := [(0, .inr (.inr (some (770)))), (1, .inl (v))]) (st' := [.inl (1)]) rfl ?_
      exact ez_retZ rfl rfl (Or.inr rfl) (k1 (by omega))

theorem rd_mquote {v : Int} (vr : ez_rg v) (k1 : wqu v → Q (.inl (some (ez_v (.inl 1))), h)) (k0 : ¬ wqu v → Q (.inl (some (ez_v (.inl 0))), h)) : ez_W d cm_294 0 [(0, .inr (.inr (some (770)))), (1, .inl (v))] [] h Q := by
  obtain ⟨vr1, vr2⟩ := id vr
  refine ez_go (n := 2) (pc' := 3) (L' := [(0, .inr (.inr (some (770)))), (1, .inl (v))]) (st' := [.inl (13), .inl (v)]) rfl ?_
  refine ez_icmp rfl rfl ⟨by first | omega | exact (sz_i32 _).1, by first | omega | exact (sz_i32 _).2⟩ ⟨by first | omega | exact (sz_i32 _).1, by first | omega | exact (sz_i32 _).2⟩ (fun (c1 : (v) = (13)) => ?_) (fun (c1 : ¬((v) = (13))) => ?_)
  · skip
    refine ez_go (n := 2) (pc' := 17) (L' := [(0, .inr (.inr (some (770)))), (1, .inl (v))]) (st' := [.inl (1)]) rfl ?_
    exact ez_retZ rfl rfl (Or.inr rfl) (k1 (by omega))
  · skip
    refine ez_go (n := 2) (pc' := 9) (L' := [(0, .inr (.inr (some (770)))), (1, .inl (v))]) (st' := [.inl (14), .inl (v)]) rfl ?_
    refine ez_icmp rfl rfl ⟨by first | omega | exact (sz_i32 _).1, by first | omega | exact (sz_i32 _).2⟩ ⟨by first | omega | exact (sz_i32 _).1, by first | omega | exact (sz_i32 _).2⟩ (fun (c2 : (v) ≠ (14)) => ?_) (fun (c2 : ¬((v) ≠ (14))) => ?_)
    · skip
      refine ez_go (n := 1) (pc' := 17) (L' := [(0, .inr (.inr (some (770)))), (1, .inl (v))]) (st' := [.inl (0)]) rfl ?_
      exact ez_retZ rfl rfl (Or.inl rfl) (k0 (by omega))
    · skip
      refine ez_go (n := 2) (pc' := 17) (L' := [(0, .inr (.inr (some (770)))), (1, .inl (v))]) (st' := [.inl (1)]) rfl ?_
      exact ez_retZ rfl rfl (Or.inr rfl) (k1 (by omega))

theorem rd_mcnt_l {i : Int} (hI : mI τ h Ls b) (mt : mtx τ h q u) (i0 : 0 ≤ i) (i1 : i < (u.length : Int)) (kx : Q (.inl (some (ez_v (.inl (bas (wV (yD Ls) u) i.toNat : Int)))), h)) : ∀ (n : Nat) (k : Int), n = k.toNat → 0 ≤ k → k ≤ i → bas (wV (yD Ls) u) i.toNat = bas (wV (yD Ls) u) k.toNat → ez_W (d + 1) cm_242 2 [(3, .inl (k)), (0, .inr (.inr (some (770)))), (1, .inr (.inr (some (q)))), (2, .inl (i))] [] h Q := by
  have hB := hI.1
  have t770 : τ 770 = 75 := hI.2.1 770 (by decide)
  have b12 : 0 ≤ qz_I h 770 12 ∧ qz_I h 770 12 ≤ 512 := ez_fB (cl := 11) (k := 12) hB t770 tq_75 rfl rfl (by decide)
  have lce : lc h = qz_I h 770 12 := rfl
  have nls : lc h ≤ qz_N h (ls h) := hI.2.2.1.1.1
  have tq := mt.1
  have n2 := mt.2.1.1
  intro n
  induction n with
  | zero =>
    intro k hn0 ka kb he
    refine ez_go (n := 1) (pc' := 3) (L' := [(3, .inl (k)), (0, .inr (.inr (some (770)))), (1, .inr (.inr (some (q)))), (2, .inl (i))]) (st' := [.inl (k)]) rfl ?_
    refine ez_if rfl rfl ⟨by first | omega | exact (sz_i32 _).1, by first | omega | exact (sz_i32 _).2⟩ (fun (c1 : (k) ≤ (0)) => ?_) (fun (c1 : ¬((k) ≤ (0))) => ?_)
    · skip
      refine ez_go (n := 1) (pc' := 47) (L' := [(3, .inl (k)), (0, .inr (.inr (some (770)))), (1, .inr (.inr (some (q)))), (2, .inl (i))]) (st' := [.inl (k)]) rfl ?_
      have hb9 : (bas (wV (yD Ls) u) i.toNat : Int) = k := by
        rw [he]
        by_cases e0 : k ≤ 0
        · rw [bas_0 _ e0]; omega
        · rw [bas_s _ (by omega), if_neg (fun w => by first | (exfalso; omega) | exact absurd w.1 (by assumption) | exact absurd (by assumption) w.2)]; omega
      rw [← hb9]
      exact ez_retI rfl rfl kx
    · skip
      refine ez_go (n := 4) (pc' := 10) (L' := [(3, .inl (k)), (0, .inr (.inr (some (770)))), (1, .inr (.inr (some (q)))), (2, .inl (i))]) (st' := [.inl (k), .inr (.inr (some (q))), .inr (.inr (some (770))), .inr (.inr (some (770)))]) rfl ?_
      have n3 : 2000 ≤ qz_N h q ∧ qz_N h q ≤ 2000 := ez_len hB tq tq_37 rfl
      refine ez_aI hB tq rfl tq_37 rfl rfl (by omega) (by omega) (fun (b2 : -2147483648 ≤ qz_I h q (k).toNat) (b2' : qz_I h q (k).toNat ≤ 2147483647) => ?_)
      have pb := uX_ptl mt.2.1.2 (show (k).toNat < u.length by omega)
      have prg : ez_rg (uX u (k)) := ⟨by omega, by omega⟩
      rw [show qz_I h q (k).toNat = uX u (k) from mt.2.2 (k) (by omega) (by omega)]
      refine ez_go (n := 1) (pc' := 13) (L' := [(3, .inl (k)), (0, .inr (.inr (some (770)))), (1, .inr (.inr (some (q)))), (2, .inl (i))]) (st' := [.inl (7), .inl (uX u (k)), .inr (.inr (some (770))), .inr (.inr (some (770)))]) rfl ?_
      refine ez_cv hB t770 rfl rfl rfl tq_75 rfl rfl rfl (rd_mkind hI prg (fun kr1 => ez_K1 ?_))
      rw [show (yD Ls (uX u (k))).2.1.2.2 = wV (yD Ls) u (k) from rfl] at *
      obtain ⟨kr1a, kr1b⟩ := id kr1
      refine ez_cv hB t770 rfl rfl rfl tq_75 rfl rfl rfl (rd_mpassed ⟨by omega, by omega⟩ (fun (w2 : ign (wV (yD Ls) u (k))) => ez_K1 ?_) (fun (w2 : ¬ ign (wV (yD Ls) u (k))) => ez_K1 ?_))
      · skip
        refine ez_if rfl rfl ⟨by decide, by decide⟩ (fun (c4 : (1 : Int) = (0)) => absurd c4 (by decide)) (fun _ => ?_)
        refine ez_go (n := 6) (pc' := 28) (L' := [(3, .inl (k)), (0, .inr (.inr (some (770)))), (1, .inr (.inr (some (q)))), (2, .inl (i))]) (st' := [.inl ((k) - (1)), .inr (.inr (some (q))), .inr (.inr (some (770))), .inr (.inr (some (770)))]) rfl ?_
        have n6 : 2000 ≤ qz_N h q ∧ qz_N h q ≤ 2000 := ez_len hB tq tq_37 rfl
        refine ez_aI hB tq rfl tq_37 rfl rfl (by omega) (by omega) (fun (b5 : -2147483648 ≤ qz_I h q ((k) - (1)).toNat) (b5' : qz_I h q ((k) - (1)).toNat ≤ 2147483647) => ?_)
        have pb := uX_ptl mt.2.1.2 (show ((k) - (1)).toNat < u.length by omega)
        have prg : ez_rg (uX u ((k) - (1))) := ⟨by omega, by omega⟩
        rw [show qz_I h q ((k) - (1)).toNat = uX u ((k) - (1)) from mt.2.2 ((k) - (1)) (by omega) (by omega)]
        refine ez_go (n := 1) (pc' := 31) (L' := [(3, .inl (k)), (0, .inr (.inr (some (770)))), (1, .inr (.inr (some (q)))), (2, .inl (i))]) (st' := [.inl (7), .inl (uX u ((k) - (1))), .inr (.inr (some (770))), .inr (.inr (some (770)))]) rfl ?_
        refine ez_cv hB t770 rfl rfl rfl tq_75 rfl rfl rfl (rd_mkind hI prg (fun kr3 => ez_K1 ?_))
        rw [show (yD Ls (uX u ((k) - (1)))).2.1.2.2 = wV (yD Ls) u ((k) - (1)) from rfl] at *
        obtain ⟨kr3a, kr3b⟩ := id kr3
        refine ez_cv hB t770 rfl rfl rfl tq_75 rfl rfl rfl (rd_mbreaks ⟨by omega, by omega⟩ (fun (w4 : lnd (wV (yD Ls) u ((k) - (1)))) => ez_K1 ?_) (fun (w4 : ¬ lnd (wV (yD Ls) u ((k) - (1)))) => ez_K1 ?_))
        · skip
          refine ez_if rfl rfl ⟨by decide, by decide⟩ (fun _ => ?_) (fun (c7 : ¬((1 : Int) ≠ (0))) => absurd c7 (by decide))
          refine ez_go (n := 1) (pc' := 47) (L' := [(3, .inl (k)), (0, .inr (.inr (some (770)))), (1, .inr (.inr (some (q)))), (2, .inl (i))]) (st' := [.inl (k)]) rfl ?_
          have hb9 : (bas (wV (yD Ls) u) i.toNat : Int) = k := by
            rw [he]
            by_cases e0 : k ≤ 0
            · rw [bas_0 _ e0]; omega
            · rw [bas_s _ (by omega), if_neg (fun w => by first | (exfalso; omega) | exact absurd w.1 (by assumption) | exact absurd (by assumption) w.2)]; omega
          rw [← hb9]
          exact ez_retI rfl rfl kx
        · skip
          refine ez_if rfl rfl ⟨by decide, by decide⟩ (fun (c8 : (0 : Int) ≠ (0)) => absurd c8 (by decide)) (fun _ => ?_)
          refine ez_go (n := 2) (pc' := 2) (L' := [(3, .inl (k + (-1))), (0, .inr (.inr (some (770)))), (1, .inr (.inr (some (q)))), (2, .inl (i))]) (st' := []) rfl ?_
          exfalso; omega
      · skip
        refine ez_if rfl rfl ⟨by decide, by decide⟩ (fun _ => ?_) (fun (c9 : ¬((0 : Int) = (0))) => absurd c9 (by decide))
        refine ez_go (n := 1) (pc' := 47) (L' := [(3, .inl (k)), (0, .inr (.inr (some (770)))), (1, .inr (.inr (some (q)))), (2, .inl (i))]) (st' := [.inl (k)]) rfl ?_
        have hb9 : (bas (wV (yD Ls) u) i.toNat : Int) = k := by
          rw [he]
          by_cases e0 : k ≤ 0
          · rw [bas_0 _ e0]; omega
          · rw [bas_s _ (by omega), if_neg (fun w => by first | (exfalso; omega) | exact absurd w.1 (by assumption) | exact absurd (by assumption) w.2)]; omega
        rw [← hb9]
        exact ez_retI rfl rfl kx
  | succ n ih =>
    intro k hn0 ka kb he
    refine ez_go (n := 1) (pc' := 3) (L' := [(3, .inl (k)), (0, .inr (.inr (some (770)))), (1, .inr (.inr (some (q)))), (2, .inl (i))]) (st' := [.inl (k)]) rfl ?_
    refine ez_if rfl rfl ⟨by first | omega | exact (sz_i32 _).1, by first | omega | exact (sz_i32 _).2⟩ (fun (c1 : (k) ≤ (0)) => ?_) (fun (c1 : ¬((k) ≤ (0))) => ?_)
    · skip
      refine ez_go (n := 1) (pc' := 47) (L' := [(3, .inl (k)), (0, .inr (.inr (some (770)))), (1, .inr (.inr (some (q)))), (2, .inl (i))]) (st' := [.inl (k)]) rfl ?_
      have hb9 : (bas (wV (yD Ls) u) i.toNat : Int) = k := by
        rw [he]
        by_cases e0 : k ≤ 0
        · rw [bas_0 _ e0]; omega
        · rw [bas_s _ (by omega), if_neg (fun w => by first | (exfalso; omega) | exact absurd w.1 (by assumption) | exact absurd (by assumption) w.2)]; omega
      rw [← hb9]
      exact ez_retI rfl rfl kx
    · skip
      refine ez_go (n := 4) (pc' := 10) (L' := [(3, .inl (k)), (0, .inr (.inr (some (770)))), (1, .inr (.inr (some (q)))), (2, .inl (i))]) (st' := [.inl (k), .inr (.inr (some (q))), .inr (.inr (some (770))), .inr (.inr (some (770)))]) rfl ?_
      have n3 : 2000 ≤ qz_N h q ∧ qz_N h q ≤ 2000 := ez_len hB tq tq_37 rfl
      refine ez_aI hB tq rfl tq_37 rfl rfl (by omega) (by omega) (fun (b2 : -2147483648 ≤ qz_I h q (k).toNat) (b2' : qz_I h q (k).toNat ≤ 2147483647) => ?_)
      have pb := uX_ptl mt.2.1.2 (show (k).toNat < u.length by omega)
      have prg : ez_rg (uX u (k)) := ⟨by omega, by omega⟩
      rw [show qz_I h q (k).toNat = uX u (k) from mt.2.2 (k) (by omega) (by omega)]
      refine ez_go (n := 1) (pc' := 13) (L' := [(3, .inl (k)), (0, .inr (.inr (some (770)))), (1, .inr (.inr (some (q)))), (2, .inl (i))]) (st' := [.inl (7), .inl (uX u (k)), .inr (.inr (some (770))), .inr (.inr (some (770)))]) rfl ?_
      refine ez_cv hB t770 rfl rfl rfl tq_75 rfl rfl rfl (rd_mkind hI prg (fun kr1 => ez_K1 ?_))
      rw [show (yD Ls (uX u (k))).2.1.2.2 = wV (yD Ls) u (k) from rfl] at *
      obtain ⟨kr1a, kr1b⟩ := id kr1
      refine ez_cv hB t770 rfl rfl rfl tq_75 rfl rfl rfl (rd_mpassed ⟨by omega, by omega⟩ (fun (w2 : ign (wV (yD Ls) u (k))) => ez_K1 ?_) (fun (w2 : ¬ ign (wV (yD Ls) u (k))) => ez_K1 ?_))
      · skip
        refine ez_if rfl rfl ⟨by decide, by decide⟩ (fun (c4 : (1 : Int) = (0)) => absurd c4 (by decide)) (fun _ => ?_)
        refine ez_go (n := 6) (pc' := 28) (L' := [(3, .inl (k)), (0, .inr (.inr (some (770)))), (1, .inr (.inr (some (q)))), (2, .inl (i))]) (st' := [.inl ((k) - (1)), .inr (.inr (some (q))), .inr (.inr (some (770))), .inr (.inr (some (770)))]) rfl ?_
        have n6 : 2000 ≤ qz_N h q ∧ qz_N h q ≤ 2000 := ez_len hB tq tq_37 rfl
        refine ez_aI hB tq rfl tq_37 rfl rfl (by omega) (by omega) (fun (b5 : -2147483648 ≤ qz_I h q ((k) - (1)).toNat) (b5' : qz_I h q ((k) - (1)).toNat ≤ 2147483647) => ?_)
        have pb := uX_ptl mt.2.1.2 (show ((k) - (1)).toNat < u.length by omega)
        have prg : ez_rg (uX u ((k) - (1))) := ⟨by omega, by omega⟩
        rw [show qz_I h q ((k) - (1)).toNat = uX u ((k) - (1)) from mt.2.2 ((k) - (1)) (by omega) (by omega)]
        refine ez_go (n := 1) (pc' := 31) (L' := [(3, .inl (k)), (0, .inr (.inr (some (770)))), (1, .inr (.inr (some (q)))), (2, .inl (i))]) (st' := [.inl (7), .inl (uX u ((k) - (1))), .inr (.inr (some (770))), .inr (.inr (some (770)))]) rfl ?_
        refine ez_cv hB t770 rfl rfl rfl tq_75 rfl rfl rfl (rd_mkind hI prg (fun kr3 => ez_K1 ?_))
        rw [show (yD Ls (uX u ((k) - (1)))).2.1.2.2 = wV (yD Ls) u ((k) - (1)) from rfl] at *
        obtain ⟨kr3a, kr3b⟩ := id kr3
        refine ez_cv hB t770 rfl rfl rfl tq_75 rfl rfl rfl (rd_mbreaks ⟨by omega, by omega⟩ (fun (w4 : lnd (wV (yD Ls) u ((k) - (1)))) => ez_K1 ?_) (fun (w4 : ¬ lnd (wV (yD Ls) u ((k) - (1)))) => ez_K1 ?_))
        · skip
          refine ez_if rfl rfl ⟨by decide, by decide⟩ (fun _ => ?_) (fun (c7 : ¬((1 : Int) ≠ (0))) => absurd c7 (by decide))
          refine ez_go (n := 1) (pc' := 47) (L' := [(3, .inl (k)), (0, .inr (.inr (some (770)))), (1, .inr (.inr (some (q)))), (2, .inl (i))]) (st' := [.inl (k)]) rfl ?_
          have hb9 : (bas (wV (yD Ls) u) i.toNat : Int) = k := by
            rw [he]
            by_cases e0 : k ≤ 0
            · rw [bas_0 _ e0]; omega
            · rw [bas_s _ (by omega), if_neg (fun w => by first | (exfalso; omega) | exact absurd w.1 (by assumption) | exact absurd (by assumption) w.2)]; omega
          rw [← hb9]
          exact ez_retI rfl rfl kx
        · skip
          refine ez_if rfl rfl ⟨by decide, by decide⟩ (fun (c8 : (0 : Int) ≠ (0)) => absurd c8 (by decide)) (fun _ => ?_)
          refine ez_go (n := 2) (pc' := 2) (L' := [(3, .inl (k + (-1))), (0, .inr (.inr (some (770)))), (1, .inr (.inr (some (q)))), (2, .inl (i))]) (st' := []) rfl ?_
          refine ez_less [(3, .inl (k + (-1))), (0, .inr (.inr (some (770)))), (1, .inr (.inr (some (q)))), (2, .inl (i))] rfl ⟨rfl, rfl, rfl, rfl, trivial⟩ ?_
          refine ih (k + (-1)) (by omega) (by omega) (by omega) ?_
          rw [he, bas_s _ (by omega), if_pos ⟨by assumption, by assumption⟩]; rfl
      · skip
        refine ez_if rfl rfl ⟨by decide, by decide⟩ (fun _ => ?_) (fun (c9 : ¬((0 : Int) = (0))) => absurd c9 (by decide))
        refine ez_go (n := 1) (pc' := 47) (L' := [(3, .inl (k)), (0, .inr (.inr (some (770)))), (1, .inr (.inr (some (q)))), (2, .inl (i))]) (st' := [.inl (k)]) rfl ?_
        have hb9 : (bas (wV (yD Ls) u) i.toNat : Int) = k := by
          rw [he]
          by_cases e0 : k ≤ 0
          · rw [bas_0 _ e0]; omega
          · rw [bas_s _ (by omega), if_neg (fun w => by first | (exfalso; omega) | exact absurd w.1 (by assumption) | exact absurd (by assumption) w.2)]; omega
        rw [← hb9]
        exact ez_retI rfl rfl kx

theorem rd_mcnt {i : Int} (hI : mI τ h Ls b) (mt : mtx τ h q u) (i0 : 0 ≤ i) (i1 : i < (u.length : Int)) (kx : Q (.inl (some (ez_v (.inl (bas (wV (yD Ls) u) i.toNat : Int)))), h)) : ez_W (d + 1) cm_242 0 [(0, .inr (.inr (some (770)))), (1, .inr (.inr (some (q)))), (2, .inl (i))] [] h Q := by
  have hB := hI.1
  have t770 : τ 770 = 75 := hI.2.1 770 (by decide)
  have b12 : 0 ≤ qz_I h 770 12 ∧ qz_I h 770 12 ≤ 512 := ez_fB (cl := 11) (k := 12) hB t770 tq_75 rfl rfl (by decide)
  have lce : lc h = qz_I h 770 12 := rfl
  have nls : lc h ≤ qz_N h (ls h) := hI.2.2.1.1.1
  have tq := mt.1
  have n2 := mt.2.1.1
  refine ez_go (n := 2) (pc' := 2) (L' := [(3, .inl (i)), (0, .inr (.inr (some (770)))), (1, .inr (.inr (some (q)))), (2, .inl (i))]) (st' := []) rfl ?_
  refine ez_less [(3, .inl (i)), (0, .inr (.inr (some (770)))), (1, .inr (.inr (some (q)))), (2, .inl (i))] rfl ⟨rfl, rfl, rfl, rfl, trivial⟩ ?_
  exact rd_mcnt_l hI mt i0 i1 kx _ i rfl i0 (by omega) rfl

theorem rd_mbef {i : Int} (hI : mI τ h Ls b) (mt : mtx τ h q u) (i1 : i < (u.length : Int)) (im : -1 ≤ i) (k0 : i ≤ 0 → Q (.inl (some (ez_v (.inl (-1)))), h)) (k1 : 0 < i → Q (.inl (some (ez_v (.inl (bas (wV (yD Ls) u) (i - 1).toNat : Int)))), h)) : ez_W (d + 2) cm_220 0 [(0, .inr (.inr (some (770)))), (1, .inr (.inr (some (q)))), (2, .inl (i))] [] h Q := by
  have hB := hI.1
  have t770 : τ 770 = 75 := hI.2.1 770 (by decide)
  have b12 : 0 ≤ qz_I h 770 12 ∧ qz_I h 770 12 ≤ 512 := ez_fB (cl := 11) (k := 12) hB t770 tq_75 rfl rfl (by decide)
  have lce : lc h = qz_I h 770 12 := rfl
  have nls : lc h ≤ qz_N h (ls h) := hI.2.2.1.1.1
  have tq := mt.1
  have n2 := mt.2.1.1
  refine ez_go (n := 1) (pc' := 1) (L' := [(0, .inr (.inr (some (770)))), (1, .inr (.inr (some (q)))), (2, .inl (i))]) (st' := [.inl (i)]) rfl ?_
  refine ez_if rfl rfl ⟨by first | omega | exact (sz_i32 _).1, by first | omega | exact (sz_i32 _).2⟩ (fun (c1 : (0) < (i)) => ?_) (fun (c1 : ¬((0) < (i))) => ?_)
  · skip
    refine ez_go (n := 5) (pc' := 13) (L' := [(0, .inr (.inr (some (770)))), (1, .inr (.inr (some (q)))), (2, .inl (i))]) (st' := [.inl ((i) - (1)), .inr (.inr (some (q))), .inr (.inr (some (770)))]) rfl ?_
    refine ez_cv hB t770 rfl rfl rfl tq_75 rfl rfl rfl (rd_mcnt hI mt (by omega) (by omega) (ez_K1 ?_))
    exact ez_retI rfl rfl (k1 (by omega))
  · skip
    refine ez_go (n := 2) (pc' := 16) (L' := [(0, .inr (.inr (some (770)))), (1, .inr (.inr (some (q)))), (2, .inl (i))]) (st' := [.inl (-1)]) rfl ?_
    exact ez_retI rfl rfl (k0 (by omega))

theorem rd_mwk {k : Int} (hI : mI τ h Ls b) (mt : mtx τ h q u) (kr : ez_rg k) (k0 : (k < 0 ∨ (u.length : Int) ≤ k) → Q (.inl (some (ez_v (.inl (-1)))), h)) (k1 : 0 ≤ k → k < (u.length : Int) → ez_rg (wV (yD Ls) u k) → Q (.inl (some (ez_v (.inl (wV (yD Ls) u k)))), h)) : ez_W (d + 1) cm_312 0 [(0, .inr (.inr (some (770)))), (1, .inr (.inr (some (q)))), (2, .inl ((u.length : Int))), (3, .inl (k))] [] h Q := by
  have hB := hI.1
  have t770 : τ 770 = 75 := hI.2.1 770 (by decide)
  have b12 : 0 ≤ qz_I h 770 12 ∧ qz_I h 770 12 ≤ 512 := ez_fB (cl := 11) (k := 12) hB t770 tq_75 rfl rfl (by decide)
  have lce : lc h = qz_I h 770 12 := rfl
  have nls : lc h ≤ qz_N h (ls h) := hI.2.2.1.1.1
  have tq := mt.1
  have n2 := mt.2.1.1
  obtain ⟨kr1, kr2⟩ := id kr
  refine ez_go (n := 1) (pc' := 1) (L' := [(0, .inr (.inr (some (770)))), (1, .inr (.inr (some (q)))), (2, .inl ((u.length : Int))), (3, .inl (k))]) (st' := [.inl (k)]) rfl ?_
  refine ez_if rfl rfl ⟨by first | omega | exact (sz_i32 _).1, by first | omega | exact (sz_i32 _).2⟩ (fun (c1 : (k) < (0)) => ?_) (fun (c1 : ¬((k) < (0))) => ?_)
  · skip
    refine ez_go (n := 2) (pc' := 22) (L' := [(0, .inr (.inr (some (770)))), (1, .inr (.inr (some (q)))), (2, .inl ((u.length : Int))), (3, .inl (k))]) (st' := [.inl (-1)]) rfl ?_
    exact ez_retI rfl rfl (k0 (by omega))
  · skip
    refine ez_go (n := 2) (pc' := 6) (L' := [(0, .inr (.inr (some (770)))), (1, .inr (.inr (some (q)))), (2, .inl ((u.length : Int))), (3, .inl (k))]) (st' := [.inl ((u.length : Int)), .inl (k)]) rfl ?_
    refine ez_icmp rfl rfl ⟨by first | omega | exact (sz_i32 _).1, by first | omega | exact (sz_i32 _).2⟩ ⟨by first | omega | exact (sz_i32 _).1, by first | omega | exact (sz_i32 _).2⟩ (fun (c2 : (k) < ((u.length : Int))) => ?_) (fun (c2 : ¬((k) < ((u.length : Int)))) => ?_)
    · skip
      refine ez_go (n := 3) (pc' := 16) (L' := [(0, .inr (.inr (some (770)))), (1, .inr (.inr (some (q)))), (2, .inl ((u.length : Int))), (3, .inl (k))]) (st' := [.inl (k), .inr (.inr (some (q))), .inr (.inr (some (770)))]) rfl ?_
      have n4 : 2000 ≤ qz_N h q ∧ qz_N h q ≤ 2000 := ez_len hB tq tq_37 rfl
      refine ez_aI hB tq rfl tq_37 rfl rfl (by omega) (by omega) (fun (b3 : -2147483648 ≤ qz_I h q (k).toNat) (b3' : qz_I h q (k).toNat ≤ 2147483647) => ?_)
      have pb := uX_ptl mt.2.1.2 (show (k).toNat < u.length by omega)
      have prg : ez_rg (uX u (k)) := ⟨by omega, by omega⟩
      rw [show qz_I h q (k).toNat = uX u (k) from mt.2.2 (k) (by omega) (by omega)]
      refine ez_go (n := 1) (pc' := 19) (L' := [(0, .inr (.inr (some (770)))), (1, .inr (.inr (some (q)))), (2, .inl ((u.length : Int))), (3, .inl (k))]) (st' := [.inl (7), .inl (uX u (k)), .inr (.inr (some (770)))]) rfl ?_
      refine ez_cv hB t770 rfl rfl rfl tq_75 rfl rfl rfl (rd_mkind hI prg (fun kr1 => ez_K1 ?_))
      rw [show (yD Ls (uX u (k))).2.1.2.2 = wV (yD Ls) u (k) from rfl] at *
      obtain ⟨kr1a, kr1b⟩ := id kr1
      exact ez_retI rfl rfl (k1 (by omega) (by omega) ⟨by omega, by omega⟩)
    · skip
      refine ez_go (n := 2) (pc' := 22) (L' := [(0, .inr (.inr (some (770)))), (1, .inr (.inr (some (q)))), (2, .inl ((u.length : Int))), (3, .inl (k))]) (st' := [.inl (-1)]) rfl ?_
      exact ez_retI rfl rfl (k0 (by omega))

theorem rd_maft_l {i : Int} (hI : mI τ h Ls b) (mt : mtx τ h q u) (i0 : 0 ≤ i) (i1 : i < (u.length : Int)) (kx : ∀ k, i < k → k ≤ (u.length : Int) → (∀ j, i < j → j < k → ign (wV (yD Ls) u j)) → (k = (u.length : Int) ∨ (k < (u.length : Int) ∧ ¬ ign (wV (yD Ls) u k))) → Q (.inl (some (ez_v (.inl k))), h)) : ∀ (n : Nat) (k : Int), n = ((u.length : Int) - k).toNat → i < k → k ≤ (u.length : Int) → (∀ j, i < j → j < k → ign (wV (yD Ls) u j)) → ez_W (d + 1) cm_218 5 [(4, .inl (k)), (0, .inr (.inr (some (770)))), (1, .inr (.inr (some (q)))), (2, .inl ((u.length : Int))), (3, .inl (i))] [] h Q := by
  have hB := hI.1
  have t770 : τ 770 = 75 := hI.2.1 770 (by decide)
  have b12 : 0 ≤ qz_I h 770 12 ∧ qz_I h 770 12 ≤ 512 := ez_fB (cl := 11) (k := 12) hB t770 tq_75 rfl rfl (by decide)
  have lce : lc h = qz_I h 770 12 := rfl
  have nls : lc h ≤ qz_N h (ls h) := hI.2.2.1.1.1
  have tq := mt.1
  have n2 := mt.2.1.1
  intro n
  induction n with
  | zero =>
    intro k hn0 ka kb hn
    refine ez_go (n := 2) (pc' := 8) (L' := [(4, .inl (k)), (0, .inr (.inr (some (770)))), (1, .inr (.inr (some (q)))), (2, .inl ((u.length : Int))), (3, .inl (i))]) (st' := [.inl ((u.length : Int)), .inl (k)]) rfl ?_
    refine ez_icmp rfl rfl ⟨by first | omega | exact (sz_i32 _).1, by first | omega | exact (sz_i32 _).2⟩ ⟨by first | omega | exact (sz_i32 _).1, by first | omega | exact (sz_i32 _).2⟩ (fun (c1 : ((u.length : Int)) ≤ (k)) => ?_) (fun (c1 : ¬(((u.length : Int)) ≤ (k))) => ?_)
    · skip
      refine ez_go (n := 1) (pc' := 36) (L' := [(4, .inl (k)), (0, .inr (.inr (some (770)))), (1, .inr (.inr (some (q)))), (2, .inl ((u.length : Int))), (3, .inl (i))]) (st' := [.inl (k)]) rfl ?_
      exact ez_retI rfl rfl (kx k ka kb hn (by first | exact Or.inl (by omega) | exact Or.inr ⟨by omega, by assumption⟩))
    · skip
      refine ez_go (n := 4) (pc' := 16) (L' := [(4, .inl (k)), (0, .inr (.inr (some (770)))), (1, .inr (.inr (some (q)))), (2, .inl ((u.length : Int))), (3, .inl (i))]) (st' := [.inl (k), .inr (.inr (some (q))), .inr (.inr (some (770))), .inr (.inr (some (770)))]) rfl ?_
      have n3 : 2000 ≤ qz_N h q ∧ qz_N h q ≤ 2000 := ez_len hB tq tq_37 rfl
      refine ez_aI hB tq rfl tq_37 rfl rfl (by omega) (by omega) (fun (b2 : -2147483648 ≤ qz_I h q (k).toNat) (b2' : qz_I h q (k).toNat ≤ 2147483647) => ?_)
      have pb := uX_ptl mt.2.1.2 (show (k).toNat < u.length by omega)
      have prg : ez_rg (uX u (k)) := ⟨by omega, by omega⟩
      rw [show qz_I h q (k).toNat = uX u (k) from mt.2.2 (k) (by omega) (by omega)]
      refine ez_go (n := 1) (pc' := 19) (L' := [(4, .inl (k)), (0, .inr (.inr (some (770)))), (1, .inr (.inr (some (q)))), (2, .inl ((u.length : Int))), (3, .inl (i))]) (st' := [.inl (7), .inl (uX u (k)), .inr (.inr (some (770))), .inr (.inr (some (770)))]) rfl ?_
      refine ez_cv hB t770 rfl rfl rfl tq_75 rfl rfl rfl (rd_mkind hI prg (fun kr1 => ez_K1 ?_))
      rw [show (yD Ls (uX u (k))).2.1.2.2 = wV (yD Ls) u (k) from rfl] at *
      obtain ⟨kr1a, kr1b⟩ := id kr1
      refine ez_cv hB t770 rfl rfl rfl tq_75 rfl rfl rfl (rd_mpassed ⟨by omega, by omega⟩ (fun (w2 : ign (wV (yD Ls) u (k))) => ez_K1 ?_) (fun (w2 : ¬ ign (wV (yD Ls) u (k))) => ez_K1 ?_))
      · skip
        refine ez_if rfl rfl ⟨by decide, by decide⟩ (fun (c4 : (1 : Int) = (0)) => absurd c4 (by decide)) (fun _ => ?_)
        refine ez_go (n := 2) (pc' := 5) (L' := [(4, .inl (k + 1)), (0, .inr (.inr (some (770)))), (1, .inr (.inr (some (q)))), (2, .inl ((u.length : Int))), (3, .inl (i))]) (st' := []) rfl ?_
        exfalso; omega
      · skip
        refine ez_if rfl rfl ⟨by decide, by decide⟩ (fun _ => ?_) (fun (c5 : ¬((0 : Int) = (0))) => absurd c5 (by decide))
        refine ez_go (n := 1) (pc' := 36) (L' := [(4, .inl (k)), (0, .inr (.inr (some (770)))), (1, .inr (.inr (some (q)))), (2, .inl ((u.length : Int))), (3, .inl (i))]) (st' := [.inl (k)]) rfl ?_
        exact ez_retI rfl rfl (kx k ka kb hn (by first | exact Or.inl (by omega) | exact Or.inr ⟨by omega, by assumption⟩))
  | succ n ih =>
    intro k hn0 ka kb hn
    refine ez_go (n := 2) (pc' := 8) (L' := [(4, .inl (k)), (0, .inr (.inr (some (770)))), (1, .inr (.inr (some (q)))), (2, .inl ((u.length : Int))), (3, .inl (i))]) (st' := [.inl ((u.length : Int)), .inl (k)]) rfl ?_
    refine ez_icmp rfl rfl ⟨by first | omega | exact (sz_i32 _).1, by first | omega | exact (sz_i32 _).2⟩ ⟨by first | omega | exact (sz_i32 _).1, by first | omega | exact (sz_i32 _).2⟩ (fun (c1 : ((u.length : Int)) ≤ (k)) => ?_) (fun (c1 : ¬(((u.length : Int)) ≤ (k))) => ?_)
    · skip
      refine ez_go (n := 1) (pc' := 36) (L' := [(4, .inl (k)), (0, .inr (.inr (some (770)))), (1, .inr (.inr (some (q)))), (2, .inl ((u.length : Int))), (3, .inl (i))]) (st' := [.inl (k)]) rfl ?_
      exact ez_retI rfl rfl (kx k ka kb hn (by first | exact Or.inl (by omega) | exact Or.inr ⟨by omega, by assumption⟩))
    · skip
      refine ez_go (n := 4) (pc' := 16) (L' := [(4, .inl (k)), (0, .inr (.inr (some (770)))), (1, .inr (.inr (some (q)))), (2, .inl ((u.length : Int))), (3, .inl (i))]) (st' := [.inl (k), .inr (.inr (some (q))), .inr (.inr (some (770))), .inr (.inr (some (770)))]) rfl ?_
      have n3 : 2000 ≤ qz_N h q ∧ qz_N h q ≤ 2000 := ez_len hB tq tq_37 rfl
      refine ez_aI hB tq rfl tq_37 rfl rfl (by omega) (by omega) (fun (b2 : -2147483648 ≤ qz_I h q (k).toNat) (b2' : qz_I h q (k).toNat ≤ 2147483647) => ?_)
      have pb := uX_ptl mt.2.1.2 (show (k).toNat < u.length by omega)
      have prg : ez_rg (uX u (k)) := ⟨by omega, by omega⟩
      rw [show qz_I h q (k).toNat = uX u (k) from mt.2.2 (k) (by omega) (by omega)]
      refine ez_go (n := 1) (pc' := 19) (L' := [(4, .inl (k)), (0, .inr (.inr (some (770)))), (1, .inr (.inr (some (q)))), (2, .inl ((u.length : Int))), (3, .inl (i))]) (st' := [.inl (7), .inl (uX u (k)), .inr (.inr (some (770))), .inr (.inr (some (770)))]) rfl ?_
      refine ez_cv hB t770 rfl rfl rfl tq_75 rfl rfl rfl (rd_mkind hI prg (fun kr1 => ez_K1 ?_))
      rw [show (yD Ls (uX u (k))).2.1.2.2 = wV (yD Ls) u (k) from rfl] at *
      obtain ⟨kr1a, kr1b⟩ := id kr1
      refine ez_cv hB t770 rfl rfl rfl tq_75 rfl rfl rfl (rd_mpassed ⟨by omega, by omega⟩ (fun (w2 : ign (wV (yD Ls) u (k))) => ez_K1 ?_) (fun (w2 : ¬ ign (wV (yD Ls) u (k))) => ez_K1 ?_))
      · skip
        refine ez_if rfl rfl ⟨by decide, by decide⟩ (fun (c4 : (1 : Int) = (0)) => absurd c4 (by decide)) (fun _ => ?_)
        refine ez_go (n := 2) (pc' := 5) (L' := [(4, .inl (k + 1)), (0, .inr (.inr (some (770)))), (1, .inr (.inr (some (q)))), (2, .inl ((u.length : Int))), (3, .inl (i))]) (st' := []) rfl ?_
        refine ez_less [(4, .inl (k + 1)), (0, .inr (.inr (some (770)))), (1, .inr (.inr (some (q)))), (2, .inl ((u.length : Int))), (3, .inl (i))] rfl ⟨rfl, rfl, rfl, rfl, rfl, trivial⟩ ?_
        refine ih _ (by omega) (by omega) (by omega) (fun j a b => ?_)
        by_cases e : j = k
        · rw [e]; assumption
        · exact hn j a (by omega)
      · skip
        refine ez_if rfl rfl ⟨by decide, by decide⟩ (fun _ => ?_) (fun (c5 : ¬((0 : Int) = (0))) => absurd c5 (by decide))
        refine ez_go (n := 1) (pc' := 36) (L' := [(4, .inl (k)), (0, .inr (.inr (some (770)))), (1, .inr (.inr (some (q)))), (2, .inl ((u.length : Int))), (3, .inl (i))]) (st' := [.inl (k)]) rfl ?_
        exact ez_retI rfl rfl (kx k ka kb hn (by first | exact Or.inl (by omega) | exact Or.inr ⟨by omega, by assumption⟩))

theorem rd_maft {i : Int} (hI : mI τ h Ls b) (mt : mtx τ h q u) (i0 : 0 ≤ i) (i1 : i < (u.length : Int)) (kx : ∀ k, i < k → k ≤ (u.length : Int) → (∀ j, i < j → j < k → ign (wV (yD Ls) u j)) → (k = (u.length : Int) ∨ (k < (u.length : Int) ∧ ¬ ign (wV (yD Ls) u k))) → Q (.inl (some (ez_v (.inl k))), h)) : ez_W (d + 1) cm_218 0 [(0, .inr (.inr (some (770)))), (1, .inr (.inr (some (q)))), (2, .inl ((u.length : Int))), (3, .inl (i))] [] h Q := by
  have hB := hI.1
  have t770 : τ 770 = 75 := hI.2.1 770 (by decide)
  have b12 : 0 ≤ qz_I h 770 12 ∧ qz_I h 770 12 ≤ 512 := ez_fB (cl := 11) (k := 12) hB t770 tq_75 rfl rfl (by decide)
  have lce : lc h = qz_I h 770 12 := rfl
  have nls : lc h ≤ qz_N h (ls h) := hI.2.2.1.1.1
  have tq := mt.1
  have n2 := mt.2.1.1
  refine ez_go (n := 4) (pc' := 5) (L' := [(4, .inl ((i) + (1))), (0, .inr (.inr (some (770)))), (1, .inr (.inr (some (q)))), (2, .inl ((u.length : Int))), (3, .inl (i))]) (st' := []) rfl ?_
  refine ez_less [(4, .inl ((i) + (1))), (0, .inr (.inr (some (770)))), (1, .inr (.inr (some (q)))), (2, .inl ((u.length : Int))), (3, .inl (i))] rfl ⟨rfl, rfl, rfl, rfl, rfl, trivial⟩ ?_
  exact rd_maft_l hI mt i0 i1 kx _ _ rfl (by omega) (by omega) (fun j a b => by omega)

theorem rd_mw154 {a c e bv nb pa raw n i : Int} (hB : ez_B τ h) (t770 : τ 770 = 75) (ar : ez_rg a) (cr : ez_rg c) (er : ez_rg e) (br : ez_rg bv) (kR : (wle a ∧ wle bv) → Q (.inl (some (ez_v (.inl 0))), h)) (kN : ¬ (wle a ∧ wle bv) → ez_W (d + 1) cm_311 174 [(10, .inl (e)), (9, .inl (nb)), (8, .inl (c)), (7, .inl (a)), (6, .inl (pa)), (5, .inl (bv)), (4, .inl (raw)), (0, .inr (.inr (some (770)))), (1, .inr (.inr (some (q)))), (2, .inl (n)), (3, .inl (i))] [] h Q) : ez_W (d + 1) cm_311 154 [(10, .inl (e)), (9, .inl (nb)), (8, .inl (c)), (7, .inl (a)), (6, .inl (pa)), (5, .inl (bv)), (4, .inl (raw)), (0, .inr (.inr (some (770)))), (1, .inr (.inr (some (q)))), (2, .inl (n)), (3, .inl (i))] [] h Q := by
  obtain ⟨ar1, ar2⟩ := id ar
  obtain ⟨cr1, cr2⟩ := id cr
  obtain ⟨er1, er2⟩ := id er
  obtain ⟨br1, br2⟩ := id br
  refine ez_go (n := 2) (pc' := 157) (L' := [(10, .inl (e)), (9, .inl (nb)), (8, .inl (c)), (7, .inl (a)), (6, .inl (pa)), (5, .inl (bv)), (4, .inl (raw)), (0, .inr (.inr (some (770)))), (1, .inr (.inr (some (q)))), (2, .inl (n)), (3, .inl (i))]) (st' := [.inl (a), .inr (.inr (some (770)))]) rfl ?_
  refine ez_cv hB t770 rfl rfl rfl tq_75 rfl rfl rfl (rd_mletter ⟨by omega, by omega⟩ (fun (w1 : wle (a)) => ez_K1 ?_) (fun (w1 : ¬ wle (a)) => ez_K1 ?_))
  · skip
    refine ez_if rfl rfl ⟨by decide, by decide⟩ (fun (c1 : (1 : Int) = (0)) => absurd c1 (by decide)) (fun _ => ?_)
    refine ez_go (n := 2) (pc' := 166) (L' := [(10, .inl (e)), (9, .inl (nb)), (8, .inl (c)), (7, .inl (a)), (6, .inl (pa)), (5, .inl (bv)), (4, .inl (raw)), (0, .inr (.inr (some (770)))), (1, .inr (.inr (some (q)))), (2, .inl (n)), (3, .inl (i))]) (st' := [.inl (bv), .inr (.inr (some (770)))]) rfl ?_
    refine ez_cv hB t770 rfl rfl rfl tq_75 rfl rfl rfl (rd_mletter ⟨by omega, by omega⟩ (fun (w2 : wle (bv)) => ez_K1 ?_) (fun (w2 : ¬ wle (bv)) => ez_K1 ?_))
    · skip
      refine ez_if rfl rfl ⟨by decide, by decide⟩ (fun (c2 : (1 : Int) = (0)) => absurd c2 (by decide)) (fun _ => ?_)
      refine ez_go (n := 1) (pc' := 173) (L' := [(10, .inl (e)), (9, .inl (nb)), (8, .inl (c)), (7, .inl (a)), (6, .inl (pa)), (5, .inl (bv)), (4, .inl (raw)), (0, .inr (.inr (some (770)))), (1, .inr (.inr (some (q)))), (2, .inl (n)), (3, .inl (i))]) (st' := [.inl (0)]) rfl ?_
      exact ez_retZ rfl rfl (Or.inl rfl) (kR (by omega))
    · skip
      refine ez_if rfl rfl ⟨by decide, by decide⟩ (fun _ => ?_) (fun (c3 : ¬((0 : Int) = (0))) => absurd c3 (by decide))
      refine ez_less [(10, .inl (e)), (9, .inl (nb)), (8, .inl (c)), (7, .inl (a)), (6, .inl (pa)), (5, .inl (bv)), (4, .inl (raw)), (0, .inr (.inr (some (770)))), (1, .inr (.inr (some (q)))), (2, .inl (n)), (3, .inl (i))] rfl ⟨rfl, rfl, rfl, rfl, rfl, rfl, rfl, rfl, rfl, rfl, rfl, trivial⟩ ?_
      exact kN (by omega)
  · skip
    refine ez_if rfl rfl ⟨by decide, by decide⟩ (fun _ => ?_) (fun (c4 : ¬((0 : Int) = (0))) => absurd c4 (by decide))
    refine ez_less [(10, .inl (e)), (9, .inl (nb)), (8, .inl (c)), (7, .inl (a)), (6, .inl (pa)), (5, .inl (bv)), (4, .inl (raw)), (0, .inr (.inr (some (770)))), (1, .inr (.inr (some (q)))), (2, .inl (n)), (3, .inl (i))] rfl ⟨rfl, rfl, rfl, rfl, rfl, rfl, rfl, rfl, rfl, rfl, rfl, trivial⟩ ?_
    exact kN (by omega)

theorem rd_mw174 {a c e bv nb pa raw n i : Int} (hB : ez_B τ h) (t770 : τ 770 = 75) (ar : ez_rg a) (cr : ez_rg c) (er : ez_rg e) (br : ez_rg bv) (kR : (wle a ∧ (bv = 11 ∨ wqu bv) ∧ wle e) → Q (.inl (some (ez_v (.inl 0))), h)) (kN : ¬ (wle a ∧ (bv = 11 ∨ wqu bv) ∧ wle e) → ez_W (d + 1) cm_311 210 [(10, .inl (e)), (9, .inl (nb)), (8, .inl (c)), (7, .inl (a)), (6, .inl (pa)), (5, .inl (bv)), (4, .inl (raw)), (0, .inr (.inr (some (770)))), (1, .inr (.inr (some (q)))), (2, .inl (n)), (3, .inl (i))] [] h Q) : ez_W (d + 1) cm_311 174 [(10, .inl (e)), (9, .inl (nb)), (8, .inl (c)), (7, .inl (a)), (6, .inl (pa)), (5, .inl (bv)), (4, .inl (raw)), (0, .inr (.inr (some (770)))), (1, .inr (.inr (some (q)))), (2, .inl (n)), (3, .inl (i))] [] h Q := by
  obtain ⟨ar1, ar2⟩ := id ar
  obtain ⟨cr1, cr2⟩ := id cr
  obtain ⟨er1, er2⟩ := id er
  obtain ⟨br1, br2⟩ := id br
  refine ez_go (n := 2) (pc' := 177) (L' := [(10, .inl (e)), (9, .inl (nb)), (8, .inl (c)), (7, .inl (a)), (6, .inl (pa)), (5, .inl (bv)), (4, .inl (raw)), (0, .inr (.inr (some (770)))), (1, .inr (.inr (some (q)))), (2, .inl (n)), (3, .inl (i))]) (st' := [.inl (a), .inr (.inr (some (770)))]) rfl ?_
  refine ez_cv hB t770 rfl rfl rfl tq_75 rfl rfl rfl (rd_mletter ⟨by omega, by omega⟩ (fun (w1 : wle (a)) => ez_K1 ?_) (fun (w1 : ¬ wle (a)) => ez_K1 ?_))
  · skip
    refine ez_if rfl rfl ⟨by decide, by decide⟩ (fun (c1 : (1 : Int) = (0)) => absurd c1 (by decide)) (fun _ => ?_)
    refine ez_go (n := 2) (pc' := 187) (L' := [(10, .inl (e)), (9, .inl (nb)), (8, .inl (c)), (7, .inl (a)), (6, .inl (pa)), (5, .inl (bv)), (4, .inl (raw)), (0, .inr (.inr (some (770)))), (1, .inr (.inr (some (q)))), (2, .inl (n)), (3, .inl (i))]) (st' := [.inl (11), .inl (bv)]) rfl ?_
    refine ez_icmp rfl rfl ⟨by first | omega | exact (sz_i32 _).1, by first | omega | exact (sz_i32 _).2⟩ ⟨by first | omega | exact (sz_i32 _).1, by first | omega | exact (sz_i32 _).2⟩ (fun (c2 : (bv) = (11)) => ?_) (fun (c2 : ¬((bv) = (11))) => ?_)
    · skip
      refine ez_go (n := 2) (pc' := 202) (L' := [(10, .inl (e)), (9, .inl (nb)), (8, .inl (c)), (7, .inl (a)), (6, .inl (pa)), (5, .inl (bv)), (4, .inl (raw)), (0, .inr (.inr (some (770)))), (1, .inr (.inr (some (q)))), (2, .inl (n)), (3, .inl (i))]) (st' := [.inl (e), .inr (.inr (some (770)))]) rfl ?_
      refine ez_cv hB t770 rfl rfl rfl tq_75 rfl rfl rfl (rd_mletter ⟨by omega, by omega⟩ (fun (w2 : wle (e)) => ez_K1 ?_) (fun (w2 : ¬ wle (e)) => ez_K1 ?_))
      · skip
        refine ez_if rfl rfl ⟨by decide, by decide⟩ (fun (c3 : (1 : Int) = (0)) => absurd c3 (by decide)) (fun _ => ?_)
        refine ez_go (n := 1) (pc' := 209) (L' := [(10, .inl (e)), (9, .inl (nb)), (8, .inl (c)), (7, .inl (a)), (6, .inl (pa)), (5, .inl (bv)), (4, .inl (raw)), (0, .inr (.inr (some (770)))), (1, .inr (.inr (some (q)))), (2, .inl (n)), (3, .inl (i))]) (st' := [.inl (0)]) rfl ?_
        exact ez_retZ rfl rfl (Or.inl rfl) (kR (by omega))
      · skip
        refine ez_if rfl rfl ⟨by decide, by decide⟩ (fun _ => ?_) (fun (c4 : ¬((0 : Int) = (0))) => absurd c4 (by decide))
        refine ez_less [(10, .inl (e)), (9, .inl (nb)), (8, .inl (c)), (7, .inl (a)), (6, .inl (pa)), (5, .inl (bv)), (4, .inl (raw)), (0, .inr (.inr (some (770)))), (1, .inr (.inr (some (q)))), (2, .inl (n)), (3, .inl (i))] rfl ⟨rfl, rfl, rfl, rfl, rfl, rfl, rfl, rfl, rfl, rfl, rfl, trivial⟩ ?_
        exact kN (by omega)
    · skip
      refine ez_go (n := 2) (pc' := 193) (L' := [(10, .inl (e)), (9, .inl (nb)), (8, .inl (c)), (7, .inl (a)), (6, .inl (pa)), (5, .inl (bv)), (4, .inl (raw)), (0, .inr (.inr (some (770)))), (1, .inr (.inr (some (q)))), (2, .inl (n)), (3, .inl (i))]) (st' := [.inl (bv), .inr (.inr (some (770)))]) rfl ?_
      refine ez_cv hB t770 rfl rfl rfl tq_75 rfl rfl rfl (rd_mquote ⟨by omega, by omega⟩ (fun (w3 : wqu (bv)) => ez_K1 ?_) (fun (w3 : ¬ wqu (bv)) => ez_K1 ?_))
      · skip
        refine ez_if rfl rfl ⟨by decide, by decide⟩ (fun (c5 : (1 : Int) = (0)) => absurd c5 (by decide)) (fun _ => ?_)
        refine ez_go (n := 2) (pc' := 202) (L' := [(10, .inl (e)), (9, .inl (nb)), (8, .inl (c)), (7, .inl (a)), (6, .inl (pa)), (5, .inl (bv)), (4, .inl (raw)), (0, .inr (.inr (some (770)))), (1, .inr (.inr (some (q)))), (2, .inl (n)), (3, .inl (i))]) (st' := [.inl (e), .inr (.inr (some (770)))]) rfl ?_
        refine ez_cv hB t770 rfl rfl rfl tq_75 rfl rfl rfl (rd_mletter ⟨by omega, by omega⟩ (fun (w4 : wle (e)) => ez_K1 ?_) (fun (w4 : ¬ wle (e)) => ez_K1 ?_))
        · skip
          refine ez_if rfl rfl ⟨by decide, by decide⟩ (fun (c6 : (1 : Int) = (0)) => absurd c6 (by decide)) (fun _ => ?_)
          refine ez_go (n := 1) (pc' := 209) (L' := [(10, .inl (e)), (9, .inl (nb)), (8, .inl (c)), (7, .inl (a)), (6, .inl (pa)), (5, .inl (bv)), (4, .inl (raw)), (0, .inr (.inr (some (770)))), (1, .inr (.inr (some (q)))), (2, .inl (n)), (3, .inl (i))]) (st' := [.inl (0)]) rfl ?_
          exact ez_retZ rfl rfl (Or.inl rfl) (kR (by omega))
        · skip
          refine ez_if rfl rfl ⟨by decide, by decide⟩ (fun _ => ?_) (fun (c7 : ¬((0 : Int) = (0))) => absurd c7 (by decide))
          refine ez_less [(10, .inl (e)), (9, .inl (nb)), (8, .inl (c)), (7, .inl (a)), (6, .inl (pa)), (5, .inl (bv)), (4, .inl (raw)), (0, .inr (.inr (some (770)))), (1, .inr (.inr (some (q)))), (2, .inl (n)), (3, .inl (i))] rfl ⟨rfl, rfl, rfl, rfl, rfl, rfl, rfl, rfl, rfl, rfl, rfl, trivial⟩ ?_
          exact kN (by omega)
      · skip
        refine ez_if rfl rfl ⟨by decide, by decide⟩ (fun _ => ?_) (fun (c8 : ¬((0 : Int) = (0))) => absurd c8 (by decide))
        refine ez_less [(10, .inl (e)), (9, .inl (nb)), (8, .inl (c)), (7, .inl (a)), (6, .inl (pa)), (5, .inl (bv)), (4, .inl (raw)), (0, .inr (.inr (some (770)))), (1, .inr (.inr (some (q)))), (2, .inl (n)), (3, .inl (i))] rfl ⟨rfl, rfl, rfl, rfl, rfl, rfl, rfl, rfl, rfl, rfl, rfl, trivial⟩ ?_
        exact kN (by omega)
  · skip
    refine ez_if rfl rfl ⟨by decide, by decide⟩ (fun _ => ?_) (fun (c9 : ¬((0 : Int) = (0))) => absurd c9 (by decide))
    refine ez_less [(10, .inl (e)), (9, .inl (nb)), (8, .inl (c)), (7, .inl (a)), (6, .inl (pa)), (5, .inl (bv)), (4, .inl (raw)), (0, .inr (.inr (some (770)))), (1, .inr (.inr (some (q)))), (2, .inl (n)), (3, .inl (i))] rfl ⟨rfl, rfl, rfl, rfl, rfl, rfl, rfl, rfl, rfl, rfl, rfl, trivial⟩ ?_
    exact kN (by omega)

theorem rd_mw210 {a c e bv nb pa raw n i : Int} (hB : ez_B τ h) (t770 : τ 770 = 75) (ar : ez_rg a) (cr : ez_rg c) (er : ez_rg e) (br : ez_rg bv) (kR : (wle c ∧ (a = 11 ∨ wqu a) ∧ wle bv) → Q (.inl (some (ez_v (.inl 0))), h)) (kN : ¬ (wle c ∧ (a = 11 ∨ wqu a) ∧ wle bv) → ez_W (d + 1) cm_311 246 [(10, .inl (e)), (9, .inl (nb)), (8, .inl (c)), (7, .inl (a)), (6, .inl (pa)), (5, .inl (bv)), (4, .inl (raw)), (0, .inr (.inr (some (770)))), (1, .inr (.inr (some (q)))), (2, .inl (n)), (3, .inl (i))] [] h Q) : ez_W (d + 1) cm_311 210 [(10, .inl (e)), (9, .inl (nb)), (8, .inl (c)), (7, .inl (a)), (6, .inl (pa)), (5, .inl (bv)), (4, .inl (raw)), (0, .inr (.inr (some (770)))), (1, .inr (.inr (some (q)))), (2, .inl (n)), (3, .inl (i))] [] h Q := by
  obtain ⟨ar1, ar2⟩ := id ar
  obtain ⟨cr1, cr2⟩ := id cr
  obtain ⟨er1, er2⟩ := id er
  obtain ⟨br1, br2⟩ := id br
  refine ez_go (n := 2) (pc' := 213) (L' := [(10, .inl (e)), (9, .inl (nb)), (8, .inl (c)), (7, .inl (a)), (6, .inl (pa)), (5, .inl (bv)), (4, .inl (raw)), (0, .inr (.inr (some (770)))), (1, .inr (.inr (some (q)))), (2, .inl (n)), (3, .inl (i))]) (st' := [.inl (c), .inr (.inr (some (770)))]) rfl ?_
  refine ez_cv hB t770 rfl rfl rfl tq_75 rfl rfl rfl (rd_mletter ⟨by omega, by omega⟩ (fun (w1 : wle (c)) => ez_K1 ?_) (fun (w1 : ¬ wle (c)) => ez_K1 ?_))
  · skip
    refine ez_if rfl rfl ⟨by decide, by decide⟩ (fun (c1 : (1 : Int) = (0)) => absurd c1 (by decide)) (fun _ => ?_)
    refine ez_go (n := 2) (pc' := 223) (L' := [(10, .inl (e)), (9, .inl (nb)), (8, .inl (c)), (7, .inl (a)), (6, .inl (pa)), (5, .inl (bv)), (4, .inl (raw)), (0, .inr (.inr (some (770)))), (1, .inr (.inr (some (q)))), (2, .inl (n)), (3, .inl (i))]) (st' := [.inl (11), .inl (a)]) rfl ?_
    refine ez_icmp rfl rfl ⟨by first | omega | exact (sz_i32 _).1, by first | omega | exact (sz_i32 _).2⟩ ⟨by first | omega | exact (sz_i32 _).1, by first | omega | exact (sz_i32 _).2⟩ (fun (c2 : (a) = (11)) => ?_) (fun (c2 : ¬((a) = (11))) => ?_)
    · skip
      refine ez_go (n := 2) (pc' := 238) (L' := [(10, .inl (e)), (9, .inl (nb)), (8, .inl (c)), (7, .inl (a)), (6, .inl (pa)), (5, .inl (bv)), (4, .inl (raw)), (0, .inr (.inr (some (770)))), (1, .inr (.inr (some (q)))), (2, .inl (n)), (3, .inl (i))]) (st' := [.inl (bv), .inr (.inr (some (770)))]) rfl ?_
      refine ez_cv hB t770 rfl rfl rfl tq_75 rfl rfl rfl (rd_mletter ⟨by omega, by omega⟩ (fun (w2 : wle (bv)) => ez_K1 ?_) (fun (w2 : ¬ wle (bv)) => ez_K1 ?_))
      · skip
        refine ez_if rfl rfl ⟨by decide, by decide⟩ (fun (c3 : (1 : Int) = (0)) => absurd c3 (by decide)) (fun _ => ?_)
        refine ez_go (n := 1) (pc' := 245) (L' := [(10, .inl (e)), (9, .inl (nb)), (8, .inl (c)), (7, .inl (a)), (6, .inl (pa)), (5, .inl (bv)), (4, .inl (raw)), (0, .inr (.inr (some (770)))), (1, .inr (.inr (some (q)))), (2, .inl (n)), (3, .inl (i))]) (st' := [.inl (0)]) rfl ?_
        exact ez_retZ rfl rfl (Or.inl rfl) (kR (by omega))
      · skip
        refine ez_if rfl rfl ⟨by decide, by decide⟩ (fun _ => ?_) (fun (c4 : ¬((0 : Int) = (0))) => absurd c4 (by decide))
        refine ez_less [(10, .inl (e)), (9, .inl (nb)), (8, .inl (c)), (7, .inl (a)), (6, .inl (pa)), (5, .inl (bv)), (4, .inl (raw)), (0, .inr (.inr (some (770)))), (1, .inr (.inr (some (q)))), (2, .inl (n)), (3, .inl (i))] rfl ⟨rfl, rfl, rfl, rfl, rfl, rfl, rfl, rfl, rfl, rfl, rfl, trivial⟩ ?_
        exact kN (by omega)
    · skip
      refine ez_go (n := 2) (pc' := 229) (L' := [(10, .inl (e)), (9, .inl (nb)), (8, .inl (c)), (7, .inl (a)), (6, .inl (pa)), (5, .inl (bv)), (4, .inl (raw)), (0, .inr (.inr (some (770)))), (1, .inr (.inr (some (q)))), (2, .inl (n)), (3, .inl (i))]) (st' := [.inl (a), .inr (.inr (some (770)))]) rfl ?_
      refine ez_cv hB t770 rfl rfl rfl tq_75 rfl rfl rfl (rd_mquote ⟨by omega, by omega⟩ (fun (w3 : wqu (a)) => ez_K1 ?_) (fun (w3 : ¬ wqu (a)) => ez_K1 ?_))
      · skip
        refine ez_if rfl rfl ⟨by decide, by decide⟩ (fun (c5 : (1 : Int) = (0)) => absurd c5 (by decide)) (fun _ => ?_)
        refine ez_go (n := 2) (pc' := 238) (L' := [(10, .inl (e)), (9, .inl (nb)), (8, .inl (c)), (7, .inl (a)), (6, .inl (pa)), (5, .inl (bv)), (4, .inl (raw)), (0, .inr (.inr (some (770)))), (1, .inr (.inr (some (q)))), (2, .inl (n)), (3, .inl (i))]) (st' := [.inl (bv), .inr (.inr (some (770)))]) rfl ?_
        refine ez_cv hB t770 rfl rfl rfl tq_75 rfl rfl rfl (rd_mletter ⟨by omega, by omega⟩ (fun (w4 : wle (bv)) => ez_K1 ?_) (fun (w4 : ¬ wle (bv)) => ez_K1 ?_))
        · skip
          refine ez_if rfl rfl ⟨by decide, by decide⟩ (fun (c6 : (1 : Int) = (0)) => absurd c6 (by decide)) (fun _ => ?_)
          refine ez_go (n := 1) (pc' := 245) (L' := [(10, .inl (e)), (9, .inl (nb)), (8, .inl (c)), (7, .inl (a)), (6, .inl (pa)), (5, .inl (bv)), (4, .inl (raw)), (0, .inr (.inr (some (770)))), (1, .inr (.inr (some (q)))), (2, .inl (n)), (3, .inl (i))]) (st' := [.inl (0)]) rfl ?_
          exact ez_retZ rfl rfl (Or.inl rfl) (kR (by omega))
        · skip
          refine ez_if rfl rfl ⟨by decide, by decide⟩ (fun _ => ?_) (fun (c7 : ¬((0 : Int) = (0))) => absurd c7 (by decide))
          refine ez_less [(10, .inl (e)), (9, .inl (nb)), (8, .inl (c)), (7, .inl (a)), (6, .inl (pa)), (5, .inl (bv)), (4, .inl (raw)), (0, .inr (.inr (some (770)))), (1, .inr (.inr (some (q)))), (2, .inl (n)), (3, .inl (i))] rfl ⟨rfl, rfl, rfl, rfl, rfl, rfl, rfl, rfl, rfl, rfl, rfl, trivial⟩ ?_
          exact kN (by omega)
      · skip
        refine ez_if rfl rfl ⟨by decide, by decide⟩ (fun _ => ?_) (fun (c8 : ¬((0 : Int) = (0))) => absurd c8 (by decide))
        refine ez_less [(10, .inl (e)), (9, .inl (nb)), (8, .inl (c)), (7, .inl (a)), (6, .inl (pa)), (5, .inl (bv)), (4, .inl (raw)), (0, .inr (.inr (some (770)))), (1, .inr (.inr (some (q)))), (2, .inl (n)), (3, .inl (i))] rfl ⟨rfl, rfl, rfl, rfl, rfl, rfl, rfl, rfl, rfl, rfl, rfl, trivial⟩ ?_
        exact kN (by omega)
  · skip
    refine ez_if rfl rfl ⟨by decide, by decide⟩ (fun _ => ?_) (fun (c9 : ¬((0 : Int) = (0))) => absurd c9 (by decide))
    refine ez_less [(10, .inl (e)), (9, .inl (nb)), (8, .inl (c)), (7, .inl (a)), (6, .inl (pa)), (5, .inl (bv)), (4, .inl (raw)), (0, .inr (.inr (some (770)))), (1, .inr (.inr (some (q)))), (2, .inl (n)), (3, .inl (i))] rfl ⟨rfl, rfl, rfl, rfl, rfl, rfl, rfl, rfl, rfl, rfl, rfl, trivial⟩ ?_
    exact kN (by omega)

theorem rd_mw246 {a c e bv nb pa raw n i : Int} (hB : ez_B τ h) (t770 : τ 770 = 75) (ar : ez_rg a) (cr : ez_rg c) (er : ez_rg e) (br : ez_rg bv) (kR : (a = 9 ∧ bv = 14) → Q (.inl (some (ez_v (.inl 0))), h)) (kN : ¬ (a = 9 ∧ bv = 14) → ez_W (d + 1) cm_311 262 [(10, .inl (e)), (9, .inl (nb)), (8, .inl (c)), (7, .inl (a)), (6, .inl (pa)), (5, .inl (bv)), (4, .inl (raw)), (0, .inr (.inr (some (770)))), (1, .inr (.inr (some (q)))), (2, .inl (n)), (3, .inl (i))] [] h Q) : ez_W (d + 1) cm_311 246 [(10, .inl (e)), (9, .inl (nb)), (8, .inl (c)), (7, .inl (a)), (6, .inl (pa)), (5, .inl (bv)), (4, .inl (raw)), (0, .inr (.inr (some (770)))), (1, .inr (.inr (some (q)))), (2, .inl (n)), (3, .inl (i))] [] h Q := by
  obtain ⟨ar1, ar2⟩ := id ar
  obtain ⟨cr1, cr2⟩ := id cr
  obtain ⟨er1, er2⟩ := id er
  obtain ⟨br1, br2⟩ := id br
  refine ez_go (n := 2) (pc' := 250) (L' := [(10, .inl (e)), (9, .inl (nb)), (8, .inl (c)), (7, .inl (a)), (6, .inl (pa)), (5, .inl (bv)), (4, .inl (raw)), (0, .inr (.inr (some (770)))), (1, .inr (.inr (some (q)))), (2, .inl (n)), (3, .inl (i))]) (st' := [.inl (9), .inl (a)]) rfl ?_
  refine ez_icmp rfl rfl ⟨by first | omega | exact (sz_i32 _).1, by first | omega | exact (sz_i32 _).2⟩ ⟨by first | omega | exact (sz_i32 _).1, by first | omega | exact (sz_i32 _).2⟩ (fun (c1 : (a) ≠ (9)) => ?_) (fun (c1 : ¬((a) ≠ (9))) => ?_)
  · skip
    refine ez_less [(10, .inl (e)), (9, .inl (nb)), (8, .inl (c)), (7, .inl (a)), (6, .inl (pa)), (5, .inl (bv)), (4, .inl (raw)), (0, .inr (.inr (some (770)))), (1, .inr (.inr (some (q)))), (2, .inl (n)), (3, .inl (i))] rfl ⟨rfl, rfl, rfl, rfl, rfl, rfl, rfl, rfl, rfl, rfl, rfl, trivial⟩ ?_
    exact kN (by omega)
  · skip
    refine ez_go (n := 2) (pc' := 257) (L' := [(10, .inl (e)), (9, .inl (nb)), (8, .inl (c)), (7, .inl (a)), (6, .inl (pa)), (5, .inl (bv)), (4, .inl (raw)), (0, .inr (.inr (some (770)))), (1, .inr (.inr (some (q)))), (2, .inl (n)), (3, .inl (i))]) (st' := [.inl (14), .inl (bv)]) rfl ?_
    refine ez_icmp rfl rfl ⟨by first | omega | exact (sz_i32 _).1, by first | omega | exact (sz_i32 _).2⟩ ⟨by first | omega | exact (sz_i32 _).1, by first | omega | exact (sz_i32 _).2⟩ (fun (c2 : (bv) ≠ (14)) => ?_) (fun (c2 : ¬((bv) ≠ (14))) => ?_)
    · skip
      refine ez_less [(10, .inl (e)), (9, .inl (nb)), (8, .inl (c)), (7, .inl (a)), (6, .inl (pa)), (5, .inl (bv)), (4, .inl (raw)), (0, .inr (.inr (some (770)))), (1, .inr (.inr (some (q)))), (2, .inl (n)), (3, .inl (i))] rfl ⟨rfl, rfl, rfl, rfl, rfl, rfl, rfl, rfl, rfl, rfl, rfl, trivial⟩ ?_
      exact kN (by omega)
    · skip
      refine ez_go (n := 1) (pc' := 261) (L' := [(10, .inl (e)), (9, .inl (nb)), (8, .inl (c)), (7, .inl (a)), (6, .inl (pa)), (5, .inl (bv)), (4, .inl (raw)), (0, .inr (.inr (some (770)))), (1, .inr (.inr (some (q)))), (2, .inl (n)), (3, .inl (i))]) (st' := [.inl (0)]) rfl ?_
      exact ez_retZ rfl rfl (Or.inl rfl) (kR (by omega))

theorem rd_mw262 {a c e bv nb pa raw n i : Int} (hB : ez_B τ h) (t770 : τ 770 = 75) (ar : ez_rg a) (cr : ez_rg c) (er : ez_rg e) (br : ez_rg bv) (kR : (a = 9 ∧ bv = 15 ∧ e = 9) → Q (.inl (some (ez_v (.inl 0))), h)) (kN : ¬ (a = 9 ∧ bv = 15 ∧ e = 9) → ez_W (d + 1) cm_311 285 [(10, .inl (e)), (9, .inl (nb)), (8, .inl (c)), (7, .inl (a)), (6, .inl (pa)), (5, .inl (bv)), (4, .inl (raw)), (0, .inr (.inr (some (770)))), (1, .inr (.inr (some (q)))), (2, .inl (n)), (3, .inl (i))] [] h Q) : ez_W (d + 1) cm_311 262 [(10, .inl (e)), (9, .inl (nb)), (8, .inl (c)), (7, .inl (a)), (6, .inl (pa)), (5, .inl (bv)), (4, .inl (raw)), (0, .inr (.inr (some (770)))), (1, .inr (.inr (some (q)))), (2, .inl (n)), (3, .inl (i))] [] h Q := by
  obtain ⟨ar1, ar2⟩ := id ar
  obtain ⟨cr1, cr2⟩ := id cr
  obtain ⟨er1, er2⟩ := id er
  obtain ⟨br1, br2⟩ := id br
  refine ez_go (n := 2) (pc' := 266) (L' := [(10, .inl (e)), (9, .inl (nb)), (8, .inl (c)), (7, .inl (a)), (6, .inl (pa)), (5, .inl (bv)), (4, .inl (raw)), (0, .inr (.inr (some (770)))), (1, .inr (.inr (some (q)))), (2, .inl (n)), (3, .inl (i))]) (st' := [.inl (9), .inl (a)]) rfl ?_
  refine ez_icmp rfl rfl ⟨by first | omega | exact (sz_i32 _).1, by first | omega | exact (sz_i32 _).2⟩ ⟨by first | omega | exact (sz_i32 _).1, by first | omega | exact (sz_i32 _).2⟩ (fun (c1 : (a) ≠ (9)) => ?_) (fun (c1 : ¬((a) ≠ (9))) => ?_)
  · skip
    refine ez_less [(10, .inl (e)), (9, .inl (nb)), (8, .inl (c)), (7, .inl (a)), (6, .inl (pa)), (5, .inl (bv)), (4, .inl (raw)), (0, .inr (.inr (some (770)))), (1, .inr (.inr (some (q)))), (2, .inl (n)), (3, .inl (i))] rfl ⟨rfl, rfl, rfl, rfl, rfl, rfl, rfl, rfl, rfl, rfl, rfl, trivial⟩ ?_
    exact kN (by omega)
  · skip
    refine ez_go (n := 2) (pc' := 273) (L' := [(10, .inl (e)), (9, .inl (nb)), (8, .inl (c)), (7, .inl (a)), (6, .inl (pa)), (5, .inl (bv)), (4, .inl (raw)), (0, .inr (.inr (some (770)))), (1, .inr (.inr (some (q)))), (2, .inl (n)), (3, .inl (i))]) (st' := [.inl (15), .inl (bv)]) rfl ?_
    refine ez_icmp rfl rfl ⟨by first | omega | exact (sz_i32 _).1, by first | omega | exact (sz_i32 _).2⟩ ⟨by first | omega | exact (sz_i32 _).1, by first | omega | exact (sz_i32 _).2⟩ (fun (c2 : (bv) ≠ (15)) => ?_) (fun (c2 : ¬((bv) ≠ (15))) => ?_)
    · skip
      refine ez_less [(10, .inl (e)), (9, .inl (nb)), (8, .inl (c)), (7, .inl (a)), (6, .inl (pa)), (5, .inl (bv)), (4, .inl (raw)), (0, .inr (.inr (some (770)))), (1, .inr (.inr (some (q)))), (2, .inl (n)), (3, .inl (i))] rfl ⟨rfl, rfl, rfl, rfl, rfl, rfl, rfl, rfl, rfl, rfl, rfl, trivial⟩ ?_
      exact kN (by omega)
    · skip
      refine ez_go (n := 2) (pc' := 280) (L' := [(10, .inl (e)), (9, .inl (nb)), (8, .inl (c)), (7, .inl (a)), (6, .inl (pa)), (5, .inl (bv)), (4, .inl (raw)), (0, .inr (.inr (some (770)))), (1, .inr (.inr (some (q)))), (2, .inl (n)), (3, .inl (i))]) (st' := [.inl (9), .inl (e)]) rfl ?_
      refine ez_icmp rfl rfl ⟨by first | omega | exact (sz_i32 _).1, by first | omega | exact (sz_i32 _).2⟩ ⟨by first | omega | exact (sz_i32 _).1, by first | omega | exact (sz_i32 _).2⟩ (fun (c3 : (e) ≠ (9)) => ?_) (fun (c3 : ¬((e) ≠ (9))) => ?_)
      · skip
        refine ez_less [(10, .inl (e)), (9, .inl (nb)), (8, .inl (c)), (7, .inl (a)), (6, .inl (pa)), (5, .inl (bv)), (4, .inl (raw)), (0, .inr (.inr (some (770)))), (1, .inr (.inr (some (q)))), (2, .inl (n)), (3, .inl (i))] rfl ⟨rfl, rfl, rfl, rfl, rfl, rfl, rfl, rfl, rfl, rfl, rfl, trivial⟩ ?_
        exact kN (by omega)
      · skip
        refine ez_go (n := 1) (pc' := 284) (L' := [(10, .inl (e)), (9, .inl (nb)), (8, .inl (c)), (7, .inl (a)), (6, .inl (pa)), (5, .inl (bv)), (4, .inl (raw)), (0, .inr (.inr (some (770)))), (1, .inr (.inr (some (q)))), (2, .inl (n)), (3, .inl (i))]) (st' := [.inl (0)]) rfl ?_
        exact ez_retZ rfl rfl (Or.inl rfl) (kR (by omega))

theorem rd_mw285 {a c e bv nb pa raw n i : Int} (hB : ez_B τ h) (t770 : τ 770 = 75) (ar : ez_rg a) (cr : ez_rg c) (er : ez_rg e) (br : ez_rg bv) (kR : (c = 9 ∧ a = 15 ∧ bv = 9) → Q (.inl (some (ez_v (.inl 0))), h)) (kN : ¬ (c = 9 ∧ a = 15 ∧ bv = 9) → ez_W (d + 1) cm_311 308 [(10, .inl (e)), (9, .inl (nb)), (8, .inl (c)), (7, .inl (a)), (6, .inl (pa)), (5, .inl (bv)), (4, .inl (raw)), (0, .inr (.inr (some (770)))), (1, .inr (.inr (some (q)))), (2, .inl (n)), (3, .inl (i))] [] h Q) : ez_W (d + 1) cm_311 285 [(10, .inl (e)), (9, .inl (nb)), (8, .inl (c)), (7, .inl (a)), (6, .inl (pa)), (5, .inl (bv)), (4, .inl (raw)), (0, .inr (.inr (some (770)))), (1, .inr (.inr (some (q)))), (2, .inl (n)), (3, .inl (i))] [] h Q := by
  obtain ⟨ar1, ar2⟩ := id ar
  obtain ⟨cr1, cr2⟩ := id cr
  obtain ⟨er1, er2⟩ := id er
  obtain ⟨br1, br2⟩ := id br
  refine ez_go (n := 2) (pc' := 289) (L' := [(10, .inl (e)), (9, .inl (nb)), (8, .inl (c)), (7, .inl (a)), (6, .inl (pa)), (5, .inl (bv)), (4, .inl (raw)), (0, .inr (.inr (some (770)))), (1, .inr (.inr (some (q)))), (2, .inl (n)), (3, .inl (i))]) (st' := [.inl (9), .inl (c)]) rfl ?_
  refine ez_icmp rfl rfl ⟨by first | omega | exact (sz_i32 _).1, by first | omega | exact (sz_i32 _).2⟩ ⟨by first | omega | exact (sz_i32 _).1, by first | omega | exact (sz_i32 _).2⟩ (fun (c1 : (c) ≠ (9)) => ?_) (fun (c1 : ¬((c) ≠ (9))) => ?_)
  · skip
    refine ez_less [(10, .inl (e)), (9, .inl (nb)), (8, .inl (c)), (7, .inl (a)), (6, .inl (pa)), (5, .inl (bv)), (4, .inl (raw)), (0, .inr (.inr (some (770)))), (1, .inr (.inr (some (q)))), (2, .inl (n)), (3, .inl (i))] rfl ⟨rfl, rfl, rfl, rfl, rfl, rfl, rfl, rfl, rfl, rfl, rfl, trivial⟩ ?_
    exact kN (by omega)
  · skip
    refine ez_go (n := 2) (pc' := 296) (L' := [(10, .inl (e)), (9, .inl (nb)), (8, .inl (c)), (7, .inl (a)), (6, .inl (pa)), (5, .inl (bv)), (4, .inl (raw)), (0, .inr (.inr (some (770)))), (1, .inr (.inr (some (q)))), (2, .inl (n)), (3, .inl (i))]) (st' := [.inl (15), .inl (a)]) rfl ?_
    refine ez_icmp rfl rfl ⟨by first | omega | exact (sz_i32 _).1, by first | omega | exact (sz_i32 _).2⟩ ⟨by first | omega | exact (sz_i32 _).1, by first | omega | exact (sz_i32 _).2⟩ (fun (c2 : (a) ≠ (15)) => ?_) (fun (c2 : ¬((a) ≠ (15))) => ?_)
    · skip
      refine ez_less [(10, .inl (e)), (9, .inl (nb)), (8, .inl (c)), (7, .inl (a)), (6, .inl (pa)), (5, .inl (bv)), (4, .inl (raw)), (0, .inr (.inr (some (770)))), (1, .inr (.inr (some (q)))), (2, .inl (n)), (3, .inl (i))] rfl ⟨rfl, rfl, rfl, rfl, rfl, rfl, rfl, rfl, rfl, rfl, rfl, trivial⟩ ?_
      exact kN (by omega)
    · skip
      refine ez_go (n := 2) (pc' := 303) (L' := [(10, .inl (e)), (9, .inl (nb)), (8, .inl (c)), (7, .inl (a)), (6, .inl (pa)), (5, .inl (bv)), (4, .inl (raw)), (0, .inr (.inr (some (770)))), (1, .inr (.inr (some (q)))), (2, .inl (n)), (3, .inl (i))]) (st' := [.inl (9), .inl (bv)]) rfl ?_
      refine ez_icmp rfl rfl ⟨by first | omega | exact (sz_i32 _).1, by first | omega | exact (sz_i32 _).2⟩ ⟨by first | omega | exact (sz_i32 _).1, by first | omega | exact (sz_i32 _).2⟩ (fun (c3 : (bv) ≠ (9)) => ?_) (fun (c3 : ¬((bv) ≠ (9))) => ?_)
      · skip
        refine ez_less [(10, .inl (e)), (9, .inl (nb)), (8, .inl (c)), (7, .inl (a)), (6, .inl (pa)), (5, .inl (bv)), (4, .inl (raw)), (0, .inr (.inr (some (770)))), (1, .inr (.inr (some (q)))), (2, .inl (n)), (3, .inl (i))] rfl ⟨rfl, rfl, rfl, rfl, rfl, rfl, rfl, rfl, rfl, rfl, rfl, trivial⟩ ?_
        exact kN (by omega)
      · skip
        refine ez_go (n := 1) (pc' := 307) (L' := [(10, .inl (e)), (9, .inl (nb)), (8, .inl (c)), (7, .inl (a)), (6, .inl (pa)), (5, .inl (bv)), (4, .inl (raw)), (0, .inr (.inr (some (770)))), (1, .inr (.inr (some (q)))), (2, .inl (n)), (3, .inl (i))]) (st' := [.inl (0)]) rfl ?_
        exact ez_retZ rfl rfl (Or.inl rfl) (kR (by omega))

theorem rd_mw308 {a c e bv nb pa raw n i : Int} (hB : ez_B τ h) (t770 : τ 770 = 75) (ar : ez_rg a) (cr : ez_rg c) (er : ez_rg e) (br : ez_rg bv) (kR : ((a = 16 ∧ bv = 16) ∨ (wle a ∧ bv = 16) ∨ (a = 16 ∧ wle bv)) → Q (.inl (some (ez_v (.inl 0))), h)) (kN : ¬ ((a = 16 ∧ bv = 16) ∨ (wle a ∧ bv = 16) ∨ (a = 16 ∧ wle bv)) → ez_W (d + 1) cm_311 356 [(10, .inl (e)), (9, .inl (nb)), (8, .inl (c)), (7, .inl (a)), (6, .inl (pa)), (5, .inl (bv)), (4, .inl (raw)), (0, .inr (.inr (some (770)))), (1, .inr (.inr (some (q)))), (2, .inl (n)), (3, .inl (i))] [] h Q) : ez_W (d + 1) cm_311 308 [(10, .inl (e)), (9, .inl (nb)), (8, .inl (c)), (7, .inl (a)), (6, .inl (pa)), (5, .inl (bv)), (4, .inl (raw)), (0, .inr (.inr (some (770)))), (1, .inr (.inr (some (q)))), (2, .inl (n)), (3, .inl (i))] [] h Q := by
  obtain ⟨ar1, ar2⟩ := id ar
  obtain ⟨cr1, cr2⟩ := id cr
  obtain ⟨er1, er2⟩ := id er
  obtain ⟨br1, br2⟩ := id br
  refine ez_go (n := 2) (pc' := 312) (L' := [(10, .inl (e)), (9, .inl (nb)), (8, .inl (c)), (7, .inl (a)), (6, .inl (pa)), (5, .inl (bv)), (4, .inl (raw)), (0, .inr (.inr (some (770)))), (1, .inr (.inr (some (q)))), (2, .inl (n)), (3, .inl (i))]) (st' := [.inl (16), .inl (a)]) rfl ?_
  refine ez_icmp rfl rfl ⟨by first | omega | exact (sz_i32 _).1, by first | omega | exact (sz_i32 _).2⟩ ⟨by first | omega | exact (sz_i32 _).1, by first | omega | exact (sz_i32 _).2⟩ (fun (c1 : (a) ≠ (16)) => ?_) (fun (c1 : ¬((a) ≠ (16))) => ?_)
  · skip
    refine ez_go (n := 2) (pc' := 325) (L' := [(10, .inl (e)), (9, .inl (nb)), (8, .inl (c)), (7, .inl (a)), (6, .inl (pa)), (5, .inl (bv)), (4, .inl (raw)), (0, .inr (.inr (some (770)))), (1, .inr (.inr (some (q)))), (2, .inl (n)), (3, .inl (i))]) (st' := [.inl (a), .inr (.inr (some (770)))]) rfl ?_
    refine ez_cv hB t770 rfl rfl rfl tq_75 rfl rfl rfl (rd_mletter ⟨by omega, by omega⟩ (fun (w1 : wle (a)) => ez_K1 ?_) (fun (w1 : ¬ wle (a)) => ez_K1 ?_))
    · skip
      refine ez_if rfl rfl ⟨by decide, by decide⟩ (fun (c2 : (1 : Int) = (0)) => absurd c2 (by decide)) (fun _ => ?_)
      refine ez_go (n := 2) (pc' := 335) (L' := [(10, .inl (e)), (9, .inl (nb)), (8, .inl (c)), (7, .inl (a)), (6, .inl (pa)), (5, .inl (bv)), (4, .inl (raw)), (0, .inr (.inr (some (770)))), (1, .inr (.inr (some (q)))), (2, .inl (n)), (3, .inl (i))]) (st' := [.inl (16), .inl (bv)]) rfl ?_
      refine ez_icmp rfl rfl ⟨by first | omega | exact (sz_i32 _).1, by first | omega | exact (sz_i32 _).2⟩ ⟨by first | omega | exact (sz_i32 _).1, by first | omega | exact (sz_i32 _).2⟩ (fun (c3 : (bv) = (16)) => ?_) (fun (c3 : ¬((bv) = (16))) => ?_)
      · skip
        refine ez_go (n := 1) (pc' := 355) (L' := [(10, .inl (e)), (9, .inl (nb)), (8, .inl (c)), (7, .inl (a)), (6, .inl (pa)), (5, .inl (bv)), (4, .inl (raw)), (0, .inr (.inr (some (770)))), (1, .inr (.inr (some (q)))), (2, .inl (n)), (3, .inl (i))]) (st' := [.inl (0)]) rfl ?_
        exact ez_retZ rfl rfl (Or.inl rfl) (kR (by omega))
      · skip
        refine ez_go (n := 2) (pc' := 342) (L' := [(10, .inl (e)), (9, .inl (nb)), (8, .inl (c)), (7, .inl (a)), (6, .inl (pa)), (5, .inl (bv)), (4, .inl (raw)), (0, .inr (.inr (some (770)))), (1, .inr (.inr (some (q)))), (2, .inl (n)), (3, .inl (i))]) (st' := [.inl (16), .inl (a)]) rfl ?_
        refine ez_icmp rfl rfl ⟨by first | omega | exact (sz_i32 _).1, by first | omega | exact (sz_i32 _).2⟩ ⟨by first | omega | exact (sz_i32 _).1, by first | omega | exact (sz_i32 _).2⟩ (fun (c4 : (a) ≠ (16)) => ?_) (fun (c4 : ¬((a) ≠ (16))) => ?_)
        · skip
          refine ez_less [(10, .inl (e)), (9, .inl (nb)), (8, .inl (c)), (7, .inl (a)), (6, .inl (pa)), (5, .inl (bv)), (4, .inl (raw)), (0, .inr (.inr (some (770)))), (1, .inr (.inr (some (q)))), (2, .inl (n)), (3, .inl (i))] rfl ⟨rfl, rfl, rfl, rfl, rfl, rfl, rfl, rfl, rfl, rfl, rfl, trivial⟩ ?_
          exact kN (by omega)
        · skip
          refine ez_go (n := 2) (pc' := 348) (L' := [(10, .inl (e)), (9, .inl (nb)), (8, .inl (c)), (7, .inl (a)), (6, .inl (pa)), (5, .inl (bv)), (4, .inl (raw)), (0, .inr (.inr (some (770)))), (1, .inr (.inr (some (q)))), (2, .inl (n)), (3, .inl (i))]) (st' := [.inl (bv), .inr (.inr (some (770)))]) rfl ?_
          refine ez_cv hB t770 rfl rfl rfl tq_75 rfl rfl rfl (rd_mletter ⟨by omega, by omega⟩ (fun (w2 : wle (bv)) => ez_K1 ?_) (fun (w2 : ¬ wle (bv)) => ez_K1 ?_))
          · skip
            refine ez_if rfl rfl ⟨by decide, by decide⟩ (fun (c5 : (1 : Int) = (0)) => absurd c5 (by decide)) (fun _ => ?_)
            refine ez_go (n := 1) (pc' := 355) (L' := [(10, .inl (e)), (9, .inl (nb)), (8, .inl (c)), (7, .inl (a)), (6, .inl (pa)), (5, .inl (bv)), (4, .inl (raw)), (0, .inr (.inr (some (770)))), (1, .inr (.inr (some (q)))), (2, .inl (n)), (3, .inl (i))]) (st' := [.inl (0)]) rfl ?_
            exact ez_retZ rfl rfl (Or.inl rfl) (kR (by omega))
          · skip
            refine ez_if rfl rfl ⟨by decide, by decide⟩ (fun _ => ?_) (fun (c6 : ¬((0 : Int) = (0))) => absurd c6 (by decide))
            refine ez_less [(10, .inl (e)), (9, .inl (nb)), (8, .inl (c)), (7, .inl (a)), (6, .inl (pa)), (5, .inl (bv)), (4, .inl (raw)), (0, .inr (.inr (some (770)))), (1, .inr (.inr (some (q)))), (2, .inl (n)), (3, .inl (i))] rfl ⟨rfl, rfl, rfl, rfl, rfl, rfl, rfl, rfl, rfl, rfl, rfl, trivial⟩ ?_
            exact kN (by omega)
    · skip
      refine ez_if rfl rfl ⟨by decide, by decide⟩ (fun _ => ?_) (fun (c7 : ¬((0 : Int) = (0))) => absurd c7 (by decide))
      refine ez_go (n := 2) (pc' := 342) (L' := [(10, .inl (e)), (9, .inl (nb)), (8, .inl (c)), (7, .inl (a)), (6, .inl (pa)), (5, .inl (bv)), (4, .inl (raw)), (0, .inr (.inr (some (770)))), (1, .inr (.inr (some (q)))), (2, .inl (n)), (3, .inl (i))]) (st' := [.inl (16), .inl (a)]) rfl ?_
      refine ez_icmp rfl rfl ⟨by first | omega | exact (sz_i32 _).1, by first | omega | exact (sz_i32 _).2⟩ ⟨by first | omega | exact (sz_i32 _).1, by first | omega | exact (sz_i32 _).2⟩ (fun (c8 : (a) ≠ (16)) => ?_) (fun (c8 : ¬((a) ≠ (16))) => ?_)
      · skip
        refine ez_less [(10, .inl (e)), (9, .inl (nb)), (8, .inl (c)), (7, .inl (a)), (6, .inl (pa)), (5, .inl (bv)), (4, .inl (raw)), (0, .inr (.inr (some (770)))), (1, .inr (.inr (some (q)))), (2, .inl (n)), (3, .inl (i))] rfl ⟨rfl, rfl, rfl, rfl, rfl, rfl, rfl, rfl, rfl, rfl, rfl, trivial⟩ ?_
        exact kN (by omega)
      · skip
        refine ez_go (n := 2) (pc' := 348) (L' := [(10, .inl (e)), (9, .inl (nb)), (8, .inl (c)), (7, .inl (a)), (6, .inl (pa)), (5, .inl (bv)), (4, .inl (raw)), (0, .inr (.inr (some (770)))), (1, .inr (.inr (some (q)))), (2, .inl (n)), (3, .inl (i))]) (st' := [.inl (bv), .inr (.inr (some (770)))]) rfl ?_
        refine ez_cv hB t770 rfl rfl rfl tq_75 rfl rfl rfl (rd_mletter ⟨by omega, by omega⟩ (fun (w3 : wle (bv)) => ez_K1 ?_) (fun (w3 : ¬ wle (bv)) => ez_K1 ?_))
        · skip
          refine ez_if rfl rfl ⟨by decide, by decide⟩ (fun (c9 : (1 : Int) = (0)) => absurd c9 (by decide)) (fun _ => ?_)
          refine ez_go (n := 1) (pc' := 355) (L' := [(10, .inl (e)), (9, .inl (nb)), (8, .inl (c)), (7, .inl (a)), (6, .inl (pa)), (5, .inl (bv)), (4, .inl (raw)), (0, .inr (.inr (some (770)))), (1, .inr (.inr (some (q)))), (2, .inl (n)), (3, .inl (i))]) (st' := [.inl (0)]) rfl ?_
          exact ez_retZ rfl rfl (Or.inl rfl) (kR (by omega))
        · skip
          refine ez_if rfl rfl ⟨by decide, by decide⟩ (fun _ => ?_) (fun (c10 : ¬((0 : Int) = (0))) => absurd c10 (by decide))
          refine ez_less [(10, .inl (e)), (9, .inl (nb)), (8, .inl (c)), (7, .inl (a)), (6, .inl (pa)), (5, .inl (bv)), (4, .inl (raw)), (0, .inr (.inr (some (770)))), (1, .inr (.inr (some (q)))), (2, .inl (n)), (3, .inl (i))] rfl ⟨rfl, rfl, rfl, rfl, rfl, rfl, rfl, rfl, rfl, rfl, rfl, trivial⟩ ?_
          exact kN (by omega)
  · skip
    refine ez_go (n := 2) (pc' := 319) (L' := [(10, .inl (e)), (9, .inl (nb)), (8, .inl (c)), (7, .inl (a)), (6, .inl (pa)), (5, .inl (bv)), (4, .inl (raw)), (0, .inr (.inr (some (770)))), (1, .inr (.inr (some (q)))), (2, .inl (n)), (3, .inl (i))]) (st' := [.inl (16), .inl (bv)]) rfl ?_
    refine ez_icmp rfl rfl ⟨by first | omega | exact (sz_i32 _).1, by first | omega | exact (sz_i32 _).2⟩ ⟨by first | omega | exact (sz_i32 _).1, by first | omega | exact (sz_i32 _).2⟩ (fun (c11 : (bv) = (16)) => ?_) (fun (c11 : ¬((bv) = (16))) => ?_)
    · skip
      refine ez_go (n := 1) (pc' := 355) (L' := [(10, .inl (e)), (9, .inl (nb)), (8, .inl (c)), (7, .inl (a)), (6, .inl (pa)), (5, .inl (bv)), (4, .inl (raw)), (0, .inr (.inr (some (770)))), (1, .inr (.inr (some (q)))), (2, .inl (n)), (3, .inl (i))]) (st' := [.inl (0)]) rfl ?_
      exact ez_retZ rfl rfl (Or.inl rfl) (kR (by omega))
    · skip
      refine ez_go (n := 2) (pc' := 325) (L' := [(10, .inl (e)), (9, .inl (nb)), (8, .inl (c)), (7, .inl (a)), (6, .inl (pa)), (5, .inl (bv)), (4, .inl (raw)), (0, .inr (.inr (some (770)))), (1, .inr (.inr (some (q)))), (2, .inl (n)), (3, .inl (i))]) (st' := [.inl (a), .inr (.inr (some (770)))]) rfl ?_
      refine ez_cv hB t770 rfl rfl rfl tq_75 rfl rfl rfl (rd_mletter ⟨by omega, by omega⟩ (fun (w4 : wle (a)) => ez_K1 ?_) (fun (w4 : ¬ wle (a)) => ez_K1 ?_))
      · skip
        refine ez_if rfl rfl ⟨by decide, by decide⟩ (fun (c12 : (1 : Int) = (0)) => absurd c12 (by decide)) (fun _ => ?_)
        refine ez_go (n := 2) (pc' := 335) (L' := [(10, .inl (e)), (9, .inl (nb)), (8, .inl (c)), (7, .inl (a)), (6, .inl (pa)), (5, .inl (bv)), (4, .inl (raw)), (0, .inr (.inr (some (770)))), (1, .inr (.inr (some (q)))), (2, .inl (n)), (3, .inl (i))]) (st' := [.inl (16), .inl (bv)]) rfl ?_
        refine ez_icmp rfl rfl ⟨by first | omega | exact (sz_i32 _).1, by first | omega | exact (sz_i32 _).2⟩ ⟨by first | omega | exact (sz_i32 _).1, by first | omega | exact (sz_i32 _).2⟩ (fun (c13 : (bv) = (16)) => ?_) (fun (c13 : ¬((bv) = (16))) => ?_)
        · skip
          refine ez_go (n := 1) (pc' := 355) (L' := [(10, .inl (e)), (9, .inl (nb)), (8, .inl (c)), (7, .inl (a)), (6, .inl (pa)), (5, .inl (bv)), (4, .inl (raw)), (0, .inr (.inr (some (770)))), (1, .inr (.inr (some (q)))), (2, .inl (n)), (3, .inl (i))]) (st' := [.inl (0)]) rfl ?_
          exact ez_retZ rfl rfl (Or.inl rfl) (kR (by omega))
        · skip
          refine ez_go (n := 2) (pc' := 342) (L' := [(10, .inl (e)), (9, .inl (nb)), (8, .inl (c)), (7, .inl (a)), (6, .inl (pa)), (5, .inl (bv)), (4, .inl (raw)), (0, .inr (.inr (some (770)))), (1, .inr (.inr (some (q)))), (2, .inl (n)), (3, .inl (i))]) (st' := [.inl (16), .inl (a)]) rfl ?_
          refine ez_icmp rfl rfl ⟨by first | omega | exact (sz_i32 _).1, by first | omega | exact (sz_i32 _).2⟩ ⟨by first | omega | exact (sz_i32 _).1, by first | omega | exact (sz_i32 _).2⟩ (fun (c14 : (a) ≠ (16)) => ?_) (fun (c14 : ¬((a) ≠ (16))) => ?_)
          · skip
            refine ez_less [(10, .inl (e)), (9, .inl (nb)), (8, .inl (c)), (7, .inl (a)), (6, .inl (pa)), (5, .inl (bv)), (4, .inl (raw)), (0, .inr (.inr (some (770)))), (1, .inr (.inr (some (q)))), (2, .inl (n)), (3, .inl (i))] rfl ⟨rfl, rfl, rfl, rfl, rfl, rfl, rfl, rfl, rfl, rfl, rfl, trivial⟩ ?_
            exact kN (by omega)
          · skip
            refine ez_go (n := 2) (pc' := 348) (L' := [(10, .inl (e)), (9, .inl (nb)), (8, .inl (c)), (7, .inl (a)), (6, .inl (pa)), (5, .inl (bv)), (4, .inl (raw)), (0, .inr (.inr (some (770)))), (1, .inr (.inr (some (q)))), (2, .inl (n)), (3, .inl (i))]) (st' := [.inl (bv), .inr (.inr (some (770)))]) rfl ?_
            refine ez_cv hB t770 rfl rfl rfl tq_75 rfl rfl rfl (rd_mletter ⟨by omega, by omega⟩ (fun (w5 : wle (bv)) => ez_K1 ?_) (fun (w5 : ¬ wle (bv)) => ez_K1 ?_))
            · skip
              refine ez_if rfl rfl ⟨by decide, by decide⟩ (fun (c15 : (1 : Int) = (0)) => absurd c15 (by decide)) (fun _ => ?_)
              refine ez_go (n := 1) (pc' := 355) (L' := [(10, .inl (e)), (9, .inl (nb)), (8, .inl (c)), (7, .inl (a)), (6, .inl (pa)), (5, .inl (bv)), (4, .inl (raw)), (0, .inr (.inr (some (770)))), (1, .inr (.inr (some (q)))), (2, .inl (n)), (3, .inl (i))]) (st' := [.inl (0)]) rfl ?_
              exact ez_retZ rfl rfl (Or.inl rfl) (kR (by omega))
            · skip
              refine ez_if rfl rfl ⟨by decide, by decide⟩ (fun _ => ?_) (fun (c16 : ¬((0 : Int) = (0))) => absurd c16 (by decide))
              refine ez_less [(10, .inl (e)), (9, .inl (nb)), (8, .inl (c)), (7, .inl (a)), (6, .inl (pa)), (5, .inl (bv)), (4, .inl (raw)), (0, .inr (.inr (some (770)))), (1, .inr (.inr (some (q)))), (2, .inl (n)), (3, .inl (i))] rfl ⟨rfl, rfl, rfl, rfl, rfl, rfl, rfl, rfl, rfl, rfl, rfl, trivial⟩ ?_
              exact kN (by omega)
      · skip
        refine ez_if rfl rfl ⟨by decide, by decide⟩ (fun _ => ?_) (fun (c17 : ¬((0 : Int) = (0))) => absurd c17 (by decide))
        refine ez_go (n := 2) (pc' := 342) (L' := [(10, .inl (e)), (9, .inl (nb)), (8, .inl (c)), (7, .inl (a)), (6, .inl (pa)), (5, .inl (bv)), (4, .inl (raw)), (0, .inr (.inr (some (770)))), (1, .inr (.inr (some (q)))), (2, .inl (n)), (3, .inl (i))]) (st' := [.inl (16), .inl (a)]) rfl ?_
        refine ez_icmp rfl rfl ⟨by first | omega | exact (sz_i32 _).1, by first | omega | exact (sz_i32 _).2⟩ ⟨by first | omega | exact (sz_i32 _).1, by first | omega | exact (sz_i32 _).2⟩ (fun (c18 : (a) ≠ (16)) => ?_) (fun (c18 : ¬((a) ≠ (16))) => ?_)
        · skip
          refine ez_less [(10, .inl (e)), (9, .inl (nb)), (8, .inl (c)), (7, .inl (a)), (6, .inl (pa)), (5, .inl (bv)), (4, .inl (raw)), (0, .inr (.inr (some (770)))), (1, .inr (.inr (some (q)))), (2, .inl (n)), (3, .inl (i))] rfl ⟨rfl, rfl, rfl, rfl, rfl, rfl, rfl, rfl, rfl, rfl, rfl, trivial⟩ ?_
          exact kN (by omega)
        · skip
          refine ez_go (n := 2) (pc' := 348) (L' := [(10, .inl (e)), (9, .inl (nb)), (8, .inl (c)), (7, .inl (a)), (6, .inl (pa)), (5, .inl (bv)), (4, .inl (raw)), (0, .inr (.inr (some (770)))), (1, .inr (.inr (some (q)))), (2, .inl (n)), (3, .inl (i))]) (st' := [.inl (bv), .inr (.inr (some (770)))]) rfl ?_
          refine ez_cv hB t770 rfl rfl rfl tq_75 rfl rfl rfl (rd_mletter ⟨by omega, by omega⟩ (fun (w6 : wle (bv)) => ez_K1 ?_) (fun (w6 : ¬ wle (bv)) => ez_K1 ?_))
          · skip
            refine ez_if rfl rfl ⟨by decide, by decide⟩ (fun (c19 : (1 : Int) = (0)) => absurd c19 (by decide)) (fun _ => ?_)
            refine ez_go (n := 1) (pc' := 355) (L' := [(10, .inl (e)), (9, .inl (nb)), (8, .inl (c)), (7, .inl (a)), (6, .inl (pa)), (5, .inl (bv)), (4, .inl (raw)), (0, .inr (.inr (some (770)))), (1, .inr (.inr (some (q)))), (2, .inl (n)), (3, .inl (i))]) (st' := [.inl (0)]) rfl ?_
            exact ez_retZ rfl rfl (Or.inl rfl) (kR (by omega))
          · skip
            refine ez_if rfl rfl ⟨by decide, by decide⟩ (fun _ => ?_) (fun (c20 : ¬((0 : Int) = (0))) => absurd c20 (by decide))
            refine ez_less [(10, .inl (e)), (9, .inl (nb)), (8, .inl (c)), (7, .inl (a)), (6, .inl (pa)), (5, .inl (bv)), (4, .inl (raw)), (0, .inr (.inr (some (770)))), (1, .inr (.inr (some (q)))), (2, .inl (n)), (3, .inl (i))] rfl ⟨rfl, rfl, rfl, rfl, rfl, rfl, rfl, rfl, rfl, rfl, rfl, trivial⟩ ?_
            exact kN (by omega)

theorem rd_mw356 {a c e bv nb pa raw n i : Int} (hB : ez_B τ h) (t770 : τ 770 = 75) (ar : ez_rg a) (cr : ez_rg c) (er : ez_rg e) (br : ez_rg bv) (kR : (c = 16 ∧ (a = 12 ∨ wqu a) ∧ bv = 16) → Q (.inl (some (ez_v (.inl 0))), h)) (kN : ¬ (c = 16 ∧ (a = 12 ∨ wqu a) ∧ bv = 16) → ez_W (d + 1) cm_311 388 [(10, .inl (e)), (9, .inl (nb)), (8, .inl (c)), (7, .inl (a)), (6, .inl (pa)), (5, .inl (bv)), (4, .inl (raw)), (0, .inr (.inr (some (770)))), (1, .inr (.inr (some (q)))), (2, .inl (n)), (3, .inl (i))] [] h Q) : ez_W (d + 1) cm_311 356 [(10, .inl (e)), (9, .inl (nb)), (8, .inl (c)), (7, .inl (a)), (6, .inl (pa)), (5, .inl (bv)), (4, .inl (raw)), (0, .inr (.inr (some (770)))), (1, .inr (.inr (some (q)))), (2, .inl (n)), (3, .inl (i))] [] h Q := by
  obtain ⟨ar1, ar2⟩ := id ar
  obtain ⟨cr1, cr2⟩ := id cr
  obtain ⟨er1, er2⟩ := id er
  obtain ⟨br1, br2⟩ := id br
  refine ez_go (n := 2) (pc' := 360) (L' := [(10, .inl (e)), (9, .inl (nb)), (8, .inl (c)), (7, .inl (a)), (6, .inl (pa)), (5, .inl (bv)), (4, .inl (raw)), (0, .inr (.inr (some (770)))), (1, .inr (.inr (some (q)))), (2, .inl (n)), (3, .inl (i))]) (st' := [.inl (16), .inl (c)]) rfl ?_
  refine ez_icmp rfl rfl ⟨by first | omega | exact (sz_i32 _).1, by first | omega | exact (sz_i32 _).2⟩ ⟨by first | omega | exact (sz_i32 _).1, by first | omega | exact (sz_i32 _).2⟩ (fun (c1 : (c) ≠ (16)) => ?_) (fun (c1 : ¬((c) ≠ (16))) => ?_)
  · skip
    refine ez_less [(10, .inl (e)), (9, .inl (nb)), (8, .inl (c)), (7, .inl (a)), (6, .inl (pa)), (5, .inl (bv)), (4, .inl (raw)), (0, .inr (.inr (some (770)))), (1, .inr (.inr (some (q)))), (2, .inl (n)), (3, .inl (i))] rfl ⟨rfl, rfl, rfl, rfl, rfl, rfl, rfl, rfl, rfl, rfl, rfl, trivial⟩ ?_
    exact kN (by omega)
  · skip
    refine ez_go (n := 2) (pc' := 367) (L' := [(10, .inl (e)), (9, .inl (nb)), (8, .inl (c)), (7, .inl (a)), (6, .inl (pa)), (5, .inl (bv)), (4, .inl (raw)), (0, .inr (.inr (some (770)))), (1, .inr (.inr (some (q)))), (2, .inl (n)), (3, .inl (i))]) (st' := [.inl (12), .inl (a)]) rfl ?_
    refine ez_icmp rfl rfl ⟨by first | omega | exact (sz_i32 _).1, by first | omega | exact (sz_i32 _).2⟩ ⟨by first | omega | exact (sz_i32 _).1, by first | omega | exact (sz_i32 _).2⟩ (fun (c2 : (a) = (12)) => ?_) (fun (c2 : ¬((a) = (12))) => ?_)
    · skip
      refine ez_go (n := 2) (pc' := 383) (L' := [(10, .inl (e)), (9, .inl (nb)), (8, .inl (c)), (7, .inl (a)), (6, .inl (pa)), (5, .inl (bv)), (4, .inl (raw)), (0, .inr (.inr (some (770)))), (1, .inr (.inr (some (q)))), (2, .inl (n)), (3, .inl (i))]) (st' := [.inl (16), .inl (bv)]) rfl ?_
      refine ez_icmp rfl rfl ⟨by first | omega | exact (sz_i32 _).1, by first | omega | exact (sz_i32 _).2⟩ ⟨by first | omega | exact (sz_i32 _).1, by first | omega | exact (sz_i32 _).2⟩ (fun (c3 : (bv) ≠ (16)) => ?_) (fun (c3 : ¬((bv) ≠ (16))) => ?_)
      · skip
        refine ez_less [(10, .inl (e)), (9, .inl (nb)), (8, .inl (c)), (7, .inl (a)), (6, .inl (pa)), (5, .inl (bv)), (4, .inl (raw)), (0, .inr (.inr (some (770)))), (1, .inr (.inr (some (q)))), (2, .inl (n)), (3, .inl (i))] rfl ⟨rfl, rfl, rfl, rfl, rfl, rfl, rfl, rfl, rfl, rfl, rfl, trivial⟩ ?_
        exact kN (by omega)
      · skip
        refine ez_go (n := 1) (pc' := 387) (L' := [(10, .inl (e)), (9, .inl (nb)), (8, .inl (c)), (7, .inl (a)), (6, .inl (pa)), (5, .inl (bv)), (4, .inl (raw)), (0, .inr (.inr (some (770)))), (1, .inr (.inr (some (q)))), (2, .inl (n)), (3, .inl (i))]) (st' := [.inl (0)]) rfl ?_
        exact ez_retZ rfl rfl (Or.inl rfl) (kR (by omega))
    · skip
      refine ez_go (n := 2) (pc' := 373) (L' := [(10, .inl (e)), (9, .inl (nb)), (8, .inl (c)), (7, .inl (a)), (6, .inl (pa)), (5, .inl (bv)), (4, .inl (raw)), (0, .inr (.inr (some (770)))), (1, .inr (.inr (some (q)))), (2, .inl (n)), (3, .inl (i))]) (st' := [.inl (a), .inr (.inr (some (770)))]) rfl ?_
      refine ez_cv hB t770 rfl rfl rfl tq_75 rfl rfl rfl (rd_mquote ⟨by omega, by omega⟩ (fun (w1 : wqu (a)) => ez_K1 ?_) (fun (w1 : ¬ wqu (a)) => ez_K1 ?_))
      · skip
        refine ez_if rfl rfl ⟨by decide, by decide⟩ (fun (c4 : (1 : Int) = (0)) => absurd c4 (by decide)) (fun _ => ?_)
        refine ez_go (n := 2) (pc' := 383) (L' := [(10, .inl (e)), (9, .inl (nb)), (8, .inl (c)), (7, .inl (a)), (6, .inl (pa)), (5, .inl (bv)), (4, .inl (raw)), (0, .inr (.inr (some (770)))), (1, .inr (.inr (some (q)))), (2, .inl (n)), (3, .inl (i))]) (st' := [.inl (16), .inl (bv)]) rfl ?_
        refine ez_icmp rfl rfl ⟨by first | omega | exact (sz_i32 _).1, by first | omega | exact (sz_i32 _).2⟩ ⟨by first | omega | exact (sz_i32 _).1, by first | omega | exact (sz_i32 _).2⟩ (fun (c5 : (bv) ≠ (16)) => ?_) (fun (c5 : ¬((bv) ≠ (16))) => ?_)
        · skip
          refine ez_less [(10, .inl (e)), (9, .inl (nb)), (8, .inl (c)), (7, .inl (a)), (6, .inl (pa)), (5, .inl (bv)), (4, .inl (raw)), (0, .inr (.inr (some (770)))), (1, .inr (.inr (some (q)))), (2, .inl (n)), (3, .inl (i))] rfl ⟨rfl, rfl, rfl, rfl, rfl, rfl, rfl, rfl, rfl, rfl, rfl, trivial⟩ ?_
          exact kN (by omega)
        · skip
          refine ez_go (n := 1) (pc' := 387) (L' := [(10, .inl (e)), (9, .inl (nb)), (8, .inl (c)), (7, .inl (a)), (6, .inl (pa)), (5, .inl (bv)), (4, .inl (raw)), (0, .inr (.inr (some (770)))), (1, .inr (.inr (some (q)))), (2, .inl (n)), (3, .inl (i))]) (st' := [.inl (0)]) rfl ?_
          exact ez_retZ rfl rfl (Or.inl rfl) (kR (by omega))
      · skip
        refine ez_if rfl rfl ⟨by decide, by decide⟩ (fun _ => ?_) (fun (c6 : ¬((0 : Int) = (0))) => absurd c6 (by decide))
        refine ez_less [(10, .inl (e)), (9, .inl (nb)), (8, .inl (c)), (7, .inl (a)), (6, .inl (pa)), (5, .inl (bv)), (4, .inl (raw)), (0, .inr (.inr (some (770)))), (1, .inr (.inr (some (q)))), (2, .inl (n)), (3, .inl (i))] rfl ⟨rfl, rfl, rfl, rfl, rfl, rfl, rfl, rfl, rfl, rfl, rfl, trivial⟩ ?_
        exact kN (by omega)

theorem rd_mw388 {a c e bv nb pa raw n i : Int} (hB : ez_B τ h) (t770 : τ 770 = 75) (ar : ez_rg a) (cr : ez_rg c) (er : ez_rg e) (br : ez_rg bv) (kR : (a = 16 ∧ (bv = 12 ∨ wqu bv) ∧ e = 16) → Q (.inl (some (ez_v (.inl 0))), h)) (kN : ¬ (a = 16 ∧ (bv = 12 ∨ wqu bv) ∧ e = 16) → ez_W (d + 1) cm_311 420 [(10, .inl (e)), (9, .inl (nb)), (8, .inl (c)), (7, .inl (a)), (6, .inl (pa)), (5, .inl (bv)), (4, .inl (raw)), (0, .inr (.inr (some (770)))), (1, .inr (.inr (some (q)))), (2, .inl (n)), (3, .inl (i))] [] h Q) : ez_W (d + 1) cm_311 388 [(10, .inl (e)), (9, .inl (nb)), (8, .inl (c)), (7, .inl (a)), (6, .inl (pa)), (5, .inl (bv)), (4, .inl (raw)), (0, .inr (.inr (some (770)))), (1, .inr (.inr (some (q)))), (2, .inl (n)), (3, .inl (i))] [] h Q := by
  obtain ⟨ar1, ar2⟩ := id ar
  obtain ⟨cr1, cr2⟩ := id cr
  obtain ⟨er1, er2⟩ := id er
  obtain ⟨br1, br2⟩ := id br
  refine ez_go (n := 2) (pc' := 392) (L' := [(10, .inl (e)), (9, .inl (nb)), (8, .inl (c)), (7, .inl (a)), (6, .inl (pa)), (5, .inl (bv)), (4, .inl (raw)), (0, .inr (.inr (some (770)))), (1, .inr (.inr (some (q)))), (2, .inl (n)), (3, .inl (i))]) (st' := [.inl (16), .inl (a)]) rfl ?_
  refine ez_icmp rfl rfl ⟨by first | omega | exact (sz_i32 _).1, by first | omega | exact (sz_i32 _).2⟩ ⟨by first | omega | exact (sz_i32 _).1, by first | omega | exact (sz_i32 _).2⟩ (fun (c1 : (a) ≠ (16)) => ?_) (fun (c1 : ¬((a) ≠ (16))) => ?_)
  · skip
    refine ez_less [(10, .inl (e)), (9, .inl (nb)), (8, .inl (c)), (7, .inl (a)), (6, .inl (pa)), (5, .inl (bv)), (4, .inl (raw)), (0, .inr (.inr (some (770)))), (1, .inr (.inr (some (q)))), (2, .inl (n)), (3, .inl (i))] rfl ⟨rfl, rfl, rfl, rfl, rfl, rfl, rfl, rfl, rfl, rfl, rfl, trivial⟩ ?_
    exact kN (by omega)
  · skip
    refine ez_go (n := 2) (pc' := 399) (L' := [(10, .inl (e)), (9, .inl (nb)), (8, .inl (c)), (7, .inl (a)), (6, .inl (pa)), (5, .inl (bv)), (4, .inl (raw)), (0, .inr (.inr (some (770)))), (1, .inr (.inr (some (q)))), (2, .inl (n)), (3, .inl (i))]) (st' := [.inl (12), .inl (bv)]) rfl ?_
    refine ez_icmp rfl rfl ⟨by first | omega | exact (sz_i32 _).1, by first | omega | exact (sz_i32 _).2⟩ ⟨by first | omega | exact (sz_i32 _).1, by first | omega | exact (sz_i32 _).2⟩ (fun (c2 : (bv) = (12)) => ?_) (fun (c2 : ¬((bv) = (12))) => ?_)
    · skip
      refine ez_go (n := 2) (pc' := 415) (L' := [(10, .inl (e)), (9, .inl (nb)), (8, .inl (c)), (7, .inl (a)), (6, .inl (pa)), (5, .inl (bv)), (4, .inl (raw)), (0, .inr (.inr (some (770)))), (1, .inr (.inr (some (q)))), (2, .inl (n)), (3, .inl (i))]) (st' := [.inl (16), .inl (e)]) rfl ?_
      refine ez_icmp rfl rfl ⟨by first | omega | exact (sz_i32 _).1, by first | omega | exact (sz_i32 _).2⟩ ⟨by first | omega | exact (sz_i32 _).1, by first | omega | exact (sz_i32 _).2⟩ (fun (c3 : (e) ≠ (16)) => ?_) (fun (c3 : ¬((e) ≠ (16))) => ?_)
      · skip
        refine ez_less [(10, .inl (e)), (9, .inl (nb)), (8, .inl (c)), (7, .inl (a)), (6, .inl (pa)), (5, .inl (bv)), (4, .inl (raw)), (0, .inr (.inr (some (770)))), (1, .inr (.inr (some (q)))), (2, .inl (n)), (3, .inl (i))] rfl ⟨rfl, rfl, rfl, rfl, rfl, rfl, rfl, rfl, rfl, rfl, rfl, trivial⟩ ?_
        exact kN (by omega)
      · skip
        refine ez_go (n := 1) (pc' := 419) (L' := [(10, .inl (e)), (9, .inl (nb)), (8, .inl (c)), (7, .inl (a)), (6, .inl (pa)), (5, .inl (bv)), (4, .inl (raw)), (0, .inr (.inr (some (770)))), (1, .inr (.inr (some (q)))), (2, .inl (n)), (3, .inl (i))]) (st' := [.inl (0)]) rfl ?_
        exact ez_retZ rfl rfl (Or.inl rfl) (kR (by omega))
    · skip
      refine ez_go (n := 2) (pc' := 405) (L' := [(10, .inl (e)), (9, .inl (nb)), (8, .inl (c)), (7, .inl (a)), (6, .inl (pa)), (5, .inl (bv)), (4, .inl (raw)), (0, .inr (.inr (some (770)))), (1, .inr (.inr (some (q)))), (2, .inl (n)), (3, .inl (i))]) (st' := [.inl (bv), .inr (.inr (some (770)))]) rfl ?_
      refine ez_cv hB t770 rfl rfl rfl tq_75 rfl rfl rfl (rd_mquote ⟨by omega, by omega⟩ (fun (w1 : wqu (bv)) => ez_K1 ?_) (fun (w1 : ¬ wqu (bv)) => ez_K1 ?_))
      · skip
        refine ez_if rfl rfl ⟨by decide, by decide⟩ (fun (c4 : (1 : Int) = (0)) => absurd c4 (by decide)) (fun _ => ?_)
        refine ez_go (n := 2) (pc' := 415) (L' := [(10, .inl (e)), (9, .inl (nb)), (8, .inl (c)), (7, .inl (a)), (6, .inl (pa)), (5, .inl (bv)), (4, .inl (raw)), (0, .inr (.inr (some (770)))), (1, .inr (.inr (some (q)))), (2, .inl (n)), (3, .inl (i))]) (st' := [.inl (16), .inl (e)]) rfl ?_
        refine ez_icmp rfl rfl ⟨by first | omega | exact (sz_i32 _).1, by first | omega | exact (sz_i32 _).2⟩ ⟨by first | omega | exact (sz_i32 _).1, by first | omega | exact (sz_i32 _).2⟩ (fun (c5 : (e) ≠ (16)) => ?_) (fun (c5 : ¬((e) ≠ (16))) => ?_)
        · skip
          refine ez_less [(10, .inl (e)), (9, .inl (nb)), (8, .inl (c)), (7, .inl (a)), (6, .inl (pa)), (5, .inl (bv)), (4, .inl (raw)), (0, .inr (.inr (some (770)))), (1, .inr (.inr (some (q)))), (2, .inl (n)), (3, .inl (i))] rfl ⟨rfl, rfl, rfl, rfl, rfl, rfl, rfl, rfl, rfl, rfl, rfl, trivial⟩ ?_
          exact kN (by omega)
        · skip
          refine ez_go (n := 1) (pc' := 419) (L' := [(10, .inl (e)), (9, .inl (nb)), (8, .inl (c)), (7, .inl (a)), (6, .inl (pa)), (5, .inl (bv)), (4, .inl (raw)), (0, .inr (.inr (some (770)))), (1, .inr (.inr (some (q)))), (2, .inl (n)), (3, .inl (i))]) (st' := [.inl (0)]) rfl ?_
          exact ez_retZ rfl rfl (Or.inl rfl) (kR (by omega))
      · skip
        refine ez_if rfl rfl ⟨by decide, by decide⟩ (fun _ => ?_) (fun (c6 : ¬((0 : Int) = (0))) => absurd c6 (by decide))
        refine ez_less [(10, .inl (e)), (9, .inl (nb)), (8, .inl (c)), (7, .inl (a)), (6, .inl (pa)), (5, .inl (bv)), (4, .inl (raw)), (0, .inr (.inr (some (770)))), (1, .inr (.inr (some (q)))), (2, .inl (n)), (3, .inl (i))] rfl ⟨rfl, rfl, rfl, rfl, rfl, rfl, rfl, rfl, rfl, rfl, rfl, trivial⟩ ?_
        exact kN (by omega)

theorem rd_mw420 {a c e bv nb pa raw n i : Int} (hB : ez_B τ h) (t770 : τ 770 = 75) (ar : ez_rg a) (cr : ez_rg c) (er : ez_rg e) (br : ez_rg bv) (kR : (a = 8 ∧ bv = 8) → Q (.inl (some (ez_v (.inl 0))), h)) (kN : ¬ (a = 8 ∧ bv = 8) → ez_W (d + 1) cm_311 436 [(10, .inl (e)), (9, .inl (nb)), (8, .inl (c)), (7, .inl (a)), (6, .inl (pa)), (5, .inl (bv)), (4, .inl (raw)), (0, .inr (.inr (some (770)))), (1, .inr (.inr (some (q)))), (2, .inl (n)), (3, .inl (i))] [] h Q) : ez_W (d + 1) cm_311 420 [(10, .inl (e)), (9, .inl (nb)), (8, .inl (c)), (7, .inl (a)), (6, .inl (pa)), (5, .inl (bv)), (4, .inl (raw)), (0, .inr (.inr (some (770)))), (1, .inr (.inr (some (q)))), (2, .inl (n)), (3, .inl (i))] [] h Q := by
  obtain ⟨ar1, ar2⟩ := id ar
  obtain ⟨cr1, cr2⟩ := id cr
  obtain ⟨er1, er2⟩ := id er
  obtain ⟨br1, br2⟩ := id br
  refine ez_go (n := 2) (pc' := 424) (L' := [(10, .inl (e)), (9, .inl (nb)), (8, .inl (c)), (7, .inl (a)), (6, .inl (pa)), (5, .inl (bv)), (4, .inl (raw)), (0, .inr (.inr (some (770)))), (1, .inr (.inr (some (q)))), (2, .inl (n)), (3, .inl (i))]) (st' := [.inl (8), .inl (a)]) rfl ?_
  refine ez_icmp rfl rfl ⟨by first | omega | exact (sz_i32 _).1, by first | omega | exact (sz_i32 _).2⟩ ⟨by first | omega | exact (sz_i32 _).1, by first | omega | exact (sz_i32 _).2⟩ (fun (c1 : (a) ≠ (8)) => ?_) (fun (c1 : ¬((a) ≠ (8))) => ?_)
  · skip
    refine ez_less [(10, .inl (e)), (9, .inl (nb)), (8, .inl (c)), (7, .inl (a)), (6, .inl (pa)), (5, .inl (bv)), (4, .inl (raw)), (0, .inr (.inr (some (770)))), (1, .inr (.inr (some (q)))), (2, .inl (n)), (3, .inl (i))] rfl ⟨rfl, rfl, rfl, rfl, rfl, rfl, rfl, rfl, rfl, rfl, rfl, trivial⟩ ?_
    exact kN (by omega)
  · skip
    refine ez_go (n := 2) (pc' := 431) (L' := [(10, .inl (e)), (9, .inl (nb)), (8, .inl (c)), (7, .inl (a)), (6, .inl (pa)), (5, .inl (bv)), (4, .inl (raw)), (0, .inr (.inr (some (770)))), (1, .inr (.inr (some (q)))), (2, .inl (n)), (3, .inl (i))]) (st' := [.inl (8), .inl (bv)]) rfl ?_
    refine ez_icmp rfl rfl ⟨by first | omega | exact (sz_i32 _).1, by first | omega | exact (sz_i32 _).2⟩ ⟨by first | omega | exact (sz_i32 _).1, by first | omega | exact (sz_i32 _).2⟩ (fun (c2 : (bv) ≠ (8)) => ?_) (fun (c2 : ¬((bv) ≠ (8))) => ?_)
    · skip
      refine ez_less [(10, .inl (e)), (9, .inl (nb)), (8, .inl (c)), (7, .inl (a)), (6, .inl (pa)), (5, .inl (bv)), (4, .inl (raw)), (0, .inr (.inr (some (770)))), (1, .inr (.inr (some (q)))), (2, .inl (n)), (3, .inl (i))] rfl ⟨rfl, rfl, rfl, rfl, rfl, rfl, rfl, rfl, rfl, rfl, rfl, trivial⟩ ?_
      exact kN (by omega)
    · skip
      refine ez_go (n := 1) (pc' := 435) (L' := [(10, .inl (e)), (9, .inl (nb)), (8, .inl (c)), (7, .inl (a)), (6, .inl (pa)), (5, .inl (bv)), (4, .inl (raw)), (0, .inr (.inr (some (770)))), (1, .inr (.inr (some (q)))), (2, .inl (n)), (3, .inl (i))]) (st' := [.inl (0)]) rfl ?_
      exact ez_retZ rfl rfl (Or.inl rfl) (kR (by omega))

theorem rd_mw496 {a c e bv nb pa raw n i : Int} {y z : Int} (hB : ez_B τ h) (t770 : τ 770 = 75) (ar : ez_rg a) (cr : ez_rg c) (er : ez_rg e) (br : ez_rg bv) (hy : ((y = 1 ∧ (wle a ∨ a = 16 ∨ a = 8)) ∨ (y = 0 ∧ ¬ (wle a ∨ a = 16 ∨ a = 8)))) (hz : ((z = 1 ∧ (wle bv ∨ bv = 16 ∨ bv = 8)) ∨ (z = 0 ∧ ¬ (wle bv ∨ bv = 16 ∨ bv = 8)))) (kR : ((((wle a ∨ a = 16 ∨ a = 8) ∨ a = 17) ∧ bv = 17) ∨ (a = 17 ∧ (wle bv ∨ bv = 16 ∨ bv = 8))) → Q (.inl (some (ez_v (.inl 0))), h)) (kN : ¬ ((((wle a ∨ a = 16 ∨ a = 8) ∨ a = 17) ∧ bv = 17) ∨ (a = 17 ∧ (wle bv ∨ bv = 16 ∨ bv = 8))) → ez_W (d + 1) cm_311 529 [(10, .inl (e)), (9, .inl (nb)), (8, .inl (c)), (7, .inl (a)), (6, .inl (pa)), (5, .inl (bv)), (4, .inl (raw)), (0, .inr (.inr (some (770)))), (1, .inr (.inr (some (q)))), (2, .inl (n)), (3, .inl (i))] [] h Q) : ez_W (d + 1) cm_311 496 [(12, .inl (z)), (11, .inl (y)), (10, .inl (e)), (9, .inl (nb)), (8, .inl (c)), (7, .inl (a)), (6, .inl (pa)), (5, .inl (bv)), (4, .inl (raw)), (0, .inr (.inr (some (770)))), (1, .inr (.inr (some (q)))), (2, .inl (n)), (3, .inl (i))] [] h Q := by
  obtain ⟨ar1, ar2⟩ := id ar
  obtain ⟨cr1, cr2⟩ := id cr
  obtain ⟨er1, er2⟩ := id er
  obtain ⟨br1, br2⟩ := id br
  refine ez_go (n := 1) (pc' := 498) (L' := [(12, .inl (z)), (11, .inl (y)), (10, .inl (e)), (9, .inl (nb)), (8, .inl (c)), (7, .inl (a)), (6, .inl (pa)), (5, .inl (bv)), (4, .inl (raw)), (0, .inr (.inr (some (770)))), (1, .inr (.inr (some (q)))), (2, .inl (n)), (3, .inl (i))]) (st' := [.inl (y)]) rfl ?_
  refine ez_if rfl rfl ⟨by first | omega | exact (sz_i32 _).1, by first | omega | exact (sz_i32 _).2⟩ (fun (c1 : (y) ≠ (0)) => ?_) (fun (c1 : ¬((y) ≠ (0))) => ?_)
  · skip
    refine ez_go (n := 2) (pc' := 512) (L' := [(12, .inl (z)), (11, .inl (y)), (10, .inl (e)), (9, .inl (nb)), (8, .inl (c)), (7, .inl (a)), (6, .inl (pa)), (5, .inl (bv)), (4, .inl (raw)), (0, .inr (.inr (some (770)))), (1, .inr (.inr (some (q)))), (2, .inl (n)), (3, .inl (i))]) (st' := [.inl (17), .inl (bv)]) rfl ?_
    refine ez_icmp rfl rfl ⟨by first | omega | exact (sz_i32 _).1, by first | omega | exact (sz_i32 _).2⟩ ⟨by first | omega | exact (sz_i32 _).1, by first | omega | exact (sz_i32 _).2⟩ (fun (c2 : (bv) = (17)) => ?_) (fun (c2 : ¬((bv) = (17))) => ?_)
    · skip
      refine ez_go (n := 1) (pc' := 528) (L' := [(12, .inl (z)), (11, .inl (y)), (10, .inl (e)), (9, .inl (nb)), (8, .inl (c)), (7, .inl (a)), (6, .inl (pa)), (5, .inl (bv)), (4, .inl (raw)), (0, .inr (.inr (some (770)))), (1, .inr (.inr (some (q)))), (2, .inl (n)), (3, .inl (i))]) (st' := [.inl (0)]) rfl ?_
      exact ez_retZ rfl rfl (Or.inl rfl) (kR (by omega))
    · skip
      refine ez_go (n := 2) (pc' := 519) (L' := [(12, .inl (z)), (11, .inl (y)), (10, .inl (e)), (9, .inl (nb)), (8, .inl (c)), (7, .inl (a)), (6, .inl (pa)), (5, .inl (bv)), (4, .inl (raw)), (0, .inr (.inr (some (770)))), (1, .inr (.inr (some (q)))), (2, .inl (n)), (3, .inl (i))]) (st' := [.inl (17), .inl (a)]) rfl ?_
      refine ez_icmp rfl rfl ⟨by first | omega | exact (sz_i32 _).1, by first | omega | exact (sz_i32 _).2⟩ ⟨by first | omega | exact (sz_i32 _).1, by first | omega | exact (sz_i32 _).2⟩ (fun (c3 : (a) ≠ (17)) => ?_) (fun (c3 : ¬((a) ≠ (17))) => ?_)
      · skip
        refine ez_less [(10, .inl (e)), (9, .inl (nb)), (8, .inl (c)), (7, .inl (a)), (6, .inl (pa)), (5, .inl (bv)), (4, .inl (raw)), (0, .inr (.inr (some (770)))), (1, .inr (.inr (some (q)))), (2, .inl (n)), (3, .inl (i))] rfl ⟨rfl, rfl, rfl, rfl, rfl, rfl, rfl, rfl, rfl, rfl, rfl, trivial⟩ ?_
        exact kN (by omega)
      · skip
        refine ez_go (n := 1) (pc' := 524) (L' := [(12, .inl (z)), (11, .inl (y)), (10, .inl (e)), (9, .inl (nb)), (8, .inl (c)), (7, .inl (a)), (6, .inl (pa)), (5, .inl (bv)), (4, .inl (raw)), (0, .inr (.inr (some (770)))), (1, .inr (.inr (some (q)))), (2, .inl (n)), (3, .inl (i))]) (st' := [.inl (z)]) rfl ?_
        refine ez_if rfl rfl ⟨by first | omega | exact (sz_i32 _).1, by first | omega | exact (sz_i32 _).2⟩ (fun (c4 : (z) = (0)) => ?_) (fun (c4 : ¬((z) = (0))) => ?_)
        · skip
          refine ez_less [(10, .inl (e)), (9, .inl (nb)), (8, .inl (c)), (7, .inl (a)), (6, .inl (pa)), (5, .inl (bv)), (4, .inl (raw)), (0, .inr (.inr (some (770)))), (1, .inr (.inr (some (q)))), (2, .inl (n)), (3, .inl (i))] rfl ⟨rfl, rfl, rfl, rfl, rfl, rfl, rfl, rfl, rfl, rfl, rfl, trivial⟩ ?_
          exact kN (by omega)
        · skip
          refine ez_go (n := 1) (pc' := 528) (L' := [(12, .inl (z)), (11, .inl (y)), (10, .inl (e)), (9, .inl (nb)), (8, .inl (c)), (7, .inl (a)), (6, .inl (pa)), (5, .inl (bv)), (4, .inl (raw)), (0, .inr (.inr (some (770)))), (1, .inr (.inr (some (q)))), (2, .inl (n)), (3, .inl (i))]) (st' := [.inl (0)]) rfl ?_
          exact ez_retZ rfl rfl (Or.inl rfl) (kR (by omega))
  · skip
    refine ez_go (n := 2) (pc' := 505) (L' := [(12, .inl (z)), (11, .inl (y)), (10, .inl (e)), (9, .inl (nb)), (8, .inl (c)), (7, .inl (a)), (6, .inl (pa)), (5, .inl (bv)), (4, .inl (raw)), (0, .inr (.inr (some (770)))), (1, .inr (.inr (some (q)))), (2, .inl (n)), (3, .inl (i))]) (st' := [.inl (17), .inl (a)]) rfl ?_
    refine ez_icmp rfl rfl ⟨by first | omega | exact (sz_i32 _).1, by first | omega | exact (sz_i32 _).2⟩ ⟨by first | omega | exact (sz_i32 _).1, by first | omega | exact (sz_i32 _).2⟩ (fun (c5 : (a) ≠ (17)) => ?_) (fun (c5 : ¬((a) ≠ (17))) => ?_)
    · skip
      refine ez_go (n := 2) (pc' := 519) (L' := [(12, .inl (z)), (11, .inl (y)), (10, .inl (e)), (9, .inl (nb)), (8, .inl (c)), (7, .inl (a)), (6, .inl (pa)), (5, .inl (bv)), (4, .inl (raw)), (0, .inr (.inr (some (770)))), (1, .inr (.inr (some (q)))), (2, .inl (n)), (3, .inl (i))]) (st' := [.inl (17), .inl (a)]) rfl ?_
      refine ez_icmp rfl rfl ⟨by first | omega | exact (sz_i32 _).1, by first | omega | exact (sz_i32 _).2⟩ ⟨by first | omega | exact (sz_i32 _).1, by first | omega | exact (sz_i32 _).2⟩ (fun (c6 : (a) ≠ (17)) => ?_) (fun (c6 : ¬((a) ≠ (17))) => ?_)
      · skip
        refine ez_less [(10, .inl (e)), (9, .inl (nb)), (8, .inl (c)), (7, .inl (a)), (6, .inl (pa)), (5, .inl (bv)), (4, .inl (raw)), (0, .inr (.inr (some (770)))), (1, .inr (.inr (some (q)))), (2, .inl (n)), (3, .inl (i))] rfl ⟨rfl, rfl, rfl, rfl, rfl, rfl, rfl, rfl, rfl, rfl, rfl, trivial⟩ ?_
        exact kN (by omega)
      · skip
        refine ez_go (n := 1) (pc' := 524) (L' := [(12, .inl (z)), (11, .inl (y)), (10, .inl (e)), (9, .inl (nb)), (8, .inl (c)), (7, .inl (a)), (6, .inl (pa)), (5, .inl (bv)), (4, .inl (raw)), (0, .inr (.inr (some (770)))), (1, .inr (.inr (some (q)))), (2, .inl (n)), (3, .inl (i))]) (st' := [.inl (z)]) rfl ?_
        refine ez_if rfl rfl ⟨by first | omega | exact (sz_i32 _).1, by first | omega | exact (sz_i32 _).2⟩ (fun (c7 : (z) = (0)) => ?_) (fun (c7 : ¬((z) = (0))) => ?_)
        · skip
          refine ez_less [(10, .inl (e)), (9, .inl (nb)), (8, .inl (c)), (7, .inl (a)), (6, .inl (pa)), (5, .inl (bv)), (4, .inl (raw)), (0, .inr (.inr (some (770)))), (1, .inr (.inr (some (q)))), (2, .inl (n)), (3, .inl (i))] rfl ⟨rfl, rfl, rfl, rfl, rfl, rfl, rfl, rfl, rfl, rfl, rfl, trivial⟩ ?_
          exact kN (by omega)
        · skip
          refine ez_go (n := 1) (pc' := 528) (L' := [(12, .inl (z)), (11, .inl (y)), (10, .inl (e)), (9, .inl (nb)), (8, .inl (c)), (7, .inl (a)), (6, .inl (pa)), (5, .inl (bv)), (4, .inl (raw)), (0, .inr (.inr (some (770)))), (1, .inr (.inr (some (q)))), (2, .inl (n)), (3, .inl (i))]) (st' := [.inl (0)]) rfl ?_
          exact ez_retZ rfl rfl (Or.inl rfl) (kR (by omega))
    · skip
      refine ez_go (n := 2) (pc' := 512) (L' := [(12, .inl (z)), (11, .inl (y)), (10, .inl (e)), (9, .inl (nb)), (8, .inl (c)), (7, .inl (a)), (6, .inl (pa)), (5, .inl (bv)), (4, .inl (raw)), (0, .inr (.inr (some (770)))), (1, .inr (.inr (some (q)))), (2, .inl (n)), (3, .inl (i))]) (st' := [.inl (17), .inl (bv)]) rfl ?_
      refine ez_icmp rfl rfl ⟨by first | omega | exact (sz_i32 _).1, by first | omega | exact (sz_i32 _).2⟩ ⟨by first | omega | exact (sz_i32 _).1, by first | omega | exact (sz_i32 _).2⟩ (fun (c8 : (bv) = (17)) => ?_) (fun (c8 : ¬((bv) = (17))) => ?_)
      · skip
        refine ez_go (n := 1) (pc' := 528) (L' := [(12, .inl (z)), (11, .inl (y)), (10, .inl (e)), (9, .inl (nb)), (8, .inl (c)), (7, .inl (a)), (6, .inl (pa)), (5, .inl (bv)), (4, .inl (raw)), (0, .inr (.inr (some (770)))), (1, .inr (.inr (some (q)))), (2, .inl (n)), (3, .inl (i))]) (st' := [.inl (0)]) rfl ?_
        exact ez_retZ rfl rfl (Or.inl rfl) (kR (by omega))
      · skip
        refine ez_go (n := 2) (pc' := 519) (L' := [(12, .inl (z)), (11, .inl (y)), (10, .inl (e)), (9, .inl (nb)), (8, .inl (c)), (7, .inl (a)), (6, .inl (pa)), (5, .inl (bv)), (4, .inl (raw)), (0, .inr (.inr (some (770)))), (1, .inr (.inr (some (q)))), (2, .inl (n)), (3, .inl (i))]) (st' := [.inl (17), .inl (a)]) rfl ?_
        refine ez_icmp rfl rfl ⟨by first | omega | exact (sz_i32 _).1, by first | omega | exact (sz_i32 _).2⟩ ⟨by first | omega | exact (sz_i32 _).1, by first | omega | exact (sz_i32 _).2⟩ (fun (c9 : (a) ≠ (17)) => ?_) (fun (c9 : ¬((a) ≠ (17))) => ?_)
        · skip
          refine ez_less [(10, .inl (e)), (9, .inl (nb)), (8, .inl (c)), (7, .inl (a)), (6, .inl (pa)), (5, .inl (bv)), (4, .inl (raw)), (0, .inr (.inr (some (770)))), (1, .inr (.inr (some (q)))), (2, .inl (n)), (3, .inl (i))] rfl ⟨rfl, rfl, rfl, rfl, rfl, rfl, rfl, rfl, rfl, rfl, rfl, trivial⟩ ?_
          exact kN (by omega)
        · skip
          refine ez_go (n := 1) (pc' := 524) (L' := [(12, .inl (z)), (11, .inl (y)), (10, .inl (e)), (9, .inl (nb)), (8, .inl (c)), (7, .inl (a)), (6, .inl (pa)), (5, .inl (bv)), (4, .inl (raw)), (0, .inr (.inr (some (770)))), (1, .inr (.inr (some (q)))), (2, .inl (n)), (3, .inl (i))]) (st' := [.inl (z)]) rfl ?_
          refine ez_if rfl rfl ⟨by first | omega | exact (sz_i32 _).1, by first | omega | exact (sz_i32 _).2⟩ (fun (c10 : (z) = (0)) => ?_) (fun (c10 : ¬((z) = (0))) => ?_)
          · skip
            refine ez_less [(10, .inl (e)), (9, .inl (nb)), (8, .inl (c)), (7, .inl (a)), (6, .inl (pa)), (5, .inl (bv)), (4, .inl (raw)), (0, .inr (.inr (some (770)))), (1, .inr (.inr (some (q)))), (2, .inl (n)), (3, .inl (i))] rfl ⟨rfl, rfl, rfl, rfl, rfl, rfl, rfl, rfl, rfl, rfl, rfl, trivial⟩ ?_
            exact kN (by omega)
          · skip
            refine ez_go (n := 1) (pc' := 528) (L' := [(12, .inl (z)), (11, .inl (y)), (10, .inl (e)), (9, .inl (nb)), (8, .inl (c)), (7, .inl (a)), (6, .inl (pa)), (5, .inl (bv)), (4, .inl (raw)), (0, .inr (.inr (some (770)))), (1, .inr (.inr (some (q)))), (2, .inl (n)), (3, .inl (i))]) (st' := [.inl (0)]) rfl ?_
            exact ez_retZ rfl rfl (Or.inl rfl) (kR (by omega))

theorem rd_mw466 {a c e bv nb pa raw n i : Int} {y : Int} (hB : ez_B τ h) (t770 : τ 770 = 75) (ar : ez_rg a) (cr : ez_rg c) (er : ez_rg e) (br : ez_rg bv) (hy : ((y = 1 ∧ (wle a ∨ a = 16 ∨ a = 8)) ∨ (y = 0 ∧ ¬ (wle a ∨ a = 16 ∨ a = 8)))) (kR : ((((wle a ∨ a = 16 ∨ a = 8) ∨ a = 17) ∧ bv = 17) ∨ (a = 17 ∧ (wle bv ∨ bv = 16 ∨ bv = 8))) → Q (.inl (some (ez_v (.inl 0))), h)) (kN : ¬ ((((wle a ∨ a = 16 ∨ a = 8) ∨ a = 17) ∧ bv = 17) ∨ (a = 17 ∧ (wle bv ∨ bv = 16 ∨ bv = 8))) → ez_W (d + 1) cm_311 529 [(10, .inl (e)), (9, .inl (nb)), (8, .inl (c)), (7, .inl (a)), (6, .inl (pa)), (5, .inl (bv)), (4, .inl (raw)), (0, .inr (.inr (some (770)))), (1, .inr (.inr (some (q)))), (2, .inl (n)), (3, .inl (i))] [] h Q) : ez_W (d + 1) cm_311 466 [(11, .inl (y)), (10, .inl (e)), (9, .inl (nb)), (8, .inl (c)), (7, .inl (a)), (6, .inl (pa)), (5, .inl (bv)), (4, .inl (raw)), (0, .inr (.inr (some (770)))), (1, .inr (.inr (some (q)))), (2, .inl (n)), (3, .inl (i))] [] h Q := by
  obtain ⟨ar1, ar2⟩ := id ar
  obtain ⟨cr1, cr2⟩ := id cr
  obtain ⟨er1, er2⟩ := id er
  obtain ⟨br1, br2⟩ := id br
  refine ez_go (n := 2) (pc' := 469) (L' := [(11, .inl (y)), (10, .inl (e)), (9, .inl (nb)), (8, .inl (c)), (7, .inl (a)), (6, .inl (pa)), (5, .inl (bv)), (4, .inl (raw)), (0, .inr (.inr (some (770)))), (1, .inr (.inr (some (q)))), (2, .inl (n)), (3, .inl (i))]) (st' := [.inl (bv), .inr (.inr (some (770)))]) rfl ?_
  refine ez_cv hB t770 rfl rfl rfl tq_75 rfl rfl rfl (rd_mletter ⟨by omega, by omega⟩ (fun (w1 : wle (bv)) => ez_K1 ?_) (fun (w1 : ¬ wle (bv)) => ez_K1 ?_))
  · skip
    refine ez_if rfl rfl ⟨by decide, by decide⟩ (fun _ => ?_) (fun (c1 : ¬((1 : Int) ≠ (0))) => absurd c1 (by decide))
    refine ez_go (n := 3) (pc' := 496) (L' := [(12, .inl (1)), (11, .inl (y)), (10, .inl (e)), (9, .inl (nb)), (8, .inl (c)), (7, .inl (a)), (6, .inl (pa)), (5, .inl (bv)), (4, .inl (raw)), (0, .inr (.inr (some (770)))), (1, .inr (.inr (some (q)))), (2, .inl (n)), (3, .inl (i))]) (st' := []) rfl ?_
    refine ez_less [(12, .inl (1)), (11, .inl (y)), (10, .inl (e)), (9, .inl (nb)), (8, .inl (c)), (7, .inl (a)), (6, .inl (pa)), (5, .inl (bv)), (4, .inl (raw)), (0, .inr (.inr (some (770)))), (1, .inr (.inr (some (q)))), (2, .inl (n)), (3, .inl (i))] rfl ⟨rfl, rfl, rfl, rfl, rfl, rfl, rfl, rfl, rfl, rfl, rfl, rfl, rfl, trivial⟩ ?_
    exact rd_mw496 (y := y) (z := 1) hB t770 ar cr er br hy (by omega) kR kN
  · skip
    refine ez_if rfl rfl ⟨by decide, by decide⟩ (fun (c2 : (0 : Int) ≠ (0)) => absurd c2 (by decide)) (fun _ => ?_)
    refine ez_go (n := 2) (pc' := 479) (L' := [(11, .inl (y)), (10, .inl (e)), (9, .inl (nb)), (8, .inl (c)), (7, .inl (a)), (6, .inl (pa)), (5, .inl (bv)), (4, .inl (raw)), (0, .inr (.inr (some (770)))), (1, .inr (.inr (some (q)))), (2, .inl (n)), (3, .inl (i))]) (st' := [.inl (16), .inl (bv)]) rfl ?_
    refine ez_icmp rfl rfl ⟨by first | omega | exact (sz_i32 _).1, by first | omega | exact (sz_i32 _).2⟩ ⟨by first | omega | exact (sz_i32 _).1, by first | omega | exact (sz_i32 _).2⟩ (fun (c3 : (bv) = (16)) => ?_) (fun (c3 : ¬((bv) = (16))) => ?_)
    · skip
      refine ez_go (n := 3) (pc' := 496) (L' := [(12, .inl (1)), (11, .inl (y)), (10, .inl (e)), (9, .inl (nb)), (8, .inl (c)), (7, .inl (a)), (6, .inl (pa)), (5, .inl (bv)), (4, .inl (raw)), (0, .inr (.inr (some (770)))), (1, .inr (.inr (some (q)))), (2, .inl (n)), (3, .inl (i))]) (st' := []) rfl ?_
      refine ez_less [(12, .inl (1)), (11, .inl (y)), (10, .inl (e)), (9, .inl (nb)), (8, .inl (c)), (7, .inl (a)), (6, .inl (pa)), (5, .inl (bv)), (4, .inl (raw)), (0, .inr (.inr (some (770)))), (1, .inr (.inr (some (q)))), (2, .inl (n)), (3, .inl (i))] rfl ⟨rfl, rfl, rfl, rfl, rfl, rfl, rfl, rfl, rfl, rfl, rfl, rfl, rfl, trivial⟩ ?_
      exact rd_mw496 (y := y) (z := 1) hB t770 ar cr er br hy (by omega) kR kN
    · skip
      refine ez_go (n := 2) (pc' := 486) (L' := [(11, .inl (y)), (10, .inl (e)), (9, .inl (nb)), (8, .inl (c)), (7, .inl (a)), (6, .inl (pa)), (5, .inl (bv)), (4, .inl (raw)), (0, .inr (.inr (some (770)))), (1, .inr (.inr (some (q)))), (2, .inl (n)), (3, .inl (i))]) (st' := [.inl (8), .inl (bv)]) rfl ?_
      refine ez_icmp rfl rfl ⟨by first | omega | exact (sz_i32 _).1, by first | omega | exact (sz_i32 _).2⟩ ⟨by first | omega | exact (sz_i32 _).1, by first | omega | exact (sz_i32 _).2⟩ (fun (c4 : (bv) ≠ (8)) => ?_) (fun (c4 : ¬((bv) ≠ (8))) => ?_)
      · skip
        refine ez_go (n := 2) (pc' := 496) (L' := [(12, .inl (0)), (11, .inl (y)), (10, .inl (e)), (9, .inl (nb)), (8, .inl (c)), (7, .inl (a)), (6, .inl (pa)), (5, .inl (bv)), (4, .inl (raw)), (0, .inr (.inr (some (770)))), (1, .inr (.inr (some (q)))), (2, .inl (n)), (3, .inl (i))]) (st' := []) rfl ?_
        refine ez_less [(12, .inl (0)), (11, .inl (y)), (10, .inl (e)), (9, .inl (nb)), (8, .inl (c)), (7, .inl (a)), (6, .inl (pa)), (5, .inl (bv)), (4, .inl (raw)), (0, .inr (.inr (some (770)))), (1, .inr (.inr (some (q)))), (2, .inl (n)), (3, .inl (i))] rfl ⟨rfl, rfl, rfl, rfl, rfl, rfl, rfl, rfl, rfl, rfl, rfl, rfl, rfl, trivial⟩ ?_
        exact rd_mw496 (y := y) (z := 0) hB t770 ar cr er br hy (by omega) kR kN
      · skip
        refine ez_go (n := 3) (pc' := 496) (L' := [(12, .inl (1)), (11, .inl (y)), (10, .inl (e)), (9, .inl (nb)), (8, .inl (c)), (7, .inl (a)), (6, .inl (pa)), (5, .inl (bv)), (4, .inl (raw)), (0, .inr (.inr (some (770)))), (1, .inr (.inr (some (q)))), (2, .inl (n)), (3, .inl (i))]) (st' := []) rfl ?_
        refine ez_less [(12, .inl (1)), (11, .inl (y)), (10, .inl (e)), (9, .inl (nb)), (8, .inl (c)), (7, .inl (a)), (6, .inl (pa)), (5, .inl (bv)), (4, .inl (raw)), (0, .inr (.inr (some (770)))), (1, .inr (.inr (some (q)))), (2, .inl (n)), (3, .inl (i))] rfl ⟨rfl, rfl, rfl, rfl, rfl, rfl, rfl, rfl, rfl, rfl, rfl, rfl, rfl, trivial⟩ ?_
        exact rd_mw496 (y := y) (z := 1) hB t770 ar cr er br hy (by omega) kR kN

theorem rd_mw436 {a c e bv nb pa raw n i : Int} (hB : ez_B τ h) (t770 : τ 770 = 75) (ar : ez_rg a) (cr : ez_rg c) (er : ez_rg e) (br : ez_rg bv) (kR : ((((wle a ∨ a = 16 ∨ a = 8) ∨ a = 17) ∧ bv = 17) ∨ (a = 17 ∧ (wle bv ∨ bv = 16 ∨ bv = 8))) → Q (.inl (some (ez_v (.inl 0))), h)) (kN : ¬ ((((wle a ∨ a = 16 ∨ a = 8) ∨ a = 17) ∧ bv = 17) ∨ (a = 17 ∧ (wle bv ∨ bv = 16 ∨ bv = 8))) → ez_W (d + 1) cm_311 529 [(10, .inl (e)), (9, .inl (nb)), (8, .inl (c)), (7, .inl (a)), (6, .inl (pa)), (5, .inl (bv)), (4, .inl (raw)), (0, .inr (.inr (some (770)))), (1, .inr (.inr (some (q)))), (2, .inl (n)), (3, .inl (i))] [] h Q) : ez_W (d + 1) cm_311 436 [(10, .inl (e)), (9, .inl (nb)), (8, .inl (c)), (7, .inl (a)), (6, .inl (pa)), (5, .inl (bv)), (4, .inl (raw)), (0, .inr (.inr (some (770)))), (1, .inr (.inr (some (q)))), (2, .inl (n)), (3, .inl (i))] [] h Q := by
  obtain ⟨ar1, ar2⟩ := id ar
  obtain ⟨cr1, cr2⟩ := id cr
  obtain ⟨er1, er2⟩ := id er
  obtain ⟨br1, br2⟩ := id br
  refine ez_go (n := 2) (pc' := 439) (L' := [(10, .inl (e)), (9, .inl (nb)), (8, .inl (c)), (7, .inl (a)), (6, .inl (pa)), (5, .inl (bv)), (4, .inl (raw)), (0, .inr (.inr (some (770)))), (1, .inr (.inr (some (q)))), (2, .inl (n)), (3, .inl (i))]) (st' := [.inl (a), .inr (.inr (some (770)))]) rfl ?_
  refine ez_cv hB t770 rfl rfl rfl tq_75 rfl rfl rfl (rd_mletter ⟨by omega, by omega⟩ (fun (w1 : wle (a)) => ez_K1 ?_) (fun (w1 : ¬ wle (a)) => ez_K1 ?_))
  · skip
    refine ez_if rfl rfl ⟨by decide, by decide⟩ (fun _ => ?_) (fun (c1 : ¬((1 : Int) ≠ (0))) => absurd c1 (by decide))
    refine ez_go (n := 3) (pc' := 466) (L' := [(11, .inl (1)), (10, .inl (e)), (9, .inl (nb)), (8, .inl (c)), (7, .inl (a)), (6, .inl (pa)), (5, .inl (bv)), (4, .inl (raw)), (0, .inr (.inr (some (770)))), (1, .inr (.inr (some (q)))), (2, .inl (n)), (3, .inl (i))]) (st' := []) rfl ?_
    refine ez_less [(11, .inl (1)), (10, .inl (e)), (9, .inl (nb)), (8, .inl (c)), (7, .inl (a)), (6, .inl (pa)), (5, .inl (bv)), (4, .inl (raw)), (0, .inr (.inr (some (770)))), (1, .inr (.inr (some (q)))), (2, .inl (n)), (3, .inl (i))] rfl ⟨rfl, rfl, rfl, rfl, rfl, rfl, rfl, rfl, rfl, rfl, rfl, rfl, trivial⟩ ?_
    exact rd_mw466 (y := 1) hB t770 ar cr er br (by omega) kR kN
  · skip
    refine ez_if rfl rfl ⟨by decide, by decide⟩ (fun (c2 : (0 : Int) ≠ (0)) => absurd c2 (by decide)) (fun _ => ?_)
    refine ez_go (n := 2) (pc' := 449) (L' := [(10, .inl (e)), (9, .inl (nb)), (8, .inl (c)), (7, .inl (a)), (6, .inl (pa)), (5, .inl (bv)), (4, .inl (raw)), (0, .inr (.inr (some (770)))), (1, .inr (.inr (some (q)))), (2, .inl (n)), (3, .inl (i))]) (st' := [.inl (16), .inl (a)]) rfl ?_
    refine ez_icmp rfl rfl ⟨by first | omega | exact (sz_i32 _).1, by first | omega | exact (sz_i32 _).2⟩ ⟨by first | omega | exact (sz_i32 _).1, by first | omega | exact (sz_i32 _).2⟩ (fun (c3 : (a) = (16)) => ?_) (fun (c3 : ¬((a) = (16))) => ?_)
    · skip
      refine ez_go (n := 3) (pc' := 466) (L' := [(11, .inl (1)), (10, .inl (e)), (9, .inl (nb)), (8, .inl (c)), (7, .inl (a)), (6, .inl (pa)), (5, .inl (bv)), (4, .inl (raw)), (0, .inr (.inr (some (770)))), (1, .inr (.inr (some (q)))), (2, .inl (n)), (3, .inl (i))]) (st' := []) rfl ?_
      refine ez_less [(11, .inl (1)), (10, .inl (e)), (9, .inl (nb)), (8, .inl (c)), (7, .inl (a)), (6, .inl (pa)), (5, .inl (bv)), (4, .inl (raw)), (0, .inr (.inr (some (770)))), (1, .inr (.inr (some (q)))), (2, .inl (n)), (3, .inl (i))] rfl ⟨rfl, rfl, rfl, rfl, rfl, rfl, rfl, rfl, rfl, rfl, rfl, rfl, trivial⟩ ?_
      exact rd_mw466 (y := 1) hB t770 ar cr er br (by omega) kR kN
    · skip
      refine ez_go (n := 2) (pc' := 456) (L' := [(10, .inl (e)), (9, .inl (nb)), (8, .inl (c)), (7, .inl (a)), (6, .inl (pa)), (5, .inl (bv)), (4, .inl (raw)), (0, .inr (.inr (some (770)))), (1, .inr (.inr (some (q)))), (2, .inl (n)), (3, .inl (i))]) (st' := [.inl (8), .inl (a)]) rfl ?_
      refine ez_icmp rfl rfl ⟨by first | omega | exact (sz_i32 _).1, by first | omega | exact (sz_i32 _).2⟩ ⟨by first | omega | exact (sz_i32 _).1, by first | omega | exact (sz_i32 _).2⟩ (fun (c4 : (a) ≠ (8)) => ?_) (fun (c4 : ¬((a) ≠ (8))) => ?_)
      · skip
        refine ez_go (n := 2) (pc' := 466) (L' := [(11, .inl (0)), (10, .inl (e)), (9, .inl (nb)), (8, .inl (c)), (7, .inl (a)), (6, .inl (pa)), (5, .inl (bv)), (4, .inl (raw)), (0, .inr (.inr (some (770)))), (1, .inr (.inr (some (q)))), (2, .inl (n)), (3, .inl (i))]) (st' := []) rfl ?_
        refine ez_less [(11, .inl (0)), (10, .inl (e)), (9, .inl (nb)), (8, .inl (c)), (7, .inl (a)), (6, .inl (pa)), (5, .inl (bv)), (4, .inl (raw)), (0, .inr (.inr (some (770)))), (1, .inr (.inr (some (q)))), (2, .inl (n)), (3, .inl (i))] rfl ⟨rfl, rfl, rfl, rfl, rfl, rfl, rfl, rfl, rfl, rfl, rfl, rfl, trivial⟩ ?_
        exact rd_mw466 (y := 0) hB t770 ar cr er br (by omega) kR kN
      · skip
        refine ez_go (n := 3) (pc' := 466) (L' := [(11, .inl (1)), (10, .inl (e)), (9, .inl (nb)), (8, .inl (c)), (7, .inl (a)), (6, .inl (pa)), (5, .inl (bv)), (4, .inl (raw)), (0, .inr (.inr (some (770)))), (1, .inr (.inr (some (q)))), (2, .inl (n)), (3, .inl (i))]) (st' := []) rfl ?_
        refine ez_less [(11, .inl (1)), (10, .inl (e)), (9, .inl (nb)), (8, .inl (c)), (7, .inl (a)), (6, .inl (pa)), (5, .inl (bv)), (4, .inl (raw)), (0, .inr (.inr (some (770)))), (1, .inr (.inr (some (q)))), (2, .inl (n)), (3, .inl (i))] rfl ⟨rfl, rfl, rfl, rfl, rfl, rfl, rfl, rfl, rfl, rfl, rfl, rfl, trivial⟩ ?_
        exact rd_mw466 (y := 1) hB t770 ar cr er br (by omega) kR kN

theorem rd_mwo_l {a c e bv nb pa raw i : Int} (hI : mI τ h Ls b) (mt : mtx τ h q u) (pa0 : 0 ≤ pa) (pa1 : pa < (u.length : Int)) (kR : odd (wV (yD Ls) u) pa.toNat → Q (.inl (some (ez_v (.inl 0))), h)) (kN : ¬ odd (wV (yD Ls) u) pa.toNat → Q (.inl (some (ez_v (.inl 1))), h)) : ∀ (m9 : Nat) (k cn9 : Int), (k + 1).toNat ≤ m9 → -1 ≤ k → k ≤ pa → 0 ≤ cn9 → cn9 + k ≤ pa → ((cn9 % 2 = 0 ∧ (odd (wV (yD Ls) u) pa.toNat ↔ (0 ≤ k ∧ odd (wV (yD Ls) u) k.toNat))) ∨ (cn9 % 2 = 1 ∧ (odd (wV (yD Ls) u) pa.toNat ↔ ¬ (0 ≤ k ∧ odd (wV (yD Ls) u) k.toNat)))) → ez_W (d + 3) cm_311 550 [(14, .inl (k)), (13, .inl (cn9)), (10, .inl (e)), (9, .inl (nb)), (8, .inl (c)), (7, .inl (a)), (6, .inl (pa)), (5, .inl (bv)), (4, .inl (raw)), (0, .inr (.inr (some (770)))), (1, .inr (.inr (some (q)))), (2, .inl ((u.length : Int))), (3, .inl (i))] [] h Q := by
  have hB := hI.1
  have t770 : τ 770 = 75 := hI.2.1 770 (by decide)
  have b12 : 0 ≤ qz_I h 770 12 ∧ qz_I h 770 12 ≤ 512 := ez_fB (cl := 11) (k := 12) hB t770 tq_75 rfl rfl (by decide)
  have lce : lc h = qz_I h 770 12 := rfl
  have nls : lc h ≤ qz_N h (ls h) := hI.2.2.1.1.1
  have tq := mt.1
  have n2 := mt.2.1.1
  intro m9
  induction m9 with
  | zero =>
    intro k cn9 hn0 ka kb c0 ck hv
    refine ez_go (n := 1) (pc' := 552) (L' := [(14, .inl (k)), (13, .inl (cn9)), (10, .inl (e)), (9, .inl (nb)), (8, .inl (c)), (7, .inl (a)), (6, .inl (pa)), (5, .inl (bv)), (4, .inl (raw)), (0, .inr (.inr (some (770)))), (1, .inr (.inr (some (q)))), (2, .inl ((u.length : Int))), (3, .inl (i))]) (st' := [.inl (k)]) rfl ?_
    refine ez_if rfl rfl ⟨by first | omega | exact (sz_i32 _).1, by first | omega | exact (sz_i32 _).2⟩ (fun (c1 : (k) < (0)) => ?_) (fun (c1 : ¬((k) < (0))) => ?_)
    · skip
      refine ez_go (n := 2) (pc' := 588) (L' := [(14, .inl (k)), (13, .inl (cn9)), (10, .inl (e)), (9, .inl (nb)), (8, .inl (c)), (7, .inl (a)), (6, .inl (pa)), (5, .inl (bv)), (4, .inl (raw)), (0, .inr (.inr (some (770)))), (1, .inr (.inr (some (q)))), (2, .inl ((u.length : Int))), (3, .inl (i))]) (st' := [.inl (2), .inl (cn9)]) rfl ?_
      refine ez_rem rfl (by omega) (by omega) (by omega) (by omega) ?_
      refine ez_go (n := 1) (pc' := 590) (L' := [(14, .inl (k)), (13, .inl (cn9)), (10, .inl (e)), (9, .inl (nb)), (8, .inl (c)), (7, .inl (a)), (6, .inl (pa)), (5, .inl (bv)), (4, .inl (raw)), (0, .inr (.inr (some (770)))), (1, .inr (.inr (some (q)))), (2, .inl ((u.length : Int))), (3, .inl (i))]) (st' := [.inl (1), .inl ((cn9) % (2))]) rfl ?_
      refine ez_icmp rfl rfl ⟨by first | omega | exact (sz_i32 _).1, by first | omega | exact (sz_i32 _).2⟩ ⟨by first | omega | exact (sz_i32 _).1, by first | omega | exact (sz_i32 _).2⟩ (fun (c2 : ((cn9) % (2)) ≠ (1)) => ?_) (fun (c2 : ¬(((cn9) % (2)) ≠ (1))) => ?_)
      · skip
        refine ez_go (n := 1) (pc' := 596) (L' := [(14, .inl (k)), (13, .inl (cn9)), (10, .inl (e)), (9, .inl (nb)), (8, .inl (c)), (7, .inl (a)), (6, .inl (pa)), (5, .inl (bv)), (4, .inl (raw)), (0, .inr (.inr (some (770)))), (1, .inr (.inr (some (q)))), (2, .inl ((u.length : Int))), (3, .inl (i))]) (st' := [.inl (1)]) rfl ?_
        have nok : ¬ (0 ≤ k ∧ odd (wV (yD Ls) u) k.toNat) := fun w => by have w2 := (odd_s _ w.1).mp w.2; first | (exfalso; omega) | (have := w2.1; omega)
        refine ez_retZ rfl rfl (Or.inr rfl) (kN ?_)
        rcases hv with ⟨p1, p2⟩ | ⟨p1, p2⟩
        · first | (exfalso; omega) | exact fun w => nok (p2.mp w)
        · first | (exfalso; omega) | exact p2.mpr nok
      · skip
        refine ez_go (n := 1) (pc' := 594) (L' := [(14, .inl (k)), (13, .inl (cn9)), (10, .inl (e)), (9, .inl (nb)), (8, .inl (c)), (7, .inl (a)), (6, .inl (pa)), (5, .inl (bv)), (4, .inl (raw)), (0, .inr (.inr (some (770)))), (1, .inr (.inr (some (q)))), (2, .inl ((u.length : Int))), (3, .inl (i))]) (st' := [.inl (0)]) rfl ?_
        have nok : ¬ (0 ≤ k ∧ odd (wV (yD Ls) u) k.toNat) := fun w => by have w2 := (odd_s _ w.1).mp w.2; first | (exfalso; omega) | (have := w2.1; omega)
        refine ez_retZ rfl rfl (Or.inl rfl) (kR ?_)
        rcases hv with ⟨p1, p2⟩ | ⟨p1, p2⟩
        · first | (exfalso; omega) | exact fun w => nok (p2.mp w)
        · first | (exfalso; omega) | exact p2.mpr nok
    · skip
      refine ez_go (n := 3) (pc' := 559) (L' := [(14, .inl (k)), (13, .inl (cn9)), (10, .inl (e)), (9, .inl (nb)), (8, .inl (c)), (7, .inl (a)), (6, .inl (pa)), (5, .inl (bv)), (4, .inl (raw)), (0, .inr (.inr (some (770)))), (1, .inr (.inr (some (q)))), (2, .inl ((u.length : Int))), (3, .inl (i))]) (st' := [.inl (k), .inr (.inr (some (q))), .inr (.inr (some (770)))]) rfl ?_
      have n4 : 2000 ≤ qz_N h q ∧ qz_N h q ≤ 2000 := ez_len hB tq tq_37 rfl
      refine ez_aI hB tq rfl tq_37 rfl rfl (by omega) (by omega) (fun (b3 : -2147483648 ≤ qz_I h q (k).toNat) (b3' : qz_I h q (k).toNat ≤ 2147483647) => ?_)
      have pb := uX_ptl mt.2.1.2 (show (k).toNat < u.length by omega)
      have prg : ez_rg (uX u (k)) := ⟨by omega, by omega⟩
      rw [show qz_I h q (k).toNat = uX u (k) from mt.2.2 (k) (by omega) (by omega)]
      refine ez_go (n := 1) (pc' := 562) (L' := [(14, .inl (k)), (13, .inl (cn9)), (10, .inl (e)), (9, .inl (nb)), (8, .inl (c)), (7, .inl (a)), (6, .inl (pa)), (5, .inl (bv)), (4, .inl (raw)), (0, .inr (.inr (some (770)))), (1, .inr (.inr (some (q)))), (2, .inl ((u.length : Int))), (3, .inl (i))]) (st' := [.inl (7), .inl (uX u (k)), .inr (.inr (some (770)))]) rfl ?_
      refine ez_cv hB t770 rfl rfl rfl tq_75 rfl rfl rfl (rd_mkind hI prg (fun kr1 => ez_K1 ?_))
      rw [show (yD Ls (uX u (k))).2.1.2.2 = wV (yD Ls) u (k) from rfl] at *
      obtain ⟨kr1a, kr1b⟩ := id kr1
      refine ez_go (n := 1) (pc' := 567) (L' := [(14, .inl (k)), (13, .inl (cn9)), (10, .inl (e)), (9, .inl (nb)), (8, .inl (c)), (7, .inl (a)), (6, .inl (pa)), (5, .inl (bv)), (4, .inl (raw)), (0, .inr (.inr (some (770)))), (1, .inr (.inr (some (q)))), (2, .inl ((u.length : Int))), (3, .inl (i))]) (st' := [.inl (6), .inl (wV (yD Ls) u (k))]) rfl ?_
      refine ez_icmp rfl rfl ⟨by first | omega | exact (sz_i32 _).1, by first | omega | exact (sz_i32 _).2⟩ ⟨by first | omega | exact (sz_i32 _).1, by first | omega | exact (sz_i32 _).2⟩ (fun (c5 : (wV (yD Ls) u (k)) ≠ (6)) => ?_) (fun (c5 : ¬((wV (yD Ls) u (k)) ≠ (6))) => ?_)
      · skip
        refine ez_go (n := 2) (pc' := 588) (L' := [(14, .inl (k)), (13, .inl (cn9)), (10, .inl (e)), (9, .inl (nb)), (8, .inl (c)), (7, .inl (a)), (6, .inl (pa)), (5, .inl (bv)), (4, .inl (raw)), (0, .inr (.inr (some (770)))), (1, .inr (.inr (some (q)))), (2, .inl ((u.length : Int))), (3, .inl (i))]) (st' := [.inl (2), .inl (cn9)]) rfl ?_
        refine ez_rem rfl (by omega) (by omega) (by omega) (by omega) ?_
        refine ez_go (n := 1) (pc' := 590) (L' := [(14, .inl (k)), (13, .inl (cn9)), (10, .inl (e)), (9, .inl (nb)), (8, .inl (c)), (7, .inl (a)), (6, .inl (pa)), (5, .inl (bv)), (4, .inl (raw)), (0, .inr (.inr (some (770)))), (1, .inr (.inr (some (q)))), (2, .inl ((u.length : Int))), (3, .inl (i))]) (st' := [.inl (1), .inl ((cn9) % (2))]) rfl ?_
        refine ez_icmp rfl rfl ⟨by first | omega | exact (sz_i32 _).1, by first | omega | exact (sz_i32 _).2⟩ ⟨by first | omega | exact (sz_i32 _).1, by first | omega | exact (sz_i32 _).2⟩ (fun (c6 : ((cn9) % (2)) ≠ (1)) => ?_) (fun (c6 : ¬(((cn9) % (2)) ≠ (1))) => ?_)
        · skip
          refine ez_go (n := 1) (pc' := 596) (L' := [(14, .inl (k)), (13, .inl (cn9)), (10, .inl (e)), (9, .inl (nb)), (8, .inl (c)), (7, .inl (a)), (6, .inl (pa)), (5, .inl (bv)), (4, .inl (raw)), (0, .inr (.inr (some (770)))), (1, .inr (.inr (some (q)))), (2, .inl ((u.length : Int))), (3, .inl (i))]) (st' := [.inl (1)]) rfl ?_
          have nok : ¬ (0 ≤ k ∧ odd (wV (yD Ls) u) k.toNat) := fun w => by have w2 := (odd_s _ w.1).mp w.2; first | (exfalso; omega) | (have := w2.1; omega)
          refine ez_retZ rfl rfl (Or.inr rfl) (kN ?_)
          rcases hv with ⟨p1, p2⟩ | ⟨p1, p2⟩
          · first | (exfalso; omega) | exact fun w => nok (p2.mp w)
          · first | (exfalso; omega) | exact p2.mpr nok
        · skip
          refine ez_go (n := 1) (pc' := 594) (L' := [(14, .inl (k)), (13, .inl (cn9)), (10, .inl (e)), (9, .inl (nb)), (8, .inl (c)), (7, .inl (a)), (6, .inl (pa)), (5, .inl (bv)), (4, .inl (raw)), (0, .inr (.inr (some (770)))), (1, .inr (.inr (some (q)))), (2, .inl ((u.length : Int))), (3, .inl (i))]) (st' := [.inl (0)]) rfl ?_
          have nok : ¬ (0 ≤ k ∧ odd (wV (yD Ls) u) k.toNat) := fun w => by have w2 := (odd_s _ w.1).mp w.2; first | (exfalso; omega) | (have := w2.1; omega)
          refine ez_retZ rfl rfl (Or.inl rfl) (kR ?_)
          rcases hv with ⟨p1, p2⟩ | ⟨p1, p2⟩
          · first | (exfalso; omega) | exact fun w => nok (p2.mp w)
          · first | (exfalso; omega) | exact p2.mpr nok
      · skip
        refine ez_go (n := 4) (pc' := 577) (L' := [(13, .inl (cn9 + 1)), (14, .inl (k)), (10, .inl (e)), (9, .inl (nb)), (8, .inl (c)), (7, .inl (a)), (6, .inl (pa)), (5, .inl (bv)), (4, .inl (raw)), (0, .inr (.inr (some (770)))), (1, .inr (.inr (some (q)))), (2, .inl ((u.length : Int))), (3, .inl (i))]) (st' := [.inl (k), .inr (.inr (some (q))), .inr (.inr (some (770)))]) rfl ?_
        have okk : (0 ≤ k ∧ odd (wV (yD Ls) u) k.toNat) ↔ ¬ (0 < k ∧ odd (wV (yD Ls) u) (bas (wV (yD Ls) u) (k - 1).toNat)) := by rw [odd_s _ (by omega)]; exact ⟨fun w => w.2.2, fun w => ⟨by omega, by omega, w⟩⟩
        refine ez_cv hB t770 rfl rfl rfl tq_75 rfl rfl rfl (rd_mbef hI mt (by omega) (by omega) (fun kz => ez_K1 ?_) (fun kz => ez_K1 ?_))
        · skip
          refine ez_go (n := 2) (pc' := 550) (L' := [(14, .inl (-1)), (13, .inl (cn9 + 1)), (10, .inl (e)), (9, .inl (nb)), (8, .inl (c)), (7, .inl (a)), (6, .inl (pa)), (5, .inl (bv)), (4, .inl (raw)), (0, .inr (.inr (some (770)))), (1, .inr (.inr (some (q)))), (2, .inl ((u.length : Int))), (3, .inl (i))]) (st' := []) rfl ?_
          exfalso; omega
        · have bl9 := bas_le (wV (yD Ls) u) (k - 1).toNat
          refine ez_go (n := 2) (pc' := 550) (L' := [(14, .inl ((bas (wV (yD Ls) u) (k - 1).toNat : Int))), (13, .inl (cn9 + 1)), (10, .inl (e)), (9, .inl (nb)), (8, .inl (c)), (7, .inl (a)), (6, .inl (pa)), (5, .inl (bv)), (4, .inl (raw)), (0, .inr (.inr (some (770)))), (1, .inr (.inr (some (q)))), (2, .inl ((u.length : Int))), (3, .inl (i))]) (st' := []) rfl ?_
          exfalso; omega
  | succ m9 ih =>
    intro k cn9 hn0 ka kb c0 ck hv
    refine ez_go (n := 1) (pc' := 552) (L' := [(14, .inl (k)), (13, .inl (cn9)), (10, .inl (e)), (9, .inl (nb)), (8, .inl (c)), (7, .inl (a)), (6, .inl (pa)), (5, .inl (bv)), (4, .inl (raw)), (0, .inr (.inr (some (770)))), (1, .inr (.inr (some (q)))), (2, .inl ((u.length : Int))), (3, .inl (i))]) (st' := [.inl (k)]) rfl ?_
    refine ez_if rfl rfl ⟨by first | omega | exact (sz_i32 _).1, by first | omega | exact (sz_i32 _).2⟩ (fun (c1 : (k) < (0)) => ?_) (fun (c1 : ¬((k) < (0))) => ?_)
    · skip
      refine ez_go (n := 2) (pc' := 588) (L' := [(14, .inl (k)), (13, .inl (cn9)), (10, .inl (e)), (9, .inl (nb)), (8, .inl (c)), (7, .inl (a)), (6, .inl (pa)), (5, .inl (bv)), (4, .inl (raw)), (0, .inr (.inr (some (770)))), (1, .inr (.inr (some (q)))), (2, .inl ((u.length : Int))), (3, .inl (i))]) (st' := [.inl (2), .inl (cn9)]) rfl ?_
      refine ez_rem rfl (by omega) (by omega) (by omega) (by omega) ?_
      refine ez_go (n := 1) (pc' := 590) (L' := [(14, .inl (k)), (13, .inl (cn9)), (10, .inl (e)), (9, .inl (nb)), (8, .inl (c)), (7, .inl (a)), (6, .inl (pa)), (5, .inl (bv)), (4, .inl (raw)), (0, .inr (.inr (some (770)))), (1, .inr (.inr (some (q)))), (2, .inl ((u.length : Int))), (3, .inl (i))]) (st' := [.inl (1), .inl ((cn9) % (2))]) rfl ?_
      refine ez_icmp rfl rfl ⟨by first | omega | exact (sz_i32 _).1, by first | omega | exact (sz_i32 _).2⟩ ⟨by first | omega | exact (sz_i32 _).1, by first | omega | exact (sz_i32 _).2⟩ (fun (c2 : ((cn9) % (2)) ≠ (1)) => ?_) (fun (c2 : ¬(((cn9) % (2)) ≠ (1))) => ?_)
      · skip
        refine ez_go (n := 1) (pc' := 596) (L' := [(14, .inl (k)), (13, .inl (cn9)), (10, .inl (e)), (9, .inl (nb)), (8, .inl (c)), (7, .inl (a)), (6, .inl (pa)), (5, .inl (bv)), (4, .inl (raw)), (0, .inr (.inr (some (770)))), (1, .inr (.inr (some (q)))), (2, .inl ((u.length : Int))), (3, .inl (i))]) (st' := [.inl (1)]) rfl ?_
        have nok : ¬ (0 ≤ k ∧ odd (wV (yD Ls) u) k.toNat) := fun w => by have w2 := (odd_s _ w.1).mp w.2; first | (exfalso; omega) | (have := w2.1; omega)
        refine ez_retZ rfl rfl (Or.inr rfl) (kN ?_)
        rcases hv with ⟨p1, p2⟩ | ⟨p1, p2⟩
        · first | (exfalso; omega) | exact fun w => nok (p2.mp w)
        · first | (exfalso; omega) | exact p2.mpr nok
      · skip
        refine ez_go (n := 1) (pc' := 594) (L' := [(14, .inl (k)), (13, .inl (cn9)), (10, .inl (e)), (9, .inl (nb)), (8, .inl (c)), (7, .inl (a)), (6, .inl (pa)), (5, .inl (bv)), (4, .inl (raw)), (0, .inr (.inr (some (770)))), (1, .inr (.inr (some (q)))), (2, .inl ((u.length : Int))), (3, .inl (i))]) (st' := [.inl (0)]) rfl ?_
        have nok : ¬ (0 ≤ k ∧ odd (wV (yD Ls) u) k.toNat) := fun w => by have w2 := (odd_s _ w.1).mp w.2; first | (exfalso; omega) | (have := w2.1; omega)
        refine ez_retZ rfl rfl (Or.inl rfl) (kR ?_)
        rcases hv with ⟨p1, p2⟩ | ⟨p1, p2⟩
        · first | (exfalso; omega) | exact fun w => nok (p2.mp w)
        · first | (exfalso; omega) | exact p2.mpr nok
    · skip
      refine ez_go (n := 3) (pc' := 559) (L' := [(14, .inl (k)), (13, .inl (cn9)), (10, .inl (e)), (9, .inl (nb)), (8, .inl (c)), (7, .inl (a)), (6, .inl (pa)), (5, .inl (bv)), (4, .inl (raw)), (0, .inr (.inr (some (770)))), (1, .inr (.inr (some (q)))), (2, .inl ((u.length : Int))), (3, .inl (i))]) (st' := [.inl (k), .inr (.inr (some (q))), .inr (.inr (some (770)))]) rfl ?_
      have n4 : 2000 ≤ qz_N h q ∧ qz_N h q ≤ 2000 := ez_len hB tq tq_37 rfl
      refine ez_aI hB tq rfl tq_37 rfl rfl (by omega) (by omega) (fun (b3 : -2147483648 ≤ qz_I h q (k).toNat) (b3' : qz_I h q (k).toNat ≤ 2147483647) => ?_)
      have pb := uX_ptl mt.2.1.2 (show (k).toNat < u.length by omega)
      have prg : ez_rg (uX u (k)) := ⟨by omega, by omega⟩
      rw [show qz_I h q (k).toNat = uX u (k) from mt.2.2 (k) (by omega) (by omega)]
      refine ez_go (n := 1) (pc' := 562) (L' := [(14, .inl (k)), (13, .inl (cn9)), (10, .inl (e)), (9, .inl (nb)), (8, .inl (c)), (7, .inl (a)), (6, .inl (pa)), (5, .inl (bv)), (4, .inl (raw)), (0, .inr (.inr (some (770)))), (1, .inr (.inr (some (q)))), (2, .inl ((u.length : Int))), (3, .inl (i))]) (st' := [.inl (7), .inl (uX u (k)), .inr (.inr (some (770)))]) rfl ?_
      refine ez_cv hB t770 rfl rfl rfl tq_75 rfl rfl rfl (rd_mkind hI prg (fun kr1 => ez_K1 ?_))
      rw [show (yD Ls (uX u (k))).2.1.2.2 = wV (yD Ls) u (k) from rfl] at *
      obtain ⟨kr1a, kr1b⟩ := id kr1
      refine ez_go (n := 1) (pc' := 567) (L' := [(14, .inl (k)), (13, .inl (cn9)), (10, .inl (e)), (9, .inl (nb)), (8, .inl (c)), (7, .inl (a)), (6, .inl (pa)), (5, .inl (bv)), (4, .inl (raw)), (0, .inr (.inr (some (770)))), (1, .inr (.inr (some (q)))), (2, .inl ((u.length : Int))), (3, .inl (i))]) (st' := [.inl (6), .inl (wV (yD Ls) u (k))]) rfl ?_
      refine ez_icmp rfl rfl ⟨by first | omega | exact (sz_i32 _).1, by first | omega | exact (sz_i32 _).2⟩ ⟨by first | omega | exact (sz_i32 _).1, by first | omega | exact (sz_i32 _).2⟩ (fun (c5 : (wV (yD Ls) u (k)) ≠ (6)) => ?_) (fun (c5 : ¬((wV (yD Ls) u (k)) ≠ (6))) => ?_)
      · skip
        refine ez_go (n := 2) (pc' := 588) (L' := [(14, .inl (k)), (13, .inl (cn9)), (10, .inl (e)), (9, .inl (nb)), (8, .inl (c)), (7, .inl (a)), (6, .inl (pa)), (5, .inl (bv)), (4, .inl (raw)), (0, .inr (.inr (some (770)))), (1, .inr (.inr (some (q)))), (2, .inl ((u.length : Int))), (3, .inl (i))]) (st' := [.inl (2), .inl (cn9)]) rfl ?_
        refine ez_rem rfl (by omega) (by omega) (by omega) (by omega) ?_
        refine ez_go (n := 1) (pc' := 590) (L' := [(14, .inl (k)), (13, .inl (cn9)), (10, .inl (e)), (9, .inl (nb)), (8, .inl (c)), (7, .inl (a)), (6, .inl (pa)), (5, .inl (bv)), (4, .inl (raw)), (0, .inr (.inr (some (770)))), (1, .inr (.inr (some (q)))), (2, .inl ((u.length : Int))), (3, .inl (i))]) (st' := [.inl (1), .inl ((cn9) % (2))]) rfl ?_
        refine ez_icmp rfl rfl ⟨by first | omega | exact (sz_i32 _).1, by first | omega | exact (sz_i32 _).2⟩ ⟨by first | omega | exact (sz_i32 _).1, by first | omega | exact (sz_i32 _).2⟩ (fun (c6 : ((cn9) % (2)) ≠ (1)) => ?_) (fun (c6 : ¬(((cn9) % (2)) ≠ (1))) => ?_)
        · skip
          refine ez_go (n := 1) (pc' := 596) (L' := [(14, .inl (k)), (13, .inl (cn9)), (10, .inl (e)), (9, .inl (nb)), (8, .inl (c)), (7, .inl (a)), (6, .inl (pa)), (5, .inl (bv)), (4, .inl (raw)), (0, .inr (.inr (some (770)))), (1, .inr (.inr (some (q)))), (2, .inl ((u.length : Int))), (3, .inl (i))]) (st' := [.inl (1)]) rfl ?_
          have nok : ¬ (0 ≤ k ∧ odd (wV (yD Ls) u) k.toNat) := fun w => by have w2 := (odd_s _ w.1).mp w.2; first | (exfalso; omega) | (have := w2.1; omega)
          refine ez_retZ rfl rfl (Or.inr rfl) (kN ?_)
          rcases hv with ⟨p1, p2⟩ | ⟨p1, p2⟩
          · first | (exfalso; omega) | exact fun w => nok (p2.mp w)
          · first | (exfalso; omega) | exact p2.mpr nok
        · skip
          refine ez_go (n := 1) (pc' := 594) (L' := [(14, .inl (k)), (13, .inl (cn9)), (10, .inl (e)), (9, .inl (nb)), (8, .inl (c)), (7, .inl (a)), (6, .inl (pa)), (5, .inl (bv)), (4, .inl (raw)), (0, .inr (.inr (some (770)))), (1, .inr (.inr (some (q)))), (2, .inl ((u.length : Int))), (3, .inl (i))]) (st' := [.inl (0)]) rfl ?_
          have nok : ¬ (0 ≤ k ∧ odd (wV (yD Ls) u) k.toNat) := fun w => by have w2 := (odd_s _ w.1).mp w.2; first | (exfalso; omega) | (have := w2.1; omega)
          refine ez_retZ rfl rfl (Or.inl rfl) (kR ?_)
          rcases hv with ⟨p1, p2⟩ | ⟨p1, p2⟩
          · first | (exfalso; omega) | exact fun w => nok (p2.mp w)
          · first | (exfalso; omega) | exact p2.mpr nok
      · skip
        refine ez_go (n := 4) (pc' := 577) (L' := [(13, .inl (cn9 + 1)), (14, .inl (k)), (10, .inl (e)), (9, .inl (nb)), (8, .inl (c)), (7, .inl (a)), (6, .inl (pa)), (5, .inl (bv)), (4, .inl (raw)), (0, .inr (.inr (some (770)))), (1, .inr (.inr (some (q)))), (2, .inl ((u.length : Int))), (3, .inl (i))]) (st' := [.inl (k), .inr (.inr (some (q))), .inr (.inr (some (770)))]) rfl ?_
        have okk : (0 ≤ k ∧ odd (wV (yD Ls) u) k.toNat) ↔ ¬ (0 < k ∧ odd (wV (yD Ls) u) (bas (wV (yD Ls) u) (k - 1).toNat)) := by rw [odd_s _ (by omega)]; exact ⟨fun w => w.2.2, fun w => ⟨by omega, by omega, w⟩⟩
        refine ez_cv hB t770 rfl rfl rfl tq_75 rfl rfl rfl (rd_mbef hI mt (by omega) (by omega) (fun kz => ez_K1 ?_) (fun kz => ez_K1 ?_))
        · skip
          refine ez_go (n := 2) (pc' := 550) (L' := [(14, .inl (-1)), (13, .inl (cn9 + 1)), (10, .inl (e)), (9, .inl (nb)), (8, .inl (c)), (7, .inl (a)), (6, .inl (pa)), (5, .inl (bv)), (4, .inl (raw)), (0, .inr (.inr (some (770)))), (1, .inr (.inr (some (q)))), (2, .inl ((u.length : Int))), (3, .inl (i))]) (st' := []) rfl ?_
          refine ez_less [(14, .inl (-1)), (13, .inl (cn9 + 1)), (10, .inl (e)), (9, .inl (nb)), (8, .inl (c)), (7, .inl (a)), (6, .inl (pa)), (5, .inl (bv)), (4, .inl (raw)), (0, .inr (.inr (some (770)))), (1, .inr (.inr (some (q)))), (2, .inl ((u.length : Int))), (3, .inl (i))] rfl ⟨rfl, rfl, rfl, rfl, rfl, rfl, rfl, rfl, rfl, rfl, rfl, rfl, rfl, trivial⟩ ?_
          refine ih (-1) (cn9 + 1) (by omega) (by omega) (by omega) (by omega) (by omega) ?_
          have nk9 : ¬ (0 ≤ (-1 : Int) ∧ odd (wV (yD Ls) u) (-1 : Int).toNat) := fun w => by have := w.1; omega
          have ok9 : (0 ≤ k ∧ odd (wV (yD Ls) u) k.toNat) := okk.mpr (fun w => by have := w.1; omega)
          rcases hv with ⟨p1, p2⟩ | ⟨p1, p2⟩
          · refine Or.inr ⟨by omega, p2.trans ?_⟩
            exact ⟨fun _ => nk9, fun _ => ok9⟩
          · refine Or.inl ⟨by omega, p2.trans ?_⟩
            exact ⟨fun w => absurd ok9 w, fun w => absurd w nk9⟩
        · have bl9 := bas_le (wV (yD Ls) u) (k - 1).toNat
          refine ez_go (n := 2) (pc' := 550) (L' := [(14, .inl ((bas (wV (yD Ls) u) (k - 1).toNat : Int))), (13, .inl (cn9 + 1)), (10, .inl (e)), (9, .inl (nb)), (8, .inl (c)), (7, .inl (a)), (6, .inl (pa)), (5, .inl (bv)), (4, .inl (raw)), (0, .inr (.inr (some (770)))), (1, .inr (.inr (some (q)))), (2, .inl ((u.length : Int))), (3, .inl (i))]) (st' := []) rfl ?_
          refine ez_less [(14, .inl ((bas (wV (yD Ls) u) (k - 1).toNat : Int))), (13, .inl (cn9 + 1)), (10, .inl (e)), (9, .inl (nb)), (8, .inl (c)), (7, .inl (a)), (6, .inl (pa)), (5, .inl (bv)), (4, .inl (raw)), (0, .inr (.inr (some (770)))), (1, .inr (.inr (some (q)))), (2, .inl ((u.length : Int))), (3, .inl (i))] rfl ⟨rfl, rfl, rfl, rfl, rfl, rfl, rfl, rfl, rfl, rfl, rfl, rfl, rfl, trivial⟩ ?_
          refine ih ((bas (wV (yD Ls) u) (k - 1).toNat : Int)) (cn9 + 1) (by omega) (by omega) (by omega) (by omega) (by omega) ?_
          have ek9 : (0 ≤ ((bas (wV (yD Ls) u) (k - 1).toNat : Nat) : Int) ∧ odd (wV (yD Ls) u) ((bas (wV (yD Ls) u) (k - 1).toNat : Nat) : Int).toNat) ↔ (0 < k ∧ odd (wV (yD Ls) u) (bas (wV (yD Ls) u) (k - 1).toNat)) := by rw [Int.toNat_natCast]; exact ⟨fun w => ⟨kz, w.2⟩, fun w => ⟨by omega, w.2⟩⟩
          rcases hv with ⟨p1, p2⟩ | ⟨p1, p2⟩
          · refine Or.inr ⟨by omega, p2.trans ?_⟩
            rw [ek9]; exact okk
          · refine Or.inl ⟨by omega, p2.trans ?_⟩
            rw [ek9, okk]; exact Classical.not_not

theorem rd_mw529 {a c e bv nb pa raw i : Int} (hI : mI τ h Ls b) (mt : mtx τ h q u) (pa0 : 0 ≤ pa) (pa1 : pa < (u.length : Int)) (kR : (bv = 6 ∧ odd (wV (yD Ls) u) pa.toNat) → Q (.inl (some (ez_v (.inl 0))), h)) (kN : ¬ (bv = 6 ∧ odd (wV (yD Ls) u) pa.toNat) → Q (.inl (some (ez_v (.inl 1))), h)) (ea : a = wV (yD Ls) u pa) (ar : ez_rg a) (br : ez_rg bv) : ez_W (d + 3) cm_311 529 [(10, .inl (e)), (9, .inl (nb)), (8, .inl (c)), (7, .inl (a)), (6, .inl (pa)), (5, .inl (bv)), (4, .inl (raw)), (0, .inr (.inr (some (770)))), (1, .inr (.inr (some (q)))), (2, .inl ((u.length : Int))), (3, .inl (i))] [] h Q := by
  have hB := hI.1
  have t770 : τ 770 = 75 := hI.2.1 770 (by decide)
  have b12 : 0 ≤ qz_I h 770 12 ∧ qz_I h 770 12 ≤ 512 := ez_fB (cl := 11) (k := 12) hB t770 tq_75 rfl rfl (by decide)
  have lce : lc h = qz_I h 770 12 := rfl
  have nls : lc h ≤ qz_N h (ls h) := hI.2.2.1.1.1
  have tq := mt.1
  have n2 := mt.2.1.1
  obtain ⟨ar1, ar2⟩ := id ar
  obtain ⟨br1, br2⟩ := id br
  refine ez_go (n := 2) (pc' := 533) (L' := [(10, .inl (e)), (9, .inl (nb)), (8, .inl (c)), (7, .inl (a)), (6, .inl (pa)), (5, .inl (bv)), (4, .inl (raw)), (0, .inr (.inr (some (770)))), (1, .inr (.inr (some (q)))), (2, .inl ((u.length : Int))), (3, .inl (i))]) (st' := [.inl (6), .inl (a)]) rfl ?_
  refine ez_icmp rfl rfl ⟨by first | omega | exact (sz_i32 _).1, by first | omega | exact (sz_i32 _).2⟩ ⟨by first | omega | exact (sz_i32 _).1, by first | omega | exact (sz_i32 _).2⟩ (fun (c1 : (a) ≠ (6)) => ?_) (fun (c1 : ¬((a) ≠ (6))) => ?_)
  · skip
    refine ez_go (n := 1) (pc' := 596) (L' := [(10, .inl (e)), (9, .inl (nb)), (8, .inl (c)), (7, .inl (a)), (6, .inl (pa)), (5, .inl (bv)), (4, .inl (raw)), (0, .inr (.inr (some (770)))), (1, .inr (.inr (some (q)))), (2, .inl ((u.length : Int))), (3, .inl (i))]) (st' := [.inl (1)]) rfl ?_
    exact ez_retZ rfl rfl (Or.inr rfl) (kN (fun q => by first | (have := q.1; omega) | (have := (odd_s _ pa0).mp q.2; have := this.1; omega)))
  · skip
    refine ez_go (n := 2) (pc' := 540) (L' := [(10, .inl (e)), (9, .inl (nb)), (8, .inl (c)), (7, .inl (a)), (6, .inl (pa)), (5, .inl (bv)), (4, .inl (raw)), (0, .inr (.inr (some (770)))), (1, .inr (.inr (some (q)))), (2, .inl ((u.length : Int))), (3, .inl (i))]) (st' := [.inl (6), .inl (bv)]) rfl ?_
    refine ez_icmp rfl rfl ⟨by first | omega | exact (sz_i32 _).1, by first | omega | exact (sz_i32 _).2⟩ ⟨by first | omega | exact (sz_i32 _).1, by first | omega | exact (sz_i32 _).2⟩ (fun (c2 : (bv) ≠ (6)) => ?_) (fun (c2 : ¬((bv) ≠ (6))) => ?_)
    · skip
      refine ez_go (n := 1) (pc' := 596) (L' := [(10, .inl (e)), (9, .inl (nb)), (8, .inl (c)), (7, .inl (a)), (6, .inl (pa)), (5, .inl (bv)), (4, .inl (raw)), (0, .inr (.inr (some (770)))), (1, .inr (.inr (some (q)))), (2, .inl ((u.length : Int))), (3, .inl (i))]) (st' := [.inl (1)]) rfl ?_
      exact ez_retZ rfl rfl (Or.inr rfl) (kN (fun q => by first | (have := q.1; omega) | (have := (odd_s _ pa0).mp q.2; have := this.1; omega)))
    · skip
      refine ez_go (n := 4) (pc' := 550) (L' := [(14, .inl (pa)), (13, .inl (0)), (10, .inl (e)), (9, .inl (nb)), (8, .inl (c)), (7, .inl (a)), (6, .inl (pa)), (5, .inl (bv)), (4, .inl (raw)), (0, .inr (.inr (some (770)))), (1, .inr (.inr (some (q)))), (2, .inl ((u.length : Int))), (3, .inl (i))]) (st' := []) rfl ?_
      refine ez_less [(14, .inl (pa)), (13, .inl (0)), (10, .inl (e)), (9, .inl (nb)), (8, .inl (c)), (7, .inl (a)), (6, .inl (pa)), (5, .inl (bv)), (4, .inl (raw)), (0, .inr (.inr (some (770)))), (1, .inr (.inr (some (q)))), (2, .inl ((u.length : Int))), (3, .inl (i))] rfl ⟨rfl, rfl, rfl, rfl, rfl, rfl, rfl, rfl, rfl, rfl, rfl, rfl, rfl, trivial⟩ ?_
      exact rd_mwo_l hI mt pa0 pa1 (fun w => kR ⟨by omega, w⟩) (fun w => kN (fun q => w q.2)) _ pa 0 (Nat.le_refl _) (by omega) (by omega) (by omega) (by omega) (Or.inl ⟨rfl, ⟨fun w => ⟨pa0, w⟩, fun w => w.2⟩⟩)

theorem rd_mwr0 {a c e bv nb pa raw i : Int} (hI : mI τ h Ls b) (mt : mtx τ h q u) (pa0 : 0 ≤ pa) (pa1 : pa < (u.length : Int)) (ea : a = wV (yD Ls) u pa) (ar : ez_rg a) (cr : ez_rg c) (er : ez_rg e) (br : ez_rg bv) (k0 : (inW a bv ∨ aro c a bv ∨ aro e bv a ∨ (a = 9 ∧ bv = 14) ∨ (bv = 6 ∧ odd (wV (yD Ls) u) pa.toNat)) → Q (.inl (some (ez_v (.inl 0))), h)) (k1 : ¬ (inW a bv ∨ aro c a bv ∨ aro e bv a ∨ (a = 9 ∧ bv = 14) ∨ (bv = 6 ∧ odd (wV (yD Ls) u) pa.toNat)) → Q (.inl (some (ez_v (.inl 1))), h)) : ez_W (d + 3) cm_311 154 [(10, .inl (e)), (9, .inl (nb)), (8, .inl (c)), (7, .inl (a)), (6, .inl (pa)), (5, .inl (bv)), (4, .inl (raw)), (0, .inr (.inr (some (770)))), (1, .inr (.inr (some (q)))), (2, .inl ((u.length : Int))), (3, .inl (i))] [] h Q := by
  have hB := hI.1
  have t770 : τ 770 = 75 := hI.2.1 770 (by decide)
  refine rd_mw154 hB t770 ar cr er br (fun w => k0 (Or.inl (Or.inl (Or.inl ⟨Or.inl w.1, Or.inl w.2⟩)))) (fun m1 => ?_)
  refine rd_mw174 hB t770 ar cr er br (fun w => k0 (Or.inr (Or.inr (Or.inl (Or.inl ⟨w.2.2, w.1, w.2.1⟩))))) (fun m2 => ?_)
  refine rd_mw210 hB t770 ar cr er br (fun w => k0 (Or.inr (Or.inl (Or.inl ⟨w.1, w.2.2, w.2.1⟩)))) (fun m3 => ?_)
  refine rd_mw246 hB t770 ar cr er br (fun w => k0 (Or.inr (Or.inr (Or.inr (Or.inl w))))) (fun m4 => ?_)
  refine rd_mw262 hB t770 ar cr er br (fun w => k0 (Or.inr (Or.inr (Or.inl (Or.inr (Or.inl ⟨w.2.2, w.1, w.2.1⟩)))))) (fun m5 => ?_)
  refine rd_mw285 hB t770 ar cr er br (fun w => k0 (Or.inr (Or.inl (Or.inr (Or.inl ⟨w.1, w.2.2, w.2.1⟩))))) (fun m6 => ?_)
  refine rd_mw308 hB t770 ar cr er br (fun w => k0 (Or.inl (Or.inl (Or.inl (by rcases w with w | w | w; (· exact ⟨Or.inr w.1, Or.inr w.2⟩); (· exact ⟨Or.inl w.1, Or.inr w.2⟩); (· exact ⟨Or.inr w.1, Or.inl w.2⟩)))))) (fun m7 => ?_)
  refine rd_mw356 hB t770 ar cr er br (fun w => k0 (Or.inr (Or.inl (Or.inr (Or.inr ⟨w.1, w.2.2, w.2.1⟩))))) (fun m8 => ?_)
  refine rd_mw388 hB t770 ar cr er br (fun w => k0 (Or.inr (Or.inr (Or.inl (Or.inr (Or.inr ⟨w.2.2, w.1, w.2.1⟩)))))) (fun m9 => ?_)
  refine rd_mw420 hB t770 ar cr er br (fun w => k0 (Or.inl (Or.inl (Or.inr w)))) (fun m10 => ?_)
  refine rd_mw436 hB t770 ar cr er br (fun w => k0 (Or.inl (Or.inr (by rcases w with ⟨w1, w2⟩ | w; (· exact Or.inl ⟨by rcases w1 with (w1 | w1 | w1) | w1; (· exact Or.inl w1); (· exact Or.inr (Or.inl w1)); (· exact Or.inr (Or.inr (Or.inl w1))); (· exact Or.inr (Or.inr (Or.inr w1))), w2⟩); (· exact Or.inr w))))) (fun m11 => ?_)
  refine rd_mw529 hI mt pa0 pa1 (fun w => k0 (Or.inr (Or.inr (Or.inr (Or.inr w))))) (fun m12 => k1 (fun w => ?_)) ea ar br
  rcases w with w | w | w | w | w
  · rcases w with (⟨w1, w2⟩ | w) | ⟨w1, w2⟩ | ⟨w1, w2⟩
    · rcases w1 with w1 | w1 <;> rcases w2 with w2 | w2
      · exact m1 ⟨w1, w2⟩
      · exact m7 (Or.inr (Or.inl ⟨w1, w2⟩))
      · exact m7 (Or.inr (Or.inr ⟨w1, w2⟩))
      · exact m7 (Or.inl ⟨w1, w2⟩)
    · exact m10 w
    · exact m11 (Or.inl ⟨by rcases w1 with w1 | w1 | w1 | w1; (· exact Or.inl (Or.inl w1)); (· exact Or.inl (Or.inr (Or.inl w1))); (· exact Or.inl (Or.inr (Or.inr w1))); (· exact Or.inr w1), w2⟩)
    · exact m11 (Or.inr ⟨w1, w2⟩)
  · rcases w with ⟨w1, w2, w3⟩ | ⟨w1, w2, w3⟩ | ⟨w1, w2, w3⟩
    · exact m3 ⟨w1, w3, w2⟩
    · exact m6 ⟨w1, w3, w2⟩
    · exact m8 ⟨w1, w3, w2⟩
  · rcases w with ⟨w1, w2, w3⟩ | ⟨w1, w2, w3⟩ | ⟨w1, w2, w3⟩
    · exact m2 ⟨w2, w3, w1⟩
    · exact m5 ⟨w2, w3, w1⟩
    · exact m9 ⟨w2, w3, w1⟩
  · exact m4 w
  · exact m12 w
theorem rd_mwr {i e nb raw : Int} (hI : mI τ h Ls b) (mt : mtx τ h q u) (i0 : 0 < i) (i1 : i < (u.length : Int)) (ar : ez_rg (wV (yD Ls) u (bas (wV (yD Ls) u) (i - 1).toNat))) (cr : ez_rg (vaa (wV (yD Ls) u) (bas (wV (yD Ls) u) (i - 1).toNat))) (er : ez_rg e) (br : ez_rg (wV (yD Ls) u i)) (hb : vbR (wV (yD Ls) u) u.length i e) (n1 : ¬ lnd (wV (yD Ls) u (i - 1))) (n2 : ¬ lnd (wV (yD Ls) u i)) (n3 : ¬ ((wV (yD Ls) u (i - 1) = 5 ∧ wpi (yD Ls) u i) ∨ (wV (yD Ls) u (i - 1) = 18 ∧ wV (yD Ls) u i = 18) ∨ ign (wV (yD Ls) u i))) (k1 : wbd (wV (yD Ls) u) (wpi (yD Ls) u) u.length i → Q (.inl (some (ez_v (.inl 1))), h)) (k0 : ¬ wbd (wV (yD Ls) u) (wpi (yD Ls) u) u.length i → Q (.inl (some (ez_v (.inl 0))), h)) : ez_W (d + 3) cm_311 154 [(10, .inl (e)), (9, .inl (nb)), (8, .inl (vaa (wV (yD Ls) u) (bas (wV (yD Ls) u) (i - 1).toNat))), (7, .inl (wV (yD Ls) u (bas (wV (yD Ls) u) (i - 1).toNat))), (6, .inl ((bas (wV (yD Ls) u) (i - 1).toNat : Int))), (5, .inl (wV (yD Ls) u i)), (4, .inl (raw)), (0, .inr (.inr (some (770)))), (1, .inr (.inr (some (q)))), (2, .inl ((u.length : Int))), (3, .inl (i))] [] h Q := by
  have bl := bas_le (wV (yD Ls) u) (i - 1).toNat
  exact rd_mwr0 hI mt (Int.natCast_nonneg _) (by omega) rfl ar cr er br (fun w => k0 (wbd_4 i0 i1 n1 n2 hb (by rw [Int.toNat_natCast] at w; exact w))) (fun w => k1 (wbd_5 (fun w => n1 (Or.inl w.1)) n3 hb (fun x => w (by rw [Int.toNat_natCast]; exact x))))
theorem rd_mw102 {i : Int} (hI : mI τ h Ls b) (mt : mtx τ h q u) (i0 : 0 < i) (i1 : i < (u.length : Int)) (k1 : wbd (wV (yD Ls) u) (wpi (yD Ls) u) u.length i → Q (.inl (some (ez_v (.inl 1))), h)) (k0 : ¬ wbd (wV (yD Ls) u) (wpi (yD Ls) u) u.length i → Q (.inl (some (ez_v (.inl 0))), h)) (r0 : ez_rg (wV (yD Ls) u (i - 1))) (r1 : ez_rg (wV (yD Ls) u i)) (n1 : ¬ lnd (wV (yD Ls) u (i - 1))) (n2 : ¬ lnd (wV (yD Ls) u i)) (n3 : ¬ ((wV (yD Ls) u (i - 1) = 5 ∧ wpi (yD Ls) u i) ∨ (wV (yD Ls) u (i - 1) = 18 ∧ wV (yD Ls) u i = 18) ∨ ign (wV (yD Ls) u i))) : ez_W (d + 4) cm_311 102 [(5, .inl (wV (yD Ls) u i)), (4, .inl (wV (yD Ls) u (i - 1))), (0, .inr (.inr (some (770)))), (1, .inr (.inr (some (q)))), (2, .inl ((u.length : Int))), (3, .inl (i))] [] h Q := by
  have hB := hI.1
  have t770 : τ 770 = 75 := hI.2.1 770 (by decide)
  have b12 : 0 ≤ qz_I h 770 12 ∧ qz_I h 770 12 ≤ 512 := ez_fB (cl := 11) (k := 12) hB t770 tq_75 rfl rfl (by decide)
  have lce : lc h = qz_I h 770 12 := rfl
  have nls : lc h ≤ qz_N h (ls h) := hI.2.2.1.1.1
  have tq := mt.1
  have n20 := mt.2.1.1
  obtain ⟨r01, r02⟩ := id r0
  obtain ⟨r11, r12⟩ := id r1
  refine ez_go (n := 3) (pc' := 105) (L' := [(5, .inl (wV (yD Ls) u i)), (4, .inl (wV (yD Ls) u (i - 1))), (0, .inr (.inr (some (770)))), (1, .inr (.inr (some (q)))), (2, .inl ((u.length : Int))), (3, .inl (i))]) (st' := [.inl (i), .inr (.inr (some (q))), .inr (.inr (some (770)))]) rfl ?_
  refine ez_cv hB t770 rfl rfl rfl tq_75 rfl rfl rfl (rd_mbef hI mt (by omega) (by omega) (fun w => by omega) (fun _ => ez_K1 ?_))
  have bl := bas_le (wV (yD Ls) u) (i - 1).toNat
  refine ez_go (n := 5) (pc' := 115) (L' := [(6, .inl ((bas (wV (yD Ls) u) (i - 1).toNat : Int))), (5, .inl (wV (yD Ls) u i)), (4, .inl (wV (yD Ls) u (i - 1))), (0, .inr (.inr (some (770)))), (1, .inr (.inr (some (q)))), (2, .inl ((u.length : Int))), (3, .inl (i))]) (st' := [.inl ((bas (wV (yD Ls) u) (i - 1).toNat : Int)), .inl ((u.length : Int)), .inr (.inr (some (q))), .inr (.inr (some (770)))]) rfl ?_
  refine ez_cv hB t770 rfl rfl rfl tq_75 rfl rfl rfl (rd_mwk hI mt ⟨by omega, by omega⟩ (fun w => by omega) (fun _ _ ar => ez_K1 ?_))
  refine ez_go (n := 7) (pc' := 127) (L' := [(7, .inl (wV (yD Ls) u (bas (wV (yD Ls) u) (i - 1).toNat))), (6, .inl ((bas (wV (yD Ls) u) (i - 1).toNat : Int))), (5, .inl (wV (yD Ls) u i)), (4, .inl (wV (yD Ls) u (i - 1))), (0, .inr (.inr (some (770)))), (1, .inr (.inr (some (q)))), (2, .inl ((u.length : Int))), (3, .inl (i))]) (st' := [.inl ((bas (wV (yD Ls) u) (i - 1).toNat : Int)), .inr (.inr (some (q))), .inr (.inr (some (770))), .inl ((u.length : Int)), .inr (.inr (some (q))), .inr (.inr (some (770)))]) rfl ?_
  refine ez_cv hB t770 rfl rfl rfl tq_75 rfl rfl rfl (rd_mbef hI mt (by omega) (by omega) (fun w => ez_K1 ?_) (fun w => ez_K1 ?_))
  · have ev : vaa (wV (yD Ls) u) (bas (wV (yD Ls) u) (i - 1).toNat) = -1 := by unfold vaa; rw [if_neg (by omega)]
    refine ez_cv hB t770 rfl rfl rfl tq_75 rfl rfl rfl (rd_mwk hI mt ⟨by decide, by decide⟩ (fun _ => ez_K1 ?_) (fun w => by omega))
    have cr : ez_rg (vaa (wV (yD Ls) u) (bas (wV (yD Ls) u) (i - 1).toNat)) := by rw [ev]; exact ⟨by decide, by decide⟩
    rw [← ev]
    refine ez_go (n := 5) (pc' := 139) (L' := [(8, .inl (vaa (wV (yD Ls) u) (bas (wV (yD Ls) u) (i - 1).toNat))), (7, .inl (wV (yD Ls) u (bas (wV (yD Ls) u) (i - 1).toNat))), (6, .inl ((bas (wV (yD Ls) u) (i - 1).toNat : Int))), (5, .inl (wV (yD Ls) u i)), (4, .inl (wV (yD Ls) u (i - 1))), (0, .inr (.inr (some (770)))), (1, .inr (.inr (some (q)))), (2, .inl ((u.length : Int))), (3, .inl (i))]) (st' := [.inl (i), .inl ((u.length : Int)), .inr (.inr (some (q))), .inr (.inr (some (770)))]) rfl ?_
    refine ez_cv hB t770 rfl rfl rfl tq_75 rfl rfl rfl (rd_maft hI mt (by omega) i1 (fun k9 ka kb hn hx => ez_K1 ?_))
    refine ez_go (n := 5) (pc' := 149) (L' := [(9, .inl (k9)), (8, .inl (vaa (wV (yD Ls) u) (bas (wV (yD Ls) u) (i - 1).toNat))), (7, .inl (wV (yD Ls) u (bas (wV (yD Ls) u) (i - 1).toNat))), (6, .inl ((bas (wV (yD Ls) u) (i - 1).toNat : Int))), (5, .inl (wV (yD Ls) u i)), (4, .inl (wV (yD Ls) u (i - 1))), (0, .inr (.inr (some (770)))), (1, .inr (.inr (some (q)))), (2, .inl ((u.length : Int))), (3, .inl (i))]) (st' := [.inl (k9), .inl ((u.length : Int)), .inr (.inr (some (q))), .inr (.inr (some (770)))]) rfl ?_
    refine ez_cv hB t770 rfl rfl rfl tq_75 rfl rfl rfl (rd_mwk hI mt ⟨by omega, by omega⟩ (fun w => ez_K1 ?_) (fun q1 q2 er => ez_K1 ?_))
    · have hb : vbR (wV (yD Ls) u) u.length i (-1) := Or.inr ⟨fun j a b => hn j a (by omega), rfl⟩
      have er : ez_rg (-1) := ⟨by decide, by decide⟩
      refine ez_go (n := 1) (pc' := 154) (L' := [(10, .inl (-1)), (9, .inl (k9)), (8, .inl (vaa (wV (yD Ls) u) (bas (wV (yD Ls) u) (i - 1).toNat))), (7, .inl (wV (yD Ls) u (bas (wV (yD Ls) u) (i - 1).toNat))), (6, .inl ((bas (wV (yD Ls) u) (i - 1).toNat : Int))), (5, .inl (wV (yD Ls) u i)), (4, .inl (wV (yD Ls) u (i - 1))), (0, .inr (.inr (some (770)))), (1, .inr (.inr (some (q)))), (2, .inl ((u.length : Int))), (3, .inl (i))]) (st' := []) rfl ?_
      refine ez_less [(10, .inl (-1)), (9, .inl (k9)), (8, .inl (vaa (wV (yD Ls) u) (bas (wV (yD Ls) u) (i - 1).toNat))), (7, .inl (wV (yD Ls) u (bas (wV (yD Ls) u) (i - 1).toNat))), (6, .inl ((bas (wV (yD Ls) u) (i - 1).toNat : Int))), (5, .inl (wV (yD Ls) u i)), (4, .inl (wV (yD Ls) u (i - 1))), (0, .inr (.inr (some (770)))), (1, .inr (.inr (some (q)))), (2, .inl ((u.length : Int))), (3, .inl (i))] rfl ⟨rfl, rfl, rfl, rfl, rfl, rfl, rfl, rfl, rfl, rfl, rfl, trivial⟩ ?_
      exact rd_mwr hI mt i0 i1 ar cr er r1 hb n1 n2 n3 k1 k0
    · have hb : vbR (wV (yD Ls) u) u.length i (wV (yD Ls) u k9) := Or.inl ⟨k9, ka, q2, by rcases hx with w | w; (· exfalso; omega); (· exact w.2), hn, rfl⟩
      refine ez_go (n := 1) (pc' := 154) (L' := [(10, .inl (wV (yD Ls) u k9)), (9, .inl (k9)), (8, .inl (vaa (wV (yD Ls) u) (bas (wV (yD Ls) u) (i - 1).toNat))), (7, .inl (wV (yD Ls) u (bas (wV (yD Ls) u) (i - 1).toNat))), (6, .inl ((bas (wV (yD Ls) u) (i - 1).toNat : Int))), (5, .inl (wV (yD Ls) u i)), (4, .inl (wV (yD Ls) u (i - 1))), (0, .inr (.inr (some (770)))), (1, .inr (.inr (some (q)))), (2, .inl ((u.length : Int))), (3, .inl (i))]) (st' := []) rfl ?_
      refine ez_less [(10, .inl (wV (yD Ls) u k9)), (9, .inl (k9)), (8, .inl (vaa (wV (yD Ls) u) (bas (wV (yD Ls) u) (i - 1).toNat))), (7, .inl (wV (yD Ls) u (bas (wV (yD Ls) u) (i - 1).toNat))), (6, .inl ((bas (wV (yD Ls) u) (i - 1).toNat : Int))), (5, .inl (wV (yD Ls) u i)), (4, .inl (wV (yD Ls) u (i - 1))), (0, .inr (.inr (some (770)))), (1, .inr (.inr (some (q)))), (2, .inl ((u.length : Int))), (3, .inl (i))] rfl ⟨rfl, rfl, rfl, rfl, rfl, rfl, rfl, rfl, rfl, rfl, rfl, trivial⟩ ?_
      exact rd_mwr hI mt i0 i1 ar cr er r1 hb n1 n2 n3 k1 k0
  · have b9 := bas_le (wV (yD Ls) u) (((bas (wV (yD Ls) u) (i - 1).toNat : Nat) : Int) - 1).toNat
    have ev : vaa (wV (yD Ls) u) (bas (wV (yD Ls) u) (i - 1).toNat) = wV (yD Ls) u (bas (wV (yD Ls) u) (((bas (wV (yD Ls) u) (i - 1).toNat : Nat) : Int) - 1).toNat : Int) := by unfold vaa; rw [if_pos (by omega), show bas (wV (yD Ls) u) (i - 1).toNat - 1 = (((bas (wV (yD Ls) u) (i - 1).toNat : Nat) : Int) - 1).toNat by omega]
    refine ez_cv hB t770 rfl rfl rfl tq_75 rfl rfl rfl (rd_mwk hI mt ⟨by omega, by omega⟩ (fun w => by omega) (fun _ _ cr9 => ez_K1 ?_))
    have cr : ez_rg (vaa (wV (yD Ls) u) (bas (wV (yD Ls) u) (i - 1).toNat)) := by rw [ev]; exact cr9
    rw [← ev]
    refine ez_go (n := 5) (pc' := 139) (L' := [(8, .inl (vaa (wV (yD Ls) u) (bas (wV (yD Ls) u) (i - 1).toNat))), (7, .inl (wV (yD Ls) u (bas (wV (yD Ls) u) (i - 1).toNat))), (6, .inl ((bas (wV (yD Ls) u) (i - 1).toNat : Int))), (5, .inl (wV (yD Ls) u i)), (4, .inl (wV (yD Ls) u (i - 1))), (0, .inr (.inr (some (770)))), (1, .inr (.inr (some (q)))), (2, .inl ((u.length : Int))), (3, .inl (i))]) (st' := [.inl (i), .inl ((u.length : Int)), .inr (.inr (some (q))), .inr (.inr (some (770)))]) rfl ?_
    refine ez_cv hB t770 rfl rfl rfl tq_75 rfl rfl rfl (rd_maft hI mt (by omega) i1 (fun k9 ka kb hn hx => ez_K1 ?_))
    refine ez_go (n := 5) (pc' := 149) (L' := [(9, .inl (k9)), (8, .inl (vaa (wV (yD Ls) u) (bas (wV (yD Ls) u) (i - 1).toNat))), (7, .inl (wV (yD Ls) u (bas (wV (yD Ls) u) (i - 1).toNat))), (6, .inl ((bas (wV (yD Ls) u) (i - 1).toNat : Int))), (5, .inl (wV (yD Ls) u i)), (4, .inl (wV (yD Ls) u (i - 1))), (0, .inr (.inr (some (770)))), (1, .inr (.inr (some (q)))), (2, .inl ((u.length : Int))), (3, .inl (i))]) (st' := [.inl (k9), .inl ((u.length : Int)), .inr (.inr (some (q))), .inr (.inr (some (770)))]) rfl ?_
    refine ez_cv hB t770 rfl rfl rfl tq_75 rfl rfl rfl (rd_mwk hI mt ⟨by omega, by omega⟩ (fun w => ez_K1 ?_) (fun q1 q2 er => ez_K1 ?_))
    · have hb : vbR (wV (yD Ls) u) u.length i (-1) := Or.inr ⟨fun j a b => hn j a (by omega), rfl⟩
      have er : ez_rg (-1) := ⟨by decide, by decide⟩
      refine ez_go (n := 1) (pc' := 154) (L' := [(10, .inl (-1)), (9, .inl (k9)), (8, .inl (vaa (wV (yD Ls) u) (bas (wV (yD Ls) u) (i - 1).toNat))), (7, .inl (wV (yD Ls) u (bas (wV (yD Ls) u) (i - 1).toNat))), (6, .inl ((bas (wV (yD Ls) u) (i - 1).toNat : Int))), (5, .inl (wV (yD Ls) u i)), (4, .inl (wV (yD Ls) u (i - 1))), (0, .inr (.inr (some (770)))), (1, .inr (.inr (some (q)))), (2, .inl ((u.length : Int))), (3, .inl (i))]) (st' := []) rfl ?_
      refine ez_less [(10, .inl (-1)), (9, .inl (k9)), (8, .inl (vaa (wV (yD Ls) u) (bas (wV (yD Ls) u) (i - 1).toNat))), (7, .inl (wV (yD Ls) u (bas (wV (yD Ls) u) (i - 1).toNat))), (6, .inl ((bas (wV (yD Ls) u) (i - 1).toNat : Int))), (5, .inl (wV (yD Ls) u i)), (4, .inl (wV (yD Ls) u (i - 1))), (0, .inr (.inr (some (770)))), (1, .inr (.inr (some (q)))), (2, .inl ((u.length : Int))), (3, .inl (i))] rfl ⟨rfl, rfl, rfl, rfl, rfl, rfl, rfl, rfl, rfl, rfl, rfl, trivial⟩ ?_
      exact rd_mwr hI mt i0 i1 ar cr er r1 hb n1 n2 n3 k1 k0
    · have hb : vbR (wV (yD Ls) u) u.length i (wV (yD Ls) u k9) := Or.inl ⟨k9, ka, q2, by rcases hx with w | w; (· exfalso; omega); (· exact w.2), hn, rfl⟩
      refine ez_go (n := 1) (pc' := 154) (L' := [(10, .inl (wV (yD Ls) u k9)), (9, .inl (k9)), (8, .inl (vaa (wV (yD Ls) u) (bas (wV (yD Ls) u) (i - 1).toNat))), (7, .inl (wV (yD Ls) u (bas (wV (yD Ls) u) (i - 1).toNat))), (6, .inl ((bas (wV (yD Ls) u) (i - 1).toNat : Int))), (5, .inl (wV (yD Ls) u i)), (4, .inl (wV (yD Ls) u (i - 1))), (0, .inr (.inr (some (770)))), (1, .inr (.inr (some (q)))), (2, .inl ((u.length : Int))), (3, .inl (i))]) (st' := []) rfl ?_
      refine ez_less [(10, .inl (wV (yD Ls) u k9)), (9, .inl (k9)), (8, .inl (vaa (wV (yD Ls) u) (bas (wV (yD Ls) u) (i - 1).toNat))), (7, .inl (wV (yD Ls) u (bas (wV (yD Ls) u) (i - 1).toNat))), (6, .inl ((bas (wV (yD Ls) u) (i - 1).toNat : Int))), (5, .inl (wV (yD Ls) u i)), (4, .inl (wV (yD Ls) u (i - 1))), (0, .inr (.inr (some (770)))), (1, .inr (.inr (some (q)))), (2, .inl ((u.length : Int))), (3, .inl (i))] rfl ⟨rfl, rfl, rfl, rfl, rfl, rfl, rfl, rfl, rfl, rfl, rfl, trivial⟩ ?_
      exact rd_mwr hI mt i0 i1 ar cr er r1 hb n1 n2 n3 k1 k0

theorem rd_mw77 {i : Int} (hI : mI τ h Ls b) (mt : mtx τ h q u) (i0 : 0 < i) (i1 : i < (u.length : Int)) (k1 : wbd (wV (yD Ls) u) (wpi (yD Ls) u) u.length i → Q (.inl (some (ez_v (.inl 1))), h)) (k0 : ¬ wbd (wV (yD Ls) u) (wpi (yD Ls) u) u.length i → Q (.inl (some (ez_v (.inl 0))), h)) (r0 : ez_rg (wV (yD Ls) u (i - 1))) (r1 : ez_rg (wV (yD Ls) u i)) (n1 : ¬ lnd (wV (yD Ls) u (i - 1))) (n2 : ¬ lnd (wV (yD Ls) u i)) (np : ¬ (wV (yD Ls) u (i - 1) = 5 ∧ wpi (yD Ls) u i)) : ez_W (d + 4) cm_311 77 [(5, .inl (wV (yD Ls) u i)), (4, .inl (wV (yD Ls) u (i - 1))), (0, .inr (.inr (some (770)))), (1, .inr (.inr (some (q)))), (2, .inl ((u.length : Int))), (3, .inl (i))] [] h Q := by
  have hB := hI.1
  have t770 : τ 770 = 75 := hI.2.1 770 (by decide)
  have b12 : 0 ≤ qz_I h 770 12 ∧ qz_I h 770 12 ≤ 512 := ez_fB (cl := 11) (k := 12) hB t770 tq_75 rfl rfl (by decide)
  have lce : lc h = qz_I h 770 12 := rfl
  have nls : lc h ≤ qz_N h (ls h) := hI.2.2.1.1.1
  have tq := mt.1
  have n20 := mt.2.1.1
  obtain ⟨r01, r02⟩ := id r0
  obtain ⟨r11, r12⟩ := id r1
  refine ez_go (n := 2) (pc' := 81) (L' := [(5, .inl (wV (yD Ls) u i)), (4, .inl (wV (yD Ls) u (i - 1))), (0, .inr (.inr (some (770)))), (1, .inr (.inr (some (q)))), (2, .inl ((u.length : Int))), (3, .inl (i))]) (st' := [.inl (18), .inl (wV (yD Ls) u (i - 1))]) rfl ?_
  refine ez_icmp rfl rfl ⟨by first | omega | exact (sz_i32 _).1, by first | omega | exact (sz_i32 _).2⟩ ⟨by first | omega | exact (sz_i32 _).1, by first | omega | exact (sz_i32 _).2⟩ (fun (c1 : (wV (yD Ls) u (i - 1)) ≠ (18)) => ?_) (fun (c1 : ¬((wV (yD Ls) u (i - 1)) ≠ (18))) => ?_)
  · skip
    refine ez_go (n := 2) (pc' := 94) (L' := [(5, .inl (wV (yD Ls) u i)), (4, .inl (wV (yD Ls) u (i - 1))), (0, .inr (.inr (some (770)))), (1, .inr (.inr (some (q)))), (2, .inl ((u.length : Int))), (3, .inl (i))]) (st' := [.inl (wV (yD Ls) u i), .inr (.inr (some (770)))]) rfl ?_
    refine ez_cv hB t770 rfl rfl rfl tq_75 rfl rfl rfl (rd_mpassed ⟨by omega, by omega⟩ (fun (w1 : ign (wV (yD Ls) u i)) => ez_K1 ?_) (fun (w1 : ¬ ign (wV (yD Ls) u i)) => ez_K1 ?_))
    · skip
      refine ez_if rfl rfl ⟨by decide, by decide⟩ (fun (c2 : (1 : Int) = (0)) => absurd c2 (by decide)) (fun _ => ?_)
      refine ez_go (n := 1) (pc' := 101) (L' := [(5, .inl (wV (yD Ls) u i)), (4, .inl (wV (yD Ls) u (i - 1))), (0, .inr (.inr (some (770)))), (1, .inr (.inr (some (q)))), (2, .inl ((u.length : Int))), (3, .inl (i))]) (st' := [.inl (0)]) rfl ?_
      exact ez_retZ rfl rfl (Or.inl rfl) (k0 (wbd_3 i0 i1 n1 n2 (Or.inr (by first | exact Or.inl ⟨by omega, by omega⟩ | exact Or.inr (by assumption)))))
    · skip
      refine ez_if rfl rfl ⟨by decide, by decide⟩ (fun _ => ?_) (fun (c3 : ¬((0 : Int) = (0))) => absurd c3 (by decide))
      refine ez_less [(5, .inl (wV (yD Ls) u i)), (4, .inl (wV (yD Ls) u (i - 1))), (0, .inr (.inr (some (770)))), (1, .inr (.inr (some (q)))), (2, .inl ((u.length : Int))), (3, .inl (i))] rfl ⟨rfl, rfl, rfl, rfl, rfl, rfl, trivial⟩ ?_
      exact rd_mw102 hI mt i0 i1 k1 k0 r0 r1 n1 n2 (fun w => by rcases w with w | w | w; (· exact np w); (· omega); (· exact absurd w (by assumption)))
  · skip
    refine ez_go (n := 2) (pc' := 88) (L' := [(5, .inl (wV (yD Ls) u i)), (4, .inl (wV (yD Ls) u (i - 1))), (0, .inr (.inr (some (770)))), (1, .inr (.inr (some (q)))), (2, .inl ((u.length : Int))), (3, .inl (i))]) (st' := [.inl (18), .inl (wV (yD Ls) u i)]) rfl ?_
    refine ez_icmp rfl rfl ⟨by first | omega | exact (sz_i32 _).1, by first | omega | exact (sz_i32 _).2⟩ ⟨by first | omega | exact (sz_i32 _).1, by first | omega | exact (sz_i32 _).2⟩ (fun (c4 : (wV (yD Ls) u i) = (18)) => ?_) (fun (c4 : ¬((wV (yD Ls) u i) = (18))) => ?_)
    · skip
      refine ez_go (n := 1) (pc' := 101) (L' := [(5, .inl (wV (yD Ls) u i)), (4, .inl (wV (yD Ls) u (i - 1))), (0, .inr (.inr (some (770)))), (1, .inr (.inr (some (q)))), (2, .inl ((u.length : Int))), (3, .inl (i))]) (st' := [.inl (0)]) rfl ?_
      exact ez_retZ rfl rfl (Or.inl rfl) (k0 (wbd_3 i0 i1 n1 n2 (Or.inr (by first | exact Or.inl ⟨by omega, by omega⟩ | exact Or.inr (by assumption)))))
    · skip
      refine ez_go (n := 2) (pc' := 94) (L' := [(5, .inl (wV (yD Ls) u i)), (4, .inl (wV (yD Ls) u (i - 1))), (0, .inr (.inr (some (770)))), (1, .inr (.inr (some (q)))), (2, .inl ((u.length : Int))), (3, .inl (i))]) (st' := [.inl (wV (yD Ls) u i), .inr (.inr (some (770)))]) rfl ?_
      refine ez_cv hB t770 rfl rfl rfl tq_75 rfl rfl rfl (rd_mpassed ⟨by omega, by omega⟩ (fun (w2 : ign (wV (yD Ls) u i)) => ez_K1 ?_) (fun (w2 : ¬ ign (wV (yD Ls) u i)) => ez_K1 ?_))
      · skip
        refine ez_if rfl rfl ⟨by decide, by decide⟩ (fun (c5 : (1 : Int) = (0)) => absurd c5 (by decide)) (fun _ => ?_)
        refine ez_go (n := 1) (pc' := 101) (L' := [(5, .inl (wV (yD Ls) u i)), (4, .inl (wV (yD Ls) u (i - 1))), (0, .inr (.inr (some (770)))), (1, .inr (.inr (some (q)))), (2, .inl ((u.length : Int))), (3, .inl (i))]) (st' := [.inl (0)]) rfl ?_
        exact ez_retZ rfl rfl (Or.inl rfl) (k0 (wbd_3 i0 i1 n1 n2 (Or.inr (by first | exact Or.inl ⟨by omega, by omega⟩ | exact Or.inr (by assumption)))))
      · skip
        refine ez_if rfl rfl ⟨by decide, by decide⟩ (fun _ => ?_) (fun (c6 : ¬((0 : Int) = (0))) => absurd c6 (by decide))
        refine ez_less [(5, .inl (wV (yD Ls) u i)), (4, .inl (wV (yD Ls) u (i - 1))), (0, .inr (.inr (some (770)))), (1, .inr (.inr (some (q)))), (2, .inl ((u.length : Int))), (3, .inl (i))] rfl ⟨rfl, rfl, rfl, rfl, rfl, rfl, trivial⟩ ?_
        exact rd_mw102 hI mt i0 i1 k1 k0 r0 r1 n1 n2 (fun w => by rcases w with w | w | w; (· exact np w); (· omega); (· exact absurd w (by assumption)))

theorem rd_mw58 {i : Int} (hI : mI τ h Ls b) (mt : mtx τ h q u) (i0 : 0 < i) (i1 : i < (u.length : Int)) (k1 : wbd (wV (yD Ls) u) (wpi (yD Ls) u) u.length i → Q (.inl (some (ez_v (.inl 1))), h)) (k0 : ¬ wbd (wV (yD Ls) u) (wpi (yD Ls) u) u.length i → Q (.inl (some (ez_v (.inl 0))), h)) (r0 : ez_rg (wV (yD Ls) u (i - 1))) (r1 : ez_rg (wV (yD Ls) u i)) (n1 : ¬ lnd (wV (yD Ls) u (i - 1))) (n2 : ¬ lnd (wV (yD Ls) u i)) : ez_W (d + 4) cm_311 58 [(5, .inl (wV (yD Ls) u i)), (4, .inl (wV (yD Ls) u (i - 1))), (0, .inr (.inr (some (770)))), (1, .inr (.inr (some (q)))), (2, .inl ((u.length : Int))), (3, .inl (i))] [] h Q := by
  have hB := hI.1
  have t770 : τ 770 = 75 := hI.2.1 770 (by decide)
  have b12 : 0 ≤ qz_I h 770 12 ∧ qz_I h 770 12 ≤ 512 := ez_fB (cl := 11) (k := 12) hB t770 tq_75 rfl rfl (by decide)
  have lce : lc h = qz_I h 770 12 := rfl
  have nls : lc h ≤ qz_N h (ls h) := hI.2.2.1.1.1
  have tq := mt.1
  have n20 := mt.2.1.1
  obtain ⟨r01, r02⟩ := id r0
  obtain ⟨r11, r12⟩ := id r1
  refine ez_go (n := 2) (pc' := 61) (L' := [(5, .inl (wV (yD Ls) u i)), (4, .inl (wV (yD Ls) u (i - 1))), (0, .inr (.inr (some (770)))), (1, .inr (.inr (some (q)))), (2, .inl ((u.length : Int))), (3, .inl (i))]) (st' := [.inl (5), .inl (wV (yD Ls) u (i - 1))]) rfl ?_
  refine ez_icmp rfl rfl ⟨by first | omega | exact (sz_i32 _).1, by first | omega | exact (sz_i32 _).2⟩ ⟨by first | omega | exact (sz_i32 _).1, by first | omega | exact (sz_i32 _).2⟩ (fun (c1 : (wV (yD Ls) u (i - 1)) ≠ (5)) => ?_) (fun (c1 : ¬((wV (yD Ls) u (i - 1)) ≠ (5))) => ?_)
  · skip
    refine ez_less [(5, .inl (wV (yD Ls) u i)), (4, .inl (wV (yD Ls) u (i - 1))), (0, .inr (.inr (some (770)))), (1, .inr (.inr (some (q)))), (2, .inl ((u.length : Int))), (3, .inl (i))] rfl ⟨rfl, rfl, rfl, rfl, rfl, rfl, trivial⟩ ?_
    exact rd_mw77 hI mt i0 i1 k1 k0 r0 r1 n1 n2 (fun w => by first | (exfalso; omega) | exact wh w.2)
  · skip
    refine ez_go (n := 3) (pc' := 67) (L' := [(5, .inl (wV (yD Ls) u i)), (4, .inl (wV (yD Ls) u (i - 1))), (0, .inr (.inr (some (770)))), (1, .inr (.inr (some (q)))), (2, .inl ((u.length : Int))), (3, .inl (i))]) (st' := [.inl (i), .inr (.inr (some (q))), .inr (.inr (some (770)))]) rfl ?_
    have n3 : 2000 ≤ qz_N h q ∧ qz_N h q ≤ 2000 := ez_len hB tq tq_37 rfl
    refine ez_aI hB tq rfl tq_37 rfl rfl (by omega) (by omega) (fun (b2 : -2147483648 ≤ qz_I h q (i).toNat) (b2' : qz_I h q (i).toNat ≤ 2147483647) => ?_)
    have pb := uX_ptl mt.2.1.2 (show (i).toNat < u.length by omega)
    have prg : ez_rg (uX u (i)) := ⟨by omega, by omega⟩
    rw [show qz_I h q (i).toNat = uX u (i) from mt.2.2 (i) (by omega) (by omega)]
    refine ez_go (n := 1) (pc' := 69) (L' := [(5, .inl (wV (yD Ls) u i)), (4, .inl (wV (yD Ls) u (i - 1))), (0, .inr (.inr (some (770)))), (1, .inr (.inr (some (q)))), (2, .inl ((u.length : Int))), (3, .inl (i))]) (st' := [.inl (4), .inl (uX u (i)), .inr (.inr (some (770)))]) rfl ?_
    refine ez_cv hB t770 rfl rfl rfl tq_75 rfl rfl rfl (rd_mhas (m := 16) hI prg (by unfold qm; omega) (fun wh => ez_K1 ?_) (fun wh => ez_K1 ?_))
    · skip
      refine ez_if rfl rfl ⟨by decide, by decide⟩ (fun (c4 : (1 : Int) = (0)) => absurd c4 (by decide)) (fun _ => ?_)
      refine ez_go (n := 1) (pc' := 76) (L' := [(5, .inl (wV (yD Ls) u i)), (4, .inl (wV (yD Ls) u (i - 1))), (0, .inr (.inr (some (770)))), (1, .inr (.inr (some (q)))), (2, .inl ((u.length : Int))), (3, .inl (i))]) (st' := [.inl (0)]) rfl ?_
      exact ez_retZ rfl rfl (Or.inl rfl) (k0 (wbd_3 i0 i1 n1 n2 (Or.inl ⟨by omega, wh⟩)))
    · skip
      refine ez_if rfl rfl ⟨by decide, by decide⟩ (fun _ => ?_) (fun (c5 : ¬((0 : Int) = (0))) => absurd c5 (by decide))
      refine ez_less [(5, .inl (wV (yD Ls) u i)), (4, .inl (wV (yD Ls) u (i - 1))), (0, .inr (.inr (some (770)))), (1, .inr (.inr (some (q)))), (2, .inl ((u.length : Int))), (3, .inl (i))] rfl ⟨rfl, rfl, rfl, rfl, rfl, rfl, trivial⟩ ?_
      exact rd_mw77 hI mt i0 i1 k1 k0 r0 r1 n1 n2 (fun w => by first | (exfalso; omega) | exact wh w.2)

theorem rd_mw38 {i : Int} (hI : mI τ h Ls b) (mt : mtx τ h q u) (i0 : 0 < i) (i1 : i < (u.length : Int)) (k1 : wbd (wV (yD Ls) u) (wpi (yD Ls) u) u.length i → Q (.inl (some (ez_v (.inl 1))), h)) (k0 : ¬ wbd (wV (yD Ls) u) (wpi (yD Ls) u) u.length i → Q (.inl (some (ez_v (.inl 0))), h)) (r0 : ez_rg (wV (yD Ls) u (i - 1))) (r1 : ez_rg (wV (yD Ls) u i)) (n12 : ¬ (wV (yD Ls) u (i - 1) = 1 ∧ wV (yD Ls) u i = 2)) : ez_W (d + 4) cm_311 38 [(5, .inl (wV (yD Ls) u i)), (4, .inl (wV (yD Ls) u (i - 1))), (0, .inr (.inr (some (770)))), (1, .inr (.inr (some (q)))), (2, .inl ((u.length : Int))), (3, .inl (i))] [] h Q := by
  have hB := hI.1
  have t770 : τ 770 = 75 := hI.2.1 770 (by decide)
  have b12 : 0 ≤ qz_I h 770 12 ∧ qz_I h 770 12 ≤ 512 := ez_fB (cl := 11) (k := 12) hB t770 tq_75 rfl rfl (by decide)
  have lce : lc h = qz_I h 770 12 := rfl
  have nls : lc h ≤ qz_N h (ls h) := hI.2.2.1.1.1
  have tq := mt.1
  have n20 := mt.2.1.1
  obtain ⟨r01, r02⟩ := id r0
  obtain ⟨r11, r12⟩ := id r1
  refine ez_go (n := 2) (pc' := 41) (L' := [(5, .inl (wV (yD Ls) u i)), (4, .inl (wV (yD Ls) u (i - 1))), (0, .inr (.inr (some (770)))), (1, .inr (.inr (some (q)))), (2, .inl ((u.length : Int))), (3, .inl (i))]) (st' := [.inl (wV (yD Ls) u (i - 1)), .inr (.inr (some (770)))]) rfl ?_
  refine ez_cv hB t770 rfl rfl rfl tq_75 rfl rfl rfl (rd_mbreaks ⟨by omega, by omega⟩ (fun (w1 : lnd (wV (yD Ls) u (i - 1))) => ez_K1 ?_) (fun (w1 : ¬ lnd (wV (yD Ls) u (i - 1))) => ez_K1 ?_))
  · skip
    refine ez_if rfl rfl ⟨by decide, by decide⟩ (fun _ => ?_) (fun (c1 : ¬((1 : Int) ≠ (0))) => absurd c1 (by decide))
    refine ez_go (n := 1) (pc' := 57) (L' := [(5, .inl (wV (yD Ls) u i)), (4, .inl (wV (yD Ls) u (i - 1))), (0, .inr (.inr (some (770)))), (1, .inr (.inr (some (q)))), (2, .inl ((u.length : Int))), (3, .inl (i))]) (st' := [.inl (1)]) rfl ?_
    exact ez_retZ rfl rfl (Or.inr rfl) (k1 (wbd_2 n12 (by first | exact Or.inl (by assumption) | exact Or.inr (by assumption))))
  · skip
    refine ez_if rfl rfl ⟨by decide, by decide⟩ (fun (c2 : (0 : Int) ≠ (0)) => absurd c2 (by decide)) (fun _ => ?_)
    refine ez_go (n := 2) (pc' := 50) (L' := [(5, .inl (wV (yD Ls) u i)), (4, .inl (wV (yD Ls) u (i - 1))), (0, .inr (.inr (some (770)))), (1, .inr (.inr (some (q)))), (2, .inl ((u.length : Int))), (3, .inl (i))]) (st' := [.inl (wV (yD Ls) u i), .inr (.inr (some (770)))]) rfl ?_
    refine ez_cv hB t770 rfl rfl rfl tq_75 rfl rfl rfl (rd_mbreaks ⟨by omega, by omega⟩ (fun (w2 : lnd (wV (yD Ls) u i)) => ez_K1 ?_) (fun (w2 : ¬ lnd (wV (yD Ls) u i)) => ez_K1 ?_))
    · skip
      refine ez_if rfl rfl ⟨by decide, by decide⟩ (fun (c3 : (1 : Int) = (0)) => absurd c3 (by decide)) (fun _ => ?_)
      refine ez_go (n := 1) (pc' := 57) (L' := [(5, .inl (wV (yD Ls) u i)), (4, .inl (wV (yD Ls) u (i - 1))), (0, .inr (.inr (some (770)))), (1, .inr (.inr (some (q)))), (2, .inl ((u.length : Int))), (3, .inl (i))]) (st' := [.inl (1)]) rfl ?_
      exact ez_retZ rfl rfl (Or.inr rfl) (k1 (wbd_2 n12 (by first | exact Or.inl (by assumption) | exact Or.inr (by assumption))))
    · skip
      refine ez_if rfl rfl ⟨by decide, by decide⟩ (fun _ => ?_) (fun (c4 : ¬((0 : Int) = (0))) => absurd c4 (by decide))
      refine ez_less [(5, .inl (wV (yD Ls) u i)), (4, .inl (wV (yD Ls) u (i - 1))), (0, .inr (.inr (some (770)))), (1, .inr (.inr (some (q)))), (2, .inl ((u.length : Int))), (3, .inl (i))] rfl ⟨rfl, rfl, rfl, rfl, rfl, rfl, trivial⟩ ?_
      exact rd_mw58 hI mt i0 i1 k1 k0 r0 r1 (by assumption) (by assumption)

theorem rd_mword {i : Int} (hI : mI τ h Ls b) (mt : mtx τ h q u) (i0 : 0 < i) (i1 : i < (u.length : Int)) (k1 : wbd (wV (yD Ls) u) (wpi (yD Ls) u) u.length i → Q (.inl (some (ez_v (.inl 1))), h)) (k0 : ¬ wbd (wV (yD Ls) u) (wpi (yD Ls) u) u.length i → Q (.inl (some (ez_v (.inl 0))), h)) : ez_W (d + 4) cm_311 0 [(0, .inr (.inr (some (770)))), (1, .inr (.inr (some (q)))), (2, .inl ((u.length : Int))), (3, .inl (i))] [] h Q := by
  have hB := hI.1
  have t770 : τ 770 = 75 := hI.2.1 770 (by decide)
  have b12 : 0 ≤ qz_I h 770 12 ∧ qz_I h 770 12 ≤ 512 := ez_fB (cl := 11) (k := 12) hB t770 tq_75 rfl rfl (by decide)
  have lce : lc h = qz_I h 770 12 := rfl
  have nls : lc h ≤ qz_N h (ls h) := hI.2.2.1.1.1
  have tq := mt.1
  have n2 := mt.2.1.1
  refine ez_go (n := 5) (pc' := 5) (L' := [(0, .inr (.inr (some (770)))), (1, .inr (.inr (some (q)))), (2, .inl ((u.length : Int))), (3, .inl (i))]) (st' := [.inl ((i) - (1)), .inr (.inr (some (q))), .inr (.inr (some (770)))]) rfl ?_
  have n2 : 2000 ≤ qz_N h q ∧ qz_N h q ≤ 2000 := ez_len hB tq tq_37 rfl
  refine ez_aI hB tq rfl tq_37 rfl rfl (by omega) (by omega) (fun (b1 : -2147483648 ≤ qz_I h q ((i) - (1)).toNat) (b1' : qz_I h q ((i) - (1)).toNat ≤ 2147483647) => ?_)
  have pb := uX_ptl mt.2.1.2 (show (i - 1).toNat < u.length by omega)
  have prg : ez_rg (uX u (i - 1)) := ⟨by omega, by omega⟩
  rw [show qz_I h q ((i) - (1)).toNat = uX u (i - 1) from mt.2.2 (i - 1) (by omega) (by omega)]
  refine ez_go (n := 1) (pc' := 8) (L' := [(0, .inr (.inr (some (770)))), (1, .inr (.inr (some (q)))), (2, .inl ((u.length : Int))), (3, .inl (i))]) (st' := [.inl (7), .inl (uX u (i - 1)), .inr (.inr (some (770)))]) rfl ?_
  refine ez_cv hB t770 rfl rfl rfl tq_75 rfl rfl rfl (rd_mkind hI prg (fun r0 => ez_K1 ?_))
  rw [show (yD Ls (uX u (i - 1))).2.1.2.2 = wV (yD Ls) u (i - 1) from rfl] at *
  have r0 : ez_rg (wV (yD Ls) u (i - 1)) := r0
  obtain ⟨r0a, r0b⟩ := id r0
  refine ez_go (n := 4) (pc' := 16) (L' := [(4, .inl (wV (yD Ls) u (i - 1))), (0, .inr (.inr (some (770)))), (1, .inr (.inr (some (q)))), (2, .inl ((u.length : Int))), (3, .inl (i))]) (st' := [.inl (i), .inr (.inr (some (q))), .inr (.inr (some (770)))]) rfl ?_
  have n4 : 2000 ≤ qz_N h q ∧ qz_N h q ≤ 2000 := ez_len hB tq tq_37 rfl
  refine ez_aI hB tq rfl tq_37 rfl rfl (by omega) (by omega) (fun (b3 : -2147483648 ≤ qz_I h q (i).toNat) (b3' : qz_I h q (i).toNat ≤ 2147483647) => ?_)
  have pb := uX_ptl mt.2.1.2 (show (i).toNat < u.length by omega)
  have prg : ez_rg (uX u (i)) := ⟨by omega, by omega⟩
  rw [show qz_I h q (i).toNat = uX u (i) from mt.2.2 (i) (by omega) (by omega)]
  refine ez_go (n := 1) (pc' := 19) (L' := [(4, .inl (wV (yD Ls) u (i - 1))), (0, .inr (.inr (some (770)))), (1, .inr (.inr (some (q)))), (2, .inl ((u.length : Int))), (3, .inl (i))]) (st' := [.inl (7), .inl (uX u (i)), .inr (.inr (some (770)))]) rfl ?_
  refine ez_cv hB t770 rfl rfl rfl tq_75 rfl rfl rfl (rd_mkind hI prg (fun r1 => ez_K1 ?_))
  rw [show (yD Ls (uX u (i))).2.1.2.2 = wV (yD Ls) u (i) from rfl] at *
  have r1 : ez_rg (wV (yD Ls) u i) := r1
  obtain ⟨r1a, r1b⟩ := id r1
  refine ez_go (n := 3) (pc' := 27) (L' := [(5, .inl (wV (yD Ls) u i)), (4, .inl (wV (yD Ls) u (i - 1))), (0, .inr (.inr (some (770)))), (1, .inr (.inr (some (q)))), (2, .inl ((u.length : Int))), (3, .inl (i))]) (st' := [.inl (1), .inl (wV (yD Ls) u (i - 1))]) rfl ?_
  refine ez_icmp rfl rfl ⟨by first | omega | exact (sz_i32 _).1, by first | omega | exact (sz_i32 _).2⟩ ⟨by first | omega | exact (sz_i32 _).1, by first | omega | exact (sz_i32 _).2⟩ (fun (c5 : (wV (yD Ls) u (i - 1)) ≠ (1)) => ?_) (fun (c5 : ¬((wV (yD Ls) u (i - 1)) ≠ (1))) => ?_)
  · skip
    refine ez_less [(5, .inl (wV (yD Ls) u i)), (4, .inl (wV (yD Ls) u (i - 1))), (0, .inr (.inr (some (770)))), (1, .inr (.inr (some (q)))), (2, .inl ((u.length : Int))), (3, .inl (i))] rfl ⟨rfl, rfl, rfl, rfl, rfl, rfl, trivial⟩ ?_
    exact rd_mw38 hI mt i0 i1 k1 k0 r0 r1 (by omega)
  · skip
    refine ez_go (n := 2) (pc' := 33) (L' := [(5, .inl (wV (yD Ls) u i)), (4, .inl (wV (yD Ls) u (i - 1))), (0, .inr (.inr (some (770)))), (1, .inr (.inr (some (q)))), (2, .inl ((u.length : Int))), (3, .inl (i))]) (st' := [.inl (2), .inl (wV (yD Ls) u i)]) rfl ?_
    refine ez_icmp rfl rfl ⟨by first | omega | exact (sz_i32 _).1, by first | omega | exact (sz_i32 _).2⟩ ⟨by first | omega | exact (sz_i32 _).1, by first | omega | exact (sz_i32 _).2⟩ (fun (c6 : (wV (yD Ls) u i) ≠ (2)) => ?_) (fun (c6 : ¬((wV (yD Ls) u i) ≠ (2))) => ?_)
    · skip
      refine ez_less [(5, .inl (wV (yD Ls) u i)), (4, .inl (wV (yD Ls) u (i - 1))), (0, .inr (.inr (some (770)))), (1, .inr (.inr (some (q)))), (2, .inl ((u.length : Int))), (3, .inl (i))] rfl ⟨rfl, rfl, rfl, rfl, rfl, rfl, trivial⟩ ?_
      exact rd_mw38 hI mt i0 i1 k1 k0 r0 r1 (by omega)
    · skip
      refine ez_go (n := 1) (pc' := 37) (L' := [(5, .inl (wV (yD Ls) u i)), (4, .inl (wV (yD Ls) u (i - 1))), (0, .inr (.inr (some (770)))), (1, .inr (.inr (some (q)))), (2, .inl ((u.length : Int))), (3, .inl (i))]) (st' := [.inl (0)]) rfl ?_
      exact ez_retZ rfl rfl (Or.inl rfl) (k0 (wbd_1 i0 i1 (by omega) (by omega)))

theorem rd_medge {i : Int} (hI : mI τ h Ls b) (mt : mtx τ h q u) (i0 : 0 ≤ i) (i1 : i < (u.length : Int)) (k1 : wbd (wV (yD Ls) u) (wpi (yD Ls) u) u.length i → Q (.inl (some (ez_v (.inl 1))), h)) (k0 : ¬ wbd (wV (yD Ls) u) (wpi (yD Ls) u) u.length i → Q (.inl (some (ez_v (.inl 0))), h)) : ez_W (d + 5) cm_245 0 [(0, .inr (.inr (some (770)))), (1, .inr (.inr (some (q)))), (2, .inl ((u.length : Int))), (3, .inl (1)), (4, .inl (i))] [] h Q := by
  have hB := hI.1
  have t770 : τ 770 = 75 := hI.2.1 770 (by decide)
  have b12 : 0 ≤ qz_I h 770 12 ∧ qz_I h 770 12 ≤ 512 := ez_fB (cl := 11) (k := 12) hB t770 tq_75 rfl rfl (by decide)
  have lce : lc h = qz_I h 770 12 := rfl
  have nls : lc h ≤ qz_N h (ls h) := hI.2.2.1.1.1
  have tq := mt.1
  have n2 := mt.2.1.1
  refine ez_go (n := 1) (pc' := 1) (L' := [(0, .inr (.inr (some (770)))), (1, .inr (.inr (some (q)))), (2, .inl ((u.length : Int))), (3, .inl (1)), (4, .inl (i))]) (st' := [.inl ((u.length : Int))]) rfl ?_
  refine ez_if rfl rfl ⟨by first | omega | exact (sz_i32 _).1, by first | omega | exact (sz_i32 _).2⟩ (fun (c1 : ((u.length : Int)) ≠ (0)) => ?_) (fun (c1 : ¬(((u.length : Int)) ≠ (0))) => ?_)
  · skip
    refine ez_go (n := 1) (pc' := 8) (L' := [(0, .inr (.inr (some (770)))), (1, .inr (.inr (some (q)))), (2, .inl ((u.length : Int))), (3, .inl (1)), (4, .inl (i))]) (st' := [.inl (i)]) rfl ?_
    refine ez_if rfl rfl ⟨by first | omega | exact (sz_i32 _).1, by first | omega | exact (sz_i32 _).2⟩ (fun (c2 : (i) = (0)) => ?_) (fun (c2 : ¬((i) = (0))) => ?_)
    · skip
      refine ez_go (n := 1) (pc' := 18) (L' := [(0, .inr (.inr (some (770)))), (1, .inr (.inr (some (q)))), (2, .inl ((u.length : Int))), (3, .inl (1)), (4, .inl (i))]) (st' := [.inl (1)]) rfl ?_
      exact ez_retZ rfl rfl (Or.inr rfl) (k1 (by first | exact w | exact wbd_o (by omega)))
    · skip
      refine ez_go (n := 2) (pc' := 14) (L' := [(0, .inr (.inr (some (770)))), (1, .inr (.inr (some (q)))), (2, .inl ((u.length : Int))), (3, .inl (1)), (4, .inl (i))]) (st' := [.inl ((u.length : Int)), .inl (i)]) rfl ?_
      refine ez_icmp rfl rfl ⟨by first | omega | exact (sz_i32 _).1, by first | omega | exact (sz_i32 _).2⟩ ⟨by first | omega | exact (sz_i32 _).1, by first | omega | exact (sz_i32 _).2⟩ (fun (c3 : (i) ≠ ((u.length : Int))) => ?_) (fun (c3 : ¬((i) ≠ ((u.length : Int)))) => ?_)
      · skip
        refine ez_go (n := 1) (pc' := 20) (L' := [(0, .inr (.inr (some (770)))), (1, .inr (.inr (some (q)))), (2, .inl ((u.length : Int))), (3, .inl (1)), (4, .inl (i))]) (st' := [.inl (1)]) rfl ?_
        refine ez_if rfl rfl ⟨by decide, by decide⟩ (fun _ => ?_) (fun (c4 : ¬((1 : Int) ≠ (0))) => absurd c4 (by decide))
        refine ez_go (n := 4) (pc' := 38) (L' := [(0, .inr (.inr (some (770)))), (1, .inr (.inr (some (q)))), (2, .inl ((u.length : Int))), (3, .inl (1)), (4, .inl (i))]) (st' := [.inl (i), .inl ((u.length : Int)), .inr (.inr (some (q))), .inr (.inr (some (770)))]) rfl ?_
        refine ez_cv hB t770 rfl rfl rfl tq_75 rfl rfl rfl (rd_mword hI mt (by omega) (by omega) (fun w => ez_K1 ?_) (fun w => ez_K1 ?_))
        · skip
          exact ez_retZ rfl rfl (Or.inr rfl) (k1 (by first | exact w | exact wbd_o (by omega)))
        · skip
          exact ez_retZ rfl rfl (Or.inl rfl) (k0 (by first | exact w | (exfalso; omega)))
      · skip
        refine ez_go (n := 1) (pc' := 18) (L' := [(0, .inr (.inr (some (770)))), (1, .inr (.inr (some (q)))), (2, .inl ((u.length : Int))), (3, .inl (1)), (4, .inl (i))]) (st' := [.inl (1)]) rfl ?_
        exact ez_retZ rfl rfl (Or.inr rfl) (k1 (by first | exact w | exact wbd_o (by omega)))
  · skip
    refine ez_go (n := 1) (pc' := 5) (L' := [(0, .inr (.inr (some (770)))), (1, .inr (.inr (some (q)))), (2, .inl ((u.length : Int))), (3, .inl (1)), (4, .inl (i))]) (st' := [.inl (0)]) rfl ?_
    exact ez_retZ rfl rfl (Or.inl rfl) (k0 (by first | exact w | (exfalso; omega)))

theorem rd_mtit_l (hI : mI τ h Ls b) (mt : mtx τ h q u) (hd : dok (yD Ls)) (lr : ez_rg loc) (hr1 : h.1 + 1 ≤ 600192) (hr2 : h.2.1 + 6 ≤ 7302232) (k1 : ∀ res, chS (yD Ls) (vF Ls) u loc 2 res → ptl res → ∀ g, ez_B τ g → nk τ h τ g → g.1 = h.1 ∧ g.2.1 = h.2.1 → tm g res → Q (.inl none, g)) (k0 : chN (yD Ls) (vF Ls) u loc 2 → ∀ g, ez_B τ g → nk τ h τ g → g.1 = h.1 ∧ g.2.1 = h.2.1 → Q (.inr g.1, xc g 0)) : ∀ (n : Nat) (i : Int) (g : cz_H) (bf : Int) (b0 : Prop) (ml : List Int), n = ((u.length : Int) - i).toNat → 0 ≤ i → i ≤ (u.length : Int) → ez_B τ g → nk τ h τ g → g.1 = h.1 ∧ g.2.1 = h.2.1 → ((bf = 1 ∧ ¬ b0) ∨ (bf = 0 ∧ b0)) → chR (yD Ls) (vF Ls) u loc 2 i.toNat b0 ml → ptl ml → tm g ml → ez_W (d + 8) cm_305 6 [(5, .inl (i)), (4, .inl (bf)), (0, .inr (.inr (some (770)))), (1, .inr (.inr (some (q)))), (2, .inl ((u.length : Int))), (3, .inl (loc))] [] g Q := by
  have hB := hI.1
  have t770 : τ 770 = 75 := hI.2.1 770 (by decide)
  have b12 : 0 ≤ qz_I h 770 12 ∧ qz_I h 770 12 ≤ 512 := ez_fB (cl := 11) (k := 12) hB t770 tq_75 rfl rfl (by decide)
  have lce : lc h = qz_I h 770 12 := rfl
  have nls : lc h ≤ qz_N h (ls h) := hI.2.2.1.1.1
  have tq := mt.1
  have n2 := mt.2.1.1
  have hX := hI.2.1
  intro n
  induction n with
  | zero =>
    intro i g bf b0 ml hn0 i0 i1 hBg hk hrm hbf hc pm ag
    have hIg := hk.mIx hI hBg
    have mtg := hk.mtxx hX mt
    have bfr : bf = 1 ∨ bf = 0 := by rcases hbf with w | w <;> omega
    by_cases iL : i < (u.length : Int)
    rotate_left
    · skip
      refine ez_go (n := 2) (pc' := 9) (L' := [(5, .inl (i)), (4, .inl (bf)), (0, .inr (.inr (some (770)))), (1, .inr (.inr (some (q)))), (2, .inl ((u.length : Int))), (3, .inl (loc))]) (st' := [.inl ((u.length : Int)), .inl (i)]) rfl ?_
      refine ez_icmp rfl rfl ⟨by first | omega | exact (sz_i32 _).1, by first | omega | exact (sz_i32 _).2⟩ ⟨by first | omega | exact (sz_i32 _).1, by first | omega | exact (sz_i32 _).2⟩ (fun (c1 : ((u.length : Int)) ≤ (i)) => ?_) (fun (c1 : ¬(((u.length : Int)) ≤ (i))) => ?_)
      · skip
        exact ez_ret0 rfl rfl (k1 ml ⟨b0, by rw [show u.length = i.toNat by omega]; exact hc⟩ pm g hBg hk hrm ag)
      · exfalso; omega
    have pb := uX_ptl mt.2.1.2 (show (i).toNat < u.length by omega)
    have prg : ez_rg (uX u i) := ⟨by omega, by omega⟩
    refine ez_go (n := 2) (pc' := 9) (L' := [(5, .inl (i)), (4, .inl (bf)), (0, .inr (.inr (some (770)))), (1, .inr (.inr (some (q)))), (2, .inl ((u.length : Int))), (3, .inl (loc))]) (st' := [.inl ((u.length : Int)), .inl (i)]) rfl ?_
    refine ez_icmp rfl rfl ⟨by first | omega | exact (sz_i32 _).1, by first | omega | exact (sz_i32 _).2⟩ ⟨by first | omega | exact (sz_i32 _).1, by first | omega | exact (sz_i32 _).2⟩ (fun (c1 : ((u.length : Int)) ≤ (i)) => ?_) (fun (c1 : ¬(((u.length : Int)) ≤ (i))) => ?_)
    · skip
      exact ez_ret0 rfl rfl (k1 ml ⟨b0, by rw [show u.length = i.toNat by omega]; exact hc⟩ pm g hBg hk hrm ag)
    · exfalso; omega
  | succ n ih =>
    intro i g bf b0 ml hn0 i0 i1 hBg hk hrm hbf hc pm ag
    have hIg := hk.mIx hI hBg
    have mtg := hk.mtxx hX mt
    have bfr : bf = 1 ∨ bf = 0 := by rcases hbf with w | w <;> omega
    by_cases iL : i < (u.length : Int)
    rotate_left
    · skip
      refine ez_go (n := 2) (pc' := 9) (L' := [(5, .inl (i)), (4, .inl (bf)), (0, .inr (.inr (some (770)))), (1, .inr (.inr (some (q)))), (2, .inl ((u.length : Int))), (3, .inl (loc))]) (st' := [.inl ((u.length : Int)), .inl (i)]) rfl ?_
      refine ez_icmp rfl rfl ⟨by first | omega | exact (sz_i32 _).1, by first | omega | exact (sz_i32 _).2⟩ ⟨by first | omega | exact (sz_i32 _).1, by first | omega | exact (sz_i32 _).2⟩ (fun (c1 : ((u.length : Int)) ≤ (i)) => ?_) (fun (c1 : ¬(((u.length : Int)) ≤ (i))) => ?_)
      · skip
        exact ez_ret0 rfl rfl (k1 ml ⟨b0, by rw [show u.length = i.toNat by omega]; exact hc⟩ pm g hBg hk hrm ag)
      · exfalso; omega
    have pb := uX_ptl mt.2.1.2 (show (i).toNat < u.length by omega)
    have prg : ez_rg (uX u i) := ⟨by omega, by omega⟩
    refine ez_go (n := 2) (pc' := 9) (L' := [(5, .inl (i)), (4, .inl (bf)), (0, .inr (.inr (some (770)))), (1, .inr (.inr (some (q)))), (2, .inl ((u.length : Int))), (3, .inl (loc))]) (st' := [.inl ((u.length : Int)), .inl (i)]) rfl ?_
    refine ez_icmp rfl rfl ⟨by first | omega | exact (sz_i32 _).1, by first | omega | exact (sz_i32 _).2⟩ ⟨by first | omega | exact (sz_i32 _).1, by first | omega | exact (sz_i32 _).2⟩ (fun (c1 : ((u.length : Int)) ≤ (i)) => ?_) (fun (c1 : ¬(((u.length : Int)) ≤ (i))) => ?_)
    · skip
      exact ez_ret0 rfl rfl (k1 ml ⟨b0, by rw [show u.length = i.toNat by omega]; exact hc⟩ pm g hBg hk hrm ag)
    · skip
      refine ez_go (n := 5) (pc' := 18) (L' := [(5, .inl (i)), (4, .inl (bf)), (0, .inr (.inr (some (770)))), (1, .inr (.inr (some (q)))), (2, .inl ((u.length : Int))), (3, .inl (loc))]) (st' := [.inl (i), .inl (1), .inl ((u.length : Int)), .inr (.inr (some (q))), .inr (.inr (some (770)))]) rfl ?_
      refine ez_cv hBg t770 rfl rfl rfl tq_75 rfl rfl rfl (rd_medge hIg mtg i0 (by omega) (fun we => ez_K1 ?_) (fun we => ez_K1 ?_))
      · skip
        refine ez_if rfl rfl ⟨by decide, by decide⟩ (fun (c2 : (1 : Int) = (0)) => absurd c2 (by decide)) (fun _ => ?_)
        refine ez_go (n := 3) (pc' := 29) (L' := [(4, .inl (1)), (5, .inl (i)), (0, .inr (.inr (some (770)))), (1, .inr (.inr (some (q)))), (2, .inl ((u.length : Int))), (3, .inl (loc))]) (st' := [.inl (1)]) rfl ?_
        refine ez_if rfl rfl ⟨by decide, by decide⟩ (fun _ => ?_) (fun (c3 : ¬((1 : Int) ≠ (0))) => absurd c3 (by decide))
        refine ez_go (n := 3) (pc' := 49) (L' := [(4, .inl (1)), (5, .inl (i)), (0, .inr (.inr (some (770)))), (1, .inr (.inr (some (q)))), (2, .inl ((u.length : Int))), (3, .inl (loc))]) (st' := [.inl (i), .inr (.inr (some (q))), .inr (.inr (some (770)))]) rfl ?_
        have n5 : 2000 ≤ qz_N g q ∧ qz_N g q ≤ 2000 := ez_len hBg tq tq_37 rfl
        refine ez_aI hBg tq rfl tq_37 rfl rfl (by omega) (by omega) (fun (b4 : -2147483648 ≤ qz_I g q (i).toNat) (b4' : qz_I g q (i).toNat ≤ 2147483647) => ?_)
        rw [mtg.2.2 i (by omega) (by omega)]
        have nb9 : ¬ (b0 ∧ ¬ wbd (wV (yD Ls) u) (wpi (yD Ls) u) u.length i) := fun w => by first | exact w.2 we | (rcases hbf with q | q; (· exact q.2 w.1); (· exfalso; omega))
        refine ez_cv hBg t770 rfl rfl rfl tq_75 rfl rfl rfl (rd_mcased hIg prg (fun wc => ez_K1 ?_) (fun wc => ez_K1 ?_))
        · skip
          refine ez_if rfl rfl ⟨by decide, by decide⟩ (fun (c6 : (1 : Int) = (0)) => absurd c6 (by decide)) (fun _ => ?_)
          refine ez_go (n := 6) (pc' := 63) (L' := [(4, .inl (1)), (5, .inl (i)), (0, .inr (.inr (some (770)))), (1, .inr (.inr (some (q)))), (2, .inl ((u.length : Int))), (3, .inl (loc))]) (st' := [.inl (loc), .inl (2), .inl (i), .inl ((u.length : Int)), .inr (.inr (some (q))), .inr (.inr (some (770)))]) rfl ?_
          refine ez_cv hBg t770 rfl rfl rfl tq_75 rfl rfl rfl (rd_mcases hIg mtg i0 (by omega) lr ⟨by decide, by decide⟩ hd (by omega) (by omega) ag (by omega) (by omega) (fun mm cm lt g2 hB2 nk2 rm2 a2 => ez_K0 ?_) (fun mm cm lt g2 hB2 nk2 rm2 => ez_Kp (xc_exc hB2 rfl) rfl ?_))
          · have rmx : g2.1 = h.1 ∧ g2.2.1 = h.2.1 := ⟨rm2.1.trans hrm.1, rm2.2.trans hrm.2⟩
            have st3 : chR (yD Ls) (vF Ls) u loc 2 (i.toNat + 1) True (ml ++ mm) := ⟨b0, ml, mm, hc, rfl, fun w => by omega, fun w => by omega, fun _ => by rw [show ((i.toNat : Nat) : Int) = i by omega]; exact ⟨fun w => absurd w nb9, fun _ => ⟨fun _ => ⟨cm, trivial⟩, fun w => absurd wc w⟩⟩⟩
            have pm2 : ptl mm := cmR_ok hd pb cm
            refine ez_go (n := 5) (pc' := 6) (L' := [(5, .inl (i + 1)), (4, .inl (0)), (0, .inr (.inr (some (770)))), (1, .inr (.inr (some (q)))), (2, .inl ((u.length : Int))), (3, .inl (loc))]) (st' := []) rfl ?_
            refine ez_less [(5, .inl (i + 1)), (4, .inl (0)), (0, .inr (.inr (some (770)))), (1, .inr (.inr (some (q)))), (2, .inl ((u.length : Int))), (3, .inl (loc))] rfl ⟨rfl, rfl, rfl, rfl, rfl, rfl, trivial⟩ ?_
            have hrm2 : g2.1 = h.1 ∧ g2.2.1 = h.2.1 := rmx
            exact ih (i + 1) g2 0 True (ml ++ mm) (by omega) (by omega) (by omega) hB2 (hk.trans nk2) hrm2 (by first | exact Or.inl ⟨by omega, id⟩ | exact Or.inr ⟨by omega, trivial⟩) (by rw [show (i + 1).toNat = i.toNat + 1 by omega]; exact st3) (ptl_app pm pm2) a2
          · skip
            have st3 : chR (yD Ls) (vF Ls) u loc 2 (i.toNat + 1) True (ml ++ mm) := ⟨b0, ml, mm, hc, rfl, fun w => by omega, fun w => by omega, fun _ => by rw [show ((i.toNat : Nat) : Int) = i by omega]; exact ⟨fun w => absurd w nb9, fun _ => ⟨fun _ => ⟨cm, trivial⟩, fun w => absurd wc w⟩⟩⟩
            exact k0 ⟨i.toNat + 1, True, _, by omega, st3, by rw [List.length_append]; exact lt⟩ g2 hB2 (hk.trans nk2) ⟨rm2.1.trans hrm.1, rm2.2.trans hrm.2⟩
        · skip
          refine ez_if rfl rfl ⟨by decide, by decide⟩ (fun _ => ?_) (fun (c7 : ¬((0 : Int) = (0))) => absurd c7 (by decide))
          refine ez_go (n := 3) (pc' := 76) (L' := [(4, .inl (1)), (5, .inl (i)), (0, .inr (.inr (some (770)))), (1, .inr (.inr (some (q)))), (2, .inl ((u.length : Int))), (3, .inl (loc))]) (st' := [.inl (i), .inr (.inr (some (q))), .inr (.inr (some (770)))]) rfl ?_
          have n9 : 2000 ≤ qz_N g q ∧ qz_N g q ≤ 2000 := ez_len hBg tq tq_37 rfl
          refine ez_aI hBg tq rfl tq_37 rfl rfl (by omega) (by omega) (fun (b8 : -2147483648 ≤ qz_I g q (i).toNat) (b8' : qz_I g q (i).toNat ≤ 2147483647) => ?_)
          rw [mtg.2.2 i (by omega) (by omega)]
          refine ez_cv hBg t770 rfl rfl rfl tq_75 rfl rfl rfl (rd_make hBg t770 ag prg (by omega) (by omega) (fun lt g2 hB2 f2 i2 a2 => ez_K0 ?_) (fun ge => ez_Kp (xc_exc hBg rfl) rfl ?_))
          · have nk2 := nk.fr hBg t770 hX f2 (fun q9 hq9 => by unfold nz_PL at hq9; rcases Bool.or_eq_true_iff.mp hq9 with w | w; (· exact Or.inl (Nat.eq_of_beq_eq_true w)); (· exact Or.inr (Or.inl (Nat.eq_of_beq_eq_true w)))) i2
            have rmx : g2.1 = h.1 ∧ g2.2.1 = h.2.1 := ⟨f2.1.trans hrm.1, f2.2.1.trans hrm.2⟩
            have st3 : chR (yD Ls) (vF Ls) u loc 2 (i.toNat + 1) False (ml ++ [uX u i]) := ⟨b0, ml, [uX u i], hc, rfl, fun w => by omega, fun w => by omega, fun _ => by rw [show ((i.toNat : Nat) : Int) = i by omega]; exact ⟨fun w => absurd w nb9, fun _ => ⟨fun w => absurd w wc, fun _ => ⟨rfl, id⟩⟩⟩⟩
            have pm2 : ptl [uX u i] := ptl_one pb
            refine ez_go (n := 2) (pc' := 6) (L' := [(5, .inl (i + 1)), (4, .inl (1)), (0, .inr (.inr (some (770)))), (1, .inr (.inr (some (q)))), (2, .inl ((u.length : Int))), (3, .inl (loc))]) (st' := []) rfl ?_
            refine ez_less [(5, .inl (i + 1)), (4, .inl (1)), (0, .inr (.inr (some (770)))), (1, .inr (.inr (some (q)))), (2, .inl ((u.length : Int))), (3, .inl (loc))] rfl ⟨rfl, rfl, rfl, rfl, rfl, rfl, trivial⟩ ?_
            have hrm2 : g2.1 = h.1 ∧ g2.2.1 = h.2.1 := rmx
            exact ih (i + 1) g2 1 False (ml ++ [uX u i]) (by omega) (by omega) (by omega) hB2 (hk.trans nk2) hrm2 (by first | exact Or.inl ⟨by omega, id⟩ | exact Or.inr ⟨by omega, trivial⟩) (by rw [show (i + 1).toNat = i.toNat + 1 by omega]; exact st3) (ptl_app pm pm2) a2
          · skip
            have st3 : chR (yD Ls) (vF Ls) u loc 2 (i.toNat + 1) False (ml ++ [uX u i]) := ⟨b0, ml, [uX u i], hc, rfl, fun w => by omega, fun w => by omega, fun _ => by rw [show ((i.toNat : Nat) : Int) = i by omega]; exact ⟨fun w => absurd w nb9, fun _ => ⟨fun w => absurd w wc, fun _ => ⟨rfl, id⟩⟩⟩⟩
            exact k0 ⟨i.toNat + 1, False, _, by omega, st3, by rw [List.length_append]; show 2000 < ml.length + 1; omega⟩ g hBg hk hrm
      · skip
        refine ez_if rfl rfl ⟨by decide, by decide⟩ (fun _ => ?_) (fun (c10 : ¬((0 : Int) = (0))) => absurd c10 (by decide))
        refine ez_go (n := 1) (pc' := 29) (L' := [(5, .inl (i)), (4, .inl (bf)), (0, .inr (.inr (some (770)))), (1, .inr (.inr (some (q)))), (2, .inl ((u.length : Int))), (3, .inl (loc))]) (st' := [.inl (bf)]) rfl ?_
        refine ez_if rfl rfl ⟨by first | omega | exact (sz_i32 _).1, by first | omega | exact (sz_i32 _).2⟩ (fun (c11 : (bf) ≠ (0)) => ?_) (fun (c11 : ¬((bf) ≠ (0))) => ?_)
        · skip
          refine ez_go (n := 3) (pc' := 49) (L' := [(5, .inl (i)), (4, .inl (bf)), (0, .inr (.inr (some (770)))), (1, .inr (.inr (some (q)))), (2, .inl ((u.length : Int))), (3, .inl (loc))]) (st' := [.inl (i), .inr (.inr (some (q))), .inr (.inr (some (770)))]) rfl ?_
          have n13 : 2000 ≤ qz_N g q ∧ qz_N g q ≤ 2000 := ez_len hBg tq tq_37 rfl
          refine ez_aI hBg tq rfl tq_37 rfl rfl (by omega) (by omega) (fun (b12 : -2147483648 ≤ qz_I g q (i).toNat) (b12' : qz_I g q (i).toNat ≤ 2147483647) => ?_)
          rw [mtg.2.2 i (by omega) (by omega)]
          have nb9 : ¬ (b0 ∧ ¬ wbd (wV (yD Ls) u) (wpi (yD Ls) u) u.length i) := fun w => by first | exact w.2 we | (rcases hbf with q | q; (· exact q.2 w.1); (· exfalso; omega))
          refine ez_cv hBg t770 rfl rfl rfl tq_75 rfl rfl rfl (rd_mcased hIg prg (fun wc => ez_K1 ?_) (fun wc => ez_K1 ?_))
          · skip
            refine ez_if rfl rfl ⟨by decide, by decide⟩ (fun (c14 : (1 : Int) = (0)) => absurd c14 (by decide)) (fun _ => ?_)
            refine ez_go (n := 6) (pc' := 63) (L' := [(5, .inl (i)), (4, .inl (bf)), (0, .inr (.inr (some (770)))), (1, .inr (.inr (some (q)))), (2, .inl ((u.length : Int))), (3, .inl (loc))]) (st' := [.inl (loc), .inl (2), .inl (i), .inl ((u.length : Int)), .inr (.inr (some (q))), .inr (.inr (some (770)))]) rfl ?_
            refine ez_cv hBg t770 rfl rfl rfl tq_75 rfl rfl rfl (rd_mcases hIg mtg i0 (by omega) lr ⟨by decide, by decide⟩ hd (by omega) (by omega) ag (by omega) (by omega) (fun mm cm lt g2 hB2 nk2 rm2 a2 => ez_K0 ?_) (fun mm cm lt g2 hB2 nk2 rm2 => ez_Kp (xc_exc hB2 rfl) rfl ?_))
            · have rmx : g2.1 = h.1 ∧ g2.2.1 = h.2.1 := ⟨rm2.1.trans hrm.1, rm2.2.trans hrm.2⟩
              have st3 : chR (yD Ls) (vF Ls) u loc 2 (i.toNat + 1) True (ml ++ mm) := ⟨b0, ml, mm, hc, rfl, fun w => by omega, fun w => by omega, fun _ => by rw [show ((i.toNat : Nat) : Int) = i by omega]; exact ⟨fun w => absurd w nb9, fun _ => ⟨fun _ => ⟨cm, trivial⟩, fun w => absurd wc w⟩⟩⟩
              have pm2 : ptl mm := cmR_ok hd pb cm
              refine ez_go (n := 5) (pc' := 6) (L' := [(5, .inl (i + 1)), (4, .inl (0)), (0, .inr (.inr (some (770)))), (1, .inr (.inr (some (q)))), (2, .inl ((u.length : Int))), (3, .inl (loc))]) (st' := []) rfl ?_
              refine ez_less [(5, .inl (i + 1)), (4, .inl (0)), (0, .inr (.inr (some (770)))), (1, .inr (.inr (some (q)))), (2, .inl ((u.length : Int))), (3, .inl (loc))] rfl ⟨rfl, rfl, rfl, rfl, rfl, rfl, trivial⟩ ?_
              have hrm2 : g2.1 = h.1 ∧ g2.2.1 = h.2.1 := rmx
              exact ih (i + 1) g2 0 True (ml ++ mm) (by omega) (by omega) (by omega) hB2 (hk.trans nk2) hrm2 (by first | exact Or.inl ⟨by omega, id⟩ | exact Or.inr ⟨by omega, trivial⟩) (by rw [show (i + 1).toNat = i.toNat + 1 by omega]; exact st3) (ptl_app pm pm2) a2
            · skip
              have st3 : chR (yD Ls) (vF Ls) u loc 2 (i.toNat + 1) True (ml ++ mm) := ⟨b0, ml, mm, hc, rfl, fun w => by omega, fun w => by omega, fun _ => by rw [show ((i.toNat : Nat) : Int) = i by omega]; exact ⟨fun w => absurd w nb9, fun _ => ⟨fun _ => ⟨cm, trivial⟩, fun w => absurd wc w⟩⟩⟩
              exact k0 ⟨i.toNat + 1, True, _, by omega, st3, by rw [List.length_append]; exact lt⟩ g2 hB2 (hk.trans nk2) ⟨rm2.1.trans hrm.1, rm2.2.trans hrm.2⟩
          · skip
            refine ez_if rfl rfl ⟨by decide, by decide⟩ (fun _ => ?_) (fun (c15 : ¬((0 : Int) = (0))) => absurd c15 (by decide))
            refine ez_go (n := 3) (pc' := 76) (L' := [(5, .inl (i)), (4, .inl (bf)), (0, .inr (.inr (some (770)))), (1, .inr (.inr (some (q)))), (2, .inl ((u.length : Int))), (3, .inl (loc))]) (st' := [.inl (i), .inr (.inr (some (q))), .inr (.inr (some (770)))]) rfl ?_
            have n17 : 2000 ≤ qz_N g q ∧ qz_N g q ≤ 2000 := ez_len hBg tq tq_37 rfl
            refine ez_aI hBg tq rfl tq_37 rfl rfl (by omega) (by omega) (fun (b16 : -2147483648 ≤ qz_I g q (i).toNat) (b16' : qz_I g q (i).toNat ≤ 2147483647) => ?_)
            rw [mtg.2.2 i (by omega) (by omega)]
            refine ez_cv hBg t770 rfl rfl rfl tq_75 rfl rfl rfl (rd_make hBg t770 ag prg (by omega) (by omega) (fun lt g2 hB2 f2 i2 a2 => ez_K0 ?_) (fun ge => ez_Kp (xc_exc hBg rfl) rfl ?_))
            · have nk2 := nk.fr hBg t770 hX f2 (fun q9 hq9 => by unfold nz_PL at hq9; rcases Bool.or_eq_true_iff.mp hq9 with w | w; (· exact Or.inl (Nat.eq_of_beq_eq_true w)); (· exact Or.inr (Or.inl (Nat.eq_of_beq_eq_true w)))) i2
              have rmx : g2.1 = h.1 ∧ g2.2.1 = h.2.1 := ⟨f2.1.trans hrm.1, f2.2.1.trans hrm.2⟩
              have st3 : chR (yD Ls) (vF Ls) u loc 2 (i.toNat + 1) False (ml ++ [uX u i]) := ⟨b0, ml, [uX u i], hc, rfl, fun w => by omega, fun w => by omega, fun _ => by rw [show ((i.toNat : Nat) : Int) = i by omega]; exact ⟨fun w => absurd w nb9, fun _ => ⟨fun w => absurd w wc, fun _ => ⟨rfl, id⟩⟩⟩⟩
              have pm2 : ptl [uX u i] := ptl_one pb
              refine ez_go (n := 2) (pc' := 6) (L' := [(5, .inl (i + 1)), (4, .inl (bf)), (0, .inr (.inr (some (770)))), (1, .inr (.inr (some (q)))), (2, .inl ((u.length : Int))), (3, .inl (loc))]) (st' := []) rfl ?_
              refine ez_less [(5, .inl (i + 1)), (4, .inl (bf)), (0, .inr (.inr (some (770)))), (1, .inr (.inr (some (q)))), (2, .inl ((u.length : Int))), (3, .inl (loc))] rfl ⟨rfl, rfl, rfl, rfl, rfl, rfl, trivial⟩ ?_
              have hrm2 : g2.1 = h.1 ∧ g2.2.1 = h.2.1 := rmx
              exact ih (i + 1) g2 bf False (ml ++ [uX u i]) (by omega) (by omega) (by omega) hB2 (hk.trans nk2) hrm2 (by first | exact Or.inl ⟨by omega, id⟩ | exact Or.inr ⟨by omega, trivial⟩) (by rw [show (i + 1).toNat = i.toNat + 1 by omega]; exact st3) (ptl_app pm pm2) a2
            · skip
              have st3 : chR (yD Ls) (vF Ls) u loc 2 (i.toNat + 1) False (ml ++ [uX u i]) := ⟨b0, ml, [uX u i], hc, rfl, fun w => by omega, fun w => by omega, fun _ => by rw [show ((i.toNat : Nat) : Int) = i by omega]; exact ⟨fun w => absurd w nb9, fun _ => ⟨fun w => absurd w wc, fun _ => ⟨rfl, id⟩⟩⟩⟩
              exact k0 ⟨i.toNat + 1, False, _, by omega, st3, by rw [List.length_append]; show 2000 < ml.length + 1; omega⟩ g hBg hk hrm
        · skip
          refine ez_go (n := 6) (pc' := 39) (L' := [(5, .inl (i)), (4, .inl (bf)), (0, .inr (.inr (some (770)))), (1, .inr (.inr (some (q)))), (2, .inl ((u.length : Int))), (3, .inl (loc))]) (st' := [.inl (loc), .inl (0), .inl (i), .inl ((u.length : Int)), .inr (.inr (some (q))), .inr (.inr (some (770)))]) rfl ?_
          have hb0 : b0 := by rcases hbf with w | w; (· exfalso; omega); (· exact w.2)
          refine ez_cv hBg t770 rfl rfl rfl tq_75 rfl rfl rfl (rd_mcases hIg mtg i0 (by omega) lr ⟨by decide, by decide⟩ hd (by omega) (by omega) ag (by omega) (by omega) (fun mm cm lt g2 hB2 nk2 rm2 a2 => ez_K0 ?_) (fun mm cm lt g2 hB2 nk2 rm2 => ez_Kp (xc_exc hB2 rfl) rfl ?_))
          · have rmx : g2.1 = h.1 ∧ g2.2.1 = h.2.1 := ⟨rm2.1.trans hrm.1, rm2.2.trans hrm.2⟩
            have st3 : chR (yD Ls) (vF Ls) u loc 2 (i.toNat + 1) True (ml ++ mm) := ⟨b0, ml, mm, hc, rfl, fun w => by omega, fun w => by omega, fun _ => by rw [show ((i.toNat : Nat) : Int) = i by omega]; exact ⟨fun _ => ⟨cm, trivial⟩, fun w => absurd ⟨hb0, we⟩ w⟩⟩
            have pm2 : ptl mm := cmR_ok hd pb cm
            refine ez_go (n := 3) (pc' := 6) (L' := [(5, .inl (i + 1)), (4, .inl (bf)), (0, .inr (.inr (some (770)))), (1, .inr (.inr (some (q)))), (2, .inl ((u.length : Int))), (3, .inl (loc))]) (st' := []) rfl ?_
            refine ez_less [(5, .inl (i + 1)), (4, .inl (bf)), (0, .inr (.inr (some (770)))), (1, .inr (.inr (some (q)))), (2, .inl ((u.length : Int))), (3, .inl (loc))] rfl ⟨rfl, rfl, rfl, rfl, rfl, rfl, trivial⟩ ?_
            have hrm2 : g2.1 = h.1 ∧ g2.2.1 = h.2.1 := rmx
            exact ih (i + 1) g2 bf True (ml ++ mm) (by omega) (by omega) (by omega) hB2 (hk.trans nk2) hrm2 (by first | exact Or.inl ⟨by omega, id⟩ | exact Or.inr ⟨by omega, trivial⟩) (by rw [show (i + 1).toNat = i.toNat + 1 by omega]; exact st3) (ptl_app pm pm2) a2
          · skip
            have st3 : chR (yD Ls) (vF Ls) u loc 2 (i.toNat + 1) True (ml ++ mm) := ⟨b0, ml, mm, hc, rfl, fun w => by omega, fun w => by omega, fun _ => by rw [show ((i.toNat : Nat) : Int) = i by omega]; exact ⟨fun _ => ⟨cm, trivial⟩, fun w => absurd ⟨hb0, we⟩ w⟩⟩
            exact k0 ⟨i.toNat + 1, True, _, by omega, st3, by rw [List.length_append]; exact lt⟩ g2 hB2 (hk.trans nk2) ⟨rm2.1.trans hrm.1, rm2.2.trans hrm.2⟩

theorem rd_mtit (hI : mI τ h Ls b) (mt : mtx τ h q u) (hd : dok (yD Ls)) (lr : ez_rg loc) (hr1 : h.1 + 1 ≤ 600192) (hr2 : h.2.1 + 6 ≤ 7302232) (ag : tm h []) (k1 : ∀ res, chS (yD Ls) (vF Ls) u loc 2 res → ptl res → ∀ g, ez_B τ g → nk τ h τ g → g.1 = h.1 ∧ g.2.1 = h.2.1 → tm g res → Q (.inl none, g)) (k0 : chN (yD Ls) (vF Ls) u loc 2 → ∀ g, ez_B τ g → nk τ h τ g → g.1 = h.1 ∧ g.2.1 = h.2.1 → Q (.inr g.1, xc g 0)) : ez_W (d + 8) cm_305 0 [(0, .inr (.inr (some (770)))), (1, .inr (.inr (some (q)))), (2, .inl ((u.length : Int))), (3, .inl (loc))] [] h Q := by
  have hB := hI.1
  have t770 : τ 770 = 75 := hI.2.1 770 (by decide)
  have b12 : 0 ≤ qz_I h 770 12 ∧ qz_I h 770 12 ≤ 512 := ez_fB (cl := 11) (k := 12) hB t770 tq_75 rfl rfl (by decide)
  have lce : lc h = qz_I h 770 12 := rfl
  have nls : lc h ≤ qz_N h (ls h) := hI.2.2.1.1.1
  have tq := mt.1
  have n2 := mt.2.1.1
  refine ez_go (n := 4) (pc' := 6) (L' := [(5, .inl (0)), (4, .inl (1)), (0, .inr (.inr (some (770)))), (1, .inr (.inr (some (q)))), (2, .inl ((u.length : Int))), (3, .inl (loc))]) (st' := []) rfl ?_
  refine ez_less [(5, .inl (0)), (4, .inl (1)), (0, .inr (.inr (some (770)))), (1, .inr (.inr (some (q)))), (2, .inl ((u.length : Int))), (3, .inl (loc))] rfl ⟨rfl, rfl, rfl, rfl, rfl, rfl, trivial⟩ ?_
  exact rd_mtit_l hI mt hd lr hr1 hr2 k1 k0 _ 0 h 1 False [] rfl (by omega) (by omega) hB (nk.refl τ h) ⟨rfl, rfl⟩ (Or.inl ⟨rfl, id⟩) ⟨id, rfl⟩ (fun v hv => by cases hv) ag

end EzMw
/-! The model: change. (Written by wip/p2/py/pvy8.py.) -/
section EzMg
variable {d : Nat} {h : cz_H} {τ : Nat → Nat} {Q : cz_F → Prop} {X : Nat → List Int} {Ls : List vz} {b : Int} {u : List Int} {loc : Int}
theorem rd_mchg_l {t u9 kind : Int} (hI : mI τ h Ls b) (sl : slt h) (mt : mtx τ h (774 + (u9).toNat) u) (u0 : 0 ≤ u9) (u7 : u9 ≤ 7) (hd : dok (yD Ls)) (lr : ez_rg loc) (kd : kind = 0 ∨ kind = 1 ∨ kind = 3) (hr1 : h.1 + 2 ≤ 600192) (hr2 : h.2.1 + 12 ≤ 7302232) (kD : ∀ res g, chS (yD Ls) (vF Ls) u loc kind res → ptl res → ez_B τ g → nk τ h τ g → g.1 = h.1 ∧ g.2.1 = h.2.1 → tm g res → ez_W (d + 8) cm_232 162 [(0, .inr (.inr (some (770)))), (1, .inl (t))] [] g Q) (kE : chN (yD Ls) (vF Ls) u loc kind → ∀ g, ez_B τ g → nk τ h τ g → g.1 = h.1 ∧ g.2.1 = h.2.1 → ez_W (d + 8) cm_232 154 [(0, .inr (.inr (some (770)))), (1, .inl (t))] [.inr (.inr (some g.1))] (xc g 0) Q) : ∀ (n : Nat) (i : Int) (g : cz_H) (ml : List Int), n = ((u.length : Int) - i).toNat → 0 ≤ i → i ≤ (u.length : Int) → ez_B τ g → nk τ h τ g → g.1 = h.1 ∧ g.2.1 = h.2.1 → chR (yD Ls) (vF Ls) u loc kind i.toNat False ml → ptl ml → tm g ml → ez_W (d + 8) cm_232 98 [(6, .inl (i)), (5, .inl ((u.length : Int))), (0, .inr (.inr (some (770)))), (1, .inl (t)), (2, .inl (u9)), (3, .inl (kind)), (4, .inl (loc))] [] g Q := by
  have hX := hI.2.1
  have t770 : τ 770 = 75 := hX 770 (by decide)
  have tq := mt.1
  have n2 := mt.2.1.1
  obtain ⟨lr1, lr2⟩ := id lr
  intro n
  induction n with
  | zero =>
    intro i g ml hn0 i0 i1 hBg hk hrm hc pm ag
    have hIg := hk.mIx hI hBg
    have mtg := hk.mtxx hX mt
    have t773 : τ 773 = 78 := hX 773 (by decide)
    have c73 : ∀ j, qz_I g 773 j = qz_I h 773 j := fun j => by unfold qz_I; rw [hk.C hX (by rw [t773]; decide) (by rw [t773]; decide) (by rw [t773]; decide) (by rw [t773]; decide) (by rw [t773]; decide) (by rw [t773]; decide)]
    have nz73 : ∀ s : Nat, s < 8 → 1 ≤ qz_I g 773 s := fun s hs => by rw [c73]; have := (sl s hs).2; omega
    have pbx : i < (u.length : Int) → 0 ≤ uX u i ∧ uX u i ≤ 1114111 := fun w => uX_ptl mt.2.1.2 (show (i).toNat < u.length by omega)
    refine ez_go (n := 2) (pc' := 102) (L' := [(6, .inl (i)), (5, .inl ((u.length : Int))), (0, .inr (.inr (some (770)))), (1, .inl (t)), (2, .inl (u9)), (3, .inl (kind)), (4, .inl (loc))]) (st' := [.inl ((u.length : Int)), .inl (i)]) rfl ?_
    refine ez_icmp rfl rfl ⟨by first | omega | exact (sz_i32 _).1, by first | omega | exact (sz_i32 _).2⟩ ⟨by first | omega | exact (sz_i32 _).1, by first | omega | exact (sz_i32 _).2⟩ (fun (c1 : ((u.length : Int)) ≤ (i)) => ?_) (fun (c1 : ¬(((u.length : Int)) ≤ (i))) => ?_)
    · skip
      refine ez_go (n := 1) (pc' := 162) (L' := [(6, .inl (i)), (5, .inl ((u.length : Int))), (0, .inr (.inr (some (770)))), (1, .inl (t)), (2, .inl (u9)), (3, .inl (kind)), (4, .inl (loc))]) (st' := []) rfl ?_
      refine ez_less [(0, .inr (.inr (some (770)))), (1, .inl (t))] rfl ⟨rfl, rfl, trivial⟩ ?_
      exact kD ml g ⟨False, by rw [show u.length = i.toNat by omega]; exact hc⟩ pm hBg hk hrm ag
    · exfalso; omega
  | succ n ih =>
    intro i g ml hn0 i0 i1 hBg hk hrm hc pm ag
    have hIg := hk.mIx hI hBg
    have mtg := hk.mtxx hX mt
    have t773 : τ 773 = 78 := hX 773 (by decide)
    have c73 : ∀ j, qz_I g 773 j = qz_I h 773 j := fun j => by unfold qz_I; rw [hk.C hX (by rw [t773]; decide) (by rw [t773]; decide) (by rw [t773]; decide) (by rw [t773]; decide) (by rw [t773]; decide) (by rw [t773]; decide)]
    have nz73 : ∀ s : Nat, s < 8 → 1 ≤ qz_I g 773 s := fun s hs => by rw [c73]; have := (sl s hs).2; omega
    have pbx : i < (u.length : Int) → 0 ≤ uX u i ∧ uX u i ≤ 1114111 := fun w => uX_ptl mt.2.1.2 (show (i).toNat < u.length by omega)
    refine ez_go (n := 2) (pc' := 102) (L' := [(6, .inl (i)), (5, .inl ((u.length : Int))), (0, .inr (.inr (some (770)))), (1, .inl (t)), (2, .inl (u9)), (3, .inl (kind)), (4, .inl (loc))]) (st' := [.inl ((u.length : Int)), .inl (i)]) rfl ?_
    refine ez_icmp rfl rfl ⟨by first | omega | exact (sz_i32 _).1, by first | omega | exact (sz_i32 _).2⟩ ⟨by first | omega | exact (sz_i32 _).1, by first | omega | exact (sz_i32 _).2⟩ (fun (c1 : ((u.length : Int)) ≤ (i)) => ?_) (fun (c1 : ¬(((u.length : Int)) ≤ (i))) => ?_)
    · skip
      refine ez_go (n := 1) (pc' := 162) (L' := [(6, .inl (i)), (5, .inl ((u.length : Int))), (0, .inr (.inr (some (770)))), (1, .inl (t)), (2, .inl (u9)), (3, .inl (kind)), (4, .inl (loc))]) (st' := []) rfl ?_
      refine ez_less [(0, .inr (.inr (some (770)))), (1, .inl (t))] rfl ⟨rfl, rfl, trivial⟩ ?_
      exact kD ml g ⟨False, by rw [show u.length = i.toNat by omega]; exact hc⟩ pm hBg hk hrm ag
    · skip
      have pb := pbx (by omega)
      refine ez_go (n := 2) (pc' := 107) (L' := [(6, .inl (i)), (5, .inl ((u.length : Int))), (0, .inr (.inr (some (770)))), (1, .inl (t)), (2, .inl (u9)), (3, .inl (kind)), (4, .inl (loc))]) (st' := [.inl (3), .inl (kind)]) rfl ?_
      refine ez_icmp rfl rfl ⟨by first | omega | exact (sz_i32 _).1, by first | omega | exact (sz_i32 _).2⟩ ⟨by first | omega | exact (sz_i32 _).1, by first | omega | exact (sz_i32 _).2⟩ (fun (c2 : (kind) ≠ (3)) => ?_) (fun (c2 : ¬((kind) ≠ (3))) => ?_)
      · skip
        refine ez_go (n := 2) (pc' := 130) (L' := [(6, .inl (i)), (5, .inl ((u.length : Int))), (0, .inr (.inr (some (770)))), (1, .inl (t)), (2, .inl (u9)), (3, .inl (kind)), (4, .inl (loc))]) (st' := [.inr (.inr (some (770))), .inr (.inr (some (770)))]) rfl ?_
        refine ez_gC (p := 773) (tg := 78) hBg t770 rfl rfl tq_75 rfl rfl (fun (t773 : _ = 78) => ?_)
        refine ez_go (n := 1) (pc' := 134) (L' := [(6, .inl (i)), (5, .inl ((u.length : Int))), (0, .inr (.inr (some (770)))), (1, .inl (t)), (2, .inl (u9)), (3, .inl (kind)), (4, .inl (loc))]) (st' := [.inl (u9), .inr (.inr (some (773))), .inr (.inr (some (770)))]) rfl ?_
        have n4 : 8 ≤ qz_N g 773 ∧ qz_N g 773 ≤ 8 := ez_len hBg t773 tq_78 rfl
        have y5 : 1 ≤ qz_I g 773 (u9).toNat := (nz73 (u9).toNat (by omega))
        have y6 : 1 ≤ qz_I g 773 (u9).toNat ∧ qz_I g 773 (u9).toNat ≤ 1000000 := ez_aB hBg t773 tq_78 rfl rfl (by decide) (by omega) (by omega)
        have y6' : ((qz_P g 773 (u9).toNat : Nat) : Int) + 1 = qz_I g 773 (u9).toNat := by unfold qz_P; omega
        refine ez_aR hBg t773 rfl tq_78 rfl rfl (by omega) (by omega) (by omega) (fun (t3 : _ = 37) => ?_)
        rw [show qz_P g 773 (u9).toNat = 774 + (u9).toNat by unfold qz_P; have := (sl (u9).toNat (by omega)).2; rw [show qz_I g 773 (u9).toNat = qz_I h 773 (u9).toNat from c73 _]; omega]
        refine ez_go (n := 4) (pc' := 142) (L' := [(6, .inl (i)), (5, .inl ((u.length : Int))), (0, .inr (.inr (some (770)))), (1, .inl (t)), (2, .inl (u9)), (3, .inl (kind)), (4, .inl (loc))]) (st' := [.inl (loc), .inl (kind), .inl (i), .inl ((u.length : Int)), .inr (.inr (some (774 + (u9).toNat))), .inr (.inr (some (770)))]) rfl ?_
        refine ez_cv hBg t770 rfl rfl rfl tq_75 rfl rfl rfl (rd_mcases hIg mtg i0 (by omega) lr ⟨by omega, by omega⟩ hd (by omega) (by omega) ag (by omega) (by omega) (fun mm cm lt g2 hB2 nk2 rm2 a2 => ez_K0 ?_) (fun mm cm lt g2 hB2 nk2 rm2 => ez_Kc (xc_exc hB2 rfl) rfl ?_))
        · skip
          have st3 : chR (yD Ls) (vF Ls) u loc kind (i.toNat + 1) False (ml ++ mm) := ⟨False, ml, mm, hc, rfl, fun w => by omega, fun w => by rw [show ((i.toNat : Nat) : Int) = i by omega]; exact ⟨cm, id⟩, fun w => by omega⟩
          have pm2 : ptl mm := cmR_ok hd pb cm
          refine ez_go (n := 2) (pc' := 98) (L' := [(6, .inl (i + 1)), (5, .inl ((u.length : Int))), (0, .inr (.inr (some (770)))), (1, .inl (t)), (2, .inl (u9)), (3, .inl (kind)), (4, .inl (loc))]) (st' := []) rfl ?_
          refine ez_less [(6, .inl (i + 1)), (5, .inl ((u.length : Int))), (0, .inr (.inr (some (770)))), (1, .inl (t)), (2, .inl (u9)), (3, .inl (kind)), (4, .inl (loc))] rfl ⟨rfl, rfl, rfl, rfl, rfl, rfl, rfl, trivial⟩ ?_
          exact ih (i + 1) g2 (ml ++ mm) (by omega) (by omega) (by omega) hB2 (hk.trans nk2) ⟨rm2.1.trans hrm.1, rm2.2.trans hrm.2⟩ (by rw [show (i + 1).toNat = i.toNat + 1 by omega]; exact st3) (ptl_app pm pm2) a2
        · skip
          have st3 : chR (yD Ls) (vF Ls) u loc kind (i.toNat + 1) False (ml ++ mm) := ⟨False, ml, mm, hc, rfl, fun w => by omega, fun w => by rw [show ((i.toNat : Nat) : Int) = i by omega]; exact ⟨cm, id⟩, fun w => by omega⟩
          have cn : chN (yD Ls) (vF Ls) u loc kind := ⟨i.toNat + 1, False, _, by omega, st3, by rw [List.length_append]; exact lt⟩
          refine ez_less [(0, .inr (.inr (some (770)))), (1, .inl (t))] rfl ⟨rfl, rfl, trivial⟩ ?_
          exact kE cn g2 hB2 (hk.trans nk2) ⟨rm2.1.trans hrm.1, rm2.2.trans hrm.2⟩
      · skip
        refine ez_go (n := 2) (pc' := 112) (L' := [(6, .inl (i)), (5, .inl ((u.length : Int))), (0, .inr (.inr (some (770)))), (1, .inl (t)), (2, .inl (u9)), (3, .inl (kind)), (4, .inl (loc))]) (st' := [.inr (.inr (some (770))), .inr (.inr (some (770)))]) rfl ?_
        refine ez_gC (p := 773) (tg := 78) hBg t770 rfl rfl tq_75 rfl rfl (fun (t773 : _ = 78) => ?_)
        refine ez_go (n := 1) (pc' := 116) (L' := [(6, .inl (i)), (5, .inl ((u.length : Int))), (0, .inr (.inr (some (770)))), (1, .inl (t)), (2, .inl (u9)), (3, .inl (kind)), (4, .inl (loc))]) (st' := [.inl (u9), .inr (.inr (some (773))), .inr (.inr (some (770)))]) rfl ?_
        have n8 : 8 ≤ qz_N g 773 ∧ qz_N g 773 ≤ 8 := ez_len hBg t773 tq_78 rfl
        have y9 : 1 ≤ qz_I g 773 (u9).toNat := (nz73 (u9).toNat (by omega))
        have y10 : 1 ≤ qz_I g 773 (u9).toNat ∧ qz_I g 773 (u9).toNat ≤ 1000000 := ez_aB hBg t773 tq_78 rfl rfl (by decide) (by omega) (by omega)
        have y10' : ((qz_P g 773 (u9).toNat : Nat) : Int) + 1 = qz_I g 773 (u9).toNat := by unfold qz_P; omega
        refine ez_aR hBg t773 rfl tq_78 rfl rfl (by omega) (by omega) (by omega) (fun (t7 : _ = 37) => ?_)
        rw [show qz_P g 773 (u9).toNat = 774 + (u9).toNat by unfold qz_P; have := (sl (u9).toNat (by omega)).2; rw [show qz_I g 773 (u9).toNat = qz_I h 773 (u9).toNat from c73 _]; omega]
        refine ez_go (n := 1) (pc' := 119) (L' := [(6, .inl (i)), (5, .inl ((u.length : Int))), (0, .inr (.inr (some (770)))), (1, .inl (t)), (2, .inl (u9)), (3, .inl (kind)), (4, .inl (loc))]) (st' := [.inl (i), .inr (.inr (some (774 + (u9).toNat))), .inr (.inr (some (770)))]) rfl ?_
        have n12 : 2000 ≤ qz_N g (774 + (u9).toNat) ∧ qz_N g (774 + (u9).toNat) ≤ 2000 := ez_len hBg (mx_tag hX (show (u9).toNat < 8 by omega)).1 tq_37 rfl
        refine ez_aI hBg (mx_tag hX (show (u9).toNat < 8 by omega)).1 rfl tq_37 rfl rfl (by omega) (by omega) (fun (b11 : -2147483648 ≤ qz_I g (774 + (u9).toNat) (i).toNat) (b11' : qz_I g (774 + (u9).toNat) (i).toNat ≤ 2147483647) => ?_)
        rw [mtg.2.2 i (by omega) (by omega)]
        refine ez_go (n := 1) (pc' := 122) (L' := [(6, .inl (i)), (5, .inl ((u.length : Int))), (0, .inr (.inr (some (770)))), (1, .inl (t)), (2, .inl (u9)), (3, .inl (kind)), (4, .inl (loc))]) (st' := [.inl (loc), .inl (uX u i), .inr (.inr (some (770)))]) rfl ?_
        refine ez_cv hBg t770 rfl rfl rfl tq_75 rfl rfl rfl (rd_mfold hIg hd lr pb ag (by omega) (by omega) (fun lt g2 hB2 nk2 rm2 a2 => ez_K0 ?_) (fun lt g2 hB2 nk2 rm2 => ez_Kc (xc_exc hB2 rfl) rfl ?_))
        · skip
          have st3 : chR (yD Ls) (vF Ls) u loc kind (i.toNat + 1) False (ml ++ (fdl loc (yD Ls (uX u i)) (uX u i))) := ⟨False, ml, (fdl loc (yD Ls (uX u i)) (uX u i)), hc, rfl, fun w => ⟨by rw [show ((i.toNat : Nat) : Int) = i by omega], id⟩, fun w => by omega, fun w => by omega⟩
          have pm2 : ptl (fdl loc (yD Ls (uX u i)) (uX u i)) := fdl_ok hd pb
          refine ez_go (n := 3) (pc' := 98) (L' := [(6, .inl (i + 1)), (5, .inl ((u.length : Int))), (0, .inr (.inr (some (770)))), (1, .inl (t)), (2, .inl (u9)), (3, .inl (kind)), (4, .inl (loc))]) (st' := []) rfl ?_
          refine ez_less [(6, .inl (i + 1)), (5, .inl ((u.length : Int))), (0, .inr (.inr (some (770)))), (1, .inl (t)), (2, .inl (u9)), (3, .inl (kind)), (4, .inl (loc))] rfl ⟨rfl, rfl, rfl, rfl, rfl, rfl, rfl, trivial⟩ ?_
          exact ih (i + 1) g2 (ml ++ (fdl loc (yD Ls (uX u i)) (uX u i))) (by omega) (by omega) (by omega) hB2 (hk.trans nk2) ⟨rm2.1.trans hrm.1, rm2.2.trans hrm.2⟩ (by rw [show (i + 1).toNat = i.toNat + 1 by omega]; exact st3) (ptl_app pm pm2) a2
        · skip
          have st3 : chR (yD Ls) (vF Ls) u loc kind (i.toNat + 1) False (ml ++ (fdl loc (yD Ls (uX u i)) (uX u i))) := ⟨False, ml, (fdl loc (yD Ls (uX u i)) (uX u i)), hc, rfl, fun w => ⟨by rw [show ((i.toNat : Nat) : Int) = i by omega], id⟩, fun w => by omega, fun w => by omega⟩
          have cn : chN (yD Ls) (vF Ls) u loc kind := ⟨i.toNat + 1, False, _, by omega, st3, by rw [List.length_append]; exact lt⟩
          refine ez_less [(0, .inr (.inr (some (770)))), (1, .inl (t))] rfl ⟨rfl, rfl, trivial⟩ ?_
          exact kE cn g2 hB2 (hk.trans nk2) ⟨rm2.1.trans hrm.1, rm2.2.trans hrm.2⟩

theorem rd_mchange {t u9 kind : Int} (hI9 : mI τ h Ls 0) (sl : slt h) (mxh : mxs h X) (hd : dok (yD Ls)) (tr : ez_rg t) (u9r : ez_rg u9) (kindr : ez_rg kind) (locr : ez_rg loc) (hr1 : h.1 + 1000 ≤ 600192) (hr2 : h.2.1 + 150000 ≤ 7302232) (kA : (t < 0 ∨ 7 < t ∨ u9 < 0 ∨ 7 < u9 ∨ kind < 0 ∨ 3 < kind ∨ loc < 0 ∨ 3 < loc) → ∀ g, ez_B τ g → mF h g 1 → Q (.inl (some (ez_v (.inl 0))), g)) (kS : ((0 ≤ t ∧ t ≤ 7) ∧ (0 ≤ u9 ∧ u9 ≤ 7) ∧ (0 ≤ kind ∧ kind ≤ 3) ∧ 0 ≤ loc ∧ loc ≤ 3) → qz_I h 770 7 = 0 → ∀ g, ez_B τ g → mF h g 2 → Q (.inl (some (ez_v (.inl 0))), g)) (kX : ((0 ≤ t ∧ t ≤ 7) ∧ (0 ≤ u9 ∧ u9 ≤ 7) ∧ (0 ≤ kind ∧ kind ≤ 3) ∧ 0 ≤ loc ∧ loc ≤ 3) → qz_I h 770 7 ≠ 0 → chN (yD Ls) (vF Ls) (X (u9).toNat) loc kind → ∀ h1, ez_B τ h1 → mF h h1 0 → ∀ g2, ez_B τ g2 → nk τ h1 τ g2 → ∀ g, ez_B τ g → mF (xc g2 0) g 3 → Q (.inl (some (ez_v (.inl 0))), g)) (k1 : ((0 ≤ t ∧ t ≤ 7) ∧ (0 ≤ u9 ∧ u9 ≤ 7) ∧ (0 ≤ kind ∧ kind ≤ 3) ∧ 0 ≤ loc ∧ loc ≤ 3) → qz_I h 770 7 ≠ 0 → ∀ res, chS (yD Ls) (vF Ls) (X (u9).toNat) loc kind res → ptl res → res.length ≤ 2000 → ∀ h1, ez_B τ h1 → mF h h1 0 → ∀ g2, ez_B τ g2 → nk τ h1 τ g2 → tm g2 res → ∀ g, ez_B τ g → mxf t.toNat g2 g → mx g t.toNat res → Q (.inl (some (ez_v (.inl (res.length : Int)))), g)) : ez_W (d + 9) cm_232 0 [(0, .inr (.inr (some (770)))), (1, .inl (t)), (2, .inl (u9)), (3, .inl (kind)), (4, .inl (loc))] [] h Q := by
  have hB := hI9.1
  have hX := hI9.2.1
  have t770 : τ 770 = 75 := hX 770 (by decide)
  obtain ⟨tr1, tr2⟩ := id tr
  obtain ⟨u9r1, u9r2⟩ := id u9r
  obtain ⟨kindr1, kindr2⟩ := id kindr
  obtain ⟨locr1, locr2⟩ := id locr
  refine ez_go (n := 2) (pc' := 2) (L' := [(0, .inr (.inr (some (770)))), (1, .inl (t)), (2, .inl (u9)), (3, .inl (kind)), (4, .inl (loc))]) (st' := [.inl (0), .inr (.inr (some (770)))]) rfl ?_
  refine ez_pf hB t770 rfl rfl tq_75 rfl rfl rfl rfl (ez_vdI rfl rfl (by omega) (by omega)) (fun hB1 w2 => ?_)
  have fP : ez_fr (ez_one 770) h (dz_put h 770 0 (ez_v (.inl (0)))) := (ez_fr.refl (ez_one 770) h).put rfl _ _
  have vP : qz_I (dz_put h 770 0 (ez_v (.inl (0)))) 770 0 = 0 := w2.trans (rz_rd ⟨by omega, by omega⟩)
  have iP : ∀ j, j ≠ 0 → qz_I (dz_put h 770 0 (ez_v (.inl (0)))) 770 j = qz_I h 770 j := fun j hj => ez_put_I (fun w => hj w.2)
  have hP := hB1
  generalize (dz_put h 770 0 (ez_v (.inl (0)))) = h1 at *
  have cP1 := fP.1; have cP2 := fP.2.1
  refine ez_go (n := 2) (pc' := 7) (L' := [(0, .inr (.inr (some (770)))), (1, .inl (t)), (2, .inl (u9)), (3, .inl (kind)), (4, .inl (loc))]) (st' := [.inl (t), .inr (.inr (some (770)))]) rfl ?_
  refine ez_cv hP t770 rfl rfl rfl tq_75 rfl rfl rfl (rd_mout (show ez_rg (t) by assumption) (fun o1 => ez_K1 ?_) (fun o1 => ez_K1 ?_))
  · skip
    refine ez_if rfl rfl ⟨by decide, by decide⟩ (fun _ => ?_) (fun (c3 : ¬((1 : Int) ≠ (0))) => absurd c3 (by decide))
    refine ez_go (n := 2) (pc' := 43) (L' := [(0, .inr (.inr (some (770)))), (1, .inl (t)), (2, .inl (u9)), (3, .inl (kind)), (4, .inl (loc))]) (st' := [.inl (1), .inr (.inr (some (770)))]) rfl ?_
    refine ez_cv hP t770 rfl rfl rfl tq_75 rfl rfl rfl (rd_mfail hP t770 (by omega) (by omega) (fun gf hBf ff jf vf0 => ez_K1 ?_))
    exact ez_retI rfl rfl (kA (by omega) gf hBf (mF.trans ⟨fP, iP, vP⟩ ⟨ff, jf, vf0⟩))
  · skip
    refine ez_if rfl rfl ⟨by decide, by decide⟩ (fun (c4 : (0 : Int) ≠ (0)) => absurd c4 (by decide)) (fun _ => ?_)
    refine ez_go (n := 2) (pc' := 15) (L' := [(0, .inr (.inr (some (770)))), (1, .inl (t)), (2, .inl (u9)), (3, .inl (kind)), (4, .inl (loc))]) (st' := [.inl (u9), .inr (.inr (some (770)))]) rfl ?_
    refine ez_cv hP t770 rfl rfl rfl tq_75 rfl rfl rfl (rd_mout (show ez_rg (u9) by assumption) (fun o2 => ez_K1 ?_) (fun o2 => ez_K1 ?_))
    · skip
      refine ez_if rfl rfl ⟨by decide, by decide⟩ (fun _ => ?_) (fun (c5 : ¬((1 : Int) ≠ (0))) => absurd c5 (by decide))
      refine ez_go (n := 2) (pc' := 43) (L' := [(0, .inr (.inr (some (770)))), (1, .inl (t)), (2, .inl (u9)), (3, .inl (kind)), (4, .inl (loc))]) (st' := [.inl (1), .inr (.inr (some (770)))]) rfl ?_
      refine ez_cv hP t770 rfl rfl rfl tq_75 rfl rfl rfl (rd_mfail hP t770 (by omega) (by omega) (fun gf hBf ff jf vf0 => ez_K1 ?_))
      exact ez_retI rfl rfl (kA (by omega) gf hBf (mF.trans ⟨fP, iP, vP⟩ ⟨ff, jf, vf0⟩))
    · skip
      refine ez_if rfl rfl ⟨by decide, by decide⟩ (fun (c6 : (0 : Int) ≠ (0)) => absurd c6 (by decide)) (fun _ => ?_)
      refine ez_go (n := 1) (pc' := 22) (L' := [(0, .inr (.inr (some (770)))), (1, .inl (t)), (2, .inl (u9)), (3, .inl (kind)), (4, .inl (loc))]) (st' := [.inl (kind)]) rfl ?_
      refine ez_if rfl rfl ⟨by first | omega | exact (sz_i32 _).1, by first | omega | exact (sz_i32 _).2⟩ (fun (c7 : (kind) < (0)) => ?_) (fun (c7 : ¬((kind) < (0))) => ?_)
      · skip
        refine ez_go (n := 2) (pc' := 43) (L' := [(0, .inr (.inr (some (770)))), (1, .inl (t)), (2, .inl (u9)), (3, .inl (kind)), (4, .inl (loc))]) (st' := [.inl (1), .inr (.inr (some (770)))]) rfl ?_
        refine ez_cv hP t770 rfl rfl rfl tq_75 rfl rfl rfl (rd_mfail hP t770 (by omega) (by omega) (fun gf hBf ff jf vf0 => ez_K1 ?_))
        exact ez_retI rfl rfl (kA (by omega) gf hBf (mF.trans ⟨fP, iP, vP⟩ ⟨ff, jf, vf0⟩))
      · skip
        refine ez_go (n := 2) (pc' := 27) (L' := [(0, .inr (.inr (some (770)))), (1, .inl (t)), (2, .inl (u9)), (3, .inl (kind)), (4, .inl (loc))]) (st' := [.inl (3), .inl (kind)]) rfl ?_
        refine ez_icmp rfl rfl ⟨by first | omega | exact (sz_i32 _).1, by first | omega | exact (sz_i32 _).2⟩ ⟨by first | omega | exact (sz_i32 _).1, by first | omega | exact (sz_i32 _).2⟩ (fun (c8 : (3) < (kind)) => ?_) (fun (c8 : ¬((3) < (kind))) => ?_)
        · skip
          refine ez_go (n := 2) (pc' := 43) (L' := [(0, .inr (.inr (some (770)))), (1, .inl (t)), (2, .inl (u9)), (3, .inl (kind)), (4, .inl (loc))]) (st' := [.inl (1), .inr (.inr (some (770)))]) rfl ?_
          refine ez_cv hP t770 rfl rfl rfl tq_75 rfl rfl rfl (rd_mfail hP t770 (by omega) (by omega) (fun gf hBf ff jf vf0 => ez_K1 ?_))
          exact ez_retI rfl rfl (kA (by omega) gf hBf (mF.trans ⟨fP, iP, vP⟩ ⟨ff, jf, vf0⟩))
        · skip
          refine ez_go (n := 1) (pc' := 32) (L' := [(0, .inr (.inr (some (770)))), (1, .inl (t)), (2, .inl (u9)), (3, .inl (kind)), (4, .inl (loc))]) (st' := [.inl (loc)]) rfl ?_
          refine ez_if rfl rfl ⟨by first | omega | exact (sz_i32 _).1, by first | omega | exact (sz_i32 _).2⟩ (fun (c9 : (loc) < (0)) => ?_) (fun (c9 : ¬((loc) < (0))) => ?_)
          · skip
            refine ez_go (n := 2) (pc' := 43) (L' := [(0, .inr (.inr (some (770)))), (1, .inl (t)), (2, .inl (u9)), (3, .inl (kind)), (4, .inl (loc))]) (st' := [.inl (1), .inr (.inr (some (770)))]) rfl ?_
            refine ez_cv hP t770 rfl rfl rfl tq_75 rfl rfl rfl (rd_mfail hP t770 (by omega) (by omega) (fun gf hBf ff jf vf0 => ez_K1 ?_))
            exact ez_retI rfl rfl (kA (by omega) gf hBf (mF.trans ⟨fP, iP, vP⟩ ⟨ff, jf, vf0⟩))
          · skip
            refine ez_go (n := 2) (pc' := 38) (L' := [(0, .inr (.inr (some (770)))), (1, .inl (t)), (2, .inl (u9)), (3, .inl (kind)), (4, .inl (loc))]) (st' := [.inl (3), .inl (loc)]) rfl ?_
            refine ez_icmp rfl rfl ⟨by first | omega | exact (sz_i32 _).1, by first | omega | exact (sz_i32 _).2⟩ ⟨by first | omega | exact (sz_i32 _).1, by first | omega | exact (sz_i32 _).2⟩ (fun (c10 : (loc) ≤ (3)) => ?_) (fun (c10 : ¬((loc) ≤ (3))) => ?_)
            · skip
              refine ez_go (n := 1) (pc' := 48) (L' := [(0, .inr (.inr (some (770)))), (1, .inl (t)), (2, .inl (u9)), (3, .inl (kind)), (4, .inl (loc))]) (st' := [.inr (.inr (some (770)))]) rfl ?_
              refine ez_gI hP t770 rfl rfl tq_75 rfl rfl (fun (b11 : 0 ≤ qz_I h1 770 7) (b11' : qz_I h1 770 7 ≤ 1) => ?_)
              refine ez_if rfl rfl ⟨by first | omega | exact (sz_i32 _).1, by first | omega | exact (sz_i32 _).2⟩ (fun (c12 : (qz_I h1 770 7) ≠ (0)) => ?_) (fun (c12 : ¬((qz_I h1 770 7) ≠ (0))) => ?_)
              · skip
                have hI1 : mI τ h1 Ls 0 := hI9.gen hP (fun _ _ => rfl) (fun q q0 => by rw [q0]; decide) (fun q hq => fP.2.2 q (dz_beq_ne (fun e => by rw [e, t770] at hq; omega))) (fun j j1 j2 => iP j (by omega))
                have k1P : ∀ q, q ≠ 770 → h1.2.2 q = h.2.2 q := fun q hq => fP.2.2 q (dz_beq_ne hq)
                have c73 : ∀ j, qz_I h1 773 j = qz_I h 773 j := fun j => by unfold qz_I; rw [k1P 773 (by decide)]
                have mx1 : mxs h1 X := mxh.k (fun q hq => k1P q (by omega))
                have mu := mx1 (u9).toNat (by omega)
                have rm0 := fP.1; have rm1 := fP.2.1
                refine ez_go (n := 1) (pc' := 61) (L' := [(0, .inr (.inr (some (770)))), (1, .inl (t)), (2, .inl (u9)), (3, .inl (kind)), (4, .inl (loc))]) (st' := [.inr (.inr (some (770)))]) rfl ?_
                refine ez_gC (p := 782) (tg := 79) hP t770 rfl rfl tq_75 rfl rfl (fun (t782 : _ = 79) => ?_)
                refine ez_go (n := 1) (pc' := 65) (L' := [(0, .inr (.inr (some (770)))), (1, .inl (t)), (2, .inl (u9)), (3, .inl (kind)), (4, .inl (loc))]) (st' := [.inl (u9), .inr (.inr (some (782)))]) rfl ?_
                have n14 : 8 ≤ qz_N h1 782 ∧ qz_N h1 782 ≤ 8 := ez_len hP t782 tq_79 rfl
                refine ez_aI hP t782 rfl tq_79 rfl rfl (by omega) (by omega) (fun (b13 : 0 ≤ qz_I h1 782 (u9).toNat) (b13' : qz_I h1 782 (u9).toNat ≤ 2000) => ?_)
                rw [show qz_I h1 782 (u9).toNat = ((X (u9).toNat).length : Int) from mu.1.1]
                refine ez_go (n := 3) (pc' := 70) (L' := [(5, .inl (((X (u9).toNat).length : Int))), (0, .inr (.inr (some (770)))), (1, .inl (t)), (2, .inl (u9)), (3, .inl (kind)), (4, .inl (loc))]) (st' := [.inl (0), .inr (.inr (some (770)))]) rfl ?_
                refine ez_pf hP t770 rfl rfl tq_75 rfl rfl rfl rfl (ez_vdI rfl rfl (by omega) (by omega)) (fun hB15 w16 => ?_)
                have z30 : qz_I (dz_put h1 770 30 (ez_v (.inl (0)))) 770 30 = 0 := w16.trans rfl
                have i30 : ∀ j, j ≠ 30 → qz_I (dz_put h1 770 30 (ez_v (.inl (0)))) 770 j = qz_I h1 770 j := fun j hj => ez_put_I (fun w => hj w.2)
                have f30 : ez_fr (ez_one 770) h1 (dz_put h1 770 30 (ez_v (.inl (0)))) := (ez_fr.refl (ez_one 770) h1).put rfl _ _
                have hB2 := hB15
                generalize (dz_put h1 770 30 (ez_v (.inl (0)))) = h2 at *
                have nkA := nk.fr hP t770 hX f30 (fun q9 hq9 => Or.inl (Nat.eq_of_beq_eq_true hq9)) i30
                have hI2 := nkA.mIx hI1 hB2
                have k2P : ∀ q, q ≠ 770 → h2.2.2 q = h1.2.2 q := fun q hq => f30.2.2 q (dz_beq_ne hq)
                have c73b : ∀ j, qz_I h2 773 j = qz_I h 773 j := fun j => by unfold qz_I; rw [k2P 773 (by decide), k1P 773 (by decide)]
                have nz73 : ∀ s : Nat, s < 8 → 1 ≤ qz_I h2 773 s := fun s hs => by rw [c73b]; have := (sl s hs).2; omega
                have sl2 : slt h2 := sl.k ((k2P 195 (by decide)).trans (k1P 195 (by decide))) ((k2P 773 (by decide)).trans (k1P 773 (by decide)))
                have mt2 : mtx τ h2 (774 + (u9).toNat) (X (u9).toNat) := ⟨(mx_tag hX (show (u9).toNat < 8 by omega)).1, ⟨by have := mu.2.2; omega, mu.2.1⟩, fun k k0 k1 => by rw [show qz_I h2 (774 + (u9).toNat) k.toNat = qz_I h1 (774 + (u9).toNat) k.toNat by unfold qz_I; rw [k2P _ (by omega)]]; exact mu.1.2 _ _ (uX_e (by omega))⟩
                have rm3 := f30.1; have rm4 := f30.2.1
                have tm2 : tm h2 [] := ⟨z30, fun j v hv => by cases hv⟩
                refine ez_go (n := 2) (pc' := 75) (L' := [(5, .inl (((X (u9).toNat).length : Int))), (0, .inr (.inr (some (770)))), (1, .inl (t)), (2, .inl (u9)), (3, .inl (kind)), (4, .inl (loc))]) (st' := [.inl (2), .inl (kind)]) rfl ?_
                refine ez_icmp rfl rfl ⟨by first | omega | exact (sz_i32 _).1, by first | omega | exact (sz_i32 _).2⟩ ⟨by first | omega | exact (sz_i32 _).1, by first | omega | exact (sz_i32 _).2⟩ (fun (c17 : (kind) ≠ (2)) => ?_) (fun (c17 : ¬((kind) ≠ (2))) => ?_)
                · skip
                  refine ez_go (n := 2) (pc' := 98) (L' := [(6, .inl (0)), (5, .inl (((X (u9).toNat).length : Int))), (0, .inr (.inr (some (770)))), (1, .inl (t)), (2, .inl (u9)), (3, .inl (kind)), (4, .inl (loc))]) (st' := []) rfl ?_
                  have kd : kind = 0 ∨ kind = 1 ∨ kind = 3 := by omega
                  refine ez_less [(6, .inl (0)), (5, .inl (((X (u9).toNat).length : Int))), (0, .inr (.inr (some (770)))), (1, .inl (t)), (2, .inl (u9)), (3, .inl (kind)), (4, .inl (loc))] rfl ⟨rfl, rfl, rfl, rfl, rfl, rfl, rfl, trivial⟩ ?_
                  refine rd_mchg_l hI2 sl2 mt2 (by omega) (by omega) hd locr kd (by omega) (by omega) (fun res g3 cs pr hB3 nk3 rm5 tm3 => ?_) (fun cn g3 hB3 nk3 rm5 => ?_) _ 0 h2 [] rfl (by omega) (by omega) hB2 (nk.refl τ h2) ⟨rfl, rfl⟩ ⟨id, rfl⟩ (fun v hv => by cases hv) tm2
                  · skip
                    refine ez_go (n := 2) (pc' := 164) (L' := [(0, .inr (.inr (some (770)))), (1, .inl (t))]) (st' := [.inl (t), .inr (.inr (some (770)))]) rfl ?_
                    have rl : res.length ≤ 2000 := by have := tm3.1; have : 0 ≤ qz_I g3 770 30 ∧ qz_I g3 770 30 ≤ 2000 := ez_fB (cl := 11) (k := 30) hB3 t770 tq_75 rfl rfl (by decide); omega
                    have t773 : τ 773 = 78 := hX 773 (by decide)
                    have t195 : τ 195 = 47 := hX 195 (by decide)
                    have sl3 : slt g3 := sl2.k (nk3.C hX (by rw [t195]; decide) (by rw [t195]; decide) (by rw [t195]; decide) (by rw [t195]; decide) (by rw [t195]; decide) (by rw [t195]; decide)) (nk3.C hX (by rw [t773]; decide) (by rw [t773]; decide) (by rw [t773]; decide) (by rw [t773]; decide) (by rw [t773]; decide) (by rw [t773]; decide))
                    refine ez_cv hB3 t770 rfl rfl rfl tq_75 rfl rfl rfl (rd_mtk hB3 hX sl3 tm3 (ptl_rg pr) rl (by omega) (by omega) (fun g4 hB4 f4 mx4 => ez_K1 ?_))
                    exact ez_retI rfl rfl (k1 (by omega) (by rw [← iP 7 (by decide)]; assumption) res cs pr rl h1 hP ⟨fP, iP, vP⟩ g3 hB3 (nkA.trans nk3) tm3 g4 hB4 f4 mx4)
                  · skip
                    have hBx : ez_B τ (xc g3 0) := xc_B hB3 (by omega) (by omega)
                    refine ez_go (n := 3) (pc' := 158) (L' := [(6, .inr (.inr (some (g3.1)))), (0, .inr (.inr (some (770)))), (1, .inl (t))]) (st' := [.inl (3), .inr (.inr (some (770)))]) rfl ?_
                    refine ez_cv hBx t770 rfl rfl rfl tq_75 rfl rfl rfl (rd_mfail hBx t770 (by omega) (by omega) (fun gf hBf ff jf vf0 => ez_K1 ?_))
                    exact ez_retI rfl rfl (kX (by omega) (by rw [← iP 7 (by decide)]; assumption) cn h1 hP ⟨fP, iP, vP⟩ g3 hB3 (nkA.trans nk3) gf hBf ⟨ff, jf, vf0⟩)
                · skip
                  refine ez_go (n := 2) (pc' := 80) (L' := [(5, .inl (((X (u9).toNat).length : Int))), (0, .inr (.inr (some (770)))), (1, .inl (t)), (2, .inl (u9)), (3, .inl (kind)), (4, .inl (loc))]) (st' := [.inr (.inr (some (770))), .inr (.inr (some (770)))]) rfl ?_
                  refine ez_gC (p := 773) (tg := 78) hB2 t770 rfl rfl tq_75 rfl rfl (fun (t773 : _ = 78) => ?_)
                  refine ez_go (n := 1) (pc' := 84) (L' := [(5, .inl (((X (u9).toNat).length : Int))), (0, .inr (.inr (some (770)))), (1, .inl (t)), (2, .inl (u9)), (3, .inl (kind)), (4, .inl (loc))]) (st' := [.inl (u9), .inr (.inr (some (773))), .inr (.inr (some (770)))]) rfl ?_
                  have n19 : 8 ≤ qz_N h2 773 ∧ qz_N h2 773 ≤ 8 := ez_len hB2 t773 tq_78 rfl
                  have y20 : 1 ≤ qz_I h2 773 (u9).toNat := (nz73 (u9).toNat (by omega))
                  have y21 : 1 ≤ qz_I h2 773 (u9).toNat ∧ qz_I h2 773 (u9).toNat ≤ 1000000 := ez_aB hB2 t773 tq_78 rfl rfl (by decide) (by omega) (by omega)
                  have y21' : ((qz_P h2 773 (u9).toNat : Nat) : Int) + 1 = qz_I h2 773 (u9).toNat := by unfold qz_P; omega
                  refine ez_aR hB2 t773 rfl tq_78 rfl rfl (by omega) (by omega) (by omega) (fun (t18 : _ = 37) => ?_)
                  rw [show qz_P h2 773 (u9).toNat = 774 + (u9).toNat by unfold qz_P; have := (sl (u9).toNat (by omega)).2; rw [show qz_I h2 773 (u9).toNat = qz_I h 773 (u9).toNat from c73b _]; omega]
                  refine ez_go (n := 2) (pc' := 89) (L' := [(5, .inl (((X (u9).toNat).length : Int))), (0, .inr (.inr (some (770)))), (1, .inl (t)), (2, .inl (u9)), (3, .inl (kind)), (4, .inl (loc))]) (st' := [.inl (loc), .inl (((X (u9).toNat).length : Int)), .inr (.inr (some (774 + (u9).toNat))), .inr (.inr (some (770)))]) rfl ?_
                  have ek : kind = 2 := by omega
                  subst ek
                  refine ez_cv hB2 t770 rfl rfl rfl tq_75 rfl rfl rfl (rd_mtit hI2 mt2 hd locr (by omega) (by omega) tm2 (fun res cs pr g3 hB3 nk3 rm5 tm3 => ez_K0 ?_) (fun cn g3 hB3 nk3 rm5 => ez_Kc (xc_exc hB3 rfl) rfl ?_))
                  · skip
                    refine ez_go (n := 4) (pc' := 164) (L' := [(5, .inl (((X (u9).toNat).length : Int))), (0, .inr (.inr (some (770)))), (1, .inl (t)), (2, .inl (u9)), (3, .inl (2)), (4, .inl (loc))]) (st' := [.inl (t), .inr (.inr (some (770)))]) rfl ?_
                    have rl : res.length ≤ 2000 := by have := tm3.1; have : 0 ≤ qz_I g3 770 30 ∧ qz_I g3 770 30 ≤ 2000 := ez_fB (cl := 11) (k := 30) hB3 t770 tq_75 rfl rfl (by decide); omega
                    have t773 : τ 773 = 78 := hX 773 (by decide)
                    have t195 : τ 195 = 47 := hX 195 (by decide)
                    have sl3 : slt g3 := sl2.k (nk3.C hX (by rw [t195]; decide) (by rw [t195]; decide) (by rw [t195]; decide) (by rw [t195]; decide) (by rw [t195]; decide) (by rw [t195]; decide)) (nk3.C hX (by rw [t773]; decide) (by rw [t773]; decide) (by rw [t773]; decide) (by rw [t773]; decide) (by rw [t773]; decide) (by rw [t773]; decide))
                    refine ez_cv hB3 t770 rfl rfl rfl tq_75 rfl rfl rfl (rd_mtk hB3 hX sl3 tm3 (ptl_rg pr) rl (by omega) (by omega) (fun g4 hB4 f4 mx4 => ez_K1 ?_))
                    exact ez_retI rfl rfl (k1 (by omega) (by rw [← iP 7 (by decide)]; assumption) res cs pr rl h1 hP ⟨fP, iP, vP⟩ g3 hB3 (nkA.trans nk3) tm3 g4 hB4 f4 mx4)
                  · skip
                    refine ez_less [(0, .inr (.inr (some (770)))), (1, .inl (t))] rfl ⟨rfl, rfl, trivial⟩ ?_
                    have hBx : ez_B τ (xc g3 0) := xc_B hB3 (by omega) (by omega)
                    refine ez_go (n := 3) (pc' := 158) (L' := [(6, .inr (.inr (some (g3.1)))), (0, .inr (.inr (some (770)))), (1, .inl (t))]) (st' := [.inl (3), .inr (.inr (some (770)))]) rfl ?_
                    refine ez_cv hBx t770 rfl rfl rfl tq_75 rfl rfl rfl (rd_mfail hBx t770 (by omega) (by omega) (fun gf hBf ff jf vf0 => ez_K1 ?_))
                    exact ez_retI rfl rfl (kX (by omega) (by rw [← iP 7 (by decide)]; assumption) cn h1 hP ⟨fP, iP, vP⟩ g3 hB3 (nkA.trans nk3) gf hBf ⟨ff, jf, vf0⟩)
              · skip
                refine ez_go (n := 2) (pc' := 56) (L' := [(0, .inr (.inr (some (770)))), (1, .inl (t)), (2, .inl (u9)), (3, .inl (kind)), (4, .inl (loc))]) (st' := [.inl (2), .inr (.inr (some (770)))]) rfl ?_
                refine ez_cv hP t770 rfl rfl rfl tq_75 rfl rfl rfl (rd_mfail hP t770 (by omega) (by omega) (fun gf hBf ff jf vf0 => ez_K1 ?_))
                exact ez_retI rfl rfl (kS (by omega) (by rw [← iP 7 (by decide)]; omega) gf hBf (mF.trans ⟨fP, iP, vP⟩ ⟨ff, jf, vf0⟩))
            · skip
              refine ez_go (n := 2) (pc' := 43) (L' := [(0, .inr (.inr (some (770)))), (1, .inl (t)), (2, .inl (u9)), (3, .inl (kind)), (4, .inl (loc))]) (st' := [.inl (1), .inr (.inr (some (770)))]) rfl ?_
              refine ez_cv hP t770 rfl rfl rfl tq_75 rfl rfl rfl (rd_mfail hP t770 (by omega) (by omega) (fun gf hBf ff jf vf0 => ez_K1 ?_))
              exact ez_retI rfl rfl (kA (by omega) gf hBf (mF.trans ⟨fP, iP, vP⟩ ⟨ff, jf, vf0⟩))

end EzMg
