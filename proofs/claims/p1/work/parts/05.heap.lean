/-! Symbolic runs, part 4: cells. What was made since the law's start lies in a tree, at the places 64, 65 .. ; place r is the address b + (r - 64). -/
noncomputable def px_at {α : Type} (d : α) (j : Nat) (l : List (Nat × α)) : α := List.rec d (fun q _ ih => bif Nat.beq q.1 j then q.2 else ih) l
/-- a list's place, a list with a place changed, as the kernel runs them -/
noncomputable def px_nth {α : Type} (l : List α) : Nat → Option α := List.rec (fun _ => none) (fun a _ ih n => Nat.rec (some a) (fun m _ => ih m) n) l
noncomputable def px_lset {α : Type} (v : α) (l : List α) : Nat → List α := List.rec (fun _ => []) (fun a r ih n => Nat.rec (v :: r) (fun m _ => a :: ih m) n) l
theorem px_nth_eq {α : Type} (l : List α) (n : Nat) : px_nth l n = l[n]? := by
  induction l generalizing n with
  | nil => rfl
  | cons a r ih =>
    cases n with
    | zero => rfl
    | succ m => exact (ih m).trans (List.getElem?_cons_succ).symm
theorem px_lset_eq {α : Type} (v : α) (l : List α) (n : Nat) : px_lset v l n = l.set n v := by
  induction l generalizing n with
  | nil => rfl
  | cons a r ih =>
    cases n with
    | zero => rfl
    | succ m =>
      show a :: px_lset v r m = a :: r.set m v
      rw [ih m]
/-- a number, worked out before one goes on -/
noncomputable def px_force {α : Type} (n : Nat) (k : Nat → α) : α := Nat.rec (k 0) (fun m _ => k m) (Nat.add n 1)
theorem px_force_eq {α : Type} (n : Nat) (k : Nat → α) : px_force n k = k n := rfl
theorem px_at_cons {α : Type} (d : α) (j k : Nat) (v : α) (l : List (Nat × α)) : px_at d j ((k, v) :: l) = if j = k then v else px_at d j l := by
  show (bif Nat.beq k j then v else px_at d j l) = _
  by_cases h : k = j
  · rw [if_pos h.symm, show Nat.beq k j = true from Nat.beq_eq.mpr h]; rfl
  · rw [if_neg (fun q => h q.symm), show Nat.beq k j = false from Bool.eq_false_iff.mpr (fun q => h (Nat.beq_eq.mp q))]; rfl
/-- an array: the number of its type, length, what lies at first everywhere, what was laid since; an object: the number of its class, fields; an exception: its kind -/
abbrev px_C : Type := (Nat × Nat × px_V × List (Nat × px_V)) ⊕ ((Nat × List px_V) ⊕ Nat)
def px_T : Nat → Type
  | 0 => px_C
  | d + 1 => px_T d × px_T d
noncomputable def px_tg (d : Nat) : px_T d → Nat → px_C := Nat.rec (motive := fun d => px_T d → Nat → px_C) (fun t _ => t) (fun d ih t i => bif Nat.beq (Nat.mod i 2) 0 then ih (Prod.fst (α := px_T d) (β := px_T d) t) (Nat.div i 2) else ih (Prod.snd (α := px_T d) (β := px_T d) t) (Nat.div i 2)) d
noncomputable def px_ts (d : Nat) : px_T d → Nat → px_C → px_T d := Nat.rec (motive := fun d => px_T d → Nat → px_C → px_T d) (fun _ _ c => c) (fun d ih t i c => bif Nat.beq (Nat.mod i 2) 0 then Prod.mk (α := px_T d) (β := px_T d) (ih (Prod.fst (α := px_T d) (β := px_T d) t) (Nat.div i 2) c) (Prod.snd (α := px_T d) (β := px_T d) t) else Prod.mk (α := px_T d) (β := px_T d) (Prod.fst (α := px_T d) (β := px_T d) t) (ih (Prod.snd (α := px_T d) (β := px_T d) t) (Nat.div i 2) c)) d
noncomputable def px_t0 : (d : Nat) → px_T d
  | 0 => (.inr (.inr 0) : px_C)
  | d + 1 => Prod.mk (α := px_T d) (β := px_T d) (px_t0 d) (px_t0 d)
theorem px_beq_t {a b : Nat} (h : a = b) : Nat.beq a b = true := Nat.beq_eq.mpr h
theorem px_beq_f {a b : Nat} (h : ¬ a = b) : Nat.beq a b = false := Bool.eq_false_iff.mpr (fun q => h (Nat.beq_eq.mp q))
theorem px_tg_e {d : Nat} (t : px_T (d + 1)) {j : Nat} (h : j % 2 = 0) : px_tg (d + 1) t j = px_tg d (Prod.fst (α := px_T d) (β := px_T d) t) (j / 2) := by
  show (bif Nat.beq (j % 2) 0 then px_tg d (Prod.fst (α := px_T d) (β := px_T d) t) (j / 2) else px_tg d (Prod.snd (α := px_T d) (β := px_T d) t) (j / 2)) = _
  rw [px_beq_t h]; rfl
theorem px_tg_o {d : Nat} (t : px_T (d + 1)) {j : Nat} (h : ¬ j % 2 = 0) : px_tg (d + 1) t j = px_tg d (Prod.snd (α := px_T d) (β := px_T d) t) (j / 2) := by
  show (bif Nat.beq (j % 2) 0 then px_tg d (Prod.fst (α := px_T d) (β := px_T d) t) (j / 2) else px_tg d (Prod.snd (α := px_T d) (β := px_T d) t) (j / 2)) = _
  rw [px_beq_f h]; rfl
theorem px_ts_e {d : Nat} (t : px_T (d + 1)) {i : Nat} (c : px_C) (h : i % 2 = 0) : px_ts (d + 1) t i c = Prod.mk (α := px_T d) (β := px_T d) (px_ts d (Prod.fst (α := px_T d) (β := px_T d) t) (i / 2) c) (Prod.snd (α := px_T d) (β := px_T d) t) := by
  show (bif Nat.beq (i % 2) 0 then Prod.mk (α := px_T d) (β := px_T d) (px_ts d (Prod.fst (α := px_T d) (β := px_T d) t) (i / 2) c) (Prod.snd (α := px_T d) (β := px_T d) t) else Prod.mk (α := px_T d) (β := px_T d) (Prod.fst (α := px_T d) (β := px_T d) t) (px_ts d (Prod.snd (α := px_T d) (β := px_T d) t) (i / 2) c)) = _
  rw [px_beq_t h]; rfl
theorem px_ts_o {d : Nat} (t : px_T (d + 1)) {i : Nat} (c : px_C) (h : ¬ i % 2 = 0) : px_ts (d + 1) t i c = Prod.mk (α := px_T d) (β := px_T d) (Prod.fst (α := px_T d) (β := px_T d) t) (px_ts d (Prod.snd (α := px_T d) (β := px_T d) t) (i / 2) c) := by
  show (bif Nat.beq (i % 2) 0 then Prod.mk (α := px_T d) (β := px_T d) (px_ts d (Prod.fst (α := px_T d) (β := px_T d) t) (i / 2) c) (Prod.snd (α := px_T d) (β := px_T d) t) else Prod.mk (α := px_T d) (β := px_T d) (Prod.fst (α := px_T d) (β := px_T d) t) (px_ts d (Prod.snd (α := px_T d) (β := px_T d) t) (i / 2) c)) = _
  rw [px_beq_f h]; rfl
theorem px_tg_ts : ∀ (d : Nat) (t : px_T d) (i j : Nat) (c : px_C), i < 2 ^ d → j < 2 ^ d → px_tg d (px_ts d t i c) j = if i = j then c else px_tg d t j
  | 0, t, i, j, c, hi, hj => by
    have h1 : i = 0 := by simpa using hi
    have h2 : j = 0 := by simpa using hj
    rw [h1, h2, if_pos rfl]
    rfl
  | d + 1, t, i, j, c, hi, hj => by
    have hi' : i / 2 < 2 ^ d := by rw [Nat.pow_succ] at hi; omega
    have hj' : j / 2 < 2 ^ d := by rw [Nat.pow_succ] at hj; omega
    by_cases mi : i % 2 = 0
    · rw [px_ts_e t c mi]
      by_cases mj : j % 2 = 0
      · refine (px_tg_e _ mj).trans ((px_tg_ts d (Prod.fst (α := px_T d) (β := px_T d) t) (i / 2) (j / 2) c hi' hj').trans ?_)
        by_cases e : i = j
        · rw [if_pos e, if_pos (by rw [e])]
        · rw [if_neg e, if_neg (by omega)]
          exact (px_tg_e t mj).symm
      · refine (px_tg_o _ mj).trans ?_
        rw [if_neg (by omega)]
        exact (px_tg_o t mj).symm
    · rw [px_ts_o t c mi]
      by_cases mj : j % 2 = 0
      · refine (px_tg_e _ mj).trans ?_
        rw [if_neg (by omega)]
        exact (px_tg_e t mj).symm
      · refine (px_tg_o _ mj).trans ((px_tg_ts d (Prod.snd (α := px_T d) (β := px_T d) t) (i / 2) (j / 2) c hi' hj').trans ?_)
        by_cases e : i = j
        · rw [if_pos e, if_pos (by rw [e])]
        · rw [if_neg e, if_neg (by omega)]
          exact (px_tg_o t mj).symm
/-- the next place, how many slots were made, the tree -/
abbrev px_H : Type := Nat × Nat × px_T 10
noncomputable def px_h0 : px_H := (64, 0, px_t0 10)
/-- classes, array classes, exceptions by their numbers; the heap at the law's start -/
abbrev px_K : Type := va_G × (Nat → ClassId) × (Nat → ClassId) × Heap
noncomputable def px_cell (cl : List vw_C) (K : px_K) (E : px_E) (c : px_C) (a : Nat) (H : Heap) : Prop := match c with
  | .inl q => H[a]? = some (arrV (K.2.1 q.1) q.2.1 (fun j => px_v E (px_at q.2.2.1 j q.2.2.2)))
  | .inr (.inl q) => va_at K.1 cl (a, .inr (q.1, q.2.map (px_v E))) H
  | .inr (.inr k) => ∃ cell, H[a]? = some cell ∧ cell.cls = K.2.2.1 k ∧ cell.vm.isStatics = false
theorem px_cell.kept {cl : List vw_C} {K : px_K} {E : px_E} {c : px_C} {a : Nat} {H H1 : Heap} (h : px_cell cl K E c a H) (hq : H1[a]? = H[a]?) : px_cell cl K E c a H1 := by
  obtain q | q | k := c
  · exact hq.trans h
  · exact va_at.kept (q := (a, .inr (q.1, q.2.map (px_v E)))) h hq
  · obtain ⟨cell, h1, h2⟩ := h
    exact ⟨cell, hq.trans h1, h2⟩
theorem px_cell.lt {cl : List vw_C} {K : px_K} {E : px_E} {c : px_C} {a : Nat} {H : Heap} (h : px_cell cl K E c a H) : a < H.size := by
  obtain q | q | k := c
  · exact (Array.getElem?_eq_some_iff.mp h).1
  · exact va_at.lt (q := (a, .inr (q.1, q.2.map (px_v E)))) h
  · obtain ⟨cell, h1, h2⟩ := h
    exact (Array.getElem?_eq_some_iff.mp h1).1
noncomputable def px_HP (cl : List vw_C) (K : px_K) (E : px_E) (h : px_H) (H : Heap) : Prop :=
  64 ≤ h.1 ∧ h.1 ≤ 1024 ∧ H.size = E.2.2 + (h.1 - 64) ∧ (∀ r, 64 ≤ r → r < h.1 → px_cell cl K E (px_tg 10 h.2.2 r) (px_ad E r) H) ∧ ∀ q, q < E.2.2 → H[q]? = K.2.2.2[q]?
theorem px_ad_new (E : px_E) {r : Nat} (h : 64 ≤ r) : px_ad E r = E.2.2 + (r - 64) := by
  unfold px_ad
  rw [if_neg (by omega)]
theorem px_ad_inj (E : px_E) {r q : Nat} (h : 64 ≤ r) (h1 : 64 ≤ q) (e : px_ad E r = px_ad E q) : r = q := by
  rw [px_ad_new E h, px_ad_new E h1] at e
  omega
noncomputable def px_setc (h : px_H) (r : Nat) (c : px_C) : px_H := match h with
  | (n, s, t) => (n, s, px_ts 10 t r c)
noncomputable def px_push (h : px_H) (n : Nat) (c : px_C) : px_H := match h with
  | (m, s, t) => px_force (Nat.add m 1) (fun m1 => px_force (Nat.add s n) (fun s1 => (m1, s1, px_ts 10 t m c)))
theorem px_HP.set {cl : List vw_C} {K : px_K} {E : px_E} {h : px_H} {H H1 : Heap} (hP : px_HP cl K E h H) {r : Nat} (h1 : 64 ≤ r) (h2 : r < h.1) {c : px_C} (hc : px_cell cl K E c (px_ad E r) H1) (hz : H1.size = H.size) (ho : ∀ q, q ≠ px_ad E r → H1[q]? = H[q]?) : px_HP cl K E (px_setc h r c) H1 := by
  obtain ⟨a1, a2, a3, a4, a5⟩ := hP
  refine ⟨a1, a2, hz.trans a3, fun q hq hq2 => ?_, fun q hq => (ho q ?_).trans (a5 q hq)⟩
  · show px_cell cl K E (px_tg 10 (px_ts 10 h.2.2 r c) q) (px_ad E q) H1
    rw [px_tg_ts 10 _ _ _ _ (by show r < 1024; omega) (by have : q < h.1 := hq2; show q < 1024; omega)]
    by_cases e : r = q
    · rw [if_pos e, ← e]; exact hc
    · rw [if_neg e]
      exact (a4 q hq hq2).kept (ho _ (fun w => e (px_ad_inj E h1 hq w.symm)))
  · rw [px_ad_new E h1]; omega
theorem px_HP.push {cl : List vw_C} {K : px_K} {E : px_E} {h : px_H} {H H1 : Heap} (hP : px_HP cl K E h H) (hn : h.1 < 1024) (n : Nat) {c : px_C} (hc : px_cell cl K E c H.size H1) (hz : H1.size = H.size + 1) (ho : ∀ q, q < H.size → H1[q]? = H[q]?) : px_HP cl K E (px_push h n c) H1 ∧ H.size = px_ad E h.1 := by
  obtain ⟨a1, a2, a3, a4, a5⟩ := hP
  have e0 : H.size = px_ad E h.1 := by rw [a3, px_ad_new E a1]
  refine ⟨⟨by show 64 ≤ h.1 + 1; omega, by show h.1 + 1 ≤ 1024; omega, by show H1.size = _ + (h.1 + 1 - 64); omega, fun q hq hq2 => ?_, fun q hq => (ho q ?_).trans (a5 q hq)⟩, e0⟩
  · have hq2 : q < h.1 + 1 := hq2
    show px_cell cl K E (px_tg 10 (px_ts 10 h.2.2 h.1 c) q) (px_ad E q) H1
    rw [px_tg_ts 10 _ _ _ _ (by show h.1 < 1024; omega) (by show q < 1024; omega)]
    by_cases e : h.1 = q
    · rw [if_pos e, ← e, ← e0]; exact hc
    · rw [if_neg e]
      have h5 := a4 q hq (by omega)
      exact h5.kept (ho _ h5.lt)
  · omega
/-- a place that is there -/
noncomputable def px_here (h : px_H) (r : Nat) : Bool := Nat.ble 64 r && Nat.blt r h.1
theorem px_here_ok {h : px_H} {r : Nat} (q : px_here h r = true) : 64 ≤ r ∧ r < h.1 := by
  simp only [px_here, Bool.and_eq_true, Nat.ble_eq, Nat.blt_eq] at q
  exact q
noncomputable def px_obj (h : px_H) (r : Nat) : Option (Nat × List px_V) := bif px_here h r then match px_tg 10 h.2.2 r with
  | .inr (.inl q) => some q
  | _ => none else none
noncomputable def px_arr (h : px_H) (r : Nat) : Option (Nat × Nat × px_V × List (Nat × px_V)) := bif px_here h r then match px_tg 10 h.2.2 r with
  | .inl q => bif Nat.blt q.1 11 then some q else none
  | _ => none else none
noncomputable def px_exc (h : px_H) (r : Nat) : Option Nat := bif px_here h r then match px_tg 10 h.2.2 r with
  | .inr (.inr k) => bif Nat.blt k 5 then some k else none
  | _ => none else none
theorem px_obj_ok {cl : List vw_C} {K : px_K} {E : px_E} {h : px_H} {H : Heap} (hP : px_HP cl K E h H) {r : Nat} {q : Nat × List px_V} (ho : px_obj h r = some q) : 64 ≤ r ∧ r < h.1 ∧ va_at K.1 cl (px_ad E r, .inr (q.1, q.2.map (px_v E))) H := by
  unfold px_obj at ho
  cases hh : px_here h r with
  | false => rw [hh] at ho; cases ho
  | true =>
    rw [hh] at ho
    obtain ⟨h1, h2⟩ := px_here_ok hh
    have h3 := hP.2.2.2.1 r h1 h2
    simp only [cond_true] at ho
    split at ho
    · rename_i q' hq
      cases ho
      rw [hq] at h3
      exact ⟨h1, h2, h3⟩
    · cases ho
theorem px_arr_ok {cl : List vw_C} {K : px_K} {E : px_E} {h : px_H} {H : Heap} (hP : px_HP cl K E h H) {r : Nat} {q : Nat × Nat × px_V × List (Nat × px_V)} (ho : px_arr h r = some q) : 64 ≤ r ∧ r < h.1 ∧ q.1 < 11 ∧ H[px_ad E r]? = some (arrV (K.2.1 q.1) q.2.1 (fun j => px_v E (px_at q.2.2.1 j q.2.2.2))) := by
  unfold px_arr at ho
  cases hh : px_here h r with
  | false => rw [hh] at ho; cases ho
  | true =>
    rw [hh] at ho
    obtain ⟨h1, h2⟩ := px_here_ok hh
    have h3 := hP.2.2.2.1 r h1 h2
    simp only [cond_true] at ho
    split at ho
    · rename_i q' hq
      cases hz : Nat.blt q'.1 11 with
      | false => rw [hz] at ho; cases ho
      | true =>
        rw [hz] at ho
        cases ho
        rw [hq] at h3
        exact ⟨h1, h2, Nat.blt_eq.mp hz, h3⟩
    · cases ho
theorem px_exc_ok {cl : List vw_C} {K : px_K} {E : px_E} {h : px_H} {H : Heap} (hP : px_HP cl K E h H) {r : Nat} {k : Nat} (ho : px_exc h r = some k) : 64 ≤ r ∧ r < h.1 ∧ k < 5 ∧ ∃ cell, H[px_ad E r]? = some cell ∧ cell.cls = K.2.2.1 k ∧ cell.vm.isStatics = false := by
  unfold px_exc at ho
  cases hh : px_here h r with
  | false => rw [hh] at ho; cases ho
  | true =>
    rw [hh] at ho
    obtain ⟨h1, h2⟩ := px_here_ok hh
    have h3 := hP.2.2.2.1 r h1 h2
    simp only [cond_true] at ho
    split at ho
    · rename_i q' hq
      cases hz : Nat.blt q' 5 with
      | false => rw [hz] at ho; cases ho
      | true =>
        rw [hz] at ho
        cases ho
        rw [hq] at h3
        exact ⟨h1, h2, Nat.blt_eq.mp hz, h3⟩
    · cases ho
/-- the kind of a type: int, boolean, long, a reference -/
noncomputable def px_tcode (t : FieldType) : Nat := match t with
  | .int => 0
  | .boolean => 1
  | .long => 2
  | .object _ => 3
  | .array _ => 3
  | _ => 9
noncomputable def px_fitc (c : Nat) (v : px_V) : Bool := match c, v with
  | 0, .inl _ => true
  | 1, .inl (.inl n) => decide (n = 0) || decide (n = 1)
  | 2, .inr (.inl _) => true
  | 3, .inr (.inr _) => true
  | _, _ => false
noncomputable def px_dflt (c : Nat) : px_V := match c with
  | 0 => .inl (.inl 0)
  | 1 => .inl (.inl 0)
  | 2 => .inr (.inl (.inl 0))
  | _ => .inr (.inr none)
theorem px_fit_ok (E : px_E) {t : FieldType} {v : px_V} (h : px_fitc (px_tcode t) v = true) : narrow t (px_v E v) = px_v E v ∧ fits t (px_v E v) = true := by
  cases t
  case int =>
    obtain a | a | a := v
    · exact ⟨rfl, rfl⟩
    · cases h
    · cases h
  case boolean =>
    obtain (n | a) | a | a := v
    · simp only [px_tcode, px_fitc, Bool.or_eq_true, decide_eq_true_eq] at h
      rcases h with rfl | rfl
      · have e0 : Int32.ofInt 0 = 0 := by decide
        show narrow .boolean (.int (Int32.ofInt 0)) = .int (Int32.ofInt 0) ∧ fits .boolean (.int (Int32.ofInt 0)) = true
        rw [e0]
        exact ⟨narrow_b0, by decide⟩
      · have e0 : Int32.ofInt 1 = 1 := by decide
        show narrow .boolean (.int (Int32.ofInt 1)) = .int (Int32.ofInt 1) ∧ fits .boolean (.int (Int32.ofInt 1)) = true
        rw [e0]
        exact ⟨narrow_b1, by decide⟩
    · cases h
    · cases h
    · cases h
  case long =>
    obtain a | a | a := v
    · cases h
    · exact ⟨rfl, rfl⟩
    · cases h
  case object n =>
    obtain a | a | a := v
    · cases h
    · cases h
    · cases a <;> exact ⟨rfl, rfl⟩
  case array n =>
    obtain a | a | a := v
    · cases h
    · cases h
    · cases a <;> exact ⟨rfl, rfl⟩
  all_goals
    obtain a | a | a := v <;> cases h
theorem px_dflt_ok (E : px_E) {t : FieldType} (h : px_tcode t < 4) : px_v E (px_dflt (px_tcode t)) = defaultValue t := by
  cases t <;> first | rfl | (simp [px_tcode] at h)
