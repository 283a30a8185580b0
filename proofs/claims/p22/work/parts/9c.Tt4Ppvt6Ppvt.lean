/-! The model: rows that are made. -/
/-- what is made -/
def tm (h : cz_H) (l : List Int) : Prop := qz_I h 770 30 = (l.length : Int) ∧ ∀ (j : Nat) v, l[j]? = some v → qz_I h 796 j = v
/-- points with their ranks in the model's arrays -/
def prm (h : cz_H) (L : List (Int × Int)) : Prop := ∀ (j : Nat) x, L[j]? = some x → qz_I h 796 j = x.1 ∧ qz_I h 798 j = x.2
/-- what making leaves as it was -/
def nk (τ : Nat → Nat) (h : cz_H) (τ1 : Nat → Nat) (g : cz_H) : Prop :=
  (∀ q, τ q ≠ 0 → τ1 q = τ q ∧ (q ≠ 770 → q ≠ 794 → τ q ≠ 83 → τ q ≠ 85 → τ q ≠ 21 → g.2.2 q = h.2.2 q)) ∧ (∀ q, τ q = 0 → τ1 q ≠ 0 → τ1 q = 21) ∧
  (∀ j, j ≠ 24 → j ≠ 25 → j ≠ 30 → qz_I g 770 j = qz_I h 770 j) ∧ qz_N h (sk h) ≤ qz_N g (sk g) ∧ ((g.2.1 : Int) - h.2.1 ≤ 2 * (qz_N g (sk g) - qz_N h (sk h)) ∧ 64 * ((g.1 : Int) - h.1) ≤ qz_N g (sk g) - qz_N h (sk h)) ∧ (h.1 ≤ g.1 ∧ h.2.1 ≤ g.2.1) ∧ (qz_I h 770 25 ≤ qz_N h (sk h) → qz_I g 770 25 ≤ qz_N g (sk g))
theorem nk.refl (τ : Nat → Nat) (h : cz_H) : nk τ h τ h := ⟨fun q _ => ⟨rfl, fun _ _ _ _ _ => rfl⟩, fun q h1 h2 => absurd h1 h2, fun _ _ _ _ => rfl, Int.le_refl _, by omega, ⟨Nat.le_refl _, Nat.le_refl _⟩, id⟩
theorem nk.trans {τ τ1 τ2 : Nat → Nat} {h g k : cz_H} (a : nk τ h τ1 g) (b : nk τ1 g τ2 k) : nk τ h τ2 k := by
  obtain ⟨a1, a2, a3, a4, a5, a6, a7⟩ := a
  obtain ⟨b1, b2, b3, b4, b5, b6, b7⟩ := b
  refine ⟨fun q hq => ?_, fun q q0 q1 => ?_, fun j j1 j2 j3 => (b3 j j1 j2 j3).trans (a3 j j1 j2 j3), by omega, by omega, by omega, fun w => b7 (a7 w)⟩
  · have y1 := a1 q hq
    have y2 := b1 q (by rw [y1.1]; exact hq)
    exact ⟨y2.1.trans y1.1, fun q1 q2 q3 q4 q5 => (y2.2 q1 q2 (by rw [y1.1]; exact q3) (by rw [y1.1]; exact q4) (by rw [y1.1]; exact q5)).trans (y1.2 q1 q2 q3 q4 q5)⟩
  · by_cases e : τ1 q = 0
    · exact b2 q e q1
    · rw [(b1 q e).1]; exact a2 q q0 e
theorem nk.of {τ τ1 : Nat → Nat} {h g : cz_H} (a : ff τ h τ1 g) (sn : skn g ≤ qz_N g (sk g)) : nk τ h τ1 g := by
  obtain ⟨a1, a2, a3, a4, a5, a6, -⟩ := a
  exact ⟨fun q hq => ⟨(a1 q hq).1, fun q1 q2 _ _ q5 => (a1 q hq).2 q1 q2 q5⟩, a2, fun j j1 j2 _ => a3 j j1 j2, a4, a5, a6, fun _ => sn⟩
theorem nk.fr {τ : Nat → Nat} {h g : cz_H} {P : Nat → Bool} (hB : ez_B τ h) (t770 : τ 770 = 75) (hX : jz_X τ) (f : ez_fr P h g) (hP : ∀ q, P q = true → q = 770 ∨ q = 796 ∨ q = 798) (i7 : ∀ j, j ≠ 30 → qz_I g 770 j = qz_I h 770 j) : nk τ h τ g := by
  have no : ∀ q, q ≠ 770 → q ≠ 796 → q ≠ 798 → P q = false := fun q q1 q2 q3 => by
    cases e : P q with
    | false => rfl
    | true => have := hP q e; omega
  have e : sk g = sk h := by unfold sk qz_P; rw [i7 24 (by decide)]
  have ts := ez_tsk hB t770
  have eN : qz_N g (sk h) = qz_N h (sk h) := f.N (no _ (fun w => by rw [w, t770] at ts; cases ts) (fun w => by rw [w, hX 796 (by decide)] at ts; cases ts) (fun w => by rw [w, hX 798 (by decide)] at ts; cases ts))
  exact ⟨fun q _ => ⟨rfl, fun q1 _ q3 q4 _ => f.2.2 q (no q q1 (fun w => q3 (by rw [w]; exact hX 796 (by decide))) (fun w => q4 (by rw [w]; exact hX 798 (by decide))))⟩, fun q h1 h2 => absurd h1 h2, fun j _ _ j3 => i7 j j3, by rw [e, eN]; exact Int.le_refl _, by rw [e, eN, f.1, f.2.1]; omega, ⟨by rw [f.1]; exact Nat.le_refl _, by rw [f.2.1]; exact Nat.le_refl _⟩, fun w => by rw [i7 25 (by decide), e, eN]; exact w⟩
theorem nk.X {τ τ1 : Nat → Nat} {h g : cz_H} (a : nk τ h τ1 g) (hX : jz_X τ) : jz_X τ1 := fun r hr => ((a.1 r (by rw [hX r hr]; exact hr)).1).trans (hX r hr)
theorem nk.C {τ τ1 : Nat → Nat} {h g : cz_H} (a : nk τ h τ1 g) (hX : jz_X τ) {q : Nat} (q0 : τ q ≠ 0) (q1 : τ q ≠ 75) (q2 : τ q ≠ 82) (q3 : τ q ≠ 83) (q4 : τ q ≠ 85) (q5 : τ q ≠ 21) : g.2.2 q = h.2.2 q := (a.1 q q0).2 (fun e => q1 (by rw [e]; exact hX 770 (by decide))) (fun e => q2 (by rw [e]; exact hX 794 (by decide))) q3 q4 q5
theorem nk.eDx {τ τ1 : Nat → Nat} {h g : cz_H} {F : rz_W} (a : nk τ h τ1 g) (e : eD τ h F) (hX : jz_X τ) (hB : ez_B τ1 g) : eD τ1 g F :=
  e.tr hB (fun q hq => (a.1 q hq).1) (fun q q0 w => by have := a.2.1 q q0 (by rw [w]; decide); omega) (fun j hj => a.2.2.1 j (by omega) (by omega) (by omega)) (fun q hq => a.C hX (by omega) (by omega) (by omega) (by omega) (by omega) (by omega))
theorem nk.mIx {τ τ1 : Nat → Nat} {h g : cz_H} {Ls : List vz} {b : Int} (a : nk τ h τ1 g) (hI : mI τ h Ls b) (hB : ez_B τ1 g) : mI τ1 g Ls b :=
  hI.gen hB (fun q hq => (a.1 q hq).1) (fun q q0 => by
    by_cases w : τ1 q = 0
    · rw [w]; decide
    · rw [a.2.1 q q0 w]; decide) (fun q hq => a.C hI.2.1 (by omega) (by omega) (by omega) (by omega) (by omega) (by omega)) (fun j j1 j2 => a.2.2.1 j (by omega) (by omega) (by omega))
theorem pQ.tr {h g : cz_H} {F : rz_W} {E : Int → Prop} (p : pQ h F E) (i : ∀ j, j = 21 ∨ j = 23 ∨ j = 27 ∨ j = 28 → qz_I g 770 j = qz_I h 770 j) (c1 : g.2.2 (pq h) = h.2.2 (pq h)) (c2 : g.2.2 (dc h) = h.2.2 (dc h)) : pQ g F E := by
  have e1 : pq g = pq h := by unfold pq qz_P; rw [i 27 (by omega)]
  have e2 : pkn g = pkn h := i 28 (by omega)
  have e3 : cn g = cn h := i 23 (by omega)
  have e4 : dc g = dc h := by unfold dc qz_P; rw [i 21 (by omega)]
  have i1 : ∀ j, qz_I g (pq h) j = qz_I h (pq h) j := fun j => by unfold qz_I; rw [c1]
  have i2 : ∀ j, qz_I g (dc h) j = qz_I h (dc h) j := fun j => by unfold qz_I; rw [c2]
  have n1 : qz_N g (pq h) = qz_N h (pq h) := by unfold qz_N; rw [c1]
  refine ⟨by rw [e1, e2, n1]; exact p.1, fun i hi => ?_, fun x a b w => ?_⟩
  · rw [e2] at hi; rw [e1, i1, e3, e4, i2]; exact p.2.1 i hi
  · obtain ⟨i, h1, h2⟩ := p.2.2 x a b w
    exact ⟨i, by rw [e2]; exact h1, by rw [e1, i1, e4, i2]; exact h2⟩
theorem nk.pQx {τ τ1 : Nat → Nat} {h g : cz_H} {F : rz_W} {E : Int → Prop} (a : nk τ h τ1 g) (p : pQ h F E) (hB : ez_B τ h) (hX : jz_X τ) : pQ g F E := by
  have t770 : τ 770 = 75 := hX 770 (by decide)
  have tp := ez_tpq hB t770
  have td := ez_tdb hB t770
  exact p.tr (fun j hj => a.2.2.1 j (by omega) (by omega) (by omega)) (a.C hX (by omega) (by omega) (by omega) (by omega) (by omega) (by omega)) (a.C hX (by omega) (by omega) (by omega) (by omega) (by omega) (by omega))
theorem tm_u {h : cz_H} {l m : List Int} (a : tm h l) (b : tm h m) : l = m := by
  have hl : l.length = m.length := by have := a.1; have := b.1; omega
  refine List.ext_getElem? (fun i => ?_)
  by_cases e : i < l.length
  · have h1 := List.getElem?_eq_getElem e
    have h2 := List.getElem?_eq_getElem (show i < m.length by omega)
    have := a.2 i _ h1
    rw [h1, h2, ← b.2 i _ h2, this]
  · rw [List.getElem?_eq_none (by omega), List.getElem?_eq_none (by omega)]
/-- two neighbours change places -/
def swp (L : List (Int × Int)) (i : Nat) (x y : Int × Int) : List (Int × Int) := (L.set i y).set (i + 1) x
theorem swp_srt {x y : Int × Int} (h1 : y.2 < x.2) (h2 : 0 < y.2) : ∀ {L : List (Int × Int)} {i : Nat}, L[i]? = some x → L[i + 1]? = some y → os_srt (swp L i x y) = os_srt L
  | [], i, hx, _ => by cases hx
  | [_], 0, _, hy => by cases hy
  | [_], i + 1, hx, _ => by cases hx
  | a :: b :: L, 0, hx, hy => by
    cases hx
    cases hy
    exact (os_comm h1 h2 (os_srt L)).symm
  | a :: b :: L, i + 1, hx, hy => by
    have := swp_srt h1 h2 (L := b :: L) (i := i) hx hy
    show os_ins a (os_srt (swp (b :: L) i x y)) = os_ins a (os_srt (b :: L))
    rw [this]
theorem swp_mem {L : List (Int × Int)} {i : Nat} {x y z : Int × Int} (hx : L[i]? = some x) (hy : L[i + 1]? = some y) (hz : z ∈ swp L i x y) : z ∈ L := by
  rcases List.mem_or_eq_of_mem_set hz with w | w
  · rcases List.mem_or_eq_of_mem_set w with v | v
    · exact v
    · rw [v]; exact List.mem_of_getElem? hy
  · rw [w]; exact List.mem_of_getElem? hx
theorem swp_at {L : List (Int × Int)} {i j : Nat} {x y z : Int × Int} (hx : L[i]? = some x) (hy : L[i + 1]? = some y) (hz : (swp L i x y)[j]? = some z) : (j = i ∧ z = y) ∨ (j = i + 1 ∧ z = x) ∨ (j ≠ i ∧ j ≠ i + 1 ∧ L[j]? = some z) := by
  have l1 := (List.getElem?_eq_some_iff.mp hx).1
  have l2 := (List.getElem?_eq_some_iff.mp hy).1
  unfold swp at hz
  by_cases e1 : j = i + 1
  · rw [e1, List.getElem?_set_self (by rw [List.length_set]; exact l2)] at hz
    cases hz
    exact Or.inr (Or.inl ⟨e1, rfl⟩)
  · rw [List.getElem?_set_ne (fun w => e1 w.symm)] at hz
    by_cases e2 : j = i
    · rw [e2, List.getElem?_set_self l1] at hz
      cases hz
      exact Or.inl ⟨e2, rfl⟩
    · rw [List.getElem?_set_ne (fun w => e2 w.symm)] at hz
      exact Or.inr (Or.inr ⟨e2, e1, hz⟩)
theorem swp_len (L : List (Int × Int)) (i : Nat) (x y : Int × Int) : (swp L i x y).length = L.length := by unfold swp; rw [List.length_set, List.length_set]
/-- on the way: the same marks -/
def ods (L0 L : List (Int × Int)) : Prop := L.length = L0.length ∧ os_srt L = os_srt L0 ∧ ∀ x ∈ L, x ∈ L0
theorem ods_0 (L : List (Int × Int)) : ods L L := ⟨rfl, rfl, fun _ h => h⟩
theorem ods_sw {L0 L : List (Int × Int)} {i : Nat} {x y : Int × Int} (h : ods L0 L) (h1 : y.2 < x.2) (h2 : 0 < y.2) (hx : L[i]? = some x) (hy : L[i + 1]? = some y) : ods L0 (swp L i x y) := ⟨(swp_len L i x y).trans h.1, (swp_srt h1 h2 hx hy).trans h.2.1, fun z hz => h.2.2 z (swp_mem hx hy hz)⟩
def nfk (L : List (Int × Int)) (k : Int) : Prop := ∀ (j : Nat) x y, (j : Int) + 1 < k → L[j]? = some x → L[j + 1]? = some y → ¬ (y.2 < x.2 ∧ 0 < y.2)
theorem nfk_end {L0 L : List (Int × Int)} {k : Int} (h : ods L0 L) (n : nfk L k) (hk : (L.length : Int) ≤ k) : L = os_srt L0 := by
  rw [← h.2.1]
  exact (os_done L (os_nf_i L (fun j x y hx hy => n j x y (by have := (List.getElem?_eq_some_iff.mp hy).1; omega) hx hy))).symm
/-! The model: make, order, compose. (Written by wip/p2/py/pvt6.py.) -/
section EzMk
variable {d : Nat} {h : cz_H} {τ : Nat → Nat} {Q : cz_F → Prop} {l : List Int} {L : List (Int × Int)}
theorem tm_add {g : cz_H} {p : Int} (a : tm h l) (e1 : qz_I g 770 30 = qz_I h 770 30 + 1) (e2 : qz_I g 796 (qz_I h 770 30).toNat = p) (e3 : ∀ j, j ≠ (qz_I h 770 30).toNat → qz_I g 796 j = qz_I h 796 j) : tm g (l ++ [p]) := by
  have hl := a.1
  refine ⟨by rw [e1, hl, List.length_append]; rfl, fun j v hv => ?_⟩
  by_cases e : j < l.length
  · rw [List.getElem?_append_left e] at hv
    rw [e3 j (by omega)]; exact a.2 j v hv
  · rw [List.getElem?_append_right (by omega)] at hv
    have e0 : j - l.length = 0 := by
      by_cases w : j - l.length = 0
      · exact w
      · rw [List.getElem?_eq_none (by rw [List.length_singleton]; omega)] at hv; cases hv
    rw [e0] at hv
    cases hv
    rw [show j = (qz_I h 770 30).toNat by omega]; exact e2
theorem rd_make {p : Int} (hB : ez_B τ h) (t770 : τ 770 = 75) (a : tm h l) (pr : ez_rg p) (hr1 : h.1 + 1 ≤ 600192) (hr2 : h.2.1 + 6 ≤ 7302232) (k1 : l.length < 2000 → ∀ g, ez_B τ g → ez_fr (nz_PL 796) h g → (∀ j, j ≠ 30 → qz_I g 770 j = qz_I h 770 j) → tm g (l ++ [p]) → Q (.inl none, g)) (k0 : 2000 ≤ l.length → Q (.inr h.1, xc h 0)) : ez_W (d + 6) cm_278 0 [(0, .inr (.inr (some (770)))), (1, .inl (p))] [] h Q := by
  obtain ⟨pr1, pr2⟩ := id pr
  have al := a.1
  refine ez_go (n := 1) (pc' := 1) (L' := [(0, .inr (.inr (some (770)))), (1, .inl (p))]) (st' := [.inr (.inr (some (770)))]) rfl ?_
  refine ez_gI hB t770 rfl rfl tq_75 rfl rfl (fun (b1 : 0 ≤ qz_I h 770 30) (b1' : qz_I h 770 30 ≤ 2000) => ?_)
  refine ez_go (n := 1) (pc' := 7) (L' := [(0, .inr (.inr (some (770)))), (1, .inl (p))]) (st' := [.inl (2000), .inl (qz_I h 770 30)]) rfl ?_
  refine ez_icmp rfl rfl ⟨by first | omega | exact (sz_i32 _).1, by first | omega | exact (sz_i32 _).2⟩ ⟨by first | omega | exact (sz_i32 _).1, by first | omega | exact (sz_i32 _).2⟩ (fun (c2 : (qz_I h 770 30) ≠ (2000)) => ?_) (fun (c2 : ¬((qz_I h 770 30) ≠ (2000))) => ?_)
  · skip
    refine ez_go (n := 1) (pc' := 19) (L' := [(0, .inr (.inr (some (770)))), (1, .inl (p))]) (st' := [.inr (.inr (some (770)))]) rfl ?_
    refine ez_gC (p := 796) (tg := 83) hB t770 rfl rfl tq_75 rfl rfl (fun (t796 : _ = 83) => ?_)
    refine ez_go (n := 1) (pc' := 23) (L' := [(0, .inr (.inr (some (770)))), (1, .inl (p))]) (st' := [.inr (.inr (some (770))), .inr (.inr (some (796)))]) rfl ?_
    refine ez_gI hB t770 rfl rfl tq_75 rfl rfl (fun (b3 : 0 ≤ qz_I h 770 30) (b3' : qz_I h 770 30 ≤ 2000) => ?_)
    refine ez_go (n := 1) (pc' := 27) (L' := [(0, .inr (.inr (some (770)))), (1, .inl (p))]) (st' := [.inl (p), .inl (qz_I h 770 30), .inr (.inr (some (796)))]) rfl ?_
    have n6 : 2000 ≤ qz_N h 796 ∧ qz_N h 796 ≤ 2000 := ez_len hB t796 tq_83 rfl
    refine ez_as hB t796 rfl tq_83 rfl rfl (by omega) (by omega) (ez_vdI rfl rfl (by omega) (by omega)) (fun hB4 w5 => ?_)
    have ex : qz_I (dz_put h 796 (qz_I h 770 30).toNat (ez_v (.inl (p)))) 770 30 = qz_I h 770 30 := ez_put_I (fun w => absurd w.1 (by decide))
    refine ez_go (n := 2) (pc' := 30) (L' := [(0, .inr (.inr (some (770)))), (1, .inl (p))]) (st' := [.inr (.inr (some (770))), .inr (.inr (some (770)))]) rfl ?_
    refine ez_gI hB4 t770 rfl rfl tq_75 rfl rfl (fun (b7 : 0 ≤ qz_I (dz_put h 796 (qz_I h 770 30).toNat (ez_v (.inl (p)))) 770 30) (b7' : qz_I (dz_put h 796 (qz_I h 770 30).toNat (ez_v (.inl (p)))) 770 30 ≤ 2000) => ?_)
    refine ez_go (n := 2) (pc' := 35) (L' := [(0, .inr (.inr (some (770)))), (1, .inl (p))]) (st' := [.inl ((qz_I (dz_put h 796 (qz_I h 770 30).toNat (ez_v (.inl (p)))) 770 30) + (1)), .inr (.inr (some (770)))]) rfl ?_
    refine ez_pf hB4 t770 rfl rfl tq_75 rfl rfl rfl rfl (ez_vdI rfl rfl (by omega) (by omega)) (fun hB8 w9 => ?_)
    refine ez_ret0 rfl rfl (k1 (by omega) _ hB8 (((ez_fr.refl (nz_PL 796) h).put (show nz_PL 796 796 = true from rfl) _ _).put (show nz_PL 796 770 = true from rfl) _ _) (fun j hj => ?_) (tm_add a ?_ ?_ (fun j hj => ?_)))
    · rw [ez_put_I (fun w => hj w.2), ez_put_I (fun w => absurd w.1 (by decide))]
    · rw [w9, ez_put_I (fun w => absurd w.1 (by decide))]; exact rz_rd ⟨by omega, by omega⟩
    · rw [ez_put_I (fun w => absurd w.1 (by decide)), w5]; exact rz_rd ⟨pr1, pr2⟩
    · rw [ez_put_I (fun w => absurd w.1 (by decide)), ez_put_I (fun w => hj w.2)]
  · skip
    exact ez_th rfl rfl (by omega) (by omega) (by omega) rfl (k0 (by omega))

theorem rd_mord_1 {Ls : List vz} {b : Int} (hI : mI τ h Ls b) (t770 : τ 770 = 75) (a : tm h l) (pl : ptl l) (kx : ∀ g, orz τ h g → prm g (zl (vF Ls) l) → ez_W (d + 2) cm_285 32 [(0, .inr (.inr (some (770))))] [] g Q) : ∀ (n : Nat) (k : Int) (g : cz_H), (qz_I h 770 30 - k).toNat ≤ n → 0 ≤ k → k ≤ 2000 → orz τ h g → (∀ j, qz_I g 796 j = qz_I h 796 j) → (∀ (j : Nat) v, (j : Int) < k → l[j]? = some v → qz_I g 798 j = (vF Ls v).1) → ez_W (d + 2) cm_285 2 [(1, .inl (k)), (0, .inr (.inr (some (770))))] [] g Q := by
  have al := a.1
  intro n
  induction n with
  | zero =>
    intro k g hn k0 k2k ho h6 h8
    have hBg := ho.1
    have s30 := ho.s t770 30
    have b30 : 0 ≤ qz_I g 770 30 ∧ qz_I g 770 30 ≤ 2000 := ez_fB (cl := 11) (k := 30) hBg t770 tq_75 rfl rfl (by decide)
    refine ez_go (n := 2) (pc' := 4) (L' := [(1, .inl (k)), (0, .inr (.inr (some (770))))]) (st' := [.inr (.inr (some (770))), .inl (k)]) rfl ?_
    refine ez_gI hBg t770 rfl rfl tq_75 rfl rfl (fun (b1 : 0 ≤ qz_I g 770 30) (b1' : qz_I g 770 30 ≤ 2000) => ?_)
    refine ez_icmp rfl rfl ⟨by first | omega | exact (sz_i32 _).1, by first | omega | exact (sz_i32 _).2⟩ ⟨by first | omega | exact (sz_i32 _).1, by first | omega | exact (sz_i32 _).2⟩ (fun (c2 : (qz_I g 770 30) ≤ (k)) => ?_) (fun (c2 : ¬((qz_I g 770 30) ≤ (k))) => ?_)
    · skip
      refine ez_less [(0, .inr (.inr (some (770))))] rfl ⟨rfl, trivial⟩ ?_
      exact kx g ho (fun j z hz => by obtain ⟨z1, z2⟩ := zl_at hz; exact ⟨(h6 j).trans (a.2 j _ z1), by rw [z2]; exact h8 j _ (by have := (List.getElem?_eq_some_iff.mp z1).1; omega) z1⟩)
    · exfalso; omega
  | succ n ih =>
    intro k g hn k0 k2k ho h6 h8
    have hBg := ho.1
    have s30 := ho.s t770 30
    have b30 : 0 ≤ qz_I g 770 30 ∧ qz_I g 770 30 ≤ 2000 := ez_fB (cl := 11) (k := 30) hBg t770 tq_75 rfl rfl (by decide)
    refine ez_go (n := 2) (pc' := 4) (L' := [(1, .inl (k)), (0, .inr (.inr (some (770))))]) (st' := [.inr (.inr (some (770))), .inl (k)]) rfl ?_
    refine ez_gI hBg t770 rfl rfl tq_75 rfl rfl (fun (b1 : 0 ≤ qz_I g 770 30) (b1' : qz_I g 770 30 ≤ 2000) => ?_)
    refine ez_icmp rfl rfl ⟨by first | omega | exact (sz_i32 _).1, by first | omega | exact (sz_i32 _).2⟩ ⟨by first | omega | exact (sz_i32 _).1, by first | omega | exact (sz_i32 _).2⟩ (fun (c2 : (qz_I g 770 30) ≤ (k)) => ?_) (fun (c2 : ¬((qz_I g 770 30) ≤ (k))) => ?_)
    · skip
      refine ez_less [(0, .inr (.inr (some (770))))] rfl ⟨rfl, trivial⟩ ?_
      exact kx g ho (fun j z hz => by obtain ⟨z1, z2⟩ := zl_at hz; exact ⟨(h6 j).trans (a.2 j _ z1), by rw [z2]; exact h8 j _ (by have := (List.getElem?_eq_some_iff.mp z1).1; omega) z1⟩)
    · skip
      refine ez_go (n := 1) (pc' := 11) (L' := [(1, .inl (k)), (0, .inr (.inr (some (770))))]) (st' := [.inr (.inr (some (770)))]) rfl ?_
      refine ez_gC (p := 798) (tg := 85) hBg t770 rfl rfl tq_75 rfl rfl (fun (t798 : _ = 85) => ?_)
      refine ez_go (n := 3) (pc' := 17) (L' := [(1, .inl (k)), (0, .inr (.inr (some (770))))]) (st' := [.inr (.inr (some (770))), .inr (.inr (some (770))), .inl (k), .inr (.inr (some (798)))]) rfl ?_
      refine ez_gC (p := 796) (tg := 83) hBg t770 rfl rfl tq_75 rfl rfl (fun (t796 : _ = 83) => ?_)
      refine ez_go (n := 1) (pc' := 21) (L' := [(1, .inl (k)), (0, .inr (.inr (some (770))))]) (st' := [.inl (k), .inr (.inr (some (796))), .inr (.inr (some (770))), .inl (k), .inr (.inr (some (798)))]) rfl ?_
      have n4 : 2000 ≤ qz_N g 796 ∧ qz_N g 796 ≤ 2000 := ez_len hBg t796 tq_83 rfl
      refine ez_aI hBg t796 rfl tq_83 rfl rfl (by omega) (by omega) (fun (b3 : -2147483648 ≤ qz_I g 796 (k).toNat) (b3' : qz_I g 796 (k).toNat ≤ 2147483647) => ?_)
      have l9 : k.toNat < l.length := by omega
      have ev : qz_I g 796 (k).toNat = l[k.toNat] := (h6 _).trans (a.2 _ _ (List.getElem?_eq_getElem l9))
      rw [ev]
      have vb := ptl_at pl (List.getElem?_eq_getElem l9)
      refine ez_cv hBg t770 rfl rfl rfl tq_75 rfl rfl rfl (rd_mrank (ho.mIx hI) ⟨by omega, by omega⟩ (fun rg => ez_K1 ?_))
      obtain ⟨rg0, rg1⟩ := id rg
      have n7 : 2000 ≤ qz_N g 798 ∧ qz_N g 798 ≤ 2000 := ez_len hBg t798 tq_85 rfl
      refine ez_as hBg t798 rfl tq_85 rfl rfl (by omega) (by omega) (ez_vdI rfl rfl (by omega) (by omega)) (fun hB5 w6 => ?_)
      refine ez_go (n := 2) (pc' := 2) (L' := [(1, .inl (k + 1)), (0, .inr (.inr (some (770))))]) (st' := []) rfl ?_
      refine ez_less [(1, .inl (k + 1)), (0, .inr (.inr (some (770))))] rfl ⟨rfl, rfl, trivial⟩ ?_
      refine ih (k + 1) _ (by omega) (by omega) (by omega) (ho.put hB5 (Or.inr t798)) (fun j => (ez_put_I (fun w => absurd w.1 (by decide))).trans (h6 j)) (fun j v hj hv => ?_)
      by_cases ej : (j : Int) = k
      · have e9 : j = k.toNat := by omega
        subst e9
        rw [List.getElem?_eq_getElem l9] at hv
        cases hv
        rw [w6]; exact rz_rd rg
      · rw [ez_put_I (fun w => by omega)]; exact h8 j v (by omega) hv

theorem rd_mord_2 {p0 : Int} (t770 : τ 770 = 75) (hL : qz_I h 770 30 = (L.length : Int)) (nn : ∀ x ∈ L, 0 ≤ x.2) (kx : ∀ g more Lc, orz τ h g → (more = 0 ∨ more = 1) → (p0 ≤ phr h g ∧ (more = 1 → p0 < phr h g)) → prm g Lc → ods L Lc → (more = 0 → nfk Lc (L.length : Int)) → ez_W (d + 2) cm_285 34 [(1, .inl (more)), (0, .inr (.inr (some (770))))] [] g Q) : ∀ (n : Nat) (k more : Int) (g : cz_H) (Lc : List (Int × Int)), (qz_I h 770 30 - k).toNat ≤ n → 1 ≤ k → k ≤ 2001 → orz τ h g → (more = 0 ∨ more = 1) → (p0 ≤ phr h g ∧ (more = 1 → p0 < phr h g)) → prm g Lc → ods L Lc → (more = 0 → nfk Lc k) → ez_W (d + 2) cm_285 42 [(2, .inl (k)), (1, .inl (more)), (0, .inr (.inr (some (770))))] [] g Q := by
  intro n
  induction n with
  | zero =>
    intro k more g Lc hn k0 k2k ho hm1 hph hp hd hz
    have hBg := ho.1
    have s30 := ho.s t770 30
    have b30 : 0 ≤ qz_I g 770 30 ∧ qz_I g 770 30 ≤ 2000 := ez_fB (cl := 11) (k := 30) hBg t770 tq_75 rfl rfl (by decide)
    have mr : ez_rg more := by rcases hm1 with w | w <;> rw [w] <;> exact ⟨by decide, by decide⟩
    have ll := hd.1
    refine ez_go (n := 2) (pc' := 44) (L' := [(2, .inl (k)), (1, .inl (more)), (0, .inr (.inr (some (770))))]) (st' := [.inr (.inr (some (770))), .inl (k)]) rfl ?_
    refine ez_gI hBg t770 rfl rfl tq_75 rfl rfl (fun (b1 : 0 ≤ qz_I g 770 30) (b1' : qz_I g 770 30 ≤ 2000) => ?_)
    refine ez_icmp rfl rfl ⟨by first | exact mr.1 | (clear hm1; omega) | exact (sz_i32 _).1, by first | exact mr.2 | (clear hm1; omega) | exact (sz_i32 _).2⟩ ⟨by first | exact mr.1 | (clear hm1; omega) | exact (sz_i32 _).1, by first | exact mr.2 | (clear hm1; omega) | exact (sz_i32 _).2⟩ (fun (c2 : (qz_I g 770 30) ≤ (k)) => ?_) (fun (c2 : ¬((qz_I g 770 30) ≤ (k))) => ?_)
    · skip
      refine ez_go (n := 1) (pc' := 34) (L' := [(2, .inl (k)), (1, .inl (more)), (0, .inr (.inr (some (770))))]) (st' := []) rfl ?_
      refine ez_less [(1, .inl (more)), (0, .inr (.inr (some (770))))] rfl ⟨rfl, rfl, trivial⟩ ?_
      exact kx g more Lc ho hm1 hph hp hd (fun w j x y hj hx hy => hz w j x y (by have := (List.getElem?_eq_some_iff.mp hy).1; have := hd.1; clear hm1 hph; omega) hx hy)
    · skip
      refine ez_go (n := 1) (pc' := 51) (L' := [(2, .inl (k)), (1, .inl (more)), (0, .inr (.inr (some (770))))]) (st' := [.inr (.inr (some (770)))]) rfl ?_
      refine ez_gC (p := 798) (tg := 85) hBg t770 rfl rfl tq_75 rfl rfl (fun (t798 : _ = 85) => ?_)
      refine ez_go (n := 1) (pc' := 55) (L' := [(2, .inl (k)), (1, .inl (more)), (0, .inr (.inr (some (770))))]) (st' := [.inl (k), .inr (.inr (some (798)))]) rfl ?_
      have n4 : 2000 ≤ qz_N g 798 ∧ qz_N g 798 ≤ 2000 := ez_len hBg t798 tq_85 rfl
      refine ez_aI hBg t798 rfl tq_85 rfl rfl (by omega) (by omega) (fun (b3 : -2147483648 ≤ qz_I g 798 (k).toNat) (b3' : qz_I g 798 (k).toNat ≤ 2147483647) => ?_)
      refine ez_if rfl rfl ⟨by first | exact mr.1 | (clear hm1; omega) | exact (sz_i32 _).1, by first | exact mr.2 | (clear hm1; omega) | exact (sz_i32 _).2⟩ (fun (c5 : (qz_I g 798 (k).toNat) = (0)) => ?_) (fun (c5 : ¬((qz_I g 798 (k).toNat) = (0))) => ?_)
      · skip
        refine ez_go (n := 2) (pc' := 42) (L' := [(2, .inl (k + 1)), (1, .inl (more)), (0, .inr (.inr (some (770))))]) (st' := []) rfl ?_
        exfalso; clear hm1; omega
      · skip
        refine ez_go (n := 1) (pc' := 60) (L' := [(2, .inl (k)), (1, .inl (more)), (0, .inr (.inr (some (770))))]) (st' := [.inr (.inr (some (770)))]) rfl ?_
        refine ez_gC (p := 798) (tg := 85) hBg t770 rfl rfl tq_75 rfl rfl (fun (t798 : _ = 85) => ?_)
        refine ez_go (n := 3) (pc' := 66) (L' := [(2, .inl (k)), (1, .inl (more)), (0, .inr (.inr (some (770))))]) (st' := [.inl ((k) - (1)), .inr (.inr (some (798)))]) rfl ?_
        have n7 : 2000 ≤ qz_N g 798 ∧ qz_N g 798 ≤ 2000 := ez_len hBg t798 tq_85 rfl
        refine ez_aI hBg t798 rfl tq_85 rfl rfl (by omega) (by omega) (fun (b6 : -2147483648 ≤ qz_I g 798 ((k) - (1)).toNat) (b6' : qz_I g 798 ((k) - (1)).toNat ≤ 2147483647) => ?_)
        refine ez_go (n := 1) (pc' := 68) (L' := [(2, .inl (k)), (1, .inl (more)), (0, .inr (.inr (some (770))))]) (st' := [.inr (.inr (some (770))), .inl (qz_I g 798 ((k) - (1)).toNat)]) rfl ?_
        refine ez_gC (p := 798) (tg := 85) hBg t770 rfl rfl tq_75 rfl rfl (fun (t798 : _ = 85) => ?_)
        refine ez_go (n := 1) (pc' := 72) (L' := [(2, .inl (k)), (1, .inl (more)), (0, .inr (.inr (some (770))))]) (st' := [.inl (k), .inr (.inr (some (798))), .inl (qz_I g 798 ((k) - (1)).toNat)]) rfl ?_
        have n9 : 2000 ≤ qz_N g 798 ∧ qz_N g 798 ≤ 2000 := ez_len hBg t798 tq_85 rfl
        refine ez_aI hBg t798 rfl tq_85 rfl rfl (by omega) (by omega) (fun (b8 : -2147483648 ≤ qz_I g 798 (k).toNat) (b8' : qz_I g 798 (k).toNat ≤ 2147483647) => ?_)
        refine ez_icmp rfl rfl ⟨by first | exact mr.1 | (clear hm1; omega) | exact (sz_i32 _).1, by first | exact mr.2 | (clear hm1; omega) | exact (sz_i32 _).2⟩ ⟨by first | exact mr.1 | (clear hm1; omega) | exact (sz_i32 _).1, by first | exact mr.2 | (clear hm1; omega) | exact (sz_i32 _).2⟩ (fun (c10 : (qz_I g 798 (k).toNat) < (qz_I g 798 ((k) - (1)).toNat)) => ?_) (fun (c10 : ¬((qz_I g 798 (k).toNat) < (qz_I g 798 ((k) - (1)).toNat))) => ?_)
        · skip
          refine ez_go (n := 1) (pc' := 80) (L' := [(2, .inl (k)), (1, .inl (more)), (0, .inr (.inr (some (770))))]) (st' := [.inr (.inr (some (770)))]) rfl ?_
          refine ez_gC (p := 796) (tg := 83) hBg t770 rfl rfl tq_75 rfl rfl (fun (t796 : _ = 83) => ?_)
          refine ez_go (n := 1) (pc' := 84) (L' := [(2, .inl (k)), (1, .inl (more)), (0, .inr (.inr (some (770))))]) (st' := [.inl (k), .inr (.inr (some (796)))]) rfl ?_
          have n12 : 2000 ≤ qz_N g 796 ∧ qz_N g 796 ≤ 2000 := ez_len hBg t796 tq_83 rfl
          refine ez_aI hBg t796 rfl tq_83 rfl rfl (by omega) (by omega) (fun (b11 : -2147483648 ≤ qz_I g 796 (k).toNat) (b11' : qz_I g 796 (k).toNat ≤ 2147483647) => ?_)
          refine ez_go (n := 2) (pc' := 87) (L' := [(3, .inl (qz_I g 796 (k).toNat)), (2, .inl (k)), (1, .inl (more)), (0, .inr (.inr (some (770))))]) (st' := [.inr (.inr (some (770)))]) rfl ?_
          refine ez_gC (p := 796) (tg := 83) hBg t770 rfl rfl tq_75 rfl rfl (fun (t796 : _ = 83) => ?_)
          refine ez_go (n := 2) (pc' := 92) (L' := [(3, .inl (qz_I g 796 (k).toNat)), (2, .inl (k)), (1, .inl (more)), (0, .inr (.inr (some (770))))]) (st' := [.inr (.inr (some (770))), .inl (k), .inr (.inr (some (796)))]) rfl ?_
          refine ez_gC (p := 796) (tg := 83) hBg t770 rfl rfl tq_75 rfl rfl (fun (t796 : _ = 83) => ?_)
          refine ez_go (n := 3) (pc' := 98) (L' := [(3, .inl (qz_I g 796 (k).toNat)), (2, .inl (k)), (1, .inl (more)), (0, .inr (.inr (some (770))))]) (st' := [.inl ((k) - (1)), .inr (.inr (some (796))), .inl (k), .inr (.inr (some (796)))]) rfl ?_
          have n14 : 2000 ≤ qz_N g 796 ∧ qz_N g 796 ≤ 2000 := ez_len hBg t796 tq_83 rfl
          refine ez_aI hBg t796 rfl tq_83 rfl rfl (by omega) (by omega) (fun (b13 : -2147483648 ≤ qz_I g 796 ((k) - (1)).toNat) (b13' : qz_I g 796 ((k) - (1)).toNat ≤ 2147483647) => ?_)
          have n17 : 2000 ≤ qz_N g 796 ∧ qz_N g 796 ≤ 2000 := ez_len hBg t796 tq_83 rfl
          refine ez_as hBg t796 rfl tq_83 rfl rfl (by omega) (by omega) (ez_vdI rfl rfl (by omega) (by omega)) (fun hB15 w16 => ?_)
          have oa : orz τ h (dz_put g 796 (k).toNat (ez_v (.inl (qz_I g 796 ((k) - (1)).toNat)))) := ho.put hB15 (Or.inl t796)
          have va : qz_I (dz_put g 796 (k).toNat (ez_v (.inl (qz_I g 796 ((k) - (1)).toNat)))) 796 (k).toNat = qz_I g 796 (k - 1).toNat := w16.trans (rz_rd ⟨by clear hm1; omega, by clear hm1; omega⟩)
          have sa : ∀ j, j ≠ (k).toNat → qz_I (dz_put g 796 (k).toNat (ez_v (.inl (qz_I g 796 ((k) - (1)).toNat)))) 796 j = qz_I g 796 j := fun j hj => ez_put_I (fun w => hj w.2)
          have xa : ∀ j, qz_I (dz_put g 796 (k).toNat (ez_v (.inl (qz_I g 796 ((k) - (1)).toNat)))) 798 j = qz_I g 798 j := fun j => ez_put_I (fun w => absurd w.1 (by decide))
          have hBma := hB15
          generalize (dz_put g 796 (k).toNat (ez_v (.inl (qz_I g 796 ((k) - (1)).toNat)))) = na at *
          refine ez_go (n := 1) (pc' := 101) (L' := [(3, .inl (qz_I g 796 (k).toNat)), (2, .inl (k)), (1, .inl (more)), (0, .inr (.inr (some (770))))]) (st' := [.inr (.inr (some (770)))]) rfl ?_
          refine ez_gC (p := 796) (tg := 83) hBma t770 rfl rfl tq_75 rfl rfl (fun (t796 : _ = 83) => ?_)
          refine ez_go (n := 4) (pc' := 108) (L' := [(3, .inl (qz_I g 796 (k).toNat)), (2, .inl (k)), (1, .inl (more)), (0, .inr (.inr (some (770))))]) (st' := [.inl (qz_I g 796 (k).toNat), .inl ((k) - (1)), .inr (.inr (some (796)))]) rfl ?_
          have n20 : 2000 ≤ qz_N na 796 ∧ qz_N na 796 ≤ 2000 := ez_len hBma t796 tq_83 rfl
          refine ez_as hBma t796 rfl tq_83 rfl rfl (by omega) (by omega) (ez_vdI rfl rfl (by omega) (by omega)) (fun hB18 w19 => ?_)
          have ob : orz τ h (dz_put na 796 ((k) - (1)).toNat (ez_v (.inl (qz_I g 796 (k).toNat)))) := oa.put hB18 (Or.inl t796)
          have vb : qz_I (dz_put na 796 ((k) - (1)).toNat (ez_v (.inl (qz_I g 796 (k).toNat)))) 796 (k - 1).toNat = qz_I g 796 k.toNat := w19.trans (rz_rd ⟨by clear hm1; omega, by clear hm1; omega⟩)
          have sb : ∀ j, j ≠ (k - 1).toNat → qz_I (dz_put na 796 ((k) - (1)).toNat (ez_v (.inl (qz_I g 796 (k).toNat)))) 796 j = qz_I na 796 j := fun j hj => ez_put_I (fun w => hj w.2)
          have xb : ∀ j, qz_I (dz_put na 796 ((k) - (1)).toNat (ez_v (.inl (qz_I g 796 (k).toNat)))) 798 j = qz_I na 798 j := fun j => ez_put_I (fun w => absurd w.1 (by decide))
          have hBmb := hB18
          generalize (dz_put na 796 ((k) - (1)).toNat (ez_v (.inl (qz_I g 796 (k).toNat)))) = nb at *
          refine ez_go (n := 1) (pc' := 110) (L' := [(3, .inl (qz_I g 796 (k).toNat)), (2, .inl (k)), (1, .inl (more)), (0, .inr (.inr (some (770))))]) (st' := [.inr (.inr (some (770)))]) rfl ?_
          refine ez_gC (p := 798) (tg := 85) hBmb t770 rfl rfl tq_75 rfl rfl (fun (t798 : _ = 85) => ?_)
          refine ez_go (n := 1) (pc' := 114) (L' := [(3, .inl (qz_I g 796 (k).toNat)), (2, .inl (k)), (1, .inl (more)), (0, .inr (.inr (some (770))))]) (st' := [.inl (k), .inr (.inr (some (798)))]) rfl ?_
          have n22 : 2000 ≤ qz_N nb 798 ∧ qz_N nb 798 ≤ 2000 := ez_len hBmb t798 tq_85 rfl
          refine ez_aI hBmb t798 rfl tq_85 rfl rfl (by omega) (by omega) (fun (b21 : -2147483648 ≤ qz_I nb 798 (k).toNat) (b21' : qz_I nb 798 (k).toNat ≤ 2147483647) => ?_)
          rw [show qz_I nb 798 (k).toNat = qz_I g 798 k.toNat by rw [xb, xa]]
          refine ez_go (n := 2) (pc' := 118) (L' := [(4, .inl (qz_I g 798 k.toNat)), (3, .inl (qz_I g 796 (k).toNat)), (2, .inl (k)), (1, .inl (more)), (0, .inr (.inr (some (770))))]) (st' := [.inr (.inr (some (770)))]) rfl ?_
          refine ez_gC (p := 798) (tg := 85) hBmb t770 rfl rfl tq_75 rfl rfl (fun (t798 : _ = 85) => ?_)
          refine ez_go (n := 2) (pc' := 123) (L' := [(4, .inl (qz_I g 798 k.toNat)), (3, .inl (qz_I g 796 (k).toNat)), (2, .inl (k)), (1, .inl (more)), (0, .inr (.inr (some (770))))]) (st' := [.inr (.inr (some (770))), .inl (k), .inr (.inr (some (798)))]) rfl ?_
          refine ez_gC (p := 798) (tg := 85) hBmb t770 rfl rfl tq_75 rfl rfl (fun (t798 : _ = 85) => ?_)
          refine ez_go (n := 3) (pc' := 129) (L' := [(4, .inl (qz_I g 798 k.toNat)), (3, .inl (qz_I g 796 (k).toNat)), (2, .inl (k)), (1, .inl (more)), (0, .inr (.inr (some (770))))]) (st' := [.inl ((k) - (1)), .inr (.inr (some (798))), .inl (k), .inr (.inr (some (798)))]) rfl ?_
          have n24 : 2000 ≤ qz_N nb 798 ∧ qz_N nb 798 ≤ 2000 := ez_len hBmb t798 tq_85 rfl
          refine ez_aI hBmb t798 rfl tq_85 rfl rfl (by omega) (by omega) (fun (b23 : -2147483648 ≤ qz_I nb 798 ((k) - (1)).toNat) (b23' : qz_I nb 798 ((k) - (1)).toNat ≤ 2147483647) => ?_)
          have n27 : 2000 ≤ qz_N nb 798 ∧ qz_N nb 798 ≤ 2000 := ez_len hBmb t798 tq_85 rfl
          refine ez_as hBmb t798 rfl tq_85 rfl rfl (by omega) (by omega) (ez_vdI rfl rfl (by omega) (by omega)) (fun hB25 w26 => ?_)
          have oc : orz τ h (dz_put nb 798 (k).toNat (ez_v (.inl (qz_I nb 798 ((k) - (1)).toNat)))) := ob.put hB25 (Or.inr t798)
          have vc : qz_I (dz_put nb 798 (k).toNat (ez_v (.inl (qz_I nb 798 ((k) - (1)).toNat)))) 798 (k).toNat = qz_I nb 798 (k - 1).toNat := w26.trans (rz_rd ⟨by clear hm1; omega, by clear hm1; omega⟩)
          have sc : ∀ j, j ≠ (k).toNat → qz_I (dz_put nb 798 (k).toNat (ez_v (.inl (qz_I nb 798 ((k) - (1)).toNat)))) 798 j = qz_I nb 798 j := fun j hj => ez_put_I (fun w => hj w.2)
          have xc : ∀ j, qz_I (dz_put nb 798 (k).toNat (ez_v (.inl (qz_I nb 798 ((k) - (1)).toNat)))) 796 j = qz_I nb 796 j := fun j => ez_put_I (fun w => absurd w.1 (by decide))
          have hBmc := hB25
          generalize (dz_put nb 798 (k).toNat (ez_v (.inl (qz_I nb 798 ((k) - (1)).toNat)))) = nc at *
          refine ez_go (n := 1) (pc' := 132) (L' := [(4, .inl (qz_I g 798 k.toNat)), (3, .inl (qz_I g 796 (k).toNat)), (2, .inl (k)), (1, .inl (more)), (0, .inr (.inr (some (770))))]) (st' := [.inr (.inr (some (770)))]) rfl ?_
          refine ez_gC (p := 798) (tg := 85) hBmc t770 rfl rfl tq_75 rfl rfl (fun (t798 : _ = 85) => ?_)
          refine ez_go (n := 4) (pc' := 140) (L' := [(4, .inl (qz_I g 798 k.toNat)), (3, .inl (qz_I g 796 (k).toNat)), (2, .inl (k)), (1, .inl (more)), (0, .inr (.inr (some (770))))]) (st' := [.inl (qz_I g 798 k.toNat), .inl ((k) - (1)), .inr (.inr (some (798)))]) rfl ?_
          have n30 : 2000 ≤ qz_N nc 798 ∧ qz_N nc 798 ≤ 2000 := ez_len hBmc t798 tq_85 rfl
          refine ez_as hBmc t798 rfl tq_85 rfl rfl (by omega) (by omega) (ez_vdI rfl rfl (by omega) (by omega)) (fun hB28 w29 => ?_)
          have od : orz τ h (dz_put nc 798 ((k) - (1)).toNat (ez_v (.inl (qz_I g 798 k.toNat)))) := oc.put hB28 (Or.inr t798)
          have vd : qz_I (dz_put nc 798 ((k) - (1)).toNat (ez_v (.inl (qz_I g 798 k.toNat)))) 798 (k - 1).toNat = qz_I g 798 k.toNat := w29.trans (rz_rd ⟨by clear hm1; omega, by clear hm1; omega⟩)
          have sd : ∀ j, j ≠ (k - 1).toNat → qz_I (dz_put nc 798 ((k) - (1)).toNat (ez_v (.inl (qz_I g 798 k.toNat)))) 798 j = qz_I nc 798 j := fun j hj => ez_put_I (fun w => hj w.2)
          have xd : ∀ j, qz_I (dz_put nc 798 ((k) - (1)).toNat (ez_v (.inl (qz_I g 798 k.toNat)))) 796 j = qz_I nc 796 j := fun j => ez_put_I (fun w => absurd w.1 (by decide))
          have hBmd := hB28
          generalize (dz_put nc 798 ((k) - (1)).toNat (ez_v (.inl (qz_I g 798 k.toNat)))) = nd at *
          refine ez_go (n := 4) (pc' := 42) (L' := [(2, .inl (k + 1)), (1, .inl (1)), (4, .inl (qz_I g 798 k.toNat)), (3, .inl (qz_I g 796 (k).toNat)), (0, .inr (.inr (some (770))))]) (st' := []) rfl ?_
          exfalso; clear hm1; omega
        · skip
          refine ez_go (n := 3) (pc' := 42) (L' := [(2, .inl (k + 1)), (1, .inl (more)), (0, .inr (.inr (some (770))))]) (st' := []) rfl ?_
          exfalso; clear hm1; omega
  | succ n ih =>
    intro k more g Lc hn k0 k2k ho hm1 hph hp hd hz
    have hBg := ho.1
    have s30 := ho.s t770 30
    have b30 : 0 ≤ qz_I g 770 30 ∧ qz_I g 770 30 ≤ 2000 := ez_fB (cl := 11) (k := 30) hBg t770 tq_75 rfl rfl (by decide)
    have mr : ez_rg more := by rcases hm1 with w | w <;> rw [w] <;> exact ⟨by decide, by decide⟩
    have ll := hd.1
    refine ez_go (n := 2) (pc' := 44) (L' := [(2, .inl (k)), (1, .inl (more)), (0, .inr (.inr (some (770))))]) (st' := [.inr (.inr (some (770))), .inl (k)]) rfl ?_
    refine ez_gI hBg t770 rfl rfl tq_75 rfl rfl (fun (b1 : 0 ≤ qz_I g 770 30) (b1' : qz_I g 770 30 ≤ 2000) => ?_)
    refine ez_icmp rfl rfl ⟨by first | exact mr.1 | (clear hm1; omega) | exact (sz_i32 _).1, by first | exact mr.2 | (clear hm1; omega) | exact (sz_i32 _).2⟩ ⟨by first | exact mr.1 | (clear hm1; omega) | exact (sz_i32 _).1, by first | exact mr.2 | (clear hm1; omega) | exact (sz_i32 _).2⟩ (fun (c2 : (qz_I g 770 30) ≤ (k)) => ?_) (fun (c2 : ¬((qz_I g 770 30) ≤ (k))) => ?_)
    · skip
      refine ez_go (n := 1) (pc' := 34) (L' := [(2, .inl (k)), (1, .inl (more)), (0, .inr (.inr (some (770))))]) (st' := []) rfl ?_
      refine ez_less [(1, .inl (more)), (0, .inr (.inr (some (770))))] rfl ⟨rfl, rfl, trivial⟩ ?_
      exact kx g more Lc ho hm1 hph hp hd (fun w j x y hj hx hy => hz w j x y (by have := (List.getElem?_eq_some_iff.mp hy).1; have := hd.1; clear hm1 hph; omega) hx hy)
    · skip
      refine ez_go (n := 1) (pc' := 51) (L' := [(2, .inl (k)), (1, .inl (more)), (0, .inr (.inr (some (770))))]) (st' := [.inr (.inr (some (770)))]) rfl ?_
      refine ez_gC (p := 798) (tg := 85) hBg t770 rfl rfl tq_75 rfl rfl (fun (t798 : _ = 85) => ?_)
      refine ez_go (n := 1) (pc' := 55) (L' := [(2, .inl (k)), (1, .inl (more)), (0, .inr (.inr (some (770))))]) (st' := [.inl (k), .inr (.inr (some (798)))]) rfl ?_
      have n4 : 2000 ≤ qz_N g 798 ∧ qz_N g 798 ≤ 2000 := ez_len hBg t798 tq_85 rfl
      refine ez_aI hBg t798 rfl tq_85 rfl rfl (by omega) (by omega) (fun (b3 : -2147483648 ≤ qz_I g 798 (k).toNat) (b3' : qz_I g 798 (k).toNat ≤ 2147483647) => ?_)
      refine ez_if rfl rfl ⟨by first | exact mr.1 | (clear hm1; omega) | exact (sz_i32 _).1, by first | exact mr.2 | (clear hm1; omega) | exact (sz_i32 _).2⟩ (fun (c5 : (qz_I g 798 (k).toNat) = (0)) => ?_) (fun (c5 : ¬((qz_I g 798 (k).toNat) = (0))) => ?_)
      · skip
        refine ez_go (n := 2) (pc' := 42) (L' := [(2, .inl (k + 1)), (1, .inl (more)), (0, .inr (.inr (some (770))))]) (st' := []) rfl ?_
        refine ez_less [(2, .inl (k + 1)), (1, .inl (more)), (0, .inr (.inr (some (770))))] rfl ⟨rfl, rfl, rfl, trivial⟩ ?_
        refine ih (k + 1) more g Lc (by clear hm1; omega) (by clear hm1; omega) (by clear hm1; omega) ho hm1 hph hp hd (fun w j x y hj hx hy => ?_)
        by_cases ej : (j : Int) + 1 < k
        · exact hz w j x y ej hx hy
        · have ex := (hp j x hx).2
          have ey := (hp (j + 1) y hy).2
          rw [show j = (k - 1).toNat by clear hm1 hph; omega] at ex
          rw [show j + 1 = k.toNat by clear hm1 hph; omega] at ey
          clear hm1 hph
          omega
      · skip
        refine ez_go (n := 1) (pc' := 60) (L' := [(2, .inl (k)), (1, .inl (more)), (0, .inr (.inr (some (770))))]) (st' := [.inr (.inr (some (770)))]) rfl ?_
        refine ez_gC (p := 798) (tg := 85) hBg t770 rfl rfl tq_75 rfl rfl (fun (t798 : _ = 85) => ?_)
        refine ez_go (n := 3) (pc' := 66) (L' := [(2, .inl (k)), (1, .inl (more)), (0, .inr (.inr (some (770))))]) (st' := [.inl ((k) - (1)), .inr (.inr (some (798)))]) rfl ?_
        have n7 : 2000 ≤ qz_N g 798 ∧ qz_N g 798 ≤ 2000 := ez_len hBg t798 tq_85 rfl
        refine ez_aI hBg t798 rfl tq_85 rfl rfl (by omega) (by omega) (fun (b6 : -2147483648 ≤ qz_I g 798 ((k) - (1)).toNat) (b6' : qz_I g 798 ((k) - (1)).toNat ≤ 2147483647) => ?_)
        refine ez_go (n := 1) (pc' := 68) (L' := [(2, .inl (k)), (1, .inl (more)), (0, .inr (.inr (some (770))))]) (st' := [.inr (.inr (some (770))), .inl (qz_I g 798 ((k) - (1)).toNat)]) rfl ?_
        refine ez_gC (p := 798) (tg := 85) hBg t770 rfl rfl tq_75 rfl rfl (fun (t798 : _ = 85) => ?_)
        refine ez_go (n := 1) (pc' := 72) (L' := [(2, .inl (k)), (1, .inl (more)), (0, .inr (.inr (some (770))))]) (st' := [.inl (k), .inr (.inr (some (798))), .inl (qz_I g 798 ((k) - (1)).toNat)]) rfl ?_
        have n9 : 2000 ≤ qz_N g 798 ∧ qz_N g 798 ≤ 2000 := ez_len hBg t798 tq_85 rfl
        refine ez_aI hBg t798 rfl tq_85 rfl rfl (by omega) (by omega) (fun (b8 : -2147483648 ≤ qz_I g 798 (k).toNat) (b8' : qz_I g 798 (k).toNat ≤ 2147483647) => ?_)
        refine ez_icmp rfl rfl ⟨by first | exact mr.1 | (clear hm1; omega) | exact (sz_i32 _).1, by first | exact mr.2 | (clear hm1; omega) | exact (sz_i32 _).2⟩ ⟨by first | exact mr.1 | (clear hm1; omega) | exact (sz_i32 _).1, by first | exact mr.2 | (clear hm1; omega) | exact (sz_i32 _).2⟩ (fun (c10 : (qz_I g 798 (k).toNat) < (qz_I g 798 ((k) - (1)).toNat)) => ?_) (fun (c10 : ¬((qz_I g 798 (k).toNat) < (qz_I g 798 ((k) - (1)).toNat))) => ?_)
        · skip
          refine ez_go (n := 1) (pc' := 80) (L' := [(2, .inl (k)), (1, .inl (more)), (0, .inr (.inr (some (770))))]) (st' := [.inr (.inr (some (770)))]) rfl ?_
          refine ez_gC (p := 796) (tg := 83) hBg t770 rfl rfl tq_75 rfl rfl (fun (t796 : _ = 83) => ?_)
          refine ez_go (n := 1) (pc' := 84) (L' := [(2, .inl (k)), (1, .inl (more)), (0, .inr (.inr (some (770))))]) (st' := [.inl (k), .inr (.inr (some (796)))]) rfl ?_
          have n12 : 2000 ≤ qz_N g 796 ∧ qz_N g 796 ≤ 2000 := ez_len hBg t796 tq_83 rfl
          refine ez_aI hBg t796 rfl tq_83 rfl rfl (by omega) (by omega) (fun (b11 : -2147483648 ≤ qz_I g 796 (k).toNat) (b11' : qz_I g 796 (k).toNat ≤ 2147483647) => ?_)
          refine ez_go (n := 2) (pc' := 87) (L' := [(3, .inl (qz_I g 796 (k).toNat)), (2, .inl (k)), (1, .inl (more)), (0, .inr (.inr (some (770))))]) (st' := [.inr (.inr (some (770)))]) rfl ?_
          refine ez_gC (p := 796) (tg := 83) hBg t770 rfl rfl tq_75 rfl rfl (fun (t796 : _ = 83) => ?_)
          refine ez_go (n := 2) (pc' := 92) (L' := [(3, .inl (qz_I g 796 (k).toNat)), (2, .inl (k)), (1, .inl (more)), (0, .inr (.inr (some (770))))]) (st' := [.inr (.inr (some (770))), .inl (k), .inr (.inr (some (796)))]) rfl ?_
          refine ez_gC (p := 796) (tg := 83) hBg t770 rfl rfl tq_75 rfl rfl (fun (t796 : _ = 83) => ?_)
          refine ez_go (n := 3) (pc' := 98) (L' := [(3, .inl (qz_I g 796 (k).toNat)), (2, .inl (k)), (1, .inl (more)), (0, .inr (.inr (some (770))))]) (st' := [.inl ((k) - (1)), .inr (.inr (some (796))), .inl (k), .inr (.inr (some (796)))]) rfl ?_
          have n14 : 2000 ≤ qz_N g 796 ∧ qz_N g 796 ≤ 2000 := ez_len hBg t796 tq_83 rfl
          refine ez_aI hBg t796 rfl tq_83 rfl rfl (by omega) (by omega) (fun (b13 : -2147483648 ≤ qz_I g 796 ((k) - (1)).toNat) (b13' : qz_I g 796 ((k) - (1)).toNat ≤ 2147483647) => ?_)
          have n17 : 2000 ≤ qz_N g 796 ∧ qz_N g 796 ≤ 2000 := ez_len hBg t796 tq_83 rfl
          refine ez_as hBg t796 rfl tq_83 rfl rfl (by omega) (by omega) (ez_vdI rfl rfl (by omega) (by omega)) (fun hB15 w16 => ?_)
          have oa : orz τ h (dz_put g 796 (k).toNat (ez_v (.inl (qz_I g 796 ((k) - (1)).toNat)))) := ho.put hB15 (Or.inl t796)
          have va : qz_I (dz_put g 796 (k).toNat (ez_v (.inl (qz_I g 796 ((k) - (1)).toNat)))) 796 (k).toNat = qz_I g 796 (k - 1).toNat := w16.trans (rz_rd ⟨by clear hm1; omega, by clear hm1; omega⟩)
          have sa : ∀ j, j ≠ (k).toNat → qz_I (dz_put g 796 (k).toNat (ez_v (.inl (qz_I g 796 ((k) - (1)).toNat)))) 796 j = qz_I g 796 j := fun j hj => ez_put_I (fun w => hj w.2)
          have xa : ∀ j, qz_I (dz_put g 796 (k).toNat (ez_v (.inl (qz_I g 796 ((k) - (1)).toNat)))) 798 j = qz_I g 798 j := fun j => ez_put_I (fun w => absurd w.1 (by decide))
          have hBma := hB15
          generalize (dz_put g 796 (k).toNat (ez_v (.inl (qz_I g 796 ((k) - (1)).toNat)))) = na at *
          refine ez_go (n := 1) (pc' := 101) (L' := [(3, .inl (qz_I g 796 (k).toNat)), (2, .inl (k)), (1, .inl (more)), (0, .inr (.inr (some (770))))]) (st' := [.inr (.inr (some (770)))]) rfl ?_
          refine ez_gC (p := 796) (tg := 83) hBma t770 rfl rfl tq_75 rfl rfl (fun (t796 : _ = 83) => ?_)
          refine ez_go (n := 4) (pc' := 108) (L' := [(3, .inl (qz_I g 796 (k).toNat)), (2, .inl (k)), (1, .inl (more)), (0, .inr (.inr (some (770))))]) (st' := [.inl (qz_I g 796 (k).toNat), .inl ((k) - (1)), .inr (.inr (some (796)))]) rfl ?_
          have n20 : 2000 ≤ qz_N na 796 ∧ qz_N na 796 ≤ 2000 := ez_len hBma t796 tq_83 rfl
          refine ez_as hBma t796 rfl tq_83 rfl rfl (by omega) (by omega) (ez_vdI rfl rfl (by omega) (by omega)) (fun hB18 w19 => ?_)
          have ob : orz τ h (dz_put na 796 ((k) - (1)).toNat (ez_v (.inl (qz_I g 796 (k).toNat)))) := oa.put hB18 (Or.inl t796)
          have vb : qz_I (dz_put na 796 ((k) - (1)).toNat (ez_v (.inl (qz_I g 796 (k).toNat)))) 796 (k - 1).toNat = qz_I g 796 k.toNat := w19.trans (rz_rd ⟨by clear hm1; omega, by clear hm1; omega⟩)
          have sb : ∀ j, j ≠ (k - 1).toNat → qz_I (dz_put na 796 ((k) - (1)).toNat (ez_v (.inl (qz_I g 796 (k).toNat)))) 796 j = qz_I na 796 j := fun j hj => ez_put_I (fun w => hj w.2)
          have xb : ∀ j, qz_I (dz_put na 796 ((k) - (1)).toNat (ez_v (.inl (qz_I g 796 (k).toNat)))) 798 j = qz_I na 798 j := fun j => ez_put_I (fun w => absurd w.1 (by decide))
          have hBmb := hB18
          generalize (dz_put na 796 ((k) - (1)).toNat (ez_v (.inl (qz_I g 796 (k).toNat)))) = nb at *
          refine ez_go (n := 1) (pc' := 110) (L' := [(3, .inl (qz_I g 796 (k).toNat)), (2, .inl (k)), (1, .inl (more)), (0, .inr (.inr (some (770))))]) (st' := [.inr (.inr (some (770)))]) rfl ?_
          refine ez_gC (p := 798) (tg := 85) hBmb t770 rfl rfl tq_75 rfl rfl (fun (t798 : _ = 85) => ?_)
          refine ez_go (n := 1) (pc' := 114) (L' := [(3, .inl (qz_I g 796 (k).toNat)), (2, .inl (k)), (1, .inl (more)), (0, .inr (.inr (some (770))))]) (st' := [.inl (k), .inr (.inr (some (798)))]) rfl ?_
          have n22 : 2000 ≤ qz_N nb 798 ∧ qz_N nb 798 ≤ 2000 := ez_len hBmb t798 tq_85 rfl
          refine ez_aI hBmb t798 rfl tq_85 rfl rfl (by omega) (by omega) (fun (b21 : -2147483648 ≤ qz_I nb 798 (k).toNat) (b21' : qz_I nb 798 (k).toNat ≤ 2147483647) => ?_)
          rw [show qz_I nb 798 (k).toNat = qz_I g 798 k.toNat by rw [xb, xa]]
          refine ez_go (n := 2) (pc' := 118) (L' := [(4, .inl (qz_I g 798 k.toNat)), (3, .inl (qz_I g 796 (k).toNat)), (2, .inl (k)), (1, .inl (more)), (0, .inr (.inr (some (770))))]) (st' := [.inr (.inr (some (770)))]) rfl ?_
          refine ez_gC (p := 798) (tg := 85) hBmb t770 rfl rfl tq_75 rfl rfl (fun (t798 : _ = 85) => ?_)
          refine ez_go (n := 2) (pc' := 123) (L' := [(4, .inl (qz_I g 798 k.toNat)), (3, .inl (qz_I g 796 (k).toNat)), (2, .inl (k)), (1, .inl (more)), (0, .inr (.inr (some (770))))]) (st' := [.inr (.inr (some (770))), .inl (k), .inr (.inr (some (798)))]) rfl ?_
          refine ez_gC (p := 798) (tg := 85) hBmb t770 rfl rfl tq_75 rfl rfl (fun (t798 : _ = 85) => ?_)
          refine ez_go (n := 3) (pc' := 129) (L' := [(4, .inl (qz_I g 798 k.toNat)), (3, .inl (qz_I g 796 (k).toNat)), (2, .inl (k)), (1, .inl (more)), (0, .inr (.inr (some (770))))]) (st' := [.inl ((k) - (1)), .inr (.inr (some (798))), .inl (k), .inr (.inr (some (798)))]) rfl ?_
          have n24 : 2000 ≤ qz_N nb 798 ∧ qz_N nb 798 ≤ 2000 := ez_len hBmb t798 tq_85 rfl
          refine ez_aI hBmb t798 rfl tq_85 rfl rfl (by omega) (by omega) (fun (b23 : -2147483648 ≤ qz_I nb 798 ((k) - (1)).toNat) (b23' : qz_I nb 798 ((k) - (1)).toNat ≤ 2147483647) => ?_)
          have n27 : 2000 ≤ qz_N nb 798 ∧ qz_N nb 798 ≤ 2000 := ez_len hBmb t798 tq_85 rfl
          refine ez_as hBmb t798 rfl tq_85 rfl rfl (by omega) (by omega) (ez_vdI rfl rfl (by omega) (by omega)) (fun hB25 w26 => ?_)
          have oc : orz τ h (dz_put nb 798 (k).toNat (ez_v (.inl (qz_I nb 798 ((k) - (1)).toNat)))) := ob.put hB25 (Or.inr t798)
          have vc : qz_I (dz_put nb 798 (k).toNat (ez_v (.inl (qz_I nb 798 ((k) - (1)).toNat)))) 798 (k).toNat = qz_I nb 798 (k - 1).toNat := w26.trans (rz_rd ⟨by clear hm1; omega, by clear hm1; omega⟩)
          have sc : ∀ j, j ≠ (k).toNat → qz_I (dz_put nb 798 (k).toNat (ez_v (.inl (qz_I nb 798 ((k) - (1)).toNat)))) 798 j = qz_I nb 798 j := fun j hj => ez_put_I (fun w => hj w.2)
          have xc : ∀ j, qz_I (dz_put nb 798 (k).toNat (ez_v (.inl (qz_I nb 798 ((k) - (1)).toNat)))) 796 j = qz_I nb 796 j := fun j => ez_put_I (fun w => absurd w.1 (by decide))
          have hBmc := hB25
          generalize (dz_put nb 798 (k).toNat (ez_v (.inl (qz_I nb 798 ((k) - (1)).toNat)))) = nc at *
          refine ez_go (n := 1) (pc' := 132) (L' := [(4, .inl (qz_I g 798 k.toNat)), (3, .inl (qz_I g 796 (k).toNat)), (2, .inl (k)), (1, .inl (more)), (0, .inr (.inr (some (770))))]) (st' := [.inr (.inr (some (770)))]) rfl ?_
          refine ez_gC (p := 798) (tg := 85) hBmc t770 rfl rfl tq_75 rfl rfl (fun (t798 : _ = 85) => ?_)
          refine ez_go (n := 4) (pc' := 140) (L' := [(4, .inl (qz_I g 798 k.toNat)), (3, .inl (qz_I g 796 (k).toNat)), (2, .inl (k)), (1, .inl (more)), (0, .inr (.inr (some (770))))]) (st' := [.inl (qz_I g 798 k.toNat), .inl ((k) - (1)), .inr (.inr (some (798)))]) rfl ?_
          have n30 : 2000 ≤ qz_N nc 798 ∧ qz_N nc 798 ≤ 2000 := ez_len hBmc t798 tq_85 rfl
          refine ez_as hBmc t798 rfl tq_85 rfl rfl (by omega) (by omega) (ez_vdI rfl rfl (by omega) (by omega)) (fun hB28 w29 => ?_)
          have od : orz τ h (dz_put nc 798 ((k) - (1)).toNat (ez_v (.inl (qz_I g 798 k.toNat)))) := oc.put hB28 (Or.inr t798)
          have vd : qz_I (dz_put nc 798 ((k) - (1)).toNat (ez_v (.inl (qz_I g 798 k.toNat)))) 798 (k - 1).toNat = qz_I g 798 k.toNat := w29.trans (rz_rd ⟨by clear hm1; omega, by clear hm1; omega⟩)
          have sd : ∀ j, j ≠ (k - 1).toNat → qz_I (dz_put nc 798 ((k) - (1)).toNat (ez_v (.inl (qz_I g 798 k.toNat)))) 798 j = qz_I nc 798 j := fun j hj => ez_put_I (fun w => hj w.2)
          have xd : ∀ j, qz_I (dz_put nc 798 ((k) - (1)).toNat (ez_v (.inl (qz_I g 798 k.toNat)))) 796 j = qz_I nc 796 j := fun j => ez_put_I (fun w => absurd w.1 (by decide))
          have hBmd := hB28
          generalize (dz_put nc 798 ((k) - (1)).toNat (ez_v (.inl (qz_I g 798 k.toNat)))) = nd at *
          refine ez_go (n := 4) (pc' := 42) (L' := [(2, .inl (k + 1)), (1, .inl (1)), (4, .inl (qz_I g 798 k.toNat)), (3, .inl (qz_I g 796 (k).toNat)), (0, .inr (.inr (some (770))))]) (st' := []) rfl ?_
          refine ez_less [(2, .inl (k + 1)), (1, .inl (1)), (0, .inr (.inr (some (770))))] rfl ⟨rfl, rfl, rfl, trivial⟩ ?_
          have lx : (k - 1).toNat < Lc.length := by clear hm1; omega
          have ly : (k - 1).toNat + 1 < Lc.length := by clear hm1; omega
          obtain ⟨x, hx⟩ : ∃ x, Lc[(k - 1).toNat]? = some x := ⟨_, List.getElem?_eq_getElem lx⟩
          obtain ⟨y, hy⟩ : ∃ y, Lc[(k - 1).toNat + 1]? = some y := ⟨_, List.getElem?_eq_getElem ly⟩
          have ex := hp _ _ hx
          have ey := hp _ _ hy
          have e1 : (k - 1).toNat + 1 = k.toNat := by clear hm1; omega
          rw [e1] at ey
          have yn := nn y (hd.2.2 y (List.mem_of_getElem? hy))
          have q1 : y.2 < x.2 := by rw [← ey.2, ← ex.2]; assumption
          have q2 : 0 < y.2 := by clear hm1 hph; omega
          have P1 : ∀ j, qz_I nd 796 j = qz_I nb 796 j := fun j => by rw [xd, xc]
          have R1 : ∀ j, qz_I nb 798 j = qz_I g 798 j := fun j => by rw [xb, xa]
          have sw : phr h nd = phr h g + (qz_I g 798 (k - 1).toNat - qz_I g 798 k.toNat) := by
            unfold phr
            have w9 := phz_swap (f := fun i => qz_I g 798 i) (g := fun i => qz_I nd 798 i) (k := (k - 1).toNat) ?_ ?_ ?_ (qz_I h 770 30).toNat (by clear hm1; omega)
            · simp only [e1] at w9; exact w9
            · show qz_I nd 798 (k - 1).toNat = qz_I g 798 ((k - 1).toNat + 1)
              rw [vd, e1]
            · show qz_I nd 798 ((k - 1).toNat + 1) = qz_I g 798 (k - 1).toNat
              rw [e1, sd k.toNat (by clear hm1; omega), vc, R1]
            · intro i i1 i2
              show qz_I nd 798 i = qz_I g 798 i
              rw [sd i i1, sc i (by clear hm1; omega), R1]
          refine ih (k + 1) 1 nd (swp Lc (k - 1).toNat x y) (by clear hm1; omega) (by clear hm1; omega) (by clear hm1; omega) od (Or.inr rfl) ⟨by omega, fun _ => by omega⟩ (fun j z hz9 => ?_) (ods_sw hd q1 q2 hx hy) (fun w => absurd w (by decide))
          rcases swp_at hx hy hz9 with ⟨e2, e3⟩ | ⟨e2, e3⟩ | ⟨e2, e3, e4⟩
          · rw [e2, e3, P1, vb, vd]; exact ey
          · rw [e2, e3, e1, P1, sb k.toNat (by clear hm1; omega), va, sd k.toNat (by clear hm1; omega), vc, R1]; exact ex
          · have e3 : j ≠ k.toNat := by rw [← e1]; exact e3
            rw [P1, sb j e2, sa j e3, sd j e2, sc j e3, R1]; exact hp j z e4
        · skip
          refine ez_go (n := 3) (pc' := 42) (L' := [(2, .inl (k + 1)), (1, .inl (more)), (0, .inr (.inr (some (770))))]) (st' := []) rfl ?_
          refine ez_less [(2, .inl (k + 1)), (1, .inl (more)), (0, .inr (.inr (some (770))))] rfl ⟨rfl, rfl, rfl, trivial⟩ ?_
          refine ih (k + 1) more g Lc (by clear hm1; omega) (by clear hm1; omega) (by clear hm1; omega) ho hm1 hph hp hd (fun w j x y hj hx hy => ?_)
          by_cases ej : (j : Int) + 1 < k
          · exact hz w j x y ej hx hy
          · have ex := (hp j x hx).2
            have ey := (hp (j + 1) y hy).2
            rw [show j = (k - 1).toNat by clear hm1 hph; omega] at ex
            rw [show j + 1 = k.toNat by clear hm1 hph; omega] at ey
            clear hm1 hph
            omega

theorem rd_mord_z {g : cz_H} (ho : orz τ h g) (hp : prm g (os_srt L)) (kx : ∀ g, orz τ h g → prm g (os_srt L) → Q (.inl none, g)) : ez_W (d + 2) cm_285 34 [(1, .inl (0)), (0, .inr (.inr (some (770))))] [] g Q := by
  refine ez_go (n := 1) (pc' := 35) (L' := [(1, .inl (0)), (0, .inr (.inr (some (770))))]) (st' := [.inl (0)]) rfl ?_
  refine ez_if rfl rfl ⟨by decide, by decide⟩ (fun _ => ?_) (fun (c1 : ¬((0 : Int) = (0))) => absurd c1 (by decide))
  exact ez_ret0 rfl rfl (kx g ho hp)

theorem rd_mord_3 {B : Int} (t770 : τ 770 = 75) (hL : qz_I h 770 30 = (L.length : Int)) (nn : ∀ x ∈ L, 0 ≤ x.2) (hbd : ∀ g, orz τ h g → phr h g ≤ B) (kx : ∀ g, orz τ h g → prm g (os_srt L) → Q (.inl none, g)) : ∀ (n : Nat) (g : cz_H) (Lc : List (Int × Int)), (B - phr h g).toNat ≤ n → orz τ h g → prm g Lc → ods L Lc → ez_W (d + 2) cm_285 34 [(1, .inl (1)), (0, .inr (.inr (some (770))))] [] g Q := by
  intro n
  induction n with
  | zero =>
    intro g Lc hn ho hp hd
    refine ez_go (n := 1) (pc' := 35) (L' := [(1, .inl (1)), (0, .inr (.inr (some (770))))]) (st' := [.inl (1)]) rfl ?_
    refine ez_if rfl rfl ⟨by decide, by decide⟩ (fun (c1 : (1 : Int) = (0)) => absurd c1 (by decide)) (fun _ => ?_)
    refine ez_go (n := 4) (pc' := 42) (L' := [(2, .inl (1)), (1, .inl (0)), (0, .inr (.inr (some (770))))]) (st' := []) rfl ?_
    refine ez_less [(2, .inl (1)), (1, .inl (0)), (0, .inr (.inr (some (770))))] rfl ⟨rfl, rfl, rfl, trivial⟩ ?_
    refine rd_mord_2 (L := L) (p0 := phr h g) t770 hL nn (fun g2 more2 Lc2 o2 hm2 hp2 pr2 od2 nz2 => ?_) _ 1 0 g Lc (Nat.le_refl _) (by omega) (by omega) ho (Or.inl rfl) ⟨Int.le_refl _, fun w => absurd w (by decide)⟩ hp hd (fun _ j x y hj => by omega)
    rcases hm2 with w | w
    · subst w; rw [nfk_end od2 (nz2 rfl) (by have := od2.1; omega)] at pr2; exact rd_mord_z o2 pr2 kx
    · exfalso; have := hp2.2 w; have := hbd g2 o2; omega
  | succ n ih =>
    intro g Lc hn ho hp hd
    refine ez_go (n := 1) (pc' := 35) (L' := [(1, .inl (1)), (0, .inr (.inr (some (770))))]) (st' := [.inl (1)]) rfl ?_
    refine ez_if rfl rfl ⟨by decide, by decide⟩ (fun (c1 : (1 : Int) = (0)) => absurd c1 (by decide)) (fun _ => ?_)
    refine ez_go (n := 4) (pc' := 42) (L' := [(2, .inl (1)), (1, .inl (0)), (0, .inr (.inr (some (770))))]) (st' := []) rfl ?_
    refine ez_less [(2, .inl (1)), (1, .inl (0)), (0, .inr (.inr (some (770))))] rfl ⟨rfl, rfl, rfl, trivial⟩ ?_
    refine rd_mord_2 (L := L) (p0 := phr h g) t770 hL nn (fun g2 more2 Lc2 o2 hm2 hp2 pr2 od2 nz2 => ?_) _ 1 0 g Lc (Nat.le_refl _) (by omega) (by omega) ho (Or.inl rfl) ⟨Int.le_refl _, fun w => absurd w (by decide)⟩ hp hd (fun _ j x y hj => by omega)
    rcases hm2 with w | w
    · subst w; rw [nfk_end od2 (nz2 rfl) (by have := od2.1; omega)] at pr2; exact rd_mord_z o2 pr2 kx
    · subst w; exact ih g2 Lc2 (by have := hp2.2 rfl; have := hbd g2 o2; omega) o2 pr2 od2

theorem rd_mord {Ls : List vz} {b : Int} (hI : mI τ h Ls b) (hw : uz_wf (vF Ls)) (a : tm h l) (pl : ptl l) (kx : ∀ g, orz τ h g → prm g (os_srt (zl (vF Ls) l)) → Q (.inl none, g)) : ez_W (d + 2) cm_285 0 [(0, .inr (.inr (some (770))))] [] h Q := by
  have hB := hI.1
  have t770 : τ 770 = 75 := hI.2.1 770 (by decide)
  have tk : τ 798 = 85 := hI.2.1 798 (by decide)
  have b30 : 0 ≤ qz_I h 770 30 ∧ qz_I h 770 30 ≤ 2000 := ez_fB (cl := 11) (k := 30) hB t770 tq_75 rfl rfl (by decide)
  have hbd : ∀ g, orz τ h g → phr h g ≤ ((qz_I h 770 30).toNat : Int) * (((qz_I h 770 30).toNat : Int) * 2147483647) := fun g ho => phz_le (by decide) _ (fun i hi => by
    have nn : 2000 ≤ qz_N g 798 ∧ qz_N g 798 ≤ 2000 := ez_len ho.1 tk tq_85 rfl
    exact (ez_aB ho.1 tk tq_85 rfl rfl (by decide) (i := (i : Int)) (by omega) (by omega)).2)
  refine ez_go (n := 2) (pc' := 2) (L' := [(1, .inl (0)), (0, .inr (.inr (some (770))))]) (st' := []) rfl ?_
  refine ez_less [(1, .inl (0)), (0, .inr (.inr (some (770))))] rfl ⟨rfl, rfl, trivial⟩ ?_
  refine rd_mord_1 hI t770 a pl (fun g ho hp => ?_) _ 0 h (Nat.le_refl _) (by omega) (by omega) ⟨hB, fun _ _ _ => rfl, rfl, rfl⟩ (fun _ => rfl) (fun j v hj => by omega)
  refine ez_go (n := 2) (pc' := 34) (L' := [(1, .inl (1)), (0, .inr (.inr (some (770))))]) (st' := []) rfl ?_
  refine ez_less [(1, .inl (1)), (0, .inr (.inr (some (770))))] rfl ⟨rfl, rfl, trivial⟩ ?_
  exact rd_mord_3 (L := zl (vF Ls) l) t770 (by rw [zl_len]; exact a.1) (fun x hx => by rw [(zl_mem hx).2]; exact (hw _).1) hbd kx _ g _ (Nat.le_refl _) ho hp (ods_0 _)

end EzMk
/-! The model: compose, normal. (Written by wip/p2/py/pvt7.py.) -/
section EzMn
variable {d : Nat} {h : cz_H} {τ : Nat → Nat} {Q : cz_F → Prop} {l : List Int} {L : List (Int × Int)} {F : rz_W} {E : Int → Prop}
theorem rd_mcomp {a z : Int} (e : eD τ h F) (p : pQ h F E) (ar : ez_rg a) (zr : ez_rg z) (k : ∀ v, cpR F E a z v → Q (.inl (some (ez_v (.inl v))), h)) : ez_W (d + 2) cm_240 0 [(0, .inr (.inr (some (770)))), (1, .inl (a)), (2, .inl (z))] [] h Q := by
  have hB := e.1
  have t770 := e.2.1
  have pkd : pkn h = qz_I h 770 28 := rfl
  have hp1 := p.1
  obtain ⟨ar0, ar1⟩ := id ar
  obtain ⟨zr0, zr1⟩ := id zr
  refine ez_go (n := 3) (pc' := 3) (L' := [(0, .inr (.inr (some (770)))), (1, .inl (a)), (2, .inl (z))]) (st' := [.inl (z), .inl (a), .inr (.inr (some (770)))]) rfl ?_
  refine ez_cv hB t770 rfl rfl rfl tq_75 rfl rfl rfl (rd_hangulPair hB t770 ar zr (fun hh => ez_K1 ?_) (fun hh => ez_K1 ?_))
  · skip
    have hh2 := hh; unfold hz_pair hz at hh2
    refine ez_if rfl rfl ⟨by decide, by decide⟩ (fun (c1 : (1 : Int) = (0)) => absurd c1 (by decide)) (fun _ => ?_)
    refine ez_go (n := 2) (pc' := 11) (L' := [(0, .inr (.inr (some (770)))), (1, .inl (a)), (2, .inl (z))]) (st' := [.inl (a), .inr (.inr (some (770)))]) rfl ?_
    refine ez_cv hB t770 rfl rfl rfl tq_75 rfl rfl rfl (rd_hangul ar (fun h3 => ez_K1 ?_) (fun h3 => ez_K1 ?_))
    · skip
      unfold hz at h3
      refine ez_if rfl rfl ⟨by decide, by decide⟩ (fun (c2 : (1 : Int) = (0)) => absurd c2 (by decide)) (fun _ => ?_)
      refine ez_go (n := 6) (pc' := 48) (L' := [(0, .inr (.inr (some (770)))), (1, .inl (a)), (2, .inl (z))]) (st' := [.inl (((a) + (z)) - (4519))]) rfl ?_
      have ev : ((a) + (z)) - (4519) = hzv a z := by unfold hzv; split <;> omega
      rw [ev]
      exact ez_retI rfl rfl (k _ (Or.inl ⟨hh, rfl⟩))
    · skip
      unfold hz at h3
      refine ez_if rfl rfl ⟨by decide, by decide⟩ (fun _ => ?_) (fun (c3 : ¬((0 : Int) = (0))) => absurd c3 (by decide))
      refine ez_ldcV (44032) rfl rfl rfl ?_
      refine ez_go (n := 12) (pc' := 48) (L' := [(0, .inr (.inr (some (770)))), (1, .inl (a)), (2, .inl (z))]) (st' := [.inl ((44032) + ((((((a) - (4352)) * (21)) + (z)) - (4449)) * (28)))]) rfl ?_
      have ev : (44032) + ((((((a) - (4352)) * (21)) + (z)) - (4449)) * (28)) = hzv a z := by unfold hzv; split <;> omega
      rw [ev]
      exact ez_retI rfl rfl (k _ (Or.inl ⟨hh, rfl⟩))
  · skip
    refine ez_if rfl rfl ⟨by decide, by decide⟩ (fun _ => ?_) (fun (c4 : ¬((0 : Int) = (0))) => absurd c4 (by decide))
    refine ez_go (n := 2) (pc' := 51) (L' := [(3, .inl (0)), (0, .inr (.inr (some (770)))), (1, .inl (a)), (2, .inl (z))]) (st' := []) rfl ?_
    refine ez_less [(3, .inl (0)), (0, .inr (.inr (some (770)))), (1, .inl (a)), (2, .inl (z))] rfl ⟨rfl, rfl, rfl, rfl, trivial⟩ ?_
    refine rd_composite_l e p.P ar zr (fun i hi hf => ?_) (fun hno => ?_) _ 0 rfl (by omega) (by omega) (fun i hi => by omega)
    · obtain ⟨a2, b2, w⟩ := (p.2.1 i hi).2
      have w1 := w.1
      rw [hf] at w1
      cases w1
      exact k _ (Or.inr (Or.inl ⟨hh, w⟩))
    · refine k _ (Or.inr (Or.inr ⟨hh, fun ⟨x, hx⟩ => ?_, rfl⟩))
      obtain ⟨i, hi, e9⟩ := p.2.2 x a z hx
      exact hno i hi (by rw [e9]; exact hx.1)

theorem rd_mc_s {n k c : Int} (hB : ez_B τ h) (t770 : τ 770 = 75) (n1 : n ≤ 2000) (kx : ∀ s, ((s = -1 ∧ ∀ j : Nat, (j : Int) < n → qz_I h 798 j ≠ 0) ∨ (0 ≤ s ∧ s < n ∧ qz_I h 798 s.toNat = 0 ∧ ∀ j : Nat, s < (j : Int) → (j : Int) < n → qz_I h 798 j ≠ 0)) → ez_W (d + 3) cm_239 45 [(4, .inl (s)), (3, .inl (c)), (2, .inl (k)), (1, .inl (n)), (0, .inr (.inr (some (770))))] [] h Q) : ∀ (m : Nat) (s : Int), (s + 1).toNat ≤ m → -1 ≤ s → s < n → (∀ j : Nat, s < (j : Int) → (j : Int) < n → qz_I h 798 j ≠ 0) → ez_W (d + 3) cm_239 24 [(4, .inl (s)), (3, .inl (c)), (2, .inl (k)), (1, .inl (n)), (0, .inr (.inr (some (770))))] [] h Q := by
  intro m
  induction m with
  | zero =>
    intro s hm s0 s1 hj
    refine ez_go (n := 1) (pc' := 26) (L' := [(4, .inl (s)), (3, .inl (c)), (2, .inl (k)), (1, .inl (n)), (0, .inr (.inr (some (770))))]) (st' := [.inl (s)]) rfl ?_
    refine ez_if rfl rfl ⟨by first | omega | exact (sz_i32 _).1, by first | omega | exact (sz_i32 _).2⟩ (fun (c1 : (s) < (0)) => ?_) (fun (c1 : ¬((s) < (0))) => ?_)
    · skip
      refine ez_less [(4, .inl (s)), (3, .inl (c)), (2, .inl (k)), (1, .inl (n)), (0, .inr (.inr (some (770))))] rfl ⟨rfl, rfl, rfl, rfl, rfl, trivial⟩ ?_
      exact kx s (by first | exact Or.inl ⟨by omega, fun j j1 => hj j (by omega) j1⟩ | exact Or.inr ⟨by omega, by omega, by omega, hj⟩)
    · exfalso; omega
  | succ m ih =>
    intro s hm s0 s1 hj
    refine ez_go (n := 1) (pc' := 26) (L' := [(4, .inl (s)), (3, .inl (c)), (2, .inl (k)), (1, .inl (n)), (0, .inr (.inr (some (770))))]) (st' := [.inl (s)]) rfl ?_
    refine ez_if rfl rfl ⟨by first | omega | exact (sz_i32 _).1, by first | omega | exact (sz_i32 _).2⟩ (fun (c1 : (s) < (0)) => ?_) (fun (c1 : ¬((s) < (0))) => ?_)
    · skip
      refine ez_less [(4, .inl (s)), (3, .inl (c)), (2, .inl (k)), (1, .inl (n)), (0, .inr (.inr (some (770))))] rfl ⟨rfl, rfl, rfl, rfl, rfl, trivial⟩ ?_
      exact kx s (by first | exact Or.inl ⟨by omega, fun j j1 => hj j (by omega) j1⟩ | exact Or.inr ⟨by omega, by omega, by omega, hj⟩)
    · skip
      refine ez_go (n := 1) (pc' := 30) (L' := [(4, .inl (s)), (3, .inl (c)), (2, .inl (k)), (1, .inl (n)), (0, .inr (.inr (some (770))))]) (st' := [.inr (.inr (some (770)))]) rfl ?_
      refine ez_gC (p := 798) (tg := 85) hB t770 rfl rfl tq_75 rfl rfl (fun (t798 : _ = 85) => ?_)
      refine ez_go (n := 1) (pc' := 35) (L' := [(4, .inl (s)), (3, .inl (c)), (2, .inl (k)), (1, .inl (n)), (0, .inr (.inr (some (770))))]) (st' := [.inl (s), .inr (.inr (some (798)))]) rfl ?_
      have n3 : 2000 ≤ qz_N h 798 ∧ qz_N h 798 ≤ 2000 := ez_len hB t798 tq_85 rfl
      refine ez_aI hB t798 rfl tq_85 rfl rfl (by omega) (by omega) (fun (b2 : -2147483648 ≤ qz_I h 798 (s).toNat) (b2' : qz_I h 798 (s).toNat ≤ 2147483647) => ?_)
      refine ez_if rfl rfl ⟨by first | omega | exact (sz_i32 _).1, by first | omega | exact (sz_i32 _).2⟩ (fun (c4 : (qz_I h 798 (s).toNat) = (0)) => ?_) (fun (c4 : ¬((qz_I h 798 (s).toNat) = (0))) => ?_)
      · skip
        refine ez_less [(4, .inl (s)), (3, .inl (c)), (2, .inl (k)), (1, .inl (n)), (0, .inr (.inr (some (770))))] rfl ⟨rfl, rfl, rfl, rfl, rfl, trivial⟩ ?_
        exact kx s (by first | exact Or.inl ⟨by omega, fun j j1 => hj j (by omega) j1⟩ | exact Or.inr ⟨by omega, by omega, by omega, hj⟩)
      · skip
        refine ez_go (n := 2) (pc' := 24) (L' := [(4, .inl (s + (-1))), (3, .inl (c)), (2, .inl (k)), (1, .inl (n)), (0, .inr (.inr (some (770))))]) (st' := []) rfl ?_
        refine ez_less [(4, .inl (s + (-1))), (3, .inl (c)), (2, .inl (k)), (1, .inl (n)), (0, .inr (.inr (some (770))))] rfl ⟨rfl, rfl, rfl, rfl, rfl, trivial⟩ ?_
        refine ih _ (by omega) (by omega) (by omega) (fun j j1 j2 => ?_)
        by_cases e : (j : Int) = s
        · rw [show j = s.toNat by omega]; omega
        · exact hj j (by omega) j2

theorem rd_mc_b {n k c s : Int} (hB : ez_B τ h) (t770 : τ 770 = 75) (n0 : 0 ≤ n) (n1 : n ≤ 2000) (k0 : 0 ≤ k) (k1 : k < 2000) (s0 : -1 ≤ s) (s2 : s ≤ 2000) (kx : ∀ j b, ((b = 0 ∧ 0 ≤ s ∧ ∀ i : Nat, s < (i : Int) → (i : Int) < n → qz_I h 798 i < qz_I h 798 k.toNat) ∨ (b = 1 ∧ (s < 0 ∨ ∃ i : Nat, s < (i : Int) ∧ (i : Int) < n ∧ qz_I h 798 k.toNat ≤ qz_I h 798 i))) → ez_W (d + 3) cm_239 103 [(6, .inl (j)), (5, .inl (b)), (4, .inl (s)), (3, .inl (c)), (2, .inl (k)), (1, .inl (n)), (0, .inr (.inr (some (770))))] [] h Q) : ∀ (m : Nat) (j b : Int), (n - j).toNat ≤ m → s < j → j ≤ n ∨ j = s + 1 → ((b = 0 ∧ 0 ≤ s ∧ ∀ i : Nat, s < (i : Int) → (i : Int) < j → qz_I h 798 i < qz_I h 798 k.toNat) ∨ (b = 1 ∧ (s < 0 ∨ ∃ i : Nat, s < (i : Int) ∧ (i : Int) < n ∧ qz_I h 798 k.toNat ≤ qz_I h 798 i))) → ez_W (d + 3) cm_239 63 [(6, .inl (j)), (5, .inl (b)), (4, .inl (s)), (3, .inl (c)), (2, .inl (k)), (1, .inl (n)), (0, .inr (.inr (some (770))))] [] h Q := by
  intro m
  induction m with
  | zero =>
    intro j b hm j0 j1 hb
    have br : ez_rg b := by rcases hb with w | w <;> (rw [w.1]; exact ⟨by decide, by decide⟩)
    refine ez_go (n := 2) (pc' := 66) (L' := [(6, .inl (j)), (5, .inl (b)), (4, .inl (s)), (3, .inl (c)), (2, .inl (k)), (1, .inl (n)), (0, .inr (.inr (some (770))))]) (st' := [.inl (n), .inl (j)]) rfl ?_
    refine ez_icmp rfl rfl ⟨by first | exact br.1 | (clear hb; omega) | exact (sz_i32 _).1, by first | exact br.2 | (clear hb; omega) | exact (sz_i32 _).2⟩ ⟨by first | exact br.1 | (clear hb; omega) | exact (sz_i32 _).1, by first | exact br.2 | (clear hb; omega) | exact (sz_i32 _).2⟩ (fun (c1 : (n) ≤ (j)) => ?_) (fun (c1 : ¬((n) ≤ (j))) => ?_)
    · skip
      refine ez_less [(6, .inl (j)), (5, .inl (b)), (4, .inl (s)), (3, .inl (c)), (2, .inl (k)), (1, .inl (n)), (0, .inr (.inr (some (770))))] rfl ⟨rfl, rfl, rfl, rfl, rfl, rfl, rfl, trivial⟩ ?_
      refine kx j b ?_
      rcases hb with ⟨w1, w2, w3⟩ | w
      · exact Or.inl ⟨w1, w2, fun i i1 i2 => w3 i i1 (by omega)⟩
      · exact Or.inr w
    · exfalso; omega
  | succ m ih =>
    intro j b hm j0 j1 hb
    have br : ez_rg b := by rcases hb with w | w <;> (rw [w.1]; exact ⟨by decide, by decide⟩)
    refine ez_go (n := 2) (pc' := 66) (L' := [(6, .inl (j)), (5, .inl (b)), (4, .inl (s)), (3, .inl (c)), (2, .inl (k)), (1, .inl (n)), (0, .inr (.inr (some (770))))]) (st' := [.inl (n), .inl (j)]) rfl ?_
    refine ez_icmp rfl rfl ⟨by first | exact br.1 | (clear hb; omega) | exact (sz_i32 _).1, by first | exact br.2 | (clear hb; omega) | exact (sz_i32 _).2⟩ ⟨by first | exact br.1 | (clear hb; omega) | exact (sz_i32 _).1, by first | exact br.2 | (clear hb; omega) | exact (sz_i32 _).2⟩ (fun (c1 : (n) ≤ (j)) => ?_) (fun (c1 : ¬((n) ≤ (j))) => ?_)
    · skip
      refine ez_less [(6, .inl (j)), (5, .inl (b)), (4, .inl (s)), (3, .inl (c)), (2, .inl (k)), (1, .inl (n)), (0, .inr (.inr (some (770))))] rfl ⟨rfl, rfl, rfl, rfl, rfl, rfl, rfl, trivial⟩ ?_
      refine kx j b ?_
      rcases hb with ⟨w1, w2, w3⟩ | w
      · exact Or.inl ⟨w1, w2, fun i i1 i2 => w3 i i1 (by omega)⟩
      · exact Or.inr w
    · skip
      refine ez_go (n := 1) (pc' := 71) (L' := [(6, .inl (j)), (5, .inl (b)), (4, .inl (s)), (3, .inl (c)), (2, .inl (k)), (1, .inl (n)), (0, .inr (.inr (some (770))))]) (st' := [.inl (b)]) rfl ?_
      refine ez_if rfl rfl ⟨by first | exact br.1 | (clear hb; omega) | exact (sz_i32 _).1, by first | exact br.2 | (clear hb; omega) | exact (sz_i32 _).2⟩ (fun (c2 : (b) ≠ (0)) => ?_) (fun (c2 : ¬((b) ≠ (0))) => ?_)
      · skip
        refine ez_less [(6, .inl (j)), (5, .inl (b)), (4, .inl (s)), (3, .inl (c)), (2, .inl (k)), (1, .inl (n)), (0, .inr (.inr (some (770))))] rfl ⟨rfl, rfl, rfl, rfl, rfl, rfl, rfl, trivial⟩ ?_
        refine kx j b ?_
        rcases hb with ⟨w1, w2, w3⟩ | w
        · exact Or.inl ⟨w1, w2, fun i i1 i2 => w3 i i1 (by omega)⟩
        · exact Or.inr w
      · skip
        refine ez_go (n := 1) (pc' := 75) (L' := [(6, .inl (j)), (5, .inl (b)), (4, .inl (s)), (3, .inl (c)), (2, .inl (k)), (1, .inl (n)), (0, .inr (.inr (some (770))))]) (st' := [.inr (.inr (some (770)))]) rfl ?_
        refine ez_gC (p := 798) (tg := 85) hB t770 rfl rfl tq_75 rfl rfl (fun (t798 : _ = 85) => ?_)
        refine ez_go (n := 1) (pc' := 80) (L' := [(6, .inl (j)), (5, .inl (b)), (4, .inl (s)), (3, .inl (c)), (2, .inl (k)), (1, .inl (n)), (0, .inr (.inr (some (770))))]) (st' := [.inl (j), .inr (.inr (some (798)))]) rfl ?_
        have n4 : 2000 ≤ qz_N h 798 ∧ qz_N h 798 ≤ 2000 := ez_len hB t798 tq_85 rfl
        refine ez_aI hB t798 rfl tq_85 rfl rfl (by omega) (by omega) (fun (b3 : -2147483648 ≤ qz_I h 798 (j).toNat) (b3' : qz_I h 798 (j).toNat ≤ 2147483647) => ?_)
        refine ez_go (n := 1) (pc' := 82) (L' := [(6, .inl (j)), (5, .inl (b)), (4, .inl (s)), (3, .inl (c)), (2, .inl (k)), (1, .inl (n)), (0, .inr (.inr (some (770))))]) (st' := [.inr (.inr (some (770))), .inl (qz_I h 798 (j).toNat)]) rfl ?_
        refine ez_gC (p := 798) (tg := 85) hB t770 rfl rfl tq_75 rfl rfl (fun (t798 : _ = 85) => ?_)
        refine ez_go (n := 1) (pc' := 86) (L' := [(6, .inl (j)), (5, .inl (b)), (4, .inl (s)), (3, .inl (c)), (2, .inl (k)), (1, .inl (n)), (0, .inr (.inr (some (770))))]) (st' := [.inl (k), .inr (.inr (some (798))), .inl (qz_I h 798 (j).toNat)]) rfl ?_
        have n6 : 2000 ≤ qz_N h 798 ∧ qz_N h 798 ≤ 2000 := ez_len hB t798 tq_85 rfl
        refine ez_aI hB t798 rfl tq_85 rfl rfl (by omega) (by omega) (fun (b5 : -2147483648 ≤ qz_I h 798 (k).toNat) (b5' : qz_I h 798 (k).toNat ≤ 2147483647) => ?_)
        refine ez_icmp rfl rfl ⟨by first | exact br.1 | (clear hb; omega) | exact (sz_i32 _).1, by first | exact br.2 | (clear hb; omega) | exact (sz_i32 _).2⟩ ⟨by first | exact br.1 | (clear hb; omega) | exact (sz_i32 _).1, by first | exact br.2 | (clear hb; omega) | exact (sz_i32 _).2⟩ (fun (c7 : (qz_I h 798 (j).toNat) < (qz_I h 798 (k).toNat)) => ?_) (fun (c7 : ¬((qz_I h 798 (j).toNat) < (qz_I h 798 (k).toNat))) => ?_)
        · skip
          refine ez_go (n := 4) (pc' := 63) (L' := [(6, .inl (j + 1)), (5, .inl (0)), (4, .inl (s)), (3, .inl (c)), (2, .inl (k)), (1, .inl (n)), (0, .inr (.inr (some (770))))]) (st' := []) rfl ?_
          refine ez_less [(6, .inl (j + 1)), (5, .inl (0)), (4, .inl (s)), (3, .inl (c)), (2, .inl (k)), (1, .inl (n)), (0, .inr (.inr (some (770))))] rfl ⟨rfl, rfl, rfl, rfl, rfl, rfl, rfl, trivial⟩ ?_
          refine ih _ _ (by clear hb; omega) (by clear hb; omega) (by clear hb; omega) (Or.inl ⟨rfl, by rcases hb with w | w <;> omega, fun i i1 i2 => ?_⟩)
          by_cases e : (i : Int) = j
          · rw [show i = j.toNat by omega]; clear hb; omega
          · rcases hb with ⟨w1, w2, w3⟩ | ⟨w1, w2⟩
            · exact w3 i i1 (by omega)
            · exfalso; clear w2; omega
        · skip
          refine ez_go (n := 5) (pc' := 63) (L' := [(6, .inl (j + 1)), (5, .inl (1)), (4, .inl (s)), (3, .inl (c)), (2, .inl (k)), (1, .inl (n)), (0, .inr (.inr (some (770))))]) (st' := []) rfl ?_
          refine ez_less [(6, .inl (j + 1)), (5, .inl (1)), (4, .inl (s)), (3, .inl (c)), (2, .inl (k)), (1, .inl (n)), (0, .inr (.inr (some (770))))] rfl ⟨rfl, rfl, rfl, rfl, rfl, rfl, rfl, trivial⟩ ?_
          exact ih _ _ (by clear hb; omega) (by clear hb; omega) (by clear hb; omega) (Or.inr ⟨rfl, Or.inr ⟨j.toNat, by clear hb; omega, by clear hb; omega, by clear hb; omega⟩⟩)

/-- what composing may write -/
def ocp (τ : Nat → Nat) (q : Nat) : Bool := Nat.beq q 770 || (Nat.beq (τ q) 83 || Nat.beq (τ q) 85)
theorem sz_rg9 {r i : Nat} (hB : ez_B τ h) (tr : τ r = 85) (_i0 : 0 ≤ i) (i1 : i < 2000) : ez_rg (qz_I h r i) := by
  have nn : 2000 ≤ qz_N h r ∧ qz_N h r ≤ 2000 := ez_len hB tr tq_85 rfl
  exact ez_aB hB tr tq_85 rfl rfl (by decide) (i := (i : Int)) (by omega) (by omega)
theorem orz_nk {g : cz_H} (hB : ez_B τ h) (hX : jz_X τ) (ho : orz τ h g) : nk τ h τ g := by
  have t770 : τ 770 = 75 := hX 770 (by decide)
  have ts := ez_tsk hB t770
  have i7 := ho.s t770
  have e : sk g = sk h := by unfold sk qz_P; rw [i7]
  have eN : qz_N g (sk h) = qz_N h (sk h) := by unfold qz_N; rw [ho.2.1 (sk h) (by rw [ts]; decide) (by rw [ts]; decide)]
  exact ⟨fun q _ => ⟨rfl, fun _ _ q3 q4 _ => ho.2.1 q q3 q4⟩, fun q h1 h2 => absurd h1 h2, fun j _ _ _ => i7 j, by rw [e, eN]; exact Int.le_refl _, by rw [e, eN, ho.2.2.1, ho.2.2.2]; omega, ⟨by rw [ho.2.2.1]; exact Nat.le_refl _, by rw [ho.2.2.2]; exact Nat.le_refl _⟩, fun w => by rw [i7 25, e, eN]; exact w⟩
theorem rd_mcps_l {Ls : List vz} {b : Int} (hI : mI τ h Ls b) (hw : uz_wf (vF Ls)) (e : eD τ h (vF Ls)) (pq9 : pQ h (vF Ls) (vE Ls)) (hl : qz_I h 770 30 = (L.length : Int)) (hL : kok (vF Ls) L) (kx : ∀ g K, ez_B τ g → ez_fr (ocp τ) h g → (∀ j, j ≠ 30 → qz_I g 770 j = qz_I h 770 j) → kcR (vF Ls) (vE Ls) L [] K → kok (vF Ls) K → tm g (K.map Prod.fst) → Q (.inl none, g)) : ∀ (m : Nat) (k n : Int) (K : List (Int × Int)) (g : cz_H), m = ((L.length : Int) - k).toNat → 0 ≤ k → k ≤ (L.length : Int) → n ≤ k → orz τ h g → (K.length : Int) = n → kok (vF Ls) K → prm g K → (∀ (j : Nat) z, k ≤ (j : Int) → L[j]? = some z → qz_I g 796 j = z.1 ∧ qz_I g 798 j = z.2) → (∀ R, kcR (vF Ls) (vE Ls) (L.drop k.toNat) K R → kcR (vF Ls) (vE Ls) L [] R) → ez_W (d + 3) cm_239 4 [(2, .inl (k)), (1, .inl (n)), (0, .inr (.inr (some (770))))] [] g Q := by
  have t770 : τ 770 = 75 := hI.2.1 770 (by decide)
  have b30 : 0 ≤ qz_I h 770 30 ∧ qz_I h 770 30 ≤ 2000 := ez_fB (cl := 11) (k := 30) hI.1 t770 tq_75 rfl rfl (by decide)
  intro m
  induction m with
  | zero =>
    intro k n K g hm k0 k1 nk9 ho hn hK hp hq hac
    have hBg := ho.1
    have s30 := ho.s t770 30
    have eg : eD τ g (vF Ls) := (orz_nk hI.1 hI.2.1 ho).eDx e hI.2.1 hBg
    have pg : pQ g (vF Ls) (vE Ls) := (orz_nk hI.1 hI.2.1 ho).pQx pq9 hI.1 hI.2.1
    refine ez_go (n := 2) (pc' := 6) (L' := [(2, .inl (k)), (1, .inl (n)), (0, .inr (.inr (some (770))))]) (st' := [.inr (.inr (some (770))), .inl (k)]) rfl ?_
    refine ez_gI hBg t770 rfl rfl tq_75 rfl rfl (fun (b1 : 0 ≤ qz_I g 770 30) (b1' : qz_I g 770 30 ≤ 2000) => ?_)
    refine ez_icmp rfl rfl ⟨by first | omega | exact (sz_i32 _).1, by first | omega | exact (sz_i32 _).2⟩ ⟨by first | omega | exact (sz_i32 _).1, by first | omega | exact (sz_i32 _).2⟩ (fun (c2 : (qz_I g 770 30) ≤ (k)) => ?_) (fun (c2 : ¬((qz_I g 770 30) ≤ (k))) => ?_)
    · skip
      refine ez_go (n := 2) (pc' := 186) (L' := [(2, .inl (k)), (1, .inl (n)), (0, .inr (.inr (some (770))))]) (st' := [.inl (n), .inr (.inr (some (770)))]) rfl ?_
      refine ez_pf hBg t770 rfl rfl tq_75 rfl rfl rfl rfl (ez_vdI rfl rfl (by omega) (by omega)) (fun hB3 w4 => ?_)
      refine ez_ret0 rfl rfl (kx _ K hB3 ⟨ho.2.2.1, ho.2.2.2, fun q q1 => ?_⟩ (fun j hj => (ez_put_I (fun w => hj w.2)).trans (ho.s t770 j)) (hac K (by rw [List.drop_of_length_le (by omega)]; rfl)) hK ⟨?_, fun j v hv => ?_⟩)
      · have q1 : q ≠ 770 ∧ τ q ≠ 83 ∧ τ q ≠ 85 := by refine ⟨fun e => ?_, fun e => ?_, fun e => ?_⟩ <;> (unfold ocp at q1; rw [e] at q1; simp at q1)
        rw [qz_put_at _ _ _ _ q1.1]; exact ho.2.1 q q1.2.1 q1.2.2
      · rw [w4, List.length_map, hn]; exact rz_rd ⟨by omega, by omega⟩
      · rw [List.getElem?_map] at hv
        obtain ⟨z, z1, z2⟩ := Option.map_eq_some_iff.mp hv
        rw [ez_put_I (fun w => absurd w.1 (by decide)), ← z2]; exact (hp j z z1).1
    · exfalso; omega
  | succ m ih =>
    intro k n K g hm k0 k1 nk9 ho hn hK hp hq hac
    have hBg := ho.1
    have s30 := ho.s t770 30
    have eg : eD τ g (vF Ls) := (orz_nk hI.1 hI.2.1 ho).eDx e hI.2.1 hBg
    have pg : pQ g (vF Ls) (vE Ls) := (orz_nk hI.1 hI.2.1 ho).pQx pq9 hI.1 hI.2.1
    by_cases kL : k < (L.length : Int)
    · have l9 : k.toNat < L.length := by omega
      obtain ⟨c, hc9⟩ : ∃ c, c = L[k.toNat] := ⟨_, rfl⟩
      have hc : L[k.toNat]? = some c := by rw [hc9]; exact List.getElem?_eq_getElem l9
      have ec := hq _ _ (by omega) hc
      have cb := (hL c (List.mem_of_getElem? hc)).1
      have ce := (hL c (List.mem_of_getElem? hc)).2
      have cr : ez_rg c.2 := by rw [← ec.2]; exact sz_rg9 hBg (hI.2.1 798 (by decide)) (by omega) (by omega)
      obtain ⟨cr1, cr2⟩ := id cr
      have dr : L.drop k.toNat = c :: L.drop (k + 1).toNat := by rw [List.drop_eq_getElem_cons l9, ← hc9, show (k + 1).toNat = k.toNat + 1 by omega]
      refine ez_go (n := 2) (pc' := 6) (L' := [(2, .inl (k)), (1, .inl (n)), (0, .inr (.inr (some (770))))]) (st' := [.inr (.inr (some (770))), .inl (k)]) rfl ?_
      refine ez_gI hBg t770 rfl rfl tq_75 rfl rfl (fun (b1 : 0 ≤ qz_I g 770 30) (b1' : qz_I g 770 30 ≤ 2000) => ?_)
      refine ez_icmp rfl rfl ⟨by first | omega | exact (sz_i32 _).1, by first | omega | exact (sz_i32 _).2⟩ ⟨by first | omega | exact (sz_i32 _).1, by first | omega | exact (sz_i32 _).2⟩ (fun (c2 : (qz_I g 770 30) ≤ (k)) => ?_) (fun (c2 : ¬((qz_I g 770 30) ≤ (k))) => ?_)
      · exfalso; omega
      · skip
        refine ez_go (n := 1) (pc' := 13) (L' := [(2, .inl (k)), (1, .inl (n)), (0, .inr (.inr (some (770))))]) (st' := [.inr (.inr (some (770)))]) rfl ?_
        refine ez_gC (p := 796) (tg := 83) hBg t770 rfl rfl tq_75 rfl rfl (fun (t796 : _ = 83) => ?_)
        refine ez_go (n := 1) (pc' := 17) (L' := [(2, .inl (k)), (1, .inl (n)), (0, .inr (.inr (some (770))))]) (st' := [.inl (k), .inr (.inr (some (796)))]) rfl ?_
        have n4 : 2000 ≤ qz_N g 796 ∧ qz_N g 796 ≤ 2000 := ez_len hBg t796 tq_83 rfl
        refine ez_aI hBg t796 rfl tq_83 rfl rfl (by omega) (by omega) (fun (b3 : -2147483648 ≤ qz_I g 796 (k).toNat) (b3' : qz_I g 796 (k).toNat ≤ 2147483647) => ?_)
        rw [show qz_I g 796 (k).toNat = c.1 from ec.1]
        refine ez_go (n := 5) (pc' := 24) (L' := [(4, .inl ((n) - (1))), (3, .inl (c.1)), (2, .inl (k)), (1, .inl (n)), (0, .inr (.inr (some (770))))]) (st' := []) rfl ?_
        refine ez_less [(4, .inl ((n) - (1))), (3, .inl (c.1)), (2, .inl (k)), (1, .inl (n)), (0, .inr (.inr (some (770))))] rfl ⟨rfl, rfl, rfl, rfl, rfl, trivial⟩ ?_
        refine rd_mc_s hBg t770 (by omega) (fun s hs => ?_) _ (n - 1) (Nat.le_refl _) (by omega) (by omega) (fun j j1 j2 => by omega)
        have sb : -1 ≤ s ∧ s < n ∨ s = -1 := by omega
        refine ez_go (n := 1) (pc' := 47) (L' := [(4, .inl (s)), (3, .inl (c.1)), (2, .inl (k)), (1, .inl (n)), (0, .inr (.inr (some (770))))]) (st' := [.inl (s)]) rfl ?_
        refine ez_if rfl rfl ⟨by first | omega | exact (sz_i32 _).1, by first | omega | exact (sz_i32 _).2⟩ (fun (c5 : (0) ≤ (s)) => ?_) (fun (c5 : ¬((0) ≤ (s))) => ?_)
        · skip
          refine ez_go (n := 6) (pc' := 63) (L' := [(6, .inl ((s) + (1))), (5, .inl (0)), (4, .inl (s)), (3, .inl (c.1)), (2, .inl (k)), (1, .inl (n)), (0, .inr (.inr (some (770))))]) (st' := []) rfl ?_
          refine ez_less [(6, .inl ((s) + (1))), (5, .inl (0)), (4, .inl (s)), (3, .inl (c.1)), (2, .inl (k)), (1, .inl (n)), (0, .inr (.inr (some (770))))] rfl ⟨rfl, rfl, rfl, rfl, rfl, rfl, rfl, trivial⟩ ?_
          refine rd_mc_b hBg t770 (by omega) (by omega) (by omega) (by omega) (by omega) (by omega) (fun j b hb => ?_) _ (s + 1) 0 (Nat.le_refl _) (by omega) (Or.inr rfl) (Or.inl ⟨rfl, by omega, fun i i1 i2 => by omega⟩)
          rw [ec.2] at hb
          have br : ez_rg b := by rcases hb with w | w <;> (rw [w.1]; exact ⟨by decide, by decide⟩)
          rcases hb with ⟨rfl, hb1, hb2⟩ | ⟨rfl, hb1⟩
          · skip
            have sl9 : s.toNat < K.length := by omega
            obtain ⟨x, hx2⟩ : ∃ x, K[s.toNat]? = some x := ⟨_, List.getElem?_eq_getElem sl9⟩
            have ex := hp _ _ hx2
            have xb := (hK x (List.mem_of_getElem? hx2)).1
            have hlt : lst K c.2 s.toNat x := by
              rcases hs with ⟨w0, w⟩ | ⟨w0, w1, w2, w3⟩
              · omega
              · refine ⟨hx2, by rw [← ex.2]; exact w2, fun j y hj hy => ?_⟩
                have ej := (hp j y hy).2
                have lj := (List.getElem?_eq_some_iff.mp hy).1
                have q1 := w3 j (by omega) (by omega)
                have q2 := hb2 j (by omega) (by omega)
                rw [ej] at q1 q2
                exact ⟨q1, q2⟩
            refine ez_go (n := 1) (pc' := 105) (L' := [(6, .inl (j)), (5, .inl (0)), (4, .inl (s)), (3, .inl (c.1)), (2, .inl (k)), (1, .inl (n)), (0, .inr (.inr (some (770))))]) (st' := [.inl (0)]) rfl ?_
            refine ez_if rfl rfl ⟨by decide, by decide⟩ (fun _ => ?_) (fun (c6 : ¬((0 : Int) = (0))) => absurd c6 (by decide))
            refine ez_go (n := 2) (pc' := 114) (L' := [(6, .inl (j)), (5, .inl (0)), (4, .inl (s)), (3, .inl (c.1)), (2, .inl (k)), (1, .inl (n)), (0, .inr (.inr (some (770))))]) (st' := [.inr (.inr (some (770))), .inr (.inr (some (770)))]) rfl ?_
            refine ez_gC (p := 796) (tg := 83) hBg t770 rfl rfl tq_75 rfl rfl (fun (t796 : _ = 83) => ?_)
            refine ez_go (n := 1) (pc' := 119) (L' := [(6, .inl (j)), (5, .inl (0)), (4, .inl (s)), (3, .inl (c.1)), (2, .inl (k)), (1, .inl (n)), (0, .inr (.inr (some (770))))]) (st' := [.inl (s), .inr (.inr (some (796))), .inr (.inr (some (770)))]) rfl ?_
            have n8 : 2000 ≤ qz_N g 796 ∧ qz_N g 796 ≤ 2000 := ez_len hBg t796 tq_83 rfl
            refine ez_aI hBg t796 rfl tq_83 rfl rfl (by omega) (by omega) (fun (b7 : -2147483648 ≤ qz_I g 796 (s).toNat) (b7' : qz_I g 796 (s).toNat ≤ 2147483647) => ?_)
            refine ez_go (n := 1) (pc' := 121) (L' := [(6, .inl (j)), (5, .inl (0)), (4, .inl (s)), (3, .inl (c.1)), (2, .inl (k)), (1, .inl (n)), (0, .inr (.inr (some (770))))]) (st' := [.inl (c.1), .inl (qz_I g 796 (s).toNat), .inr (.inr (some (770)))]) rfl ?_
            rw [show qz_I g 796 (s).toNat = x.1 from ex.1]
            refine ez_cv hBg t770 rfl rfl rfl tq_75 rfl rfl rfl (rd_mcomp (F := vF Ls) (E := vE Ls) eg pg ⟨by omega, by omega⟩ ⟨by omega, by omega⟩ (fun v hv => ez_K1 ?_))
            have vb := cpR_bd hw hv
            refine ez_go (n := 2) (pc' := 128) (L' := [(6, .inl (v)), (5, .inl (0)), (4, .inl (s)), (3, .inl (c.1)), (2, .inl (k)), (1, .inl (n)), (0, .inr (.inr (some (770))))]) (st' := [.inl (v)]) rfl ?_
            refine ez_if rfl rfl ⟨by first | omega | exact (sz_i32 _).1, by first | omega | exact (sz_i32 _).2⟩ (fun (c9 : (v) < (0)) => ?_) (fun (c9 : ¬((v) < (0))) => ?_)
            · skip
              have hk : kst (vF Ls) (vE Ls) K c (K ++ [c]) := Or.inr ⟨fun s2 x2 hl => by obtain ⟨e2, e3⟩ := lst_u hl hlt; rw [e3, show (-1 : Int) = v by omega]; exact hv, rfl⟩
              refine ez_go (n := 1) (pc' := 157) (L' := [(6, .inl (v)), (5, .inl (0)), (4, .inl (s)), (3, .inl (c.1)), (2, .inl (k)), (1, .inl (n)), (0, .inr (.inr (some (770))))]) (st' := [.inr (.inr (some (770)))]) rfl ?_
              refine ez_gC (p := 796) (tg := 83) hBg t770 rfl rfl tq_75 rfl rfl (fun (t796 : _ = 83) => ?_)
              refine ez_go (n := 2) (pc' := 162) (L' := [(6, .inl (v)), (5, .inl (0)), (4, .inl (s)), (3, .inl (c.1)), (2, .inl (k)), (1, .inl (n)), (0, .inr (.inr (some (770))))]) (st' := [.inl (c.1), .inl (n), .inr (.inr (some (796)))]) rfl ?_
              have n12 : 2000 ≤ qz_N g 796 ∧ qz_N g 796 ≤ 2000 := ez_len hBg t796 tq_83 rfl
              refine ez_as hBg t796 rfl tq_83 rfl rfl (by omega) (by omega) (ez_vdI rfl rfl (by omega) (by omega)) (fun hB10 w11 => ?_)
              refine ez_go (n := 1) (pc' := 164) (L' := [(6, .inl (v)), (5, .inl (0)), (4, .inl (s)), (3, .inl (c.1)), (2, .inl (k)), (1, .inl (n)), (0, .inr (.inr (some (770))))]) (st' := [.inr (.inr (some (770)))]) rfl ?_
              refine ez_gC (p := 798) (tg := 85) hB10 t770 rfl rfl tq_75 rfl rfl (fun (t798 : _ = 85) => ?_)
              refine ez_go (n := 2) (pc' := 169) (L' := [(6, .inl (v)), (5, .inl (0)), (4, .inl (s)), (3, .inl (c.1)), (2, .inl (k)), (1, .inl (n)), (0, .inr (.inr (some (770))))]) (st' := [.inr (.inr (some (770))), .inl (n), .inr (.inr (some (798)))]) rfl ?_
              refine ez_gC (p := 798) (tg := 85) hB10 t770 rfl rfl tq_75 rfl rfl (fun (t798 : _ = 85) => ?_)
              refine ez_go (n := 1) (pc' := 173) (L' := [(6, .inl (v)), (5, .inl (0)), (4, .inl (s)), (3, .inl (c.1)), (2, .inl (k)), (1, .inl (n)), (0, .inr (.inr (some (770))))]) (st' := [.inl (k), .inr (.inr (some (798))), .inl (n), .inr (.inr (some (798)))]) rfl ?_
              have n14 : 2000 ≤ qz_N (dz_put g 796 (n).toNat (ez_v (.inl (c.1)))) 798 ∧ qz_N (dz_put g 796 (n).toNat (ez_v (.inl (c.1)))) 798 ≤ 2000 := ez_len hB10 t798 tq_85 rfl
              refine ez_aI hB10 t798 rfl tq_85 rfl rfl (by omega) (by omega) (fun (b13 : -2147483648 ≤ qz_I (dz_put g 796 (n).toNat (ez_v (.inl (c.1)))) 798 (k).toNat) (b13' : qz_I (dz_put g 796 (n).toNat (ez_v (.inl (c.1)))) 798 (k).toNat ≤ 2147483647) => ?_)
              have n17 : 2000 ≤ qz_N (dz_put g 796 (n).toNat (ez_v (.inl (c.1)))) 798 ∧ qz_N (dz_put g 796 (n).toNat (ez_v (.inl (c.1)))) 798 ≤ 2000 := ez_len hB10 t798 tq_85 rfl
              refine ez_as hB10 t798 rfl tq_85 rfl rfl (by omega) (by omega) (ez_vdI rfl rfl (by omega) (by omega)) (fun hB15 w16 => ?_)
              refine ez_go (n := 3) (pc' := 4) (L' := [(2, .inl (k + 1)), (1, .inl (n + 1)), (6, .inl (v)), (5, .inl (0)), (4, .inl (s)), (3, .inl (c.1)), (0, .inr (.inr (some (770))))]) (st' := []) rfl ?_
              refine ez_less [(2, .inl (k + 1)), (1, .inl (n + 1)), (0, .inr (.inr (some (770))))] rfl ⟨rfl, rfl, rfl, trivial⟩ ?_
              have o9 : orz τ h (dz_put (dz_put g 796 (n).toNat (ez_v (.inl (c.1)))) 798 (n).toNat (ez_v (.inl (qz_I (dz_put g 796 (n).toNat (ez_v (.inl (c.1)))) 798 (k).toNat)))) := (ho.put hB10 (Or.inl t796)).put hB15 (Or.inr t798)
              have e0 : qz_I (dz_put (dz_put g 796 (n).toNat (ez_v (.inl (c.1)))) 798 (n).toNat (ez_v (.inl (qz_I (dz_put g 796 (n).toNat (ez_v (.inl (c.1)))) 798 (k).toNat)))) 796 (n).toNat = c.1 := by rw [ez_put_I (fun w => absurd w.1 (by decide)), w11]; exact rz_rd ⟨by omega, by omega⟩
              have e1 : qz_I (dz_put (dz_put g 796 (n).toNat (ez_v (.inl (c.1)))) 798 (n).toNat (ez_v (.inl (qz_I (dz_put g 796 (n).toNat (ez_v (.inl (c.1)))) 798 (k).toNat)))) 798 (n).toNat = c.2 := by rw [w16, ez_put_I (fun w => absurd w.1 (by decide)), show qz_I g 798 (k).toNat = c.2 from ec.2]; exact rz_rd cr
              have e2 : ∀ j, j ≠ (n).toNat → qz_I (dz_put (dz_put g 796 (n).toNat (ez_v (.inl (c.1)))) 798 (n).toNat (ez_v (.inl (qz_I (dz_put g 796 (n).toNat (ez_v (.inl (c.1)))) 798 (k).toNat)))) 796 j = qz_I g 796 j ∧ qz_I (dz_put (dz_put g 796 (n).toNat (ez_v (.inl (c.1)))) 798 (n).toNat (ez_v (.inl (qz_I (dz_put g 796 (n).toNat (ez_v (.inl (c.1)))) 798 (k).toNat)))) 798 j = qz_I g 798 j := fun j hj => ⟨by rw [ez_put_I (fun w => absurd w.1 (by decide)), ez_put_I (fun w => hj w.2)], by rw [ez_put_I (fun w => hj w.2), ez_put_I (fun w => absurd w.1 (by decide))]⟩
              generalize (dz_put (dz_put g 796 (n).toNat (ez_v (.inl (c.1)))) 798 (n).toNat (ez_v (.inl (qz_I (dz_put g 796 (n).toNat (ez_v (.inl (c.1)))) 798 (k).toNat)))) = g9 at *
              have p9 : prm g9 (K ++ [c]) := fun j z hz => by
                by_cases ej : j = n.toNat
                · rw [ej, List.getElem?_append_right (by omega), show n.toNat - K.length = 0 by omega] at hz; cases hz; rw [ej]; exact ⟨e0, e1⟩
                · have hj9 := (List.getElem?_eq_some_iff.mp hz).1
                  rw [List.length_append, List.length_singleton] at hj9
                  rw [List.getElem?_append_left (by omega)] at hz; rw [(e2 j ej).1, (e2 j ej).2]; exact hp j z hz
              have n9 : (K ++ [c]).length = K.length + 1 := by rw [List.length_append, List.length_singleton]
              have q9 : ∀ (j : Nat) z, k + 1 ≤ (j : Int) → L[j]? = some z → qz_I g9 796 j = z.1 ∧ qz_I g9 798 j = z.2 := fun j z hj hz => by rw [(e2 j (by omega)).1, (e2 j (by omega)).2]; exact hq j z (by omega) hz
              refine ih _ _ (K ++ [c]) g9 (by omega) (by omega) (by omega) (by omega) o9 (by rw [n9]; omega) (kst_ok hw hk hK (hL c (List.mem_of_getElem? hc))) p9 q9 (fun R hR => hac R ?_)
              rw [dr]; exact ⟨_, hk, hR⟩
            · skip
              have v1 : 0 ≤ v ∧ v ≤ 1114111 := vb.resolve_left (by omega)
              have hk : kst (vF Ls) (vE Ls) K c (K.set s.toNat (v, (vF Ls v).1)) := Or.inl ⟨_, x, v, hlt, hv, by omega, rfl⟩
              refine ez_go (n := 1) (pc' := 132) (L' := [(6, .inl (v)), (5, .inl (0)), (4, .inl (s)), (3, .inl (c.1)), (2, .inl (k)), (1, .inl (n)), (0, .inr (.inr (some (770))))]) (st' := [.inr (.inr (some (770)))]) rfl ?_
              refine ez_gC (p := 796) (tg := 83) hBg t770 rfl rfl tq_75 rfl rfl (fun (t796 : _ = 83) => ?_)
              refine ez_go (n := 2) (pc' := 139) (L' := [(6, .inl (v)), (5, .inl (0)), (4, .inl (s)), (3, .inl (c.1)), (2, .inl (k)), (1, .inl (n)), (0, .inr (.inr (some (770))))]) (st' := [.inl (v), .inl (s), .inr (.inr (some (796)))]) rfl ?_
              have n20 : 2000 ≤ qz_N g 796 ∧ qz_N g 796 ≤ 2000 := ez_len hBg t796 tq_83 rfl
              refine ez_as hBg t796 rfl tq_83 rfl rfl (by omega) (by omega) (ez_vdI rfl rfl (by omega) (by omega)) (fun hB18 w19 => ?_)
              refine ez_go (n := 1) (pc' := 141) (L' := [(6, .inl (v)), (5, .inl (0)), (4, .inl (s)), (3, .inl (c.1)), (2, .inl (k)), (1, .inl (n)), (0, .inr (.inr (some (770))))]) (st' := [.inr (.inr (some (770)))]) rfl ?_
              refine ez_gC (p := 798) (tg := 85) hB18 t770 rfl rfl tq_75 rfl rfl (fun (t798 : _ = 85) => ?_)
              refine ez_go (n := 3) (pc' := 149) (L' := [(6, .inl (v)), (5, .inl (0)), (4, .inl (s)), (3, .inl (c.1)), (2, .inl (k)), (1, .inl (n)), (0, .inr (.inr (some (770))))]) (st' := [.inl (v), .inr (.inr (some (770))), .inl (s), .inr (.inr (some (798)))]) rfl ?_
              have ho1 : orz τ h (dz_put g 796 (s).toNat (ez_v (.inl (v)))) := ho.put hB18 (Or.inl t796)
              refine ez_cv hB18 t770 rfl rfl rfl tq_75 rfl rfl rfl (rd_mrank (ho1.mIx hI) ⟨by omega, by omega⟩ (fun rg => ez_K1 ?_))
              obtain ⟨rg0, rg1⟩ := id rg
              have n23 : 2000 ≤ qz_N (dz_put g 796 (s).toNat (ez_v (.inl (v)))) 798 ∧ qz_N (dz_put g 796 (s).toNat (ez_v (.inl (v)))) 798 ≤ 2000 := ez_len hB18 t798 tq_85 rfl
              refine ez_as hB18 t798 rfl tq_85 rfl rfl (by omega) (by omega) (ez_vdI rfl rfl (by omega) (by omega)) (fun hB21 w22 => ?_)
              refine ez_go (n := 3) (pc' := 4) (L' := [(2, .inl (k + 1)), (6, .inl (v)), (5, .inl (0)), (4, .inl (s)), (3, .inl (c.1)), (1, .inl (n)), (0, .inr (.inr (some (770))))]) (st' := []) rfl ?_
              refine ez_less [(2, .inl (k + 1)), (1, .inl (n)), (0, .inr (.inr (some (770))))] rfl ⟨rfl, rfl, rfl, trivial⟩ ?_
              have o9 : orz τ h (dz_put (dz_put g 796 (s).toNat (ez_v (.inl (v)))) 798 (s).toNat (ez_v (.inl ((vF Ls v).1)))) := (ho.put hB18 (Or.inl t796)).put hB21 (Or.inr t798)
              have e0 : qz_I (dz_put (dz_put g 796 (s).toNat (ez_v (.inl (v)))) 798 (s).toNat (ez_v (.inl ((vF Ls v).1)))) 796 (s).toNat = v := by rw [ez_put_I (fun w => absurd w.1 (by decide)), w19]; exact rz_rd ⟨by omega, by omega⟩
              have e1 : qz_I (dz_put (dz_put g 796 (s).toNat (ez_v (.inl (v)))) 798 (s).toNat (ez_v (.inl ((vF Ls v).1)))) 798 (s).toNat = (vF Ls v).1 := by rw [w22]; exact rz_rd rg
              have e2 : ∀ j, j ≠ (s).toNat → qz_I (dz_put (dz_put g 796 (s).toNat (ez_v (.inl (v)))) 798 (s).toNat (ez_v (.inl ((vF Ls v).1)))) 796 j = qz_I g 796 j ∧ qz_I (dz_put (dz_put g 796 (s).toNat (ez_v (.inl (v)))) 798 (s).toNat (ez_v (.inl ((vF Ls v).1)))) 798 j = qz_I g 798 j := fun j hj => ⟨by rw [ez_put_I (fun w => absurd w.1 (by decide)), ez_put_I (fun w => hj w.2)], by rw [ez_put_I (fun w => hj w.2), ez_put_I (fun w => absurd w.1 (by decide))]⟩
              generalize (dz_put (dz_put g 796 (s).toNat (ez_v (.inl (v)))) 798 (s).toNat (ez_v (.inl ((vF Ls v).1)))) = g9 at *
              have p9 : prm g9 (K.set s.toNat (v, (vF Ls v).1)) := fun j z hz => by
                by_cases ej : j = s.toNat
                · rw [ej, List.getElem?_set_self sl9] at hz; cases hz; rw [ej]; exact ⟨e0, e1⟩
                · rw [List.getElem?_set_ne (fun w => ej w.symm)] at hz; rw [(e2 j ej).1, (e2 j ej).2]; exact hp j z hz
              have n9 : (K.set s.toNat (v, (vF Ls v).1)).length = K.length := List.length_set
              have q9 : ∀ (j : Nat) z, k + 1 ≤ (j : Int) → L[j]? = some z → qz_I g9 796 j = z.1 ∧ qz_I g9 798 j = z.2 := fun j z hj hz => by rw [(e2 j (by omega)).1, (e2 j (by omega)).2]; exact hq j z (by omega) hz
              refine ih _ _ (K.set s.toNat (v, (vF Ls v).1)) g9 (by omega) (by omega) (by omega) (by omega) o9 (by rw [n9]; omega) (kst_ok hw hk hK (hL c (List.mem_of_getElem? hc))) p9 q9 (fun R hR => hac R ?_)
              rw [dr]; exact ⟨_, hk, hR⟩
          · skip
            have hk : kst (vF Ls) (vE Ls) K c (K ++ [c]) := Or.inr ⟨fun s2 x2 hl => ?_, rfl⟩
            rotate_left
            · have hx2 := (hp _ _ hl.1).2
              have l2 := (List.getElem?_eq_some_iff.mp hl.1).1
              have es : s = (s2 : Int) := by
                rcases hs with ⟨w0, w⟩ | ⟨w0, w1, w2, w3⟩
                · exact absurd (by rw [hx2]; exact hl.2.1) (w s2 (by omega))
                · by_cases a : s < (s2 : Int)
                  · exact absurd (by rw [hx2]; exact hl.2.1) (w3 s2 a (by omega))
                  · by_cases b2 : (s2 : Int) < s
                    · have l3 : s.toNat < K.length := by omega
                      have q := hl.2.2 s.toNat _ (by omega) (List.getElem?_eq_getElem l3)
                      rw [← (hp _ _ (List.getElem?_eq_getElem l3)).2] at q
                      exact absurd w2 q.1
                    · omega
              exfalso
              rcases hb1 with w | ⟨i, i1, i2, i3⟩
              · omega
              · have l3 : i < K.length := by omega
                have q := hl.2.2 i _ (by omega) (List.getElem?_eq_getElem l3)
                rw [← (hp _ _ (List.getElem?_eq_getElem l3)).2] at q
                omega
            clear hb1
            refine ez_go (n := 1) (pc' := 105) (L' := [(6, .inl (j)), (5, .inl (1)), (4, .inl (s)), (3, .inl (c.1)), (2, .inl (k)), (1, .inl (n)), (0, .inr (.inr (some (770))))]) (st' := [.inl (1)]) rfl ?_
            refine ez_if rfl rfl ⟨by decide, by decide⟩ (fun (c24 : (1 : Int) = (0)) => absurd c24 (by decide)) (fun _ => ?_)
            refine ez_go (n := 4) (pc' := 128) (L' := [(6, .inl (-1)), (5, .inl (1)), (4, .inl (s)), (3, .inl (c.1)), (2, .inl (k)), (1, .inl (n)), (0, .inr (.inr (some (770))))]) (st' := [.inl (-1)]) rfl ?_
            refine ez_if rfl rfl ⟨by decide, by decide⟩ (fun _ => ?_) (fun (c25 : ¬((-1 : Int) < (0))) => absurd c25 (by decide))
            refine ez_go (n := 1) (pc' := 157) (L' := [(6, .inl (-1)), (5, .inl (1)), (4, .inl (s)), (3, .inl (c.1)), (2, .inl (k)), (1, .inl (n)), (0, .inr (.inr (some (770))))]) (st' := [.inr (.inr (some (770)))]) rfl ?_
            refine ez_gC (p := 796) (tg := 83) hBg t770 rfl rfl tq_75 rfl rfl (fun (t796 : _ = 83) => ?_)
            refine ez_go (n := 2) (pc' := 162) (L' := [(6, .inl (-1)), (5, .inl (1)), (4, .inl (s)), (3, .inl (c.1)), (2, .inl (k)), (1, .inl (n)), (0, .inr (.inr (some (770))))]) (st' := [.inl (c.1), .inl (n), .inr (.inr (some (796)))]) rfl ?_
            have n28 : 2000 ≤ qz_N g 796 ∧ qz_N g 796 ≤ 2000 := ez_len hBg t796 tq_83 rfl
            refine ez_as hBg t796 rfl tq_83 rfl rfl (by omega) (by omega) (ez_vdI rfl rfl (by omega) (by omega)) (fun hB26 w27 => ?_)
            refine ez_go (n := 1) (pc' := 164) (L' := [(6, .inl (-1)), (5, .inl (1)), (4, .inl (s)), (3, .inl (c.1)), (2, .inl (k)), (1, .inl (n)), (0, .inr (.inr (some (770))))]) (st' := [.inr (.inr (some (770)))]) rfl ?_
            refine ez_gC (p := 798) (tg := 85) hB26 t770 rfl rfl tq_75 rfl rfl (fun (t798 : _ = 85) => ?_)
            refine ez_go (n := 2) (pc' := 169) (L' := [(6, .inl (-1)), (5, .inl (1)), (4, .inl (s)), (3, .inl (c.1)), (2, .inl (k)), (1, .inl (n)), (0, .inr (.inr (some (770))))]) (st' := [.inr (.inr (some (770))), .inl (n), .inr (.inr (some (798)))]) rfl ?_
            refine ez_gC (p := 798) (tg := 85) hB26 t770 rfl rfl tq_75 rfl rfl (fun (t798 : _ = 85) => ?_)
            refine ez_go (n := 1) (pc' := 173) (L' := [(6, .inl (-1)), (5, .inl (1)), (4, .inl (s)), (3, .inl (c.1)), (2, .inl (k)), (1, .inl (n)), (0, .inr (.inr (some (770))))]) (st' := [.inl (k), .inr (.inr (some (798))), .inl (n), .inr (.inr (some (798)))]) rfl ?_
            have n30 : 2000 ≤ qz_N (dz_put g 796 (n).toNat (ez_v (.inl (c.1)))) 798 ∧ qz_N (dz_put g 796 (n).toNat (ez_v (.inl (c.1)))) 798 ≤ 2000 := ez_len hB26 t798 tq_85 rfl
            refine ez_aI hB26 t798 rfl tq_85 rfl rfl (by omega) (by omega) (fun (b29 : -2147483648 ≤ qz_I (dz_put g 796 (n).toNat (ez_v (.inl (c.1)))) 798 (k).toNat) (b29' : qz_I (dz_put g 796 (n).toNat (ez_v (.inl (c.1)))) 798 (k).toNat ≤ 2147483647) => ?_)
            have n33 : 2000 ≤ qz_N (dz_put g 796 (n).toNat (ez_v (.inl (c.1)))) 798 ∧ qz_N (dz_put g 796 (n).toNat (ez_v (.inl (c.1)))) 798 ≤ 2000 := ez_len hB26 t798 tq_85 rfl
            refine ez_as hB26 t798 rfl tq_85 rfl rfl (by omega) (by omega) (ez_vdI rfl rfl (by omega) (by omega)) (fun hB31 w32 => ?_)
            refine ez_go (n := 3) (pc' := 4) (L' := [(2, .inl (k + 1)), (1, .inl (n + 1)), (6, .inl (-1)), (5, .inl (1)), (4, .inl (s)), (3, .inl (c.1)), (0, .inr (.inr (some (770))))]) (st' := []) rfl ?_
            refine ez_less [(2, .inl (k + 1)), (1, .inl (n + 1)), (0, .inr (.inr (some (770))))] rfl ⟨rfl, rfl, rfl, trivial⟩ ?_
            have o9 : orz τ h (dz_put (dz_put g 796 (n).toNat (ez_v (.inl (c.1)))) 798 (n).toNat (ez_v (.inl (qz_I (dz_put g 796 (n).toNat (ez_v (.inl (c.1)))) 798 (k).toNat)))) := (ho.put hB26 (Or.inl t796)).put hB31 (Or.inr t798)
            have e0 : qz_I (dz_put (dz_put g 796 (n).toNat (ez_v (.inl (c.1)))) 798 (n).toNat (ez_v (.inl (qz_I (dz_put g 796 (n).toNat (ez_v (.inl (c.1)))) 798 (k).toNat)))) 796 (n).toNat = c.1 := by rw [ez_put_I (fun w => absurd w.1 (by decide)), w27]; exact rz_rd ⟨by omega, by omega⟩
            have e1 : qz_I (dz_put (dz_put g 796 (n).toNat (ez_v (.inl (c.1)))) 798 (n).toNat (ez_v (.inl (qz_I (dz_put g 796 (n).toNat (ez_v (.inl (c.1)))) 798 (k).toNat)))) 798 (n).toNat = c.2 := by rw [w32, ez_put_I (fun w => absurd w.1 (by decide)), show qz_I g 798 (k).toNat = c.2 from ec.2]; exact rz_rd cr
            have e2 : ∀ j, j ≠ (n).toNat → qz_I (dz_put (dz_put g 796 (n).toNat (ez_v (.inl (c.1)))) 798 (n).toNat (ez_v (.inl (qz_I (dz_put g 796 (n).toNat (ez_v (.inl (c.1)))) 798 (k).toNat)))) 796 j = qz_I g 796 j ∧ qz_I (dz_put (dz_put g 796 (n).toNat (ez_v (.inl (c.1)))) 798 (n).toNat (ez_v (.inl (qz_I (dz_put g 796 (n).toNat (ez_v (.inl (c.1)))) 798 (k).toNat)))) 798 j = qz_I g 798 j := fun j hj => ⟨by rw [ez_put_I (fun w => absurd w.1 (by decide)), ez_put_I (fun w => hj w.2)], by rw [ez_put_I (fun w => hj w.2), ez_put_I (fun w => absurd w.1 (by decide))]⟩
            generalize (dz_put (dz_put g 796 (n).toNat (ez_v (.inl (c.1)))) 798 (n).toNat (ez_v (.inl (qz_I (dz_put g 796 (n).toNat (ez_v (.inl (c.1)))) 798 (k).toNat)))) = g9 at *
            have p9 : prm g9 (K ++ [c]) := fun j z hz => by
              by_cases ej : j = n.toNat
              · rw [ej, List.getElem?_append_right (by omega), show n.toNat - K.length = 0 by omega] at hz; cases hz; rw [ej]; exact ⟨e0, e1⟩
              · have hj9 := (List.getElem?_eq_some_iff.mp hz).1
                rw [List.length_append, List.length_singleton] at hj9
                rw [List.getElem?_append_left (by omega)] at hz; rw [(e2 j ej).1, (e2 j ej).2]; exact hp j z hz
            have n9 : (K ++ [c]).length = K.length + 1 := by rw [List.length_append, List.length_singleton]
            have q9 : ∀ (j : Nat) z, k + 1 ≤ (j : Int) → L[j]? = some z → qz_I g9 796 j = z.1 ∧ qz_I g9 798 j = z.2 := fun j z hj hz => by rw [(e2 j (by omega)).1, (e2 j (by omega)).2]; exact hq j z (by omega) hz
            refine ih _ _ (K ++ [c]) g9 (by omega) (by omega) (by omega) (by omega) o9 (by rw [n9]; omega) (kst_ok hw hk hK (hL c (List.mem_of_getElem? hc))) p9 q9 (fun R hR => hac R ?_)
            rw [dr]; exact ⟨_, hk, hR⟩
        · skip
          refine ez_go (n := 7) (pc' := 63) (L' := [(6, .inl ((s) + (1))), (5, .inl (1)), (4, .inl (s)), (3, .inl (c.1)), (2, .inl (k)), (1, .inl (n)), (0, .inr (.inr (some (770))))]) (st' := []) rfl ?_
          refine ez_less [(6, .inl ((s) + (1))), (5, .inl (1)), (4, .inl (s)), (3, .inl (c.1)), (2, .inl (k)), (1, .inl (n)), (0, .inr (.inr (some (770))))] rfl ⟨rfl, rfl, rfl, rfl, rfl, rfl, rfl, trivial⟩ ?_
          refine rd_mc_b hBg t770 (by omega) (by omega) (by omega) (by omega) (by omega) (by omega) (fun j b hb => ?_) _ (s + 1) 1 (Nat.le_refl _) (by omega) (Or.inr rfl) (Or.inr ⟨rfl, Or.inl (by omega)⟩)
          rw [ec.2] at hb
          have br : ez_rg b := by rcases hb with w | w <;> (rw [w.1]; exact ⟨by decide, by decide⟩)
          rcases hb with ⟨rfl, hb1, hb2⟩ | ⟨rfl, hb1⟩
          · skip
            have sl9 : s.toNat < K.length := by omega
            obtain ⟨x, hx2⟩ : ∃ x, K[s.toNat]? = some x := ⟨_, List.getElem?_eq_getElem sl9⟩
            have ex := hp _ _ hx2
            have xb := (hK x (List.mem_of_getElem? hx2)).1
            have hlt : lst K c.2 s.toNat x := by
              rcases hs with ⟨w0, w⟩ | ⟨w0, w1, w2, w3⟩
              · omega
              · refine ⟨hx2, by rw [← ex.2]; exact w2, fun j y hj hy => ?_⟩
                have ej := (hp j y hy).2
                have lj := (List.getElem?_eq_some_iff.mp hy).1
                have q1 := w3 j (by omega) (by omega)
                have q2 := hb2 j (by omega) (by omega)
                rw [ej] at q1 q2
                exact ⟨q1, q2⟩
            refine ez_go (n := 1) (pc' := 105) (L' := [(6, .inl (j)), (5, .inl (0)), (4, .inl (s)), (3, .inl (c.1)), (2, .inl (k)), (1, .inl (n)), (0, .inr (.inr (some (770))))]) (st' := [.inl (0)]) rfl ?_
            refine ez_if rfl rfl ⟨by decide, by decide⟩ (fun _ => ?_) (fun (c34 : ¬((0 : Int) = (0))) => absurd c34 (by decide))
            refine ez_go (n := 2) (pc' := 114) (L' := [(6, .inl (j)), (5, .inl (0)), (4, .inl (s)), (3, .inl (c.1)), (2, .inl (k)), (1, .inl (n)), (0, .inr (.inr (some (770))))]) (st' := [.inr (.inr (some (770))), .inr (.inr (some (770)))]) rfl ?_
            refine ez_gC (p := 796) (tg := 83) hBg t770 rfl rfl tq_75 rfl rfl (fun (t796 : _ = 83) => ?_)
            refine ez_go (n := 1) (pc' := 119) (L' := [(6, .inl (j)), (5, .inl (0)), (4, .inl (s)), (3, .inl (c.1)), (2, .inl (k)), (1, .inl (n)), (0, .inr (.inr (some (770))))]) (st' := [.inl (s), .inr (.inr (some (796))), .inr (.inr (some (770)))]) rfl ?_
            have n36 : 2000 ≤ qz_N g 796 ∧ qz_N g 796 ≤ 2000 := ez_len hBg t796 tq_83 rfl
            refine ez_aI hBg t796 rfl tq_83 rfl rfl (by omega) (by omega) (fun (b35 : -2147483648 ≤ qz_I g 796 (s).toNat) (b35' : qz_I g 796 (s).toNat ≤ 2147483647) => ?_)
            refine ez_go (n := 1) (pc' := 121) (L' := [(6, .inl (j)), (5, .inl (0)), (4, .inl (s)), (3, .inl (c.1)), (2, .inl (k)), (1, .inl (n)), (0, .inr (.inr (some (770))))]) (st' := [.inl (c.1), .inl (qz_I g 796 (s).toNat), .inr (.inr (some (770)))]) rfl ?_
            rw [show qz_I g 796 (s).toNat = x.1 from ex.1]
            refine ez_cv hBg t770 rfl rfl rfl tq_75 rfl rfl rfl (rd_mcomp (F := vF Ls) (E := vE Ls) eg pg ⟨by omega, by omega⟩ ⟨by omega, by omega⟩ (fun v hv => ez_K1 ?_))
            have vb := cpR_bd hw hv
            refine ez_go (n := 2) (pc' := 128) (L' := [(6, .inl (v)), (5, .inl (0)), (4, .inl (s)), (3, .inl (c.1)), (2, .inl (k)), (1, .inl (n)), (0, .inr (.inr (some (770))))]) (st' := [.inl (v)]) rfl ?_
            refine ez_if rfl rfl ⟨by first | omega | exact (sz_i32 _).1, by first | omega | exact (sz_i32 _).2⟩ (fun (c37 : (v) < (0)) => ?_) (fun (c37 : ¬((v) < (0))) => ?_)
            · skip
              have hk : kst (vF Ls) (vE Ls) K c (K ++ [c]) := Or.inr ⟨fun s2 x2 hl => by obtain ⟨e2, e3⟩ := lst_u hl hlt; rw [e3, show (-1 : Int) = v by omega]; exact hv, rfl⟩
              refine ez_go (n := 1) (pc' := 157) (L' := [(6, .inl (v)), (5, .inl (0)), (4, .inl (s)), (3, .inl (c.1)), (2, .inl (k)), (1, .inl (n)), (0, .inr (.inr (some (770))))]) (st' := [.inr (.inr (some (770)))]) rfl ?_
              refine ez_gC (p := 796) (tg := 83) hBg t770 rfl rfl tq_75 rfl rfl (fun (t796 : _ = 83) => ?_)
              refine ez_go (n := 2) (pc' := 162) (L' := [(6, .inl (v)), (5, .inl (0)), (4, .inl (s)), (3, .inl (c.1)), (2, .inl (k)), (1, .inl (n)), (0, .inr (.inr (some (770))))]) (st' := [.inl (c.1), .inl (n), .inr (.inr (some (796)))]) rfl ?_
              have n40 : 2000 ≤ qz_N g 796 ∧ qz_N g 796 ≤ 2000 := ez_len hBg t796 tq_83 rfl
              refine ez_as hBg t796 rfl tq_83 rfl rfl (by omega) (by omega) (ez_vdI rfl rfl (by omega) (by omega)) (fun hB38 w39 => ?_)
              refine ez_go (n := 1) (pc' := 164) (L' := [(6, .inl (v)), (5, .inl (0)), (4, .inl (s)), (3, .inl (c.1)), (2, .inl (k)), (1, .inl (n)), (0, .inr (.inr (some (770))))]) (st' := [.inr (.inr (some (770)))]) rfl ?_
              refine ez_gC (p := 798) (tg := 85) hB38 t770 rfl rfl tq_75 rfl rfl (fun (t798 : _ = 85) => ?_)
              refine ez_go (n := 2) (pc' := 169) (L' := [(6, .inl (v)), (5, .inl (0)), (4, .inl (s)), (3, .inl (c.1)), (2, .inl (k)), (1, .inl (n)), (0, .inr (.inr (some (770))))]) (st' := [.inr (.inr (some (770))), .inl (n), .inr (.inr (some (798)))]) rfl ?_
              refine ez_gC (p := 798) (tg := 85) hB38 t770 rfl rfl tq_75 rfl rfl (fun (t798 : _ = 85) => ?_)
              refine ez_go (n := 1) (pc' := 173) (L' := [(6, .inl (v)), (5, .inl (0)), (4, .inl (s)), (3, .inl (c.1)), (2, .inl (k)), (1, .inl (n)), (0, .inr (.inr (some (770))))]) (st' := [.inl (k), .inr (.inr (some (798))), .inl (n), .inr (.inr (some (798)))]) rfl ?_
              have n42 : 2000 ≤ qz_N (dz_put g 796 (n).toNat (ez_v (.inl (c.1)))) 798 ∧ qz_N (dz_put g 796 (n).toNat (ez_v (.inl (c.1)))) 798 ≤ 2000 := ez_len hB38 t798 tq_85 rfl
              refine ez_aI hB38 t798 rfl tq_85 rfl rfl (by omega) (by omega) (fun (b41 : -2147483648 ≤ qz_I (dz_put g 796 (n).toNat (ez_v (.inl (c.1)))) 798 (k).toNat) (b41' : qz_I (dz_put g 796 (n).toNat (ez_v (.inl (c.1)))) 798 (k).toNat ≤ 2147483647) => ?_)
              have n45 : 2000 ≤ qz_N (dz_put g 796 (n).toNat (ez_v (.inl (c.1)))) 798 ∧ qz_N (dz_put g 796 (n).toNat (ez_v (.inl (c.1)))) 798 ≤ 2000 := ez_len hB38 t798 tq_85 rfl
              refine ez_as hB38 t798 rfl tq_85 rfl rfl (by omega) (by omega) (ez_vdI rfl rfl (by omega) (by omega)) (fun hB43 w44 => ?_)
              refine ez_go (n := 3) (pc' := 4) (L' := [(2, .inl (k + 1)), (1, .inl (n + 1)), (6, .inl (v)), (5, .inl (0)), (4, .inl (s)), (3, .inl (c.1)), (0, .inr (.inr (some (770))))]) (st' := []) rfl ?_
              refine ez_less [(2, .inl (k + 1)), (1, .inl (n + 1)), (0, .inr (.inr (some (770))))] rfl ⟨rfl, rfl, rfl, trivial⟩ ?_
              have o9 : orz τ h (dz_put (dz_put g 796 (n).toNat (ez_v (.inl (c.1)))) 798 (n).toNat (ez_v (.inl (qz_I (dz_put g 796 (n).toNat (ez_v (.inl (c.1)))) 798 (k).toNat)))) := (ho.put hB38 (Or.inl t796)).put hB43 (Or.inr t798)
              have e0 : qz_I (dz_put (dz_put g 796 (n).toNat (ez_v (.inl (c.1)))) 798 (n).toNat (ez_v (.inl (qz_I (dz_put g 796 (n).toNat (ez_v (.inl (c.1)))) 798 (k).toNat)))) 796 (n).toNat = c.1 := by rw [ez_put_I (fun w => absurd w.1 (by decide)), w39]; exact rz_rd ⟨by omega, by omega⟩
              have e1 : qz_I (dz_put (dz_put g 796 (n).toNat (ez_v (.inl (c.1)))) 798 (n).toNat (ez_v (.inl (qz_I (dz_put g 796 (n).toNat (ez_v (.inl (c.1)))) 798 (k).toNat)))) 798 (n).toNat = c.2 := by rw [w44, ez_put_I (fun w => absurd w.1 (by decide)), show qz_I g 798 (k).toNat = c.2 from ec.2]; exact rz_rd cr
              have e2 : ∀ j, j ≠ (n).toNat → qz_I (dz_put (dz_put g 796 (n).toNat (ez_v (.inl (c.1)))) 798 (n).toNat (ez_v (.inl (qz_I (dz_put g 796 (n).toNat (ez_v (.inl (c.1)))) 798 (k).toNat)))) 796 j = qz_I g 796 j ∧ qz_I (dz_put (dz_put g 796 (n).toNat (ez_v (.inl (c.1)))) 798 (n).toNat (ez_v (.inl (qz_I (dz_put g 796 (n).toNat (ez_v (.inl (c.1)))) 798 (k).toNat)))) 798 j = qz_I g 798 j := fun j hj => ⟨by rw [ez_put_I (fun w => absurd w.1 (by decide)), ez_put_I (fun w => hj w.2)], by rw [ez_put_I (fun w => hj w.2), ez_put_I (fun w => absurd w.1 (by decide))]⟩
              generalize (dz_put (dz_put g 796 (n).toNat (ez_v (.inl (c.1)))) 798 (n).toNat (ez_v (.inl (qz_I (dz_put g 796 (n).toNat (ez_v (.inl (c.1)))) 798 (k).toNat)))) = g9 at *
              have p9 : prm g9 (K ++ [c]) := fun j z hz => by
                by_cases ej : j = n.toNat
                · rw [ej, List.getElem?_append_right (by omega), show n.toNat - K.length = 0 by omega] at hz; cases hz; rw [ej]; exact ⟨e0, e1⟩
                · have hj9 := (List.getElem?_eq_some_iff.mp hz).1
                  rw [List.length_append, List.length_singleton] at hj9
                  rw [List.getElem?_append_left (by omega)] at hz; rw [(e2 j ej).1, (e2 j ej).2]; exact hp j z hz
              have n9 : (K ++ [c]).length = K.length + 1 := by rw [List.length_append, List.length_singleton]
              have q9 : ∀ (j : Nat) z, k + 1 ≤ (j : Int) → L[j]? = some z → qz_I g9 796 j = z.1 ∧ qz_I g9 798 j = z.2 := fun j z hj hz => by rw [(e2 j (by omega)).1, (e2 j (by omega)).2]; exact hq j z (by omega) hz
              refine ih _ _ (K ++ [c]) g9 (by omega) (by omega) (by omega) (by omega) o9 (by rw [n9]; omega) (kst_ok hw hk hK (hL c (List.mem_of_getElem? hc))) p9 q9 (fun R hR => hac R ?_)
              rw [dr]; exact ⟨_, hk, hR⟩
            · skip
              have v1 : 0 ≤ v ∧ v ≤ 1114111 := vb.resolve_left (by omega)
              have hk : kst (vF Ls) (vE Ls) K c (K.set s.toNat (v, (vF Ls v).1)) := Or.inl ⟨_, x, v, hlt, hv, by omega, rfl⟩
              refine ez_go (n := 1) (pc' := 132) (L' := [(6, .inl (v)), (5, .inl (0)), (4, .inl (s)), (3, .inl (c.1)), (2, .inl (k)), (1, .inl (n)), (0, .inr (.inr (some (770))))]) (st' := [.inr (.inr (some (770)))]) rfl ?_
              refine ez_gC (p := 796) (tg := 83) hBg t770 rfl rfl tq_75 rfl rfl (fun (t796 : _ = 83) => ?_)
              refine ez_go (n := 2) (pc' := 139) (L' := [(6, .inl (v)), (5, .inl (0)), (4, .inl (s)), (3, .inl (c.1)), (2, .inl (k)), (1, .inl (n)), (0, .inr (.inr (some (770))))]) (st' := [.inl (v), .inl (s), .inr (.inr (some (796)))]) rfl ?_
              have n48 : 2000 ≤ qz_N g 796 ∧ qz_N g 796 ≤ 2000 := ez_len hBg t796 tq_83 rfl
              refine ez_as hBg t796 rfl tq_83 rfl rfl (by omega) (by omega) (ez_vdI rfl rfl (by omega) (by omega)) (fun hB46 w47 => ?_)
              refine ez_go (n := 1) (pc' := 141) (L' := [(6, .inl (v)), (5, .inl (0)), (4, .inl (s)), (3, .inl (c.1)), (2, .inl (k)), (1, .inl (n)), (0, .inr (.inr (some (770))))]) (st' := [.inr (.inr (some (770)))]) rfl ?_
              refine ez_gC (p := 798) (tg := 85) hB46 t770 rfl rfl tq_75 rfl rfl (fun (t798 : _ = 85) => ?_)
              refine ez_go (n := 3) (pc' := 149) (L' := [(6, .inl (v)), (5, .inl (0)), (4, .inl (s)), (3, .inl (c.1)), (2, .inl (k)), (1, .inl (n)), (0, .inr (.inr (some (770))))]) (st' := [.inl (v), .inr (.inr (some (770))), .inl (s), .inr (.inr (some (798)))]) rfl ?_
              have ho1 : orz τ h (dz_put g 796 (s).toNat (ez_v (.inl (v)))) := ho.put hB46 (Or.inl t796)
              refine ez_cv hB46 t770 rfl rfl rfl tq_75 rfl rfl rfl (rd_mrank (ho1.mIx hI) ⟨by omega, by omega⟩ (fun rg => ez_K1 ?_))
              obtain ⟨rg0, rg1⟩ := id rg
              have n51 : 2000 ≤ qz_N (dz_put g 796 (s).toNat (ez_v (.inl (v)))) 798 ∧ qz_N (dz_put g 796 (s).toNat (ez_v (.inl (v)))) 798 ≤ 2000 := ez_len hB46 t798 tq_85 rfl
              refine ez_as hB46 t798 rfl tq_85 rfl rfl (by omega) (by omega) (ez_vdI rfl rfl (by omega) (by omega)) (fun hB49 w50 => ?_)
              refine ez_go (n := 3) (pc' := 4) (L' := [(2, .inl (k + 1)), (6, .inl (v)), (5, .inl (0)), (4, .inl (s)), (3, .inl (c.1)), (1, .inl (n)), (0, .inr (.inr (some (770))))]) (st' := []) rfl ?_
              refine ez_less [(2, .inl (k + 1)), (1, .inl (n)), (0, .inr (.inr (some (770))))] rfl ⟨rfl, rfl, rfl, trivial⟩ ?_
              have o9 : orz τ h (dz_put (dz_put g 796 (s).toNat (ez_v (.inl (v)))) 798 (s).toNat (ez_v (.inl ((vF Ls v).1)))) := (ho.put hB46 (Or.inl t796)).put hB49 (Or.inr t798)
              have e0 : qz_I (dz_put (dz_put g 796 (s).toNat (ez_v (.inl (v)))) 798 (s).toNat (ez_v (.inl ((vF Ls v).1)))) 796 (s).toNat = v := by rw [ez_put_I (fun w => absurd w.1 (by decide)), w47]; exact rz_rd ⟨by omega, by omega⟩
              have e1 : qz_I (dz_put (dz_put g 796 (s).toNat (ez_v (.inl (v)))) 798 (s).toNat (ez_v (.inl ((vF Ls v).1)))) 798 (s).toNat = (vF Ls v).1 := by rw [w50]; exact rz_rd rg
              have e2 : ∀ j, j ≠ (s).toNat → qz_I (dz_put (dz_put g 796 (s).toNat (ez_v (.inl (v)))) 798 (s).toNat (ez_v (.inl ((vF Ls v).1)))) 796 j = qz_I g 796 j ∧ qz_I (dz_put (dz_put g 796 (s).toNat (ez_v (.inl (v)))) 798 (s).toNat (ez_v (.inl ((vF Ls v).1)))) 798 j = qz_I g 798 j := fun j hj => ⟨by rw [ez_put_I (fun w => absurd w.1 (by decide)), ez_put_I (fun w => hj w.2)], by rw [ez_put_I (fun w => hj w.2), ez_put_I (fun w => absurd w.1 (by decide))]⟩
              generalize (dz_put (dz_put g 796 (s).toNat (ez_v (.inl (v)))) 798 (s).toNat (ez_v (.inl ((vF Ls v).1)))) = g9 at *
              have p9 : prm g9 (K.set s.toNat (v, (vF Ls v).1)) := fun j z hz => by
                by_cases ej : j = s.toNat
                · rw [ej, List.getElem?_set_self sl9] at hz; cases hz; rw [ej]; exact ⟨e0, e1⟩
                · rw [List.getElem?_set_ne (fun w => ej w.symm)] at hz; rw [(e2 j ej).1, (e2 j ej).2]; exact hp j z hz
              have n9 : (K.set s.toNat (v, (vF Ls v).1)).length = K.length := List.length_set
              have q9 : ∀ (j : Nat) z, k + 1 ≤ (j : Int) → L[j]? = some z → qz_I g9 796 j = z.1 ∧ qz_I g9 798 j = z.2 := fun j z hj hz => by rw [(e2 j (by omega)).1, (e2 j (by omega)).2]; exact hq j z (by omega) hz
              refine ih _ _ (K.set s.toNat (v, (vF Ls v).1)) g9 (by omega) (by omega) (by omega) (by omega) o9 (by rw [n9]; omega) (kst_ok hw hk hK (hL c (List.mem_of_getElem? hc))) p9 q9 (fun R hR => hac R ?_)
              rw [dr]; exact ⟨_, hk, hR⟩
          · skip
            have hk : kst (vF Ls) (vE Ls) K c (K ++ [c]) := Or.inr ⟨fun s2 x2 hl => ?_, rfl⟩
            rotate_left
            · have hx2 := (hp _ _ hl.1).2
              have l2 := (List.getElem?_eq_some_iff.mp hl.1).1
              have es : s = (s2 : Int) := by
                rcases hs with ⟨w0, w⟩ | ⟨w0, w1, w2, w3⟩
                · exact absurd (by rw [hx2]; exact hl.2.1) (w s2 (by omega))
                · by_cases a : s < (s2 : Int)
                  · exact absurd (by rw [hx2]; exact hl.2.1) (w3 s2 a (by omega))
                  · by_cases b2 : (s2 : Int) < s
                    · have l3 : s.toNat < K.length := by omega
                      have q := hl.2.2 s.toNat _ (by omega) (List.getElem?_eq_getElem l3)
                      rw [← (hp _ _ (List.getElem?_eq_getElem l3)).2] at q
                      exact absurd w2 q.1
                    · omega
              exfalso
              rcases hb1 with w | ⟨i, i1, i2, i3⟩
              · omega
              · have l3 : i < K.length := by omega
                have q := hl.2.2 i _ (by omega) (List.getElem?_eq_getElem l3)
                rw [← (hp _ _ (List.getElem?_eq_getElem l3)).2] at q
                omega
            clear hb1
            refine ez_go (n := 1) (pc' := 105) (L' := [(6, .inl (j)), (5, .inl (1)), (4, .inl (s)), (3, .inl (c.1)), (2, .inl (k)), (1, .inl (n)), (0, .inr (.inr (some (770))))]) (st' := [.inl (1)]) rfl ?_
            refine ez_if rfl rfl ⟨by decide, by decide⟩ (fun (c52 : (1 : Int) = (0)) => absurd c52 (by decide)) (fun _ => ?_)
            refine ez_go (n := 4) (pc' := 128) (L' := [(6, .inl (-1)), (5, .inl (1)), (4, .inl (s)), (3, .inl (c.1)), (2, .inl (k)), (1, .inl (n)), (0, .inr (.inr (some (770))))]) (st' := [.inl (-1)]) rfl ?_
            refine ez_if rfl rfl ⟨by decide, by decide⟩ (fun _ => ?_) (fun (c53 : ¬((-1 : Int) < (0))) => absurd c53 (by decide))
            refine ez_go (n := 1) (pc' := 157) (L' := [(6, .inl (-1)), (5, .inl (1)), (4, .inl (s)), (3, .inl (c.1)), (2, .inl (k)), (1, .inl (n)), (0, .inr (.inr (some (770))))]) (st' := [.inr (.inr (some (770)))]) rfl ?_
            refine ez_gC (p := 796) (tg := 83) hBg t770 rfl rfl tq_75 rfl rfl (fun (t796 : _ = 83) => ?_)
            refine ez_go (n := 2) (pc' := 162) (L' := [(6, .inl (-1)), (5, .inl (1)), (4, .inl (s)), (3, .inl (c.1)), (2, .inl (k)), (1, .inl (n)), (0, .inr (.inr (some (770))))]) (st' := [.inl (c.1), .inl (n), .inr (.inr (some (796)))]) rfl ?_
            have n56 : 2000 ≤ qz_N g 796 ∧ qz_N g 796 ≤ 2000 := ez_len hBg t796 tq_83 rfl
            refine ez_as hBg t796 rfl tq_83 rfl rfl (by omega) (by omega) (ez_vdI rfl rfl (by omega) (by omega)) (fun hB54 w55 => ?_)
            refine ez_go (n := 1) (pc' := 164) (L' := [(6, .inl (-1)), (5, .inl (1)), (4, .inl (s)), (3, .inl (c.1)), (2, .inl (k)), (1, .inl (n)), (0, .inr (.inr (some (770))))]) (st' := [.inr (.inr (some (770)))]) rfl ?_
            refine ez_gC (p := 798) (tg := 85) hB54 t770 rfl rfl tq_75 rfl rfl (fun (t798 : _ = 85) => ?_)
            refine ez_go (n := 2) (pc' := 169) (L' := [(6, .inl (-1)), (5, .inl (1)), (4, .inl (s)), (3, .inl (c.1)), (2, .inl (k)), (1, .inl (n)), (0, .inr (.inr (some (770))))]) (st' := [.inr (.inr (some (770))), .inl (n), .inr (.inr (some (798)))]) rfl ?_
            refine ez_gC (p := 798) (tg := 85) hB54 t770 rfl rfl tq_75 rfl rfl (fun (t798 : _ = 85) => ?_)
            refine ez_go (n := 1) (pc' := 173) (L' := [(6, .inl (-1)), (5, .inl (1)), (4, .inl (s)), (3, .inl (c.1)), (2, .inl (k)), (1, .inl (n)), (0, .inr (.inr (some (770))))]) (st' := [.inl (k), .inr (.inr (some (798))), .inl (n), .inr (.inr (some (798)))]) rfl ?_
            have n58 : 2000 ≤ qz_N (dz_put g 796 (n).toNat (ez_v (.inl (c.1)))) 798 ∧ qz_N (dz_put g 796 (n).toNat (ez_v (.inl (c.1)))) 798 ≤ 2000 := ez_len hB54 t798 tq_85 rfl
            refine ez_aI hB54 t798 rfl tq_85 rfl rfl (by omega) (by omega) (fun (b57 : -2147483648 ≤ qz_I (dz_put g 796 (n).toNat (ez_v (.inl (c.1)))) 798 (k).toNat) (b57' : qz_I (dz_put g 796 (n).toNat (ez_v (.inl (c.1)))) 798 (k).toNat ≤ 2147483647) => ?_)
            have n61 : 2000 ≤ qz_N (dz_put g 796 (n).toNat (ez_v (.inl (c.1)))) 798 ∧ qz_N (dz_put g 796 (n).toNat (ez_v (.inl (c.1)))) 798 ≤ 2000 := ez_len hB54 t798 tq_85 rfl
            refine ez_as hB54 t798 rfl tq_85 rfl rfl (by omega) (by omega) (ez_vdI rfl rfl (by omega) (by omega)) (fun hB59 w60 => ?_)
            refine ez_go (n := 3) (pc' := 4) (L' := [(2, .inl (k + 1)), (1, .inl (n + 1)), (6, .inl (-1)), (5, .inl (1)), (4, .inl (s)), (3, .inl (c.1)), (0, .inr (.inr (some (770))))]) (st' := []) rfl ?_
            refine ez_less [(2, .inl (k + 1)), (1, .inl (n + 1)), (0, .inr (.inr (some (770))))] rfl ⟨rfl, rfl, rfl, trivial⟩ ?_
            have o9 : orz τ h (dz_put (dz_put g 796 (n).toNat (ez_v (.inl (c.1)))) 798 (n).toNat (ez_v (.inl (qz_I (dz_put g 796 (n).toNat (ez_v (.inl (c.1)))) 798 (k).toNat)))) := (ho.put hB54 (Or.inl t796)).put hB59 (Or.inr t798)
            have e0 : qz_I (dz_put (dz_put g 796 (n).toNat (ez_v (.inl (c.1)))) 798 (n).toNat (ez_v (.inl (qz_I (dz_put g 796 (n).toNat (ez_v (.inl (c.1)))) 798 (k).toNat)))) 796 (n).toNat = c.1 := by rw [ez_put_I (fun w => absurd w.1 (by decide)), w55]; exact rz_rd ⟨by omega, by omega⟩
            have e1 : qz_I (dz_put (dz_put g 796 (n).toNat (ez_v (.inl (c.1)))) 798 (n).toNat (ez_v (.inl (qz_I (dz_put g 796 (n).toNat (ez_v (.inl (c.1)))) 798 (k).toNat)))) 798 (n).toNat = c.2 := by rw [w60, ez_put_I (fun w => absurd w.1 (by decide)), show qz_I g 798 (k).toNat = c.2 from ec.2]; exact rz_rd cr
            have e2 : ∀ j, j ≠ (n).toNat → qz_I (dz_put (dz_put g 796 (n).toNat (ez_v (.inl (c.1)))) 798 (n).toNat (ez_v (.inl (qz_I (dz_put g 796 (n).toNat (ez_v (.inl (c.1)))) 798 (k).toNat)))) 796 j = qz_I g 796 j ∧ qz_I (dz_put (dz_put g 796 (n).toNat (ez_v (.inl (c.1)))) 798 (n).toNat (ez_v (.inl (qz_I (dz_put g 796 (n).toNat (ez_v (.inl (c.1)))) 798 (k).toNat)))) 798 j = qz_I g 798 j := fun j hj => ⟨by rw [ez_put_I (fun w => absurd w.1 (by decide)), ez_put_I (fun w => hj w.2)], by rw [ez_put_I (fun w => hj w.2), ez_put_I (fun w => absurd w.1 (by decide))]⟩
            generalize (dz_put (dz_put g 796 (n).toNat (ez_v (.inl (c.1)))) 798 (n).toNat (ez_v (.inl (qz_I (dz_put g 796 (n).toNat (ez_v (.inl (c.1)))) 798 (k).toNat)))) = g9 at *
            have p9 : prm g9 (K ++ [c]) := fun j z hz => by
              by_cases ej : j = n.toNat
              · rw [ej, List.getElem?_append_right (by omega), show n.toNat - K.length = 0 by omega] at hz; cases hz; rw [ej]; exact ⟨e0, e1⟩
              · have hj9 := (List.getElem?_eq_some_iff.mp hz).1
                rw [List.length_append, List.length_singleton] at hj9
                rw [List.getElem?_append_left (by omega)] at hz; rw [(e2 j ej).1, (e2 j ej).2]; exact hp j z hz
            have n9 : (K ++ [c]).length = K.length + 1 := by rw [List.length_append, List.length_singleton]
            have q9 : ∀ (j : Nat) z, k + 1 ≤ (j : Int) → L[j]? = some z → qz_I g9 796 j = z.1 ∧ qz_I g9 798 j = z.2 := fun j z hj hz => by rw [(e2 j (by omega)).1, (e2 j (by omega)).2]; exact hq j z (by omega) hz
            refine ih _ _ (K ++ [c]) g9 (by omega) (by omega) (by omega) (by omega) o9 (by rw [n9]; omega) (kst_ok hw hk hK (hL c (List.mem_of_getElem? hc))) p9 q9 (fun R hR => hac R ?_)
            rw [dr]; exact ⟨_, hk, hR⟩
    · skip
      refine ez_go (n := 2) (pc' := 6) (L' := [(2, .inl (k)), (1, .inl (n)), (0, .inr (.inr (some (770))))]) (st' := [.inr (.inr (some (770))), .inl (k)]) rfl ?_
      refine ez_gI hBg t770 rfl rfl tq_75 rfl rfl (fun (b1 : 0 ≤ qz_I g 770 30) (b1' : qz_I g 770 30 ≤ 2000) => ?_)
      refine ez_icmp rfl rfl ⟨by first | omega | exact (sz_i32 _).1, by first | omega | exact (sz_i32 _).2⟩ ⟨by first | omega | exact (sz_i32 _).1, by first | omega | exact (sz_i32 _).2⟩ (fun (c2 : (qz_I g 770 30) ≤ (k)) => ?_) (fun (c2 : ¬((qz_I g 770 30) ≤ (k))) => ?_)
      · skip
        refine ez_go (n := 2) (pc' := 186) (L' := [(2, .inl (k)), (1, .inl (n)), (0, .inr (.inr (some (770))))]) (st' := [.inl (n), .inr (.inr (some (770)))]) rfl ?_
        refine ez_pf hBg t770 rfl rfl tq_75 rfl rfl rfl rfl (ez_vdI rfl rfl (by omega) (by omega)) (fun hB3 w4 => ?_)
        refine ez_ret0 rfl rfl (kx _ K hB3 ⟨ho.2.2.1, ho.2.2.2, fun q q1 => ?_⟩ (fun j hj => (ez_put_I (fun w => hj w.2)).trans (ho.s t770 j)) (hac K (by rw [List.drop_of_length_le (by omega)]; rfl)) hK ⟨?_, fun j v hv => ?_⟩)
        · have q1 : q ≠ 770 ∧ τ q ≠ 83 ∧ τ q ≠ 85 := by refine ⟨fun e => ?_, fun e => ?_, fun e => ?_⟩ <;> (unfold ocp at q1; rw [e] at q1; simp at q1)
          rw [qz_put_at _ _ _ _ q1.1]; exact ho.2.1 q q1.2.1 q1.2.2
        · rw [w4, List.length_map, hn]; exact rz_rd ⟨by omega, by omega⟩
        · rw [List.getElem?_map] at hv
          obtain ⟨z, z1, z2⟩ := Option.map_eq_some_iff.mp hv
          rw [ez_put_I (fun w => absurd w.1 (by decide)), ← z2]; exact (hp j z z1).1
      · exfalso; omega
theorem rd_mcps {Ls : List vz} {b : Int} (hI : mI τ h Ls b) (hw : uz_wf (vF Ls)) (e : eD τ h (vF Ls)) (pq9 : pQ h (vF Ls) (vE Ls)) (hl : qz_I h 770 30 = (L.length : Int)) (hL : kok (vF Ls) L) (hp : prm h L) (kx : ∀ g K, ez_B τ g → ez_fr (ocp τ) h g → (∀ j, j ≠ 30 → qz_I g 770 j = qz_I h 770 j) → kcR (vF Ls) (vE Ls) L [] K → kok (vF Ls) K → tm g (K.map Prod.fst) → Q (.inl none, g)) : ez_W (d + 3) cm_239 0 [(0, .inr (.inr (some (770))))] [] h Q := by
  have t770 : τ 770 = 75 := hI.2.1 770 (by decide)
  have b30 : 0 ≤ qz_I h 770 30 ∧ qz_I h 770 30 ≤ 2000 := ez_fB (cl := 11) (k := 30) hI.1 t770 tq_75 rfl rfl (by decide)
  refine ez_go (n := 4) (pc' := 4) (L' := [(2, .inl (0)), (1, .inl (0)), (0, .inr (.inr (some (770))))]) (st' := []) rfl ?_
  refine ez_less [(2, .inl (0)), (1, .inl (0)), (0, .inr (.inr (some (770))))] rfl ⟨rfl, rfl, rfl, trivial⟩ ?_
  exact rd_mcps_l hI hw e pq9 hl hL kx _ 0 0 [] h rfl (by omega) (by omega) (by omega) ⟨hI.1, fun _ _ _ => rfl, rfl, rfl⟩ rfl (fun x hx => by cases hx) (fun j z hz => by cases hz) (fun j z _ hz => hp j z hz) (fun R hR => hR)

end EzMn
/-! The model: normal, take. (Written by wip/p2/py/pvt8.py.) -/
section EzMr
variable {d : Nat} {h : cz_H} {τ : Nat → Nat} {Q : cz_F → Prop} {l : List Int}
theorem ocp_nk {g : cz_H} (hB : ez_B τ h) (hX : jz_X τ) (f : ez_fr (ocp τ) h g) (i7 : ∀ j, j ≠ 30 → qz_I g 770 j = qz_I h 770 j) : nk τ h τ g := by
  have t770 : τ 770 = 75 := hX 770 (by decide)
  have ts := ez_tsk hB t770
  have no : ∀ q, q ≠ 770 → τ q ≠ 83 → τ q ≠ 85 → ocp τ q = false := fun q q1 q2 q3 => by unfold ocp; rw [dz_beq_ne q1, dz_beq_ne q2, dz_beq_ne q3]; rfl
  have e : sk g = sk h := by unfold sk qz_P; rw [i7 24 (by decide)]
  have eN : qz_N g (sk h) = qz_N h (sk h) := f.N (no _ (fun w => by rw [w, t770] at ts; cases ts) (by rw [ts]; decide) (by rw [ts]; decide))
  exact ⟨fun q _ => ⟨rfl, fun q1 _ q3 q4 _ => f.2.2 q (no q q1 q3 q4)⟩, fun q h1 h2 => absurd h1 h2, fun j _ _ j3 => i7 j j3, by rw [e, eN]; exact Int.le_refl _, by rw [e, eN, f.1, f.2.1]; omega, ⟨by rw [f.1]; exact Nat.le_refl _, by rw [f.2.1]; exact Nat.le_refl _⟩, fun w => by rw [i7 25 (by decide), e, eN]; exact w⟩
/-- so much room is taken at most -/
theorem nk.rm {τ1 : Nat → Nat} {g : cz_H} (a : nk τ h τ1 g) (hB : ez_B τ h) (hB1 : ez_B τ1 g) (t770 : τ 770 = 75) (u770 : τ1 770 = 75) : g.2.1 ≤ h.2.1 + 37400 ∧ g.1 ≤ h.1 + 300 := by
  have n1 : 64 ≤ qz_N h (sk h) ∧ qz_N h (sk h) ≤ 18700 := ez_len hB (ez_tsk hB t770) tq_21 rfl
  have n2 : 64 ≤ qz_N g (sk g) ∧ qz_N g (sk g) ≤ 18700 := ez_len hB1 (ez_tsk hB1 u770) tq_21 rfl
  obtain ⟨-, -, -, -, a5, -⟩ := a
  omega
/-- all rows of the text are points of which DATA tell -/
def nmC (τ : Nat → Nat) (h : cz_H) (Ls : List vz) : Prop := mI τ h Ls 0 ∧ eD τ h (vF Ls) ∧ pQ h (vF Ls) (vE Ls) ∧ uz_wf (vF Ls) ∧ uz_S (vF Ls) (vE Ls) ∧ ∀ x, (vF Ls x).2 ≠ none → az (vF Ls) 501 x
theorem nmC.k {τ1 : Nat → Nat} {g : cz_H} {Ls : List vz} (c : nmC τ h Ls) (a : nk τ h τ1 g) (hB : ez_B τ1 g) : nmC τ1 g Ls := ⟨a.mIx c.1 hB, a.eDx c.2.1 c.1.2.1 hB, a.pQx c.2.2.1 c.1.1 c.1.2.1, c.2.2.2.1, c.2.2.2.2.1, c.2.2.2.2.2⟩
/-- the full decomposition, with fuel, and not too long -/
theorem nmC.f {Ls : List vz} (c : nmC τ h Ls) (x : Int) (cb : Bool) : ∃ l, uz_f (vF Ls) cb 502 x = some l ∧ l.length ≤ 40 := by
  by_cases e : hz x
  · refine ⟨hz_sy x, by unfold uz_f; rw [if_pos e], ?_⟩
    have := hz_sy_len x
    omega
  · by_cases e2 : (vF Ls x).2 = none
    · exact ⟨[x], by unfold uz_f; rw [if_neg e, e2], by show (1 : Nat) ≤ 40; decide⟩
    · obtain ⟨l, hl⟩ := az_f cb 501 x (c.2.2.2.2.2 x e2)
      obtain ⟨l2, h2, h3⟩ := c.2.2.2.2.1.2.2.1 x e2 cb
      have := uz_uniq ⟨_, hl⟩ h2
      subst this
      exact ⟨l, uz_f_mono _ _ _ _ _ hl 1, h3⟩
theorem rd_mnj_s {q : Nat} {m i n fm : Int} {fl : List Int} (t770 : τ 770 = 75) (hm : m = (fl.length : Int)) (fl4 : fl.length ≤ 40) (pf : ptl fl) (h4h : ∀ (j : Nat) v, fl[j]? = some v → qz_I h 794 j = v) (hr1 : h.1 + 1 ≤ 600192) (hr2 : h.2.1 + 6 ≤ 7302232) (k1 : ∀ g, ez_B τ g → ez_fr (nz_PL 796) h g → (∀ j, j ≠ 30 → qz_I g 770 j = qz_I h 770 j) → tm g (l ++ fl) → ez_W (d + 7) cm_283 63 [(4, .inl (i)), (0, .inr (.inr (some (770)))), (1, .inr (.inr (some (q)))), (2, .inl (n)), (3, .inl (fm))] [] g Q) (k0 : ∀ g, ez_B τ g → ez_fr (nz_PL 796) h g → (∀ j, j ≠ 30 → qz_I g 770 j = qz_I h 770 j) → 2000 < l.length + fl.length → Q (.inr g.1, xc g 0)) : ∀ (c : Nat) (j : Int) (g : cz_H), c = (m - j).toNat → 0 ≤ j → j ≤ m → ez_B τ g → ez_fr (nz_PL 796) h g → (∀ j, j ≠ 30 → qz_I g 770 j = qz_I h 770 j) → tm g (l ++ fl.take j.toNat) → ez_W (d + 7) cm_283 39 [(6, .inl (j)), (5, .inl (m)), (4, .inl (i)), (0, .inr (.inr (some (770)))), (1, .inr (.inr (some (q)))), (2, .inl (n)), (3, .inl (fm))] [] g Q := by
  intro c
  induction c with
  | zero =>
    intro j g hc j0 j1 hBg hf hi ag
    have h4 : ∀ (j : Nat) v, fl[j]? = some v → qz_I g 794 j = v := fun j v hv => (hf.I rfl j).trans (h4h j v hv)
    have c1 := hf.1; have c2 := hf.2.1
    refine ez_go (n := 2) (pc' := 43) (L' := [(6, .inl (j)), (5, .inl (m)), (4, .inl (i)), (0, .inr (.inr (some (770)))), (1, .inr (.inr (some (q)))), (2, .inl (n)), (3, .inl (fm))]) (st' := [.inl (m), .inl (j)]) rfl ?_
    refine ez_icmp rfl rfl ⟨by first | omega | exact (sz_i32 _).1, by first | omega | exact (sz_i32 _).2⟩ ⟨by first | omega | exact (sz_i32 _).1, by first | omega | exact (sz_i32 _).2⟩ (fun (c1 : (m) ≤ (j)) => ?_) (fun (c1 : ¬((m) ≤ (j))) => ?_)
    · skip
      refine ez_less [(4, .inl (i)), (0, .inr (.inr (some (770)))), (1, .inr (.inr (some (q)))), (2, .inl (n)), (3, .inl (fm))] rfl ⟨rfl, rfl, rfl, rfl, rfl, trivial⟩ ?_
      rw [List.take_of_length_le (by omega)] at ag
      exact k1 g hBg hf hi ag
    · exfalso; omega
  | succ c ih =>
    intro j g hc j0 j1 hBg hf hi ag
    have h4 : ∀ (j : Nat) v, fl[j]? = some v → qz_I g 794 j = v := fun j v hv => (hf.I rfl j).trans (h4h j v hv)
    have c1 := hf.1; have c2 := hf.2.1
    refine ez_go (n := 2) (pc' := 43) (L' := [(6, .inl (j)), (5, .inl (m)), (4, .inl (i)), (0, .inr (.inr (some (770)))), (1, .inr (.inr (some (q)))), (2, .inl (n)), (3, .inl (fm))]) (st' := [.inl (m), .inl (j)]) rfl ?_
    refine ez_icmp rfl rfl ⟨by first | omega | exact (sz_i32 _).1, by first | omega | exact (sz_i32 _).2⟩ ⟨by first | omega | exact (sz_i32 _).1, by first | omega | exact (sz_i32 _).2⟩ (fun (c1 : (m) ≤ (j)) => ?_) (fun (c1 : ¬((m) ≤ (j))) => ?_)
    · exfalso; omega
    · skip
      refine ez_go (n := 2) (pc' := 48) (L' := [(6, .inl (j)), (5, .inl (m)), (4, .inl (i)), (0, .inr (.inr (some (770)))), (1, .inr (.inr (some (q)))), (2, .inl (n)), (3, .inl (fm))]) (st' := [.inr (.inr (some (770))), .inr (.inr (some (770)))]) rfl ?_
      refine ez_gC (p := 794) (tg := 82) hBg t770 rfl rfl tq_75 rfl rfl (fun (t794 : _ = 82) => ?_)
      refine ez_go (n := 1) (pc' := 53) (L' := [(6, .inl (j)), (5, .inl (m)), (4, .inl (i)), (0, .inr (.inr (some (770)))), (1, .inr (.inr (some (q)))), (2, .inl (n)), (3, .inl (fm))]) (st' := [.inl (j), .inr (.inr (some (794))), .inr (.inr (some (770)))]) rfl ?_
      have n3 : 64 ≤ qz_N g 794 ∧ qz_N g 794 ≤ 64 := ez_len hBg t794 tq_82 rfl
      refine ez_aI hBg t794 rfl tq_82 rfl rfl (by omega) (by omega) (fun (b2 : -2147483648 ≤ qz_I g 794 (j).toNat) (b2' : qz_I g 794 (j).toNat ≤ 2147483647) => ?_)
      have l9 : j.toNat < fl.length := by omega
      have ev := h4 _ _ (List.getElem?_eq_getElem l9)
      have vb := ptl_at pf (List.getElem?_eq_getElem l9)
      rw [show qz_I g 794 (j).toNat = fl[j.toNat] from ev]
      refine ez_cv hBg t770 rfl rfl rfl tq_75 rfl rfl rfl (rd_make hBg t770 ag ⟨by omega, by omega⟩ (by omega) (by omega) (fun lt g2 hB2 f2 i2 a2 => ez_K0 ?_) (fun ge => ez_Kp (xc_exc hBg rfl) rfl ?_))
      · skip
        refine ez_go (n := 2) (pc' := 39) (L' := [(6, .inl (j + 1)), (5, .inl (m)), (4, .inl (i)), (0, .inr (.inr (some (770)))), (1, .inr (.inr (some (q)))), (2, .inl (n)), (3, .inl (fm))]) (st' := []) rfl ?_
        refine ez_less [(6, .inl (j + 1)), (5, .inl (m)), (4, .inl (i)), (0, .inr (.inr (some (770)))), (1, .inr (.inr (some (q)))), (2, .inl (n)), (3, .inl (fm))] rfl ⟨rfl, rfl, rfl, rfl, rfl, rfl, rfl, trivial⟩ ?_
        refine ih (j + 1) g2 (by omega) (by omega) (by omega) hB2 (hf.trans f2) (fun i hi9 => (i2 i hi9).trans (hi i hi9)) ?_
        rw [show (j + 1).toNat = j.toNat + 1 by omega, List.take_add_one, List.getElem?_eq_getElem l9, ← List.append_assoc]; exact a2
      · exact k0 g hBg hf hi (by rw [List.length_append, List.length_take] at ge; omega)

theorem nmC_allL {Ls : List vz} (c : nmC τ h Ls) (cb : Bool) : ∀ {u : List Int}, ptl u → ∃ l, uz_FL (vF Ls) cb u l
  | [], _ => ⟨[], uz_nil _ cb⟩
  | x :: u, hu => by
    obtain ⟨p, p1, -⟩ := c.f x cb
    obtain ⟨q, q1⟩ := nmC_allL c cb (u := u) (fun v hv => hu v (List.mem_cons_of_mem _ hv))
    exact ⟨p ++ q, uz_cons ⟨_, p1⟩ q1⟩
theorem rd_mno_s1 {Ls : List vz} {q : Nat} {n fm : Int} {u : List Int} (c : nmC τ h Ls) (tq : τ q = 37) (hn : n = (u.length : Int)) (n2 : n ≤ 2000) (uq : ∀ (j : Nat) v, u[j]? = some v → qz_I h q j = v) (up : ptl u) (fmr : 0 ≤ fm ∧ fm ≤ 3) (hr1 : h.1 + 500 ≤ 600192) (hr2 : h.2.1 + 100000 ≤ 7302232) (fc : fm % 2 = 1) (k1 : ∀ m, uz_FL (vF Ls) true u m → m.length ≤ 2000 → ∀ g τ1, ez_B τ1 g → nk τ h τ1 g → tm g m → ez_W (d + 7) cm_283 69 [(0, .inr (.inr (some (770)))), (1, .inr (.inr (some (q)))), (2, .inl (n)), (3, .inl (fm))] [] g Q) (k0 : ∀ m, uz_FL (vF Ls) true u m → 2000 < m.length → ∀ g τ1, ez_B τ1 g → nk τ h τ1 g → Q (.inr g.1, xc g 0)) : ∀ (ct : Nat) (i : Int) (g : cz_H) (τ1 : Nat → Nat) (ml : List Int), ct = (n - i).toNat → 0 ≤ i → i ≤ n → ez_B τ1 g → nk τ h τ1 g → uz_FL (vF Ls) true (u.take i.toNat) ml → tm g ml → ez_W (d + 7) cm_283 8 [(4, .inl (i)), (0, .inr (.inr (some (770)))), (1, .inr (.inr (some (q)))), (2, .inl (n)), (3, .inl (fm))] [] g Q := by
  intro ct
  induction ct with
  | zero =>
    intro i g τ1 ml hc i0 i1 hBg hk um ag
    have cg := c.k hk hBg
    have u770 : τ1 770 = 75 := cg.1.2.1 770 (by decide)
    have rm := hk.rm c.1.1 hBg (c.1.2.1 770 (by decide)) u770
    have u1q : τ1 q = 37 := (hk.1 q (by rw [tq]; decide)).1.trans tq
    have uqg : ∀ (j : Nat) v, u[j]? = some v → qz_I g q j = v := fun j v hv => by rw [show qz_I g q j = qz_I h q j by unfold qz_I; rw [hk.C c.1.2.1 (by rw [tq]; decide) (by rw [tq]; decide) (by rw [tq]; decide) (by rw [tq]; decide) (by rw [tq]; decide) (by rw [tq]; decide)]]; exact uq j v hv
    refine ez_go (n := 2) (pc' := 11) (L' := [(4, .inl (i)), (0, .inr (.inr (some (770)))), (1, .inr (.inr (some (q)))), (2, .inl (n)), (3, .inl (fm))]) (st' := [.inl (n), .inl (i)]) rfl ?_
    refine ez_icmp rfl rfl ⟨by first | omega | exact (sz_i32 _).1, by first | omega | exact (sz_i32 _).2⟩ ⟨by first | omega | exact (sz_i32 _).1, by first | omega | exact (sz_i32 _).2⟩ (fun (c1 : (n) ≤ (i)) => ?_) (fun (c1 : ¬((n) ≤ (i))) => ?_)
    · skip
      refine ez_less [(0, .inr (.inr (some (770)))), (1, .inr (.inr (some (q)))), (2, .inl (n)), (3, .inl (fm))] rfl ⟨rfl, rfl, rfl, rfl, trivial⟩ ?_
      rw [List.take_of_length_le (by omega)] at um
      exact k1 ml um (by have := ag.1; have : 0 ≤ qz_I g 770 30 ∧ qz_I g 770 30 ≤ 2000 := ez_fB (cl := 11) (k := 30) hBg u770 tq_75 rfl rfl (by decide); omega) g τ1 hBg hk ag
    · exfalso; omega
  | succ ct ih =>
    intro i g τ1 ml hc i0 i1 hBg hk um ag
    have cg := c.k hk hBg
    have u770 : τ1 770 = 75 := cg.1.2.1 770 (by decide)
    have rm := hk.rm c.1.1 hBg (c.1.2.1 770 (by decide)) u770
    have u1q : τ1 q = 37 := (hk.1 q (by rw [tq]; decide)).1.trans tq
    have uqg : ∀ (j : Nat) v, u[j]? = some v → qz_I g q j = v := fun j v hv => by rw [show qz_I g q j = qz_I h q j by unfold qz_I; rw [hk.C c.1.2.1 (by rw [tq]; decide) (by rw [tq]; decide) (by rw [tq]; decide) (by rw [tq]; decide) (by rw [tq]; decide) (by rw [tq]; decide)]]; exact uq j v hv
    refine ez_go (n := 2) (pc' := 11) (L' := [(4, .inl (i)), (0, .inr (.inr (some (770)))), (1, .inr (.inr (some (q)))), (2, .inl (n)), (3, .inl (fm))]) (st' := [.inl (n), .inl (i)]) rfl ?_
    refine ez_icmp rfl rfl ⟨by first | omega | exact (sz_i32 _).1, by first | omega | exact (sz_i32 _).2⟩ ⟨by first | omega | exact (sz_i32 _).1, by first | omega | exact (sz_i32 _).2⟩ (fun (c1 : (n) ≤ (i)) => ?_) (fun (c1 : ¬((n) ≤ (i))) => ?_)
    · exfalso; omega
    · skip
      refine ez_go (n := 3) (pc' := 18) (L' := [(4, .inl (i)), (0, .inr (.inr (some (770)))), (1, .inr (.inr (some (q)))), (2, .inl (n)), (3, .inl (fm))]) (st' := [.inl (i), .inr (.inr (some (q))), .inr (.inr (some (770)))]) rfl ?_
      have n3 : 2000 ≤ qz_N g q ∧ qz_N g q ≤ 2000 := ez_len hBg u1q tq_37 rfl
      refine ez_aI hBg u1q rfl tq_37 rfl rfl (by omega) (by omega) (fun (b2 : -2147483648 ≤ qz_I g q (i).toNat) (b2' : qz_I g q (i).toNat ≤ 2147483647) => ?_)
      refine ez_go (n := 2) (pc' := 21) (L' := [(4, .inl (i)), (0, .inr (.inr (some (770)))), (1, .inr (.inr (some (q)))), (2, .inl (n)), (3, .inl (fm))]) (st' := [.inl (2), .inl (fm), .inl (qz_I g q (i).toNat), .inr (.inr (some (770)))]) rfl ?_
      refine ez_rem rfl (by omega) (by omega) (by omega) (by omega) ?_
      refine ez_go (n := 1) (pc' := 23) (L' := [(4, .inl (i)), (0, .inr (.inr (some (770)))), (1, .inr (.inr (some (q)))), (2, .inl (n)), (3, .inl (fm))]) (st' := [.inl (1), .inl ((fm) % (2)), .inl (qz_I g q (i).toNat), .inr (.inr (some (770)))]) rfl ?_
      refine ez_icmp rfl rfl ⟨by first | omega | exact (sz_i32 _).1, by first | omega | exact (sz_i32 _).2⟩ ⟨by first | omega | exact (sz_i32 _).1, by first | omega | exact (sz_i32 _).2⟩ (fun (c4 : ((fm) % (2)) ≠ (1)) => ?_) (fun (c4 : ¬(((fm) % (2)) ≠ (1))) => ?_)
      · exfalso; omega
      · skip
        refine ez_go (n := 2) (pc' := 31) (L' := [(4, .inl (i)), (0, .inr (.inr (some (770)))), (1, .inr (.inr (some (q)))), (2, .inl (n)), (3, .inl (fm))]) (st' := [.inl (1), .inl (qz_I g q (i).toNat), .inr (.inr (some (770)))]) rfl ?_
        have l9 : i.toNat < u.length := by omega
        have ev := uqg _ _ (List.getElem?_eq_getElem l9)
        have vb := ptl_at up (List.getElem?_eq_getElem l9)
        rw [show qz_I g q (i).toNat = u[i.toNat] from ev]
        obtain ⟨fl, fl1, fl2⟩ := cg.f u[i.toNat] true
        have pf := uz_F_ptl cg.2.2.2.1 vb.1 vb.2 ⟨_, fl1⟩
        refine ez_cv hBg u770 rfl rfl rfl tq_75 rfl rfl rfl (rd_full (cb := true) (n := 502) (l := fl) cg.2.1 (cg.1.2.1 794 (by decide)) (by omega) (by omega) ⟨by omega, by omega⟩ ⟨by omega, by omega⟩ (by decide) fl1 (by decide) (fun _ g2 τ2 hB2 f2 sn2 h4 => ez_K1 ?_) (fun w => absurd w (by omega)))
        have nk2 := hk.trans (nk.of f2 sn2)
        have cg2 := c.k nk2 hB2
        have v770 : τ2 770 = 75 := cg2.1.2.1 770 (by decide)
        have rm2 := nk2.rm c.1.1 hB2 (c.1.2.1 770 (by decide)) v770
        have t2q : τ2 q = 37 := (nk2.1 q (by rw [tq]; decide)).1.trans tq
        have ag2 : tm g2 ml := ⟨(f2.2.2.1 30 (by decide) (by decide)).trans ag.1, fun j v hv => by rw [show qz_I g2 796 j = qz_I g 796 j by unfold qz_I; rw [(f2.1 796 (by rw [cg.1.2.1 796 (by decide)]; decide)).2 (by decide) (by decide) (by rw [cg.1.2.1 796 (by decide)]; decide)]]; exact ag.2 j v hv⟩
        refine ez_go (n := 3) (pc' := 39) (L' := [(6, .inl (0)), (5, .inl ((fl.length : Int))), (4, .inl (i)), (0, .inr (.inr (some (770)))), (1, .inr (.inr (some (q)))), (2, .inl (n)), (3, .inl (fm))]) (st' := []) rfl ?_
        refine ez_less [(6, .inl (0)), (5, .inl ((fl.length : Int))), (4, .inl (i)), (0, .inr (.inr (some (770)))), (1, .inr (.inr (some (q)))), (2, .inl (n)), (3, .inl (fm))] rfl ⟨rfl, rfl, rfl, rfl, rfl, rfl, rfl, trivial⟩ ?_
        have hv : u[i.toNat]? = some u[i.toNat] := List.getElem?_eq_getElem l9
        refine rd_mnj_s (h := g2) (l := ml) v770 rfl fl2 pf h4 (by omega) (by omega) (fun g3 hB3 f3 i3 a3 => ?_) (fun g3 hB3 f3 i3 lt => ?_) _ 0 g2 rfl (by omega) (by omega) hB2 (ez_fr.refl _ _) (fun _ _ => rfl) (by rw [show (0 : Int).toNat = 0 from rfl, List.take_zero, List.append_nil]; exact ag2)
        · have nk3 := nk2.trans (nk.fr hB2 v770 cg2.1.2.1 f3 (fun q9 hq9 => by unfold nz_PL at hq9; rcases Bool.or_eq_true_iff.mp hq9 with w | w; (· exact Or.inl (Nat.eq_of_beq_eq_true w)); (· exact Or.inr (Or.inl (Nat.eq_of_beq_eq_true w)))) i3)
          refine ez_go (n := 2) (pc' := 8) (L' := [(4, .inl (i + 1)), (0, .inr (.inr (some (770)))), (1, .inr (.inr (some (q)))), (2, .inl (n)), (3, .inl (fm))]) (st' := []) rfl ?_
          refine ez_less [(4, .inl (i + 1)), (0, .inr (.inr (some (770)))), (1, .inr (.inr (some (q)))), (2, .inl (n)), (3, .inl (fm))] rfl ⟨rfl, rfl, rfl, rfl, rfl, trivial⟩ ?_
          exact ih (i + 1) g3 τ2 (ml ++ fl) (by omega) (by omega) (by omega) hB3 nk3 (by rw [show (i + 1).toNat = i.toNat + 1 by omega]; exact uz_FL_take (l := u) hv um ⟨_, fl1⟩) a3
        · have nk3 := nk2.trans (nk.fr hB2 v770 cg2.1.2.1 f3 (fun q9 hq9 => by unfold nz_PL at hq9; rcases Bool.or_eq_true_iff.mp hq9 with w | w; (· exact Or.inl (Nat.eq_of_beq_eq_true w)); (· exact Or.inr (Or.inl (Nat.eq_of_beq_eq_true w)))) i3)
          obtain ⟨m3, u3⟩ := nmC_allL c true up
          have le := uz_FL_le (i := i.toNat + 1) (uz_FL_take (l := u) hv um ⟨_, fl1⟩) u3
          rw [List.length_append] at le
          exact k0 m3 u3 (by omega) g3 τ2 hB3 nk3

theorem rd_mno_s0 {Ls : List vz} {q : Nat} {n fm : Int} {u : List Int} (c : nmC τ h Ls) (tq : τ q = 37) (hn : n = (u.length : Int)) (n2 : n ≤ 2000) (uq : ∀ (j : Nat) v, u[j]? = some v → qz_I h q j = v) (up : ptl u) (fmr : 0 ≤ fm ∧ fm ≤ 3) (hr1 : h.1 + 500 ≤ 600192) (hr2 : h.2.1 + 100000 ≤ 7302232) (fc : fm % 2 ≠ 1) (k1 : ∀ m, uz_FL (vF Ls) false u m → m.length ≤ 2000 → ∀ g τ1, ez_B τ1 g → nk τ h τ1 g → tm g m → ez_W (d + 7) cm_283 69 [(0, .inr (.inr (some (770)))), (1, .inr (.inr (some (q)))), (2, .inl (n)), (3, .inl (fm))] [] g Q) (k0 : ∀ m, uz_FL (vF Ls) false u m → 2000 < m.length → ∀ g τ1, ez_B τ1 g → nk τ h τ1 g → Q (.inr g.1, xc g 0)) : ∀ (ct : Nat) (i : Int) (g : cz_H) (τ1 : Nat → Nat) (ml : List Int), ct = (n - i).toNat → 0 ≤ i → i ≤ n → ez_B τ1 g → nk τ h τ1 g → uz_FL (vF Ls) false (u.take i.toNat) ml → tm g ml → ez_W (d + 7) cm_283 8 [(4, .inl (i)), (0, .inr (.inr (some (770)))), (1, .inr (.inr (some (q)))), (2, .inl (n)), (3, .inl (fm))] [] g Q := by
  intro ct
  induction ct with
  | zero =>
    intro i g τ1 ml hc i0 i1 hBg hk um ag
    have cg := c.k hk hBg
    have u770 : τ1 770 = 75 := cg.1.2.1 770 (by decide)
    have rm := hk.rm c.1.1 hBg (c.1.2.1 770 (by decide)) u770
    have u1q : τ1 q = 37 := (hk.1 q (by rw [tq]; decide)).1.trans tq
    have uqg : ∀ (j : Nat) v, u[j]? = some v → qz_I g q j = v := fun j v hv => by rw [show qz_I g q j = qz_I h q j by unfold qz_I; rw [hk.C c.1.2.1 (by rw [tq]; decide) (by rw [tq]; decide) (by rw [tq]; decide) (by rw [tq]; decide) (by rw [tq]; decide) (by rw [tq]; decide)]]; exact uq j v hv
    refine ez_go (n := 2) (pc' := 11) (L' := [(4, .inl (i)), (0, .inr (.inr (some (770)))), (1, .inr (.inr (some (q)))), (2, .inl (n)), (3, .inl (fm))]) (st' := [.inl (n), .inl (i)]) rfl ?_
    refine ez_icmp rfl rfl ⟨by first | omega | exact (sz_i32 _).1, by first | omega | exact (sz_i32 _).2⟩ ⟨by first | omega | exact (sz_i32 _).1, by first | omega | exact (sz_i32 _).2⟩ (fun (c1 : (n) ≤ (i)) => ?_) (fun (c1 : ¬((n) ≤ (i))) => ?_)
    · skip
      refine ez_less [(0, .inr (.inr (some (770)))), (1, .inr (.inr (some (q)))), (2, .inl (n)), (3, .inl (fm))] rfl ⟨rfl, rfl, rfl, rfl, trivial⟩ ?_
      rw [List.take_of_length_le (by omega)] at um
      exact k1 ml um (by have := ag.1; have : 0 ≤ qz_I g 770 30 ∧ qz_I g 770 30 ≤ 2000 := ez_fB (cl := 11) (k := 30) hBg u770 tq_75 rfl rfl (by decide); omega) g τ1 hBg hk ag
    · exfalso; omega
  | succ ct ih =>
    intro i g τ1 ml hc i0 i1 hBg hk um ag
    have cg := c.k hk hBg
    have u770 : τ1 770 = 75 := cg.1.2.1 770 (by decide)
    have rm := hk.rm c.1.1 hBg (c.1.2.1 770 (by decide)) u770
    have u1q : τ1 q = 37 := (hk.1 q (by rw [tq]; decide)).1.trans tq
    have uqg : ∀ (j : Nat) v, u[j]? = some v → qz_I g q j = v := fun j v hv => by rw [show qz_I g q j = qz_I h q j by unfold qz_I; rw [hk.C c.1.2.1 (by rw [tq]; decide) (by rw [tq]; decide) (by rw [tq]; decide) (by rw [tq]; decide) (by rw [tq]; decide) (by rw [tq]; decide)]]; exact uq j v hv
    refine ez_go (n := 2) (pc' := 11) (L' := [(4, .inl (i)), (0, .inr (.inr (some (770)))), (1, .inr (.inr (some (q)))), (2, .inl (n)), (3, .inl (fm))]) (st' := [.inl (n), .inl (i)]) rfl ?_
    refine ez_icmp rfl rfl ⟨by first | omega | exact (sz_i32 _).1, by first | omega | exact (sz_i32 _).2⟩ ⟨by first | omega | exact (sz_i32 _).1, by first | omega | exact (sz_i32 _).2⟩ (fun (c1 : (n) ≤ (i)) => ?_) (fun (c1 : ¬((n) ≤ (i))) => ?_)
    · exfalso; omega
    · skip
      refine ez_go (n := 3) (pc' := 18) (L' := [(4, .inl (i)), (0, .inr (.inr (some (770)))), (1, .inr (.inr (some (q)))), (2, .inl (n)), (3, .inl (fm))]) (st' := [.inl (i), .inr (.inr (some (q))), .inr (.inr (some (770)))]) rfl ?_
      have n3 : 2000 ≤ qz_N g q ∧ qz_N g q ≤ 2000 := ez_len hBg u1q tq_37 rfl
      refine ez_aI hBg u1q rfl tq_37 rfl rfl (by omega) (by omega) (fun (b2 : -2147483648 ≤ qz_I g q (i).toNat) (b2' : qz_I g q (i).toNat ≤ 2147483647) => ?_)
      refine ez_go (n := 2) (pc' := 21) (L' := [(4, .inl (i)), (0, .inr (.inr (some (770)))), (1, .inr (.inr (some (q)))), (2, .inl (n)), (3, .inl (fm))]) (st' := [.inl (2), .inl (fm), .inl (qz_I g q (i).toNat), .inr (.inr (some (770)))]) rfl ?_
      refine ez_rem rfl (by omega) (by omega) (by omega) (by omega) ?_
      refine ez_go (n := 1) (pc' := 23) (L' := [(4, .inl (i)), (0, .inr (.inr (some (770)))), (1, .inr (.inr (some (q)))), (2, .inl (n)), (3, .inl (fm))]) (st' := [.inl (1), .inl ((fm) % (2)), .inl (qz_I g q (i).toNat), .inr (.inr (some (770)))]) rfl ?_
      refine ez_icmp rfl rfl ⟨by first | omega | exact (sz_i32 _).1, by first | omega | exact (sz_i32 _).2⟩ ⟨by first | omega | exact (sz_i32 _).1, by first | omega | exact (sz_i32 _).2⟩ (fun (c4 : ((fm) % (2)) ≠ (1)) => ?_) (fun (c4 : ¬(((fm) % (2)) ≠ (1))) => ?_)
      · skip
        refine ez_go (n := 1) (pc' := 31) (L' := [(4, .inl (i)), (0, .inr (.inr (some (770)))), (1, .inr (.inr (some (q)))), (2, .inl (n)), (3, .inl (fm))]) (st' := [.inl (0), .inl (qz_I g q (i).toNat), .inr (.inr (some (770)))]) rfl ?_
        have l9 : i.toNat < u.length := by omega
        have ev := uqg _ _ (List.getElem?_eq_getElem l9)
        have vb := ptl_at up (List.getElem?_eq_getElem l9)
        rw [show qz_I g q (i).toNat = u[i.toNat] from ev]
        obtain ⟨fl, fl1, fl2⟩ := cg.f u[i.toNat] false
        have pf := uz_F_ptl cg.2.2.2.1 vb.1 vb.2 ⟨_, fl1⟩
        refine ez_cv hBg u770 rfl rfl rfl tq_75 rfl rfl rfl (rd_full (cb := false) (n := 502) (l := fl) cg.2.1 (cg.1.2.1 794 (by decide)) (by omega) (by omega) ⟨by omega, by omega⟩ ⟨by omega, by omega⟩ (by decide) fl1 (by decide) (fun _ g2 τ2 hB2 f2 sn2 h4 => ez_K1 ?_) (fun w => absurd w (by omega)))
        have nk2 := hk.trans (nk.of f2 sn2)
        have cg2 := c.k nk2 hB2
        have v770 : τ2 770 = 75 := cg2.1.2.1 770 (by decide)
        have rm2 := nk2.rm c.1.1 hB2 (c.1.2.1 770 (by decide)) v770
        have t2q : τ2 q = 37 := (nk2.1 q (by rw [tq]; decide)).1.trans tq
        have ag2 : tm g2 ml := ⟨(f2.2.2.1 30 (by decide) (by decide)).trans ag.1, fun j v hv => by rw [show qz_I g2 796 j = qz_I g 796 j by unfold qz_I; rw [(f2.1 796 (by rw [cg.1.2.1 796 (by decide)]; decide)).2 (by decide) (by decide) (by rw [cg.1.2.1 796 (by decide)]; decide)]]; exact ag.2 j v hv⟩
        refine ez_go (n := 3) (pc' := 39) (L' := [(6, .inl (0)), (5, .inl ((fl.length : Int))), (4, .inl (i)), (0, .inr (.inr (some (770)))), (1, .inr (.inr (some (q)))), (2, .inl (n)), (3, .inl (fm))]) (st' := []) rfl ?_
        refine ez_less [(6, .inl (0)), (5, .inl ((fl.length : Int))), (4, .inl (i)), (0, .inr (.inr (some (770)))), (1, .inr (.inr (some (q)))), (2, .inl (n)), (3, .inl (fm))] rfl ⟨rfl, rfl, rfl, rfl, rfl, rfl, rfl, trivial⟩ ?_
        have hv : u[i.toNat]? = some u[i.toNat] := List.getElem?_eq_getElem l9
        refine rd_mnj_s (h := g2) (l := ml) v770 rfl fl2 pf h4 (by omega) (by omega) (fun g3 hB3 f3 i3 a3 => ?_) (fun g3 hB3 f3 i3 lt => ?_) _ 0 g2 rfl (by omega) (by omega) hB2 (ez_fr.refl _ _) (fun _ _ => rfl) (by rw [show (0 : Int).toNat = 0 from rfl, List.take_zero, List.append_nil]; exact ag2)
        · have nk3 := nk2.trans (nk.fr hB2 v770 cg2.1.2.1 f3 (fun q9 hq9 => by unfold nz_PL at hq9; rcases Bool.or_eq_true_iff.mp hq9 with w | w; (· exact Or.inl (Nat.eq_of_beq_eq_true w)); (· exact Or.inr (Or.inl (Nat.eq_of_beq_eq_true w)))) i3)
          refine ez_go (n := 2) (pc' := 8) (L' := [(4, .inl (i + 1)), (0, .inr (.inr (some (770)))), (1, .inr (.inr (some (q)))), (2, .inl (n)), (3, .inl (fm))]) (st' := []) rfl ?_
          refine ez_less [(4, .inl (i + 1)), (0, .inr (.inr (some (770)))), (1, .inr (.inr (some (q)))), (2, .inl (n)), (3, .inl (fm))] rfl ⟨rfl, rfl, rfl, rfl, rfl, trivial⟩ ?_
          exact ih (i + 1) g3 τ2 (ml ++ fl) (by omega) (by omega) (by omega) hB3 nk3 (by rw [show (i + 1).toNat = i.toNat + 1 by omega]; exact uz_FL_take (l := u) hv um ⟨_, fl1⟩) a3
        · have nk3 := nk2.trans (nk.fr hB2 v770 cg2.1.2.1 f3 (fun q9 hq9 => by unfold nz_PL at hq9; rcases Bool.or_eq_true_iff.mp hq9 with w | w; (· exact Or.inl (Nat.eq_of_beq_eq_true w)); (· exact Or.inr (Or.inl (Nat.eq_of_beq_eq_true w)))) i3)
          obtain ⟨m3, u3⟩ := nmC_allL c false up
          have le := uz_FL_le (i := i.toNat + 1) (uz_FL_take (l := u) hv um ⟨_, fl1⟩) u3
          rw [List.length_append] at le
          exact k0 m3 u3 (by omega) g3 τ2 hB3 nk3
      · exfalso; omega

theorem rd_mne_s {Ls : List vz} {q : Nat} {n fm : Int} {u : List Int} (c : nmC τ h Ls) (tq : τ q = 37) (hn : n = (u.length : Int)) (n2 : n ≤ 2000) (uq : ∀ (j : Nat) v, u[j]? = some v → qz_I h q j = v) (up : ptl u) (fmr : 0 ≤ fm ∧ fm ≤ 3) (hr1 : h.1 + 500 ≤ 600192) (hr2 : h.2.1 + 100000 ≤ 7302232) {cb : Bool} {m : List Int} {g : cz_H} {τ1 : Nat → Nat} (um : uz_FL (vF Ls) cb u m) (ml : m.length ≤ 2000) (hBg : ez_B τ1 g) (hk : nk τ h τ1 g) (ag : tm g m) (k1 : ∀ m res, uz_FL (vF Ls) cb u m → m.length ≤ 2000 → nfR (vF Ls) (vE Ls) fm m res → ptl res → ∀ g τ1, ez_B τ1 g → nk τ h τ1 g → tm g res → Q (.inl none, g)) : ez_W (d + 7) cm_283 69 [(0, .inr (.inr (some (770)))), (1, .inr (.inr (some (q)))), (2, .inl (n)), (3, .inl (fm))] [] g Q := by
  have cg := c.k hk hBg
  have u770 : τ1 770 = 75 := cg.1.2.1 770 (by decide)
  have pm := uz_FL_ptl cg.2.2.2.1 up um
  refine ez_go (n := 1) (pc' := 70) (L' := [(0, .inr (.inr (some (770)))), (1, .inr (.inr (some (q)))), (2, .inl (n)), (3, .inl (fm))]) (st' := [.inr (.inr (some (770)))]) rfl ?_
  refine ez_cv hBg u770 rfl rfl rfl tq_75 rfl rfl rfl (rd_mord cg.1 cg.2.2.2.1 ag pm (fun g2 o2 p2 => ez_K0 ?_))
  have nk2 := hk.trans (orz_nk hBg cg.1.2.1 o2)
  have hB2 := o2.1
  have cg2 := c.k nk2 hB2
  have ok1 := kok_srt (kok_zl (F := vF Ls) pm)
  have l2 : qz_I g2 770 30 = ((os_srt (zl (vF Ls) m)).length : Int) := by rw [os_srt_len, zl_len, o2.s u770 30]; exact ag.1
  refine ez_go (n := 2) (pc' := 75) (L' := [(0, .inr (.inr (some (770)))), (1, .inr (.inr (some (q)))), (2, .inl (n)), (3, .inl (fm))]) (st' := [.inl (1), .inl (fm)]) rfl ?_
  refine ez_icmp rfl rfl ⟨by first | omega | exact (sz_i32 _).1, by first | omega | exact (sz_i32 _).2⟩ ⟨by first | omega | exact (sz_i32 _).1, by first | omega | exact (sz_i32 _).2⟩ (fun (c1 : (fm) ≤ (1)) => ?_) (fun (c1 : ¬((fm) ≤ (1))) => ?_)
  · skip
    exact ez_ret0 rfl rfl (k1 m _ um ml ⟨os_srt (zl (vF Ls) m), by rw [if_neg (by omega)], rfl⟩ (kok_ptl ok1) g2 τ1 hB2 nk2 ⟨by rw [l2, List.length_map], fun j v hv => by rw [List.getElem?_map] at hv; obtain ⟨z, z1, z2⟩ := Option.map_eq_some_iff.mp hv; rw [← z2]; exact (p2 j z z1).1⟩)
  · skip
    refine ez_go (n := 1) (pc' := 79) (L' := [(0, .inr (.inr (some (770)))), (1, .inr (.inr (some (q)))), (2, .inl (n)), (3, .inl (fm))]) (st' := [.inr (.inr (some (770)))]) rfl ?_
    refine ez_cv hB2 u770 rfl rfl rfl tq_75 rfl rfl rfl (rd_mcps cg2.1 cg2.2.2.2.1 cg2.2.1 cg2.2.2.1 l2 ok1 p2 (fun g4 K hB4 f4 i4 kc okK tK => ez_K0 ?_))
    have nk4 := nk2.trans (ocp_nk hB2 cg2.1.2.1 f4 i4)
    exact ez_ret0 rfl rfl (k1 m _ um ml ⟨K, by rw [if_pos (by omega)]; exact kc, rfl⟩ (kok_ptl okK) g4 τ1 hB4 nk4 tK)

theorem rd_mnorm_s {Ls : List vz} {q : Nat} {n fm : Int} {u : List Int} (c : nmC τ h Ls) (tq : τ q = 37) (hn : n = (u.length : Int)) (n2 : n ≤ 2000) (uq : ∀ (j : Nat) v, u[j]? = some v → qz_I h q j = v) (up : ptl u) (fmr : 0 ≤ fm ∧ fm ≤ 3) (hr1 : h.1 + 500 ≤ 600192) (hr2 : h.2.1 + 100000 ≤ 7302232) (k1 : ∀ m res, uz_FL (vF Ls) (decide (fm = 1 ∨ fm = 3)) u m → m.length ≤ 2000 → nfR (vF Ls) (vE Ls) fm m res → ptl res → ∀ g τ1, ez_B τ1 g → nk τ h τ1 g → tm g res → Q (.inl none, g)) (k0 : ∀ m, uz_FL (vF Ls) (decide (fm = 1 ∨ fm = 3)) u m → 2000 < m.length → ∀ g τ1, ez_B τ1 g → nk τ h τ1 g → Q (.inr g.1, xc g 0)) : ez_W (d + 7) cm_283 0 [(0, .inr (.inr (some (770)))), (1, .inr (.inr (some (q)))), (2, .inl (n)), (3, .inl (fm))] [] h Q := by
  have t770 : τ 770 = 75 := c.1.2.1 770 (by decide)
  refine ez_go (n := 2) (pc' := 2) (L' := [(0, .inr (.inr (some (770)))), (1, .inr (.inr (some (q)))), (2, .inl (n)), (3, .inl (fm))]) (st' := [.inl (0), .inr (.inr (some (770)))]) rfl ?_
  refine ez_pf c.1.1 t770 rfl rfl tq_75 rfl rfl rfl rfl (ez_vdI rfl rfl (by omega) (by omega)) (fun hB1 w2 => ?_)
  have z30 : qz_I (dz_put h 770 30 (ez_v (.inl (0)))) 770 30 = 0 := w2.trans rfl
  have i30 : ∀ j, j ≠ 30 → qz_I (dz_put h 770 30 (ez_v (.inl (0)))) 770 j = qz_I h 770 j := fun j hj => ez_put_I (fun w => hj w.2)
  have f30 : ez_fr (ez_one 770) h (dz_put h 770 30 (ez_v (.inl (0)))) := (ez_fr.refl (ez_one 770) h).put rfl _ _
  have hB1 := hB1
  generalize (dz_put h 770 30 (ez_v (.inl (0)))) = g1 at *
  have nk1 := nk.fr c.1.1 t770 c.1.2.1 f30 (fun q9 hq9 => Or.inl (Nat.eq_of_beq_eq_true hq9)) i30
  refine ez_go (n := 2) (pc' := 8) (L' := [(4, .inl (0)), (0, .inr (.inr (some (770)))), (1, .inr (.inr (some (q)))), (2, .inl (n)), (3, .inl (fm))]) (st' := []) rfl ?_
  refine ez_less [(4, .inl (0)), (0, .inr (.inr (some (770)))), (1, .inr (.inr (some (q)))), (2, .inl (n)), (3, .inl (fm))] rfl ⟨rfl, rfl, rfl, rfl, rfl, trivial⟩ ?_
  by_cases fc : fm % 2 = 1
  · have ec : decide (fm = 1 ∨ fm = 3) = true := decide_eq_true (by omega)
    rw [ec] at k1 k0
    exact rd_mno_s1 c tq hn n2 uq up fmr hr1 hr2 fc (fun m um ml g τ1 hBg hk ag => rd_mne_s c tq hn n2 uq up fmr hr1 hr2 um ml hBg hk ag k1) k0 _ 0 g1 τ [] rfl (by omega) (by omega) hB1 nk1 (by rw [show (0 : Int).toNat = 0 from rfl, List.take_zero]; exact uz_nil _ _) ⟨z30, fun j v hv => by cases hv⟩
  · have ec : decide (fm = 1 ∨ fm = 3) = false := decide_eq_false (by omega)
    rw [ec] at k1 k0
    exact rd_mno_s0 c tq hn n2 uq up fmr hr1 hr2 fc (fun m um ml g τ1 hBg hk ag => rd_mne_s c tq hn n2 uq up fmr hr1 hr2 um ml hBg hk ag k1) k0 _ 0 g1 τ [] rfl (by omega) (by omega) hB1 nk1 (by rw [show (0 : Int).toNat = 0 from rfl, List.take_zero]; exact uz_nil _ _) ⟨z30, fun j v hv => by cases hv⟩

theorem rd_mnj_k {q : Nat} {m i n fm : Int} {fl : List Int} (t770 : τ 770 = 75) (hm : m = (fl.length : Int)) (fl4 : fl.length ≤ 40) (pf : ptl fl) (h4h : ∀ (j : Nat) v, fl[j]? = some v → qz_I h 794 j = v) (hr1 : h.1 + 1 ≤ 600192) (hr2 : h.2.1 + 6 ≤ 7302232) (k1 : ∀ g, ez_B τ g → ez_fr (nz_PL 796) h g → (∀ j, j ≠ 30 → qz_I g 770 j = qz_I h 770 j) → tm g (l ++ fl) → ez_W (d + 7) cm_283 63 [(4, .inl (i)), (0, .inr (.inr (some (770)))), (1, .inr (.inr (some (q)))), (2, .inl (n)), (3, .inl (fm))] [] g Q) (k0 : ∀ g, ez_B τ g → ez_fr (nz_PL 796) h g → (∀ j, j ≠ 30 → qz_I g 770 j = qz_I h 770 j) → 2000 < l.length + fl.length → Q (.inr g.1, xc g 0)) : ∀ (c : Nat) (j : Int) (g : cz_H), c = (m - j).toNat → 0 ≤ j → j ≤ m → ez_B τ g → ez_fr (nz_PL 796) h g → (∀ j, j ≠ 30 → qz_I g 770 j = qz_I h 770 j) → tm g (l ++ fl.take j.toNat) → ez_W (d + 7) cm_283 39 [(6, .inl (j)), (5, .inl (m)), (4, .inl (i)), (0, .inr (.inr (some (770)))), (1, .inr (.inr (some (q)))), (2, .inl (n)), (3, .inl (fm))] [] g Q := by
  intro c
  induction c with
  | zero =>
    intro j g hc j0 j1 hBg hf hi ag
    have h4 : ∀ (j : Nat) v, fl[j]? = some v → qz_I g 794 j = v := fun j v hv => (hf.I rfl j).trans (h4h j v hv)
    have c1 := hf.1; have c2 := hf.2.1
    refine ez_go (n := 2) (pc' := 43) (L' := [(6, .inl (j)), (5, .inl (m)), (4, .inl (i)), (0, .inr (.inr (some (770)))), (1, .inr (.inr (some (q)))), (2, .inl (n)), (3, .inl (fm))]) (st' := [.inl (m), .inl (j)]) rfl ?_
    refine ez_icmp rfl rfl ⟨by first | omega | exact (sz_i32 _).1, by first | omega | exact (sz_i32 _).2⟩ ⟨by first | omega | exact (sz_i32 _).1, by first | omega | exact (sz_i32 _).2⟩ (fun (c1 : (m) ≤ (j)) => ?_) (fun (c1 : ¬((m) ≤ (j))) => ?_)
    · skip
      refine ez_less [(4, .inl (i)), (0, .inr (.inr (some (770)))), (1, .inr (.inr (some (q)))), (2, .inl (n)), (3, .inl (fm))] rfl ⟨rfl, rfl, rfl, rfl, rfl, trivial⟩ ?_
      rw [List.take_of_length_le (by omega)] at ag
      exact k1 g hBg hf hi ag
    · exfalso; omega
  | succ c ih =>
    intro j g hc j0 j1 hBg hf hi ag
    have h4 : ∀ (j : Nat) v, fl[j]? = some v → qz_I g 794 j = v := fun j v hv => (hf.I rfl j).trans (h4h j v hv)
    have c1 := hf.1; have c2 := hf.2.1
    refine ez_go (n := 2) (pc' := 43) (L' := [(6, .inl (j)), (5, .inl (m)), (4, .inl (i)), (0, .inr (.inr (some (770)))), (1, .inr (.inr (some (q)))), (2, .inl (n)), (3, .inl (fm))]) (st' := [.inl (m), .inl (j)]) rfl ?_
    refine ez_icmp rfl rfl ⟨by first | omega | exact (sz_i32 _).1, by first | omega | exact (sz_i32 _).2⟩ ⟨by first | omega | exact (sz_i32 _).1, by first | omega | exact (sz_i32 _).2⟩ (fun (c1 : (m) ≤ (j)) => ?_) (fun (c1 : ¬((m) ≤ (j))) => ?_)
    · exfalso; omega
    · skip
      refine ez_go (n := 2) (pc' := 48) (L' := [(6, .inl (j)), (5, .inl (m)), (4, .inl (i)), (0, .inr (.inr (some (770)))), (1, .inr (.inr (some (q)))), (2, .inl (n)), (3, .inl (fm))]) (st' := [.inr (.inr (some (770))), .inr (.inr (some (770)))]) rfl ?_
      refine ez_gC (p := 794) (tg := 82) hBg t770 rfl rfl tq_75 rfl rfl (fun (t794 : _ = 82) => ?_)
      refine ez_go (n := 1) (pc' := 53) (L' := [(6, .inl (j)), (5, .inl (m)), (4, .inl (i)), (0, .inr (.inr (some (770)))), (1, .inr (.inr (some (q)))), (2, .inl (n)), (3, .inl (fm))]) (st' := [.inl (j), .inr (.inr (some (794))), .inr (.inr (some (770)))]) rfl ?_
      have n3 : 64 ≤ qz_N g 794 ∧ qz_N g 794 ≤ 64 := ez_len hBg t794 tq_82 rfl
      refine ez_aI hBg t794 rfl tq_82 rfl rfl (by omega) (by omega) (fun (b2 : -2147483648 ≤ qz_I g 794 (j).toNat) (b2' : qz_I g 794 (j).toNat ≤ 2147483647) => ?_)
      have l9 : j.toNat < fl.length := by omega
      have ev := h4 _ _ (List.getElem?_eq_getElem l9)
      have vb := ptl_at pf (List.getElem?_eq_getElem l9)
      rw [show qz_I g 794 (j).toNat = fl[j.toNat] from ev]
      refine ez_cv hBg t770 rfl rfl rfl tq_75 rfl rfl rfl (rd_make hBg t770 ag ⟨by omega, by omega⟩ (by omega) (by omega) (fun lt g2 hB2 f2 i2 a2 => ez_K0 ?_) (fun ge => ez_Kp (xc_exc hBg rfl) rfl ?_))
      · skip
        refine ez_go (n := 2) (pc' := 39) (L' := [(6, .inl (j + 1)), (5, .inl (m)), (4, .inl (i)), (0, .inr (.inr (some (770)))), (1, .inr (.inr (some (q)))), (2, .inl (n)), (3, .inl (fm))]) (st' := []) rfl ?_
        refine ez_less [(6, .inl (j + 1)), (5, .inl (m)), (4, .inl (i)), (0, .inr (.inr (some (770)))), (1, .inr (.inr (some (q)))), (2, .inl (n)), (3, .inl (fm))] rfl ⟨rfl, rfl, rfl, rfl, rfl, rfl, rfl, trivial⟩ ?_
        refine ih (j + 1) g2 (by omega) (by omega) (by omega) hB2 (hf.trans f2) (fun i hi9 => (i2 i hi9).trans (hi i hi9)) ?_
        rw [show (j + 1).toNat = j.toNat + 1 by omega, List.take_add_one, List.getElem?_eq_getElem l9, ← List.append_assoc]; exact a2
      · exact k0 g hBg hf hi (by rw [List.length_append, List.length_take] at ge; omega)

theorem rd_mno_k1 {Ls : List vz} {q : Nat} {n fm : Int} {u : List Int} (c : nmC τ h Ls) (tq : τ q = 84) (hn : n = (u.length : Int)) (n2 : n ≤ 2000) (uq : ∀ (j : Nat) v, u[j]? = some v → qz_I h q j = v) (up : ptl u) (fmr : 0 ≤ fm ∧ fm ≤ 3) (hr1 : h.1 + 500 ≤ 600192) (hr2 : h.2.1 + 100000 ≤ 7302232) (fc : fm % 2 = 1) (k1 : ∀ m, uz_FL (vF Ls) true u m → m.length ≤ 2000 → ∀ g τ1, ez_B τ1 g → nk τ h τ1 g → tm g m → ez_W (d + 7) cm_283 69 [(0, .inr (.inr (some (770)))), (1, .inr (.inr (some (q)))), (2, .inl (n)), (3, .inl (fm))] [] g Q) (k0 : ∀ m, uz_FL (vF Ls) true u m → 2000 < m.length → ∀ g τ1, ez_B τ1 g → nk τ h τ1 g → Q (.inr g.1, xc g 0)) : ∀ (ct : Nat) (i : Int) (g : cz_H) (τ1 : Nat → Nat) (ml : List Int), ct = (n - i).toNat → 0 ≤ i → i ≤ n → ez_B τ1 g → nk τ h τ1 g → uz_FL (vF Ls) true (u.take i.toNat) ml → tm g ml → ez_W (d + 7) cm_283 8 [(4, .inl (i)), (0, .inr (.inr (some (770)))), (1, .inr (.inr (some (q)))), (2, .inl (n)), (3, .inl (fm))] [] g Q := by
  intro ct
  induction ct with
  | zero =>
    intro i g τ1 ml hc i0 i1 hBg hk um ag
    have cg := c.k hk hBg
    have u770 : τ1 770 = 75 := cg.1.2.1 770 (by decide)
    have rm := hk.rm c.1.1 hBg (c.1.2.1 770 (by decide)) u770
    have u1q : τ1 q = 84 := (hk.1 q (by rw [tq]; decide)).1.trans tq
    have uqg : ∀ (j : Nat) v, u[j]? = some v → qz_I g q j = v := fun j v hv => by rw [show qz_I g q j = qz_I h q j by unfold qz_I; rw [hk.C c.1.2.1 (by rw [tq]; decide) (by rw [tq]; decide) (by rw [tq]; decide) (by rw [tq]; decide) (by rw [tq]; decide) (by rw [tq]; decide)]]; exact uq j v hv
    refine ez_go (n := 2) (pc' := 11) (L' := [(4, .inl (i)), (0, .inr (.inr (some (770)))), (1, .inr (.inr (some (q)))), (2, .inl (n)), (3, .inl (fm))]) (st' := [.inl (n), .inl (i)]) rfl ?_
    refine ez_icmp rfl rfl ⟨by first | omega | exact (sz_i32 _).1, by first | omega | exact (sz_i32 _).2⟩ ⟨by first | omega | exact (sz_i32 _).1, by first | omega | exact (sz_i32 _).2⟩ (fun (c1 : (n) ≤ (i)) => ?_) (fun (c1 : ¬((n) ≤ (i))) => ?_)
    · skip
      refine ez_less [(0, .inr (.inr (some (770)))), (1, .inr (.inr (some (q)))), (2, .inl (n)), (3, .inl (fm))] rfl ⟨rfl, rfl, rfl, rfl, trivial⟩ ?_
      rw [List.take_of_length_le (by omega)] at um
      exact k1 ml um (by have := ag.1; have : 0 ≤ qz_I g 770 30 ∧ qz_I g 770 30 ≤ 2000 := ez_fB (cl := 11) (k := 30) hBg u770 tq_75 rfl rfl (by decide); omega) g τ1 hBg hk ag
    · exfalso; omega
  | succ ct ih =>
    intro i g τ1 ml hc i0 i1 hBg hk um ag
    have cg := c.k hk hBg
    have u770 : τ1 770 = 75 := cg.1.2.1 770 (by decide)
    have rm := hk.rm c.1.1 hBg (c.1.2.1 770 (by decide)) u770
    have u1q : τ1 q = 84 := (hk.1 q (by rw [tq]; decide)).1.trans tq
    have uqg : ∀ (j : Nat) v, u[j]? = some v → qz_I g q j = v := fun j v hv => by rw [show qz_I g q j = qz_I h q j by unfold qz_I; rw [hk.C c.1.2.1 (by rw [tq]; decide) (by rw [tq]; decide) (by rw [tq]; decide) (by rw [tq]; decide) (by rw [tq]; decide) (by rw [tq]; decide)]]; exact uq j v hv
    refine ez_go (n := 2) (pc' := 11) (L' := [(4, .inl (i)), (0, .inr (.inr (some (770)))), (1, .inr (.inr (some (q)))), (2, .inl (n)), (3, .inl (fm))]) (st' := [.inl (n), .inl (i)]) rfl ?_
    refine ez_icmp rfl rfl ⟨by first | omega | exact (sz_i32 _).1, by first | omega | exact (sz_i32 _).2⟩ ⟨by first | omega | exact (sz_i32 _).1, by first | omega | exact (sz_i32 _).2⟩ (fun (c1 : (n) ≤ (i)) => ?_) (fun (c1 : ¬((n) ≤ (i))) => ?_)
    · exfalso; omega
    · skip
      refine ez_go (n := 3) (pc' := 18) (L' := [(4, .inl (i)), (0, .inr (.inr (some (770)))), (1, .inr (.inr (some (q)))), (2, .inl (n)), (3, .inl (fm))]) (st' := [.inl (i), .inr (.inr (some (q))), .inr (.inr (some (770)))]) rfl ?_
      have n3 : 2000 ≤ qz_N g q ∧ qz_N g q ≤ 2000 := ez_len hBg u1q tq_84 rfl
      refine ez_aI hBg u1q rfl tq_84 rfl rfl (by omega) (by omega) (fun (b2 : -2147483648 ≤ qz_I g q (i).toNat) (b2' : qz_I g q (i).toNat ≤ 2147483647) => ?_)
      refine ez_go (n := 2) (pc' := 21) (L' := [(4, .inl (i)), (0, .inr (.inr (some (770)))), (1, .inr (.inr (some (q)))), (2, .inl (n)), (3, .inl (fm))]) (st' := [.inl (2), .inl (fm), .inl (qz_I g q (i).toNat), .inr (.inr (some (770)))]) rfl ?_
      refine ez_rem rfl (by omega) (by omega) (by omega) (by omega) ?_
      refine ez_go (n := 1) (pc' := 23) (L' := [(4, .inl (i)), (0, .inr (.inr (some (770)))), (1, .inr (.inr (some (q)))), (2, .inl (n)), (3, .inl (fm))]) (st' := [.inl (1), .inl ((fm) % (2)), .inl (qz_I g q (i).toNat), .inr (.inr (some (770)))]) rfl ?_
      refine ez_icmp rfl rfl ⟨by first | omega | exact (sz_i32 _).1, by first | omega | exact (sz_i32 _).2⟩ ⟨by first | omega | exact (sz_i32 _).1, by first | omega | exact (sz_i32 _).2⟩ (fun (c4 : ((fm) % (2)) ≠ (1)) => ?_) (fun (c4 : ¬(((fm) % (2)) ≠ (1))) => ?_)
      · exfalso; omega
      · skip
        refine ez_go (n := 2) (pc' := 31) (L' := [(4, .inl (i)), (0, .inr (.inr (some (770)))), (1, .inr (.inr (some (q)))), (2, .inl (n)), (3, .inl (fm))]) (st' := [.inl (1), .inl (qz_I g q (i).toNat), .inr (.inr (some (770)))]) rfl ?_
        have l9 : i.toNat < u.length := by omega
        have ev := uqg _ _ (List.getElem?_eq_getElem l9)
        have vb := ptl_at up (List.getElem?_eq_getElem l9)
        rw [show qz_I g q (i).toNat = u[i.toNat] from ev]
        obtain ⟨fl, fl1, fl2⟩ := cg.f u[i.toNat] true
        have pf := uz_F_ptl cg.2.2.2.1 vb.1 vb.2 ⟨_, fl1⟩
        refine ez_cv hBg u770 rfl rfl rfl tq_75 rfl rfl rfl (rd_full (cb := true) (n := 502) (l := fl) cg.2.1 (cg.1.2.1 794 (by decide)) (by omega) (by omega) ⟨by omega, by omega⟩ ⟨by omega, by omega⟩ (by decide) fl1 (by decide) (fun _ g2 τ2 hB2 f2 sn2 h4 => ez_K1 ?_) (fun w => absurd w (by omega)))
        have nk2 := hk.trans (nk.of f2 sn2)
        have cg2 := c.k nk2 hB2
        have v770 : τ2 770 = 75 := cg2.1.2.1 770 (by decide)
        have rm2 := nk2.rm c.1.1 hB2 (c.1.2.1 770 (by decide)) v770
        have t2q : τ2 q = 84 := (nk2.1 q (by rw [tq]; decide)).1.trans tq
        have ag2 : tm g2 ml := ⟨(f2.2.2.1 30 (by decide) (by decide)).trans ag.1, fun j v hv => by rw [show qz_I g2 796 j = qz_I g 796 j by unfold qz_I; rw [(f2.1 796 (by rw [cg.1.2.1 796 (by decide)]; decide)).2 (by decide) (by decide) (by rw [cg.1.2.1 796 (by decide)]; decide)]]; exact ag.2 j v hv⟩
        refine ez_go (n := 3) (pc' := 39) (L' := [(6, .inl (0)), (5, .inl ((fl.length : Int))), (4, .inl (i)), (0, .inr (.inr (some (770)))), (1, .inr (.inr (some (q)))), (2, .inl (n)), (3, .inl (fm))]) (st' := []) rfl ?_
        refine ez_less [(6, .inl (0)), (5, .inl ((fl.length : Int))), (4, .inl (i)), (0, .inr (.inr (some (770)))), (1, .inr (.inr (some (q)))), (2, .inl (n)), (3, .inl (fm))] rfl ⟨rfl, rfl, rfl, rfl, rfl, rfl, rfl, trivial⟩ ?_
        have hv : u[i.toNat]? = some u[i.toNat] := List.getElem?_eq_getElem l9
        refine rd_mnj_k (h := g2) (l := ml) v770 rfl fl2 pf h4 (by omega) (by omega) (fun g3 hB3 f3 i3 a3 => ?_) (fun g3 hB3 f3 i3 lt => ?_) _ 0 g2 rfl (by omega) (by omega) hB2 (ez_fr.refl _ _) (fun _ _ => rfl) (by rw [show (0 : Int).toNat = 0 from rfl, List.take_zero, List.append_nil]; exact ag2)
        · have nk3 := nk2.trans (nk.fr hB2 v770 cg2.1.2.1 f3 (fun q9 hq9 => by unfold nz_PL at hq9; rcases Bool.or_eq_true_iff.mp hq9 with w | w; (· exact Or.inl (Nat.eq_of_beq_eq_true w)); (· exact Or.inr (Or.inl (Nat.eq_of_beq_eq_true w)))) i3)
          refine ez_go (n := 2) (pc' := 8) (L' := [(4, .inl (i + 1)), (0, .inr (.inr (some (770)))), (1, .inr (.inr (some (q)))), (2, .inl (n)), (3, .inl (fm))]) (st' := []) rfl ?_
          refine ez_less [(4, .inl (i + 1)), (0, .inr (.inr (some (770)))), (1, .inr (.inr (some (q)))), (2, .inl (n)), (3, .inl (fm))] rfl ⟨rfl, rfl, rfl, rfl, rfl, trivial⟩ ?_
          exact ih (i + 1) g3 τ2 (ml ++ fl) (by omega) (by omega) (by omega) hB3 nk3 (by rw [show (i + 1).toNat = i.toNat + 1 by omega]; exact uz_FL_take (l := u) hv um ⟨_, fl1⟩) a3
        · have nk3 := nk2.trans (nk.fr hB2 v770 cg2.1.2.1 f3 (fun q9 hq9 => by unfold nz_PL at hq9; rcases Bool.or_eq_true_iff.mp hq9 with w | w; (· exact Or.inl (Nat.eq_of_beq_eq_true w)); (· exact Or.inr (Or.inl (Nat.eq_of_beq_eq_true w)))) i3)
          obtain ⟨m3, u3⟩ := nmC_allL c true up
          have le := uz_FL_le (i := i.toNat + 1) (uz_FL_take (l := u) hv um ⟨_, fl1⟩) u3
          rw [List.length_append] at le
          exact k0 m3 u3 (by omega) g3 τ2 hB3 nk3

theorem rd_mno_k0 {Ls : List vz} {q : Nat} {n fm : Int} {u : List Int} (c : nmC τ h Ls) (tq : τ q = 84) (hn : n = (u.length : Int)) (n2 : n ≤ 2000) (uq : ∀ (j : Nat) v, u[j]? = some v → qz_I h q j = v) (up : ptl u) (fmr : 0 ≤ fm ∧ fm ≤ 3) (hr1 : h.1 + 500 ≤ 600192) (hr2 : h.2.1 + 100000 ≤ 7302232) (fc : fm % 2 ≠ 1) (k1 : ∀ m, uz_FL (vF Ls) false u m → m.length ≤ 2000 → ∀ g τ1, ez_B τ1 g → nk τ h τ1 g → tm g m → ez_W (d + 7) cm_283 69 [(0, .inr (.inr (some (770)))), (1, .inr (.inr (some (q)))), (2, .inl (n)), (3, .inl (fm))] [] g Q) (k0 : ∀ m, uz_FL (vF Ls) false u m → 2000 < m.length → ∀ g τ1, ez_B τ1 g → nk τ h τ1 g → Q (.inr g.1, xc g 0)) : ∀ (ct : Nat) (i : Int) (g : cz_H) (τ1 : Nat → Nat) (ml : List Int), ct = (n - i).toNat → 0 ≤ i → i ≤ n → ez_B τ1 g → nk τ h τ1 g → uz_FL (vF Ls) false (u.take i.toNat) ml → tm g ml → ez_W (d + 7) cm_283 8 [(4, .inl (i)), (0, .inr (.inr (some (770)))), (1, .inr (.inr (some (q)))), (2, .inl (n)), (3, .inl (fm))] [] g Q := by
  intro ct
  induction ct with
  | zero =>
    intro i g τ1 ml hc i0 i1 hBg hk um ag
    have cg := c.k hk hBg
    have u770 : τ1 770 = 75 := cg.1.2.1 770 (by decide)
    have rm := hk.rm c.1.1 hBg (c.1.2.1 770 (by decide)) u770
    have u1q : τ1 q = 84 := (hk.1 q (by rw [tq]; decide)).1.trans tq
    have uqg : ∀ (j : Nat) v, u[j]? = some v → qz_I g q j = v := fun j v hv => by rw [show qz_I g q j = qz_I h q j by unfold qz_I; rw [hk.C c.1.2.1 (by rw [tq]; decide) (by rw [tq]; decide) (by rw [tq]; decide) (by rw [tq]; decide) (by rw [tq]; decide) (by rw [tq]; decide)]]; exact uq j v hv
    refine ez_go (n := 2) (pc' := 11) (L' := [(4, .inl (i)), (0, .inr (.inr (some (770)))), (1, .inr (.inr (some (q)))), (2, .inl (n)), (3, .inl (fm))]) (st' := [.inl (n), .inl (i)]) rfl ?_
    refine ez_icmp rfl rfl ⟨by first | omega | exact (sz_i32 _).1, by first | omega | exact (sz_i32 _).2⟩ ⟨by first | omega | exact (sz_i32 _).1, by first | omega | exact (sz_i32 _).2⟩ (fun (c1 : (n) ≤ (i)) => ?_) (fun (c1 : ¬((n) ≤ (i))) => ?_)
    · skip
      refine ez_less [(0, .inr (.inr (some (770)))), (1, .inr (.inr (some (q)))), (2, .inl (n)), (3, .inl (fm))] rfl ⟨rfl, rfl, rfl, rfl, trivial⟩ ?_
      rw [List.take_of_length_le (by omega)] at um
      exact k1 ml um (by have := ag.1; have : 0 ≤ qz_I g 770 30 ∧ qz_I g 770 30 ≤ 2000 := ez_fB (cl := 11) (k := 30) hBg u770 tq_75 rfl rfl (by decide); omega) g τ1 hBg hk ag
    · exfalso; omega
  | succ ct ih =>
    intro i g τ1 ml hc i0 i1 hBg hk um ag
    have cg := c.k hk hBg
    have u770 : τ1 770 = 75 := cg.1.2.1 770 (by decide)
    have rm := hk.rm c.1.1 hBg (c.1.2.1 770 (by decide)) u770
    have u1q : τ1 q = 84 := (hk.1 q (by rw [tq]; decide)).1.trans tq
    have uqg : ∀ (j : Nat) v, u[j]? = some v → qz_I g q j = v := fun j v hv => by rw [show qz_I g q j = qz_I h q j by unfold qz_I; rw [hk.C c.1.2.1 (by rw [tq]; decide) (by rw [tq]; decide) (by rw [tq]; decide) (by rw [tq]; decide) (by rw [tq]; decide) (by rw [tq]; decide)]]; exact uq j v hv
    refine ez_go (n := 2) (pc' := 11) (L' := [(4, .inl (i)), (0, .inr (.inr (some (770)))), (1, .inr (.inr (some (q)))), (2, .inl (n)), (3, .inl (fm))]) (st' := [.inl (n), .inl (i)]) rfl ?_
    refine ez_icmp rfl rfl ⟨by first | omega | exact (sz_i32 _).1, by first | omega | exact (sz_i32 _).2⟩ ⟨by first | omega | exact (sz_i32 _).1, by first | omega | exact (sz_i32 _).2⟩ (fun (c1 : (n) ≤ (i)) => ?_) (fun (c1 : ¬((n) ≤ (i))) => ?_)
    · exfalso; omega
    · skip
      refine ez_go (n := 3) (pc' := 18) (L' := [(4, .inl (i)), (0, .inr (.inr (some (770)))), (1, .inr (.inr (some (q)))), (2, .inl (n)), (3, .inl (fm))]) (st' := [.inl (i), .inr (.inr (some (q))), .inr (.inr (some (770)))]) rfl ?_
      have n3 : 2000 ≤ qz_N g q ∧ qz_N g q ≤ 2000 := ez_len hBg u1q tq_84 rfl
      refine ez_aI hBg u1q rfl tq_84 rfl rfl (by omega) (by omega) (fun (b2 : -2147483648 ≤ qz_I g q (i).toNat) (b2' : qz_I g q (i).toNat ≤ 2147483647) => ?_)
      refine ez_go (n := 2) (pc' := 21) (L' := [(4, .inl (i)), (0, .inr (.inr (some (770)))), (1, .inr (.inr (some (q)))), (2, .inl (n)), (3, .inl (fm))]) (st' := [.inl (2), .inl (fm), .inl (qz_I g q (i).toNat), .inr (.inr (some (770)))]) rfl ?_
      refine ez_rem rfl (by omega) (by omega) (by omega) (by omega) ?_
      refine ez_go (n := 1) (pc' := 23) (L' := [(4, .inl (i)), (0, .inr (.inr (some (770)))), (1, .inr (.inr (some (q)))), (2, .inl (n)), (3, .inl (fm))]) (st' := [.inl (1), .inl ((fm) % (2)), .inl (qz_I g q (i).toNat), .inr (.inr (some (770)))]) rfl ?_
      refine ez_icmp rfl rfl ⟨by first | omega | exact (sz_i32 _).1, by first | omega | exact (sz_i32 _).2⟩ ⟨by first | omega | exact (sz_i32 _).1, by first | omega | exact (sz_i32 _).2⟩ (fun (c4 : ((fm) % (2)) ≠ (1)) => ?_) (fun (c4 : ¬(((fm) % (2)) ≠ (1))) => ?_)
      · skip
        refine ez_go (n := 1) (pc' := 31) (L' := [(4, .inl (i)), (0, .inr (.inr (some (770)))), (1, .inr (.inr (some (q)))), (2, .inl (n)), (3, .inl (fm))]) (st' := [.inl (0), .inl (qz_I g q (i).toNat), .inr (.inr (some (770)))]) rfl ?_
        have l9 : i.toNat < u.length := by omega
        have ev := uqg _ _ (List.getElem?_eq_getElem l9)
        have vb := ptl_at up (List.getElem?_eq_getElem l9)
        rw [show qz_I g q (i).toNat = u[i.toNat] from ev]
        obtain ⟨fl, fl1, fl2⟩ := cg.f u[i.toNat] false
        have pf := uz_F_ptl cg.2.2.2.1 vb.1 vb.2 ⟨_, fl1⟩
        refine ez_cv hBg u770 rfl rfl rfl tq_75 rfl rfl rfl (rd_full (cb := false) (n := 502) (l := fl) cg.2.1 (cg.1.2.1 794 (by decide)) (by omega) (by omega) ⟨by omega, by omega⟩ ⟨by omega, by omega⟩ (by decide) fl1 (by decide) (fun _ g2 τ2 hB2 f2 sn2 h4 => ez_K1 ?_) (fun w => absurd w (by omega)))
        have nk2 := hk.trans (nk.of f2 sn2)
        have cg2 := c.k nk2 hB2
        have v770 : τ2 770 = 75 := cg2.1.2.1 770 (by decide)
        have rm2 := nk2.rm c.1.1 hB2 (c.1.2.1 770 (by decide)) v770
        have t2q : τ2 q = 84 := (nk2.1 q (by rw [tq]; decide)).1.trans tq
        have ag2 : tm g2 ml := ⟨(f2.2.2.1 30 (by decide) (by decide)).trans ag.1, fun j v hv => by rw [show qz_I g2 796 j = qz_I g 796 j by unfold qz_I; rw [(f2.1 796 (by rw [cg.1.2.1 796 (by decide)]; decide)).2 (by decide) (by decide) (by rw [cg.1.2.1 796 (by decide)]; decide)]]; exact ag.2 j v hv⟩
        refine ez_go (n := 3) (pc' := 39) (L' := [(6, .inl (0)), (5, .inl ((fl.length : Int))), (4, .inl (i)), (0, .inr (.inr (some (770)))), (1, .inr (.inr (some (q)))), (2, .inl (n)), (3, .inl (fm))]) (st' := []) rfl ?_
        refine ez_less [(6, .inl (0)), (5, .inl ((fl.length : Int))), (4, .inl (i)), (0, .inr (.inr (some (770)))), (1, .inr (.inr (some (q)))), (2, .inl (n)), (3, .inl (fm))] rfl ⟨rfl, rfl, rfl, rfl, rfl, rfl, rfl, trivial⟩ ?_
        have hv : u[i.toNat]? = some u[i.toNat] := List.getElem?_eq_getElem l9
        refine rd_mnj_k (h := g2) (l := ml) v770 rfl fl2 pf h4 (by omega) (by omega) (fun g3 hB3 f3 i3 a3 => ?_) (fun g3 hB3 f3 i3 lt => ?_) _ 0 g2 rfl (by omega) (by omega) hB2 (ez_fr.refl _ _) (fun _ _ => rfl) (by rw [show (0 : Int).toNat = 0 from rfl, List.take_zero, List.append_nil]; exact ag2)
        · have nk3 := nk2.trans (nk.fr hB2 v770 cg2.1.2.1 f3 (fun q9 hq9 => by unfold nz_PL at hq9; rcases Bool.or_eq_true_iff.mp hq9 with w | w; (· exact Or.inl (Nat.eq_of_beq_eq_true w)); (· exact Or.inr (Or.inl (Nat.eq_of_beq_eq_true w)))) i3)
          refine ez_go (n := 2) (pc' := 8) (L' := [(4, .inl (i + 1)), (0, .inr (.inr (some (770)))), (1, .inr (.inr (some (q)))), (2, .inl (n)), (3, .inl (fm))]) (st' := []) rfl ?_
          refine ez_less [(4, .inl (i + 1)), (0, .inr (.inr (some (770)))), (1, .inr (.inr (some (q)))), (2, .inl (n)), (3, .inl (fm))] rfl ⟨rfl, rfl, rfl, rfl, rfl, trivial⟩ ?_
          exact ih (i + 1) g3 τ2 (ml ++ fl) (by omega) (by omega) (by omega) hB3 nk3 (by rw [show (i + 1).toNat = i.toNat + 1 by omega]; exact uz_FL_take (l := u) hv um ⟨_, fl1⟩) a3
        · have nk3 := nk2.trans (nk.fr hB2 v770 cg2.1.2.1 f3 (fun q9 hq9 => by unfold nz_PL at hq9; rcases Bool.or_eq_true_iff.mp hq9 with w | w; (· exact Or.inl (Nat.eq_of_beq_eq_true w)); (· exact Or.inr (Or.inl (Nat.eq_of_beq_eq_true w)))) i3)
          obtain ⟨m3, u3⟩ := nmC_allL c false up
          have le := uz_FL_le (i := i.toNat + 1) (uz_FL_take (l := u) hv um ⟨_, fl1⟩) u3
          rw [List.length_append] at le
          exact k0 m3 u3 (by omega) g3 τ2 hB3 nk3
      · exfalso; omega

theorem rd_mne_k {Ls : List vz} {q : Nat} {n fm : Int} {u : List Int} (c : nmC τ h Ls) (tq : τ q = 84) (hn : n = (u.length : Int)) (n2 : n ≤ 2000) (uq : ∀ (j : Nat) v, u[j]? = some v → qz_I h q j = v) (up : ptl u) (fmr : 0 ≤ fm ∧ fm ≤ 3) (hr1 : h.1 + 500 ≤ 600192) (hr2 : h.2.1 + 100000 ≤ 7302232) {cb : Bool} {m : List Int} {g : cz_H} {τ1 : Nat → Nat} (um : uz_FL (vF Ls) cb u m) (ml : m.length ≤ 2000) (hBg : ez_B τ1 g) (hk : nk τ h τ1 g) (ag : tm g m) (k1 : ∀ m res, uz_FL (vF Ls) cb u m → m.length ≤ 2000 → nfR (vF Ls) (vE Ls) fm m res → ptl res → ∀ g τ1, ez_B τ1 g → nk τ h τ1 g → tm g res → Q (.inl none, g)) : ez_W (d + 7) cm_283 69 [(0, .inr (.inr (some (770)))), (1, .inr (.inr (some (q)))), (2, .inl (n)), (3, .inl (fm))] [] g Q := by
  have cg := c.k hk hBg
  have u770 : τ1 770 = 75 := cg.1.2.1 770 (by decide)
  have pm := uz_FL_ptl cg.2.2.2.1 up um
  refine ez_go (n := 1) (pc' := 70) (L' := [(0, .inr (.inr (some (770)))), (1, .inr (.inr (some (q)))), (2, .inl (n)), (3, .inl (fm))]) (st' := [.inr (.inr (some (770)))]) rfl ?_
  refine ez_cv hBg u770 rfl rfl rfl tq_75 rfl rfl rfl (rd_mord cg.1 cg.2.2.2.1 ag pm (fun g2 o2 p2 => ez_K0 ?_))
  have nk2 := hk.trans (orz_nk hBg cg.1.2.1 o2)
  have hB2 := o2.1
  have cg2 := c.k nk2 hB2
  have ok1 := kok_srt (kok_zl (F := vF Ls) pm)
  have l2 : qz_I g2 770 30 = ((os_srt (zl (vF Ls) m)).length : Int) := by rw [os_srt_len, zl_len, o2.s u770 30]; exact ag.1
  refine ez_go (n := 2) (pc' := 75) (L' := [(0, .inr (.inr (some (770)))), (1, .inr (.inr (some (q)))), (2, .inl (n)), (3, .inl (fm))]) (st' := [.inl (1), .inl (fm)]) rfl ?_
  refine ez_icmp rfl rfl ⟨by first | omega | exact (sz_i32 _).1, by first | omega | exact (sz_i32 _).2⟩ ⟨by first | omega | exact (sz_i32 _).1, by first | omega | exact (sz_i32 _).2⟩ (fun (c1 : (fm) ≤ (1)) => ?_) (fun (c1 : ¬((fm) ≤ (1))) => ?_)
  · skip
    exact ez_ret0 rfl rfl (k1 m _ um ml ⟨os_srt (zl (vF Ls) m), by rw [if_neg (by omega)], rfl⟩ (kok_ptl ok1) g2 τ1 hB2 nk2 ⟨by rw [l2, List.length_map], fun j v hv => by rw [List.getElem?_map] at hv; obtain ⟨z, z1, z2⟩ := Option.map_eq_some_iff.mp hv; rw [← z2]; exact (p2 j z z1).1⟩)
  · skip
    refine ez_go (n := 1) (pc' := 79) (L' := [(0, .inr (.inr (some (770)))), (1, .inr (.inr (some (q)))), (2, .inl (n)), (3, .inl (fm))]) (st' := [.inr (.inr (some (770)))]) rfl ?_
    refine ez_cv hB2 u770 rfl rfl rfl tq_75 rfl rfl rfl (rd_mcps cg2.1 cg2.2.2.2.1 cg2.2.1 cg2.2.2.1 l2 ok1 p2 (fun g4 K hB4 f4 i4 kc okK tK => ez_K0 ?_))
    have nk4 := nk2.trans (ocp_nk hB2 cg2.1.2.1 f4 i4)
    exact ez_ret0 rfl rfl (k1 m _ um ml ⟨K, by rw [if_pos (by omega)]; exact kc, rfl⟩ (kok_ptl okK) g4 τ1 hB4 nk4 tK)

theorem rd_mnorm_k {Ls : List vz} {q : Nat} {n fm : Int} {u : List Int} (c : nmC τ h Ls) (tq : τ q = 84) (hn : n = (u.length : Int)) (n2 : n ≤ 2000) (uq : ∀ (j : Nat) v, u[j]? = some v → qz_I h q j = v) (up : ptl u) (fmr : 0 ≤ fm ∧ fm ≤ 3) (hr1 : h.1 + 500 ≤ 600192) (hr2 : h.2.1 + 100000 ≤ 7302232) (k1 : ∀ m res, uz_FL (vF Ls) (decide (fm = 1 ∨ fm = 3)) u m → m.length ≤ 2000 → nfR (vF Ls) (vE Ls) fm m res → ptl res → ∀ g τ1, ez_B τ1 g → nk τ h τ1 g → tm g res → Q (.inl none, g)) (k0 : ∀ m, uz_FL (vF Ls) (decide (fm = 1 ∨ fm = 3)) u m → 2000 < m.length → ∀ g τ1, ez_B τ1 g → nk τ h τ1 g → Q (.inr g.1, xc g 0)) : ez_W (d + 7) cm_283 0 [(0, .inr (.inr (some (770)))), (1, .inr (.inr (some (q)))), (2, .inl (n)), (3, .inl (fm))] [] h Q := by
  have t770 : τ 770 = 75 := c.1.2.1 770 (by decide)
  refine ez_go (n := 2) (pc' := 2) (L' := [(0, .inr (.inr (some (770)))), (1, .inr (.inr (some (q)))), (2, .inl (n)), (3, .inl (fm))]) (st' := [.inl (0), .inr (.inr (some (770)))]) rfl ?_
  refine ez_pf c.1.1 t770 rfl rfl tq_75 rfl rfl rfl rfl (ez_vdI rfl rfl (by omega) (by omega)) (fun hB1 w2 => ?_)
  have z30 : qz_I (dz_put h 770 30 (ez_v (.inl (0)))) 770 30 = 0 := w2.trans rfl
  have i30 : ∀ j, j ≠ 30 → qz_I (dz_put h 770 30 (ez_v (.inl (0)))) 770 j = qz_I h 770 j := fun j hj => ez_put_I (fun w => hj w.2)
  have f30 : ez_fr (ez_one 770) h (dz_put h 770 30 (ez_v (.inl (0)))) := (ez_fr.refl (ez_one 770) h).put rfl _ _
  have hB1 := hB1
  generalize (dz_put h 770 30 (ez_v (.inl (0)))) = g1 at *
  have nk1 := nk.fr c.1.1 t770 c.1.2.1 f30 (fun q9 hq9 => Or.inl (Nat.eq_of_beq_eq_true hq9)) i30
  refine ez_go (n := 2) (pc' := 8) (L' := [(4, .inl (0)), (0, .inr (.inr (some (770)))), (1, .inr (.inr (some (q)))), (2, .inl (n)), (3, .inl (fm))]) (st' := []) rfl ?_
  refine ez_less [(4, .inl (0)), (0, .inr (.inr (some (770)))), (1, .inr (.inr (some (q)))), (2, .inl (n)), (3, .inl (fm))] rfl ⟨rfl, rfl, rfl, rfl, rfl, trivial⟩ ?_
  by_cases fc : fm % 2 = 1
  · have ec : decide (fm = 1 ∨ fm = 3) = true := decide_eq_true (by omega)
    rw [ec] at k1 k0
    exact rd_mno_k1 c tq hn n2 uq up fmr hr1 hr2 fc (fun m um ml g τ1 hBg hk ag => rd_mne_k c tq hn n2 uq up fmr hr1 hr2 um ml hBg hk ag k1) k0 _ 0 g1 τ [] rfl (by omega) (by omega) hB1 nk1 (by rw [show (0 : Int).toNat = 0 from rfl, List.take_zero]; exact uz_nil _ _) ⟨z30, fun j v hv => by cases hv⟩
  · have ec : decide (fm = 1 ∨ fm = 3) = false := decide_eq_false (by omega)
    rw [ec] at k1 k0
    exact rd_mno_k0 c tq hn n2 uq up fmr hr1 hr2 fc (fun m um ml g τ1 hBg hk ag => rd_mne_k c tq hn n2 uq up fmr hr1 hr2 um ml hBg hk ag k1) k0 _ 0 g1 τ [] rfl (by omega) (by omega) hB1 nk1 (by rw [show (0 : Int).toNat = 0 from rfl, List.take_zero]; exact uz_nil _ _) ⟨z30, fun j v hv => by cases hv⟩

/-- a slot's row and its length in the model -/
def mx (h : cz_H) (t : Nat) (l : List Int) : Prop := qz_I h 782 t = (l.length : Int) ∧ ∀ (j : Nat) v, l[j]? = some v → qz_I h (774 + t) j = v
def mx_P (t z : Nat) : Bool := Nat.beq z (774 + t) || Nat.beq z 782
theorem mx_Pa (t : Nat) : mx_P t (774 + t) = true := by unfold mx_P; rw [Nat.beq_refl]; rfl
theorem mx_Pb (t : Nat) : mx_P t 782 = true := by unfold mx_P; exact Bool.or_true _
theorem mx_Pn {t z : Nat} (h1 : z ≠ 774 + t) (h2 : z ≠ 782) : mx_P t z = false := by unfold mx_P; rw [dz_beq_ne h1, dz_beq_ne h2]; rfl
/-- and the other slots stay -/
def mxf (t : Nat) (h g : cz_H) : Prop := ez_fr (mx_P t) h g ∧ ∀ s, s ≠ t → qz_I g 782 s = qz_I h 782 s
/-- where the slots are -/
def slt (h : cz_H) : Prop := ∀ t : Nat, t < 8 → qz_I h 195 t = 755 + 2 * (t : Int) ∧ qz_I h 773 t = 775 + (t : Int)
theorem slt.k {h g : cz_H} (s : slt h) (e1 : g.2.2 195 = h.2.2 195) (e2 : g.2.2 773 = h.2.2 773) : slt g := fun t ht => by unfold qz_I; rw [e1, e2]; exact s t ht
theorem mx_tag {τ : Nat → Nat} (hX : jz_X τ) {t : Nat} (ht : t < 8) : τ (774 + t) = 37 ∧ τ (754 + 2 * t) = 88 ∧ τ (754 + 2 * t + 1) = 89 := by
  have : t = 0 ∨ t = 1 ∨ t = 2 ∨ t = 3 ∨ t = 4 ∨ t = 5 ∨ t = 6 ∨ t = 7 := by omega
  rcases this with e | e | e | e | e | e | e | e <;> (subst e; exact ⟨hX _ (by decide), hX _ (by decide), hX _ (by decide)⟩)
theorem rd_mtk_l {t : Int} (hX : jz_X τ) (sl : slt h) (a : tm h l) (pr : ∀ (j : Nat) v, l[j]? = some v → ez_rg v) (ll : l.length ≤ 2000) (t0 : 0 ≤ t) (t7 : t ≤ 7) (k : ∀ g, ez_B τ g → mxf t.toNat h g → mx g t.toNat l → Q (.inl (some (ez_v (.inl (l.length : Int)))), g)) : ∀ (m : Nat) (j : Int) (g : cz_H), m = ((l.length : Int) - j).toNat → 0 ≤ j → j ≤ (l.length : Int) → ez_B τ g → ez_fr (mx_P t.toNat) h g → (∀ s, qz_I g 782 s = qz_I h 782 s) → (∀ (i : Nat) v, (i : Int) < j → l[i]? = some v → qz_I g (774 + t.toNat) i = v) → ez_W d cm_302 2 [(2, .inl (j)), (0, .inr (.inr (some (770)))), (1, .inl (t))] [] g Q := by
  have t770 : τ 770 = 75 := hX 770 (by decide)
  have tt := mx_tag hX (show t.toNat < 8 by omega)
  intro m
  induction m with
  | zero =>
    intro j g hm j0 j1 hBg hf h82 hv9
    have c73 : ∀ i, qz_I g 773 i = qz_I h 773 i := fun i => hf.I (mx_Pn (by omega) (by decide)) i
    have c96 : ∀ i, qz_I g 796 i = qz_I h 796 i := fun i => hf.I (mx_Pn (by omega) (by decide)) i
    have c30 : qz_I g 770 30 = (l.length : Int) := (hf.I (mx_Pn (by omega) (by decide)) 30).trans a.1
    refine ez_go (n := 2) (pc' := 4) (L' := [(2, .inl (j)), (0, .inr (.inr (some (770)))), (1, .inl (t))]) (st' := [.inr (.inr (some (770))), .inl (j)]) rfl ?_
    refine ez_gI hBg t770 rfl rfl tq_75 rfl rfl (fun (b1 : 0 ≤ qz_I g 770 30) (b1' : qz_I g 770 30 ≤ 2000) => ?_)
    refine ez_icmp rfl rfl ⟨by first | omega | exact (sz_i32 _).1, by first | omega | exact (sz_i32 _).2⟩ ⟨by first | omega | exact (sz_i32 _).1, by first | omega | exact (sz_i32 _).2⟩ (fun (c2 : (qz_I g 770 30) ≤ (j)) => ?_) (fun (c2 : ¬((qz_I g 770 30) ≤ (j))) => ?_)
    · skip
      refine ez_go (n := 1) (pc' := 31) (L' := [(2, .inl (j)), (0, .inr (.inr (some (770)))), (1, .inl (t))]) (st' := [.inr (.inr (some (770)))]) rfl ?_
      refine ez_gC (p := 782) (tg := 79) hBg t770 rfl rfl tq_75 rfl rfl (fun (t782 : _ = 79) => ?_)
      refine ez_go (n := 2) (pc' := 36) (L' := [(2, .inl (j)), (0, .inr (.inr (some (770)))), (1, .inl (t))]) (st' := [.inr (.inr (some (770))), .inl (t), .inr (.inr (some (782)))]) rfl ?_
      refine ez_gI hBg t770 rfl rfl tq_75 rfl rfl (fun (b3 : 0 ≤ qz_I g 770 30) (b3' : qz_I g 770 30 ≤ 2000) => ?_)
      have n6 : 8 ≤ qz_N g 782 ∧ qz_N g 782 ≤ 8 := ez_len hBg t782 tq_79 rfl
      refine ez_as hBg t782 rfl tq_79 rfl rfl (by omega) (by omega) (ez_vdI rfl rfl (by omega) (by omega)) (fun hB4 w5 => ?_)
      refine ez_go (n := 1) (pc' := 41) (L' := [(2, .inl (j)), (0, .inr (.inr (some (770)))), (1, .inl (t))]) (st' := [.inr (.inr (some (770)))]) rfl ?_
      refine ez_gI hB4 t770 rfl rfl tq_75 rfl rfl (fun (b7 : 0 ≤ qz_I (dz_put g 782 (t).toNat (ez_v (.inl (qz_I g 770 30)))) 770 30) (b7' : qz_I (dz_put g 782 (t).toNat (ez_v (.inl (qz_I g 770 30)))) 770 30 ≤ 2000) => ?_)
      have e5 : qz_I (dz_put g 782 (t).toNat (ez_v (.inl (qz_I g 770 30)))) 770 30 = (l.length : Int) := (ez_put_I (fun w => absurd w.1 (by decide))).trans c30
      rw [e5]
      refine ez_retI rfl rfl (k _ hB4 ⟨hf.put (mx_Pb t.toNat) _ _, fun s hs => (ez_put_I (fun w => hs w.2)).trans (h82 s)⟩ ⟨?_, fun i v hv => ?_⟩)
      · rw [w5, c30]; exact rz_rd ⟨by omega, by omega⟩
      · rw [ez_put_I (fun w => by omega)]; exact hv9 i v (by have := (List.getElem?_eq_some_iff.mp hv).1; omega) hv
    · exfalso; omega
  | succ m ih =>
    intro j g hm j0 j1 hBg hf h82 hv9
    have c73 : ∀ i, qz_I g 773 i = qz_I h 773 i := fun i => hf.I (mx_Pn (by omega) (by decide)) i
    have c96 : ∀ i, qz_I g 796 i = qz_I h 796 i := fun i => hf.I (mx_Pn (by omega) (by decide)) i
    have c30 : qz_I g 770 30 = (l.length : Int) := (hf.I (mx_Pn (by omega) (by decide)) 30).trans a.1
    refine ez_go (n := 2) (pc' := 4) (L' := [(2, .inl (j)), (0, .inr (.inr (some (770)))), (1, .inl (t))]) (st' := [.inr (.inr (some (770))), .inl (j)]) rfl ?_
    refine ez_gI hBg t770 rfl rfl tq_75 rfl rfl (fun (b1 : 0 ≤ qz_I g 770 30) (b1' : qz_I g 770 30 ≤ 2000) => ?_)
    refine ez_icmp rfl rfl ⟨by first | omega | exact (sz_i32 _).1, by first | omega | exact (sz_i32 _).2⟩ ⟨by first | omega | exact (sz_i32 _).1, by first | omega | exact (sz_i32 _).2⟩ (fun (c2 : (qz_I g 770 30) ≤ (j)) => ?_) (fun (c2 : ¬((qz_I g 770 30) ≤ (j))) => ?_)
    · skip
      refine ez_go (n := 1) (pc' := 31) (L' := [(2, .inl (j)), (0, .inr (.inr (some (770)))), (1, .inl (t))]) (st' := [.inr (.inr (some (770)))]) rfl ?_
      refine ez_gC (p := 782) (tg := 79) hBg t770 rfl rfl tq_75 rfl rfl (fun (t782 : _ = 79) => ?_)
      refine ez_go (n := 2) (pc' := 36) (L' := [(2, .inl (j)), (0, .inr (.inr (some (770)))), (1, .inl (t))]) (st' := [.inr (.inr (some (770))), .inl (t), .inr (.inr (some (782)))]) rfl ?_
      refine ez_gI hBg t770 rfl rfl tq_75 rfl rfl (fun (b3 : 0 ≤ qz_I g 770 30) (b3' : qz_I g 770 30 ≤ 2000) => ?_)
      have n6 : 8 ≤ qz_N g 782 ∧ qz_N g 782 ≤ 8 := ez_len hBg t782 tq_79 rfl
      refine ez_as hBg t782 rfl tq_79 rfl rfl (by omega) (by omega) (ez_vdI rfl rfl (by omega) (by omega)) (fun hB4 w5 => ?_)
      refine ez_go (n := 1) (pc' := 41) (L' := [(2, .inl (j)), (0, .inr (.inr (some (770)))), (1, .inl (t))]) (st' := [.inr (.inr (some (770)))]) rfl ?_
      refine ez_gI hB4 t770 rfl rfl tq_75 rfl rfl (fun (b7 : 0 ≤ qz_I (dz_put g 782 (t).toNat (ez_v (.inl (qz_I g 770 30)))) 770 30) (b7' : qz_I (dz_put g 782 (t).toNat (ez_v (.inl (qz_I g 770 30)))) 770 30 ≤ 2000) => ?_)
      have e5 : qz_I (dz_put g 782 (t).toNat (ez_v (.inl (qz_I g 770 30)))) 770 30 = (l.length : Int) := (ez_put_I (fun w => absurd w.1 (by decide))).trans c30
      rw [e5]
      refine ez_retI rfl rfl (k _ hB4 ⟨hf.put (mx_Pb t.toNat) _ _, fun s hs => (ez_put_I (fun w => hs w.2)).trans (h82 s)⟩ ⟨?_, fun i v hv => ?_⟩)
      · rw [w5, c30]; exact rz_rd ⟨by omega, by omega⟩
      · rw [ez_put_I (fun w => by omega)]; exact hv9 i v (by have := (List.getElem?_eq_some_iff.mp hv).1; omega) hv
    · skip
      refine ez_go (n := 1) (pc' := 11) (L' := [(2, .inl (j)), (0, .inr (.inr (some (770)))), (1, .inl (t))]) (st' := [.inr (.inr (some (770)))]) rfl ?_
      refine ez_gC (p := 773) (tg := 78) hBg t770 rfl rfl tq_75 rfl rfl (fun (t773 : _ = 78) => ?_)
      refine ez_go (n := 1) (pc' := 15) (L' := [(2, .inl (j)), (0, .inr (.inr (some (770)))), (1, .inl (t))]) (st' := [.inl (t), .inr (.inr (some (773)))]) rfl ?_
      have n9 : 8 ≤ qz_N g 773 ∧ qz_N g 773 ≤ 8 := ez_len hBg t773 tq_78 rfl
      have y10 : 1 ≤ qz_I g 773 (t).toNat := (by have := (sl t.toNat (by omega)).2; rw [c73]; omega)
      have y11 : 1 ≤ qz_I g 773 (t).toNat ∧ qz_I g 773 (t).toNat ≤ 1000000 := ez_aB hBg t773 tq_78 rfl rfl (by decide) (by omega) (by omega)
      have y11' : ((qz_P g 773 (t).toNat : Nat) : Int) + 1 = qz_I g 773 (t).toNat := by unfold qz_P; omega
      refine ez_aR hBg t773 rfl tq_78 rfl rfl (by omega) (by omega) (by omega) (fun (t8 : _ = 37) => ?_)
      rw [show qz_P g 773 (t).toNat = 774 + t.toNat by unfold qz_P; have := (sl t.toNat (by omega)).2; rw [show qz_I g 773 (t).toNat = qz_I h 773 (t).toNat from c73 _]; omega]
      refine ez_go (n := 2) (pc' := 18) (L' := [(2, .inl (j)), (0, .inr (.inr (some (770)))), (1, .inl (t))]) (st' := [.inr (.inr (some (770))), .inl (j), .inr (.inr (some (774 + t.toNat)))]) rfl ?_
      refine ez_gC (p := 796) (tg := 83) hBg t770 rfl rfl tq_75 rfl rfl (fun (t796 : _ = 83) => ?_)
      refine ez_go (n := 1) (pc' := 22) (L' := [(2, .inl (j)), (0, .inr (.inr (some (770)))), (1, .inl (t))]) (st' := [.inl (j), .inr (.inr (some (796))), .inl (j), .inr (.inr (some (774 + t.toNat)))]) rfl ?_
      have n13 : 2000 ≤ qz_N g 796 ∧ qz_N g 796 ≤ 2000 := ez_len hBg t796 tq_83 rfl
      refine ez_aI hBg t796 rfl tq_83 rfl rfl (by omega) (by omega) (fun (b12 : -2147483648 ≤ qz_I g 796 (j).toNat) (b12' : qz_I g 796 (j).toNat ≤ 2147483647) => ?_)
      have n16 : 2000 ≤ qz_N g (774 + t.toNat) ∧ qz_N g (774 + t.toNat) ≤ 2000 := ez_len hBg tt.1 tq_37 rfl
      refine ez_as hBg tt.1 rfl tq_37 rfl rfl (by omega) (by omega) (ez_vdI rfl rfl (by omega) (by omega)) (fun hB14 w15 => ?_)
      refine ez_go (n := 2) (pc' := 2) (L' := [(2, .inl (j + 1)), (0, .inr (.inr (some (770)))), (1, .inl (t))]) (st' := []) rfl ?_
      refine ez_less [(2, .inl (j + 1)), (0, .inr (.inr (some (770)))), (1, .inl (t))] rfl ⟨rfl, rfl, rfl, trivial⟩ ?_
      refine ih (j + 1) _ (by omega) (by omega) (by omega) hB14 (hf.put (mx_Pa t.toNat) _ _) (fun s => (ez_put_I (fun w => by omega)).trans (h82 s)) (fun i v hi hv => ?_)
      by_cases ei : (i : Int) = j
      · have e9 : i = j.toNat := by omega
        subst e9
        rw [w15, show qz_I g 796 (j).toNat = v from (c96 _).trans (a.2 _ v hv)]
        exact rz_rd (pr _ v hv)
      · rw [ez_put_I (fun w => by omega)]; exact hv9 i v (by omega) hv

theorem rd_mtk (hB : ez_B τ h) {t : Int} (hX : jz_X τ) (sl : slt h) (a : tm h l) (pr : ∀ (j : Nat) v, l[j]? = some v → ez_rg v) (ll : l.length ≤ 2000) (t0 : 0 ≤ t) (t7 : t ≤ 7) (k : ∀ g, ez_B τ g → mxf t.toNat h g → mx g t.toNat l → Q (.inl (some (ez_v (.inl (l.length : Int)))), g)) : ez_W d cm_302 0 [(0, .inr (.inr (some (770)))), (1, .inl (t))] [] h Q := by
  refine ez_go (n := 2) (pc' := 2) (L' := [(2, .inl (0)), (0, .inr (.inr (some (770)))), (1, .inl (t))]) (st' := []) rfl ?_
  refine ez_less [(2, .inl (0)), (0, .inr (.inr (some (770)))), (1, .inl (t))] rfl ⟨rfl, rfl, rfl, trivial⟩ ?_
  exact rd_mtk_l hX sl a pr ll t0 t7 k _ 0 h rfl (by omega) (by omega) hB (ez_fr.refl _ _) (fun _ => rfl) (fun i v hi => by omega)

end EzMr
/-! The model: the calls that make texts. (Written by wip/p2/py/pvt9.py.) -/
section EzMt
variable {d : Nat} {h : cz_H} {τ : Nat → Nat} {Q : cz_F → Prop} {X : Nat → List Int}
/-- the texts on one side -/
def mxs (h : cz_H) (X : Nat → List Int) : Prop := ∀ t, t < 8 → mx h t (X t) ∧ ptl (X t) ∧ (X t).length ≤ 2000
theorem mxs.k {g : cz_H} (m : mxs h X) (e : ∀ q, (774 ≤ q ∧ q ≤ 782) → g.2.2 q = h.2.2 q) : mxs g X := fun t ht => by
  obtain ⟨⟨a, b⟩, c⟩ := m t ht
  refine ⟨⟨?_, fun j v hv => ?_⟩, c⟩
  · unfold qz_I at a ⊢; rw [e 782 (by omega)]; exact a
  · have := b j v hv; unfold qz_I at this ⊢; rw [e _ (by omega)]; exact this
/-- one field more than before -/
theorem f7C {g : cz_H} {Ls : List vz} (c : nmC τ h Ls) (hB : ez_B τ g) (f : ez_fr (ez_one 770) h g) (i : ∀ j, j ≠ 0 → qz_I g 770 j = qz_I h 770 j) : nmC τ g Ls := by
  have t770 : τ 770 = 75 := c.1.2.1 770 (by decide)
  have tp := ez_tpq c.1.1 t770
  have td := ez_tdb c.1.1 t770
  have k : ∀ q, τ q ≠ 75 → g.2.2 q = h.2.2 q := fun q hq => f.2.2 q (dz_beq_ne (fun e => hq (by rw [e]; exact t770)))
  exact ⟨c.1.gen hB (fun _ _ => rfl) (fun q q0 => by rw [q0]; decide) (fun q hq => k q (by omega)) (fun j j1 j2 => i j (by omega)), c.2.1.tr hB (fun _ _ => rfl) (fun q q0 w => by omega) (fun j hj => i j (by omega)) (fun q hq => k q (by omega)), c.2.2.1.tr (fun j hj => i j (by omega)) (k _ (by omega)) (k _ (by omega)), c.2.2.2⟩
def mF (h g : cz_H) (c : Int) : Prop := ez_fr (ez_one 770) h g ∧ (∀ j, j ≠ 0 → qz_I g 770 j = qz_I h 770 j) ∧ qz_I g 770 0 = c
theorem mF.trans {h g k : cz_H} {c e : Int} (a : mF h g c) (b : mF g k e) : mF h k e := ⟨a.1.trans b.1, fun j hj => (b.2.1 j hj).trans (a.2.1 j hj), b.2.2⟩
theorem rd_mout {t : Int} (tr : ez_rg t) (k1 : t < 0 ∨ 7 < t → Q (.inl (some (ez_v (.inl 1))), h)) (k0 : 0 ≤ t ∧ t ≤ 7 → Q (.inl (some (ez_v (.inl 0))), h)) : ez_W d cm_286 0 [(0, .inr (.inr (some (770)))), (1, .inl (t))] [] h Q := by
  obtain ⟨tr1, tr2⟩ := tr
  refine ez_go (n := 1) (pc' := 1) (L' := [(0, .inr (.inr (some (770)))), (1, .inl (t))]) (st' := [.inl (t)]) rfl ?_
  refine ez_if rfl rfl ⟨by first | omega | exact (sz_i32 _).1, by first | omega | exact (sz_i32 _).2⟩ (fun (c1 : (t) < (0)) => ?_) (fun (c1 : ¬((t) < (0))) => ?_)
  · skip
    refine ez_go (n := 2) (pc' := 15) (L' := [(0, .inr (.inr (some (770)))), (1, .inl (t))]) (st' := [.inl (1)]) rfl ?_
    exact ez_retZ rfl rfl (by decide) (k1 (by omega))
  · skip
    refine ez_go (n := 2) (pc' := 7) (L' := [(0, .inr (.inr (some (770)))), (1, .inl (t))]) (st' := [.inl (7), .inl (t)]) rfl ?_
    refine ez_icmp rfl rfl ⟨by first | omega | exact (sz_i32 _).1, by first | omega | exact (sz_i32 _).2⟩ ⟨by first | omega | exact (sz_i32 _).1, by first | omega | exact (sz_i32 _).2⟩ (fun (c2 : (t) ≤ (7)) => ?_) (fun (c2 : ¬((t) ≤ (7))) => ?_)
    · skip
      refine ez_go (n := 1) (pc' := 15) (L' := [(0, .inr (.inr (some (770)))), (1, .inl (t))]) (st' := [.inl (0)]) rfl ?_
      exact ez_retZ rfl rfl (by decide) (k0 (by omega))
    · skip
      refine ez_go (n := 2) (pc' := 15) (L' := [(0, .inr (.inr (some (770)))), (1, .inl (t))]) (st' := [.inl (1)]) rfl ?_
      exact ez_retZ rfl rfl (by decide) (k1 (by omega))

theorem rd_mnormal {t u fm : Int} {Ls : List vz} (hB : ez_B τ h) (hX : jz_X τ) (c : qz_I h 770 7 ≠ 0 → nmC τ h Ls) (sl : slt h) (mxh : mxs h X) (tr : ez_rg t) (ur : ez_rg u) (fmr : ez_rg fm) (hr1 : h.1 + 1000 ≤ 600192) (hr2 : h.2.1 + 150000 ≤ 7302232) (kA : (t < 0 ∨ 7 < t ∨ u < 0 ∨ 7 < u ∨ fm < 0 ∨ 3 < fm) → ∀ g, ez_B τ g → mF h g 1 → Q (.inl (some (ez_v (.inl 0))), g)) (kS : ((0 ≤ t ∧ t ≤ 7) ∧ (0 ≤ u ∧ u ≤ 7) ∧ 0 ≤ fm ∧ fm ≤ 3) → qz_I h 770 7 = 0 → ∀ g, ez_B τ g → mF h g 2 → Q (.inl (some (ez_v (.inl 0))), g)) (kX : ((0 ≤ t ∧ t ≤ 7) ∧ (0 ≤ u ∧ u ≤ 7) ∧ 0 ≤ fm ∧ fm ≤ 3) → qz_I h 770 7 ≠ 0 → ∀ h1, ez_B τ h1 → mF h h1 0 → ∀ m, uz_FL (vF Ls) (decide (fm = 1 ∨ fm = 3)) (X u.toNat) m → 2000 < m.length → ∀ g2 τ2, ez_B τ2 g2 → nk τ h1 τ2 g2 → ∀ g, ez_B τ2 g → mF (xc g2 0) g 3 → Q (.inl (some (ez_v (.inl 0))), g)) (k1 : ((0 ≤ t ∧ t ≤ 7) ∧ (0 ≤ u ∧ u ≤ 7) ∧ 0 ≤ fm ∧ fm ≤ 3) → qz_I h 770 7 ≠ 0 → ∀ h1, ez_B τ h1 → mF h h1 0 → ∀ m res, uz_FL (vF Ls) (decide (fm = 1 ∨ fm = 3)) (X u.toNat) m → m.length ≤ 2000 → nfR (vF Ls) (vE Ls) fm m res → ptl res → ∀ g2 τ2, ez_B τ2 g2 → nk τ h1 τ2 g2 → tm g2 res → ∀ g, ez_B τ2 g → mxf t.toNat g2 g → mx g t.toNat res → Q (.inl (some (ez_v (.inl (res.length : Int)))), g)) : ez_W (d + 8) cm_282 0 [(0, .inr (.inr (some (770)))), (1, .inl (t)), (2, .inl (u)), (3, .inl (fm))] [] h Q := by
  have t770 : τ 770 = 75 := hX 770 (by decide)
  obtain ⟨tr1, tr2⟩ := id tr
  obtain ⟨ur1, ur2⟩ := id ur
  obtain ⟨fmr1, fmr2⟩ := id fmr
  refine ez_go (n := 2) (pc' := 2) (L' := [(0, .inr (.inr (some (770)))), (1, .inl (t)), (2, .inl (u)), (3, .inl (fm))]) (st' := [.inl (0), .inr (.inr (some (770)))]) rfl ?_
  refine ez_pf hB t770 rfl rfl tq_75 rfl rfl rfl rfl (ez_vdI rfl rfl (by omega) (by omega)) (fun hB1 w2 => ?_)
  have fP : ez_fr (ez_one 770) h (dz_put h 770 0 (ez_v (.inl (0)))) := (ez_fr.refl (ez_one 770) h).put rfl _ _
  have vP : qz_I (dz_put h 770 0 (ez_v (.inl (0)))) 770 0 = 0 := w2.trans (rz_rd ⟨by omega, by omega⟩)
  have iP : ∀ j, j ≠ 0 → qz_I (dz_put h 770 0 (ez_v (.inl (0)))) 770 j = qz_I h 770 j := fun j hj => ez_put_I (fun w => hj w.2)
  have hP := hB1
  generalize (dz_put h 770 0 (ez_v (.inl (0)))) = h1 at *
  have cP1 := fP.1; have cP2 := fP.2.1
  refine ez_go (n := 2) (pc' := 7) (L' := [(0, .inr (.inr (some (770)))), (1, .inl (t)), (2, .inl (u)), (3, .inl (fm))]) (st' := [.inl (t), .inr (.inr (some (770)))]) rfl ?_
  refine ez_cv hP t770 rfl rfl rfl tq_75 rfl rfl rfl (rd_mout (show ez_rg (t) by assumption) (fun o1 => ez_K1 ?_) (fun o1 => ez_K1 ?_))
  · skip
    refine ez_if rfl rfl ⟨by decide, by decide⟩ (fun _ => ?_) (fun (c3 : ¬((1 : Int) ≠ (0))) => absurd c3 (by decide))
    refine ez_go (n := 2) (pc' := 32) (L' := [(0, .inr (.inr (some (770)))), (1, .inl (t)), (2, .inl (u)), (3, .inl (fm))]) (st' := [.inl (1), .inr (.inr (some (770)))]) rfl ?_
    refine ez_cv hP t770 rfl rfl rfl tq_75 rfl rfl rfl (rd_mfail hP t770 (by omega) (by omega) (fun gf hBf ff jf vf0 => ez_K1 ?_))
    exact ez_retI rfl rfl (kA (by omega) gf hBf (mF.trans ⟨fP, iP, vP⟩ ⟨ff, jf, vf0⟩))
  · skip
    refine ez_if rfl rfl ⟨by decide, by decide⟩ (fun (c4 : (0 : Int) ≠ (0)) => absurd c4 (by decide)) (fun _ => ?_)
    refine ez_go (n := 2) (pc' := 15) (L' := [(0, .inr (.inr (some (770)))), (1, .inl (t)), (2, .inl (u)), (3, .inl (fm))]) (st' := [.inl (u), .inr (.inr (some (770)))]) rfl ?_
    refine ez_cv hP t770 rfl rfl rfl tq_75 rfl rfl rfl (rd_mout (show ez_rg (u) by assumption) (fun o2 => ez_K1 ?_) (fun o2 => ez_K1 ?_))
    · skip
      refine ez_if rfl rfl ⟨by decide, by decide⟩ (fun _ => ?_) (fun (c5 : ¬((1 : Int) ≠ (0))) => absurd c5 (by decide))
      refine ez_go (n := 2) (pc' := 32) (L' := [(0, .inr (.inr (some (770)))), (1, .inl (t)), (2, .inl (u)), (3, .inl (fm))]) (st' := [.inl (1), .inr (.inr (some (770)))]) rfl ?_
      refine ez_cv hP t770 rfl rfl rfl tq_75 rfl rfl rfl (rd_mfail hP t770 (by omega) (by omega) (fun gf hBf ff jf vf0 => ez_K1 ?_))
      exact ez_retI rfl rfl (kA (by omega) gf hBf (mF.trans ⟨fP, iP, vP⟩ ⟨ff, jf, vf0⟩))
    · skip
      refine ez_if rfl rfl ⟨by decide, by decide⟩ (fun (c6 : (0 : Int) ≠ (0)) => absurd c6 (by decide)) (fun _ => ?_)
      refine ez_go (n := 1) (pc' := 22) (L' := [(0, .inr (.inr (some (770)))), (1, .inl (t)), (2, .inl (u)), (3, .inl (fm))]) (st' := [.inl (fm)]) rfl ?_
      refine ez_if rfl rfl ⟨by first | omega | exact (sz_i32 _).1, by first | omega | exact (sz_i32 _).2⟩ (fun (c7 : (fm) < (0)) => ?_) (fun (c7 : ¬((fm) < (0))) => ?_)
      · skip
        refine ez_go (n := 2) (pc' := 32) (L' := [(0, .inr (.inr (some (770)))), (1, .inl (t)), (2, .inl (u)), (3, .inl (fm))]) (st' := [.inl (1), .inr (.inr (some (770)))]) rfl ?_
        refine ez_cv hP t770 rfl rfl rfl tq_75 rfl rfl rfl (rd_mfail hP t770 (by omega) (by omega) (fun gf hBf ff jf vf0 => ez_K1 ?_))
        exact ez_retI rfl rfl (kA (by omega) gf hBf (mF.trans ⟨fP, iP, vP⟩ ⟨ff, jf, vf0⟩))
      · skip
        refine ez_go (n := 2) (pc' := 27) (L' := [(0, .inr (.inr (some (770)))), (1, .inl (t)), (2, .inl (u)), (3, .inl (fm))]) (st' := [.inl (3), .inl (fm)]) rfl ?_
        refine ez_icmp rfl rfl ⟨by first | omega | exact (sz_i32 _).1, by first | omega | exact (sz_i32 _).2⟩ ⟨by first | omega | exact (sz_i32 _).1, by first | omega | exact (sz_i32 _).2⟩ (fun (c8 : (fm) ≤ (3)) => ?_) (fun (c8 : ¬((fm) ≤ (3))) => ?_)
        · skip
          refine ez_go (n := 1) (pc' := 37) (L' := [(0, .inr (.inr (some (770)))), (1, .inl (t)), (2, .inl (u)), (3, .inl (fm))]) (st' := [.inr (.inr (some (770)))]) rfl ?_
          refine ez_gI hP t770 rfl rfl tq_75 rfl rfl (fun (b9 : 0 ≤ qz_I h1 770 7) (b9' : qz_I h1 770 7 ≤ 1) => ?_)
          refine ez_if rfl rfl ⟨by first | omega | exact (sz_i32 _).1, by first | omega | exact (sz_i32 _).2⟩ (fun (c10 : (qz_I h1 770 7) ≠ (0)) => ?_) (fun (c10 : ¬((qz_I h1 770 7) ≠ (0))) => ?_)
          · skip
            have c1 := f7C (c (by rw [← iP 7 (by decide)]; assumption)) hP fP iP
            have k1P : ∀ q, q ≠ 770 → h1.2.2 q = h.2.2 q := fun q hq => fP.2.2 q (dz_beq_ne hq)
            have c73 : ∀ j, qz_I h1 773 j = qz_I h 773 j := fun j => by unfold qz_I; rw [k1P 773 (by decide)]
            have c82 : ∀ j, qz_I h1 782 j = qz_I h 782 j := fun j => by unfold qz_I; rw [k1P 782 (by decide)]
            have mx1 : mxs h1 X := mxh.k (fun q hq => k1P q (by omega))
            refine ez_go (n := 2) (pc' := 51) (L' := [(0, .inr (.inr (some (770)))), (1, .inl (t)), (2, .inl (u)), (3, .inl (fm))]) (st' := [.inr (.inr (some (770))), .inr (.inr (some (770)))]) rfl ?_
            refine ez_gC (p := 773) (tg := 78) hP t770 rfl rfl tq_75 rfl rfl (fun (t773 : _ = 78) => ?_)
            refine ez_go (n := 1) (pc' := 55) (L' := [(0, .inr (.inr (some (770)))), (1, .inl (t)), (2, .inl (u)), (3, .inl (fm))]) (st' := [.inl (u), .inr (.inr (some (773))), .inr (.inr (some (770)))]) rfl ?_
            have n12 : 8 ≤ qz_N h1 773 ∧ qz_N h1 773 ≤ 8 := ez_len hP t773 tq_78 rfl
            have y13 : 1 ≤ qz_I h1 773 (u).toNat ∧ qz_I h1 773 (u).toNat ≤ 1000000 := ez_aB hP t773 tq_78 rfl rfl (by decide) (by omega) (by omega)
            have y13' : ((qz_P h1 773 (u).toNat : Nat) : Int) + 1 = qz_I h1 773 (u).toNat := by unfold qz_P; omega
            refine ez_aR hP t773 rfl tq_78 rfl rfl (by omega) (by omega) (by omega) (fun (t11 : _ = 37) => ?_)
            rw [show qz_P h1 773 (u).toNat = 774 + (u).toNat by unfold qz_P; have := (sl (u).toNat (by omega)).2; rw [show qz_I h1 773 (u).toNat = qz_I h 773 (u).toNat from c73 _]; omega]
            refine ez_go (n := 1) (pc' := 57) (L' := [(0, .inr (.inr (some (770)))), (1, .inl (t)), (2, .inl (u)), (3, .inl (fm))]) (st' := [.inr (.inr (some (770))), .inr (.inr (some (774 + (u).toNat))), .inr (.inr (some (770)))]) rfl ?_
            refine ez_gC (p := 782) (tg := 79) hP t770 rfl rfl tq_75 rfl rfl (fun (t782 : _ = 79) => ?_)
            refine ez_go (n := 1) (pc' := 61) (L' := [(0, .inr (.inr (some (770)))), (1, .inl (t)), (2, .inl (u)), (3, .inl (fm))]) (st' := [.inl (u), .inr (.inr (some (782))), .inr (.inr (some (774 + (u).toNat))), .inr (.inr (some (770)))]) rfl ?_
            have n15 : 8 ≤ qz_N h1 782 ∧ qz_N h1 782 ≤ 8 := ez_len hP t782 tq_79 rfl
            refine ez_aI hP t782 rfl tq_79 rfl rfl (by omega) (by omega) (fun (b14 : 0 ≤ qz_I h1 782 (u).toNat) (b14' : qz_I h1 782 (u).toNat ≤ 2000) => ?_)
            rw [show qz_I h1 782 (u).toNat = ((X (u).toNat).length : Int) from (mx1 (u).toNat (by omega)).1.1]
            refine ez_go (n := 1) (pc' := 63) (L' := [(0, .inr (.inr (some (770)))), (1, .inl (t)), (2, .inl (u)), (3, .inl (fm))]) (st' := [.inl (fm), .inl (((X (u).toNat).length : Int)), .inr (.inr (some (774 + (u).toNat))), .inr (.inr (some (770)))]) rfl ?_
            have mu := mx1 (u).toNat (by omega)
            have rm0 := fP.1; have rm1 := fP.2.1
            refine ez_cv hP t770 rfl rfl rfl tq_75 rfl rfl rfl (rd_mnorm_s (u := X (u).toNat) c1 (mx_tag hX (show (u).toNat < 8 by omega)).1 rfl (by have := mu.2.2; omega) mu.1.2 mu.2.1 ⟨by omega, by omega⟩ (by omega) (by omega) (fun m res um lt nf pr g2 τ2 hB2 nk2 tm2 => ez_K0 ?_) (fun m um lt g2 τ2 hB2 nk2 => ez_Kc (xc_exc hB2 rfl) rfl ?_))
            · have u770 : τ2 770 = 75 := nk2.X hX 770 (by decide)
              refine ez_go (n := 3) (pc' := 79) (L' := [(0, .inr (.inr (some (770)))), (1, .inl (t)), (2, .inl (u)), (3, .inl (fm))]) (st' := [.inl (t), .inr (.inr (some (770)))]) rfl ?_
              have X2 := nk2.X hX
              have rl : res.length ≤ 2000 := by have := tm2.1; have : 0 ≤ qz_I g2 770 30 ∧ qz_I g2 770 30 ≤ 2000 := ez_fB (cl := 11) (k := 30) hB2 u770 tq_75 rfl rfl (by decide); omega
              have sl2 : slt g2 := fun s hs => by rw [show qz_I g2 195 s = qz_I h 195 s by unfold qz_I; rw [nk2.C hX (by rw [hX 195 (by decide)]; decide) (by rw [hX 195 (by decide)]; decide) (by rw [hX 195 (by decide)]; decide) (by rw [hX 195 (by decide)]; decide) (by rw [hX 195 (by decide)]; decide) (by rw [hX 195 (by decide)]; decide), fP.2.2 195 rfl], show qz_I g2 773 s = qz_I h 773 s by unfold qz_I; rw [nk2.C hX (by rw [hX 773 (by decide)]; decide) (by rw [hX 773 (by decide)]; decide) (by rw [hX 773 (by decide)]; decide) (by rw [hX 773 (by decide)]; decide) (by rw [hX 773 (by decide)]; decide) (by rw [hX 773 (by decide)]; decide), fP.2.2 773 rfl]]; exact sl s hs
              refine ez_cv hB2 u770 rfl rfl rfl tq_75 rfl rfl rfl (rd_mtk hB2 X2 sl2 tm2 (fun j v hv => ⟨by have := ptl_at pr hv; omega, by have := ptl_at pr hv; omega⟩) rl (by omega) (by omega) (fun g3 hB3 f3 mx3 => ez_K1 ?_))
              exact ez_retI rfl rfl (k1 (by omega) (by rw [← iP 7 (by decide)]; assumption) h1 hP ⟨fP, iP, vP⟩ m res um lt nf pr g2 τ2 hB2 nk2 tm2 g3 hB3 f3 mx3)
            · have u770 : τ2 770 = 75 := nk2.X hX 770 (by decide)
              have rm2 := nk2.rm c1.1.1 hB2 (hX 770 (by decide)) u770
              have hBx : ez_B τ2 (xc g2 0) := xc_B hB2 (by omega) (by omega)
              refine ez_go (n := 3) (pc' := 73) (L' := [(4, .inr (.inr (some (g2.1)))), (0, .inr (.inr (some (770)))), (1, .inl (t)), (2, .inl (u)), (3, .inl (fm))]) (st' := [.inl (3), .inr (.inr (some (770)))]) rfl ?_
              refine ez_cv hBx u770 rfl rfl rfl tq_75 rfl rfl rfl (rd_mfail hBx u770 (by omega) (by omega) (fun gf hBf ff jf vf0 => ez_K1 ?_))
              exact ez_retI rfl rfl (kX (by omega) (by rw [← iP 7 (by decide)]; assumption) h1 hP ⟨fP, iP, vP⟩ m um lt g2 τ2 hB2 nk2 gf hBf ⟨ff, jf, vf0⟩)
          · skip
            refine ez_go (n := 2) (pc' := 45) (L' := [(0, .inr (.inr (some (770)))), (1, .inl (t)), (2, .inl (u)), (3, .inl (fm))]) (st' := [.inl (2), .inr (.inr (some (770)))]) rfl ?_
            refine ez_cv hP t770 rfl rfl rfl tq_75 rfl rfl rfl (rd_mfail hP t770 (by omega) (by omega) (fun gf hBf ff jf vf0 => ez_K1 ?_))
            exact ez_retI rfl rfl (kS (by omega) (by rw [← iP 7 (by decide)]; omega) gf hBf (mF.trans ⟨fP, iP, vP⟩ ⟨ff, jf, vf0⟩))
        · skip
          refine ez_go (n := 2) (pc' := 32) (L' := [(0, .inr (.inr (some (770)))), (1, .inl (t)), (2, .inl (u)), (3, .inl (fm))]) (st' := [.inl (1), .inr (.inr (some (770)))]) rfl ?_
          refine ez_cv hP t770 rfl rfl rfl tq_75 rfl rfl rfl (rd_mfail hP t770 (by omega) (by omega) (fun gf hBf ff jf vf0 => ez_K1 ?_))
          exact ez_retI rfl rfl (kA (by omega) gf hBf (mF.trans ⟨fP, iP, vP⟩ ⟨ff, jf, vf0⟩))

theorem rd_mpart_l {t u i j : Int} (hX : jz_X τ) (sl : slt h) (mu : mx h u.toNat (X u.toNat) ∧ ptl (X u.toNat) ∧ (X u.toNat).length ≤ 2000) (t770 : τ 770 = 75) (u0 : 0 ≤ u ∧ u ≤ 7) (i0 : 0 ≤ i) (ij : i ≤ j) (jl : j ≤ ((X u.toNat).length : Int)) (kx : ∀ g, ez_B τ g → ez_fr (ez_one 796) h g → (∀ (n : Nat) v, (pt (X u.toNat) i j)[n]? = some v → qz_I g 796 n = v) → ez_W (d + 1) cm_287 82 [(0, .inr (.inr (some (770)))), (1, .inl (t)), (2, .inl (u)), (3, .inl (i)), (4, .inl (j))] [] g Q) : ∀ (m : Nat) (k : Int) (g : cz_H), m = (j - k).toNat → i ≤ k → k ≤ j → ez_B τ g → ez_fr (ez_one 796) h g → (∀ (n : Nat) v, (n : Int) < k - i → (pt (X u.toNat) i j)[n]? = some v → qz_I g 796 n = v) → ez_W (d + 1) cm_287 51 [(5, .inl (k)), (0, .inr (.inr (some (770)))), (1, .inl (t)), (2, .inl (u)), (3, .inl (i)), (4, .inl (j))] [] g Q := by
  have ml := mu.2.2
  intro m
  induction m with
  | zero =>
    intro k g hm k0 k1 hBg hf hv9
    have c73 : ∀ j, qz_I g 773 j = qz_I h 773 j := fun j => hf.I rfl j
    have cu : ∀ j, qz_I g (774 + (u).toNat) j = qz_I h (774 + (u).toNat) j := fun j => hf.I (dz_beq_ne (by omega)) j
    refine ez_go (n := 2) (pc' := 55) (L' := [(5, .inl (k)), (0, .inr (.inr (some (770)))), (1, .inl (t)), (2, .inl (u)), (3, .inl (i)), (4, .inl (j))]) (st' := [.inl (j), .inl (k)]) rfl ?_
    refine ez_icmp rfl rfl ⟨by first | omega | exact (sz_i32 _).1, by first | omega | exact (sz_i32 _).2⟩ ⟨by first | omega | exact (sz_i32 _).1, by first | omega | exact (sz_i32 _).2⟩ (fun (c1 : (j) ≤ (k)) => ?_) (fun (c1 : ¬((j) ≤ (k))) => ?_)
    · skip
      refine ez_less [(0, .inr (.inr (some (770)))), (1, .inl (t)), (2, .inl (u)), (3, .inl (i)), (4, .inl (j))] rfl ⟨rfl, rfl, rfl, rfl, rfl, trivial⟩ ?_
      exact kx g hBg hf (fun n v hv => hv9 n v (by have := (pt_at hv).1; omega) hv)
    · exfalso; omega
  | succ m ih =>
    intro k g hm k0 k1 hBg hf hv9
    have c73 : ∀ j, qz_I g 773 j = qz_I h 773 j := fun j => hf.I rfl j
    have cu : ∀ j, qz_I g (774 + (u).toNat) j = qz_I h (774 + (u).toNat) j := fun j => hf.I (dz_beq_ne (by omega)) j
    refine ez_go (n := 2) (pc' := 55) (L' := [(5, .inl (k)), (0, .inr (.inr (some (770)))), (1, .inl (t)), (2, .inl (u)), (3, .inl (i)), (4, .inl (j))]) (st' := [.inl (j), .inl (k)]) rfl ?_
    refine ez_icmp rfl rfl ⟨by first | omega | exact (sz_i32 _).1, by first | omega | exact (sz_i32 _).2⟩ ⟨by first | omega | exact (sz_i32 _).1, by first | omega | exact (sz_i32 _).2⟩ (fun (c1 : (j) ≤ (k)) => ?_) (fun (c1 : ¬((j) ≤ (k))) => ?_)
    · exfalso; omega
    · skip
      refine ez_go (n := 1) (pc' := 59) (L' := [(5, .inl (k)), (0, .inr (.inr (some (770)))), (1, .inl (t)), (2, .inl (u)), (3, .inl (i)), (4, .inl (j))]) (st' := [.inr (.inr (some (770)))]) rfl ?_
      refine ez_gC (p := 796) (tg := 83) hBg t770 rfl rfl tq_75 rfl rfl (fun (t796 : _ = 83) => ?_)
      refine ez_go (n := 4) (pc' := 67) (L' := [(5, .inl (k)), (0, .inr (.inr (some (770)))), (1, .inl (t)), (2, .inl (u)), (3, .inl (i)), (4, .inl (j))]) (st' := [.inr (.inr (some (770))), .inl ((k) - (i)), .inr (.inr (some (796)))]) rfl ?_
      refine ez_gC (p := 773) (tg := 78) hBg t770 rfl rfl tq_75 rfl rfl (fun (t773 : _ = 78) => ?_)
      refine ez_go (n := 1) (pc' := 71) (L' := [(5, .inl (k)), (0, .inr (.inr (some (770)))), (1, .inl (t)), (2, .inl (u)), (3, .inl (i)), (4, .inl (j))]) (st' := [.inl (u), .inr (.inr (some (773))), .inl ((k) - (i)), .inr (.inr (some (796)))]) rfl ?_
      have n3 : 8 ≤ qz_N g 773 ∧ qz_N g 773 ≤ 8 := ez_len hBg t773 tq_78 rfl
      have y4 : 1 ≤ qz_I g 773 (u).toNat := (by have := (sl u.toNat (by omega)).2; rw [c73]; omega)
      have y5 : 1 ≤ qz_I g 773 (u).toNat ∧ qz_I g 773 (u).toNat ≤ 1000000 := ez_aB hBg t773 tq_78 rfl rfl (by decide) (by omega) (by omega)
      have y5' : ((qz_P g 773 (u).toNat : Nat) : Int) + 1 = qz_I g 773 (u).toNat := by unfold qz_P; omega
      refine ez_aR hBg t773 rfl tq_78 rfl rfl (by omega) (by omega) (by omega) (fun (t2 : _ = 37) => ?_)
      rw [show qz_P g 773 (u).toNat = 774 + (u).toNat by unfold qz_P; have := (sl (u).toNat (by omega)).2; rw [show qz_I g 773 (u).toNat = qz_I h 773 (u).toNat from c73 _]; omega]
      refine ez_go (n := 1) (pc' := 74) (L' := [(5, .inl (k)), (0, .inr (.inr (some (770)))), (1, .inl (t)), (2, .inl (u)), (3, .inl (i)), (4, .inl (j))]) (st' := [.inl (k), .inr (.inr (some (774 + (u).toNat))), .inl ((k) - (i)), .inr (.inr (some (796)))]) rfl ?_
      have n7 : 2000 ≤ qz_N g (774 + (u).toNat) ∧ qz_N g (774 + (u).toNat) ≤ 2000 := ez_len hBg (mx_tag hX (show (u).toNat < 8 by omega)).1 tq_37 rfl
      refine ez_aI hBg (mx_tag hX (show (u).toNat < 8 by omega)).1 rfl tq_37 rfl rfl (by omega) (by omega) (fun (b6 : -2147483648 ≤ qz_I g (774 + (u).toNat) (k).toNat) (b6' : qz_I g (774 + (u).toNat) (k).toNat ≤ 2147483647) => ?_)
      have n10 : 2000 ≤ qz_N g 796 ∧ qz_N g 796 ≤ 2000 := ez_len hBg t796 tq_83 rfl
      refine ez_as hBg t796 rfl tq_83 rfl rfl (by omega) (by omega) (ez_vdI rfl rfl (by omega) (by omega)) (fun hB8 w9 => ?_)
      refine ez_go (n := 2) (pc' := 51) (L' := [(5, .inl (k + 1)), (0, .inr (.inr (some (770)))), (1, .inl (t)), (2, .inl (u)), (3, .inl (i)), (4, .inl (j))]) (st' := []) rfl ?_
      refine ez_less [(5, .inl (k + 1)), (0, .inr (.inr (some (770)))), (1, .inl (t)), (2, .inl (u)), (3, .inl (i)), (4, .inl (j))] rfl ⟨rfl, rfl, rfl, rfl, rfl, rfl, trivial⟩ ?_
      refine ih (k + 1) _ (by omega) (by omega) (by omega) hB8 (hf.put (show Nat.beq 796 796 = true from rfl) _ _) (fun n v hn hv => ?_)
      obtain ⟨p1, p2⟩ := pt_at hv
      by_cases en : (n : Int) = k - i
      · rw [show n = (k - i).toNat by omega, w9]
        have e9 : qz_I g (774 + (u).toNat) (k).toNat = v := by rw [cu, show (k).toNat = i.toNat + n by omega]; exact mu.1.2 _ v p2
        rw [e9]; exact rz_rd ⟨by have := ptl_at mu.2.1 p2; omega, by have := ptl_at mu.2.1 p2; omega⟩
      · rw [ez_put_I (fun w => by omega)]; exact hv9 n v (by omega) hv

theorem rd_mpart {t u i j : Int} (hB : ez_B τ h) (hX : jz_X τ) (sl : slt h) (mxh : mxs h X) (tr : ez_rg t) (ur : ez_rg u) (ir : ez_rg i) (jr : ez_rg j) (kA : (t < 0 ∨ 7 < t ∨ u < 0 ∨ 7 < u ∨ i < 0 ∨ j < i ∨ ((X u.toNat).length : Int) < j) → ∀ g, ez_B τ g → mF h g 1 → Q (.inl (some (ez_v (.inl 0))), g)) (k1 : ((0 ≤ t ∧ t ≤ 7) ∧ (0 ≤ u ∧ u ≤ 7) ∧ 0 ≤ i ∧ i ≤ j ∧ j ≤ ((X u.toNat).length : Int)) → ∀ h1, ez_B τ h1 → mF h h1 0 → ∀ g2, ez_B τ g2 → ez_fr (nz_PL 796) h1 g2 → (∀ j, j ≠ 30 → qz_I g2 770 j = qz_I h1 770 j) → ∀ g, ez_B τ g → mxf t.toNat g2 g → mx g t.toNat (pt (X u.toNat) i j) → Q (.inl (some (ez_v (.inl ((pt (X u.toNat) i j).length : Int)))), g)) : ez_W (d + 2) cm_287 0 [(0, .inr (.inr (some (770)))), (1, .inl (t)), (2, .inl (u)), (3, .inl (i)), (4, .inl (j))] [] h Q := by
  have t770 : τ 770 = 75 := hX 770 (by decide)
  obtain ⟨tr1, tr2⟩ := id tr
  obtain ⟨ur1, ur2⟩ := id ur
  obtain ⟨ir1, ir2⟩ := id ir
  obtain ⟨jr1, jr2⟩ := id jr
  refine ez_go (n := 2) (pc' := 2) (L' := [(0, .inr (.inr (some (770)))), (1, .inl (t)), (2, .inl (u)), (3, .inl (i)), (4, .inl (j))]) (st' := [.inl (0), .inr (.inr (some (770)))]) rfl ?_
  refine ez_pf hB t770 rfl rfl tq_75 rfl rfl rfl rfl (ez_vdI rfl rfl (by omega) (by omega)) (fun hB1 w2 => ?_)
  have fP : ez_fr (ez_one 770) h (dz_put h 770 0 (ez_v (.inl (0)))) := (ez_fr.refl (ez_one 770) h).put rfl _ _
  have vP : qz_I (dz_put h 770 0 (ez_v (.inl (0)))) 770 0 = 0 := w2.trans (rz_rd ⟨by omega, by omega⟩)
  have iP : ∀ j, j ≠ 0 → qz_I (dz_put h 770 0 (ez_v (.inl (0)))) 770 j = qz_I h 770 j := fun j hj => ez_put_I (fun w => hj w.2)
  have hP := hB1
  generalize (dz_put h 770 0 (ez_v (.inl (0)))) = h1 at *
  have cP1 := fP.1; have cP2 := fP.2.1
  refine ez_go (n := 2) (pc' := 7) (L' := [(0, .inr (.inr (some (770)))), (1, .inl (t)), (2, .inl (u)), (3, .inl (i)), (4, .inl (j))]) (st' := [.inl (t), .inr (.inr (some (770)))]) rfl ?_
  refine ez_cv hP t770 rfl rfl rfl tq_75 rfl rfl rfl (rd_mout (show ez_rg (t) by assumption) (fun o3 => ez_K1 ?_) (fun o3 => ez_K1 ?_))
  · skip
    refine ez_if rfl rfl ⟨by decide, by decide⟩ (fun _ => ?_) (fun (c3 : ¬((1 : Int) ≠ (0))) => absurd c3 (by decide))
    refine ez_go (n := 2) (pc' := 44) (L' := [(0, .inr (.inr (some (770)))), (1, .inl (t)), (2, .inl (u)), (3, .inl (i)), (4, .inl (j))]) (st' := [.inl (1), .inr (.inr (some (770)))]) rfl ?_
    refine ez_cv hP t770 rfl rfl rfl tq_75 rfl rfl rfl (rd_mfail hP t770 (by omega) (by omega) (fun gf hBf ff jf vf0 => ez_K1 ?_))
    exact ez_retI rfl rfl (kA (by omega) gf hBf (mF.trans ⟨fP, iP, vP⟩ ⟨ff, jf, vf0⟩))
  · skip
    refine ez_if rfl rfl ⟨by decide, by decide⟩ (fun (c4 : (0 : Int) ≠ (0)) => absurd c4 (by decide)) (fun _ => ?_)
    refine ez_go (n := 2) (pc' := 15) (L' := [(0, .inr (.inr (some (770)))), (1, .inl (t)), (2, .inl (u)), (3, .inl (i)), (4, .inl (j))]) (st' := [.inl (u), .inr (.inr (some (770)))]) rfl ?_
    refine ez_cv hP t770 rfl rfl rfl tq_75 rfl rfl rfl (rd_mout (show ez_rg (u) by assumption) (fun o4 => ez_K1 ?_) (fun o4 => ez_K1 ?_))
    · skip
      refine ez_if rfl rfl ⟨by decide, by decide⟩ (fun _ => ?_) (fun (c5 : ¬((1 : Int) ≠ (0))) => absurd c5 (by decide))
      refine ez_go (n := 2) (pc' := 44) (L' := [(0, .inr (.inr (some (770)))), (1, .inl (t)), (2, .inl (u)), (3, .inl (i)), (4, .inl (j))]) (st' := [.inl (1), .inr (.inr (some (770)))]) rfl ?_
      refine ez_cv hP t770 rfl rfl rfl tq_75 rfl rfl rfl (rd_mfail hP t770 (by omega) (by omega) (fun gf hBf ff jf vf0 => ez_K1 ?_))
      exact ez_retI rfl rfl (kA (by omega) gf hBf (mF.trans ⟨fP, iP, vP⟩ ⟨ff, jf, vf0⟩))
    · skip
      refine ez_if rfl rfl ⟨by decide, by decide⟩ (fun (c6 : (0 : Int) ≠ (0)) => absurd c6 (by decide)) (fun _ => ?_)
      refine ez_go (n := 1) (pc' := 22) (L' := [(0, .inr (.inr (some (770)))), (1, .inl (t)), (2, .inl (u)), (3, .inl (i)), (4, .inl (j))]) (st' := [.inl (i)]) rfl ?_
      refine ez_if rfl rfl ⟨by first | omega | exact (sz_i32 _).1, by first | omega | exact (sz_i32 _).2⟩ (fun (c7 : (i) < (0)) => ?_) (fun (c7 : ¬((i) < (0))) => ?_)
      · skip
        refine ez_go (n := 2) (pc' := 44) (L' := [(0, .inr (.inr (some (770)))), (1, .inl (t)), (2, .inl (u)), (3, .inl (i)), (4, .inl (j))]) (st' := [.inl (1), .inr (.inr (some (770)))]) rfl ?_
        refine ez_cv hP t770 rfl rfl rfl tq_75 rfl rfl rfl (rd_mfail hP t770 (by omega) (by omega) (fun gf hBf ff jf vf0 => ez_K1 ?_))
        exact ez_retI rfl rfl (kA (by omega) gf hBf (mF.trans ⟨fP, iP, vP⟩ ⟨ff, jf, vf0⟩))
      · skip
        refine ez_go (n := 2) (pc' := 28) (L' := [(0, .inr (.inr (some (770)))), (1, .inl (t)), (2, .inl (u)), (3, .inl (i)), (4, .inl (j))]) (st' := [.inl (i), .inl (j)]) rfl ?_
        refine ez_icmp rfl rfl ⟨by first | omega | exact (sz_i32 _).1, by first | omega | exact (sz_i32 _).2⟩ ⟨by first | omega | exact (sz_i32 _).1, by first | omega | exact (sz_i32 _).2⟩ (fun (c8 : (j) < (i)) => ?_) (fun (c8 : ¬((j) < (i))) => ?_)
        · skip
          refine ez_go (n := 2) (pc' := 44) (L' := [(0, .inr (.inr (some (770)))), (1, .inl (t)), (2, .inl (u)), (3, .inl (i)), (4, .inl (j))]) (st' := [.inl (1), .inr (.inr (some (770)))]) rfl ?_
          refine ez_cv hP t770 rfl rfl rfl tq_75 rfl rfl rfl (rd_mfail hP t770 (by omega) (by omega) (fun gf hBf ff jf vf0 => ez_K1 ?_))
          exact ez_retI rfl rfl (kA (by omega) gf hBf (mF.trans ⟨fP, iP, vP⟩ ⟨ff, jf, vf0⟩))
        · skip
          refine ez_go (n := 2) (pc' := 34) (L' := [(0, .inr (.inr (some (770)))), (1, .inl (t)), (2, .inl (u)), (3, .inl (i)), (4, .inl (j))]) (st' := [.inr (.inr (some (770))), .inl (j)]) rfl ?_
          refine ez_gC (p := 782) (tg := 79) hP t770 rfl rfl tq_75 rfl rfl (fun (t782 : _ = 79) => ?_)
          have c82 : ∀ j, qz_I h1 782 j = qz_I h 782 j := fun j => fP.I rfl j
          refine ez_go (n := 1) (pc' := 38) (L' := [(0, .inr (.inr (some (770)))), (1, .inl (t)), (2, .inl (u)), (3, .inl (i)), (4, .inl (j))]) (st' := [.inl (u), .inr (.inr (some (782))), .inl (j)]) rfl ?_
          have n10 : 8 ≤ qz_N h1 782 ∧ qz_N h1 782 ≤ 8 := ez_len hP t782 tq_79 rfl
          refine ez_aI hP t782 rfl tq_79 rfl rfl (by omega) (by omega) (fun (b9 : 0 ≤ qz_I h1 782 (u).toNat) (b9' : qz_I h1 782 (u).toNat ≤ 2000) => ?_)
          have mu := mxh (u).toNat (by omega)
          rw [show qz_I h1 782 (u).toNat = ((X (u).toNat).length : Int) from (c82 _).trans mu.1.1]
          refine ez_icmp rfl rfl ⟨by first | omega | exact (sz_i32 _).1, by first | omega | exact (sz_i32 _).2⟩ ⟨by first | omega | exact (sz_i32 _).1, by first | omega | exact (sz_i32 _).2⟩ (fun (c11 : (j) ≤ (((X (u).toNat).length : Int))) => ?_) (fun (c11 : ¬((j) ≤ (((X (u).toNat).length : Int)))) => ?_)
          · skip
            refine ez_go (n := 2) (pc' := 51) (L' := [(5, .inl (i)), (0, .inr (.inr (some (770)))), (1, .inl (t)), (2, .inl (u)), (3, .inl (i)), (4, .inl (j))]) (st' := []) rfl ?_
            refine ez_less [(5, .inl (i)), (0, .inr (.inr (some (770)))), (1, .inl (t)), (2, .inl (u)), (3, .inl (i)), (4, .inl (j))] rfl ⟨rfl, rfl, rfl, rfl, rfl, rfl, trivial⟩ ?_
            have k1P : ∀ q, q ≠ 770 → h1.2.2 q = h.2.2 q := fun q hq => fP.2.2 q (dz_beq_ne hq)
            have mx1 : mxs h1 X := mxh.k (fun q hq => k1P q (by omega))
            have sl1 : slt h1 := fun s hs => by unfold qz_I; rw [k1P 195 (by decide), k1P 773 (by decide)]; exact sl s hs
            have mu1 := mx1 (u).toNat (by omega)
            refine rd_mpart_l (h := h1) hX sl1 mu1 t770 ⟨by omega, by omega⟩ (by omega) (by omega) (by omega) (fun g2 hB2 f2 v2 => ?_) _ i h1 rfl (by omega) (by omega) hP (ez_fr.refl _ _) (fun n v hn => by omega)
            have ml := mu1.2.2
            refine ez_go (n := 4) (pc' := 87) (L' := [(0, .inr (.inr (some (770)))), (1, .inl (t)), (2, .inl (u)), (3, .inl (i)), (4, .inl (j))]) (st' := [.inl ((j) - (i)), .inr (.inr (some (770)))]) rfl ?_
            refine ez_pf hB2 t770 rfl rfl tq_75 rfl rfl rfl rfl (ez_vdI rfl rfl (by omega) (by omega)) (fun hB12 w13 => ?_)
            have pl9 := pt_len (l := X (u).toNat) (i := i) (j := j) (by omega) (by omega) (by omega)
            have tm3 : tm (dz_put g2 770 30 (ez_v (.inl ((j) - (i))))) (pt (X (u).toNat) i j) := ⟨by rw [w13, pl9]; exact rz_rd ⟨by omega, by omega⟩, fun n v hv => by rw [ez_put_I (fun w => absurd w.1 (by decide))]; exact v2 n v hv⟩
            have i3 : ∀ jj, jj ≠ 30 → qz_I (dz_put g2 770 30 (ez_v (.inl ((j) - (i))))) 770 jj = qz_I h1 770 jj := fun jj hj => by rw [ez_put_I (fun w => hj w.2)]; exact f2.I rfl jj
            have f3 : ez_fr (nz_PL 796) h1 (dz_put g2 770 30 (ez_v (.inl ((j) - (i))))) := (ez_fr_mono f2 (fun z hz => by unfold ez_one at hz; rw [Nat.eq_of_beq_eq_true hz]; rfl)).put (show nz_PL 796 770 = true from rfl) _ _
            have hB3 := hB12
            generalize (dz_put g2 770 30 (ez_v (.inl ((j) - (i))))) = g3 at *
            refine ez_go (n := 2) (pc' := 92) (L' := [(0, .inr (.inr (some (770)))), (1, .inl (t)), (2, .inl (u)), (3, .inl (i)), (4, .inl (j))]) (st' := [.inl (t), .inr (.inr (some (770)))]) rfl ?_
            have pp9 := pt_ptl (i := i) (j := j) mu1.2.1
            have sl3 : slt g3 := fun s hs => by unfold qz_I; rw [f3.2.2 195 rfl, f3.2.2 773 rfl]; exact sl1 s hs
            refine ez_cv hB3 t770 rfl rfl rfl tq_75 rfl rfl rfl (rd_mtk hB3 hX sl3 tm3 (fun n v hv => ⟨by have := ptl_at pp9 hv; omega, by have := ptl_at pp9 hv; omega⟩) (by omega) (by omega) (by omega) (fun g4 hB4 f4 mx4 => ez_K1 ?_))
            exact ez_retI rfl rfl (k1 ⟨by omega, by omega, by omega, by omega, by omega⟩ h1 hP ⟨fP, iP, vP⟩ g3 hB3 f3 i3 g4 hB4 f4 mx4)
          · skip
            refine ez_go (n := 2) (pc' := 44) (L' := [(0, .inr (.inr (some (770)))), (1, .inl (t)), (2, .inl (u)), (3, .inl (i)), (4, .inl (j))]) (st' := [.inl (1), .inr (.inr (some (770)))]) rfl ?_
            refine ez_cv hP t770 rfl rfl rfl tq_75 rfl rfl rfl (rd_mfail hP t770 (by omega) (by omega) (fun gf hBf ff jf vf0 => ez_K1 ?_))
            exact ez_retI rfl rfl (kA (by omega) gf hBf (mF.trans ⟨fP, iP, vP⟩ ⟨ff, jf, vf0⟩))

theorem rd_madd {t p : Int} (hB : ez_B τ h) (hX : jz_X τ) (sl : slt h) (mxh : mxs h X) (tr : ez_rg t) (pr : ez_rg p) (kA : (t < 0 ∨ 7 < t ∨ p < 0 ∨ 1114111 < p) → ∀ g, ez_B τ g → mF h g 1 → Q (.inl (some (ez_v (.inl 0))), g)) (kB : ((0 ≤ t ∧ t ≤ 7) ∧ 0 ≤ p ∧ p ≤ 1114111) → (X t.toNat).length = 2000 → ∀ g, ez_B τ g → mF h g 2 → Q (.inl (some (ez_v (.inl 0))), g)) (k1 : ((0 ≤ t ∧ t ≤ 7) ∧ 0 ≤ p ∧ p ≤ 1114111) → (X t.toNat).length < 2000 → ∀ h1, ez_B τ h1 → mF h h1 0 → ∀ g, ez_B τ g → mxf t.toNat h1 g → mx g t.toNat (X t.toNat ++ [p]) → Q (.inl (some (ez_v (.inl (((X t.toNat).length : Int) + 1)))), g)) : ez_W (d + 1) cm_217 0 [(0, .inr (.inr (some (770)))), (1, .inl (t)), (2, .inl (p))] [] h Q := by
  have t770 : τ 770 = 75 := hX 770 (by decide)
  obtain ⟨tr1, tr2⟩ := id tr
  obtain ⟨pr1, pr2⟩ := id pr
  refine ez_go (n := 2) (pc' := 2) (L' := [(0, .inr (.inr (some (770)))), (1, .inl (t)), (2, .inl (p))]) (st' := [.inl (0), .inr (.inr (some (770)))]) rfl ?_
  refine ez_pf hB t770 rfl rfl tq_75 rfl rfl rfl rfl (ez_vdI rfl rfl (by omega) (by omega)) (fun hB1 w2 => ?_)
  have fP : ez_fr (ez_one 770) h (dz_put h 770 0 (ez_v (.inl (0)))) := (ez_fr.refl (ez_one 770) h).put rfl _ _
  have vP : qz_I (dz_put h 770 0 (ez_v (.inl (0)))) 770 0 = 0 := w2.trans (rz_rd ⟨by omega, by omega⟩)
  have iP : ∀ j, j ≠ 0 → qz_I (dz_put h 770 0 (ez_v (.inl (0)))) 770 j = qz_I h 770 j := fun j hj => ez_put_I (fun w => hj w.2)
  have hP := hB1
  generalize (dz_put h 770 0 (ez_v (.inl (0)))) = h1 at *
  have cP1 := fP.1; have cP2 := fP.2.1
  refine ez_go (n := 2) (pc' := 7) (L' := [(0, .inr (.inr (some (770)))), (1, .inl (t)), (2, .inl (p))]) (st' := [.inl (t), .inr (.inr (some (770)))]) rfl ?_
  refine ez_cv hP t770 rfl rfl rfl tq_75 rfl rfl rfl (rd_mout (show ez_rg (t) by assumption) (fun o5 => ez_K1 ?_) (fun o5 => ez_K1 ?_))
  · skip
    refine ez_if rfl rfl ⟨by decide, by decide⟩ (fun _ => ?_) (fun (c3 : ¬((1 : Int) ≠ (0))) => absurd c3 (by decide))
    refine ez_go (n := 2) (pc' := 25) (L' := [(0, .inr (.inr (some (770)))), (1, .inl (t)), (2, .inl (p))]) (st' := [.inl (1), .inr (.inr (some (770)))]) rfl ?_
    refine ez_cv hP t770 rfl rfl rfl tq_75 rfl rfl rfl (rd_mfail hP t770 (by omega) (by omega) (fun gf hBf ff jf vf0 => ez_K1 ?_))
    exact ez_retI rfl rfl (kA (by omega) gf hBf (mF.trans ⟨fP, iP, vP⟩ ⟨ff, jf, vf0⟩))
  · skip
    refine ez_if rfl rfl ⟨by decide, by decide⟩ (fun (c4 : (0 : Int) ≠ (0)) => absurd c4 (by decide)) (fun _ => ?_)
    refine ez_go (n := 1) (pc' := 14) (L' := [(0, .inr (.inr (some (770)))), (1, .inl (t)), (2, .inl (p))]) (st' := [.inl (p)]) rfl ?_
    refine ez_if rfl rfl ⟨by first | omega | exact (sz_i32 _).1, by first | omega | exact (sz_i32 _).2⟩ (fun (c5 : (p) < (0)) => ?_) (fun (c5 : ¬((p) < (0))) => ?_)
    · skip
      refine ez_go (n := 2) (pc' := 25) (L' := [(0, .inr (.inr (some (770)))), (1, .inl (t)), (2, .inl (p))]) (st' := [.inl (1), .inr (.inr (some (770)))]) rfl ?_
      refine ez_cv hP t770 rfl rfl rfl tq_75 rfl rfl rfl (rd_mfail hP t770 (by omega) (by omega) (fun gf hBf ff jf vf0 => ez_K1 ?_))
      exact ez_retI rfl rfl (kA (by omega) gf hBf (mF.trans ⟨fP, iP, vP⟩ ⟨ff, jf, vf0⟩))
    · skip
      refine ez_go (n := 1) (pc' := 18) (L' := [(0, .inr (.inr (some (770)))), (1, .inl (t)), (2, .inl (p))]) (st' := [.inl (p)]) rfl ?_
      refine ez_ldc (1114111) rfl rfl rfl ?_
      refine ez_icmp rfl rfl ⟨by first | omega | exact (sz_i32 _).1, by first | omega | exact (sz_i32 _).2⟩ ⟨by first | omega | exact (sz_i32 _).1, by first | omega | exact (sz_i32 _).2⟩ (fun (c6 : (p) ≤ (1114111)) => ?_) (fun (c6 : ¬((p) ≤ (1114111))) => ?_)
      · skip
        refine ez_go (n := 1) (pc' := 30) (L' := [(0, .inr (.inr (some (770)))), (1, .inl (t)), (2, .inl (p))]) (st' := [.inr (.inr (some (770)))]) rfl ?_
        refine ez_gC (p := 782) (tg := 79) hP t770 rfl rfl tq_75 rfl rfl (fun (t782 : _ = 79) => ?_)
        have k1P : ∀ q, q ≠ 770 → h1.2.2 q = h.2.2 q := fun q hq => fP.2.2 q (dz_beq_ne hq)
        have c73 : ∀ j, qz_I h1 773 j = qz_I h 773 j := fun j => fP.I rfl j
        have mx1 : mxs h1 X := mxh.k (fun q hq => k1P q (by omega))
        refine ez_go (n := 1) (pc' := 34) (L' := [(0, .inr (.inr (some (770)))), (1, .inl (t)), (2, .inl (p))]) (st' := [.inl (t), .inr (.inr (some (782)))]) rfl ?_
        have n8 : 8 ≤ qz_N h1 782 ∧ qz_N h1 782 ≤ 8 := ez_len hP t782 tq_79 rfl
        refine ez_aI hP t782 rfl tq_79 rfl rfl (by omega) (by omega) (fun (b7 : 0 ≤ qz_I h1 782 (t).toNat) (b7' : qz_I h1 782 (t).toNat ≤ 2000) => ?_)
        have mt := mx1 (t).toNat (by omega)
        have mtl := mt.1.1; have mt2 := mt.2.2
        rw [show qz_I h1 782 (t).toNat = ((X (t).toNat).length : Int) from mt.1.1]
        refine ez_go (n := 1) (pc' := 38) (L' := [(0, .inr (.inr (some (770)))), (1, .inl (t)), (2, .inl (p))]) (st' := [.inl (2000), .inl (((X (t).toNat).length : Int))]) rfl ?_
        refine ez_icmp rfl rfl ⟨by first | omega | exact (sz_i32 _).1, by first | omega | exact (sz_i32 _).2⟩ ⟨by first | omega | exact (sz_i32 _).1, by first | omega | exact (sz_i32 _).2⟩ (fun (c9 : (((X (t).toNat).length : Int)) ≠ (2000)) => ?_) (fun (c9 : ¬((((X (t).toNat).length : Int)) ≠ (2000))) => ?_)
        · skip
          refine ez_go (n := 1) (pc' := 48) (L' := [(0, .inr (.inr (some (770)))), (1, .inl (t)), (2, .inl (p))]) (st' := [.inr (.inr (some (770)))]) rfl ?_
          refine ez_gC (p := 773) (tg := 78) hP t770 rfl rfl tq_75 rfl rfl (fun (t773 : _ = 78) => ?_)
          refine ez_go (n := 1) (pc' := 52) (L' := [(0, .inr (.inr (some (770)))), (1, .inl (t)), (2, .inl (p))]) (st' := [.inl (t), .inr (.inr (some (773)))]) rfl ?_
          have n11 : 8 ≤ qz_N h1 773 ∧ qz_N h1 773 ≤ 8 := ez_len hP t773 tq_78 rfl
          have y12 : 1 ≤ qz_I h1 773 (t).toNat := (by have := (sl t.toNat (by omega)).2; rw [c73]; omega)
          have y13 : 1 ≤ qz_I h1 773 (t).toNat ∧ qz_I h1 773 (t).toNat ≤ 1000000 := ez_aB hP t773 tq_78 rfl rfl (by decide) (by omega) (by omega)
          have y13' : ((qz_P h1 773 (t).toNat : Nat) : Int) + 1 = qz_I h1 773 (t).toNat := by unfold qz_P; omega
          refine ez_aR hP t773 rfl tq_78 rfl rfl (by omega) (by omega) (by omega) (fun (t10 : _ = 37) => ?_)
          rw [show qz_P h1 773 (t).toNat = 774 + (t).toNat by unfold qz_P; have := (sl (t).toNat (by omega)).2; rw [show qz_I h1 773 (t).toNat = qz_I h 773 (t).toNat from c73 _]; omega]
          refine ez_go (n := 1) (pc' := 54) (L' := [(0, .inr (.inr (some (770)))), (1, .inl (t)), (2, .inl (p))]) (st' := [.inr (.inr (some (770))), .inr (.inr (some (774 + (t).toNat)))]) rfl ?_
          refine ez_gC (p := 782) (tg := 79) hP t770 rfl rfl tq_75 rfl rfl (fun (t782 : _ = 79) => ?_)
          refine ez_go (n := 1) (pc' := 58) (L' := [(0, .inr (.inr (some (770)))), (1, .inl (t)), (2, .inl (p))]) (st' := [.inl (t), .inr (.inr (some (782))), .inr (.inr (some (774 + (t).toNat)))]) rfl ?_
          have n15 : 8 ≤ qz_N h1 782 ∧ qz_N h1 782 ≤ 8 := ez_len hP t782 tq_79 rfl
          refine ez_aI hP t782 rfl tq_79 rfl rfl (by omega) (by omega) (fun (b14 : 0 ≤ qz_I h1 782 (t).toNat) (b14' : qz_I h1 782 (t).toNat ≤ 2000) => ?_)
          rw [show qz_I h1 782 (t).toNat = ((X (t).toNat).length : Int) from mt.1.1]
          refine ez_go (n := 1) (pc' := 60) (L' := [(0, .inr (.inr (some (770)))), (1, .inl (t)), (2, .inl (p))]) (st' := [.inl (p), .inl (((X (t).toNat).length : Int)), .inr (.inr (some (774 + (t).toNat)))]) rfl ?_
          have n18 : 2000 ≤ qz_N h1 (774 + (t).toNat) ∧ qz_N h1 (774 + (t).toNat) ≤ 2000 := ez_len hP (mx_tag hX (show (t).toNat < 8 by omega)).1 tq_37 rfl
          refine ez_as hP (mx_tag hX (show (t).toNat < 8 by omega)).1 rfl tq_37 rfl rfl (by omega) (by omega) (ez_vdI rfl rfl (by omega) (by omega)) (fun hB16 w17 => ?_)
          have wA : qz_I (dz_put h1 (774 + (t).toNat) (((X (t).toNat).length : Int)).toNat (ez_v (.inl (p)))) (774 + (t).toNat) (((X (t).toNat).length : Int)).toNat = p := w17.trans (rz_rd ⟨by omega, by omega⟩)
          have sA : ∀ j, j ≠ (((X (t).toNat).length : Int)).toNat → qz_I (dz_put h1 (774 + (t).toNat) (((X (t).toNat).length : Int)).toNat (ez_v (.inl (p)))) (774 + (t).toNat) j = qz_I h1 (774 + (t).toNat) j := fun j hj => ez_put_I (fun w => hj w.2)
          have fA : ez_fr (mx_P (t).toNat) h1 (dz_put h1 (774 + (t).toNat) (((X (t).toNat).length : Int)).toNat (ez_v (.inl (p)))) := (ez_fr.refl (mx_P (t).toNat) h1).put (mx_Pa _) _ _
          have c8A : ∀ j, qz_I (dz_put h1 (774 + (t).toNat) (((X (t).toNat).length : Int)).toNat (ez_v (.inl (p)))) 782 j = qz_I h1 782 j := fun j => ez_put_I (fun w => by omega)
          have hA := hB16
          generalize (dz_put h1 (774 + (t).toNat) (((X (t).toNat).length : Int)).toNat (ez_v (.inl (p)))) = gA at *
          refine ez_go (n := 1) (pc' := 62) (L' := [(0, .inr (.inr (some (770)))), (1, .inl (t)), (2, .inl (p))]) (st' := [.inr (.inr (some (770)))]) rfl ?_
          refine ez_gC (p := 782) (tg := 79) hA t770 rfl rfl tq_75 rfl rfl (fun (t782 : _ = 79) => ?_)
          refine ez_go (n := 2) (pc' := 67) (L' := [(0, .inr (.inr (some (770)))), (1, .inl (t)), (2, .inl (p))]) (st' := [.inl (t), .inr (.inr (some (782))), .inl (t), .inr (.inr (some (782)))]) rfl ?_
          have n20 : 8 ≤ qz_N gA 782 ∧ qz_N gA 782 ≤ 8 := ez_len hA t782 tq_79 rfl
          refine ez_aI hA t782 rfl tq_79 rfl rfl (by omega) (by omega) (fun (b19 : 0 ≤ qz_I gA 782 (t).toNat) (b19' : qz_I gA 782 (t).toNat ≤ 2000) => ?_)
          rw [show qz_I gA 782 (t).toNat = ((X (t).toNat).length : Int) from (c8A _).trans mt.1.1]
          refine ez_go (n := 2) (pc' := 70) (L' := [(0, .inr (.inr (some (770)))), (1, .inl (t)), (2, .inl (p))]) (st' := [.inl ((((X (t).toNat).length : Int)) + (1)), .inl (t), .inr (.inr (some (782)))]) rfl ?_
          have n23 : 8 ≤ qz_N gA 782 ∧ qz_N gA 782 ≤ 8 := ez_len hA t782 tq_79 rfl
          refine ez_as hA t782 rfl tq_79 rfl rfl (by omega) (by omega) (ez_vdI rfl rfl (by omega) (by omega)) (fun hB21 w22 => ?_)
          have wD : qz_I (dz_put gA 782 (t).toNat (ez_v (.inl ((((X (t).toNat).length : Int)) + (1))))) 782 (t).toNat = ((X (t).toNat).length : Int) + 1 := w22.trans (rz_rd ⟨by omega, by omega⟩)
          have sD : ∀ j, qz_I (dz_put gA 782 (t).toNat (ez_v (.inl ((((X (t).toNat).length : Int)) + (1))))) (774 + (t).toNat) j = qz_I gA (774 + (t).toNat) j := fun j => ez_put_I (fun w => by omega)
          have fD9 : mxf (t).toNat h1 (dz_put gA 782 (t).toNat (ez_v (.inl ((((X (t).toNat).length : Int)) + (1))))) := ⟨fA.put (mx_Pb _) _ _, fun s hs => (ez_put_I (fun w => hs w.2)).trans (c8A s)⟩
          have hD := hB21
          generalize (dz_put gA 782 (t).toNat (ez_v (.inl ((((X (t).toNat).length : Int)) + (1))))) = gD at *
          have mxD : mx gD (t).toNat (X (t).toNat ++ [p]) := by
            refine ⟨by rw [wD, List.length_append]; rfl, fun j v hv => ?_⟩
            by_cases e : j < (X (t).toNat).length
            · rw [List.getElem?_append_left e] at hv
              rw [sD, sA j (by omega)]; exact mt.1.2 j v hv
            · rw [List.getElem?_append_right (by omega)] at hv
              have e0 : j - (X (t).toNat).length = 0 := by
                by_cases w : j - (X (t).toNat).length = 0
                · exact w
                · rw [List.getElem?_eq_none (by rw [List.length_singleton]; omega)] at hv; cases hv
              rw [e0] at hv
              cases hv
              rw [sD, show j = (((X (t).toNat).length : Int)).toNat by omega]; exact wA
          refine ez_go (n := 1) (pc' := 72) (L' := [(0, .inr (.inr (some (770)))), (1, .inl (t)), (2, .inl (p))]) (st' := [.inr (.inr (some (770)))]) rfl ?_
          refine ez_gC (p := 782) (tg := 79) hD t770 rfl rfl tq_75 rfl rfl (fun (t782 : _ = 79) => ?_)
          refine ez_go (n := 1) (pc' := 76) (L' := [(0, .inr (.inr (some (770)))), (1, .inl (t)), (2, .inl (p))]) (st' := [.inl (t), .inr (.inr (some (782)))]) rfl ?_
          have n25 : 8 ≤ qz_N gD 782 ∧ qz_N gD 782 ≤ 8 := ez_len hD t782 tq_79 rfl
          refine ez_aI hD t782 rfl tq_79 rfl rfl (by omega) (by omega) (fun (b24 : 0 ≤ qz_I gD 782 (t).toNat) (b24' : qz_I gD 782 (t).toNat ≤ 2000) => ?_)
          rw [show qz_I gD 782 (t).toNat = ((X (t).toNat).length : Int) + 1 from wD]
          exact ez_retI rfl rfl (k1 (by omega) (by omega) h1 hP ⟨fP, iP, vP⟩ gD hD fD9 mxD)
        · skip
          refine ez_go (n := 2) (pc' := 43) (L' := [(0, .inr (.inr (some (770)))), (1, .inl (t)), (2, .inl (p))]) (st' := [.inl (2), .inr (.inr (some (770)))]) rfl ?_
          refine ez_cv hP t770 rfl rfl rfl tq_75 rfl rfl rfl (rd_mfail hP t770 (by omega) (by omega) (fun gf hBf ff jf vf0 => ez_K1 ?_))
          exact ez_retI rfl rfl (kB (by omega) (by omega) gf hBf (mF.trans ⟨fP, iP, vP⟩ ⟨ff, jf, vf0⟩))
      · skip
        refine ez_go (n := 2) (pc' := 25) (L' := [(0, .inr (.inr (some (770)))), (1, .inl (t)), (2, .inl (p))]) (st' := [.inl (1), .inr (.inr (some (770)))]) rfl ?_
        refine ez_cv hP t770 rfl rfl rfl tq_75 rfl rfl rfl (rd_mfail hP t770 (by omega) (by omega) (fun gf hBf ff jf vf0 => ez_K1 ?_))
        exact ez_retI rfl rfl (kA (by omega) gf hBf (mF.trans ⟨fP, iP, vP⟩ ⟨ff, jf, vf0⟩))

end EzMt
/-! The class: the calls that make texts. (Written by wip/p2/py/pvt10.py.) -/
section EzCt
variable {d : Nat} {h : cz_H} {τ : Nat → Nat} {Q : cz_F → Prop} {T : Int → Nat} {F : rz_W} {E : Int → Prop} {X : Nat → List Int} {l : List Int}
/-- the texts of the class -/
def txs (h : cz_H) (X : Nat → List Int) : Prop := ∀ t, t < 8 → tx h (754 + 2 * t) (X t) ∧ ptl (X t) ∧ (X t).length ≤ 2000
theorem txs.k {g : cz_H} (m : txs h X) (e : ∀ q, (754 ≤ q ∧ q ≤ 769) → g.2.2 q = h.2.2 q) : txs g X := fun t ht => by
  obtain ⟨a, c⟩ := m t ht
  exact ⟨tx_c a (e _ (by omega)) (e _ (by omega)), c⟩
theorem rd_reqRoom1 (k : Q (.inl none, h)) : ez_W (d + 6) cm_33 0 [(0, .inl (1))] [] h Q := by
  refine ez_go (n := 1) (pc' := 1) (L' := [(0, .inl (1))]) (st' := [.inl (1)]) rfl ?_
  refine ez_if rfl rfl ⟨by decide, by decide⟩ (fun _ => ?_) (fun (c1 : ¬((1 : Int) ≠ (0))) => absurd c1 (by decide))
  exact ez_ret0 rfl rfl k

theorem rd_reqRoom0 (hr1 : h.1 + 1 ≤ 600192) (hr2 : h.2.1 + 6 ≤ 7302232) (k : Q (.inr h.1, xc h 0)) : ez_W (d + 6) cm_33 0 [(0, .inl (0))] [] h Q := by
  refine ez_go (n := 1) (pc' := 1) (L' := [(0, .inl (0))]) (st' := [.inl (0)]) rfl ?_
  refine ez_if rfl rfl ⟨by decide, by decide⟩ (fun (c1 : (0 : Int) ≠ (0)) => absurd c1 (by decide)) (fun _ => ?_)
  exact ez_th rfl rfl (by omega) (by omega) (by omega) rfl (k)

theorem rd_reqSealed (hB : ez_B τ h) (t192 : τ 192 = 44) (hr1 : h.1 + 1 ≤ 600192) (hr2 : h.2.1 + 6 ≤ 7302232) (k1 : qz_I h 202 6 ≠ 0 → Q (.inl none, h)) (k0 : qz_I h 202 6 = 0 → Q (.inr h.1, xc h 2)) : ez_W (d + 6) cm_34 0 [(0, .inr (.inr (some (192))))] [] h Q := by
  refine ez_go (n := 1) (pc' := 1) (L' := [(0, .inr (.inr (some (192))))]) (st' := [.inr (.inr (some (192)))]) rfl ?_
  refine ez_gC (p := 202) (tg := 48) hB t192 rfl rfl tq_44 rfl rfl (fun (t202 : _ = 48) => ?_)
  refine ez_gI hB t202 rfl rfl tq_48 rfl rfl (fun (b1 : 0 ≤ qz_I h 202 6) (b1' : qz_I h 202 6 ≤ 1) => ?_)
  refine ez_if rfl rfl ⟨by first | omega | exact (sz_i32 _).1, by first | omega | exact (sz_i32 _).2⟩ (fun (c2 : (qz_I h 202 6) ≠ (0)) => ?_) (fun (c2 : ¬((qz_I h 202 6) ≠ (0))) => ?_)
  · skip
    exact ez_ret0 rfl rfl (k1 (by omega))
  · skip
    exact ez_th rfl rfl (by omega) (by omega) (by omega) rfl (k0 (by omega))

theorem rd_reqSlot {t : Int} (hB : ez_B τ h) (tr : ez_rg t) (hr1 : h.1 + 1 ≤ 600192) (hr2 : h.2.1 + 6 ≤ 7302232) (k1 : 0 ≤ t → t ≤ 7 → Q (.inl none, h)) (k0 : t < 0 ∨ 7 < t → Q (.inr h.1, xc h 1)) : ez_W (d + 7) cm_35 0 [(0, .inl (t))] [] h Q := by
  refine ez_go (n := 3) (pc' := 4) (L' := [(0, .inl (t))]) (st' := [.inl (7), .inl (0), .inl (t)]) rfl ?_
  refine ez_cs hB.2.1 rfl rfl rfl rfl rfl (rd_reqRange tr ⟨by decide, by decide⟩ ⟨by decide, by decide⟩ hr1 hr2 (fun w0 w1 => ez_K0 ?_) (fun w => ez_Kp (xc_exc hB rfl) rfl (k0 w)))
  exact ez_ret0 rfl rfl (k1 w0 w1)

theorem rd_keepMade {t : Int} (hB : ez_B τ h) (hX : jz_X τ) (sl : slt h) (a : tx h 196 l) (t0 : 0 ≤ t) (t7 : t ≤ 7) (k : ∀ g, ez_B τ g → ez_fr (tx_P (754 + 2 * t.toNat)) h g → tx g (754 + 2 * t.toNat) l → Q (.inl (some (ez_v (.inl (l.length : Int)))), g)) : ez_W (d + 2) cm_18 0 [(0, .inr (.inr (some (192)))), (1, .inl (t))] [] h Q := by
  have t192 : τ 192 = 44 := hX 192 (by decide)
  refine ez_go (n := 1) (pc' := 1) (L' := [(0, .inr (.inr (some (192)))), (1, .inl (t))]) (st' := [.inr (.inr (some (192)))]) rfl ?_
  refine ez_gC (p := 195) (tg := 47) hB t192 rfl rfl tq_44 rfl rfl (fun (t195 : _ = 47) => ?_)
  refine ez_go (n := 1) (pc' := 5) (L' := [(0, .inr (.inr (some (192)))), (1, .inl (t))]) (st' := [.inl (t), .inr (.inr (some (195)))]) rfl ?_
  have n2 : 8 ≤ qz_N h 195 ∧ qz_N h 195 ≤ 8 := ez_len hB t195 tq_47 rfl
  have y3 : 1 ≤ qz_I h 195 (t).toNat ∧ qz_I h 195 (t).toNat ≤ 1000000 := ez_aB hB t195 tq_47 rfl rfl (by decide) (by omega) (by omega)
  have y3' : ((qz_P h 195 (t).toNat : Nat) : Int) + 1 = qz_I h 195 (t).toNat := by unfold qz_P; omega
  refine ez_aR hB t195 rfl tq_47 rfl rfl (by omega) (by omega) (by omega) (fun (t1 : _ = 88) => ?_)
  rw [show qz_P h 195 (t).toNat = 754 + 2 * (t).toNat by unfold qz_P; have := (sl (t).toNat (by omega)).1; omega]
  refine ez_go (n := 1) (pc' := 7) (L' := [(0, .inr (.inr (some (192)))), (1, .inl (t))]) (st' := [.inr (.inr (some (192))), .inr (.inr (some (754 + 2 * (t).toNat)))]) rfl ?_
  refine ez_gC (p := 196) (tg := 1) hB t192 rfl rfl tq_44 rfl rfl (fun (t196 : _ = 1) => ?_)
  refine ez_go (n := 2) (pc' := 12) (L' := [(0, .inr (.inr (some (192)))), (1, .inl (t))]) (st' := [.inr (.inr (some (192))), .inl (0), .inr (.inr (some (196))), .inr (.inr (some (754 + 2 * (t).toNat)))]) rfl ?_
  refine ez_gC (p := 196) (tg := 1) hB t192 rfl rfl tq_44 rfl rfl (fun (t196 : _ = 1) => ?_)
  refine ez_gI hB t196 rfl rfl tq_1 rfl rfl (fun (b4 : 0 ≤ qz_I h 196 1) (b4' : qz_I h 196 1 ≤ 2000) => ?_)
  rw [show qz_I h 196 1 = (l.length : Int) from a.1]
  refine ez_cv hB (mx_tag hX (show (t).toNat < 8 by omega)).2.1 rfl rfl rfl tq_88 rfl rfl rfl (rd_takePart hB (mx_tag hX (show (t).toNat < 8 by omega)).2.1 (hX 196 (by decide)) a (by omega) (by omega) (by omega) (fun g hBg fg ag => ez_K0 ?_))
  rw [pt_all] at ag
  have c95 : ∀ j, qz_I g 195 j = qz_I h 195 j := fun j => fg.I (tx_Pn (by omega) (by omega)) j
  refine ez_go (n := 1) (pc' := 22) (L' := [(0, .inr (.inr (some (192)))), (1, .inl (t))]) (st' := [.inr (.inr (some (192)))]) rfl ?_
  refine ez_gC (p := 195) (tg := 47) hBg t192 rfl rfl tq_44 rfl rfl (fun (t195 : _ = 47) => ?_)
  refine ez_go (n := 1) (pc' := 26) (L' := [(0, .inr (.inr (some (192)))), (1, .inl (t))]) (st' := [.inl (t), .inr (.inr (some (195)))]) rfl ?_
  have n6 : 8 ≤ qz_N g 195 ∧ qz_N g 195 ≤ 8 := ez_len hBg t195 tq_47 rfl
  have y7 : 1 ≤ qz_I g 195 (t).toNat ∧ qz_I g 195 (t).toNat ≤ 1000000 := ez_aB hBg t195 tq_47 rfl rfl (by decide) (by omega) (by omega)
  have y7' : ((qz_P g 195 (t).toNat : Nat) : Int) + 1 = qz_I g 195 (t).toNat := by unfold qz_P; omega
  refine ez_aR hBg t195 rfl tq_47 rfl rfl (by omega) (by omega) (by omega) (fun (t5 : _ = 88) => ?_)
  rw [show qz_P g 195 (t).toNat = 754 + 2 * (t).toNat by unfold qz_P; have := (sl (t).toNat (by omega)).1; rw [show qz_I g 195 (t).toNat = qz_I h 195 (t).toNat from c95 _]; omega]
  refine ez_gI hBg (mx_tag hX (show (t).toNat < 8 by omega)).2.1 rfl rfl tq_88 rfl rfl (fun (b8 : 0 ≤ qz_I g (754 + 2 * (t).toNat) 1) (b8' : qz_I g (754 + 2 * (t).toNat) 1 ≤ 2000) => ?_)
  rw [show qz_I g (754 + 2 * (t).toNat) 1 = (l.length : Int) from ag.1]
  exact ez_retI rfl rfl (k g hBg fg ag)

theorem rd_cnormal {t u fm : Int} (hC : pz_C τ h T F E) (hw : uz_wf F) (hsl : qz_I h 202 6 ≠ 0 → fD h T F ∧ cP h F E) (sl : slt h) (txh : txs h X) (tr : ez_rg t) (ur : ez_rg u) (fmr : ez_rg fm) (hr1 : h.1 + 1 ≤ 600192) (hr2 : h.2.1 + 6 ≤ 7302232) (kA : (t < 0 ∨ 7 < t ∨ u < 0 ∨ 7 < u ∨ fm < 0 ∨ 3 < fm) → Q (.inr h.1, xc h 1)) (kS : ((0 ≤ t ∧ t ≤ 7) ∧ (0 ≤ u ∧ u ≤ 7) ∧ 0 ≤ fm ∧ fm ≤ 3) → qz_I h 202 6 = 0 → Q (.inr h.1, xc h 2)) (kX : ((0 ≤ t ∧ t ≤ 7) ∧ (0 ≤ u ∧ u ≤ 7) ∧ 0 ≤ fm ∧ fm ≤ 3) → qz_I h 202 6 ≠ 0 → ∀ m, uz_FL F (decide (fm = 1 ∨ fm = 3)) (X u.toNat) m → 2000 < m.length → ∀ g, ez_B τ g → ez_fr (co_P 196) h g → Q (.inr g.1, xc g 0)) (k1 : ((0 ≤ t ∧ t ≤ 7) ∧ (0 ≤ u ∧ u ≤ 7) ∧ 0 ≤ fm ∧ fm ≤ 3) → qz_I h 202 6 ≠ 0 → ∀ m res, uz_FL F (decide (fm = 1 ∨ fm = 3)) (X u.toNat) m → m.length ≤ 2000 → nfR F E fm m res → ptl res → ∀ g2, ez_B τ g2 → ez_fr (co_P 196) h g2 → ∀ g, ez_B τ g → ez_fr (tx_P (754 + 2 * t.toNat)) g2 g → tx g (754 + 2 * t.toNat) res → Q (.inl (some (ez_v (.inl (res.length : Int)))), g)) : ez_W (d + 8) cm_24 0 [(0, .inr (.inr (some (192)))), (1, .inl (t)), (2, .inl (u)), (3, .inl (fm))] [] h Q := by
  have hB := hC.1
  have hX := hC.2.1
  have t192 : τ 192 = 44 := hX 192 (by decide)
  obtain ⟨tr1, tr2⟩ := id tr
  obtain ⟨ur1, ur2⟩ := id ur
  obtain ⟨fmr1, fmr2⟩ := id fmr
  refine ez_go (n := 1) (pc' := 1) (L' := [(0, .inr (.inr (some (192)))), (1, .inl (t)), (2, .inl (u)), (3, .inl (fm))]) (st' := [.inl (t)]) rfl ?_
  refine ez_cs hB.2.1 rfl rfl rfl rfl rfl (rd_reqSlot hB (show ez_rg (t) by assumption) (by omega) (by omega) (fun a1 b1 => ez_K0 ?_) (fun w => ez_Kp (xc_exc hB rfl) rfl (kA (by omega))))
  refine ez_go (n := 1) (pc' := 5) (L' := [(0, .inr (.inr (some (192)))), (1, .inl (t)), (2, .inl (u)), (3, .inl (fm))]) (st' := [.inl (u)]) rfl ?_
  refine ez_cs hB.2.1 rfl rfl rfl rfl rfl (rd_reqSlot hB (show ez_rg (u) by assumption) (by omega) (by omega) (fun a2 b2 => ez_K0 ?_) (fun w => ez_Kp (xc_exc hB rfl) rfl (kA (by omega))))
  refine ez_go (n := 3) (pc' := 11) (L' := [(0, .inr (.inr (some (192)))), (1, .inl (t)), (2, .inl (u)), (3, .inl (fm))]) (st' := [.inl (3), .inl (0), .inl (fm)]) rfl ?_
  refine ez_cs hB.2.1 rfl rfl rfl rfl rfl (rd_reqRange ⟨by omega, by omega⟩ ⟨by omega, by omega⟩ ⟨by omega, by omega⟩ (by omega) (by omega) (fun a3 b3 => ez_K0 ?_) (fun w => ez_Kp (xc_exc hB rfl) rfl (kA (by omega))))
  refine ez_go (n := 1) (pc' := 15) (L' := [(0, .inr (.inr (some (192)))), (1, .inl (t)), (2, .inl (u)), (3, .inl (fm))]) (st' := [.inr (.inr (some (192)))]) rfl ?_
  refine ez_cv hB t192 rfl rfl rfl tq_44 rfl rfl rfl (rd_reqSealed hB t192 (by omega) (by omega) (fun hsd => ez_K0 ?_) (fun w => ez_Kp (xc_exc hB rfl) rfl (kS (by omega) w)))
  refine ez_go (n := 1) (pc' := 19) (L' := [(0, .inr (.inr (some (192)))), (1, .inl (t)), (2, .inl (u)), (3, .inl (fm))]) (st' := [.inr (.inr (some (192)))]) rfl ?_
  refine ez_gC (p := 729) (tg := 61) hB t192 rfl rfl tq_44 rfl rfl (fun (t729 : _ = 61) => ?_)
  refine ez_go (n := 1) (pc' := 23) (L' := [(0, .inr (.inr (some (192)))), (1, .inl (t)), (2, .inl (u)), (3, .inl (fm))]) (st' := [.inr (.inr (some (192))), .inr (.inr (some (729)))]) rfl ?_
  refine ez_gC (p := 195) (tg := 47) hB t192 rfl rfl tq_44 rfl rfl (fun (t195 : _ = 47) => ?_)
  refine ez_go (n := 1) (pc' := 27) (L' := [(0, .inr (.inr (some (192)))), (1, .inl (t)), (2, .inl (u)), (3, .inl (fm))]) (st' := [.inl (u), .inr (.inr (some (195))), .inr (.inr (some (729)))]) rfl ?_
  have n2 : 8 ≤ qz_N h 195 ∧ qz_N h 195 ≤ 8 := ez_len hB t195 tq_47 rfl
  have y3 : 1 ≤ qz_I h 195 (u).toNat ∧ qz_I h 195 (u).toNat ≤ 1000000 := ez_aB hB t195 tq_47 rfl rfl (by decide) (by omega) (by omega)
  have y3' : ((qz_P h 195 (u).toNat : Nat) : Int) + 1 = qz_I h 195 (u).toNat := by unfold qz_P; omega
  refine ez_aR hB t195 rfl tq_47 rfl rfl (by omega) (by omega) (by omega) (fun (t1 : _ = 88) => ?_)
  rw [show qz_P h 195 (u).toNat = 754 + 2 * (u).toNat by unfold qz_P; have := (sl (u).toNat (by omega)).1; omega]
  refine ez_go (n := 1) (pc' := 29) (L' := [(0, .inr (.inr (some (192)))), (1, .inl (t)), (2, .inl (u)), (3, .inl (fm))]) (st' := [.inr (.inr (some (192))), .inr (.inr (some (754 + 2 * (u).toNat))), .inr (.inr (some (729)))]) rfl ?_
  refine ez_gC (p := 196) (tg := 1) hB t192 rfl rfl tq_44 rfl rfl (fun (t196 : _ = 1) => ?_)
  refine ez_go (n := 1) (pc' := 33) (L' := [(0, .inr (.inr (some (192)))), (1, .inl (t)), (2, .inl (u)), (3, .inl (fm))]) (st' := [.inl (fm), .inr (.inr (some (196))), .inr (.inr (some (754 + 2 * (u).toNat))), .inr (.inr (some (729)))]) rfl ?_
  have tu := txh (u).toNat (by omega)
  refine ez_cv hB t729 rfl rfl rfl tq_61 rfl rfl rfl (rd_convs hC (hsl hsd).1 hw (hsl hsd).2 (hX 196 (by decide)) (Or.inl (by decide)) (mx_tag hX (show (u).toNat < 8 by omega)).2.1 (by omega) tu.1 tu.2.1 ⟨by omega, by omega⟩ (fun m res um lt nf pr g2 hB2 f2 t2 => ez_K1 ?_) (fun m um lt g2 hB2 f2 => ez_K1 ?_))
  · have rm1 := f2.1; have rm2 := f2.2.1
    refine ez_cs hB2.2.1 rfl rfl rfl rfl rfl (rd_reqRoom1 (ez_K0 ?_))
    refine ez_go (n := 2) (pc' := 41) (L' := [(0, .inr (.inr (some (192)))), (1, .inl (t)), (2, .inl (u)), (3, .inl (fm))]) (st' := [.inl (t), .inr (.inr (some (192)))]) rfl ?_
    have sl2 : slt g2 := sl.k (f2.2.2 195 (co_Pn (by decide) (by decide) (by decide))) (f2.2.2 773 (co_Pn (by decide) (by decide) (by decide)))
    refine ez_cv hB2 t192 rfl rfl rfl tq_44 rfl rfl rfl (rd_keepMade hB2 hX sl2 t2 (by omega) (by omega) (fun g3 hB3 f3 t3 => ez_K1 ?_))
    exact ez_retI rfl rfl (k1 (by omega) hsd m res um lt nf pr g2 hB2 f2 g3 hB3 f3 t3)
  · have rm1 := f2.1; have rm2 := f2.2.1
    exact ez_cs hB2.2.1 rfl rfl rfl rfl rfl (rd_reqRoom0 (by omega) (by omega) (ez_Kp (xc_exc hB2 rfl) rfl (kX (by omega) hsd m um lt g2 hB2 f2)))

theorem rd_cjoin {t u v fm : Int} (hC : pz_C τ h T F E) (hw : uz_wf F) (hsl : qz_I h 202 6 ≠ 0 → fD h T F ∧ cP h F E) (sl : slt h) (txh : txs h X) (tr : ez_rg t) (ur : ez_rg u) (vr : ez_rg v) (fmr : ez_rg fm) (hr1 : h.1 + 1 ≤ 600192) (hr2 : h.2.1 + 6 ≤ 7302232) (kA : (t < 0 ∨ 7 < t ∨ u < 0 ∨ 7 < u ∨ v < 0 ∨ 7 < v ∨ fm < 0 ∨ 3 < fm) → Q (.inr h.1, xc h 1)) (kS : ((0 ≤ t ∧ t ≤ 7) ∧ (0 ≤ u ∧ u ≤ 7) ∧ (0 ≤ v ∧ v ≤ 7) ∧ 0 ≤ fm ∧ fm ≤ 3) → qz_I h 202 6 = 0 → Q (.inr h.1, xc h 2)) (kX : ((0 ≤ t ∧ t ≤ 7) ∧ (0 ≤ u ∧ u ≤ 7) ∧ (0 ≤ v ∧ v ≤ 7) ∧ 0 ≤ fm ∧ fm ≤ 3) → qz_I h 202 6 ≠ 0 → ∀ m, uz_FL F (decide (fm = 1 ∨ fm = 3)) (X u.toNat ++ X v.toNat) m → 2000 < m.length → ∀ g, ez_B τ g → ez_fr (co_P 196) h g → Q (.inr g.1, xc g 0)) (k1 : ((0 ≤ t ∧ t ≤ 7) ∧ (0 ≤ u ∧ u ≤ 7) ∧ (0 ≤ v ∧ v ≤ 7) ∧ 0 ≤ fm ∧ fm ≤ 3) → qz_I h 202 6 ≠ 0 → ∀ m res, uz_FL F (decide (fm = 1 ∨ fm = 3)) (X u.toNat ++ X v.toNat) m → m.length ≤ 2000 → nfR F E fm m res → ptl res → ∀ g2, ez_B τ g2 → ez_fr (co_P 196) h g2 → ∀ g, ez_B τ g → ez_fr (tx_P (754 + 2 * t.toNat)) g2 g → tx g (754 + 2 * t.toNat) res → Q (.inl (some (ez_v (.inl (res.length : Int)))), g)) : ez_W (d + 8) cm_17 0 [(0, .inr (.inr (some (192)))), (1, .inl (t)), (2, .inl (u)), (3, .inl (v)), (4, .inl (fm))] [] h Q := by
  have hB := hC.1
  have hX := hC.2.1
  have t192 : τ 192 = 44 := hX 192 (by decide)
  obtain ⟨tr1, tr2⟩ := id tr
  obtain ⟨ur1, ur2⟩ := id ur
  obtain ⟨vr1, vr2⟩ := id vr
  obtain ⟨fmr1, fmr2⟩ := id fmr
  refine ez_go (n := 1) (pc' := 1) (L' := [(0, .inr (.inr (some (192)))), (1, .inl (t)), (2, .inl (u)), (3, .inl (v)), (4, .inl (fm))]) (st' := [.inl (t)]) rfl ?_
  refine ez_cs hB.2.1 rfl rfl rfl rfl rfl (rd_reqSlot hB (show ez_rg (t) by assumption) (by omega) (by omega) (fun a4 b4 => ez_K0 ?_) (fun w => ez_Kp (xc_exc hB rfl) rfl (kA (by omega))))
  refine ez_go (n := 1) (pc' := 5) (L' := [(0, .inr (.inr (some (192)))), (1, .inl (t)), (2, .inl (u)), (3, .inl (v)), (4, .inl (fm))]) (st' := [.inl (u)]) rfl ?_
  refine ez_cs hB.2.1 rfl rfl rfl rfl rfl (rd_reqSlot hB (show ez_rg (u) by assumption) (by omega) (by omega) (fun a5 b5 => ez_K0 ?_) (fun w => ez_Kp (xc_exc hB rfl) rfl (kA (by omega))))
  refine ez_go (n := 1) (pc' := 9) (L' := [(0, .inr (.inr (some (192)))), (1, .inl (t)), (2, .inl (u)), (3, .inl (v)), (4, .inl (fm))]) (st' := [.inl (v)]) rfl ?_
  refine ez_cs hB.2.1 rfl rfl rfl rfl rfl (rd_reqSlot hB (show ez_rg (v) by assumption) (by omega) (by omega) (fun a6 b6 => ez_K0 ?_) (fun w => ez_Kp (xc_exc hB rfl) rfl (kA (by omega))))
  refine ez_go (n := 3) (pc' := 16) (L' := [(0, .inr (.inr (some (192)))), (1, .inl (t)), (2, .inl (u)), (3, .inl (v)), (4, .inl (fm))]) (st' := [.inl (3), .inl (0), .inl (fm)]) rfl ?_
  refine ez_cs hB.2.1 rfl rfl rfl rfl rfl (rd_reqRange ⟨by omega, by omega⟩ ⟨by omega, by omega⟩ ⟨by omega, by omega⟩ (by omega) (by omega) (fun a7 b7 => ez_K0 ?_) (fun w => ez_Kp (xc_exc hB rfl) rfl (kA (by omega))))
  refine ez_go (n := 1) (pc' := 20) (L' := [(0, .inr (.inr (some (192)))), (1, .inl (t)), (2, .inl (u)), (3, .inl (v)), (4, .inl (fm))]) (st' := [.inr (.inr (some (192)))]) rfl ?_
  refine ez_cv hB t192 rfl rfl rfl tq_44 rfl rfl rfl (rd_reqSealed hB t192 (by omega) (by omega) (fun hsd => ez_K0 ?_) (fun w => ez_Kp (xc_exc hB rfl) rfl (kS (by omega) w)))
  refine ez_go (n := 1) (pc' := 24) (L' := [(0, .inr (.inr (some (192)))), (1, .inl (t)), (2, .inl (u)), (3, .inl (v)), (4, .inl (fm))]) (st' := [.inr (.inr (some (192)))]) rfl ?_
  refine ez_gC (p := 729) (tg := 61) hB t192 rfl rfl tq_44 rfl rfl (fun (t729 : _ = 61) => ?_)
  refine ez_go (n := 1) (pc' := 28) (L' := [(0, .inr (.inr (some (192)))), (1, .inl (t)), (2, .inl (u)), (3, .inl (v)), (4, .inl (fm))]) (st' := [.inr (.inr (some (192))), .inr (.inr (some (729)))]) rfl ?_
  refine ez_gC (p := 195) (tg := 47) hB t192 rfl rfl tq_44 rfl rfl (fun (t195 : _ = 47) => ?_)
  refine ez_go (n := 1) (pc' := 32) (L' := [(0, .inr (.inr (some (192)))), (1, .inl (t)), (2, .inl (u)), (3, .inl (v)), (4, .inl (fm))]) (st' := [.inl (u), .inr (.inr (some (195))), .inr (.inr (some (729)))]) rfl ?_
  have n2 : 8 ≤ qz_N h 195 ∧ qz_N h 195 ≤ 8 := ez_len hB t195 tq_47 rfl
  have y3 : 1 ≤ qz_I h 195 (u).toNat ∧ qz_I h 195 (u).toNat ≤ 1000000 := ez_aB hB t195 tq_47 rfl rfl (by decide) (by omega) (by omega)
  have y3' : ((qz_P h 195 (u).toNat : Nat) : Int) + 1 = qz_I h 195 (u).toNat := by unfold qz_P; omega
  refine ez_aR hB t195 rfl tq_47 rfl rfl (by omega) (by omega) (by omega) (fun (t1 : _ = 88) => ?_)
  rw [show qz_P h 195 (u).toNat = 754 + 2 * (u).toNat by unfold qz_P; have := (sl (u).toNat (by omega)).1; omega]
  refine ez_go (n := 1) (pc' := 34) (L' := [(0, .inr (.inr (some (192)))), (1, .inl (t)), (2, .inl (u)), (3, .inl (v)), (4, .inl (fm))]) (st' := [.inr (.inr (some (192))), .inr (.inr (some (754 + 2 * (u).toNat))), .inr (.inr (some (729)))]) rfl ?_
  refine ez_gC (p := 195) (tg := 47) hB t192 rfl rfl tq_44 rfl rfl (fun (t195 : _ = 47) => ?_)
  refine ez_go (n := 1) (pc' := 38) (L' := [(0, .inr (.inr (some (192)))), (1, .inl (t)), (2, .inl (u)), (3, .inl (v)), (4, .inl (fm))]) (st' := [.inl (v), .inr (.inr (some (195))), .inr (.inr (some (754 + 2 * (u).toNat))), .inr (.inr (some (729)))]) rfl ?_
  have n5 : 8 ≤ qz_N h 195 ∧ qz_N h 195 ≤ 8 := ez_len hB t195 tq_47 rfl
  have y6 : 1 ≤ qz_I h 195 (v).toNat ∧ qz_I h 195 (v).toNat ≤ 1000000 := ez_aB hB t195 tq_47 rfl rfl (by decide) (by omega) (by omega)
  have y6' : ((qz_P h 195 (v).toNat : Nat) : Int) + 1 = qz_I h 195 (v).toNat := by unfold qz_P; omega
  refine ez_aR hB t195 rfl tq_47 rfl rfl (by omega) (by omega) (by omega) (fun (t4 : _ = 88) => ?_)
  rw [show qz_P h 195 (v).toNat = 754 + 2 * (v).toNat by unfold qz_P; have := (sl (v).toNat (by omega)).1; omega]
  refine ez_go (n := 1) (pc' := 40) (L' := [(0, .inr (.inr (some (192)))), (1, .inl (t)), (2, .inl (u)), (3, .inl (v)), (4, .inl (fm))]) (st' := [.inr (.inr (some (192))), .inr (.inr (some (754 + 2 * (v).toNat))), .inr (.inr (some (754 + 2 * (u).toNat))), .inr (.inr (some (729)))]) rfl ?_
  refine ez_gC (p := 196) (tg := 1) hB t192 rfl rfl tq_44 rfl rfl (fun (t196 : _ = 1) => ?_)
  refine ez_go (n := 1) (pc' := 45) (L' := [(0, .inr (.inr (some (192)))), (1, .inl (t)), (2, .inl (u)), (3, .inl (v)), (4, .inl (fm))]) (st' := [.inl (fm), .inr (.inr (some (196))), .inr (.inr (some (754 + 2 * (v).toNat))), .inr (.inr (some (754 + 2 * (u).toNat))), .inr (.inr (some (729)))]) rfl ?_
  have tu := txh (u).toNat (by omega)
  have tv := txh (v).toNat (by omega)
  refine ez_cv hB t729 rfl rfl rfl tq_61 rfl rfl rfl (rd_conv2s hC (hsl hsd).1 hw (hsl hsd).2 (hX 196 (by decide)) (Or.inl (by decide)) (mx_tag hX (show (u).toNat < 8 by omega)).2.1 (by omega) tu.1 tu.2.1 (mx_tag hX (show (v).toNat < 8 by omega)).2.1 (by omega) tv.1 tv.2.1 ⟨by omega, by omega⟩ (fun m res um lt nf pr g2 hB2 f2 t2 => ez_K1 ?_) (fun m um lt g2 hB2 f2 => ez_K1 ?_))
  · have rm1 := f2.1; have rm2 := f2.2.1
    refine ez_cs hB2.2.1 rfl rfl rfl rfl rfl (rd_reqRoom1 (ez_K0 ?_))
    refine ez_go (n := 2) (pc' := 53) (L' := [(0, .inr (.inr (some (192)))), (1, .inl (t)), (2, .inl (u)), (3, .inl (v)), (4, .inl (fm))]) (st' := [.inl (t), .inr (.inr (some (192)))]) rfl ?_
    have sl2 : slt g2 := sl.k (f2.2.2 195 (co_Pn (by decide) (by decide) (by decide))) (f2.2.2 773 (co_Pn (by decide) (by decide) (by decide)))
    refine ez_cv hB2 t192 rfl rfl rfl tq_44 rfl rfl rfl (rd_keepMade hB2 hX sl2 t2 (by omega) (by omega) (fun g3 hB3 f3 t3 => ez_K1 ?_))
    exact ez_retI rfl rfl (k1 (by omega) hsd m res um lt nf pr g2 hB2 f2 g3 hB3 f3 t3)
  · have rm1 := f2.1; have rm2 := f2.2.1
    exact ez_cs hB2.2.1 rfl rfl rfl rfl rfl (rd_reqRoom0 (by omega) (by omega) (ez_Kp (xc_exc hB2 rfl) rfl (kX (by omega) hsd m um lt g2 hB2 f2)))

theorem rd_cpart {t u i j : Int} (hB : ez_B τ h) (hX : jz_X τ) (sl : slt h) (txh : txs h X) (tr : ez_rg t) (ur : ez_rg u) (ir : ez_rg i) (jr : ez_rg j) (hr1 : h.1 + 1 ≤ 600192) (hr2 : h.2.1 + 6 ≤ 7302232) (kA : (t < 0 ∨ 7 < t ∨ u < 0 ∨ 7 < u ∨ i < 0 ∨ j < i ∨ ((X u.toNat).length : Int) < j) → Q (.inr h.1, xc h 1)) (k1 : ((0 ≤ t ∧ t ≤ 7) ∧ (0 ≤ u ∧ u ≤ 7) ∧ 0 ≤ i ∧ i ≤ j ∧ j ≤ ((X u.toNat).length : Int)) → ∀ g, ez_B τ g → ez_fr (tx_P (754 + 2 * t.toNat)) h g → tx g (754 + 2 * t.toNat) (pt (X u.toNat) i j) → Q (.inl (some (ez_v (.inl ((pt (X u.toNat) i j).length : Int)))), g)) : ez_W (d + 8) cm_25 0 [(0, .inr (.inr (some (192)))), (1, .inl (t)), (2, .inl (u)), (3, .inl (i)), (4, .inl (j))] [] h Q := by
  have t192 : τ 192 = 44 := hX 192 (by decide)
  obtain ⟨tr1, tr2⟩ := id tr
  obtain ⟨ur1, ur2⟩ := id ur
  obtain ⟨ir1, ir2⟩ := id ir
  obtain ⟨jr1, jr2⟩ := id jr
  refine ez_go (n := 1) (pc' := 1) (L' := [(0, .inr (.inr (some (192)))), (1, .inl (t)), (2, .inl (u)), (3, .inl (i)), (4, .inl (j))]) (st' := [.inl (t)]) rfl ?_
  refine ez_cs hB.2.1 rfl rfl rfl rfl rfl (rd_reqSlot hB (show ez_rg (t) by assumption) (by omega) (by omega) (fun a8 b8 => ez_K0 ?_) (fun w => ez_Kp (xc_exc hB rfl) rfl (kA (by omega))))
  refine ez_go (n := 1) (pc' := 5) (L' := [(0, .inr (.inr (some (192)))), (1, .inl (t)), (2, .inl (u)), (3, .inl (i)), (4, .inl (j))]) (st' := [.inl (u)]) rfl ?_
  refine ez_cs hB.2.1 rfl rfl rfl rfl rfl (rd_reqSlot hB (show ez_rg (u) by assumption) (by omega) (by omega) (fun a9 b9 => ez_K0 ?_) (fun w => ez_Kp (xc_exc hB rfl) rfl (kA (by omega))))
  refine ez_go (n := 3) (pc' := 12) (L' := [(0, .inr (.inr (some (192)))), (1, .inl (t)), (2, .inl (u)), (3, .inl (i)), (4, .inl (j))]) (st' := [.inr (.inr (some (192))), .inl (0), .inl (j)]) rfl ?_
  refine ez_gC (p := 195) (tg := 47) hB t192 rfl rfl tq_44 rfl rfl (fun (t195 : _ = 47) => ?_)
  refine ez_go (n := 1) (pc' := 16) (L' := [(0, .inr (.inr (some (192)))), (1, .inl (t)), (2, .inl (u)), (3, .inl (i)), (4, .inl (j))]) (st' := [.inl (u), .inr (.inr (some (195))), .inl (0), .inl (j)]) rfl ?_
  have n2 : 8 ≤ qz_N h 195 ∧ qz_N h 195 ≤ 8 := ez_len hB t195 tq_47 rfl
  have y3 : 1 ≤ qz_I h 195 (u).toNat ∧ qz_I h 195 (u).toNat ≤ 1000000 := ez_aB hB t195 tq_47 rfl rfl (by decide) (by omega) (by omega)
  have y3' : ((qz_P h 195 (u).toNat : Nat) : Int) + 1 = qz_I h 195 (u).toNat := by unfold qz_P; omega
  refine ez_aR hB t195 rfl tq_47 rfl rfl (by omega) (by omega) (by omega) (fun (t1 : _ = 88) => ?_)
  rw [show qz_P h 195 (u).toNat = 754 + 2 * (u).toNat by unfold qz_P; have := (sl (u).toNat (by omega)).1; omega]
  refine ez_gI hB (mx_tag hX (show (u).toNat < 8 by omega)).2.1 rfl rfl tq_88 rfl rfl (fun (b4 : 0 ≤ qz_I h (754 + 2 * (u).toNat) 1) (b4' : qz_I h (754 + 2 * (u).toNat) 1 ≤ 2000) => ?_)
  have tu := txh (u).toNat (by omega)
  have tul := tu.2.2
  rw [show qz_I h (754 + 2 * (u).toNat) 1 = ((X (u).toNat).length : Int) from tu.1.1]
  refine ez_cs hB.2.1 rfl rfl rfl rfl rfl (rd_reqRange ⟨by omega, by omega⟩ ⟨by omega, by omega⟩ ⟨by omega, by omega⟩ (by omega) (by omega) (fun a10 b10 => ez_K0 ?_) (fun w => ez_Kp (xc_exc hB rfl) rfl (kA (by omega))))
  refine ez_go (n := 3) (pc' := 27) (L' := [(0, .inr (.inr (some (192)))), (1, .inl (t)), (2, .inl (u)), (3, .inl (i)), (4, .inl (j))]) (st' := [.inl (j), .inl (0), .inl (i)]) rfl ?_
  refine ez_cs hB.2.1 rfl rfl rfl rfl rfl (rd_reqRange ⟨by omega, by omega⟩ ⟨by omega, by omega⟩ ⟨by omega, by omega⟩ (by omega) (by omega) (fun a11 b11 => ez_K0 ?_) (fun w => ez_Kp (xc_exc hB rfl) rfl (kA (by omega))))
  refine ez_go (n := 1) (pc' := 31) (L' := [(0, .inr (.inr (some (192)))), (1, .inl (t)), (2, .inl (u)), (3, .inl (i)), (4, .inl (j))]) (st' := [.inr (.inr (some (192)))]) rfl ?_
  refine ez_gC (p := 195) (tg := 47) hB t192 rfl rfl tq_44 rfl rfl (fun (t195 : _ = 47) => ?_)
  refine ez_go (n := 1) (pc' := 35) (L' := [(0, .inr (.inr (some (192)))), (1, .inl (t)), (2, .inl (u)), (3, .inl (i)), (4, .inl (j))]) (st' := [.inl (t), .inr (.inr (some (195)))]) rfl ?_
  have n6 : 8 ≤ qz_N h 195 ∧ qz_N h 195 ≤ 8 := ez_len hB t195 tq_47 rfl
  have y7 : 1 ≤ qz_I h 195 (t).toNat ∧ qz_I h 195 (t).toNat ≤ 1000000 := ez_aB hB t195 tq_47 rfl rfl (by decide) (by omega) (by omega)
  have y7' : ((qz_P h 195 (t).toNat : Nat) : Int) + 1 = qz_I h 195 (t).toNat := by unfold qz_P; omega
  refine ez_aR hB t195 rfl tq_47 rfl rfl (by omega) (by omega) (by omega) (fun (t5 : _ = 88) => ?_)
  rw [show qz_P h 195 (t).toNat = 754 + 2 * (t).toNat by unfold qz_P; have := (sl (t).toNat (by omega)).1; omega]
  refine ez_go (n := 1) (pc' := 37) (L' := [(0, .inr (.inr (some (192)))), (1, .inl (t)), (2, .inl (u)), (3, .inl (i)), (4, .inl (j))]) (st' := [.inr (.inr (some (192))), .inr (.inr (some (754 + 2 * (t).toNat)))]) rfl ?_
  refine ez_gC (p := 195) (tg := 47) hB t192 rfl rfl tq_44 rfl rfl (fun (t195 : _ = 47) => ?_)
  refine ez_go (n := 1) (pc' := 41) (L' := [(0, .inr (.inr (some (192)))), (1, .inl (t)), (2, .inl (u)), (3, .inl (i)), (4, .inl (j))]) (st' := [.inl (u), .inr (.inr (some (195))), .inr (.inr (some (754 + 2 * (t).toNat)))]) rfl ?_
  have n9 : 8 ≤ qz_N h 195 ∧ qz_N h 195 ≤ 8 := ez_len hB t195 tq_47 rfl
  have y10 : 1 ≤ qz_I h 195 (u).toNat ∧ qz_I h 195 (u).toNat ≤ 1000000 := ez_aB hB t195 tq_47 rfl rfl (by decide) (by omega) (by omega)
  have y10' : ((qz_P h 195 (u).toNat : Nat) : Int) + 1 = qz_I h 195 (u).toNat := by unfold qz_P; omega
  refine ez_aR hB t195 rfl tq_47 rfl rfl (by omega) (by omega) (by omega) (fun (t8 : _ = 88) => ?_)
  rw [show qz_P h 195 (u).toNat = 754 + 2 * (u).toNat by unfold qz_P; have := (sl (u).toNat (by omega)).1; omega]
  refine ez_go (n := 2) (pc' := 45) (L' := [(0, .inr (.inr (some (192)))), (1, .inl (t)), (2, .inl (u)), (3, .inl (i)), (4, .inl (j))]) (st' := [.inl (j), .inl (i), .inr (.inr (some (754 + 2 * (u).toNat))), .inr (.inr (some (754 + 2 * (t).toNat)))]) rfl ?_
  refine ez_cv hB (mx_tag hX (show (t).toNat < 8 by omega)).2.1 rfl rfl rfl tq_88 rfl rfl rfl (rd_takePart_s hB (mx_tag hX (show (t).toNat < 8 by omega)).2.1 (mx_tag hX (show (u).toNat < 8 by omega)).2.1 tu.1 (by omega) (by omega) (by omega) (fun g hBg fg ag => ez_K0 ?_))
  have c95 : ∀ j, qz_I g 195 j = qz_I h 195 j := fun j => fg.I (tx_Pn (by omega) (by omega)) j
  refine ez_go (n := 1) (pc' := 49) (L' := [(0, .inr (.inr (some (192)))), (1, .inl (t)), (2, .inl (u)), (3, .inl (i)), (4, .inl (j))]) (st' := [.inr (.inr (some (192)))]) rfl ?_
  refine ez_gC (p := 195) (tg := 47) hBg t192 rfl rfl tq_44 rfl rfl (fun (t195 : _ = 47) => ?_)
  refine ez_go (n := 1) (pc' := 53) (L' := [(0, .inr (.inr (some (192)))), (1, .inl (t)), (2, .inl (u)), (3, .inl (i)), (4, .inl (j))]) (st' := [.inl (t), .inr (.inr (some (195)))]) rfl ?_
  have n12 : 8 ≤ qz_N g 195 ∧ qz_N g 195 ≤ 8 := ez_len hBg t195 tq_47 rfl
  have y13 : 1 ≤ qz_I g 195 (t).toNat ∧ qz_I g 195 (t).toNat ≤ 1000000 := ez_aB hBg t195 tq_47 rfl rfl (by decide) (by omega) (by omega)
  have y13' : ((qz_P g 195 (t).toNat : Nat) : Int) + 1 = qz_I g 195 (t).toNat := by unfold qz_P; omega
  refine ez_aR hBg t195 rfl tq_47 rfl rfl (by omega) (by omega) (by omega) (fun (t11 : _ = 88) => ?_)
  rw [show qz_P g 195 (t).toNat = 754 + 2 * (t).toNat by unfold qz_P; have := (sl (t).toNat (by omega)).1; rw [show qz_I g 195 (t).toNat = qz_I h 195 (t).toNat from c95 _]; omega]
  refine ez_gI hBg (mx_tag hX (show (t).toNat < 8 by omega)).2.1 rfl rfl tq_88 rfl rfl (fun (b14 : 0 ≤ qz_I g (754 + 2 * (t).toNat) 1) (b14' : qz_I g (754 + 2 * (t).toNat) 1 ≤ 2000) => ?_)
  rw [show qz_I g (754 + 2 * (t).toNat) 1 = ((pt (X u.toNat) i j).length : Int) from ag.1]
  exact ez_retI rfl rfl (k1 ⟨by omega, by omega, by omega, by omega, by omega⟩ g hBg fg ag)

theorem rd_cadd {t p : Int} (hB : ez_B τ h) (hX : jz_X τ) (sl : slt h) (txh : txs h X) (tr : ez_rg t) (pr : ez_rg p) (hr1 : h.1 + 1 ≤ 600192) (hr2 : h.2.1 + 6 ≤ 7302232) (kA : (t < 0 ∨ 7 < t ∨ p < 0 ∨ 1114111 < p) → Q (.inr h.1, xc h 1)) (kB : ((0 ≤ t ∧ t ≤ 7) ∧ 0 ≤ p ∧ p ≤ 1114111) → (X t.toNat).length = 2000 → Q (.inr h.1, xc h 0)) (k1 : ((0 ≤ t ∧ t ≤ 7) ∧ 0 ≤ p ∧ p ≤ 1114111) → (X t.toNat).length < 2000 → ∀ g, ez_B τ g → ez_fr (tx_P (754 + 2 * t.toNat)) h g → tx g (754 + 2 * t.toNat) (X t.toNat ++ [p]) → Q (.inl (some (ez_v (.inl (((X t.toNat).length : Int) + 1)))), g)) : ez_W (d + 8) cm_3 0 [(0, .inr (.inr (some (192)))), (1, .inl (t)), (2, .inl (p))] [] h Q := by
  have t192 : τ 192 = 44 := hX 192 (by decide)
  obtain ⟨tr1, tr2⟩ := id tr
  obtain ⟨pr1, pr2⟩ := id pr
  refine ez_go (n := 1) (pc' := 1) (L' := [(0, .inr (.inr (some (192)))), (1, .inl (t)), (2, .inl (p))]) (st' := [.inl (t)]) rfl ?_
  refine ez_cs hB.2.1 rfl rfl rfl rfl rfl (rd_reqSlot hB (show ez_rg (t) by assumption) (by omega) (by omega) (fun a12 b12 => ez_K0 ?_) (fun w => ez_Kp (xc_exc hB rfl) rfl (kA (by omega))))
  refine ez_go (n := 2) (pc' := 6) (L' := [(0, .inr (.inr (some (192)))), (1, .inl (t)), (2, .inl (p))]) (st' := [.inl (0), .inl (p)]) rfl ?_
  refine ez_ldc (1114111) rfl rfl rfl ?_
  refine ez_cs hB.2.1 rfl rfl rfl rfl rfl (rd_reqRange ⟨by omega, by omega⟩ ⟨by omega, by omega⟩ ⟨by omega, by omega⟩ (by omega) (by omega) (fun a13 b13 => ez_K0 ?_) (fun w => ez_Kp (xc_exc hB rfl) rfl (kA (by omega))))
  refine ez_go (n := 1) (pc' := 12) (L' := [(0, .inr (.inr (some (192)))), (1, .inl (t)), (2, .inl (p))]) (st' := [.inr (.inr (some (192)))]) rfl ?_
  refine ez_gC (p := 195) (tg := 47) hB t192 rfl rfl tq_44 rfl rfl (fun (t195 : _ = 47) => ?_)
  refine ez_go (n := 1) (pc' := 16) (L' := [(0, .inr (.inr (some (192)))), (1, .inl (t)), (2, .inl (p))]) (st' := [.inl (t), .inr (.inr (some (195)))]) rfl ?_
  have n2 : 8 ≤ qz_N h 195 ∧ qz_N h 195 ≤ 8 := ez_len hB t195 tq_47 rfl
  have y3 : 1 ≤ qz_I h 195 (t).toNat ∧ qz_I h 195 (t).toNat ≤ 1000000 := ez_aB hB t195 tq_47 rfl rfl (by decide) (by omega) (by omega)
  have y3' : ((qz_P h 195 (t).toNat : Nat) : Int) + 1 = qz_I h 195 (t).toNat := by unfold qz_P; omega
  refine ez_aR hB t195 rfl tq_47 rfl rfl (by omega) (by omega) (by omega) (fun (t1 : _ = 88) => ?_)
  rw [show qz_P h 195 (t).toNat = 754 + 2 * (t).toNat by unfold qz_P; have := (sl (t).toNat (by omega)).1; omega]
  refine ez_go (n := 1) (pc' := 18) (L' := [(0, .inr (.inr (some (192)))), (1, .inl (t)), (2, .inl (p))]) (st' := [.inl (p), .inr (.inr (some (754 + 2 * (t).toNat)))]) rfl ?_
  have tt := txh (t).toNat (by omega)
  refine ez_cv hB (mx_tag hX (show (t).toNat < 8 by omega)).2.1 rfl rfl rfl tq_88 rfl rfl rfl (rd_txa_s hB (mx_tag hX (show (t).toNat < 8 by omega)).2.1 tt.1 ⟨by omega, by omega⟩ (fun lt g hBg fg ag => ez_K1 ?_) (fun lt => ez_K1 ?_))
  · have c95 : ∀ j, qz_I g 195 j = qz_I h 195 j := fun j => fg.I (tx_Pn (by omega) (by omega)) j
    refine ez_cs hBg.2.1 rfl rfl rfl rfl rfl (rd_reqRoom1 (ez_K0 ?_))
    refine ez_go (n := 1) (pc' := 25) (L' := [(0, .inr (.inr (some (192)))), (1, .inl (t)), (2, .inl (p))]) (st' := [.inr (.inr (some (192)))]) rfl ?_
    refine ez_gC (p := 195) (tg := 47) hBg t192 rfl rfl tq_44 rfl rfl (fun (t195 : _ = 47) => ?_)
    refine ez_go (n := 1) (pc' := 29) (L' := [(0, .inr (.inr (some (192)))), (1, .inl (t)), (2, .inl (p))]) (st' := [.inl (t), .inr (.inr (some (195)))]) rfl ?_
    have n5 : 8 ≤ qz_N g 195 ∧ qz_N g 195 ≤ 8 := ez_len hBg t195 tq_47 rfl
    have y6 : 1 ≤ qz_I g 195 (t).toNat ∧ qz_I g 195 (t).toNat ≤ 1000000 := ez_aB hBg t195 tq_47 rfl rfl (by decide) (by omega) (by omega)
    have y6' : ((qz_P g 195 (t).toNat : Nat) : Int) + 1 = qz_I g 195 (t).toNat := by unfold qz_P; omega
    refine ez_aR hBg t195 rfl tq_47 rfl rfl (by omega) (by omega) (by omega) (fun (t4 : _ = 88) => ?_)
    rw [show qz_P g 195 (t).toNat = 754 + 2 * (t).toNat by unfold qz_P; have := (sl (t).toNat (by omega)).1; rw [show qz_I g 195 (t).toNat = qz_I h 195 (t).toNat from c95 _]; omega]
    refine ez_gI hBg (mx_tag hX (show (t).toNat < 8 by omega)).2.1 rfl rfl tq_88 rfl rfl (fun (b7 : 0 ≤ qz_I g (754 + 2 * (t).toNat) 1) (b7' : qz_I g (754 + 2 * (t).toNat) 1 ≤ 2000) => ?_)
    rw [show qz_I g (754 + 2 * (t).toNat) 1 = ((X (t).toNat).length : Int) + 1 from ag.1.trans (by rw [List.length_append]; rfl)]
    exact ez_retI rfl rfl (k1 (by omega) lt g hBg fg ag)
  · skip
    exact ez_cs hB.2.1 rfl rfl rfl rfl rfl (rd_reqRoom0 (by omega) (by omega) (ez_Kp (xc_exc hB rfl) rfl (kB (by omega) (by have := tt.2.2; omega))))

end EzCt
/-! The model: join. (Written by wip/p2/py/pvt11.py.) -/
section EzMj
variable {d : Nat} {h : cz_H} {τ : Nat → Nat} {Q : cz_F → Prop} {X : Nat → List Int}
theorem uz_f_ne {F : rz_W} {c : Bool} (hw : uz_wf F) : ∀ (n : Nat) (x : Int) (l : List Int), uz_f F c n x = some l → 1 ≤ l.length
  | 0, x, l, h => by cases h
  | n + 1, x, l, h => by
    unfold uz_f at h
    split at h
    · cases h
      unfold hz_sy
      split <;> simp
    · split at h
      · cases h; simp
      · rename_i q hq
        split at h
        · have h1 := ((hw x).2 q.1 q.2 hq).2.1.1
          cases hv : q.2 with
          | nil => rw [hv] at h1; simp at h1
          | cons v vs =>
            rw [hv] at h
            unfold uz_L at h
            cases e1 : uz_f F c n v with
            | none => rw [e1] at h; cases h
            | some a =>
              cases e2 : uz_L (uz_f F c n) vs with
              | none => rw [e1, e2] at h; cases h
              | some b =>
                rw [e1, e2] at h
                cases h
                have := uz_f_ne hw n v a e1
                rw [List.length_append]; omega
        · cases h; simp
theorem uz_FL_len {F : rz_W} {c : Bool} (hw : uz_wf F) : ∀ {u l : List Int}, uz_FL F c u l → u.length ≤ l.length
  | [], l, _ => Nat.zero_le _
  | x :: u, l, h => by
    obtain ⟨p, q, ⟨n, p1⟩, p2, rfl⟩ := uz_cons_inv h
    have := uz_f_ne hw n x p p1
    have := uz_FL_len hw p2
    rw [List.length_append, List.length_cons]; omega
theorem mxs.u {t : Nat} (m : mxs h X) (ht : t < 8) {j : Nat} {v : Int} (hv : (X t)[j]? = some v) : qz_I h (774 + t) j = v ∧ 0 ≤ v ∧ v ≤ 1114111 := ⟨(m t ht).1.2 j v hv, ptl_at (m t ht).2.1 hv⟩
theorem rd_mj_u {t u v fm : Int} (hX : jz_X τ) (sl : slt h) (mxh : mxs h X) (t770 : τ 770 = 75) (u0 : 0 ≤ u ∧ u ≤ 7) (v0 : 0 ≤ v ∧ v ≤ 7) (lt : ((X u.toNat).length : Int) + ((X v.toNat).length : Int) ≤ 2000) (kx : ∀ g, ez_B τ g → ez_fr (ez_one 797) h g → (∀ (n : Nat) z, (n : Int) < ((X u.toNat).length : Int) → (X u.toNat ++ X v.toNat)[n]? = some z → qz_I g 797 n = z) → ez_W (d + 8) cm_269 120 [(0, .inr (.inr (some (770)))), (1, .inl (t)), (2, .inl (u)), (3, .inl (v)), (4, .inl (fm))] [] g Q) : ∀ (m : Nat) (k : Int) (g : cz_H), m = (((X u.toNat).length : Int) - k).toNat → 0 ≤ k → k ≤ ((X u.toNat).length : Int) → ez_B τ g → ez_fr (ez_one 797) h g → (∀ (n : Nat) z, (n : Int) < k → (X u.toNat ++ X v.toNat)[n]? = some z → qz_I g 797 n = z) → ez_W (d + 8) cm_269 87 [(5, .inl (k)), (0, .inr (.inr (some (770)))), (1, .inl (t)), (2, .inl (u)), (3, .inl (v)), (4, .inl (fm))] [] g Q := by
  intro m
  induction m with
  | zero =>
    intro k g hm k0 k1 hBg hf hv9
    have c73 : ∀ j, qz_I g 773 j = qz_I h 773 j := fun j => hf.I rfl j
    have c82 : ∀ j, qz_I g 782 j = qz_I h 782 j := fun j => hf.I rfl j
    have cx : ∀ s j, s < 8 → qz_I g (774 + s) j = qz_I h (774 + s) j := fun s j hs => hf.I (dz_beq_ne (by omega)) j
    have lu := (mxh u.toNat (by omega)).2.2
    have lv := (mxh v.toNat (by omega)).2.2
    refine ez_go (n := 2) (pc' := 90) (L' := [(5, .inl (k)), (0, .inr (.inr (some (770)))), (1, .inl (t)), (2, .inl (u)), (3, .inl (v)), (4, .inl (fm))]) (st' := [.inr (.inr (some (770))), .inl (k)]) rfl ?_
    refine ez_gC (p := 782) (tg := 79) hBg t770 rfl rfl tq_75 rfl rfl (fun (t782 : _ = 79) => ?_)
    refine ez_go (n := 1) (pc' := 94) (L' := [(5, .inl (k)), (0, .inr (.inr (some (770)))), (1, .inl (t)), (2, .inl (u)), (3, .inl (v)), (4, .inl (fm))]) (st' := [.inl (u), .inr (.inr (some (782))), .inl (k)]) rfl ?_
    have n2 : 8 ≤ qz_N g 782 ∧ qz_N g 782 ≤ 8 := ez_len hBg t782 tq_79 rfl
    refine ez_aI hBg t782 rfl tq_79 rfl rfl (by omega) (by omega) (fun (b1 : 0 ≤ qz_I g 782 (u).toNat) (b1' : qz_I g 782 (u).toNat ≤ 2000) => ?_)
    rw [show qz_I g 782 (u).toNat = ((X (u).toNat).length : Int) from (c82 _).trans (mxh (u).toNat (by omega)).1.1]
    refine ez_icmp rfl rfl ⟨by first | omega | exact (sz_i32 _).1, by first | omega | exact (sz_i32 _).2⟩ ⟨by first | omega | exact (sz_i32 _).1, by first | omega | exact (sz_i32 _).2⟩ (fun (c3 : (((X (u).toNat).length : Int)) ≤ (k)) => ?_) (fun (c3 : ¬((((X (u).toNat).length : Int)) ≤ (k))) => ?_)
    · skip
      refine ez_less [(0, .inr (.inr (some (770)))), (1, .inl (t)), (2, .inl (u)), (3, .inl (v)), (4, .inl (fm))] rfl ⟨rfl, rfl, rfl, rfl, rfl, trivial⟩ ?_
      exact kx g hBg hf (fun n z hn hz => hv9 n z (by omega) hz)
    · exfalso; omega
  | succ m ih =>
    intro k g hm k0 k1 hBg hf hv9
    have c73 : ∀ j, qz_I g 773 j = qz_I h 773 j := fun j => hf.I rfl j
    have c82 : ∀ j, qz_I g 782 j = qz_I h 782 j := fun j => hf.I rfl j
    have cx : ∀ s j, s < 8 → qz_I g (774 + s) j = qz_I h (774 + s) j := fun s j hs => hf.I (dz_beq_ne (by omega)) j
    have lu := (mxh u.toNat (by omega)).2.2
    have lv := (mxh v.toNat (by omega)).2.2
    refine ez_go (n := 2) (pc' := 90) (L' := [(5, .inl (k)), (0, .inr (.inr (some (770)))), (1, .inl (t)), (2, .inl (u)), (3, .inl (v)), (4, .inl (fm))]) (st' := [.inr (.inr (some (770))), .inl (k)]) rfl ?_
    refine ez_gC (p := 782) (tg := 79) hBg t770 rfl rfl tq_75 rfl rfl (fun (t782 : _ = 79) => ?_)
    refine ez_go (n := 1) (pc' := 94) (L' := [(5, .inl (k)), (0, .inr (.inr (some (770)))), (1, .inl (t)), (2, .inl (u)), (3, .inl (v)), (4, .inl (fm))]) (st' := [.inl (u), .inr (.inr (some (782))), .inl (k)]) rfl ?_
    have n2 : 8 ≤ qz_N g 782 ∧ qz_N g 782 ≤ 8 := ez_len hBg t782 tq_79 rfl
    refine ez_aI hBg t782 rfl tq_79 rfl rfl (by omega) (by omega) (fun (b1 : 0 ≤ qz_I g 782 (u).toNat) (b1' : qz_I g 782 (u).toNat ≤ 2000) => ?_)
    rw [show qz_I g 782 (u).toNat = ((X (u).toNat).length : Int) from (c82 _).trans (mxh (u).toNat (by omega)).1.1]
    refine ez_icmp rfl rfl ⟨by first | omega | exact (sz_i32 _).1, by first | omega | exact (sz_i32 _).2⟩ ⟨by first | omega | exact (sz_i32 _).1, by first | omega | exact (sz_i32 _).2⟩ (fun (c3 : (((X (u).toNat).length : Int)) ≤ (k)) => ?_) (fun (c3 : ¬((((X (u).toNat).length : Int)) ≤ (k))) => ?_)
    · exfalso; omega
    · skip
      refine ez_go (n := 1) (pc' := 99) (L' := [(5, .inl (k)), (0, .inr (.inr (some (770)))), (1, .inl (t)), (2, .inl (u)), (3, .inl (v)), (4, .inl (fm))]) (st' := [.inr (.inr (some (770)))]) rfl ?_
      refine ez_gC (p := 797) (tg := 84) hBg t770 rfl rfl tq_75 rfl rfl (fun (t797 : _ = 84) => ?_)
      refine ez_go (n := 2) (pc' := 105) (L' := [(5, .inl (k)), (0, .inr (.inr (some (770)))), (1, .inl (t)), (2, .inl (u)), (3, .inl (v)), (4, .inl (fm))]) (st' := [.inr (.inr (some (770))), .inl (k), .inr (.inr (some (797)))]) rfl ?_
      refine ez_gC (p := 773) (tg := 78) hBg t770 rfl rfl tq_75 rfl rfl (fun (t773 : _ = 78) => ?_)
      refine ez_go (n := 1) (pc' := 109) (L' := [(5, .inl (k)), (0, .inr (.inr (some (770)))), (1, .inl (t)), (2, .inl (u)), (3, .inl (v)), (4, .inl (fm))]) (st' := [.inl (u), .inr (.inr (some (773))), .inl (k), .inr (.inr (some (797)))]) rfl ?_
      have n5 : 8 ≤ qz_N g 773 ∧ qz_N g 773 ≤ 8 := ez_len hBg t773 tq_78 rfl
      have y6 : 1 ≤ qz_I g 773 (u).toNat := (by have := (sl u.toNat (by omega)).2; rw [c73]; omega)
      have y7 : 1 ≤ qz_I g 773 (u).toNat ∧ qz_I g 773 (u).toNat ≤ 1000000 := ez_aB hBg t773 tq_78 rfl rfl (by decide) (by omega) (by omega)
      have y7' : ((qz_P g 773 (u).toNat : Nat) : Int) + 1 = qz_I g 773 (u).toNat := by unfold qz_P; omega
      refine ez_aR hBg t773 rfl tq_78 rfl rfl (by omega) (by omega) (by omega) (fun (t4 : _ = 37) => ?_)
      rw [show qz_P g 773 (u).toNat = 774 + (u).toNat by unfold qz_P; have := (sl (u).toNat (by omega)).2; rw [show qz_I g 773 (u).toNat = qz_I h 773 (u).toNat from c73 _]; omega]
      refine ez_go (n := 1) (pc' := 112) (L' := [(5, .inl (k)), (0, .inr (.inr (some (770)))), (1, .inl (t)), (2, .inl (u)), (3, .inl (v)), (4, .inl (fm))]) (st' := [.inl (k), .inr (.inr (some (774 + (u).toNat))), .inl (k), .inr (.inr (some (797)))]) rfl ?_
      have n9 : 2000 ≤ qz_N g (774 + (u).toNat) ∧ qz_N g (774 + (u).toNat) ≤ 2000 := ez_len hBg (mx_tag hX (show (u).toNat < 8 by omega)).1 tq_37 rfl
      refine ez_aI hBg (mx_tag hX (show (u).toNat < 8 by omega)).1 rfl tq_37 rfl rfl (by omega) (by omega) (fun (b8 : -2147483648 ≤ qz_I g (774 + (u).toNat) (k).toNat) (b8' : qz_I g (774 + (u).toNat) (k).toNat ≤ 2147483647) => ?_)
      have n12 : 2000 ≤ qz_N g 797 ∧ qz_N g 797 ≤ 2000 := ez_len hBg t797 tq_84 rfl
      refine ez_as hBg t797 rfl tq_84 rfl rfl (by omega) (by omega) (ez_vdI rfl rfl (by omega) (by omega)) (fun hB10 w11 => ?_)
      refine ez_go (n := 2) (pc' := 87) (L' := [(5, .inl (k + 1)), (0, .inr (.inr (some (770)))), (1, .inl (t)), (2, .inl (u)), (3, .inl (v)), (4, .inl (fm))]) (st' := []) rfl ?_
      refine ez_less [(5, .inl (k + 1)), (0, .inr (.inr (some (770)))), (1, .inl (t)), (2, .inl (u)), (3, .inl (v)), (4, .inl (fm))] rfl ⟨rfl, rfl, rfl, rfl, rfl, rfl, trivial⟩ ?_
      have l9 : k.toNat < (X (u).toNat).length := by omega
      have ux := mxh.u (show (u).toNat < 8 by omega) (List.getElem?_eq_getElem l9)
      refine ih (k + 1) _ (by omega) (by omega) (by omega) hB10 (hf.put (show Nat.beq 797 797 = true from rfl) _ _) (fun n z hn hz => ?_)
      by_cases en : (n : Int) = k
      · rw [show n = (k).toNat by omega, w11, show qz_I g (774 + (u).toNat) (k).toNat = (X (u).toNat)[k.toNat] from (cx _ _ (by omega)).trans ux.1, rz_rd ⟨by omega, by omega⟩]
        rw [show n = k.toNat by omega, List.getElem?_append_left l9, List.getElem?_eq_getElem l9] at hz; cases hz; rfl
      · rw [ez_put_I (fun w => by omega)]; exact hv9 n z (by omega) hz

theorem rd_mj_v {t u v fm : Int} (hX : jz_X τ) (sl : slt h) (mxh : mxs h X) (t770 : τ 770 = 75) (u0 : 0 ≤ u ∧ u ≤ 7) (v0 : 0 ≤ v ∧ v ≤ 7) (lt : ((X u.toNat).length : Int) + ((X v.toNat).length : Int) ≤ 2000) (kx : ∀ g, ez_B τ g → ez_fr (ez_one 797) h g → (∀ (n : Nat) z, (n : Int) < ((X u.toNat).length : Int) + ((X v.toNat).length : Int) → (X u.toNat ++ X v.toNat)[n]? = some z → qz_I g 797 n = z) → ez_W (d + 8) cm_269 163 [(0, .inr (.inr (some (770)))), (1, .inl (t)), (2, .inl (u)), (3, .inl (v)), (4, .inl (fm))] [] g Q) : ∀ (m : Nat) (k : Int) (g : cz_H), m = (((X v.toNat).length : Int) - k).toNat → 0 ≤ k → k ≤ ((X v.toNat).length : Int) → ez_B τ g → ez_fr (ez_one 797) h g → (∀ (n : Nat) z, (n : Int) < ((X u.toNat).length : Int) + k → (X u.toNat ++ X v.toNat)[n]? = some z → qz_I g 797 n = z) → ez_W (d + 8) cm_269 123 [(5, .inl (k)), (0, .inr (.inr (some (770)))), (1, .inl (t)), (2, .inl (u)), (3, .inl (v)), (4, .inl (fm))] [] g Q := by
  intro m
  induction m with
  | zero =>
    intro k g hm k0 k1 hBg hf hv9
    have c73 : ∀ j, qz_I g 773 j = qz_I h 773 j := fun j => hf.I rfl j
    have c82 : ∀ j, qz_I g 782 j = qz_I h 782 j := fun j => hf.I rfl j
    have cx : ∀ s j, s < 8 → qz_I g (774 + s) j = qz_I h (774 + s) j := fun s j hs => hf.I (dz_beq_ne (by omega)) j
    have lu := (mxh u.toNat (by omega)).2.2
    have lv := (mxh v.toNat (by omega)).2.2
    refine ez_go (n := 2) (pc' := 126) (L' := [(5, .inl (k)), (0, .inr (.inr (some (770)))), (1, .inl (t)), (2, .inl (u)), (3, .inl (v)), (4, .inl (fm))]) (st' := [.inr (.inr (some (770))), .inl (k)]) rfl ?_
    refine ez_gC (p := 782) (tg := 79) hBg t770 rfl rfl tq_75 rfl rfl (fun (t782 : _ = 79) => ?_)
    refine ez_go (n := 1) (pc' := 130) (L' := [(5, .inl (k)), (0, .inr (.inr (some (770)))), (1, .inl (t)), (2, .inl (u)), (3, .inl (v)), (4, .inl (fm))]) (st' := [.inl (v), .inr (.inr (some (782))), .inl (k)]) rfl ?_
    have n2 : 8 ≤ qz_N g 782 ∧ qz_N g 782 ≤ 8 := ez_len hBg t782 tq_79 rfl
    refine ez_aI hBg t782 rfl tq_79 rfl rfl (by omega) (by omega) (fun (b1 : 0 ≤ qz_I g 782 (v).toNat) (b1' : qz_I g 782 (v).toNat ≤ 2000) => ?_)
    rw [show qz_I g 782 (v).toNat = ((X (v).toNat).length : Int) from (c82 _).trans (mxh (v).toNat (by omega)).1.1]
    refine ez_icmp rfl rfl ⟨by first | omega | exact (sz_i32 _).1, by first | omega | exact (sz_i32 _).2⟩ ⟨by first | omega | exact (sz_i32 _).1, by first | omega | exact (sz_i32 _).2⟩ (fun (c3 : (((X (v).toNat).length : Int)) ≤ (k)) => ?_) (fun (c3 : ¬((((X (v).toNat).length : Int)) ≤ (k))) => ?_)
    · skip
      refine ez_less [(0, .inr (.inr (some (770)))), (1, .inl (t)), (2, .inl (u)), (3, .inl (v)), (4, .inl (fm))] rfl ⟨rfl, rfl, rfl, rfl, rfl, trivial⟩ ?_
      exact kx g hBg hf (fun n z hn hz => hv9 n z (by omega) hz)
    · exfalso; omega
  | succ m ih =>
    intro k g hm k0 k1 hBg hf hv9
    have c73 : ∀ j, qz_I g 773 j = qz_I h 773 j := fun j => hf.I rfl j
    have c82 : ∀ j, qz_I g 782 j = qz_I h 782 j := fun j => hf.I rfl j
    have cx : ∀ s j, s < 8 → qz_I g (774 + s) j = qz_I h (774 + s) j := fun s j hs => hf.I (dz_beq_ne (by omega)) j
    have lu := (mxh u.toNat (by omega)).2.2
    have lv := (mxh v.toNat (by omega)).2.2
    refine ez_go (n := 2) (pc' := 126) (L' := [(5, .inl (k)), (0, .inr (.inr (some (770)))), (1, .inl (t)), (2, .inl (u)), (3, .inl (v)), (4, .inl (fm))]) (st' := [.inr (.inr (some (770))), .inl (k)]) rfl ?_
    refine ez_gC (p := 782) (tg := 79) hBg t770 rfl rfl tq_75 rfl rfl (fun (t782 : _ = 79) => ?_)
    refine ez_go (n := 1) (pc' := 130) (L' := [(5, .inl (k)), (0, .inr (.inr (some (770)))), (1, .inl (t)), (2, .inl (u)), (3, .inl (v)), (4, .inl (fm))]) (st' := [.inl (v), .inr (.inr (some (782))), .inl (k)]) rfl ?_
    have n2 : 8 ≤ qz_N g 782 ∧ qz_N g 782 ≤ 8 := ez_len hBg t782 tq_79 rfl
    refine ez_aI hBg t782 rfl tq_79 rfl rfl (by omega) (by omega) (fun (b1 : 0 ≤ qz_I g 782 (v).toNat) (b1' : qz_I g 782 (v).toNat ≤ 2000) => ?_)
    rw [show qz_I g 782 (v).toNat = ((X (v).toNat).length : Int) from (c82 _).trans (mxh (v).toNat (by omega)).1.1]
    refine ez_icmp rfl rfl ⟨by first | omega | exact (sz_i32 _).1, by first | omega | exact (sz_i32 _).2⟩ ⟨by first | omega | exact (sz_i32 _).1, by first | omega | exact (sz_i32 _).2⟩ (fun (c3 : (((X (v).toNat).length : Int)) ≤ (k)) => ?_) (fun (c3 : ¬((((X (v).toNat).length : Int)) ≤ (k))) => ?_)
    · exfalso; omega
    · skip
      refine ez_go (n := 1) (pc' := 135) (L' := [(5, .inl (k)), (0, .inr (.inr (some (770)))), (1, .inl (t)), (2, .inl (u)), (3, .inl (v)), (4, .inl (fm))]) (st' := [.inr (.inr (some (770)))]) rfl ?_
      refine ez_gC (p := 797) (tg := 84) hBg t770 rfl rfl tq_75 rfl rfl (fun (t797 : _ = 84) => ?_)
      refine ez_go (n := 1) (pc' := 139) (L' := [(5, .inl (k)), (0, .inr (.inr (some (770)))), (1, .inl (t)), (2, .inl (u)), (3, .inl (v)), (4, .inl (fm))]) (st' := [.inr (.inr (some (770))), .inr (.inr (some (797)))]) rfl ?_
      refine ez_gC (p := 782) (tg := 79) hBg t770 rfl rfl tq_75 rfl rfl (fun (t782 : _ = 79) => ?_)
      refine ez_go (n := 1) (pc' := 143) (L' := [(5, .inl (k)), (0, .inr (.inr (some (770)))), (1, .inl (t)), (2, .inl (u)), (3, .inl (v)), (4, .inl (fm))]) (st' := [.inl (u), .inr (.inr (some (782))), .inr (.inr (some (797)))]) rfl ?_
      have n5 : 8 ≤ qz_N g 782 ∧ qz_N g 782 ≤ 8 := ez_len hBg t782 tq_79 rfl
      refine ez_aI hBg t782 rfl tq_79 rfl rfl (by omega) (by omega) (fun (b4 : 0 ≤ qz_I g 782 (u).toNat) (b4' : qz_I g 782 (u).toNat ≤ 2000) => ?_)
      rw [show qz_I g 782 (u).toNat = ((X (u).toNat).length : Int) from (c82 _).trans (mxh (u).toNat (by omega)).1.1]
      refine ez_go (n := 3) (pc' := 148) (L' := [(5, .inl (k)), (0, .inr (.inr (some (770)))), (1, .inl (t)), (2, .inl (u)), (3, .inl (v)), (4, .inl (fm))]) (st' := [.inr (.inr (some (770))), .inl ((((X (u).toNat).length : Int)) + (k)), .inr (.inr (some (797)))]) rfl ?_
      refine ez_gC (p := 773) (tg := 78) hBg t770 rfl rfl tq_75 rfl rfl (fun (t773 : _ = 78) => ?_)
      refine ez_go (n := 1) (pc' := 152) (L' := [(5, .inl (k)), (0, .inr (.inr (some (770)))), (1, .inl (t)), (2, .inl (u)), (3, .inl (v)), (4, .inl (fm))]) (st' := [.inl (v), .inr (.inr (some (773))), .inl ((((X (u).toNat).length : Int)) + (k)), .inr (.inr (some (797)))]) rfl ?_
      have n7 : 8 ≤ qz_N g 773 ∧ qz_N g 773 ≤ 8 := ez_len hBg t773 tq_78 rfl
      have y8 : 1 ≤ qz_I g 773 (v).toNat := (by have := (sl v.toNat (by omega)).2; rw [c73]; omega)
      have y9 : 1 ≤ qz_I g 773 (v).toNat ∧ qz_I g 773 (v).toNat ≤ 1000000 := ez_aB hBg t773 tq_78 rfl rfl (by decide) (by omega) (by omega)
      have y9' : ((qz_P g 773 (v).toNat : Nat) : Int) + 1 = qz_I g 773 (v).toNat := by unfold qz_P; omega
      refine ez_aR hBg t773 rfl tq_78 rfl rfl (by omega) (by omega) (by omega) (fun (t6 : _ = 37) => ?_)
      rw [show qz_P g 773 (v).toNat = 774 + (v).toNat by unfold qz_P; have := (sl (v).toNat (by omega)).2; rw [show qz_I g 773 (v).toNat = qz_I h 773 (v).toNat from c73 _]; omega]
      refine ez_go (n := 1) (pc' := 155) (L' := [(5, .inl (k)), (0, .inr (.inr (some (770)))), (1, .inl (t)), (2, .inl (u)), (3, .inl (v)), (4, .inl (fm))]) (st' := [.inl (k), .inr (.inr (some (774 + (v).toNat))), .inl ((((X (u).toNat).length : Int)) + (k)), .inr (.inr (some (797)))]) rfl ?_
      have n11 : 2000 ≤ qz_N g (774 + (v).toNat) ∧ qz_N g (774 + (v).toNat) ≤ 2000 := ez_len hBg (mx_tag hX (show (v).toNat < 8 by omega)).1 tq_37 rfl
      refine ez_aI hBg (mx_tag hX (show (v).toNat < 8 by omega)).1 rfl tq_37 rfl rfl (by omega) (by omega) (fun (b10 : -2147483648 ≤ qz_I g (774 + (v).toNat) (k).toNat) (b10' : qz_I g (774 + (v).toNat) (k).toNat ≤ 2147483647) => ?_)
      have n14 : 2000 ≤ qz_N g 797 ∧ qz_N g 797 ≤ 2000 := ez_len hBg t797 tq_84 rfl
      refine ez_as hBg t797 rfl tq_84 rfl rfl (by omega) (by omega) (ez_vdI rfl rfl (by omega) (by omega)) (fun hB12 w13 => ?_)
      refine ez_go (n := 2) (pc' := 123) (L' := [(5, .inl (k + 1)), (0, .inr (.inr (some (770)))), (1, .inl (t)), (2, .inl (u)), (3, .inl (v)), (4, .inl (fm))]) (st' := []) rfl ?_
      refine ez_less [(5, .inl (k + 1)), (0, .inr (.inr (some (770)))), (1, .inl (t)), (2, .inl (u)), (3, .inl (v)), (4, .inl (fm))] rfl ⟨rfl, rfl, rfl, rfl, rfl, rfl, trivial⟩ ?_
      have l9 : k.toNat < (X (v).toNat).length := by omega
      have ux := mxh.u (show (v).toNat < 8 by omega) (List.getElem?_eq_getElem l9)
      refine ih (k + 1) _ (by omega) (by omega) (by omega) hB12 (hf.put (show Nat.beq 797 797 = true from rfl) _ _) (fun n z hn hz => ?_)
      by_cases en : (n : Int) = ((X u.toNat).length : Int) + k
      · rw [show n = (((X u.toNat).length : Int) + k).toNat by omega, w13, show qz_I g (774 + (v).toNat) (k).toNat = (X (v).toNat)[k.toNat] from (cx _ _ (by omega)).trans ux.1, rz_rd ⟨by omega, by omega⟩]
        rw [List.getElem?_append_right (by omega), show n - (X (u).toNat).length = k.toNat by omega, List.getElem?_eq_getElem l9] at hz; cases hz; rfl
      · rw [ez_put_I (fun w => by omega)]; exact hv9 n z (by omega) hz

/-- the row that is kept is none of DATA's -/
theorem kptC {g : cz_H} {Ls : List vz} (c : nmC τ h Ls) (hB : ez_B τ g) (f : ez_fr (ez_one 797) h g) : nmC τ g Ls := by
  have t770 : τ 770 = 75 := c.1.2.1 770 (by decide)
  have t797 : τ 797 = 84 := c.1.2.1 797 (by decide)
  have tp := ez_tpq c.1.1 t770
  have td := ez_tdb c.1.1 t770
  have k : ∀ q, τ q ≠ 84 → g.2.2 q = h.2.2 q := fun q hq => f.2.2 q (dz_beq_ne (fun e => hq (by rw [e]; exact t797)))
  have i : ∀ j, qz_I g 770 j = qz_I h 770 j := fun j => f.I rfl j
  exact ⟨c.1.gen hB (fun _ _ => rfl) (fun q q0 => by rw [q0]; decide) (fun q hq => k q (by omega)) (fun j j1 j2 => i j), c.2.1.tr hB (fun _ _ => rfl) (fun q q0 w => by omega) (fun j hj => i j) (fun q hq => k q (by omega)), c.2.2.1.tr (fun j hj => i j) (k _ (by omega)) (k _ (by omega)), c.2.2.2⟩
theorem rd_mjoin {t u v fm : Int} {Ls : List vz} (hB : ez_B τ h) (hX : jz_X τ) (c : qz_I h 770 7 ≠ 0 → nmC τ h Ls) (sl : slt h) (mxh : mxs h X) (tr : ez_rg t) (ur : ez_rg u) (vr : ez_rg v) (fmr : ez_rg fm) (hr1 : h.1 + 1000 ≤ 600192) (hr2 : h.2.1 + 150000 ≤ 7302232) (kA : (t < 0 ∨ 7 < t ∨ u < 0 ∨ 7 < u ∨ v < 0 ∨ 7 < v ∨ fm < 0 ∨ 3 < fm) → ∀ g, ez_B τ g → mF h g 1 → Q (.inl (some (ez_v (.inl 0))), g)) (kS : ((0 ≤ t ∧ t ≤ 7) ∧ (0 ≤ u ∧ u ≤ 7) ∧ (0 ≤ v ∧ v ≤ 7) ∧ 0 ≤ fm ∧ fm ≤ 3) → qz_I h 770 7 = 0 → ∀ g, ez_B τ g → mF h g 2 → Q (.inl (some (ez_v (.inl 0))), g)) (kL : ((0 ≤ t ∧ t ≤ 7) ∧ (0 ≤ u ∧ u ≤ 7) ∧ (0 ≤ v ∧ v ≤ 7) ∧ 0 ≤ fm ∧ fm ≤ 3) → qz_I h 770 7 ≠ 0 → 2000 < (X u.toNat).length + (X v.toNat).length → ∀ g, ez_B τ g → mF h g 3 → Q (.inl (some (ez_v (.inl 0))), g)) (kX : ((0 ≤ t ∧ t ≤ 7) ∧ (0 ≤ u ∧ u ≤ 7) ∧ (0 ≤ v ∧ v ≤ 7) ∧ 0 ≤ fm ∧ fm ≤ 3) → qz_I h 770 7 ≠ 0 → ∀ h1, ez_B τ h1 → mF h h1 0 → ∀ h2, ez_B τ h2 → ez_fr (ez_one 797) h1 h2 → ∀ m, uz_FL (vF Ls) (decide (fm = 1 ∨ fm = 3)) (X u.toNat ++ X v.toNat) m → 2000 < m.length → ∀ g2 τ2, ez_B τ2 g2 → nk τ h2 τ2 g2 → ∀ g, ez_B τ2 g → mF (xc g2 0) g 3 → Q (.inl (some (ez_v (.inl 0))), g)) (k1 : ((0 ≤ t ∧ t ≤ 7) ∧ (0 ≤ u ∧ u ≤ 7) ∧ (0 ≤ v ∧ v ≤ 7) ∧ 0 ≤ fm ∧ fm ≤ 3) → qz_I h 770 7 ≠ 0 → ∀ h1, ez_B τ h1 → mF h h1 0 → ∀ h2, ez_B τ h2 → ez_fr (ez_one 797) h1 h2 → ∀ m res, uz_FL (vF Ls) (decide (fm = 1 ∨ fm = 3)) (X u.toNat ++ X v.toNat) m → m.length ≤ 2000 → nfR (vF Ls) (vE Ls) fm m res → ptl res → ∀ g2 τ2, ez_B τ2 g2 → nk τ h2 τ2 g2 → tm g2 res → ∀ g, ez_B τ2 g → mxf t.toNat g2 g → mx g t.toNat res → Q (.inl (some (ez_v (.inl (res.length : Int)))), g)) : ez_W (d + 8) cm_269 0 [(0, .inr (.inr (some (770)))), (1, .inl (t)), (2, .inl (u)), (3, .inl (v)), (4, .inl (fm))] [] h Q := by
  have t770 : τ 770 = 75 := hX 770 (by decide)
  obtain ⟨tr1, tr2⟩ := id tr
  obtain ⟨ur1, ur2⟩ := id ur
  obtain ⟨vr1, vr2⟩ := id vr
  obtain ⟨fmr1, fmr2⟩ := id fmr
  refine ez_go (n := 2) (pc' := 2) (L' := [(0, .inr (.inr (some (770)))), (1, .inl (t)), (2, .inl (u)), (3, .inl (v)), (4, .inl (fm))]) (st' := [.inl (0), .inr (.inr (some (770)))]) rfl ?_
  refine ez_pf hB t770 rfl rfl tq_75 rfl rfl rfl rfl (ez_vdI rfl rfl (by omega) (by omega)) (fun hB1 w2 => ?_)
  have fP : ez_fr (ez_one 770) h (dz_put h 770 0 (ez_v (.inl (0)))) := (ez_fr.refl (ez_one 770) h).put rfl _ _
  have vP : qz_I (dz_put h 770 0 (ez_v (.inl (0)))) 770 0 = 0 := w2.trans (rz_rd ⟨by omega, by omega⟩)
  have iP : ∀ j, j ≠ 0 → qz_I (dz_put h 770 0 (ez_v (.inl (0)))) 770 j = qz_I h 770 j := fun j hj => ez_put_I (fun w => hj w.2)
  have hP := hB1
  generalize (dz_put h 770 0 (ez_v (.inl (0)))) = h1 at *
  have cP1 := fP.1; have cP2 := fP.2.1
  refine ez_go (n := 2) (pc' := 7) (L' := [(0, .inr (.inr (some (770)))), (1, .inl (t)), (2, .inl (u)), (3, .inl (v)), (4, .inl (fm))]) (st' := [.inl (t), .inr (.inr (some (770)))]) rfl ?_
  refine ez_cv hP t770 rfl rfl rfl tq_75 rfl rfl rfl (rd_mout (show ez_rg (t) by assumption) (fun o6 => ez_K1 ?_) (fun o6 => ez_K1 ?_))
  · skip
    refine ez_if rfl rfl ⟨by decide, by decide⟩ (fun _ => ?_) (fun (c3 : ¬((1 : Int) ≠ (0))) => absurd c3 (by decide))
    refine ez_go (n := 2) (pc' := 42) (L' := [(0, .inr (.inr (some (770)))), (1, .inl (t)), (2, .inl (u)), (3, .inl (v)), (4, .inl (fm))]) (st' := [.inl (1), .inr (.inr (some (770)))]) rfl ?_
    refine ez_cv hP t770 rfl rfl rfl tq_75 rfl rfl rfl (rd_mfail hP t770 (by omega) (by omega) (fun gf hBf ff jf vf0 => ez_K1 ?_))
    exact ez_retI rfl rfl (kA (by omega) gf hBf (mF.trans ⟨fP, iP, vP⟩ ⟨ff, jf, vf0⟩))
  · skip
    refine ez_if rfl rfl ⟨by decide, by decide⟩ (fun (c4 : (0 : Int) ≠ (0)) => absurd c4 (by decide)) (fun _ => ?_)
    refine ez_go (n := 2) (pc' := 15) (L' := [(0, .inr (.inr (some (770)))), (1, .inl (t)), (2, .inl (u)), (3, .inl (v)), (4, .inl (fm))]) (st' := [.inl (u), .inr (.inr (some (770)))]) rfl ?_
    refine ez_cv hP t770 rfl rfl rfl tq_75 rfl rfl rfl (rd_mout (show ez_rg (u) by assumption) (fun o7 => ez_K1 ?_) (fun o7 => ez_K1 ?_))
    · skip
      refine ez_if rfl rfl ⟨by decide, by decide⟩ (fun _ => ?_) (fun (c5 : ¬((1 : Int) ≠ (0))) => absurd c5 (by decide))
      refine ez_go (n := 2) (pc' := 42) (L' := [(0, .inr (.inr (some (770)))), (1, .inl (t)), (2, .inl (u)), (3, .inl (v)), (4, .inl (fm))]) (st' := [.inl (1), .inr (.inr (some (770)))]) rfl ?_
      refine ez_cv hP t770 rfl rfl rfl tq_75 rfl rfl rfl (rd_mfail hP t770 (by omega) (by omega) (fun gf hBf ff jf vf0 => ez_K1 ?_))
      exact ez_retI rfl rfl (kA (by omega) gf hBf (mF.trans ⟨fP, iP, vP⟩ ⟨ff, jf, vf0⟩))
    · skip
      refine ez_if rfl rfl ⟨by decide, by decide⟩ (fun (c6 : (0 : Int) ≠ (0)) => absurd c6 (by decide)) (fun _ => ?_)
      refine ez_go (n := 2) (pc' := 23) (L' := [(0, .inr (.inr (some (770)))), (1, .inl (t)), (2, .inl (u)), (3, .inl (v)), (4, .inl (fm))]) (st' := [.inl (v), .inr (.inr (some (770)))]) rfl ?_
      refine ez_cv hP t770 rfl rfl rfl tq_75 rfl rfl rfl (rd_mout (show ez_rg (v) by assumption) (fun o8 => ez_K1 ?_) (fun o8 => ez_K1 ?_))
      · skip
        refine ez_if rfl rfl ⟨by decide, by decide⟩ (fun _ => ?_) (fun (c7 : ¬((1 : Int) ≠ (0))) => absurd c7 (by decide))
        refine ez_go (n := 2) (pc' := 42) (L' := [(0, .inr (.inr (some (770)))), (1, .inl (t)), (2, .inl (u)), (3, .inl (v)), (4, .inl (fm))]) (st' := [.inl (1), .inr (.inr (some (770)))]) rfl ?_
        refine ez_cv hP t770 rfl rfl rfl tq_75 rfl rfl rfl (rd_mfail hP t770 (by omega) (by omega) (fun gf hBf ff jf vf0 => ez_K1 ?_))
        exact ez_retI rfl rfl (kA (by omega) gf hBf (mF.trans ⟨fP, iP, vP⟩ ⟨ff, jf, vf0⟩))
      · skip
        refine ez_if rfl rfl ⟨by decide, by decide⟩ (fun (c8 : (0 : Int) ≠ (0)) => absurd c8 (by decide)) (fun _ => ?_)
        refine ez_go (n := 1) (pc' := 31) (L' := [(0, .inr (.inr (some (770)))), (1, .inl (t)), (2, .inl (u)), (3, .inl (v)), (4, .inl (fm))]) (st' := [.inl (fm)]) rfl ?_
        refine ez_if rfl rfl ⟨by first | omega | exact (sz_i32 _).1, by first | omega | exact (sz_i32 _).2⟩ (fun (c9 : (fm) < (0)) => ?_) (fun (c9 : ¬((fm) < (0))) => ?_)
        · skip
          refine ez_go (n := 2) (pc' := 42) (L' := [(0, .inr (.inr (some (770)))), (1, .inl (t)), (2, .inl (u)), (3, .inl (v)), (4, .inl (fm))]) (st' := [.inl (1), .inr (.inr (some (770)))]) rfl ?_
          refine ez_cv hP t770 rfl rfl rfl tq_75 rfl rfl rfl (rd_mfail hP t770 (by omega) (by omega) (fun gf hBf ff jf vf0 => ez_K1 ?_))
          exact ez_retI rfl rfl (kA (by omega) gf hBf (mF.trans ⟨fP, iP, vP⟩ ⟨ff, jf, vf0⟩))
        · skip
          refine ez_go (n := 2) (pc' := 37) (L' := [(0, .inr (.inr (some (770)))), (1, .inl (t)), (2, .inl (u)), (3, .inl (v)), (4, .inl (fm))]) (st' := [.inl (3), .inl (fm)]) rfl ?_
          refine ez_icmp rfl rfl ⟨by first | omega | exact (sz_i32 _).1, by first | omega | exact (sz_i32 _).2⟩ ⟨by first | omega | exact (sz_i32 _).1, by first | omega | exact (sz_i32 _).2⟩ (fun (c10 : (fm) ≤ (3)) => ?_) (fun (c10 : ¬((fm) ≤ (3))) => ?_)
          · skip
            refine ez_go (n := 1) (pc' := 47) (L' := [(0, .inr (.inr (some (770)))), (1, .inl (t)), (2, .inl (u)), (3, .inl (v)), (4, .inl (fm))]) (st' := [.inr (.inr (some (770)))]) rfl ?_
            refine ez_gI hP t770 rfl rfl tq_75 rfl rfl (fun (b11 : 0 ≤ qz_I h1 770 7) (b11' : qz_I h1 770 7 ≤ 1) => ?_)
            refine ez_if rfl rfl ⟨by first | omega | exact (sz_i32 _).1, by first | omega | exact (sz_i32 _).2⟩ (fun (c12 : (qz_I h1 770 7) ≠ (0)) => ?_) (fun (c12 : ¬((qz_I h1 770 7) ≠ (0))) => ?_)
            · skip
              have c1 := f7C (c (by rw [← iP 7 (by decide)]; assumption)) hP fP iP
              have k1P : ∀ q, q ≠ 770 → h1.2.2 q = h.2.2 q := fun q hq => fP.2.2 q (dz_beq_ne hq)
              have c82 : ∀ j, qz_I h1 782 j = qz_I h 782 j := fun j => fP.I rfl j
              have mx1 : mxs h1 X := mxh.k (fun q hq => k1P q (by omega))
              have sl1 : slt h1 := fun s hs => by unfold qz_I; rw [k1P 195 (by decide), k1P 773 (by decide)]; exact sl s hs
              have lu := (mxh u.toNat (by omega)).2.2
              have lv := (mxh v.toNat (by omega)).2.2
              refine ez_go (n := 1) (pc' := 60) (L' := [(0, .inr (.inr (some (770)))), (1, .inl (t)), (2, .inl (u)), (3, .inl (v)), (4, .inl (fm))]) (st' := [.inr (.inr (some (770)))]) rfl ?_
              refine ez_gC (p := 782) (tg := 79) hP t770 rfl rfl tq_75 rfl rfl (fun (t782 : _ = 79) => ?_)
              refine ez_go (n := 1) (pc' := 64) (L' := [(0, .inr (.inr (some (770)))), (1, .inl (t)), (2, .inl (u)), (3, .inl (v)), (4, .inl (fm))]) (st' := [.inl (u), .inr (.inr (some (782)))]) rfl ?_
              have n14 : 8 ≤ qz_N h1 782 ∧ qz_N h1 782 ≤ 8 := ez_len hP t782 tq_79 rfl
              refine ez_aI hP t782 rfl tq_79 rfl rfl (by omega) (by omega) (fun (b13 : 0 ≤ qz_I h1 782 (u).toNat) (b13' : qz_I h1 782 (u).toNat ≤ 2000) => ?_)
              rw [show qz_I h1 782 (u).toNat = ((X (u).toNat).length : Int) from (c82 _).trans (mxh (u).toNat (by omega)).1.1]
              refine ez_go (n := 1) (pc' := 66) (L' := [(0, .inr (.inr (some (770)))), (1, .inl (t)), (2, .inl (u)), (3, .inl (v)), (4, .inl (fm))]) (st' := [.inr (.inr (some (770))), .inl (((X (u).toNat).length : Int))]) rfl ?_
              refine ez_gC (p := 782) (tg := 79) hP t770 rfl rfl tq_75 rfl rfl (fun (t782 : _ = 79) => ?_)
              refine ez_go (n := 1) (pc' := 70) (L' := [(0, .inr (.inr (some (770)))), (1, .inl (t)), (2, .inl (u)), (3, .inl (v)), (4, .inl (fm))]) (st' := [.inl (v), .inr (.inr (some (782))), .inl (((X (u).toNat).length : Int))]) rfl ?_
              have n16 : 8 ≤ qz_N h1 782 ∧ qz_N h1 782 ≤ 8 := ez_len hP t782 tq_79 rfl
              refine ez_aI hP t782 rfl tq_79 rfl rfl (by omega) (by omega) (fun (b15 : 0 ≤ qz_I h1 782 (v).toNat) (b15' : qz_I h1 782 (v).toNat ≤ 2000) => ?_)
              rw [show qz_I h1 782 (v).toNat = ((X (v).toNat).length : Int) from (c82 _).trans (mxh (v).toNat (by omega)).1.1]
              refine ez_go (n := 2) (pc' := 75) (L' := [(0, .inr (.inr (some (770)))), (1, .inl (t)), (2, .inl (u)), (3, .inl (v)), (4, .inl (fm))]) (st' := [.inl (2000), .inl ((((X (u).toNat).length : Int)) + (((X (v).toNat).length : Int)))]) rfl ?_
              refine ez_icmp rfl rfl ⟨by first | omega | exact (sz_i32 _).1, by first | omega | exact (sz_i32 _).2⟩ ⟨by first | omega | exact (sz_i32 _).1, by first | omega | exact (sz_i32 _).2⟩ (fun (c17 : ((((X (u).toNat).length : Int)) + (((X (v).toNat).length : Int))) ≤ (2000)) => ?_) (fun (c17 : ¬(((((X (u).toNat).length : Int)) + (((X (v).toNat).length : Int))) ≤ (2000))) => ?_)
              · skip
                refine ez_go (n := 2) (pc' := 87) (L' := [(5, .inl (0)), (0, .inr (.inr (some (770)))), (1, .inl (t)), (2, .inl (u)), (3, .inl (v)), (4, .inl (fm))]) (st' := []) rfl ?_
                refine ez_less [(5, .inl (0)), (0, .inr (.inr (some (770)))), (1, .inl (t)), (2, .inl (u)), (3, .inl (v)), (4, .inl (fm))] rfl ⟨rfl, rfl, rfl, rfl, rfl, rfl, trivial⟩ ?_
                refine rd_mj_u (h := h1) hX sl1 mx1 t770 ⟨by omega, by omega⟩ ⟨by omega, by omega⟩ (by omega) (fun g1 hB1 f1 v1 => ?_) _ 0 h1 rfl (by omega) (by omega) hP (ez_fr.refl _ _) (fun n z hn => by omega)
                refine ez_go (n := 2) (pc' := 123) (L' := [(5, .inl (0)), (0, .inr (.inr (some (770)))), (1, .inl (t)), (2, .inl (u)), (3, .inl (v)), (4, .inl (fm))]) (st' := []) rfl ?_
                refine ez_less [(5, .inl (0)), (0, .inr (.inr (some (770)))), (1, .inl (t)), (2, .inl (u)), (3, .inl (v)), (4, .inl (fm))] rfl ⟨rfl, rfl, rfl, rfl, rfl, rfl, trivial⟩ ?_
                have mx2 : mxs g1 X := mx1.k (fun q hq => f1.2.2 q (dz_beq_ne (by omega)))
                have sl2 : slt g1 := sl1.k (f1.2.2 195 rfl) (f1.2.2 773 rfl)
                refine rd_mj_v (h := g1) hX sl2 mx2 t770 ⟨by omega, by omega⟩ ⟨by omega, by omega⟩ (by omega) (fun h2 hB2 f2 v2 => ?_) _ 0 g1 rfl (by omega) (by omega) hB1 (ez_fr.refl _ _) (fun n z hn hz => v1 n z (by omega) hz)
                have f12 := f1.trans f2
                have c82 : ∀ j, qz_I h2 782 j = qz_I h 782 j := fun j => (f12.I rfl j).trans (fP.I rfl j)
                have c2 := kptC c1 hB2 f12
                have t797 : τ 797 = 84 := hX 797 (by decide)
                have rm1 := f12.1; have rm2 := f12.2.1
                refine ez_go (n := 2) (pc' := 165) (L' := [(0, .inr (.inr (some (770)))), (1, .inl (t)), (2, .inl (u)), (3, .inl (v)), (4, .inl (fm))]) (st' := [.inr (.inr (some (770))), .inr (.inr (some (770)))]) rfl ?_
                refine ez_gC (p := 797) (tg := 84) hB2 t770 rfl rfl tq_75 rfl rfl (fun (t797 : _ = 84) => ?_)
                refine ez_go (n := 1) (pc' := 169) (L' := [(0, .inr (.inr (some (770)))), (1, .inl (t)), (2, .inl (u)), (3, .inl (v)), (4, .inl (fm))]) (st' := [.inr (.inr (some (770))), .inr (.inr (some (797))), .inr (.inr (some (770)))]) rfl ?_
                refine ez_gC (p := 782) (tg := 79) hB2 t770 rfl rfl tq_75 rfl rfl (fun (t782 : _ = 79) => ?_)
                refine ez_go (n := 1) (pc' := 173) (L' := [(0, .inr (.inr (some (770)))), (1, .inl (t)), (2, .inl (u)), (3, .inl (v)), (4, .inl (fm))]) (st' := [.inl (u), .inr (.inr (some (782))), .inr (.inr (some (797))), .inr (.inr (some (770)))]) rfl ?_
                have n19 : 8 ≤ qz_N h2 782 ∧ qz_N h2 782 ≤ 8 := ez_len hB2 t782 tq_79 rfl
                refine ez_aI hB2 t782 rfl tq_79 rfl rfl (by omega) (by omega) (fun (b18 : 0 ≤ qz_I h2 782 (u).toNat) (b18' : qz_I h2 782 (u).toNat ≤ 2000) => ?_)
                rw [show qz_I h2 782 (u).toNat = ((X (u).toNat).length : Int) from (c82 _).trans (mxh (u).toNat (by omega)).1.1]
                refine ez_go (n := 1) (pc' := 175) (L' := [(0, .inr (.inr (some (770)))), (1, .inl (t)), (2, .inl (u)), (3, .inl (v)), (4, .inl (fm))]) (st' := [.inr (.inr (some (770))), .inl (((X (u).toNat).length : Int)), .inr (.inr (some (797))), .inr (.inr (some (770)))]) rfl ?_
                refine ez_gC (p := 782) (tg := 79) hB2 t770 rfl rfl tq_75 rfl rfl (fun (t782 : _ = 79) => ?_)
                refine ez_go (n := 1) (pc' := 179) (L' := [(0, .inr (.inr (some (770)))), (1, .inl (t)), (2, .inl (u)), (3, .inl (v)), (4, .inl (fm))]) (st' := [.inl (v), .inr (.inr (some (782))), .inl (((X (u).toNat).length : Int)), .inr (.inr (some (797))), .inr (.inr (some (770)))]) rfl ?_
                have n21 : 8 ≤ qz_N h2 782 ∧ qz_N h2 782 ≤ 8 := ez_len hB2 t782 tq_79 rfl
                refine ez_aI hB2 t782 rfl tq_79 rfl rfl (by omega) (by omega) (fun (b20 : 0 ≤ qz_I h2 782 (v).toNat) (b20' : qz_I h2 782 (v).toNat ≤ 2000) => ?_)
                rw [show qz_I h2 782 (v).toNat = ((X (v).toNat).length : Int) from (c82 _).trans (mxh (v).toNat (by omega)).1.1]
                refine ez_go (n := 2) (pc' := 183) (L' := [(0, .inr (.inr (some (770)))), (1, .inl (t)), (2, .inl (u)), (3, .inl (v)), (4, .inl (fm))]) (st' := [.inl (fm), .inl ((((X (u).toNat).length : Int)) + (((X (v).toNat).length : Int))), .inr (.inr (some (797))), .inr (.inr (some (770)))]) rfl ?_
                have al := List.length_append (as := X u.toNat) (bs := X v.toNat)
                have pu := ptl_app (mxh u.toNat (by omega)).2.1 (mxh v.toNat (by omega)).2.1
                refine ez_cv hB2 t770 rfl rfl rfl tq_75 rfl rfl rfl (rd_mnorm_k (u := X u.toNat ++ X v.toNat) c2 t797 (by omega) (by omega) (fun n z hz => v2 n z (by have := (List.getElem?_eq_some_iff.mp hz).1; omega) hz) pu ⟨by omega, by omega⟩ (by omega) (by omega) (fun m res um lt nf pr g2 τ2 hB2 nk2 tm2 => ez_K0 ?_) (fun m um lt g2 τ2 hB2 nk2 => ez_Kc (xc_exc hB2 rfl) rfl ?_))
                · have u770 : τ2 770 = 75 := nk2.X hX 770 (by decide)
                  refine ez_go (n := 3) (pc' := 199) (L' := [(0, .inr (.inr (some (770)))), (1, .inl (t)), (2, .inl (u)), (3, .inl (v)), (4, .inl (fm))]) (st' := [.inl (t), .inr (.inr (some (770)))]) rfl ?_
                  have X2 := nk2.X hX
                  have rl : res.length ≤ 2000 := by have := tm2.1; have : 0 ≤ qz_I g2 770 30 ∧ qz_I g2 770 30 ≤ 2000 := ez_fB (cl := 11) (k := 30) hB2 u770 tq_75 rfl rfl (by decide); omega
                  have sl3 : slt g2 := (sl1.k (f12.2.2 195 rfl) (f12.2.2 773 rfl)).k (nk2.C hX (by rw [hX 195 (by decide)]; decide) (by rw [hX 195 (by decide)]; decide) (by rw [hX 195 (by decide)]; decide) (by rw [hX 195 (by decide)]; decide) (by rw [hX 195 (by decide)]; decide) (by rw [hX 195 (by decide)]; decide)) (nk2.C hX (by rw [hX 773 (by decide)]; decide) (by rw [hX 773 (by decide)]; decide) (by rw [hX 773 (by decide)]; decide) (by rw [hX 773 (by decide)]; decide) (by rw [hX 773 (by decide)]; decide) (by rw [hX 773 (by decide)]; decide))
                  refine ez_cv hB2 u770 rfl rfl rfl tq_75 rfl rfl rfl (rd_mtk hB2 X2 sl3 tm2 (fun j v hv => ⟨by have := ptl_at pr hv; omega, by have := ptl_at pr hv; omega⟩) rl (by omega) (by omega) (fun g3 hB3 f3 mx3 => ez_K1 ?_))
                  exact ez_retI rfl rfl (k1 (by omega) (by rw [← iP 7 (by decide)]; assumption) h1 hP ⟨fP, iP, vP⟩ h2 c2.1.1 f12 m res um lt nf pr g2 τ2 hB2 nk2 tm2 g3 hB3 f3 mx3)
                · have u770 : τ2 770 = 75 := nk2.X hX 770 (by decide)
                  have rm2 := nk2.rm c2.1.1 hB2 (hX 770 (by decide)) u770
                  have hBx : ez_B τ2 (xc g2 0) := xc_B hB2 (by omega) (by omega)
                  refine ez_go (n := 3) (pc' := 193) (L' := [(5, .inr (.inr (some (g2.1)))), (0, .inr (.inr (some (770)))), (1, .inl (t)), (2, .inl (u)), (3, .inl (v)), (4, .inl (fm))]) (st' := [.inl (3), .inr (.inr (some (770)))]) rfl ?_
                  refine ez_cv hBx u770 rfl rfl rfl tq_75 rfl rfl rfl (rd_mfail hBx u770 (by omega) (by omega) (fun gf hBf ff jf vf0 => ez_K1 ?_))
                  exact ez_retI rfl rfl (kX (by omega) (by rw [← iP 7 (by decide)]; assumption) h1 hP ⟨fP, iP, vP⟩ h2 c2.1.1 f12 m um lt g2 τ2 hB2 nk2 gf hBf ⟨ff, jf, vf0⟩)
              · skip
                refine ez_go (n := 2) (pc' := 80) (L' := [(0, .inr (.inr (some (770)))), (1, .inl (t)), (2, .inl (u)), (3, .inl (v)), (4, .inl (fm))]) (st' := [.inl (3), .inr (.inr (some (770)))]) rfl ?_
                refine ez_cv hP t770 rfl rfl rfl tq_75 rfl rfl rfl (rd_mfail hP t770 (by omega) (by omega) (fun gf hBf ff jf vf0 => ez_K1 ?_))
                exact ez_retI rfl rfl (kL (by omega) (by rw [← iP 7 (by decide)]; assumption) (by omega) gf hBf (mF.trans ⟨fP, iP, vP⟩ ⟨ff, jf, vf0⟩))
            · skip
              refine ez_go (n := 2) (pc' := 55) (L' := [(0, .inr (.inr (some (770)))), (1, .inl (t)), (2, .inl (u)), (3, .inl (v)), (4, .inl (fm))]) (st' := [.inl (2), .inr (.inr (some (770)))]) rfl ?_
              refine ez_cv hP t770 rfl rfl rfl tq_75 rfl rfl rfl (rd_mfail hP t770 (by omega) (by omega) (fun gf hBf ff jf vf0 => ez_K1 ?_))
              exact ez_retI rfl rfl (kS (by omega) (by rw [← iP 7 (by decide)]; omega) gf hBf (mF.trans ⟨fP, iP, vP⟩ ⟨ff, jf, vf0⟩))
          · skip
            refine ez_go (n := 2) (pc' := 42) (L' := [(0, .inr (.inr (some (770)))), (1, .inl (t)), (2, .inl (u)), (3, .inl (v)), (4, .inl (fm))]) (st' := [.inl (1), .inr (.inr (some (770)))]) rfl ?_
            refine ez_cv hP t770 rfl rfl rfl tq_75 rfl rfl rfl (rd_mfail hP t770 (by omega) (by omega) (fun gf hBf ff jf vf0 => ez_K1 ?_))
            exact ez_retI rfl rfl (kA (by omega) gf hBf (mF.trans ⟨fP, iP, vP⟩ ⟨ff, jf, vf0⟩))

end EzMj
