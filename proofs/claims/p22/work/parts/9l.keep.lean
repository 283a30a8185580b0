/-! What both sides keep between the calls. -/
def rT (τ : Nat → Nat) (h : cz_H) : Prop :=
  (τ 770 = 75 ∧ τ 193 = 45 ∧ τ 771 = 76 ∧ τ 202 = 48 ∧ τ 203 = 49 ∧ τ 205 = 51 ∧ τ 206 = 3) ∧ (∀ p, 785 ≤ p → p ≤ 788 → τ p = 26) ∧ (∀ s l, nzL s = some l → τ s = 27 ∧ τ (qz_P h s 0) = 28) ∧ (τ (po h) = 17 ∧ τ (ls h) = 18 ∧ τ (dc h) = 19 ∧ τ (bw h) = 20 ∧ τ (pq h) = 22) ∧ qz_I h 202 1 ≤ 513 ∧ (∀ k, 0 ≤ k → k < 513 → τ (sz_p h k) = 4) ∧ (∀ k, 0 ≤ k → k < qz_I h 202 1 → τ (sz_fp h k) = 3) ∧ (∀ i : Nat, (i : Int) < lc h → τ (qz_P h (ls h) i) = 13) ∧ ∀ i : Nat, (i : Int) < cn h → τ (qz_P h (bw h) i) = 13
def cJ (τ : Nat → Nat) (h : cz_H) (F : rz_W) (E : Int → Prop) : Prop := (sz_ok h ∧ sz_inj h) ∧ (∀ i : Nat, (i : Int) < qz_I h 202 4 → 1 ≤ qz_I h 205 i) ∧ qz_I h 202 1 ≤ 1 + 2 * qz_I h 202 5 ∧ nz_Z h ∧ sz_D τ h F E ∧ ∃ Xs : List Int, (Xs.length : Int) ≤ qz_I h 202 5 ∧ ∀ x, (F x).2 ≠ none → x ∈ Xs
theorem jz_cJ {τ : Nat → Nat} {h : cz_H} {F : rz_W} {E : Int → Prop} : jz_I τ h F E ↔ ez_B τ h ∧ jz_X τ ∧ cJ τ h F E := Iff.rfl
def mJ (τ : Nat → Nat) (h : cz_H) (Ls : List vz) : Prop := ((lc h ≤ qz_N h (ls h) ∧ pn h ≤ qz_N h (po h)) ∧ qz_I h 770 8 = lc h ∧ pn h ≤ 75 * lc h + 0) ∧ ((∀ i : Nat, (i : Int) < lc h → 1 ≤ qz_I h (ls h) i) ∧ ∀ i j : Nat, (i : Int) < lc h → (j : Int) < lc h → qz_I h (ls h) i = qz_I h (ls h) j → i = j) ∧ mL τ h ∧ (nz_Z h ∧ nmz h) ∧ vl h Ls
theorem mI_mJ {τ : Nat → Nat} {h : cz_H} {Ls : List vz} : mI τ h Ls 0 ↔ ez_B τ h ∧ jz_X τ ∧ mJ τ h Ls := Iff.rfl
def eJ (τ : Nat → Nat) (h : cz_H) (F : rz_W) : Prop := ((0 ≤ cn h ∧ cn h ≤ 500) ∧ cn h ≤ qz_N h (dc h) ∧ cn h ≤ qz_N h (bw h) ∧ pn h ≤ qz_N h (po h)) ∧ (∀ i j : Nat, i < j → (j : Int) < cn h → qz_I h (dc h) i < qz_I h (dc h) j) ∧ (∀ i : Nat, (i : Int) < cn h → eR τ h F i) ∧ (∀ y, (F y).2 ≠ none → ∃ i : Nat, (i : Int) < cn h ∧ qz_I h (dc h) i = y) ∧ (∀ r, τ r = 13 → τ (r + 1) = 15 ∧ τ (r + 2) = 16)
theorem eD_eJ {τ : Nat → Nat} {h : cz_H} {F : rz_W} : eD τ h F ↔ ez_B τ h ∧ τ 770 = 75 ∧ eJ τ h F := Iff.rfl
/-- the tapes -/
def rP (h : cz_H) : Prop := ∀ j, qz_I h 193 j = qz_I h 771 j
/-- the fixed places of texts and pairs -/
def rU (τ : Nat → Nat) : Prop := (τ 195 = 47 ∧ τ 773 = 78 ∧ τ 782 = 79 ∧ τ 723 = 55 ∧ τ 724 = 56 ∧ τ 727 = 59 ∧ τ 728 = 60) ∧ ∀ t, t < 8 → τ (774 + t) = 37 ∧ τ (754 + 2 * t) = 88 ∧ τ (754 + 2 * t + 1) = 89
theorem rU_of {τ : Nat → Nat} (hX : jz_X τ) : rU τ := ⟨⟨hX 195 (by decide), hX 773 (by decide), hX 782 (by decide), hX 723 (by decide), hX 724 (by decide), hX 727 (by decide), hX 728 (by decide)⟩, fun _ ht => mx_tag hX ht⟩
/-- the texts are the same on both sides -/
def rXt (h : cz_H) : Prop := ∃ X, txs h X ∧ mxs h X
/-- what DATA tell besides; what a seal leaves -/
def rW (τ : Nat → Nat) (h : cz_H) (Ls : List vz) : Prop := rU τ ∧ slt h ∧ jx τ h (yD Ls) ∧ dok (yD Ls) ∧ (qz_I h 770 7 ≠ 0 → pQ h (vF Ls) (vE Ls) ∧ cFl h (vF Ls) ∧ cP h (vF Ls) (vE Ls)) ∧ qz_I h 206 1 = 17262 ∧ qz_I h 206 5 = -1 ∧ qz_I h 206 6 = -1 ∧ qz_I h 206 7 = -1
def rR : dz_X := fun τ h => ∃ Ls : List vz, (rT τ h ∧ cJ τ h (vF Ls) (vE Ls) ∧ mJ τ h Ls ∧ uz_wf (vF Ls) ∧ (qz_I h 202 6 = 0 ↔ qz_I h 770 7 = 0) ∧ (qz_I h 770 7 ≠ 0 → uz_S (vF Ls) (vE Ls) ∧ sq h ∧ eJ τ h (vF Ls) ∧ pP h (vF Ls) ∧ ∀ x, (vF Ls x).2 ≠ none → az (vF Ls) 501 x) ∧ (qz_I h 206 2 = 0 ∧ qz_I h 206 3 = 0) ∧ rP h) ∧ rW τ h Ls ∧ rXt h
/-- what is kept but for the tapes -/
def qz_p2 (t : Nat) : Bool := qz_pr0 t && ((!(Nat.beq t 45) && !(Nat.beq t 76)) && ((!(Nat.beq t 88) && !(Nat.beq t 89)) && (!(Nat.beq t 37) && !(Nat.beq t 79))))
def qz_s2 (τ : Nat → Nat) (h : cz_H) (τ' : Nat → Nat) (h' : cz_H) : Prop := (∀ r, qz_pr (τ r) = true → τ' r = τ r) ∧ (∀ r, qz_pr (τ' r) = true → τ' r = τ r) ∧ (∀ r, qz_p2 (τ r) = true → h'.2.2 r = h.2.2 r) ∧ (τ 770 = 75 → ∀ j, qz_fm j = true → qz_I h' 770 j = qz_I h 770 j)
theorem qz_s2.T {τ τ' : Nat → Nat} {h h' : cz_H} (s : qz_s2 τ h τ' h') {r t : Nat} (ht : τ r = t) (hp : qz_pr t = true) : τ' r = t := by subst ht; exact s.1 r hp
theorem qz_s2.B {τ τ' : Nat → Nat} {h h' : cz_H} (s : qz_s2 τ h τ' h') {r t : Nat} (ht : τ' r = t) (hp : qz_pr t = true) : τ r = t := by subst ht; exact (s.2.1 r hp).symm
theorem qz_s2.C {τ τ' : Nat → Nat} {h h' : cz_H} (s : qz_s2 τ h τ' h') {r t : Nat} (ht : τ r = t) (hp : qz_p2 t = true) : h'.2.2 r = h.2.2 r := by subst ht; exact s.2.2.1 r hp
theorem qz_s2.of {τ τ' : Nat → Nat} {h h' : cz_H} (s : qz_sm τ h τ' h') : qz_s2 τ h τ' h' := ⟨fun r hr => (s.1 r hr).1, s.2.1, fun r hr => s.2.2 r (Bool.and_eq_true_iff.mp hr).1, fun hr _ hj => s.I hr rfl hj⟩
section RrSt
variable {τ τ' : Nat → Nat} {h h' : cz_H}
/-- what is kept, at hand -/
def rK (τ : Nat → Nat) (h : cz_H) (τ' : Nat → Nat) (h' : cz_H) : Prop := qz_s2 τ h τ' h' ∧ rT τ h
theorem rK_of (s : qz_s2 τ h τ' h') (t : rT τ h) : rK τ h τ' h' := ⟨s, t⟩
theorem rK.s (k : rK τ h τ' h') : qz_s2 τ h τ' h' := k.1
theorem rK.t (k : rK τ h τ' h') : rT τ h := k.2
theorem rK.f7 (k : rK τ h τ' h') : ∀ j, qz_fm j = true → qz_I h' 770 j = qz_I h 770 j := fun _ hj => k.1.2.2.2 k.2.1.1 _ hj
theorem rK.c202 (k : rK τ h τ' h') : h'.2.2 202 = h.2.2 202 := k.1.C k.2.1.2.2.2.1 rfl
theorem rK.c203 (k : rK τ h τ' h') : h'.2.2 203 = h.2.2 203 := k.1.C k.2.1.2.2.2.2.1 rfl
theorem rK.c205 (k : rK τ h τ' h') : h'.2.2 205 = h.2.2 205 := k.1.C k.2.1.2.2.2.2.2.1 rfl
theorem rK.cpo (k : rK τ h τ' h') : h'.2.2 (po h) = h.2.2 (po h) := k.1.C k.2.2.2.2.1.1 rfl
theorem rK.cls (k : rK τ h τ' h') : h'.2.2 (ls h) = h.2.2 (ls h) := k.1.C k.2.2.2.2.1.2.1 rfl
theorem rK.cdc (k : rK τ h τ' h') : h'.2.2 (dc h) = h.2.2 (dc h) := k.1.C k.2.2.2.2.1.2.2.1 rfl
theorem rK.cbw (k : rK τ h τ' h') : h'.2.2 (bw h) = h.2.2 (bw h) := k.1.C k.2.2.2.2.1.2.2.2.1 rfl
theorem rK.cpq (k : rK τ h τ' h') : h'.2.2 (pq h) = h.2.2 (pq h) := k.1.C k.2.2.2.2.1.2.2.2.2 rfl
theorem rK.po9 (k : rK τ h τ' h') : po h' = po h ∧ ls h' = ls h ∧ dc h' = dc h ∧ bw h' = bw h ∧ pq h' = pq h := by
  refine ⟨?_, ?_, ?_, ?_, ?_⟩
  · unfold po qz_P; rw [k.f7 9 rfl]
  · unfold ls qz_P; rw [k.f7 11 rfl]
  · unfold dc qz_P; rw [k.f7 21 rfl]
  · unfold bw qz_P; rw [k.f7 22 rfl]
  · unfold pq qz_P; rw [k.f7 27 rfl]
theorem rK.I (_k : rK τ h τ' h') {q : Nat} (e : h'.2.2 q = h.2.2 q) (j : Nat) : qz_I h' q j = qz_I h q j := by unfold qz_I; rw [e]
theorem rK.P (_k : rK τ h τ' h') {q : Nat} (e : h'.2.2 q = h.2.2 q) (j : Nat) : qz_P h' q j = qz_P h q j := by unfold qz_P qz_I; rw [e]
theorem rK.N (_k : rK τ h τ' h') {q : Nat} (e : h'.2.2 q = h.2.2 q) : qz_N h' q = qz_N h q := by unfold qz_N; rw [e]
theorem rK.sp (k : rK τ h τ' h') (i : Int) : sz_p h' i = sz_p h i := k.P k.c203 _
theorem rK.ss (k : rK τ h τ' h') {i : Int} (i0 : 0 ≤ i) (i1 : i < 513) (j : Nat) : qz_I h' (sz_p h' i) j = qz_I h (sz_p h i) j := by
  rw [k.sp]; exact k.I (k.s.C (k.t.2.2.2.2.2.1 i i0 i1) rfl) j
theorem rK.sfp (k : rK τ h τ' h') {i : Int} (i0 : 0 ≤ i) (i1 : i < 513) : sz_fp h' i = sz_fp h i := by unfold sz_fp qz_P; rw [k.ss i0 i1]
theorem rK.sl (k : rK τ h τ' h') {s : Nat} {l : List Int} (hs : nzL s = some l) : h'.2.2 s = h.2.2 s ∧ h'.2.2 (qz_P h s 0) = h.2.2 (qz_P h s 0) := ⟨k.s.C (k.t.2.2.1 s l hs).1 rfl, k.s.C (k.t.2.2.1 s l hs).2 rfl⟩
theorem rK.T (k : rK τ h τ' h') : rT τ' h' := by
  obtain ⟨e1, e2, e3, e4, e5⟩ := k.po9
  obtain ⟨⟨t1, t3, t4, t5, t6, t7, t8⟩, u1, u2, ⟨v1, v2, v3, v4, v5⟩, w1, w2, w3, w4, w5⟩ := id k.t
  have s := k.s
  have i2 := fun j => k.I k.c202 j
  refine ⟨⟨s.T t1 rfl, s.T t3 rfl, s.T t4 rfl, s.T t5 rfl, s.T t6 rfl, s.T t7 rfl, s.T t8 rfl⟩, fun p p1 p2 => s.T (u1 p p1 p2) rfl, fun q l hq => ⟨s.T (u2 q l hq).1 rfl, ?_⟩, ⟨by rw [e1]; exact s.T v1 rfl, by rw [e2]; exact s.T v2 rfl, by rw [e3]; exact s.T v3 rfl, by rw [e4]; exact s.T v4 rfl, by rw [e5]; exact s.T v5 rfl⟩, by rw [i2]; exact w1, fun i i0 i1 => by rw [k.sp]; exact s.T (w2 i i0 i1) rfl, fun i i0 i1 => ?_, fun i hi => ?_, fun i hi => ?_⟩
  · rw [k.P (k.sl hq).1]; exact s.T (u2 q l hq).2 rfl
  · rw [i2] at i1; rw [k.sfp i0 (by omega)]; exact s.T (w3 i i0 i1) rfl
  · rw [e2, k.P k.cls]; exact s.T (w4 i (by have := k.f7 12 rfl; unfold lc at hi ⊢; omega)) rfl
  · rw [e4, k.P k.cbw]; exact s.T (w5 i (by have := k.f7 23 rfl; unfold cn at hi ⊢; omega)) rfl
theorem rK.Z (k : rK τ h τ' h') (z : nz_Z h) : nz_Z h' := fun s l hs => by
  obtain ⟨a, b, c⟩ := z s l hs
  obtain ⟨e1, e2⟩ := k.sl hs
  have e3 := k.P e1 0
  refine ⟨?_, b, by rw [e3]; exact c⟩
  unfold nz_S at a ⊢
  rw [e3, k.N e2]
  exact ⟨a.1, fun j v hv => by rw [k.I e2]; exact a.2 j v hv⟩
theorem rK.Jc (k : rK τ h τ' h') {F : rz_W} {E : Int → Prop} (c : cJ τ h F E) : cJ τ' h' F E := by
  obtain ⟨⟨a1, a2⟩, a3, a4, a5, a6, Xs, a7, a8⟩ := c
  have i2 := fun j => k.I k.c202 j
  have w1 := k.t.2.2.2.2.1
  have sf : ∀ i, 0 ≤ i → i < 513 → sz_f h' i = sz_f h i := fun i i0 i1 => k.ss i0 i1 0
  refine ⟨⟨⟨?_, fun i j i0 hij hj => ?_⟩, fun i j i0 i1 j0 j1 e => ?_⟩, fun i hi => ?_, by rw [i2, i2]; exact a4, k.Z a5, fun x i x0 x1 hk => ?_, Xs, by rw [i2]; exact a7, a8⟩
  · rw [sf 0 (by decide) (by decide)]; exact a1.1
  · rw [i2] at hj; rw [sf i i0 (by omega), sf j (by omega) (by omega)]; exact a1.2 i j i0 hij hj
  · rw [k.sp, k.sp] at e; exact a2 i j i0 i1 j0 j1 e
  · rw [i2] at hi; rw [k.I k.c205]; exact a3 i hi
  · obtain ⟨c0, c1, c2, c3⟩ := hk
    rw [i2] at c1 c3
    rw [sf i c0 (by omega)] at c2
    have hk' : sz_at h x i := ⟨c0, c1, c2, fun w => by rw [← sf (i + 1) (by omega) (by omega)]; exact c3 w⟩
    obtain ⟨⟨d1, d2, d3⟩, d4⟩ := a6 x i x0 x1 hk'
    have cf := k.s.C (k.t.2.2.2.2.2.2.1 i c0 c1) rfl
    rw [k.sfp c0 (by omega), k.I cf, k.I cf, k.ss c0 (by omega)]
    refine ⟨⟨d1, ?_, d3⟩, d4⟩
    revert d2
    cases (F x).2 with
    | none => intro d2; show qz_I h' _ 3 = 0; rw [k.I cf]; exact d2
    | some q =>
      rintro ⟨p, p1, p2, p3, p4, p5⟩
      have cp := k.s.C p1 rfl
      exact ⟨p, k.s.T p1 rfl, by rw [k.I cf]; exact p2, by rw [k.I cf]; exact p3, by rw [k.N cp]; exact p4, fun j v hv => by rw [k.I cp]; exact p5 j v hv⟩
theorem rK.mLx (k : rK τ h τ' h') (m : mL τ h) : mL τ' h' := by
  obtain ⟨e1, -⟩ := k.po9
  refine ⟨fun r hr => ?_, fun r hr => ?_⟩
  · have hr' := k.s.B hr rfl
    obtain ⟨m1, m2⟩ := m.1 r hr'
    exact ⟨k.s.T m1 rfl, fun j => by rw [e1, k.N k.cpo, k.I (k.s.C hr' rfl), k.I (k.s.C m1 rfl)]; exact m2 j⟩
  · have hr' := k.s.B hr rfl
    obtain ⟨m1, m2, m3⟩ := m.2 r hr'
    refine ⟨k.s.T m1 rfl, k.s.T m2 rfl, ?_⟩
    rw [e1, k.N k.cpo, k.I (k.s.C hr' rfl), k.I (k.s.C m1 rfl), k.I (k.s.C m2 rfl)]; exact m3
theorem rK.Jm (k : rK τ h τ' h') {Ls : List vz} (m : mJ τ h Ls) : mJ τ' h' Ls := by
  obtain ⟨⟨⟨n1, n2⟩, n3, n4⟩, ⟨c1, c2⟩, mm, ⟨z1, z2⟩, v1, v2⟩ := m
  obtain ⟨e1, e2, e3, e4, e5⟩ := k.po9
  have el : lc h' = lc h := k.f7 12 rfl
  have en : pn h' = pn h := k.f7 10 rfl
  have e8 : qz_I h' 770 8 = qz_I h 770 8 := k.f7 8 rfl
  refine ⟨⟨⟨by rw [el, e2, k.N k.cls]; exact n1, by rw [en, e1, k.N k.cpo]; exact n2⟩, by rw [e8, el]; exact n3, by rw [en, el]; exact n4⟩, ⟨fun i hi => ?_, fun i j hi hj => ?_⟩, k.mLx mm, ⟨k.Z z1, ?_⟩, by rw [el]; exact v1, fun i x hx => ?_⟩
  · rw [e2, k.I k.cls]; rw [el] at hi; exact c1 i hi
  · rw [e2, k.I k.cls, k.I k.cls]; rw [el] at hi hj; exact c2 i j hi hj
  · refine ⟨fun p p1 p2 j hj => ?_, ?_, nmx_c z2.2.2 (fun p p1 p2 => k.s.C (k.t.2.1 p p1 p2) rfl)⟩
    · have c := k.s.C (k.t.2.1 p p1 p2) rfl
      rw [k.P c]; rw [k.N c] at hj; exact z2.1 p p1 p2 j hj
    · rw [k.P (k.s.C (k.t.2.1 786 (by decide) (by decide)) rfl)]; exact z2.2.1
  · have hi : i < Ls.length := (List.getElem?_eq_some_iff.mp hx).1
    have t13 := k.t.2.2.2.2.2.2.2.1 i (by omega)
    obtain ⟨m1, m2, -⟩ := mm.2 _ t13
    rw [e2, k.P k.cls]
    exact ⟨vc_tr (v2 i x hx).1 (k.s.C t13 rfl) (k.s.C m1 rfl) (k.s.C m2 rfl) (by omega) (fun j _ _ => by unfold pl; rw [e1]; exact k.I k.cpo _), vx_tr (v2 i x hx).2 (k.s.C t13 rfl) (k.s.C m1 rfl) (k.s.C m2 rfl) (by omega) (fun j _ _ => by unfold pl; rw [e1]; exact k.I k.cpo _)⟩
theorem rK.Je (k : rK τ h τ' h') {F : rz_W} (e : eJ τ h F) : eJ τ' h' F := by
  obtain ⟨⟨a1, a2, a3, a4⟩, a5, a6, a7, a8⟩ := e
  obtain ⟨e1, e2, e3, e4, e5⟩ := k.po9
  have ec : cn h' = cn h := k.f7 23 rfl
  have en : pn h' = pn h := k.f7 10 rfl
  refine ⟨⟨by rw [ec]; exact a1, by rw [ec, e3, k.N k.cdc]; exact a2, by rw [ec, e4, k.N k.cbw]; exact a3, by rw [en, e1, k.N k.cpo]; exact a4⟩, fun i j hij hj => ?_, fun i hi => ?_, fun y hy => ?_, fun r hr => ?_⟩
  · rw [e3, k.I k.cdc, k.I k.cdc]; rw [ec] at hj; exact a5 i j hij hj
  · rw [ec] at hi
    obtain ⟨⟨r1, r2⟩, cp, vs, r3, r4, r5, r6⟩ := a6 i hi
    obtain ⟨t15, t16⟩ := a8 _ r2
    have c0 := k.s.C r2 rfl
    have c1 := k.s.C t15 rfl
    have c2 := k.s.C t16 rfl
    unfold eR
    rw [e4, k.I k.cbw, k.P k.cbw, e3, k.I k.cdc, k.I c0, k.I c1, k.I c2, en]
    exact ⟨⟨r1, k.s.T r2 rfl⟩, cp, vs, r3, r4, r5, fun j v hv => by unfold pl; rw [e1, k.I k.cpo]; exact r6 j v hv⟩
  · obtain ⟨i, i1, i2⟩ := a7 y hy
    exact ⟨i, by rw [ec]; exact i1, by rw [e3, k.I k.cdc]; exact i2⟩
  · obtain ⟨t15, t16⟩ := a8 r (k.s.B hr rfl)
    exact ⟨k.s.T t15 rfl, k.s.T t16 rfl⟩
theorem rK.Jp (k : rK τ h τ' h') {F : rz_W} (p : pP h F) : pP h' F := by
  obtain ⟨e1, e2, e3, e4, e5⟩ := k.po9
  have ep : pkn h' = pkn h := k.f7 28 rfl
  have ec : cn h' = cn h := k.f7 23 rfl
  refine ⟨by rw [ep, e5, k.N k.cpq]; exact p.1, fun i hi => ?_⟩
  rw [ep] at hi
  rw [e5, k.I k.cpq, ec, e3, k.I k.cdc]; exact p.2 i hi
theorem rK.Js (k : rK τ h τ' h') (q : sq h) : sq h' := fun i i0 i1 h3 => by
  rw [k.I k.c202] at i1
  have w1 := k.t.2.2.2.2.1
  have cf := k.s.C (k.t.2.2.2.2.2.2.1 i i0 i1) rfl
  rw [k.sfp i0 (by omega)] at h3 ⊢
  rw [k.I cf] at h3
  rw [k.I cf, k.I cf, k.I cf, k.I cf]
  exact q i i0 i1 h3
theorem rK.U (k : rK τ h τ' h') (u : rU τ) : rU τ' := ⟨⟨k.s.T u.1.1 rfl, k.s.T u.1.2.1 rfl, k.s.T u.1.2.2.1 rfl, k.s.T u.1.2.2.2.1 rfl, k.s.T u.1.2.2.2.2.1 rfl, k.s.T u.1.2.2.2.2.2.1 rfl, k.s.T u.1.2.2.2.2.2.2 rfl⟩, fun t ht => ⟨k.s.T (u.2 t ht).1 rfl, k.s.T (u.2 t ht).2.1 rfl, k.s.T (u.2 t ht).2.2 rfl⟩⟩
theorem rK.at (k : rK τ h τ' h') {x i : Int} (hk : sz_at h' x i) : sz_at h x i ∧ i < 513 ∧ i < qz_I h 202 1 := by
  have i2 := fun j => k.I k.c202 j
  have w1 := k.t.2.2.2.2.1
  have sf : ∀ i, 0 ≤ i → i < 513 → sz_f h' i = sz_f h i := fun i i0 i1 => k.ss i0 i1 0
  obtain ⟨c0, c1, c2, c3⟩ := hk
  rw [i2] at c1 c3
  rw [sf i c0 (by omega)] at c2
  exact ⟨⟨c0, c1, c2, fun w => by rw [← sf (i + 1) (by omega) (by omega)]; exact c3 w⟩, by omega, c1⟩
theorem rK.X (k : rK τ h τ' h') {O : Nat → Int} {D : Int → xD} (hX : sz_X τ h O D) : sz_X τ' h' O D := fun x i x0 x1 hk => by
  obtain ⟨hk', i5, i6⟩ := k.at hk
  have c0 := hk'.1
  have a := hX x i x0 x1 hk'
  rw [k.sfp c0 i5, k.sp]
  have cf := k.s.C (k.t.2.2.2.2.2.2.1 i c0 i6) rfl
  have cz := k.s.C (k.t.2.2.2.2.2.1 i c0 i5) rfl
  exact a.tr (fun j => k.I cf j) (fun j => k.I cz j) (fun q hq => ⟨k.s.T hq rfl, k.s.C hq rfl⟩) (fun q hq ho => ⟨k.s.T hq rfl, ho, k.s.C hq rfl⟩)
theorem rK.Fl (k : rK τ h τ' h') (u : rU τ) {F : rz_W} (a : cFl h F) : cFl h' F := fun x i x0 x1 hk hn c => by
  obtain ⟨hk', i5, i6⟩ := k.at hk
  obtain ⟨l, l1, l2, l3⟩ := a x i x0 x1 hk' hn c
  have c0 := hk'.1
  have cf := k.s.C (k.t.2.2.2.2.2.2.1 i c0 i6) rfl
  have c3 := k.s.C u.1.2.2.2.1 rfl
  have c4 := k.s.C u.1.2.2.2.2.1 rfl
  refine ⟨l, l1, ?_, l3⟩
  rw [k.sfp c0 i5]
  unfold sg qz_I at l2 ⊢
  rw [cf, c3, c4]; exact l2
theorem rK.Q (k : rK τ h τ' h') {F : rz_W} {E : Int → Prop} (p : pQ h F E) : pQ h' F E := p.tr (fun j hj => k.f7 j (by rcases hj with e | e | e | e <;> (subst e; rfl))) k.cpq k.cdc
theorem rK.W (k : rK τ h τ' h') {Ls : List vz} (w : rW τ h Ls) : rW τ' h' Ls := by
  obtain ⟨u, s, x, dk, q, v⟩ := w
  have i7 := k.f7 7 rfl
  have c206 := k.s.C (k.t.1.2.2.2.2.2.2) rfl
  obtain ⟨O, x⟩ := x
  refine ⟨k.U u, s.k (k.s.C u.1.1 rfl) (k.s.C u.1.2.1 rfl), ⟨O, k.X x⟩, dk, fun hs => ?_, by rw [k.I c206, k.I c206, k.I c206, k.I c206]; exact v⟩
  rw [i7] at hs
  obtain ⟨a1, a2, a3⟩ := q hs
  exact ⟨k.Q a1, k.Fl u a2, a3.keep (k.s.C u.1.2.2.2.1 rfl) (k.s.C u.1.2.2.2.2.2.1 rfl) (k.s.C u.1.2.2.2.2.2.2 rfl)⟩
/-- but for the tapes and the texts, which are the same on both sides -/
theorem rR_s2 (s : qz_s2 τ h τ' h') (r : rR τ h) (hp : rP h') (hx : rXt h') : rR τ' h' := by
  obtain ⟨Ls, ⟨t, c, m, w, s6, s7, u, -⟩, ww, -⟩ := r
  have k := rK_of s t
  have i6 := k.I k.c202 6
  have i7 := k.f7 7 rfl
  have c206 := k.s.C (t.1.2.2.2.2.2.2) rfl
  refine ⟨Ls, ⟨k.T, k.Jc c, k.Jm m, w, by rw [i6, i7]; exact s6, fun hs => ?_, by rw [k.I c206, k.I c206]; exact u, hp⟩, k.W ww, hx⟩
  rw [i7] at hs
  obtain ⟨a1, a2, a3, a4, a5⟩ := s7 hs
  exact ⟨a1, k.Js a2, k.Je a3, k.Jp a4, a5⟩
/-- texts that stay -/
theorem rX_k {g : cz_H} (x : rXt h) (e1 : ∀ q, 754 ≤ q ∧ q ≤ 769 → g.2.2 q = h.2.2 q) (e2 : ∀ q, 774 ≤ q ∧ q ≤ 782 → g.2.2 q = h.2.2 q) : rXt g := by
  obtain ⟨X, x1, x2⟩ := x
  exact ⟨X, x1.k e1, x2.k e2⟩
theorem rX_t {g : cz_H} (u : rU τ) (x : rXt h) (e : ∀ q, τ q = 88 ∨ τ q = 89 ∨ τ q = 37 ∨ τ q = 79 → g.2.2 q = h.2.2 q) : rXt g := rX_k x (fun q hq => by
  obtain ⟨t, ht⟩ : ∃ t, t = (q - 754) / 2 := ⟨_, rfl⟩
  have ut := u.2 t (by omega)
  have : q = 754 + 2 * t ∨ q = 754 + 2 * t + 1 := by omega
  rcases this with w | w
  · exact e q (Or.inl (by rw [w]; exact ut.2.1))
  · exact e q (Or.inr (Or.inl (by rw [w]; exact ut.2.2)))) (fun q hq => by
  by_cases w : q = 782
  · exact e q (Or.inr (Or.inr (Or.inr (by rw [w]; exact u.1.2.2.1))))
  · obtain ⟨t, ht⟩ : ∃ t, t = q - 774 := ⟨_, rfl⟩
    have ut := u.2 t (by omega)
    exact e q (Or.inr (Or.inr (Or.inl (by rw [show q = 774 + t by omega]; exact ut.1)))))
theorem rR_st : qz_st rR := fun τ h τ' h' s r => by
  obtain ⟨Ls, ⟨t, c, m, w, s6, s7, u, p⟩, ww, x⟩ := id r
  have k := rK_of (qz_s2.of s) t
  refine rR_s2 (qz_s2.of s) r (fun j => ?_) (rX_t ww.1 x (fun q hq => ?_))
  · rw [k.I (s.C t.1.2.1 rfl), k.I (s.C t.1.2.2.1 rfl)]; exact p j
  · rcases hq with e | e | e | e <;> exact s.C e rfl
end RrSt
theorem rT_of {τ : Nat → Nat} {h : cz_H} {F : rz_W} {E : Int → Prop} {Ls : List vz} {b : Int} (hI : jz_I τ h F E) (hM : mI τ h Ls b) (hb : ∀ i : Nat, (i : Int) < cn h → 1 ≤ qz_I h (bw h) i) (hn : cn h ≤ qz_N h (bw h)) : rT τ h := by
  have hB := hI.1
  have hX := hI.2.1
  have t770 : τ 770 = 75 := hX 770 (by decide)
  have t202 : τ 202 = 48 := hX 202 (by decide)
  have t203 : τ 203 = 49 := hX 203 (by decide)
  have tt := ez_tls hB t770
  have td := ez_tdb hB t770
  have bn := sz_R_n1 hB t202
  refine ⟨⟨t770, hX 193 (by decide), hX 771 (by decide), t202, t203, hX 205 (by decide), hX 206 (by decide)⟩, fun p p1 p2 => ?_, fun s l hs => nz_hz hB hX s l hs, ⟨tt.2, tt.1, td.1, td.2, ez_tpq hB t770⟩, by omega, fun k k0 k1 => sz_tag hB t203 k0 k1, fun k k0 k1 => ?_, fun i hi => (hM.L hi).1, fun i hi => ez_tll hB (Or.inr td.2) (by omega) (hb i hi)⟩
  · have : p = 785 ∨ p = 786 ∨ p = 787 ∨ p = 788 := by omega
    rcases this with e | e | e | e <;> subst e
    · exact hX 785 (by decide)
    · exact hX 786 (by decide)
    · exact hX 787 (by decide)
    · exact hX 788 (by decide)
  · have t4 := sz_tag hB t203 k0 (show k < 513 by omega)
    have b1 : 1 ≤ qz_I h (sz_p h k) 1 ∧ qz_I h (sz_p h k) 1 ≤ 1000000 := ez_fB (cl := 4) hB t4 tq_4 rfl rfl (by decide)
    exact (ez_old (cl := 4) (k := 1) hB t4 tq_4 rfl rfl (by decide) (show qz_I h (sz_p h k) 1 = (sz_fp h k : Int) + 1 by unfold sz_fp qz_P; omega)).1
/-! From L3 to what the checker takes. -/
theorem ez_from {d : Nat} {M : cz_M} {pc : Nat} {L : List (Nat × ez_V)} {L0 : List (Nat × cz_V)} {st : List ez_V} {h : cz_H} {Q : cz_F → Prop} (hn : ez_ndB L = true) (hs : ∀ q ∈ L, cz_find q.1 L0 = some (ez_v q.2)) (k : ez_W d M pc L st h Q) : dz_WP cz_pg d M pc L0 (st.map ez_v) h Q := by
  obtain ⟨n, F, h1, h2⟩ := k
  refine ⟨n, F, ez_sub_x _ n _ _ _ _ _ _ _ _ ?_ ?_ h1, h2⟩
  · unfold ez_nd ez_L
    rw [List.map_map]
    exact ez_ndB_ok hn
  · intro j v hv
    obtain ⟨q, hq, e⟩ := List.mem_map.mp (cz_find_mem hv)
    cases e
    exact hs q hq
theorem dz_int {v : cz_V} (h : dz_k v = 0) : v = ez_v (.inl (dz_n v)) := by
  rcases v with a | a | a
  · show Sum.inl a = Sum.inl (Int32.ofInt a.toInt); rw [Int32.ofInt_toInt]
  · cases h
  · cases h
theorem dz_int_rg {v : cz_V} (h : dz_k v = 0) : ez_rg (dz_n v) := by
  rcases v with a | a | a
  · exact ⟨(sz_i32 a).1, (sz_i32 a).2⟩
  · cases h
  · cases h
theorem dz_ref {v : cz_V} {p : Nat} (h : dz_k v = 3) (hn : dz_n v = (p : Int) + 1) : v = .inr (.inr (some p)) := by
  rcases v with a | a | a
  · cases h
  · cases h
  · rcases a with _ | r
    · exfalso; have : (0 : Int) = (p : Int) + 1 := hn; omega
    · have : (r : Int) + 1 = (p : Int) + 1 := hn
      rw [show r = p by omega]
/-- a known slot of the model -/
theorem dz_slot {n : Nat} {ρ : Nat → Int} {τ : Nat → Nat} {h : cz_H} {p t i k tg : Nat} {e : dz_E} (m : dz_mo n ρ τ h (((p : Int) + 1, []), t, ((i : Int), []), (k, e, tg))) : qz_I h p i = e.1 + dz_ev ρ e.2 := by
  obtain ⟨r, j, v, h1, -, h3, h4, h5⟩ := m
  have e1 : (p : Int) + 1 + 0 = (r : Int) + 1 := h1.2
  have e2 : (i : Int) + 0 = (j : Int) := h3.2
  rw [show r = p by omega, show j = i by omega] at h4
  unfold qz_I
  rw [h4]
  exact h5.2.1.2.symm
theorem dz_ezB {X : dz_X} {τ : Nat → Nat} {h : cz_H} (b : dz_B tz_T (qz_X X) τ h) : ez_B τ h := ⟨b.1, b.2.1.2.1, b.2.2⟩
/-- what an end of a spec asks, when nothing was written and a number comes back -/
theorem dz_back {X : dz_X} {sp : dz_Sp} {n : Nat} {ρ : Nat → Int} {τ : Nat → Nat} {h : cz_H} {v : Int} {gs : List dz_E} (hb : dz_B tz_T X τ h) (hm : (1, (n, [((0, 0, 0, 0), (0, []), (0, []), (0, []))], gs)) ∈ sp.2.2.2.1) (hn : (dz_ini sp.2.2.1).1 = n) (hv : ez_rg v) (hg : ∀ ρ2 : Nat → Int, (∀ i, i < n → ρ2 i = ρ i) → ρ2 n = (h.1 : Int) → ρ2 (n + 1) = (h.2.1 : Int) → ρ2 (n + 2) = v → dz_Gm (n + 3) ρ2 gs) : dz_post tz_T X sp ρ τ h (.inl (some (ez_v (.inl v))), h) := by
  have hr : ∃ ρ2 : Nat → Int, (∀ i, i < n → ρ2 i = ρ i) ∧ ρ2 n = (h.1 : Int) ∧ ρ2 (n + 1) = (h.2.1 : Int) ∧ ρ2 (n + 2) = v := by
    refine ⟨fun i => if i < n then ρ i else if i = n then (h.1 : Int) else if i = n + 1 then (h.2.1 : Int) else v, fun i hi => if_pos hi, ?_, ?_, ?_⟩
    · show (if n < n then ρ n else if n = n then (h.1 : Int) else _) = _; rw [if_neg (by omega), if_pos rfl]
    · show (if n + 1 < n then ρ (n + 1) else if n + 1 = n then (h.1 : Int) else if n + 1 = n + 1 then (h.2.1 : Int) else v) = _; rw [if_neg (by omega), if_neg (by omega), if_pos rfl]
    · show (if n + 2 < n then ρ (n + 2) else if n + 2 = n then (h.1 : Int) else if n + 2 = n + 1 then (h.2.1 : Int) else v) = _; rw [if_neg (by omega), if_neg (by omega), if_neg (by omega)]
  obtain ⟨ρ2, r1, r2, r3, r4⟩ := hr
  refine ⟨_, hm, ρ2, τ, [(0, ez_v (.inl v))], ⟨hg ρ2 r1 r2 r3 r4, ?_, trivial, fun m hm => (by cases hm), fun k hk => (by cases hk), ⟨?_, ?_⟩, ⟨?_, ?_⟩, hb⟩, hn.symm, ?_, dz_Fr.refl _ _ _, _, rfl, rfl⟩
  · intro q hq
    have hq : q ∈ [((0 : Nat), ((0 : Nat), dz_var (n + 2), (0 : Nat)))] := hq
    rw [List.mem_singleton] at hq
    subst hq
    refine ⟨_, rfl, rfl, ⟨fun t ht => ?_, ?_⟩, fun r hr => by cases hr⟩
    · have ht : t ∈ [((n + 2 : Nat), (1 : Int))] := ht
      rw [List.mem_singleton] at ht; subst ht; show n + 2 < n + 2 + 1; omega
    · show (0 : Int) + (1 * ρ2 (n + 2) + 0) = dz_n (ez_v (.inl v))
      rw [r4, rz_rd hv]; omega
  · intro t ht
    have ht : t ∈ [((n : Nat), (1 : Int))] := ht
    rw [List.mem_singleton] at ht; subst ht; show n < n + 2 + 1; omega
  · show (0 : Int) + (1 * ρ2 n + 0) = (h.1 : Int); omega
  · intro t ht
    have ht : t ∈ [((n + 1 : Nat), (1 : Int))] := ht
    rw [List.mem_singleton] at ht; subst ht; show n + 1 < n + 2 + 1; omega
  · show (0 : Int) + (1 * ρ2 (n + 1) + 0) = (h.2.1 : Int); omega
  · rw [hn]; exact r1
/-- specs are compared by the kernel -/
def dzE_d : DecidableEq dz_E := fun a b => (inferInstance : Decidable (a = b))
def dzCm_d : DecidableEq dz_Cm := fun a b => (inferInstance : Decidable (a = b))
def dzTp_d : DecidableEq dz_Tp := @instDecidableEqProd Nat (List dz_Cm × List dz_E) _ (@instDecidableEqProd (List dz_Cm) (List dz_E) (@instDecidableEqList dz_Cm dzCm_d) (@instDecidableEqList dz_E dzE_d))
def dzAl_d : DecidableEq dz_Al := @instDecidableEqProd Nat dz_Tp _ dzTp_d
def dzSp_d : DecidableEq dz_Sp := @instDecidableEqProd Nat (Nat × dz_Tp × List dz_Al × dz_Md) _ (@instDecidableEqProd Nat (dz_Tp × List dz_Al × dz_Md) _ (@instDecidableEqProd dz_Tp (List dz_Al × dz_Md) dzTp_d (@instDecidableEqProd (List dz_Al) dz_Md (@instDecidableEqList dz_Al dzAl_d) (fun a b => (inferInstance : Decidable (a = b))))))
/-! The model's composite and second, as the checker has them. -/
def sp_comp : dz_Sp := (240, 12, (0, [((2, 0, 3, 75), (771, []), (0, []), (0, [])), ((0, 1, 0, 0), (0, []), (0, []), (0, [])), ((0, 2, 0, 0), (0, []), (0, []), (0, [])), ((1, 0, 0, 75), (771, []), (7, []), (0, []))], [(-192, [(0, 1)]), (0, [(1, 1)]), (0, [(4, 1)]), (1, [(4, -1)]), (-1, [(4, 1)])]), [(1, (5, [((0, 0, 0, 0), (0, []), (0, []), (0, []))], [(0, [(0, -1), (5, 1)]), (0, [(0, 1), (5, -1)]), (0, [(1, -1), (6, 1)]), (0, [(1, 1), (6, -1)])]))], [])
theorem dz_g0 {n : Nat} {ρ : Nat → Int} {c : Int} {i : Nat} {k : Int} (h : ∃ x, 0 ≤ x ∧ dz_ok n ρ (c, [(i, k)]) x) : 0 ≤ c + k * ρ i := by
  obtain ⟨x, h1, h2⟩ := h
  have : c + (k * ρ i + 0) = x := h2.2
  omega
theorem dz_g2 {n : Nat} {ρ : Nat → Int} {i j : Nat} {a b : Int} (hi : i < n) (hj : j < n) (h : 0 ≤ a * ρ i + b * ρ j) : ∃ x, 0 ≤ x ∧ dz_ok n ρ (0, [(i, a), (j, b)]) x := ⟨_, h, fun t ht => by
  rcases List.mem_cons.mp ht with e | e
  · subst e; exact hi
  · rw [List.mem_singleton] at e; subst e; exact hj, by show (0 : Int) + (a * ρ i + (b * ρ j + 0)) = _; omega⟩
theorem dz_g1 {n : Nat} {ρ : Nat → Int} {i : Nat} {c a : Int} (hi : i < n) (h : 0 ≤ c + a * ρ i) : ∃ x, 0 ≤ x ∧ dz_ok n ρ (c, [(i, a)]) x := ⟨_, h, fun t ht => by rw [List.mem_singleton] at ht; subst ht; exact hi, by show c + (a * ρ i + 0) = _; omega⟩
/-- the same room -/
theorem dz_same4 {n : Nat} {ρ ρ2 : Nat → Int} {h : cz_H} (hn : 2 ≤ n) (rc : dz_ok n ρ (dz_var 0) (h.1 : Int)) (rs : dz_ok n ρ (dz_var 1) (h.2.1 : Int)) (r1 : ∀ i, i < n → ρ2 i = ρ i) (r2 : ρ2 n = (h.1 : Int)) (r3 : ρ2 (n + 1) = (h.2.1 : Int)) : ∀ c ∈ [((0 : Int), [((0 : Nat), (-1 : Int)), (n, 1)]), (0, [(0, 1), (n, -1)]), (0, [(1, -1), (n + 1, 1)]), (0, [(1, 1), (n + 1, -1)])], ∃ x, 0 ≤ x ∧ dz_ok (n + 3) ρ2 c x := by
  have a0 : (0 : Int) + (1 * ρ 0 + 0) = (h.1 : Int) := rc.2
  have a1 : (0 : Int) + (1 * ρ 1 + 0) = (h.2.1 : Int) := rs.2
  have b0 := r1 0 (by omega)
  have b1 := r1 1 (by omega)
  intro c hc
  rcases List.mem_cons.mp hc with e | hc
  · subst e; exact dz_g2 (by omega) (by omega) (by rw [b0, r2]; omega)
  · rcases List.mem_cons.mp hc with e | hc
    · subst e; exact dz_g2 (by omega) (by omega) (by rw [b0, r2]; omega)
    · rcases List.mem_cons.mp hc with e | hc
      · subst e; exact dz_g2 (by omega) (by omega) (by rw [b1, r3]; omega)
      · rw [List.mem_singleton] at hc
        subst hc; exact dz_g2 (by omega) (by omega) (by rw [b1, r3]; omega)
theorem mo_comp : dz_spec tz_T (qz_X rR) cz_pg sp_comp := by
  intro M hM d hd ρ τ h L hG
  have hM' : cz_pg.1[240]? = some cm_240 := rfl
  have e : cm_240 = M := Option.some.inj (hM'.symm.trans hM)
  subst e
  have hG : dz_G tz_T (qz_X rR) (5, [(-192, [(0, 1)]), (0, [(1, 1)]), (0, [(4, 1)]), (1, [(4, -1)]), (-1, [(4, 1)])], [(0, 3, (771, []), 75), (1, 0, dz_var 2, 0), (2, 0, dz_var 3, 0)], [], [((771, []), 75, (7, []), (0, dz_var 4, 0))], [], dz_var 0, dz_var 1) ρ τ h L [] := hG
  obtain ⟨gm, lo, -, mo, -, rc, rs, hb⟩ := hG
  obtain ⟨v0, f0, k0⟩ := lo (0, 3, (771, []), 75) List.mem_cons_self
  obtain ⟨v1, f1, k1⟩ := lo (1, 0, dz_var 2, 0) (List.mem_cons_of_mem _ List.mem_cons_self)
  obtain ⟨v2, f2, k2⟩ := lo (2, 0, dz_var 3, 0) (List.mem_cons_of_mem _ (List.mem_cons_of_mem _ List.mem_cons_self))
  have e0 : v0 = .inr (.inr (some 770)) := dz_ref k0.1 (by have : (771 : Int) + 0 = dz_n v0 := k0.2.1.2; omega)
  have sl : qz_I h 770 7 = 0 + (1 * ρ 4 + 0) := dz_slot (p := 770) (i := 7) (mo _ List.mem_cons_self)
  have g5 := dz_g0 (gm (-1, [(4, 1)]) (List.mem_cons_of_mem _ (List.mem_cons_of_mem _ (List.mem_cons_of_mem _ (List.mem_cons_of_mem _ List.mem_cons_self)))))
  obtain ⟨x1, x2, x3, x4, Ls, ⟨t, c, m, w, s6, s7, u, p⟩, ww9, xx9⟩ := id hb.2.1
  have eB := dz_ezB hb
  obtain ⟨q1, q2, q3, q4, q5⟩ := s7 (by omega)
  have e : eD τ h (vF Ls) := ⟨eB, x1 770 (by decide), q3⟩
  obtain ⟨d', rfl⟩ : ∃ d', d = d' + 2 := ⟨d - 2, by have : 12 ≤ d := hd; omega⟩
  have POST : ∀ v : Int, ez_rg v → dz_post tz_T (qz_X rR) sp_comp ρ τ h (.inl (some (ez_v (.inl v))), h) := fun v hv => dz_back (n := 5) hb List.mem_cons_self rfl hv (fun ρ2 r1 r2 r3 r4 => dz_same4 (by decide) rc rs r1 r2 r3)
  refine ez_from (L := [(0, .inr (.inr (some 770))), (1, .inl (dz_n v1)), (2, .inl (dz_n v2))]) (st := []) rfl (fun q hq => ?_) (rd_composite e q4 (dz_int_rg k1.1) (dz_int_rg k2.1) (fun _ v => ?_) (fun _ i hi hF => ?_) (fun _ hno => POST _ ⟨by decide, by decide⟩))
  · rcases List.mem_cons.mp hq with e | hq
    · subst e; show cz_find 0 L = some (.inr (.inr (some 770))); rw [← e0]; exact f0
    · rcases List.mem_cons.mp hq with e | hq
      · subst e; show cz_find 1 L = some (ez_v (.inl (dz_n v1))); rw [← dz_int k1.1]; exact f1
      · rw [List.mem_singleton] at hq
        subst hq; show cz_find 2 L = some (ez_v (.inl (dz_n v2))); rw [← dz_int k2.1]; exact f2
  · have w9 := POST ((Int32.ofInt v).toInt) ⟨(sz_i32 _).1, (sz_i32 _).2⟩
    have : ez_v (.inl ((Int32.ofInt v).toInt)) = ez_v (.inl v) := by show Sum.inl (Int32.ofInt (Int32.ofInt v).toInt) = Sum.inl (Int32.ofInt v); rw [Int32.ofInt_toInt]
    rw [this] at w9; exact w9
  · generalize qz_I h (dc h) (qz_I h (pq h) i).toNat = v
    have w9 := POST ((Int32.ofInt v).toInt) ⟨(sz_i32 _).1, (sz_i32 _).2⟩
    have : ez_v (.inl ((Int32.ofInt v).toInt)) = ez_v (.inl v) := by show Sum.inl (Int32.ofInt (Int32.ofInt v).toInt) = Sum.inl (Int32.ofInt v); rw [Int32.ofInt_toInt]
    rw [this] at w9; exact w9
theorem sp_comp_eq : dy_rd dy_rSp mos_40 = sp_comp := @of_decide_eq_true _ (dzSp_d _ _) (by decide +kernel)
def sp_sec : dz_Sp := (299, 12, (0, [((2, 0, 3, 75), (771, []), (0, []), (0, [])), ((0, 1, 0, 0), (0, []), (0, []), (0, [])), ((1, 0, 0, 75), (771, []), (7, []), (0, []))], [(-192, [(0, 1)]), (0, [(1, 1)]), (0, [(2, 1)]), (1114111, [(2, -1)]), (0, [(3, 1)]), (1, [(3, -1)]), (-1, [(3, 1)])]), [(1, (4, [((0, 0, 0, 0), (0, []), (0, []), (0, []))], [(0, [(6, 1)]), (1, [(6, -1)]), (0, [(0, -1), (4, 1)]), (0, [(0, 1), (4, -1)]), (0, [(1, -1), (5, 1)]), (0, [(1, 1), (5, -1)])]))], [])
theorem sp_sec_eq : dy_rd dy_rSp mos_14 = sp_sec := @of_decide_eq_true _ (dzSp_d _ _) (by decide +kernel)
theorem mo_sec : dz_spec tz_T (qz_X rR) cz_pg sp_sec := by
  intro M hM d hd ρ τ h L hG
  have hM' : cz_pg.1[299]? = some cm_299 := rfl
  have e : cm_299 = M := Option.some.inj (hM'.symm.trans hM)
  subst e
  have hG : dz_G tz_T (qz_X rR) (4, [(-192, [(0, 1)]), (0, [(1, 1)]), (0, [(2, 1)]), (1114111, [(2, -1)]), (0, [(3, 1)]), (1, [(3, -1)]), (-1, [(3, 1)])], [(0, 3, (771, []), 75), (1, 0, dz_var 2, 0)], [], [((771, []), 75, (7, []), (0, dz_var 3, 0))], [], dz_var 0, dz_var 1) ρ τ h L [] := hG
  obtain ⟨gm, lo, -, mo, -, rc, rs, hb⟩ := hG
  obtain ⟨v0, f0, k0⟩ := lo (0, 3, (771, []), 75) List.mem_cons_self
  obtain ⟨v1, f1, k1⟩ := lo (1, 0, dz_var 2, 0) (List.mem_cons_of_mem _ List.mem_cons_self)
  have e0 : v0 = .inr (.inr (some 770)) := dz_ref k0.1 (by have : (771 : Int) + 0 = dz_n v0 := k0.2.1.2; omega)
  have sl : qz_I h 770 7 = 0 + (1 * ρ 3 + 0) := dz_slot (p := 770) (i := 7) (mo _ List.mem_cons_self)
  have g5 := dz_g0 (gm (-1, [(3, 1)]) (by simp))
  obtain ⟨x1, x2, x3, x4, Ls, ⟨t, c, m, w, s6, s7, u, p⟩, ww9, xx9⟩ := id hb.2.1
  have eB := dz_ezB hb
  obtain ⟨q1, q2, q3, q4, q5⟩ := s7 (by omega)
  have e : eD τ h (vF Ls) := ⟨eB, x1 770 (by decide), q3⟩
  refine ez_from (L := [(0, .inr (.inr (some 770))), (1, .inl (dz_n v1))]) (st := []) rfl (fun q hq => ?_) (rd_second e q4 (dz_int_rg k1.1) (fun v hv => ?_))
  · rcases List.mem_cons.mp hq with e | hq
    · subst e; show cz_find 0 L = some (.inr (.inr (some 770))); rw [← e0]; exact f0
    · rw [List.mem_singleton] at hq
      subst hq; show cz_find 1 L = some (ez_v (.inl (dz_n v1))); rw [← dz_int k1.1]; exact f1
  · refine dz_back (n := 4) hb List.mem_cons_self rfl ⟨by omega, by omega⟩ (fun ρ2 r1 r2 r3 r4 c hc => ?_)
    rcases List.mem_cons.mp hc with e | hc
    · subst e; exact dz_g1 (by omega) (by rw [r4]; omega)
    · rcases List.mem_cons.mp hc with e | hc
      · subst e; exact dz_g1 (by omega) (by rw [r4]; omega)
      · exact dz_same4 (n := 4) (by decide) rc rs r1 r2 r3 c hc
/-! What is kept, out of what was left as it was. -/
theorem qz_fm_j {j : Nat} (h : qz_fm j = true) : j = 7 ∨ j = 8 ∨ j = 9 ∨ j = 10 ∨ j = 11 ∨ j = 12 ∨ j = 21 ∨ j = 22 ∨ j = 23 ∨ j = 27 ∨ j = 28 := by
  have hlt : j < 29 := Classical.byContradiction fun w => by
    have e : Nat.shiftRight 417341312 j = 0 := by
      show 417341312 >>> j = 0
      rw [Nat.shiftRight_eq_div_pow]
      exact Nat.div_eq_of_lt (Nat.lt_of_lt_of_le (show 417341312 < 2 ^ 29 by decide) (Nat.pow_le_pow_right (by decide) (by omega)))
    unfold qz_fm at h
    rw [e] at h
    cases h
  have key : ∀ j, j < 29 → qz_fm j = true → j = 7 ∨ j = 8 ∨ j = 9 ∨ j = 10 ∨ j = 11 ∨ j = 12 ∨ j = 21 ∨ j = 22 ∨ j = 23 ∨ j = 27 ∨ j = 28 := by decide
  exact key j hlt h
theorem fit_eq {c : Nat} {v v' : cz_V} (h : cz_fitc c v = true) (h' : cz_fitc c v' = true) (hc : c = 0 ∨ c = 1 ∨ c = 3) (hn : dz_n v = dz_n v') : v = v' := by
  rcases hc with e | e | e <;> subst e
  · rcases v with a | a | a <;> rcases v' with b | b | b <;> first | (cases h; done) | (cases h'; done) | skip
    rw [show a = b from Int32.toInt_inj.mp hn]
  · rcases v with a | a | a <;> rcases v' with b | b | b <;> first | (cases h; done) | (cases h'; done) | skip
    rw [show a = b from Int32.toInt_inj.mp hn]
  · rcases v with a | a | a <;> rcases v' with b | b | b <;> first | (cases h; done) | (cases h'; done) | skip
    rcases a with _ | a <;> rcases b with _ | b
    · rfl
    · exfalso; have : (0 : Int) = (b : Int) + 1 := hn; omega
    · exfalso; have : (a : Int) + 1 = 0 := hn; omega
    · have : (a : Int) + 1 = (b : Int) + 1 := hn
      rw [show a = b by omega]
/-- a field of the model is the same if its number is -/
theorem get7 {τ τ1 : Nat → Nat} {h g : cz_H} (hB : ez_B τ h) (hB1 : ez_B τ1 g) (t770 : τ 770 = 75) (u770 : τ1 770 = 75) {j : Nat} {D : dz_D} {ti : dz_I} (hti : tz_T 75 = some ti) (hk : (Nat.beq ti.1 0 && Nat.beq ti.2.1 11) = true) (hD : dz_nth ti.2.2.2.2 j = some D) (hc : D.1 = 0 ∨ D.1 = 1 ∨ D.1 = 3) (e : qz_I g 770 j = qz_I h 770 j) : dz_get (g.2.2 770) j = dz_get (h.2.2 770) j := by
  obtain ⟨vs, v, -, -, g1, g2, -⟩ := ez_fld hB t770 hti hk hD
  obtain ⟨vs', v', -, -, g1', g2', -⟩ := ez_fld hB1 u770 hti hk hD
  unfold qz_I at e
  rw [g1, g1'] at e
  rw [g1, g1', fit_eq g2'.1 g2.1 hc e]
theorem sm_of {τ τ1 : Nat → Nat} {h g : cz_H} (hB : ez_B τ h) (hB1 : ez_B τ1 g) (t770 : τ 770 = 75) (ht : ∀ q, τ q ≠ 0 → τ1 q = τ q) (hn : ∀ q, τ q = 0 → qz_pr (τ1 q) = false) (c : ∀ q, qz_pr (τ q) = true → q ≠ 770 → g.2.2 q = h.2.2 q) (i : ∀ j, qz_fm j = true → qz_I g 770 j = qz_I h 770 j) : qz_sm τ h τ1 g := by
  have u770 : τ1 770 = 75 := (ht 770 (by rw [t770]; decide)).trans t770
  have nz : ∀ q, qz_pr (τ q) = true → τ q ≠ 0 := fun q hq e => by rw [e] at hq; cases hq
  refine ⟨fun r hr => ⟨ht r (nz r hr), ?_, fun j hj => ?_⟩, fun r hr => ?_, fun r hr => c r (qz_pr_of hr) (fun e => by rw [e, t770] at hr; cases hr)⟩
  · by_cases e : r = 770
    · rw [e]; exact al7 hB hB1 t770 u770
    · rw [c r hr e]
  · by_cases e : r = 770
    · rw [e] at hj ⊢
      rw [t770] at hj
      have hj : qz_fm j = true := hj
      have e9 := i j hj
      rcases qz_fm_j hj with w | w | w | w | w | w | w | w | w | w | w <;> subst w
      · exact get7 hB hB1 t770 u770 tq_75 rfl rfl (Or.inr (Or.inl rfl)) e9
      · exact get7 hB hB1 t770 u770 tq_75 rfl rfl (Or.inl rfl) e9
      · exact get7 hB hB1 t770 u770 tq_75 rfl rfl (Or.inr (Or.inr rfl)) e9
      · exact get7 hB hB1 t770 u770 tq_75 rfl rfl (Or.inl rfl) e9
      · exact get7 hB hB1 t770 u770 tq_75 rfl rfl (Or.inr (Or.inr rfl)) e9
      · exact get7 hB hB1 t770 u770 tq_75 rfl rfl (Or.inl rfl) e9
      · exact get7 hB hB1 t770 u770 tq_75 rfl rfl (Or.inr (Or.inr rfl)) e9
      · exact get7 hB hB1 t770 u770 tq_75 rfl rfl (Or.inr (Or.inr rfl)) e9
      · exact get7 hB hB1 t770 u770 tq_75 rfl rfl (Or.inl rfl) e9
      · exact get7 hB hB1 t770 u770 tq_75 rfl rfl (Or.inr (Or.inr rfl)) e9
      · exact get7 hB hB1 t770 u770 tq_75 rfl rfl (Or.inl rfl) e9
    · rw [c r hr e]
  · by_cases e0 : τ r = 0
    · rw [hn r e0] at hr; cases hr
    · exact ht r e0
theorem X_of {τ τ1 : Nat → Nat} {h g : cz_H} (hX : qz_X rR τ h) (hB1 : ez_B τ1 g) (ht : ∀ q, τ q ≠ 0 → τ1 q = τ q) (s : qz_sm τ h τ1 g) (x2 : qz_X2 τ1 g) : dz_B tz_T (qz_X rR) τ1 g := ⟨hB1.1, ⟨fun r hr => (ht r (by rw [hX.1 r hr]; exact hr)).trans (hX.1 r hr), hB1.2.1, x2, qz_XP_st _ _ _ _ s hX.2.2.2.1, rR_st _ _ _ _ s hX.2.2.2.2⟩, hB1.2.2⟩
/-- order writes nothing that is kept -/
theorem orz_X {τ : Nat → Nat} {h g : cz_H} (hX : qz_X rR τ h) (hB : ez_B τ h) (o : orz τ h g) : dz_B tz_T (qz_X rR) τ g := by
  have t770 : τ 770 = 75 := hX.1 770 (by decide)
  have i7 := o.s t770
  have c : ∀ q, τ q ≠ 83 → τ q ≠ 85 → g.2.2 q = h.2.2 q := o.2.1
  refine X_of hX o.1 (fun _ _ => rfl) (sm_of hB o.1 t770 (fun _ _ => rfl) (fun q q0 => by rw [q0]; rfl) (fun q hq _ => c q (fun e => by rw [e] at hq; cases hq) (fun e => by rw [e] at hq; cases hq)) (fun j _ => i7 j)) ?_
  obtain ⟨⟨y1, y2⟩, y3, y4⟩ := hX.2.2.1
  have e1 : qz_P g 770 24 = qz_P h 770 24 := by unfold qz_P; rw [i7]
  have e2 : qz_P g 770 35 = qz_P h 770 35 := by unfold qz_P; rw [i7]
  have c1 : qz_N g (qz_P h 770 24) = qz_N h (qz_P h 770 24) := by unfold qz_N; rw [c _ (by rw [y1]; decide) (by rw [y1]; decide)]
  have c2 : qz_N g (qz_P h 770 35) = qz_N h (qz_P h 770 35) := by unfold qz_N; rw [c _ (by rw [y3]; decide) (by rw [y3]; decide)]
  exact ⟨⟨by rw [e1]; exact y1, by rw [e1, c1, i7]; exact y2⟩, by rw [e2]; exact y3, by rw [e2, c2, i7]; exact y4⟩
/-- arrays keep their length -/
theorem orz_al {τ : Nat → Nat} {h g : cz_H} (o : orz τ h g) (hB : ez_B τ h) {r : Nat} (e : τ r = 83 ∨ τ r = 85) : dz_al (g.2.2 r) = dz_al (h.2.2 r) := by
  obtain ⟨-, ti, a2, a3, -⟩ := hB.1 r (by omega)
  obtain ⟨-, ti', b2, b3, -⟩ := o.1.1 r (by omega)
  rw [a2] at b2
  cases b2
  have e0 : ti.1 = 1 ∧ ti.2.2.2.1.1 = 2000 ∧ ti.2.2.2.1.2 = 2000 := by
    rcases e with e | e <;> rw [e] at a2 <;> cases a2 <;> exact ⟨rfl, rfl, rfl⟩
  revert a3 b3
  unfold dz_sh dz_al
  rcases h.2.2 r with q | q | q <;> rcases g.2.2 r with q' | q' | q' <;> intro a3 b3
  · have x1 : q.1 = q'.1 := a3.2.1.trans b3.2.1.symm
    have x2 : q.2.1 = q'.2.1 := by have := a3.2.2; have := b3.2.2; omega
    show Sum.inl (q'.1, q'.2.1) = Sum.inl (q.1, q.2.1)
    rw [x1, x2]
  · exact absurd (b3.1.symm.trans e0.1) (by decide)
  · exact absurd (b3.1.symm.trans e0.1) (by decide)
  · exact absurd (a3.1.symm.trans e0.1) (by decide)
  · exact absurd (a3.1.symm.trans e0.1) (by decide)
  · exact absurd (a3.1.symm.trans e0.1) (by decide)
  · exact absurd (a3.1.symm.trans e0.1) (by decide)
  · exact absurd (a3.1.symm.trans e0.1) (by decide)
  · exact absurd (a3.1.symm.trans e0.1) (by decide)
def sp_ord : dz_Sp := (285, 12, (0, [((2, 0, 3, 75), (771, []), (0, []), (0, []))], [(-192, [(0, 1)]), (0, [(1, 1)])]), [(0, (2, [], [(0, [(0, -1), (2, 1)]), (0, [(0, 1), (2, -1)]), (0, [(1, -1), (3, 1)]), (0, [(1, 1), (3, -1)])]))], [(83, 0), (85, 0)])
theorem sp_ord_eq : dy_rd dy_rSp mos_39 = sp_ord := @of_decide_eq_true _ (dzSp_d _ _) (by decide +kernel)
theorem mo_ord : dz_spec tz_T (qz_X rR) cz_pg sp_ord := by
  intro M hM d hd ρ τ h L hG
  have hM' : cz_pg.1[285]? = some cm_285 := rfl
  have e : cm_285 = M := Option.some.inj (hM'.symm.trans hM)
  subst e
  have hG : dz_G tz_T (qz_X rR) (2, [(-192, [(0, 1)]), (0, [(1, 1)])], [(0, 3, (771, []), 75)], [], [], [], dz_var 0, dz_var 1) ρ τ h L [] := hG
  obtain ⟨gm, lo, -, -, -, rc, rs, hb⟩ := hG
  obtain ⟨v0, f0, k0⟩ := lo (0, 3, (771, []), 75) List.mem_cons_self
  have e0 : v0 = .inr (.inr (some 770)) := dz_ref k0.1 (by have : (771 : Int) + 0 = dz_n v0 := k0.2.1.2; omega)
  have hX := hb.2.1
  obtain ⟨x1, x2, x3, x4, Ls, ⟨t, c, m, w, s6, s7, u, p⟩, ww9, xx9⟩ := id hX
  have eB := dz_ezB hb
  have hI : mI τ h Ls 0 := ⟨eB, x1, m⟩
  obtain ⟨d', rfl⟩ : ∃ d', d = d' + 2 := ⟨d - 2, by have : 12 ≤ d := hd; omega⟩
  have a0 : (0 : Int) + (1 * ρ 0 + 0) = (h.1 : Int) := rc.2
  have a1 : (0 : Int) + (1 * ρ 1 + 0) = (h.2.1 : Int) := rs.2
  refine ez_from (L := [(0, .inr (.inr (some 770)))]) (st := []) rfl (fun q hq => ?_) (rd_order hI (fun g o => ?_))
  · rw [List.mem_singleton] at hq
    subst hq; show cz_find 0 L = some (.inr (.inr (some 770))); rw [← e0]; exact f0
  · have r1 : (g.1 : Int) = (h.1 : Int) := by rw [o.2.2.1]
    have r2 : (g.2.1 : Int) = (h.2.1 : Int) := by rw [o.2.2.2]
    refine ⟨_, List.mem_cons_self, fun i => if i < 2 then ρ i else ρ (i - 2), τ, [], ⟨fun c hc => ?_, fun q hq => (by cases hq), trivial, fun m hm => (by cases hm), fun k hk => (by cases hk), ⟨fun t ht => ?_, ?_⟩, ⟨fun t ht => ?_, ?_⟩, orz_X hX eB o⟩, rfl, fun i hi => if_pos hi, ⟨fun _ _ => rfl, fun r hr => ?_, fun r hr i hi => ?_, by rw [o.2.2.1]; exact Nat.le_refl _⟩, rfl⟩
    · rcases List.mem_cons.mp hc with e | hc
      · subst e; exact dz_g2 (by decide) (by decide) (by show 0 ≤ -1 * ρ 0 + 1 * ρ 0; omega)
      · rcases List.mem_cons.mp hc with e | hc
        · subst e; exact dz_g2 (by decide) (by decide) (by show 0 ≤ 1 * ρ 0 + -1 * ρ 0; omega)
        · rcases List.mem_cons.mp hc with e | hc
          · subst e; exact dz_g2 (by decide) (by decide) (by show 0 ≤ -1 * ρ 1 + 1 * ρ 1; omega)
          · rw [List.mem_singleton] at hc
            subst hc; exact dz_g2 (by decide) (by decide) (by show 0 ≤ 1 * ρ 1 + -1 * ρ 1; omega)
    · have ht : t ∈ [((2 : Nat), (1 : Int))] := ht
      rw [List.mem_singleton] at ht; subst ht; show 2 < 4; decide
    · show (0 : Int) + (1 * ρ 0 + 0) = (g.1 : Int); omega
    · have ht : t ∈ [((3 : Nat), (1 : Int))] := ht
      rw [List.mem_singleton] at ht; subst ht; show 3 < 4; decide
    · show (0 : Int) + (1 * ρ 1 + 0) = (g.2.1 : Int); omega
    · by_cases e : τ r = 83 ∨ τ r = 85
      · exact orz_al o eB e
      · rw [o.2.1 r (by omega) (by omega)]
    · have h83 : τ r ≠ 83 := fun e => by rw [e] at hi; cases hi
      have h85 : τ r ≠ 85 := fun e => by rw [e] at hi; cases hi
      rw [o.2.1 r h83 h85]
/-! The model's full, as the checker has it. -/
def sp_fcs : List dz_Cm := [((2, 0, 3, 75), (771, []), (0, []), (0, [])), ((0, 1, 0, 0), (0, []), (0, []), (0, [])), ((0, 2, 0, 0), (0, []), (0, []), (0, [])), ((1, 3, 21, 75), (771, []), (24, []), (0, [])), ((4, 21, 0, 0), (0, [(4, 1)]), (1, []), (1000000, [])), ((1, 0, 0, 75), (771, []), (7, []), (0, []))]
def sp_fgs : List dz_E := [(-1, [(13, 1)]), (1000000, [(13, -1)]), (-64, [(14, 1)]), (18700, [(14, -1)]), (0, [(11, 1)]), (41, [(11, -1)]), (0, [(12, 1)]), (9300, [(12, -1)]), (0, [(0, -1), (9, 1)]), (20, [(0, 1), (9, -1)]), (0, [(1, -1), (10, 1)]), (0, [(1, 1), (5, -2), (10, -1), (14, 2)]), (0, [(0, 64), (5, -1), (9, -64), (14, 1)])]
def sp_full (gs : List dz_E) : dz_Sp := (261, 12, (0, sp_fcs, gs), [(1, (9, [((0, 0, 0, 0), (0, []), (0, []), (0, [])), ((1, 0, 0, 75), (771, []), (25, []), (0, [])), ((1, 3, 21, 75), (771, []), (24, []), (0, [])), ((4, 21, 0, 0), (0, [(13, 1)]), (1, []), (1000000, []))], sp_fgs))], [(21, 0), (75, 25), (75, 26), (82, 0)])
def sp_fg0 : List dz_E := [(-192, [(0, 1)]), (0, [(1, 1)]), (0, [(3, 1)]), (0, [(3, -1)]), (0, [(3, 1)]), (1, [(3, -1)]), (-1, [(4, 1)]), (1000000, [(4, -1)]), (-64, [(5, 1)]), (18700, [(5, -1)]), (0, [(8, 1)]), (1, [(8, -1)]), (-1, [(8, 1)]), (600000, [(0, -1)]), (6000000, [(1, -1)])]
def sp_fg1 : List dz_E := [(-192, [(0, 1)]), (0, [(1, 1)]), (-1, [(3, 1)]), (1, [(3, -1)]), (0, [(3, 1)]), (1, [(3, -1)]), (-1, [(4, 1)]), (1000000, [(4, -1)]), (-64, [(5, 1)]), (18700, [(5, -1)]), (0, [(8, 1)]), (1, [(8, -1)]), (-1, [(8, 1)]), (600000, [(0, -1)]), (6000000, [(1, -1)])]
def sp_fg2 : List dz_E := [(-192, [(0, 1)]), (0, [(1, 1)]), (0, [(2, 1)]), (1114111, [(2, -1)]), (0, [(3, 1)]), (0, [(3, -1)]), (0, [(3, 1)]), (1, [(3, -1)]), (-1, [(4, 1)]), (1000000, [(4, -1)]), (-64, [(5, 1)]), (18700, [(5, -1)]), (0, [(8, 1)]), (1, [(8, -1)]), (-1, [(8, 1)]), (600000, [(0, -1)]), (6000000, [(1, -1)])]
def sp_fg3 : List dz_E := [(-192, [(0, 1)]), (0, [(1, 1)]), (0, [(2, 1)]), (1114111, [(2, -1)]), (-1, [(3, 1)]), (1, [(3, -1)]), (0, [(3, 1)]), (1, [(3, -1)]), (-1, [(4, 1)]), (1000000, [(4, -1)]), (-64, [(5, 1)]), (18700, [(5, -1)]), (0, [(8, 1)]), (1, [(8, -1)]), (-1, [(8, 1)]), (600000, [(0, -1)]), (6000000, [(1, -1)])]
/-- full writes nothing that is kept -/
theorem ff_X {τ τ1 : Nat → Nat} {h g : cz_H} (hX : qz_X rR τ h) (hB : ez_B τ h) (hB1 : ez_B τ1 g) (f : ff τ h τ1 g) (sn : skn g ≤ qz_N g (sk g)) : dz_B tz_T (qz_X rR) τ1 g := by
  have t770 : τ 770 = 75 := hX.1 770 (by decide)
  have t794 : τ 794 = 82 := hX.1 794 (by decide)
  have u770 : τ1 770 = 75 := (f.1 770 (by rw [t770]; decide)).1.trans t770
  have i7 : ∀ j, j ≠ 24 → j ≠ 25 → qz_I g 770 j = qz_I h 770 j := f.2.2.1
  have nz : ∀ q, qz_pr (τ q) = true → τ q ≠ 0 := fun q hq e => by rw [e] at hq; cases hq
  refine X_of hX hB1 (fun q hq => (f.1 q hq).1) (sm_of hB hB1 t770 (fun q hq => (f.1 q hq).1) (fun q q0 => ?_) (fun q hq h7 => (f.1 q (nz q hq)).2 h7 (fun e => by rw [e, t794] at hq; cases hq) (fun e => by rw [e] at hq; cases hq)) (fun j hj => i7 j (fun e => by rw [e] at hj; cases hj) (fun e => by rw [e] at hj; cases hj))) ?_
  · by_cases e : τ1 q = 0
    · rw [e]; rfl
    · rw [f.2.1 q q0 e]; rfl
  · obtain ⟨⟨y1, y2⟩, y3, y4⟩ := hX.2.2.1
    have e2 : qz_P g 770 35 = qz_P h 770 35 := by unfold qz_P; rw [i7 35 (by decide) (by decide)]
    have c2 : g.2.2 (qz_P h 770 35) = h.2.2 (qz_P h 770 35) := (f.1 _ (by rw [y3]; decide)).2 (fun e => by rw [e, t770] at y3; cases y3) (fun e => by rw [e, t794] at y3; cases y3) (by rw [y3]; decide)
    refine ⟨⟨ez_tsk hB1 u770, sn⟩, by rw [e2, (f.1 _ (by rw [y3]; decide)).1]; exact y3, ?_⟩
    rw [e2, i7 36 (by decide) (by decide)]
    unfold qz_N at y4 ⊢
    rw [c2]; exact y4
theorem az_all {F : rz_W} {n : Nat} (h : ∀ x, (F x).2 ≠ none → az F n x) (p : Int) : az F (n + 1) p := by
  cases hp : (F p).2 with
  | none => exact Or.inr (Or.inl hp)
  | some q => exact az_succ F n p (h p (by rw [hp]; intro w; cases w))
theorem dz_g4 {n : Nat} {ρ : Nat → Int} {i j k l : Nat} {a b c e : Int} (hi : i < n) (hj : j < n) (hk : k < n) (hl : l < n) (h : 0 ≤ a * ρ i + b * ρ j + c * ρ k + e * ρ l) : ∃ x, 0 ≤ x ∧ dz_ok n ρ (0, [(i, a), (j, b), (k, c), (l, e)]) x := ⟨_, h, fun t ht => by
  rcases List.mem_cons.mp ht with e | ht
  · subst e; exact hi
  · rcases List.mem_cons.mp ht with e | ht
    · subst e; exact hj
    · rcases List.mem_cons.mp ht with e | ht
      · subst e; exact hk
      · rw [List.mem_singleton] at ht; subst ht; exact hl, by show (0 : Int) + (a * ρ i + (b * ρ j + (c * ρ k + (e * ρ l + 0)))) = _; omega⟩
theorem dz_g3 {n : Nat} {ρ : Nat → Int} {i j : Nat} {a b c : Int} (hi : i < n) (hj : j < n) (h : 0 ≤ c + (a * ρ i + b * ρ j)) : ∃ x, 0 ≤ x ∧ dz_ok n ρ (c, [(i, a), (j, b)]) x := ⟨_, h, fun t ht => by
  rcases List.mem_cons.mp ht with e | e
  · subst e; exact hi
  · rw [List.mem_singleton] at e; subst e; exact hj, by show c + (a * ρ i + (b * ρ j + 0)) = _; omega⟩
theorem dz_v1 {n : Nat} {ρ : Nat → Int} {i : Nat} {x : Int} (hi : i < n) (h : ρ i = x) : dz_ok n ρ (dz_var i) x := ⟨fun t ht => by
  have ht : t ∈ [(i, (1 : Int))] := ht
  rw [List.mem_singleton] at ht; subst ht; exact hi, by show (0 : Int) + (1 * ρ i + 0) = x; omega⟩
theorem dz_c1 {n : Nat} {ρ : Nat → Int} {c : Int} : dz_ok n ρ (c, []) c := ⟨fun t ht => (by cases ht), by show c + 0 = c; omega⟩
theorem get_al0 {c c' : cz_C} {i : Nat} (h : dz_al c = dz_al c') (hn : dz_get c i = none) : dz_get c' i = none := by
  revert h hn
  unfold dz_al dz_get
  rcases c with q | q | q <;> rcases c' with q' | q' | q' <;> intro h hn
  · have h2 : q.2.1 = q'.2.1 := (Prod.mk.inj (Sum.inl.inj h)).2
    have hn : (if i < q.2.1 then some (q.2.2 i) else none) = none := hn
    show (if i < q'.2.1 then some (q'.2.2 i) else none) = none
    by_cases e : i < q.2.1
    · rw [if_pos e] at hn; cases hn
    · rw [if_neg (by omega)]
  · cases h
  · cases h
  · cases h
  · have h2 : q.2.length = q'.2.length := (Prod.mk.inj (Sum.inl.inj (Sum.inr.inj h))).2
    have hn : q.2[i]? = none := hn
    show q'.2[i]? = none
    rw [List.getElem?_eq_none_iff] at hn ⊢
    omega
  · cases (Sum.inr.inj h)
  · cases h
  · cases (Sum.inr.inj h)
  · rfl
theorem kd75 : ∀ i, i < 64 → (match tz_T 75 with
    | some ti => (match dz_nth ti.2.2.2.2 i with
      | some D => Nat.beq D.1 0 || (Nat.beq D.1 1 || Nat.beq D.1 3)
      | none => true)
    | none => false) = true := by decide +kernel
theorem get7x {τ τ1 : Nat → Nat} {h g : cz_H} (hB : ez_B τ h) (hB1 : ez_B τ1 g) (t770 : τ 770 = 75) (u770 : τ1 770 = 75) {i : Nat} (e : qz_I g 770 i = qz_I h 770 i) : dz_get (g.2.2 770) i = dz_get (h.2.2 770) i := by
  have al := al7 hB hB1 t770 u770
  obtain ⟨-, ti, a2, a3, -, a5⟩ := hB.1 770 (by rw [t770]; decide)
  obtain ⟨-, ti', b2, b3, -, b5⟩ := hB1.1 770 (by rw [u770]; decide)
  rw [t770] at a2
  rw [u770, a2] at b2
  cases b2
  cases ha : dz_get (h.2.2 770) i with
  | none => rw [get_al0 al.symm ha]
  | some v =>
    cases hb : dz_get (g.2.2 770) i with
    | none => rw [get_al0 al hb] at ha; cases ha
    | some v' =>
      obtain ⟨D, d1, d2⟩ := a5 i v ha
      obtain ⟨D', d1', d2'⟩ := b5 i v' hb
      rw [d1] at d1'
      cases d1'
      have hlen : i < 64 := by
        have e0 : ti.1 = 0 ∧ ti.2.2.2.2.length ≤ 64 := by cases a2; exact ⟨rfl, by decide⟩
        revert a3 ha
        unfold dz_sh dz_get
        rcases h.2.2 770 with q | q | q <;> intro a3 ha
        · exact absurd (a3.1.symm.trans e0.1) (by decide)
        · have ha : q.2[i]? = some v := ha
          have := (List.getElem?_eq_some_iff.mp ha).1
          have := a3.2.2
          omega
        · cases ha
      have kd := kd75 i hlen
      rw [a2] at kd
      have d1 : dz_nth ti.2.2.2.2 i = some D := by
        have e0 : ti.1 = 0 := by cases a2; rfl
        unfold dz_ds at d1
        rw [e0] at d1
        exact d1
      have kd : (match dz_nth ti.2.2.2.2 i with
        | some D => Nat.beq D.1 0 || (Nat.beq D.1 1 || Nat.beq D.1 3)
        | none => true) = true := kd
      rw [d1] at kd
      have kd : (Nat.beq D.1 0 || (Nat.beq D.1 1 || Nat.beq D.1 3)) = true := kd
      rw [Bool.or_eq_true, Bool.or_eq_true] at kd
      unfold qz_I at e
      rw [ha, hb] at e
      rw [fit_eq d2'.1 d2.1 (kd.imp Nat.eq_of_beq_eq_true (fun w => w.imp Nat.eq_of_beq_eq_true Nat.eq_of_beq_eq_true)) e]
theorem mo_full {gs : List dz_E} (g1 : ((-1 : Int), [((8 : Nat), (1 : Int))]) ∈ gs) (g2 : ((600000 : Int), [((0 : Nat), (-1 : Int))]) ∈ gs) (g3 : ((6000000 : Int), [((1 : Nat), (-1 : Int))]) ∈ gs) : dz_spec tz_T (qz_X rR) cz_pg (sp_full gs) := by
  intro M hM d hd ρ τ h L hG
  have hM' : cz_pg.1[261]? = some cm_261 := rfl
  have e : cm_261 = M := Option.some.inj (hM'.symm.trans hM)
  subst e
  have hG : dz_G tz_T (qz_X rR) (9, gs, [(0, 3, (771, []), 75), (1, 0, dz_var 2, 0), (2, 0, dz_var 3, 0)], [], [((771, []), 75, (24, []), (3, dz_var 4, 21)), ((771, []), 75, (7, []), (0, dz_var 8, 0))], [((0, [(4, 1)]), 21, dz_var 5, dz_var 6, dz_var 7, (1, []), (1000000, []))], dz_var 0, dz_var 1) ρ τ h L [] := hG
  obtain ⟨gm, lo, -, mo, ko, rc, rs, hb⟩ := hG
  obtain ⟨v0, f0, k0⟩ := lo (0, 3, (771, []), 75) List.mem_cons_self
  obtain ⟨v1, f1, k1⟩ := lo (1, 0, dz_var 2, 0) (List.mem_cons_of_mem _ List.mem_cons_self)
  obtain ⟨v2, f2, k2⟩ := lo (2, 0, dz_var 3, 0) (List.mem_cons_of_mem _ (List.mem_cons_of_mem _ List.mem_cons_self))
  have e0 : v0 = .inr (.inr (some 770)) := dz_ref k0.1 (by have : (771 : Int) + 0 = dz_n v0 := k0.2.1.2; omega)
  have s24 : qz_I h 770 24 = 0 + (1 * ρ 4 + 0) := dz_slot (p := 770) (i := 24) (mo _ List.mem_cons_self)
  have s7 : qz_I h 770 7 = 0 + (1 * ρ 8 + 0) := dz_slot (p := 770) (i := 7) (mo _ (List.mem_cons_of_mem _ List.mem_cons_self))
  obtain ⟨r, q, s, u, lo', hi', kk1, kk2, kk3, kk4, -⟩ := ko _ List.mem_cons_self
  have kk1 : (0 : Int) + (1 * ρ 4 + 0) = (r : Int) + 1 := kk1.2
  have kk4 : (0 : Int) + (1 * ρ 5 + 0) = (q.2.1 : Int) := kk4.2
  have esk : sk h = r := by unfold sk qz_P; rw [s24]; omega
  have eN : qz_N h (sk h) = ρ 5 := by rw [esk]; unfold qz_N; rw [kk3]; show (q.2.1 : Int) = ρ 5; omega
  have b1 := dz_g0 (gm _ g1)
  have b2 := dz_g0 (gm _ g2)
  have b3 := dz_g0 (gm _ g3)
  have a0 : (0 : Int) + (1 * ρ 0 + 0) = (h.1 : Int) := rc.2
  have a1 : (0 : Int) + (1 * ρ 1 + 0) = (h.2.1 : Int) := rs.2
  have hX := hb.2.1
  obtain ⟨x1, x2, x3, x4, Ls, ⟨t, c, m, w, s6, s77, uu, p⟩, ww9, xx9⟩ := id hX
  have eB := dz_ezB hb
  have t770 : τ 770 = 75 := x1 770 (by decide)
  have t794 : τ 794 = 82 := x1 794 (by decide)
  obtain ⟨q1, q2, q3, q4, q5⟩ := s77 (by omega)
  have e : eD τ h (vF Ls) := ⟨eB, t770, q3⟩
  obtain ⟨d', rfl⟩ : ∃ d', d = d' + 2 := ⟨d - 2, by have : 12 ≤ d := hd; omega⟩
  obtain ⟨l, hl⟩ := az_f (F := vF Ls) (decide (dz_n v2 ≠ 0)) 502 (dz_n v1) (az_all q5 _)
  have lb0 : 64 ≤ qz_N h (sk h) := (ez_len eB (ez_tsk eB t770) tq_21 rfl).1
  have POST : ∀ (g : cz_H) (τ1 : Nat → Nat) (y : Int), 0 ≤ y → y ≤ 41 → ez_B τ1 g → ff τ h τ1 g → skn g ≤ qz_N g (sk g) → dz_post tz_T (qz_X rR) (sp_full gs) ρ τ h (.inl (some (ez_v (.inl y))), g) := by
    intro g τ1 y y0 y1 hB1 f sn
    have u770 : τ1 770 = 75 := (f.1 770 (by rw [t770]; decide)).1.trans t770
    have ts := ez_tsk hB1 u770
    have hl1 : 64 ≤ qz_N g (sk g) ∧ qz_N g (sk g) ≤ 18700 := ez_len hB1 ts tq_21 rfl
    have m8 := f.m8 lb0 hl1.2
    have rr := f.2.2.2.2
    have b25 : 0 ≤ skn g ∧ skn g ≤ 9300 := ez_fB (cl := 11) (k := 25) hB1 u770 tq_75 rfl rfl (by decide)
    have b24 : 1 ≤ qz_I g 770 24 ∧ qz_I g 770 24 ≤ 1000000 := ez_fB (cl := 11) (k := 24) hB1 u770 tq_75 rfl rfl (by decide)
    have es : qz_I g 770 24 = (sk g : Int) + 1 := by unfold sk qz_P; omega
    obtain ⟨vs, w25, -, -, j1, j2, -⟩ := ez_fld (cl := 11) (k := 25) hB1 u770 tq_75 rfl rfl
    obtain ⟨vs', w24, -, -, i1, i2, -⟩ := ez_fld (cl := 11) (k := 24) hB1 u770 tq_75 rfl rfl
    have n25 : dz_n w25 = skn g := by unfold skn qz_I; rw [j1]
    have n24 : dz_n w24 = (sk g : Int) + 1 := by rw [← es]; unfold qz_I; rw [i1]
    obtain ⟨-, ti, t2, t3, -⟩ := hB1.1 (sk g) (by rw [ts]; decide)
    obtain ⟨qq, hqq⟩ : ∃ qq, g.2.2 (sk g) = .inl qq := by
      rw [ts] at t2
      have e1 : ti.1 = 1 := by cases t2; rfl
      revert t3
      unfold dz_sh
      rcases g.2.2 (sk g) with z | z | z <;> intro t3
      · exact ⟨z, rfl⟩
      · exact absurd (t3.1.symm.trans e1) (by decide)
      · exact absurd (t3.1.symm.trans e1) (by decide)
    have nq : (qq.2.1 : Int) = qz_N g (sk g) := by unfold qz_N; rw [hqq]
    have hr : ∃ ρ2 : Nat → Int, (∀ i, i < 9 → ρ2 i = ρ i) ∧ ρ2 9 = (g.1 : Int) ∧ ρ2 10 = (g.2.1 : Int) ∧ ρ2 11 = y ∧ ρ2 12 = skn g ∧ ρ2 13 = (sk g : Int) + 1 ∧ ρ2 14 = qz_N g (sk g) ∧ ρ2 15 = 0 ∧ ρ2 16 = 0 :=
      ⟨fun i => if i < 9 then ρ i else if i = 9 then (g.1 : Int) else if i = 10 then (g.2.1 : Int) else if i = 11 then y else if i = 12 then skn g else if i = 13 then (sk g : Int) + 1 else if i = 14 then qz_N g (sk g) else 0, fun i hi => if_pos hi, rfl, rfl, rfl, rfl, rfl, rfl, rfl, rfl⟩
    obtain ⟨ρ2, r1, r9, r10, r11, r12, r13, r14, r15, r16⟩ := hr
    have c0 := r1 0 (by decide)
    have c1 := r1 1 (by decide)
    have c5 := r1 5 (by decide)
    have G : dz_G tz_T (qz_X rR) (17, sp_fgs, [(0, 0, dz_var 11, 0)], [], [((771, []), 75, (25, []), (0, dz_var 12, 0)), ((771, []), 75, (24, []), (3, dz_var 13, 21))], [((0, [(13, 1)]), 21, dz_var 14, dz_var 15, dz_var 16, (1, []), (1000000, []))], dz_var 9, dz_var 10) ρ2 τ1 g [(0, ez_v (.inl y))] [] := by
      refine ⟨fun c hc => ?_, fun z hz => ?_, trivial, fun z hz => ?_, fun z hz => ?_, dz_v1 (by decide) r9, dz_v1 (by decide) r10, ff_X hX eB hB1 f sn⟩
      · unfold sp_fgs at hc
        simp only [List.mem_cons, List.not_mem_nil, or_false] at hc
        rcases hc with e | e | e | e | e | e | e | e | e | e | e | e | e <;> subst e
        · exact dz_g1 (by decide) (by rw [r13]; omega)
        · exact dz_g1 (by decide) (by rw [r13]; omega)
        · exact dz_g1 (by decide) (by rw [r14]; omega)
        · exact dz_g1 (by decide) (by rw [r14]; omega)
        · exact dz_g1 (by decide) (by rw [r11]; omega)
        · exact dz_g1 (by decide) (by rw [r11]; omega)
        · exact dz_g1 (by decide) (by rw [r12]; omega)
        · exact dz_g1 (by decide) (by rw [r12]; omega)
        · exact dz_g2 (by decide) (by decide) (by rw [c0, r9]; omega)
        · exact dz_g3 (by decide) (by decide) (by rw [c0, r9]; omega)
        · exact dz_g2 (by decide) (by decide) (by rw [c1, r10]; omega)
        · exact dz_g4 (by decide) (by decide) (by decide) (by decide) (by rw [c1, c5, r10, r14]; omega)
        · exact dz_g4 (by decide) (by decide) (by decide) (by decide) (by rw [c0, c5, r9, r14]; omega)
      · rw [List.mem_singleton] at hz
        subst hz
        exact ⟨_, rfl, rfl, dz_v1 (by decide) (by rw [r11, rz_rd ⟨by omega, by omega⟩]), fun r hr => by cases hr⟩
      · rcases List.mem_cons.mp hz with e | hz
        · subst e
          have k25 : dz_k w25 = 0 := by
            have := j2.1
            rcases w25 with a | a | a
            · rfl
            · cases this
            · cases this
          exact ⟨770, 25, w25, dz_c1, ⟨u770, by decide⟩, dz_c1, j1, k25, dz_v1 (by decide) (by rw [r12, n25]), fun r hr => by rw [hr] at k25; cases k25⟩
        · rw [List.mem_singleton] at hz
          subst hz
          have k24 : dz_k w24 = 3 := by
            have := i2.1
            rcases w24 with a | a | a
            · cases this
            · cases this
            · rfl
          exact ⟨770, 24, w24, dz_c1, ⟨u770, by decide⟩, dz_c1, i1, k24, dz_v1 (by decide) (by rw [r13, n24]), fun r hr => by
            rw [hr] at n24
            have : (r : Int) + 1 = (sk g : Int) + 1 := n24
            rw [show r = sk g by omega]; exact ⟨ts, by decide⟩⟩
      · rw [List.mem_singleton] at hz
        subst hz
        exact ⟨sk g, qq, 0, 0, 1, 1000000, dz_v1 (i := 13) (by decide) r13, ⟨ts, by decide⟩, hqq, dz_v1 (by decide) (by rw [r14, nq]), dz_v1 (by decide) r15, dz_v1 (by decide) r16, dz_c1, dz_c1, fun i h1 h2 => by omega⟩
    refine ⟨_, List.mem_cons_self, ρ2, τ1, [(0, ez_v (.inl y))], G, rfl, r1, ⟨fun r hr => (f.1 r hr).1, fun r hr => f.2.2.2.2.2.2.1 r hr, fun r hr i hi => ?_, f.2.2.2.2.2.1.1⟩, _, rfl, rfl⟩
    by_cases h21 : τ r = 21
    · rw [h21] at hi; cases hi
    · by_cases h82 : τ r = 82
      · rw [h82] at hi; cases hi
      · by_cases h7 : r = 770
        · subst h7
          rw [t770] at hi
          exact get7x eB hB1 t770 u770 (f.2.2.1 i (fun w => by rw [w] at hi; cases hi) (fun w => by rw [w] at hi; cases hi))
        · rw [(f.1 r hr).2 h7 (fun w => by rw [w] at h82; exact h82 t794) h21]
  refine ez_from (L := [(0, .inr (.inr (some 770))), (1, .inl (dz_n v1)), (2, .inl (dz_n v2))]) (st := []) rfl (fun q hq => ?_) (rd_full (cb := decide (dz_n v2 ≠ 0)) (l := l) (n := 502) e t794 (by omega) (by omega) (dz_int_rg k1.1) (dz_int_rg k2.1) ⟨fun w => decide_eq_true w, fun w => of_decide_eq_true w⟩ hl (by decide) (fun l40 g τ1 hB1 f sn _ => POST g τ1 _ (by omega) (by omega) hB1 f sn) (fun l41 g τ1 hB1 f sn => POST g τ1 41 (by omega) (by omega) hB1 f sn))
  rcases List.mem_cons.mp hq with e | hq
  · subst e; show cz_find 0 L = some (.inr (.inr (some 770))); rw [← e0]; exact f0
  · rcases List.mem_cons.mp hq with e | hq
    · subst e; show cz_find 1 L = some (ez_v (.inl (dz_n v1))); rw [← dz_int k1.1]; exact f1
    · rw [List.mem_singleton] at hq
      subst hq; show cz_find 2 L = some (ez_v (.inl (dz_n v2))); rw [← dz_int k2.1]; exact f2
theorem sp_full_eq23 : dy_rd dy_rSp mos_17 = sp_full sp_fg2 := @of_decide_eq_true _ (dzSp_d _ _) (by decide +kernel)
theorem sp_full_eq24 : dy_rd dy_rSp mos_18 = sp_full sp_fg3 := @of_decide_eq_true _ (dzSp_d _ _) (by decide +kernel)
theorem sp_full_eq48 : dy_rd dy_rSp mos_42 = sp_full sp_fg0 := @of_decide_eq_true _ (dzSp_d _ _) (by decide +kernel)
theorem sp_full_eq49 : dy_rd dy_rSp mos_43 = sp_full sp_fg1 := @of_decide_eq_true _ (dzSp_d _ _) (by decide +kernel)
/-- all that is by hand of the model -/
theorem moh_ok : ∀ s ∈ moh_, dz_spec tz_T (qz_X rR) cz_pg (dy_rd dy_rSp s) := by
  intro s hs
  unfold moh_ at hs
  simp only [List.mem_cons, List.not_mem_nil, or_false] at hs
  rcases hs with e | e | e | e | e | e | e <;> subst e
  · rw [sp_sec_eq]; exact mo_sec
  · rw [sp_full_eq23]; exact mo_full (by decide) (by decide) (by decide)
  · rw [sp_full_eq24]; exact mo_full (by decide) (by decide) (by decide)
  · rw [sp_ord_eq]; exact mo_ord
  · rw [sp_comp_eq]; exact mo_comp
  · rw [sp_full_eq48]; exact mo_full (by decide) (by decide) (by decide)
  · rw [sp_full_eq49]; exact mo_full (by decide) (by decide) (by decide)
/-! The class: texts grow. (Written by wip/p2/py/pv104.py.) -/
/-- texts alone are written -/
def tw (τ : Nat → Nat) (h g : cz_H) : Prop := ez_B τ g ∧ (∀ q, τ q ≠ 1 → τ q ≠ 2 → g.2.2 q = h.2.2 q) ∧ dz_Fr [(1, 2), (2, 0)] τ h τ g ∧ g.1 = h.1 ∧ g.2.1 = h.2.1
theorem tw.refl {τ : Nat → Nat} {h : cz_H} (hB : ez_B τ h) : tw τ h h := ⟨hB, fun _ _ _ => rfl, dz_Fr.refl _ _ _, rfl, rfl⟩
theorem tw.trans {τ : Nat → Nat} {h g g2 : cz_H} (a : tw τ h g) (b : tw τ g g2) : tw τ h g2 := ⟨b.1, fun q h1 h2 => (b.2.1 q h1 h2).trans (a.2.1 q h1 h2), a.2.2.1.trans b.2.2.1, b.2.2.2.1.trans a.2.2.2.1, b.2.2.2.2.trans a.2.2.2.2⟩
theorem tw.putL {τ : Nat → Nat} {h g : cz_H} {r : Nat} {v : cz_V} (a : tw τ h g) (hB : ez_B τ (dz_put g r 1 v)) (ht : τ r = 1) : tw τ h (dz_put g r 1 v) := by
  obtain ⟨vs, old, -, -, g1, -⟩ := ez_fld (cl := 1) (k := 1) a.1 ht tq_1 rfl rfl
  exact ⟨hB, fun q h1 h2 => by rw [qz_put_at _ _ _ _ (fun e => by rw [e] at h1; exact h1 ht)]; exact a.2.1 q h1 h2, a.2.2.1.trans (dz_Fr.put g1 (by rw [ht]; rfl)), a.2.2.2.1, a.2.2.2.2⟩
theorem tw.putP {τ : Nat → Nat} {h g : cz_H} {r : Nat} {i : Int} {v : cz_V} (a : tw τ h g) (hB : ez_B τ (dz_put g r i.toNat v)) (ht : τ r = 2) (i0 : 0 ≤ i) (hi : i < 2000) : tw τ h (dz_put g r i.toNat v) := by
  obtain ⟨n, f, o1, o2, o3, o4, o5, o6⟩ := ez_arr a.1 ht tq_2 rfl rfl
  have o4 : 2000 ≤ qz_N g r := o4.1
  obtain ⟨g1, g2⟩ := o6 i.toNat (by omega)
  exact ⟨hB, fun q h1 h2 => by rw [qz_put_at _ _ _ _ (fun e => by rw [e] at h2; exact h2 ht)]; exact a.2.1 q h1 h2, a.2.2.1.trans (dz_Fr.put g1 (by rw [ht]; rfl)), a.2.2.2.1, a.2.2.2.2⟩
section EzTw
variable {d : Nat} {h : cz_H} {τ : Nat → Nat} {Q : cz_F → Prop}
theorem rd_spanIdx_l {p : Int} (hB : ez_B τ h) (t202 : τ 202 = 48) (pr : ez_rg p) (k : ∀ i, 0 ≤ i → i < qz_I h 202 1 → Q (.inl (some (ez_v (.inl i))), h)) : ∀ (n : Nat) (low high : Int), (high - low).toNat ≤ n → 0 ≤ low → low ≤ high → high < qz_I h 202 1 → qz_I h 202 1 ≤ 513 → ez_W d cm_102 9 [(3, .inl (high)), (2, .inl (low)), (0, .inr (.inr (some (202)))), (1, .inl (p))] [] h Q := by
  obtain ⟨p0, p1⟩ := id pr
  intro n
  induction n with
  | zero =>
    intro low high hn l0 l1 h1 n1
    refine ez_go (n := 2) (pc' := 11) (L' := [(3, .inl (high)), (2, .inl (low)), (0, .inr (.inr (some (202)))), (1, .inl (p))]) (st' := [.inl (high), .inl (low)]) rfl ?_
    refine ez_icmp rfl rfl ⟨by first | omega | exact (sz_i32 _).1, by first | omega | exact (sz_i32 _).2⟩ ⟨by first | omega | exact (sz_i32 _).1, by first | omega | exact (sz_i32 _).2⟩ (fun (c1 : (high) ≤ (low)) => ?_) (fun (c1 : ¬((high) ≤ (low))) => ?_)
    · skip
      refine ez_go (n := 1) (pc' := 52) (L' := [(3, .inl (high)), (2, .inl (low)), (0, .inr (.inr (some (202)))), (1, .inl (p))]) (st' := [.inl (low)]) rfl ?_
      exact ez_retI rfl rfl (k low l0 (by omega))
    · exfalso; omega
  | succ n ih =>
    intro low high hn l0 l1 h1 n1
    refine ez_go (n := 2) (pc' := 11) (L' := [(3, .inl (high)), (2, .inl (low)), (0, .inr (.inr (some (202)))), (1, .inl (p))]) (st' := [.inl (high), .inl (low)]) rfl ?_
    refine ez_icmp rfl rfl ⟨by first | omega | exact (sz_i32 _).1, by first | omega | exact (sz_i32 _).2⟩ ⟨by first | omega | exact (sz_i32 _).1, by first | omega | exact (sz_i32 _).2⟩ (fun (c1 : (high) ≤ (low)) => ?_) (fun (c1 : ¬((high) ≤ (low))) => ?_)
    · skip
      refine ez_go (n := 1) (pc' := 52) (L' := [(3, .inl (high)), (2, .inl (low)), (0, .inr (.inr (some (202)))), (1, .inl (p))]) (st' := [.inl (low)]) rfl ?_
      exact ez_retI rfl rfl (k low l0 (by omega))
    · skip
      refine ez_go (n := 8) (pc' := 23) (L' := [(4, .inl ((((Int32.ofInt (((low) + (high)) + (1))).toUInt32 >>> ((Int32.ofInt (1)).toUInt32 &&& Int32.toUInt32 31)).toInt32).toInt)), (3, .inl (high)), (2, .inl (low)), (0, .inr (.inr (some (202)))), (1, .inl (p))]) (st' := []) rfl ?_
      rw [ez_half (a := low + high + 1) (by omega) (by omega)]
      refine ez_go (n := 1) (pc' := 24) (L' := [(4, .inl ((low + high + 1) / 2)), (3, .inl (high)), (2, .inl (low)), (0, .inr (.inr (some (202)))), (1, .inl (p))]) (st' := [.inr (.inr (some (202)))]) rfl ?_
      refine ez_gC (p := 203) (tg := 49) hB t202 rfl rfl tq_48 rfl rfl (fun (t203 : _ = 49) => ?_)
      refine ez_go (n := 1) (pc' := 29) (L' := [(4, .inl ((low + high + 1) / 2)), (3, .inl (high)), (2, .inl (low)), (0, .inr (.inr (some (202)))), (1, .inl (p))]) (st' := [.inl ((low + high + 1) / 2), .inr (.inr (some (203)))]) rfl ?_
      have n3 : 513 ≤ qz_N h 203 ∧ qz_N h 203 ≤ 513 := ez_len hB t203 tq_49 rfl
      have y4 : 1 ≤ qz_I h 203 ((low + high + 1) / 2).toNat ∧ qz_I h 203 ((low + high + 1) / 2).toNat ≤ 1000000 := ez_aB hB t203 tq_49 rfl rfl (by decide) (by omega) (by omega)
      have y4' : ((qz_P h 203 ((low + high + 1) / 2).toNat : Nat) : Int) + 1 = qz_I h 203 ((low + high + 1) / 2).toNat := by unfold qz_P; omega
      refine ez_aR hB t203 rfl tq_49 rfl rfl (by omega) (by omega) (by omega) (fun (t2 : _ = 4) => ?_)
      refine ez_gI hB t2 rfl rfl tq_4 rfl rfl (fun (b5 : -2147483648 ≤ qz_I h (qz_P h 203 ((low + high + 1) / 2).toNat) 0) (b5' : qz_I h (qz_P h 203 ((low + high + 1) / 2).toNat) 0 ≤ 2147483647) => ?_)
      refine ez_go (n := 1) (pc' := 34) (L' := [(4, .inl ((low + high + 1) / 2)), (3, .inl (high)), (2, .inl (low)), (0, .inr (.inr (some (202)))), (1, .inl (p))]) (st' := [.inl (p), .inl (qz_I h (qz_P h 203 ((low + high + 1) / 2).toNat) 0)]) rfl ?_
      refine ez_icmp rfl rfl ⟨by first | omega | exact (sz_i32 _).1, by first | omega | exact (sz_i32 _).2⟩ ⟨by first | omega | exact (sz_i32 _).1, by first | omega | exact (sz_i32 _).2⟩ (fun (c6 : (p) < (qz_I h (qz_P h 203 ((low + high + 1) / 2).toNat) 0)) => ?_) (fun (c6 : ¬((p) < (qz_I h (qz_P h 203 ((low + high + 1) / 2).toNat) 0))) => ?_)
      · skip
        refine ez_go (n := 5) (pc' := 9) (L' := [(3, .inl (((low + high + 1) / 2) - (1))), (4, .inl ((low + high + 1) / 2)), (2, .inl (low)), (0, .inr (.inr (some (202)))), (1, .inl (p))]) (st' := []) rfl ?_
        refine ez_less [(3, .inl (((low + high + 1) / 2) - (1))), (2, .inl (low)), (0, .inr (.inr (some (202)))), (1, .inl (p))] rfl ⟨rfl, rfl, rfl, rfl, trivial⟩ ?_
        exact ih _ _ (by omega) (by omega) (by omega) (by omega) n1
      · skip
        refine ez_go (n := 4) (pc' := 9) (L' := [(2, .inl ((low + high + 1) / 2)), (4, .inl ((low + high + 1) / 2)), (3, .inl (high)), (0, .inr (.inr (some (202)))), (1, .inl (p))]) (st' := []) rfl ?_
        refine ez_less [(3, .inl (high)), (2, .inl ((low + high + 1) / 2)), (0, .inr (.inr (some (202)))), (1, .inl (p))] rfl ⟨rfl, rfl, rfl, rfl, trivial⟩ ?_
        exact ih _ _ (by omega) (by omega) (by omega) (by omega) n1
theorem rd_spanIdx {p : Int} (hB : ez_B τ h) (t202 : τ 202 = 48) (pr : ez_rg p) (k : ∀ i, 0 ≤ i → i < qz_I h 202 1 → Q (.inl (some (ez_v (.inl i))), h)) : ez_W d cm_102 0 [(0, .inr (.inr (some (202)))), (1, .inl (p))] [] h Q := by
  obtain ⟨p0, p1⟩ := id pr
  refine ez_go (n := 3) (pc' := 3) (L' := [(2, .inl (0)), (0, .inr (.inr (some (202)))), (1, .inl (p))]) (st' := [.inr (.inr (some (202)))]) rfl ?_
  refine ez_gI hB t202 rfl rfl tq_48 rfl rfl (fun (b1 : 1 ≤ qz_I h 202 1) (b1' : qz_I h 202 1 ≤ 513) => ?_)
  refine ez_go (n := 3) (pc' := 9) (L' := [(3, .inl ((qz_I h 202 1) - (1))), (2, .inl (0)), (0, .inr (.inr (some (202)))), (1, .inl (p))]) (st' := []) rfl ?_
  refine ez_less [(3, .inl ((qz_I h 202 1) - (1))), (2, .inl (0)), (0, .inr (.inr (some (202)))), (1, .inl (p))] rfl ⟨rfl, rfl, rfl, rfl, trivial⟩ ?_
  exact rd_spanIdx_l hB t202 pr k _ _ _ (Nat.le_refl _) (by omega) (by omega) (by omega) (by omega)

theorem rd_spanOfW {p : Int} (hB : ez_B τ h) (t202 : τ 202 = 48) (t203 : τ 203 = 49) (pr : ez_rg p) (k : ∀ i, 0 ≤ i → i < qz_I h 202 1 → τ (sz_p h i) = 4 → Q (.inl (some (.inr (.inr (some (sz_p h i))))), h)) : ez_W (d + 1) cm_103 0 [(0, .inr (.inr (some (202)))), (1, .inl (p))] [] h Q := by
  obtain ⟨p0, p1⟩ := id pr
  refine ez_go (n := 1) (pc' := 1) (L' := [(0, .inr (.inr (some (202)))), (1, .inl (p))]) (st' := [.inr (.inr (some (202)))]) rfl ?_
  refine ez_gC (p := 203) (tg := 49) hB t202 rfl rfl tq_48 rfl rfl (fun (t203 : _ = 49) => ?_)
  refine ez_go (n := 2) (pc' := 6) (L' := [(0, .inr (.inr (some (202)))), (1, .inl (p))]) (st' := [.inl (p), .inr (.inr (some (202))), .inr (.inr (some (203)))]) rfl ?_
  have bn := sz_R_n1 hB t202
  refine ez_cv hB t202 rfl rfl rfl tq_48 rfl rfl rfl (rd_spanIdx hB t202 pr (fun i i0 i1 => ez_K1 ?_))
  have n2 : 513 ≤ qz_N h 203 ∧ qz_N h 203 ≤ 513 := ez_len hB t203 tq_49 rfl
  have y3 : 1 ≤ qz_I h 203 (i).toNat ∧ qz_I h 203 (i).toNat ≤ 1000000 := ez_aB hB t203 tq_49 rfl rfl (by decide) (by omega) (by omega)
  have y3' : ((qz_P h 203 (i).toNat : Nat) : Int) + 1 = qz_I h 203 (i).toNat := by unfold qz_P; omega
  refine ez_aR hB t203 rfl tq_49 rfl rfl (by omega) (by omega) (by omega) (fun (t1 : _ = 4) => ?_)
  exact ez_retA rfl rfl rfl (k i i0 i1 t1)

theorem rd_tAppend {r : Nat} {p : Int} (hB : ez_B τ h) (tr : τ r = 1) (pr : ez_rg p) (k : ∀ g v, tw τ h g → (v = 0 ∨ v = 1) → Q (.inl (some (ez_v (.inl v))), g)) : ez_W d cm_189 0 [(0, .inr (.inr (some (r)))), (1, .inl (p))] [] h Q := by
  obtain ⟨p0, p1⟩ := id pr
  refine ez_go (n := 1) (pc' := 1) (L' := [(0, .inr (.inr (some (r)))), (1, .inl (p))]) (st' := [.inr (.inr (some (r)))]) rfl ?_
  refine ez_gI hB tr rfl rfl tq_1 rfl rfl (fun (b1 : 0 ≤ qz_I h r 1) (b1' : qz_I h r 1 ≤ 2000) => ?_)
  refine ez_go (n := 1) (pc' := 7) (L' := [(0, .inr (.inr (some (r)))), (1, .inl (p))]) (st' := [.inl (2000), .inl (qz_I h r 1)]) rfl ?_
  refine ez_icmp rfl rfl ⟨by first | omega | exact (sz_i32 _).1, by first | omega | exact (sz_i32 _).2⟩ ⟨by first | omega | exact (sz_i32 _).1, by first | omega | exact (sz_i32 _).2⟩ (fun (c2 : (qz_I h r 1) < (2000)) => ?_) (fun (c2 : ¬((qz_I h r 1) < (2000))) => ?_)
  · skip
    refine ez_go (n := 1) (pc' := 13) (L' := [(0, .inr (.inr (some (r)))), (1, .inl (p))]) (st' := [.inr (.inr (some (r)))]) rfl ?_
    refine ez_g3 hB tr rfl rfl tq_1 rfl rfl (fun (t3 : _ = 2) => ?_)
    refine ez_go (n := 1) (pc' := 17) (L' := [(0, .inr (.inr (some (r)))), (1, .inl (p))]) (st' := [.inr (.inr (some (r))), .inr (.inr (some (r + 1)))]) rfl ?_
    refine ez_gI hB tr rfl rfl tq_1 rfl rfl (fun (b4 : 0 ≤ qz_I h r 1) (b4' : qz_I h r 1 ≤ 2000) => ?_)
    refine ez_go (n := 1) (pc' := 21) (L' := [(0, .inr (.inr (some (r)))), (1, .inl (p))]) (st' := [.inl (p), .inl (qz_I h r 1), .inr (.inr (some (r + 1)))]) rfl ?_
    have n7 : 2000 ≤ qz_N h (r + 1) ∧ qz_N h (r + 1) ≤ 2000 := ez_len hB t3 tq_2 rfl
    refine ez_as hB t3 rfl tq_2 rfl rfl (by omega) (by omega) (ez_vdI rfl rfl (by omega) (by omega)) (fun hB5 w6 => ?_)
    have hu9 : qz_I (dz_put h (r + 1) (qz_I h r 1).toNat (ez_v (.inl (p)))) r 1 = qz_I h r 1 := ez_put_I (fun w => by have w1 := w.1; rw [← w1, tr] at t3; cases t3)
    refine ez_go (n := 2) (pc' := 24) (L' := [(0, .inr (.inr (some (r)))), (1, .inl (p))]) (st' := [.inr (.inr (some (r))), .inr (.inr (some (r)))]) rfl ?_
    refine ez_gI hB5 tr rfl rfl tq_1 rfl rfl (fun (b8 : 0 ≤ qz_I (dz_put h (r + 1) (qz_I h r 1).toNat (ez_v (.inl (p)))) r 1) (b8' : qz_I (dz_put h (r + 1) (qz_I h r 1).toNat (ez_v (.inl (p)))) r 1 ≤ 2000) => ?_)
    refine ez_go (n := 2) (pc' := 29) (L' := [(0, .inr (.inr (some (r)))), (1, .inl (p))]) (st' := [.inl ((qz_I (dz_put h (r + 1) (qz_I h r 1).toNat (ez_v (.inl (p)))) r 1) + (1)), .inr (.inr (some (r)))]) rfl ?_
    refine ez_pf hB5 tr rfl rfl tq_1 rfl rfl rfl rfl (ez_vdI rfl rfl (by omega) (by omega)) (fun hB9 w10 => ?_)
    refine ez_go (n := 1) (pc' := 33) (L' := [(0, .inr (.inr (some (r)))), (1, .inl (p))]) (st' := [.inl (1)]) rfl ?_
    exact ez_retZ rfl rfl (by decide) (k _ 1 (((tw.refl hB).putP hB5 t3 (by omega) (by omega)).putL hB9 tr) (Or.inr rfl))
  · skip
    refine ez_go (n := 1) (pc' := 11) (L' := [(0, .inr (.inr (some (r)))), (1, .inl (p))]) (st' := [.inl (0)]) rfl ?_
    exact ez_retZ rfl rfl (by decide) (k h 0 (tw.refl hB) (Or.inl rfl))

theorem rd_tRow_l {r : Nat} {f m n0 : Int} (tr : τ r = 1) (t724 : τ 724 = 56) (f0 : 0 ≤ f) (m0 : 0 ≤ m) (fm : f + m ≤ 20480) (n00 : 0 ≤ n0) (nm : n0 + m ≤ 2000) (k : ∀ g v, tw τ h g → (v = 0 ∨ v = 1) → Q (.inl (some (ez_v (.inl v))), g)) : ∀ (n : Nat) (i : Int) (g : cz_H), (m - i).toNat ≤ n → 0 ≤ i → i ≤ m → qz_I g r 1 = n0 → tw τ h g → ez_W d cm_190 17 [(4, .inl (i)), (0, .inr (.inr (some (r)))), (1, .inr (.inr (some (724)))), (2, .inl (f)), (3, .inl (m))] [] g Q := by
  intro n
  induction n with
  | zero =>
    intro i g hn i0 im gn ha
    refine ez_go (n := 2) (pc' := 20) (L' := [(4, .inl (i)), (0, .inr (.inr (some (r)))), (1, .inr (.inr (some (724)))), (2, .inl (f)), (3, .inl (m))]) (st' := [.inl (m), .inl (i)]) rfl ?_
    refine ez_icmp rfl rfl ⟨by first | omega | exact (sz_i32 _).1, by first | omega | exact (sz_i32 _).2⟩ ⟨by first | omega | exact (sz_i32 _).1, by first | omega | exact (sz_i32 _).2⟩ (fun (c1 : (m) ≤ (i)) => ?_) (fun (c1 : ¬((m) ≤ (i))) => ?_)
    · skip
      refine ez_go (n := 2) (pc' := 49) (L' := [(4, .inl (i)), (0, .inr (.inr (some (r)))), (1, .inr (.inr (some (724)))), (2, .inl (f)), (3, .inl (m))]) (st' := [.inr (.inr (some (r))), .inr (.inr (some (r)))]) rfl ?_
      refine ez_gI ha.1 tr rfl rfl tq_1 rfl rfl (fun (b2 : 0 ≤ qz_I g r 1) (b2' : qz_I g r 1 ≤ 2000) => ?_)
      refine ez_go (n := 2) (pc' := 54) (L' := [(4, .inl (i)), (0, .inr (.inr (some (r)))), (1, .inr (.inr (some (724)))), (2, .inl (f)), (3, .inl (m))]) (st' := [.inl ((qz_I g r 1) + (m)), .inr (.inr (some (r)))]) rfl ?_
      refine ez_pf ha.1 tr rfl rfl tq_1 rfl rfl rfl rfl (ez_vdI rfl rfl (by omega) (by omega)) (fun hB3 w4 => ?_)
      refine ez_go (n := 1) (pc' := 58) (L' := [(4, .inl (i)), (0, .inr (.inr (some (r)))), (1, .inr (.inr (some (724)))), (2, .inl (f)), (3, .inl (m))]) (st' := [.inl (1)]) rfl ?_
      exact ez_retZ rfl rfl (by decide) (k _ 1 (ha.putL hB3 tr) (Or.inr rfl))
    · exfalso; omega
  | succ n ih =>
    intro i g hn i0 im gn ha
    refine ez_go (n := 2) (pc' := 20) (L' := [(4, .inl (i)), (0, .inr (.inr (some (r)))), (1, .inr (.inr (some (724)))), (2, .inl (f)), (3, .inl (m))]) (st' := [.inl (m), .inl (i)]) rfl ?_
    refine ez_icmp rfl rfl ⟨by first | omega | exact (sz_i32 _).1, by first | omega | exact (sz_i32 _).2⟩ ⟨by first | omega | exact (sz_i32 _).1, by first | omega | exact (sz_i32 _).2⟩ (fun (c1 : (m) ≤ (i)) => ?_) (fun (c1 : ¬((m) ≤ (i))) => ?_)
    · skip
      refine ez_go (n := 2) (pc' := 49) (L' := [(4, .inl (i)), (0, .inr (.inr (some (r)))), (1, .inr (.inr (some (724)))), (2, .inl (f)), (3, .inl (m))]) (st' := [.inr (.inr (some (r))), .inr (.inr (some (r)))]) rfl ?_
      refine ez_gI ha.1 tr rfl rfl tq_1 rfl rfl (fun (b2 : 0 ≤ qz_I g r 1) (b2' : qz_I g r 1 ≤ 2000) => ?_)
      refine ez_go (n := 2) (pc' := 54) (L' := [(4, .inl (i)), (0, .inr (.inr (some (r)))), (1, .inr (.inr (some (724)))), (2, .inl (f)), (3, .inl (m))]) (st' := [.inl ((qz_I g r 1) + (m)), .inr (.inr (some (r)))]) rfl ?_
      refine ez_pf ha.1 tr rfl rfl tq_1 rfl rfl rfl rfl (ez_vdI rfl rfl (by omega) (by omega)) (fun hB3 w4 => ?_)
      refine ez_go (n := 1) (pc' := 58) (L' := [(4, .inl (i)), (0, .inr (.inr (some (r)))), (1, .inr (.inr (some (724)))), (2, .inl (f)), (3, .inl (m))]) (st' := [.inl (1)]) rfl ?_
      exact ez_retZ rfl rfl (by decide) (k _ 1 (ha.putL hB3 tr) (Or.inr rfl))
    · skip
      refine ez_go (n := 1) (pc' := 24) (L' := [(4, .inl (i)), (0, .inr (.inr (some (r)))), (1, .inr (.inr (some (724)))), (2, .inl (f)), (3, .inl (m))]) (st' := [.inr (.inr (some (r)))]) rfl ?_
      refine ez_g3 ha.1 tr rfl rfl tq_1 rfl rfl (fun (t5 : _ = 2) => ?_)
      refine ez_go (n := 1) (pc' := 28) (L' := [(4, .inl (i)), (0, .inr (.inr (some (r)))), (1, .inr (.inr (some (724)))), (2, .inl (f)), (3, .inl (m))]) (st' := [.inr (.inr (some (r))), .inr (.inr (some (r + 1)))]) rfl ?_
      refine ez_gI ha.1 tr rfl rfl tq_1 rfl rfl (fun (b6 : 0 ≤ qz_I g r 1) (b6' : qz_I g r 1 ≤ 2000) => ?_)
      refine ez_go (n := 6) (pc' := 39) (L' := [(4, .inl (i)), (0, .inr (.inr (some (r)))), (1, .inr (.inr (some (724)))), (2, .inl (f)), (3, .inl (m))]) (st' := [.inl ((f) + (i)), .inr (.inr (some (724))), .inl ((qz_I g r 1) + (i)), .inr (.inr (some (r + 1)))]) rfl ?_
      have n8 : 20480 ≤ qz_N g 724 ∧ qz_N g 724 ≤ 20480 := ez_len ha.1 t724 tq_56 rfl
      refine ez_aI ha.1 t724 rfl tq_56 rfl rfl (by omega) (by omega) (fun (b7 : -2147483648 ≤ qz_I g 724 ((f) + (i)).toNat) (b7' : qz_I g 724 ((f) + (i)).toNat ≤ 2147483647) => ?_)
      have n11 : 2000 ≤ qz_N g (r + 1) ∧ qz_N g (r + 1) ≤ 2000 := ez_len ha.1 t5 tq_2 rfl
      refine ez_as ha.1 t5 rfl tq_2 rfl rfl (by omega) (by omega) (ez_vdI rfl rfl (by omega) (by omega)) (fun hB9 w10 => ?_)
      have hu9 : qz_I (dz_put g (r + 1) ((qz_I g r 1) + (i)).toNat (ez_v (.inl (qz_I g 724 ((f) + (i)).toNat)))) r 1 = n0 := (ez_put_I (fun w => by have w1 := w.1; rw [← w1, tr] at t5; cases t5)).trans gn
      refine ez_go (n := 2) (pc' := 17) (L' := [(4, .inl (i + 1)), (0, .inr (.inr (some (r)))), (1, .inr (.inr (some (724)))), (2, .inl (f)), (3, .inl (m))]) (st' := []) rfl ?_
      refine ez_less [(4, .inl (i + 1)), (0, .inr (.inr (some (r)))), (1, .inr (.inr (some (724)))), (2, .inl (f)), (3, .inl (m))] rfl ⟨rfl, rfl, rfl, rfl, rfl, trivial⟩ ?_
      exact ih (i + 1) _ (by omega) (by omega) (by omega) hu9 (ha.putP hB9 t5 (by omega) (by omega))
theorem rd_tRow {r : Nat} {f m : Int} (hB : ez_B τ h) (tr : τ r = 1) (t724 : τ 724 = 56) (f0 : 0 ≤ f) (m0 : 0 ≤ m) (fm : f + m ≤ 20480) (k : ∀ g v, tw τ h g → (v = 0 ∨ v = 1) → Q (.inl (some (ez_v (.inl v))), g)) : ez_W d cm_190 0 [(0, .inr (.inr (some (r)))), (1, .inr (.inr (some (724)))), (2, .inl (f)), (3, .inl (m))] [] h Q := by
  refine ez_go (n := 1) (pc' := 1) (L' := [(0, .inr (.inr (some (r)))), (1, .inr (.inr (some (724)))), (2, .inl (f)), (3, .inl (m))]) (st' := [.inr (.inr (some (r)))]) rfl ?_
  refine ez_gI hB tr rfl rfl tq_1 rfl rfl (fun (b1 : 0 ≤ qz_I h r 1) (b1' : qz_I h r 1 ≤ 2000) => ?_)
  refine ez_go (n := 3) (pc' := 9) (L' := [(0, .inr (.inr (some (r)))), (1, .inr (.inr (some (724)))), (2, .inl (f)), (3, .inl (m))]) (st' := [.inl (2000), .inl ((qz_I h r 1) + (m))]) rfl ?_
  refine ez_icmp rfl rfl ⟨by first | omega | exact (sz_i32 _).1, by first | omega | exact (sz_i32 _).2⟩ ⟨by first | omega | exact (sz_i32 _).1, by first | omega | exact (sz_i32 _).2⟩ (fun (c2 : ((qz_I h r 1) + (m)) ≤ (2000)) => ?_) (fun (c2 : ¬(((qz_I h r 1) + (m)) ≤ (2000))) => ?_)
  · skip
    refine ez_go (n := 2) (pc' := 17) (L' := [(4, .inl (0)), (0, .inr (.inr (some (r)))), (1, .inr (.inr (some (724)))), (2, .inl (f)), (3, .inl (m))]) (st' := []) rfl ?_
    refine ez_less [(4, .inl (0)), (0, .inr (.inr (some (r)))), (1, .inr (.inr (some (724)))), (2, .inl (f)), (3, .inl (m))] rfl ⟨rfl, rfl, rfl, rfl, rfl, trivial⟩ ?_
    exact rd_tRow_l (n0 := qz_I h r 1) tr t724 f0 m0 fm (by omega) (by omega) k _ 0 h (Nat.le_refl _) (by omega) (by omega) rfl (tw.refl hB)
  · skip
    refine ez_go (n := 1) (pc' := 13) (L' := [(0, .inr (.inr (some (r)))), (1, .inr (.inr (some (724)))), (2, .inl (f)), (3, .inl (m))]) (st' := [.inl (0)]) rfl ?_
    exact ez_retZ rfl rfl (by decide) (k h 0 (tw.refl hB) (Or.inl rfl))

theorem rd_appSyl_l {r : Nat} {x : Int} (tr : τ r = 1) (hx : hz x) (k : ∀ g v, tw τ h g → (v = 0 ∨ v = 1) → Q (.inl (some (ez_v (.inl v))), g)) : ∀ (m : Nat) (i : Int) (g : cz_H), m = (((hz_sy x).length : Int) - i).toNat → 0 ≤ i → i ≤ ((hz_sy x).length : Int) → tw τ h g → ez_W (d + 1) cm_111 2 [(2, .inl (i)), (0, .inl (x)), (1, .inr (.inr (some (r))))] [] g Q := by
  have x0 := hx.1
  have x1 := hx.2
  intro m
  induction m with
  | zero =>
    intro i g hm i0 i1 ha
    have hlen := hz_sy_len x
    refine ez_go (n := 2) (pc' := 4) (L' := [(2, .inl (i)), (0, .inl (x)), (1, .inr (.inr (some (r))))]) (st' := [.inl (x), .inl (i)]) rfl ?_
    refine ez_cs ha.1.2.1 rfl rfl rfl rfl rfl (rd_sylLen hx (ez_K1 ?_))
    refine ez_icmp rfl rfl ⟨by first | omega | exact (sz_i32 _).1, by first | omega | exact (sz_i32 _).2⟩ ⟨by first | omega | exact (sz_i32 _).1, by first | omega | exact (sz_i32 _).2⟩ (fun (c1 : (((hz_sy x).length : Int)) ≤ (i)) => ?_) (fun (c1 : ¬((((hz_sy x).length : Int)) ≤ (i))) => ?_)
    · skip
      refine ez_go (n := 1) (pc' := 31) (L' := [(2, .inl (i)), (0, .inl (x)), (1, .inr (.inr (some (r))))]) (st' := [.inl (1)]) rfl ?_
      exact ez_retZ rfl rfl (by decide) (k _ 1 ha (Or.inr rfl))
    · exfalso; omega
  | succ m ih =>
    intro i g hm i0 i1 ha
    have hlen := hz_sy_len x
    refine ez_go (n := 2) (pc' := 4) (L' := [(2, .inl (i)), (0, .inl (x)), (1, .inr (.inr (some (r))))]) (st' := [.inl (x), .inl (i)]) rfl ?_
    refine ez_cs ha.1.2.1 rfl rfl rfl rfl rfl (rd_sylLen hx (ez_K1 ?_))
    refine ez_icmp rfl rfl ⟨by first | omega | exact (sz_i32 _).1, by first | omega | exact (sz_i32 _).2⟩ ⟨by first | omega | exact (sz_i32 _).1, by first | omega | exact (sz_i32 _).2⟩ (fun (c1 : (((hz_sy x).length : Int)) ≤ (i)) => ?_) (fun (c1 : ¬((((hz_sy x).length : Int)) ≤ (i))) => ?_)
    · exfalso; omega
    · skip
      refine ez_go (n := 3) (pc' := 13) (L' := [(2, .inl (i)), (0, .inl (x)), (1, .inr (.inr (some (r))))]) (st' := [.inl (i), .inl (x), .inr (.inr (some (r)))]) rfl ?_
      refine ez_cs ha.1.2.1 rfl rfl rfl rfl rfl (rd_sylPart hx i0 (by omega) (fun v hv => ez_K1 ?_))
      have vb := hz_sy_bd hx _ _ hv
      refine ez_cv ha.1 tr rfl rfl rfl tq_1 rfl rfl rfl (rd_tAppend ha.1 tr ⟨by omega, by omega⟩ (fun g2 y ha2 hy => ez_K1 ?_))
      have hyr : 0 ≤ y ∧ y ≤ 1 := by omega
      refine ez_if rfl rfl ⟨by first | omega | exact (sz_i32 _).1, by first | omega | exact (sz_i32 _).2⟩ (fun (c2 : (y) ≠ (0)) => ?_) (fun (c2 : ¬((y) ≠ (0))) => ?_)
      · skip
        refine ez_go (n := 2) (pc' := 2) (L' := [(2, .inl (i + 1)), (0, .inl (x)), (1, .inr (.inr (some (r))))]) (st' := []) rfl ?_
        refine ez_less [(2, .inl (i + 1)), (0, .inl (x)), (1, .inr (.inr (some (r))))] rfl ⟨rfl, rfl, rfl, trivial⟩ ?_
        exact ih (i + 1) g2 (by omega) (by omega) (by omega) (ha.trans ha2)
      · skip
        refine ez_go (n := 1) (pc' := 23) (L' := [(2, .inl (i)), (0, .inl (x)), (1, .inr (.inr (some (r))))]) (st' := [.inl (0)]) rfl ?_
        exact ez_retZ rfl rfl (by decide) (k _ 0 (ha.trans ha2) (Or.inl rfl))
theorem rd_appSyl {r : Nat} {x : Int} (hB : ez_B τ h) (tr : τ r = 1) (hx : hz x) (k : ∀ g v, tw τ h g → (v = 0 ∨ v = 1) → Q (.inl (some (ez_v (.inl v))), g)) : ez_W (d + 1) cm_111 0 [(0, .inl (x)), (1, .inr (.inr (some (r))))] [] h Q := by
  refine ez_go (n := 2) (pc' := 2) (L' := [(2, .inl (0)), (0, .inl (x)), (1, .inr (.inr (some (r))))]) (st' := []) rfl ?_
  refine ez_less [(2, .inl (0)), (0, .inl (x)), (1, .inr (.inr (some (r))))] rfl ⟨rfl, rfl, rfl, trivial⟩ ?_
  exact rd_appSyl_l tr hx k _ 0 h rfl (by omega) (by omega) (tw.refl hB)

theorem rd_appFull {r : Nat} {p c : Int} (hB : ez_B τ h) (t723 : τ 723 = 55) (t202 : τ 202 = 48) (t203 : τ 203 = 49) (t724 : τ 724 = 56) (tr : τ r = 1) (hq : sq h) (pr : ez_rg p) (cr : ez_rg c) (k : ∀ g v, tw τ h g → (v = 0 ∨ v = 1) → Q (.inl (some (ez_v (.inl v))), g)) : ez_W (d + 2) cm_110 0 [(0, .inr (.inr (some (723)))), (1, .inl (p)), (2, .inr (.inr (some (r)))), (3, .inl (c))] [] h Q := by
  obtain ⟨p0, p1⟩ := id pr
  obtain ⟨c0, c1⟩ := id cr
  refine ez_go (n := 1) (pc' := 1) (L' := [(0, .inr (.inr (some (723)))), (1, .inl (p)), (2, .inr (.inr (some (r)))), (3, .inl (c))]) (st' := [.inl (p)]) rfl ?_
  refine ez_cs hB.2.1 rfl rfl rfl rfl rfl (rd_isSyl p0 p1 (fun hx => ez_K1 ?_) (fun hx => ez_K1 ?_))
  · skip
    refine ez_if rfl rfl ⟨by decide, by decide⟩ (fun (c1 : (1 : Int) = (0)) => absurd c1 (by decide)) (fun _ => ?_)
    refine ez_go (n := 2) (pc' := 9) (L' := [(0, .inr (.inr (some (723)))), (1, .inl (p)), (2, .inr (.inr (some (r)))), (3, .inl (c))]) (st' := [.inr (.inr (some (r))), .inl (p)]) rfl ?_
    refine ez_cs hB.2.1 rfl rfl rfl rfl rfl (rd_appSyl hB tr hx (fun g2 y ha2 hy => ez_K1 ?_))
    exact ez_retZ rfl rfl hy (k g2 y ha2 hy)
  · skip
    refine ez_if rfl rfl ⟨by decide, by decide⟩ (fun _ => ?_) (fun (c2 : ¬((0 : Int) = (0))) => absurd c2 (by decide))
    refine ez_go (n := 1) (pc' := 14) (L' := [(0, .inr (.inr (some (723)))), (1, .inl (p)), (2, .inr (.inr (some (r)))), (3, .inl (c))]) (st' := [.inr (.inr (some (723)))]) rfl ?_
    refine ez_gC (p := 202) (tg := 48) hB t723 rfl rfl tq_55 rfl rfl (fun (t202 : _ = 48) => ?_)
    refine ez_go (n := 1) (pc' := 18) (L' := [(0, .inr (.inr (some (723)))), (1, .inl (p)), (2, .inr (.inr (some (r)))), (3, .inl (c))]) (st' := [.inl (p), .inr (.inr (some (202)))]) rfl ?_
    refine ez_cv hB t202 rfl rfl rfl tq_48 rfl rfl rfl (rd_spanOfW hB t202 t203 pr (fun i i0 i1 tz => ez_KA ?_))
    refine ez_gR hB tz rfl rfl tq_4 rfl rfl (fun (t3 : _ = 3) (t3' : 1 ≤ qz_I h (sz_p h i) 1) => ?_)
    refine ez_go (n := 2) (pc' := 28) (L' := [(4, .inr (.inr (some (qz_P h (sz_p h i) 1)))), (0, .inr (.inr (some (723)))), (1, .inl (p)), (2, .inr (.inr (some (r)))), (3, .inl (c))]) (st' := [.inr (.inr (some (qz_P h (sz_p h i) 1)))]) rfl ?_
    refine ez_gN hB t3 rfl rfl tq_3 rfl rfl (fun (t4 : qz_I h (qz_P h (sz_p h i) 1) 3 = 0) => ?_) (fun (t4 : _ = 5) (t4' : 1 ≤ qz_I h (qz_P h (sz_p h i) 1) 3) => ?_)
    · skip
      refine ez_nonn0 rfl ?_
      refine ez_go (n := 2) (pc' := 36) (L' := [(4, .inr (.inr (some (qz_P h (sz_p h i) 1)))), (0, .inr (.inr (some (723)))), (1, .inl (p)), (2, .inr (.inr (some (r)))), (3, .inl (c))]) (st' := [.inl (p), .inr (.inr (some (r)))]) rfl ?_
      refine ez_cv hB tr rfl rfl rfl tq_1 rfl rfl rfl (rd_tAppend hB tr pr (fun g2 y ha2 hy => ez_K1 ?_))
      exact ez_retZ rfl rfl hy (k g2 y ha2 hy)
    · skip
      refine ez_nonn1 rfl rfl ?_
      refine ez_go (n := 1) (pc' := 41) (L' := [(4, .inr (.inr (some (qz_P h (sz_p h i) 1)))), (0, .inr (.inr (some (723)))), (1, .inl (p)), (2, .inr (.inr (some (r)))), (3, .inl (c))]) (st' := [.inl (c)]) rfl ?_
      refine ez_if rfl rfl ⟨by first | omega | exact (sz_i32 _).1, by first | omega | exact (sz_i32 _).2⟩ (fun (c5 : (c) = (0)) => ?_) (fun (c5 : ¬((c) = (0))) => ?_)
      · skip
        refine ez_go (n := 1) (pc' := 54) (L' := [(4, .inr (.inr (some (qz_P h (sz_p h i) 1)))), (0, .inr (.inr (some (723)))), (1, .inl (p)), (2, .inr (.inr (some (r)))), (3, .inl (c))]) (st' := [.inr (.inr (some (qz_P h (sz_p h i) 1)))]) rfl ?_
        refine ez_gI hB t3 rfl rfl tq_3 rfl rfl (fun (b6 : 0 ≤ qz_I h (qz_P h (sz_p h i) 1) 9) (b6' : qz_I h (qz_P h (sz_p h i) 1) 9 ≤ 20480) => ?_)
        refine ez_go (n := 3) (pc' := 61) (L' := [(5, .inl (qz_I h (qz_P h (sz_p h i) 1) 9)), (4, .inr (.inr (some (qz_P h (sz_p h i) 1)))), (0, .inr (.inr (some (723)))), (1, .inl (p)), (2, .inr (.inr (some (r)))), (3, .inl (c))]) (st' := [.inr (.inr (some (723))), .inr (.inr (some (r)))]) rfl ?_
        refine ez_gC (p := 724) (tg := 56) hB t723 rfl rfl tq_55 rfl rfl (fun (t724 : _ = 56) => ?_)
        refine ez_go (n := 2) (pc' := 67) (L' := [(5, .inl (qz_I h (qz_P h (sz_p h i) 1) 9)), (4, .inr (.inr (some (qz_P h (sz_p h i) 1)))), (0, .inr (.inr (some (723)))), (1, .inl (p)), (2, .inr (.inr (some (r)))), (3, .inl (c))]) (st' := [.inl (c), .inl (qz_I h (qz_P h (sz_p h i) 1) 9), .inr (.inr (some (724))), .inr (.inr (some (r)))]) rfl ?_
        refine ez_if rfl rfl ⟨by first | omega | exact (sz_i32 _).1, by first | omega | exact (sz_i32 _).2⟩ (fun (c7 : (c) = (0)) => ?_) (fun (c7 : ¬((c) = (0))) => ?_)
        · skip
          refine ez_go (n := 1) (pc' := 80) (L' := [(5, .inl (qz_I h (qz_P h (sz_p h i) 1) 9)), (4, .inr (.inr (some (qz_P h (sz_p h i) 1)))), (0, .inr (.inr (some (723)))), (1, .inl (p)), (2, .inr (.inr (some (r)))), (3, .inl (c))]) (st' := [.inr (.inr (some (qz_P h (sz_p h i) 1))), .inl (qz_I h (qz_P h (sz_p h i) 1) 9), .inr (.inr (some (724))), .inr (.inr (some (r)))]) rfl ?_
          refine ez_gI hB t3 rfl rfl tq_3 rfl rfl (fun (b8 : 0 ≤ qz_I h (qz_P h (sz_p h i) 1) 10) (b8' : qz_I h (qz_P h (sz_p h i) 1) 10 ≤ 20480) => ?_)
          have qq := hq i i0 i1 (show 1 ≤ qz_I h (qz_P h (sz_p h i) 1) 3 by omega)
          have q9 : qz_I h (qz_P h (sz_p h i) 1) 9 + qz_I h (qz_P h (sz_p h i) 1) 10 ≤ 20480 := qq.1
          refine ez_cv hB tr rfl rfl rfl tq_1 rfl rfl rfl (rd_tRow hB tr t724 (by omega) (by omega) q9 (fun g2 y ha2 hy => ez_K1 ?_))
          exact ez_retZ rfl rfl hy (k g2 y ha2 hy)
        · skip
          refine ez_go (n := 1) (pc' := 72) (L' := [(5, .inl (qz_I h (qz_P h (sz_p h i) 1) 9)), (4, .inr (.inr (some (qz_P h (sz_p h i) 1)))), (0, .inr (.inr (some (723)))), (1, .inl (p)), (2, .inr (.inr (some (r)))), (3, .inl (c))]) (st' := [.inr (.inr (some (qz_P h (sz_p h i) 1))), .inl (qz_I h (qz_P h (sz_p h i) 1) 9), .inr (.inr (some (724))), .inr (.inr (some (r)))]) rfl ?_
          refine ez_gI hB t3 rfl rfl tq_3 rfl rfl (fun (b9 : 0 ≤ qz_I h (qz_P h (sz_p h i) 1) 12) (b9' : qz_I h (qz_P h (sz_p h i) 1) 12 ≤ 20480) => ?_)
          refine ez_go (n := 1) (pc' := 83) (L' := [(5, .inl (qz_I h (qz_P h (sz_p h i) 1) 9)), (4, .inr (.inr (some (qz_P h (sz_p h i) 1)))), (0, .inr (.inr (some (723)))), (1, .inl (p)), (2, .inr (.inr (some (r)))), (3, .inl (c))]) (st' := [.inl (qz_I h (qz_P h (sz_p h i) 1) 12), .inl (qz_I h (qz_P h (sz_p h i) 1) 9), .inr (.inr (some (724))), .inr (.inr (some (r)))]) rfl ?_
          exfalso; omega
      · skip
        refine ez_go (n := 1) (pc' := 46) (L' := [(4, .inr (.inr (some (qz_P h (sz_p h i) 1)))), (0, .inr (.inr (some (723)))), (1, .inl (p)), (2, .inr (.inr (some (r)))), (3, .inl (c))]) (st' := [.inr (.inr (some (qz_P h (sz_p h i) 1)))]) rfl ?_
        refine ez_gI hB t3 rfl rfl tq_3 rfl rfl (fun (b10 : 0 ≤ qz_I h (qz_P h (sz_p h i) 1) 11) (b10' : qz_I h (qz_P h (sz_p h i) 1) 11 ≤ 20480) => ?_)
        refine ez_go (n := 4) (pc' := 61) (L' := [(5, .inl (qz_I h (qz_P h (sz_p h i) 1) 11)), (4, .inr (.inr (some (qz_P h (sz_p h i) 1)))), (0, .inr (.inr (some (723)))), (1, .inl (p)), (2, .inr (.inr (some (r)))), (3, .inl (c))]) (st' := [.inr (.inr (some (723))), .inr (.inr (some (r)))]) rfl ?_
        refine ez_gC (p := 724) (tg := 56) hB t723 rfl rfl tq_55 rfl rfl (fun (t724 : _ = 56) => ?_)
        refine ez_go (n := 2) (pc' := 67) (L' := [(5, .inl (qz_I h (qz_P h (sz_p h i) 1) 11)), (4, .inr (.inr (some (qz_P h (sz_p h i) 1)))), (0, .inr (.inr (some (723)))), (1, .inl (p)), (2, .inr (.inr (some (r)))), (3, .inl (c))]) (st' := [.inl (c), .inl (qz_I h (qz_P h (sz_p h i) 1) 11), .inr (.inr (some (724))), .inr (.inr (some (r)))]) rfl ?_
        refine ez_if rfl rfl ⟨by first | omega | exact (sz_i32 _).1, by first | omega | exact (sz_i32 _).2⟩ (fun (c11 : (c) = (0)) => ?_) (fun (c11 : ¬((c) = (0))) => ?_)
        · skip
          refine ez_go (n := 1) (pc' := 80) (L' := [(5, .inl (qz_I h (qz_P h (sz_p h i) 1) 11)), (4, .inr (.inr (some (qz_P h (sz_p h i) 1)))), (0, .inr (.inr (some (723)))), (1, .inl (p)), (2, .inr (.inr (some (r)))), (3, .inl (c))]) (st' := [.inr (.inr (some (qz_P h (sz_p h i) 1))), .inl (qz_I h (qz_P h (sz_p h i) 1) 11), .inr (.inr (some (724))), .inr (.inr (some (r)))]) rfl ?_
          refine ez_gI hB t3 rfl rfl tq_3 rfl rfl (fun (b12 : 0 ≤ qz_I h (qz_P h (sz_p h i) 1) 10) (b12' : qz_I h (qz_P h (sz_p h i) 1) 10 ≤ 20480) => ?_)
          exfalso; omega
        · skip
          refine ez_go (n := 1) (pc' := 72) (L' := [(5, .inl (qz_I h (qz_P h (sz_p h i) 1) 11)), (4, .inr (.inr (some (qz_P h (sz_p h i) 1)))), (0, .inr (.inr (some (723)))), (1, .inl (p)), (2, .inr (.inr (some (r)))), (3, .inl (c))]) (st' := [.inr (.inr (some (qz_P h (sz_p h i) 1))), .inl (qz_I h (qz_P h (sz_p h i) 1) 11), .inr (.inr (some (724))), .inr (.inr (some (r)))]) rfl ?_
          refine ez_gI hB t3 rfl rfl tq_3 rfl rfl (fun (b13 : 0 ≤ qz_I h (qz_P h (sz_p h i) 1) 12) (b13' : qz_I h (qz_P h (sz_p h i) 1) 12 ≤ 20480) => ?_)
          refine ez_go (n := 1) (pc' := 83) (L' := [(5, .inl (qz_I h (qz_P h (sz_p h i) 1) 11)), (4, .inr (.inr (some (qz_P h (sz_p h i) 1)))), (0, .inr (.inr (some (723)))), (1, .inl (p)), (2, .inr (.inr (some (r)))), (3, .inl (c))]) (st' := [.inl (qz_I h (qz_P h (sz_p h i) 1) 12), .inl (qz_I h (qz_P h (sz_p h i) 1) 11), .inr (.inr (some (724))), .inr (.inr (some (r)))]) rfl ?_
          have qq := hq i i0 i1 (show 1 ≤ qz_I h (qz_P h (sz_p h i) 1) 3 by omega)
          have q9 : qz_I h (qz_P h (sz_p h i) 1) 11 + qz_I h (qz_P h (sz_p h i) 1) 12 ≤ 20480 := qq.2
          refine ez_cv hB tr rfl rfl rfl tq_1 rfl rfl rfl (rd_tRow hB tr t724 (by omega) (by omega) q9 (fun g2 y ha2 hy => ez_K1 ?_))
          exact ez_retZ rfl rfl hy (k g2 y ha2 hy)

end EzTw
/-! The class: appendFull, as the checker has it. -/
theorem tw_X {τ : Nat → Nat} {h g : cz_H} (hX : qz_X rR τ h) (hB : ez_B τ h) (o : tw τ h g) : dz_B tz_T (qz_X rR) τ g := by
  have t770 : τ 770 = 75 := hX.1 770 (by decide)
  have c : ∀ q, τ q ≠ 1 → τ q ≠ 2 → g.2.2 q = h.2.2 q := o.2.1
  have i7 : ∀ j, qz_I g 770 j = qz_I h 770 j := fun j => by unfold qz_I; rw [c 770 (by rw [t770]; decide) (by rw [t770]; decide)]
  refine X_of hX o.1 (fun _ _ => rfl) (sm_of hB o.1 t770 (fun _ _ => rfl) (fun q q0 => by rw [q0]; rfl) (fun q hq _ => c q (fun e => by rw [e] at hq; cases hq) (fun e => by rw [e] at hq; cases hq)) (fun j _ => i7 j)) ?_
  obtain ⟨⟨y1, y2⟩, y3, y4⟩ := hX.2.2.1
  have e1 : qz_P g 770 24 = qz_P h 770 24 := by unfold qz_P; rw [i7]
  have e2 : qz_P g 770 35 = qz_P h 770 35 := by unfold qz_P; rw [i7]
  have c1 : qz_N g (qz_P h 770 24) = qz_N h (qz_P h 770 24) := by unfold qz_N; rw [c _ (by rw [y1]; decide) (by rw [y1]; decide)]
  have c2 : qz_N g (qz_P h 770 35) = qz_N h (qz_P h 770 35) := by unfold qz_N; rw [c _ (by rw [y3]; decide) (by rw [y3]; decide)]
  exact ⟨⟨by rw [e1]; exact y1, by rw [e1, c1, i7]; exact y2⟩, by rw [e2]; exact y3, by rw [e2, c2, i7]; exact y4⟩
theorem dz_refv {v : cz_V} (h : dz_k v = 3) (hn : 1 ≤ dz_n v) : ∃ r : Nat, v = .inr (.inr (some r)) ∧ dz_n v = (r : Int) + 1 := by
  rcases v with a | a | a
  · cases h
  · cases h
  · rcases a with _ | r
    · exfalso; have : (1 : Int) ≤ 0 := hn; omega
    · exact ⟨r, rfl, rfl⟩
def sp_afp : List dz_E := [(0, [(8, 1)]), (1, [(8, -1)]), (0, [(9, 1)]), (2000, [(9, -1)]), (0, [(0, -1), (6, 1)]), (0, [(0, 1), (6, -1)]), (0, [(1, -1), (7, 1)]), (0, [(1, 1), (7, -1)])]
def sp_af (r : Nat) (gs : List dz_E) : dz_Sp := (110, 12, (0, [((2, 0, 3, 55), (724, []), (0, []), (0, [])), ((0, 1, 0, 0), (0, []), (0, []), (0, [])), ((2, 2, 3, 1), ((r : Int) + 1, []), (0, []), (0, [])), ((0, 3, 0, 0), (0, []), (0, []), (0, [])), ((1, 0, 0, 48), (203, []), (6, []), (0, [])), ((1, 0, 0, 1), ((r : Int) + 1, []), (1, []), (0, []))], gs), [(1, (6, [((0, 0, 0, 0), (0, []), (0, []), (0, [])), ((1, 0, 0, 1), ((r : Int) + 1, []), (1, []), (0, []))], sp_afp))], [(1, 2), (2, 0)])
theorem sp_af_ok {r : Nat} {gs : List dz_E} (g1 : ((-1 : Int), [((4 : Nat), (1 : Int))]) ∈ gs) : dz_spec tz_T (qz_X rR) cz_pg (sp_af r gs) := by
  intro M hM d hd ρ τ h L hG
  have hM' : cz_pg.1[110]? = some cm_110 := rfl
  have e : cm_110 = M := Option.some.inj (hM'.symm.trans hM)
  subst e
  have hG : dz_G tz_T (qz_X rR) (6, gs, [(0, 3, (724, []), 55), (1, 0, dz_var 2, 0), (2, 3, ((r : Int) + 1, []), 1), (3, 0, dz_var 3, 0)], [], [((203, []), 48, (6, []), (0, dz_var 4, 0)), (((r : Int) + 1, []), 1, (1, []), (0, dz_var 5, 0))], [], dz_var 0, dz_var 1) ρ τ h L [] := hG
  obtain ⟨gm, lo, -, mo, -, rc, rs, hb⟩ := hG
  obtain ⟨v0, f0, k0⟩ := lo (0, 3, (724, []), 55) List.mem_cons_self
  obtain ⟨v1, f1, k1⟩ := lo (1, 0, dz_var 2, 0) (List.mem_cons_of_mem _ List.mem_cons_self)
  obtain ⟨v2, f2, k2⟩ := lo (2, 3, ((r : Int) + 1, []), 1) (List.mem_cons_of_mem _ (List.mem_cons_of_mem _ List.mem_cons_self))
  obtain ⟨v3, f3, k3⟩ := lo (3, 0, dz_var 3, 0) (List.mem_cons_of_mem _ (List.mem_cons_of_mem _ (List.mem_cons_of_mem _ List.mem_cons_self)))
  have e0 : v0 = .inr (.inr (some 723)) := dz_ref k0.1 (by have : (724 : Int) + 0 = dz_n v0 := k0.2.1.2; omega)
  have e2 : v2 = .inr (.inr (some r)) := dz_ref k2.1 (by have : (r : Int) + 1 + 0 = dz_n v2 := k2.2.1.2; omega)
  have tr : τ r = 1 := (k2.2.2 r e2).1
  have s6 : qz_I h 202 6 = 0 + (1 * ρ 4 + 0) := dz_slot (p := 202) (i := 6) (mo _ List.mem_cons_self)
  have b1 := dz_g0 (gm _ g1)
  have a0 : (0 : Int) + (1 * ρ 0 + 0) = (h.1 : Int) := rc.2
  have a1 : (0 : Int) + (1 * ρ 1 + 0) = (h.2.1 : Int) := rs.2
  have hX := hb.2.1
  obtain ⟨x1, x2, x3, x4, Ls, ⟨t, c, m, w, s67, s77, uu, p⟩, ww9, xx9⟩ := id hX
  have eB := dz_ezB hb
  obtain ⟨q1, q2, q3, q4, q5⟩ := s77 (fun w => by have := s67.mpr w; omega)
  obtain ⟨d', rfl⟩ : ∃ d', d = d' + 2 := ⟨d - 2, by have : 12 ≤ d := hd; omega⟩
  refine ez_from (L := [(0, .inr (.inr (some 723))), (1, .inl (dz_n v1)), (2, .inr (.inr (some r))), (3, .inl (dz_n v3))]) (st := []) rfl (fun q hq => ?_) (rd_appFull eB (x1 723 (by decide)) (x1 202 (by decide)) (x1 203 (by decide)) (x1 724 (by decide)) tr q2 (dz_int_rg k1.1) (dz_int_rg k3.1) (fun g y o hy => ?_))
  · rcases List.mem_cons.mp hq with e | hq
    · subst e; show cz_find 0 L = some (.inr (.inr (some 723))); rw [← e0]; exact f0
    · rcases List.mem_cons.mp hq with e | hq
      · subst e; show cz_find 1 L = some (ez_v (.inl (dz_n v1))); rw [← dz_int k1.1]; exact f1
      · rcases List.mem_cons.mp hq with e | hq
        · subst e; show cz_find 2 L = some (.inr (.inr (some r))); rw [← e2]; exact f2
        · rw [List.mem_singleton] at hq
          subst hq; show cz_find 3 L = some (ez_v (.inl (dz_n v3))); rw [← dz_int k3.1]; exact f3
  have bl : 0 ≤ qz_I g r 1 ∧ qz_I g r 1 ≤ 2000 := ez_fB (cl := 1) (k := 1) o.1 tr tq_1 rfl rfl (by decide)
  obtain ⟨vs, w1, -, -, j1, j2, -⟩ := ez_fld (cl := 1) (k := 1) o.1 tr tq_1 rfl rfl
  have n1 : dz_n w1 = qz_I g r 1 := by unfold qz_I; rw [j1]
  have rg1 : (g.1 : Int) = (h.1 : Int) := by rw [o.2.2.2.1]
  have rg2 : (g.2.1 : Int) = (h.2.1 : Int) := by rw [o.2.2.2.2]
  have hr : ∃ ρ2 : Nat → Int, (∀ i, i < 6 → ρ2 i = ρ i) ∧ ρ2 6 = (g.1 : Int) ∧ ρ2 7 = (g.2.1 : Int) ∧ ρ2 8 = y ∧ ρ2 9 = qz_I g r 1 :=
    ⟨fun i => if i < 6 then ρ i else if i = 6 then (g.1 : Int) else if i = 7 then (g.2.1 : Int) else if i = 8 then y else qz_I g r 1, fun i hi => if_pos hi, rfl, rfl, rfl, rfl⟩
  obtain ⟨ρ2, r1, rn0, rn1, rn2, rn3⟩ := hr
  have c0 := r1 0 (by decide)
  have c1 := r1 1 (by decide)
  have yr : 0 ≤ y ∧ y ≤ 1 := by omega
  have G : dz_G tz_T (qz_X rR) (10, sp_afp, [(0, 0, dz_var 8, 0)], [], [(((r : Int) + 1, []), 1, (1, []), (0, dz_var 9, 0))], [], dz_var 6, dz_var 7) ρ2 τ g [(0, ez_v (.inl y))] [] := by
    refine ⟨fun c hc => ?_, fun z hz => ?_, trivial, fun z hz => ?_, fun z hz => (by cases hz), dz_v1 (Nat.le_of_ble_eq_true rfl) rn0, dz_v1 (Nat.le_of_ble_eq_true rfl) rn1, tw_X hX eB o⟩
    · unfold sp_afp at hc
      simp only [List.mem_cons, List.not_mem_nil, or_false] at hc
      rcases hc with e | e | e | e | e | e | e | e <;> subst e
      · exact dz_g1 (Nat.le_of_ble_eq_true rfl) (by rw [rn2]; omega)
      · exact dz_g1 (Nat.le_of_ble_eq_true rfl) (by rw [rn2]; omega)
      · exact dz_g1 (Nat.le_of_ble_eq_true rfl) (by rw [rn3]; omega)
      · exact dz_g1 (Nat.le_of_ble_eq_true rfl) (by rw [rn3]; omega)
      · exact dz_g2 (Nat.le_of_ble_eq_true rfl) (Nat.le_of_ble_eq_true rfl) (by rw [c0, rn0]; omega)
      · exact dz_g2 (Nat.le_of_ble_eq_true rfl) (Nat.le_of_ble_eq_true rfl) (by rw [c0, rn0]; omega)
      · exact dz_g2 (Nat.le_of_ble_eq_true rfl) (Nat.le_of_ble_eq_true rfl) (by rw [c1, rn1]; omega)
      · exact dz_g2 (Nat.le_of_ble_eq_true rfl) (Nat.le_of_ble_eq_true rfl) (by rw [c1, rn1]; omega)
    · rw [List.mem_singleton] at hz
      subst hz
      exact ⟨_, rfl, rfl, dz_v1 (Nat.le_of_ble_eq_true rfl) (by rw [rn2, rz_rd ⟨by omega, by omega⟩]), fun r hr => by cases hr⟩
    · rw [List.mem_singleton] at hz
      subst hz
      have k25 : dz_k w1 = 0 := by
        have := j2.1
        rcases w1 with a | a | a
        · rfl
        · cases this
        · cases this
      exact ⟨r, 1, w1, dz_c1, ⟨tr, Nat.succ_ne_zero 0⟩, dz_c1, j1, k25, dz_v1 (Nat.le_of_ble_eq_true rfl) (by rw [rn3, n1]), fun r hr => by rw [hr] at k25; cases k25⟩
  exact ⟨_, List.mem_cons_self, ρ2, τ, [(0, ez_v (.inl y))], G, rfl, r1, o.2.2.1, _, rfl, rfl⟩
def sp_agp : List dz_E := [(0, [(9, 1)]), (1, [(9, -1)]), (0, [(10, 1)]), (2000, [(10, -1)]), (0, [(0, -1), (7, 1)]), (0, [(0, 1), (7, -1)]), (0, [(1, -1), (8, 1)]), (0, [(1, 1), (8, -1)])]
def sp_ag (gs : List dz_E) : dz_Sp := (110, 12, (0, [((2, 0, 3, 55), (724, []), (0, []), (0, [])), ((0, 1, 0, 0), (0, []), (0, []), (0, [])), ((0, 2, 3, 1), (0, []), (0, []), (0, [])), ((0, 3, 0, 0), (0, []), (0, []), (0, [])), ((1, 0, 0, 48), (203, []), (6, []), (0, [])), ((1, 0, 0, 1), (0, [(3, 1)]), (1, []), (0, []))], gs), [(1, (7, [((0, 0, 0, 0), (0, []), (0, []), (0, [])), ((1, 0, 0, 1), (0, [(3, 1)]), (1, []), (0, []))], sp_agp))], [(1, 2), (2, 0)])
theorem sp_ag_ok {gs : List dz_E} (g1 : ((-1 : Int), [((5 : Nat), (1 : Int))]) ∈ gs) (g2 : ((-1 : Int), [((3 : Nat), (1 : Int))]) ∈ gs) : dz_spec tz_T (qz_X rR) cz_pg (sp_ag gs) := by
  intro M hM d hd ρ τ h L hG
  have hM' : cz_pg.1[110]? = some cm_110 := rfl
  have e : cm_110 = M := Option.some.inj (hM'.symm.trans hM)
  subst e
  have hG : dz_G tz_T (qz_X rR) (7, gs, [(0, 3, (724, []), 55), (1, 0, dz_var 2, 0), (2, 3, dz_var 3, 1), (3, 0, dz_var 4, 0)], [], [((203, []), 48, (6, []), (0, dz_var 5, 0)), ((0, [(3, 1)]), 1, (1, []), (0, dz_var 6, 0))], [], dz_var 0, dz_var 1) ρ τ h L [] := hG
  obtain ⟨gm, lo, -, mo, -, rc, rs, hb⟩ := hG
  obtain ⟨v0, f0, k0⟩ := lo (0, 3, (724, []), 55) List.mem_cons_self
  obtain ⟨v1, f1, k1⟩ := lo (1, 0, dz_var 2, 0) (List.mem_cons_of_mem _ List.mem_cons_self)
  obtain ⟨v2, f2, k2⟩ := lo (2, 3, dz_var 3, 1) (List.mem_cons_of_mem _ (List.mem_cons_of_mem _ List.mem_cons_self))
  obtain ⟨v3, f3, k3⟩ := lo (3, 0, dz_var 4, 0) (List.mem_cons_of_mem _ (List.mem_cons_of_mem _ (List.mem_cons_of_mem _ List.mem_cons_self)))
  have e0 : v0 = .inr (.inr (some 723)) := dz_ref k0.1 (by have : (724 : Int) + 0 = dz_n v0 := k0.2.1.2; omega)
  have k29 : (0 : Int) + (1 * ρ 3 + 0) = dz_n v2 := k2.2.1.2
  have b2 := dz_g0 (gm _ g2)
  obtain ⟨r, e2, n2⟩ := dz_refv k2.1 (by omega)
  have tr : τ r = 1 := (k2.2.2 r e2).1
  have s6 : qz_I h 202 6 = 0 + (1 * ρ 5 + 0) := dz_slot (p := 202) (i := 6) (mo _ List.mem_cons_self)
  have b1 := dz_g0 (gm _ g1)
  have a0 : (0 : Int) + (1 * ρ 0 + 0) = (h.1 : Int) := rc.2
  have a1 : (0 : Int) + (1 * ρ 1 + 0) = (h.2.1 : Int) := rs.2
  have hX := hb.2.1
  obtain ⟨x1, x2, x3, x4, Ls, ⟨t, c, m, w, s67, s77, uu, p⟩, ww9, xx9⟩ := id hX
  have eB := dz_ezB hb
  obtain ⟨q1, q2, q3, q4, q5⟩ := s77 (fun w => by have := s67.mpr w; omega)
  obtain ⟨d', rfl⟩ : ∃ d', d = d' + 2 := ⟨d - 2, by have : 12 ≤ d := hd; omega⟩
  refine ez_from (L := [(0, .inr (.inr (some 723))), (1, .inl (dz_n v1)), (2, .inr (.inr (some r))), (3, .inl (dz_n v3))]) (st := []) rfl (fun q hq => ?_) (rd_appFull eB (x1 723 (by decide)) (x1 202 (by decide)) (x1 203 (by decide)) (x1 724 (by decide)) tr q2 (dz_int_rg k1.1) (dz_int_rg k3.1) (fun g y o hy => ?_))
  · rcases List.mem_cons.mp hq with e | hq
    · subst e; show cz_find 0 L = some (.inr (.inr (some 723))); rw [← e0]; exact f0
    · rcases List.mem_cons.mp hq with e | hq
      · subst e; show cz_find 1 L = some (ez_v (.inl (dz_n v1))); rw [← dz_int k1.1]; exact f1
      · rcases List.mem_cons.mp hq with e | hq
        · subst e; show cz_find 2 L = some (.inr (.inr (some r))); rw [← e2]; exact f2
        · rw [List.mem_singleton] at hq
          subst hq; show cz_find 3 L = some (ez_v (.inl (dz_n v3))); rw [← dz_int k3.1]; exact f3
  have bl : 0 ≤ qz_I g r 1 ∧ qz_I g r 1 ≤ 2000 := ez_fB (cl := 1) (k := 1) o.1 tr tq_1 rfl rfl (by decide)
  obtain ⟨vs, w1, -, -, j1, j2, -⟩ := ez_fld (cl := 1) (k := 1) o.1 tr tq_1 rfl rfl
  have n1 : dz_n w1 = qz_I g r 1 := by unfold qz_I; rw [j1]
  have rg1 : (g.1 : Int) = (h.1 : Int) := by rw [o.2.2.2.1]
  have rg2 : (g.2.1 : Int) = (h.2.1 : Int) := by rw [o.2.2.2.2]
  have hr : ∃ ρ2 : Nat → Int, (∀ i, i < 7 → ρ2 i = ρ i) ∧ ρ2 7 = (g.1 : Int) ∧ ρ2 8 = (g.2.1 : Int) ∧ ρ2 9 = y ∧ ρ2 10 = qz_I g r 1 :=
    ⟨fun i => if i < 7 then ρ i else if i = 7 then (g.1 : Int) else if i = 8 then (g.2.1 : Int) else if i = 9 then y else qz_I g r 1, fun i hi => if_pos hi, rfl, rfl, rfl, rfl⟩
  obtain ⟨ρ2, r1, rn0, rn1, rn2, rn3⟩ := hr
  have c0 := r1 0 (by decide)
  have c1 := r1 1 (by decide)
  have yr : 0 ≤ y ∧ y ≤ 1 := by omega
  have G : dz_G tz_T (qz_X rR) (11, sp_agp, [(0, 0, dz_var 9, 0)], [], [((0, [(3, 1)]), 1, (1, []), (0, dz_var 10, 0))], [], dz_var 7, dz_var 8) ρ2 τ g [(0, ez_v (.inl y))] [] := by
    refine ⟨fun c hc => ?_, fun z hz => ?_, trivial, fun z hz => ?_, fun z hz => (by cases hz), dz_v1 (Nat.le_of_ble_eq_true rfl) rn0, dz_v1 (Nat.le_of_ble_eq_true rfl) rn1, tw_X hX eB o⟩
    · unfold sp_agp at hc
      simp only [List.mem_cons, List.not_mem_nil, or_false] at hc
      rcases hc with e | e | e | e | e | e | e | e <;> subst e
      · exact dz_g1 (Nat.le_of_ble_eq_true rfl) (by rw [rn2]; omega)
      · exact dz_g1 (Nat.le_of_ble_eq_true rfl) (by rw [rn2]; omega)
      · exact dz_g1 (Nat.le_of_ble_eq_true rfl) (by rw [rn3]; omega)
      · exact dz_g1 (Nat.le_of_ble_eq_true rfl) (by rw [rn3]; omega)
      · exact dz_g2 (Nat.le_of_ble_eq_true rfl) (Nat.le_of_ble_eq_true rfl) (by rw [c0, rn0]; omega)
      · exact dz_g2 (Nat.le_of_ble_eq_true rfl) (Nat.le_of_ble_eq_true rfl) (by rw [c0, rn0]; omega)
      · exact dz_g2 (Nat.le_of_ble_eq_true rfl) (Nat.le_of_ble_eq_true rfl) (by rw [c1, rn1]; omega)
      · exact dz_g2 (Nat.le_of_ble_eq_true rfl) (Nat.le_of_ble_eq_true rfl) (by rw [c1, rn1]; omega)
    · rw [List.mem_singleton] at hz
      subst hz
      exact ⟨_, rfl, rfl, dz_v1 (Nat.le_of_ble_eq_true rfl) (by rw [rn2, rz_rd ⟨by omega, by omega⟩]), fun r hr => by cases hr⟩
    · rw [List.mem_singleton] at hz
      subst hz
      have k25 : dz_k w1 = 0 := by
        have := j2.1
        rcases w1 with a | a | a
        · rfl
        · cases this
        · cases this
      exact ⟨r, 1, w1, dz_v1 (i := 3) (Nat.le_of_ble_eq_true rfl) (by rw [r1 3 (by decide)]; omega), ⟨tr, Nat.succ_ne_zero 0⟩, dz_c1, j1, k25, dz_v1 (Nat.le_of_ble_eq_true rfl) (by rw [rn3, n1]), fun r hr => by rw [hr] at k25; cases k25⟩
  exact ⟨_, List.mem_cons_self, ρ2, τ, [(0, ez_v (.inl y))], G, rfl, r1, o.2.2.1, _, rfl, rfl⟩
def sp_a69 : List dz_E := [(-192, [(0, 1)]), (0, [(1, 1)]), (0, [(3, 1)]), (1, [(3, -1)]), (0, [(3, 1)]), (1, [(3, -1)]), (0, [(4, 1)]), (1, [(4, -1)]), (0, [(5, 1)]), (2000, [(5, -1)]), (-1, [(4, 1)])]
theorem sp_a69_eq : dy_rd dy_rSp cas_56 = sp_af 196 sp_a69 := @of_decide_eq_true _ (dzSp_d _ _) (by decide +kernel)
def sp_a112 : List dz_E := [(-192, [(0, 1)]), (0, [(1, 1)]), (0, [(3, 1)]), (0, [(3, -1)]), (0, [(3, 1)]), (1, [(3, -1)]), (0, [(4, 1)]), (1, [(4, -1)]), (0, [(5, 1)]), (2000, [(5, -1)]), (-1, [(4, 1)])]
theorem sp_a112_eq : dy_rd dy_rSp cas_94 = sp_af 200 sp_a112 := @of_decide_eq_true _ (dzSp_d _ _) (by decide +kernel)
def sp_a118 : List dz_E := [(-192, [(0, 1)]), (0, [(1, 1)]), (0, [(3, 1)]), (1, [(3, -1)]), (0, [(3, 1)]), (1, [(3, -1)]), (0, [(4, 1)]), (1, [(4, -1)]), (0, [(5, 1)]), (2000, [(5, -1)]), (-1, [(4, 1)])]
theorem sp_a118_eq : dy_rd dy_rSp cas_104 = sp_af 200 sp_a118 := @of_decide_eq_true _ (dzSp_d _ _) (by decide +kernel)
def sp_a147 : List dz_E := [(-192, [(0, 1)]), (0, [(1, 1)]), (-1, [(3, 1)]), (1000000, [(3, -1)]), (0, [(4, 1)]), (0, [(4, -1)]), (0, [(4, 1)]), (1, [(4, -1)]), (0, [(5, 1)]), (1, [(5, -1)]), (0, [(6, 1)]), (2000, [(6, -1)]), (-1, [(5, 1)])]
theorem sp_a147_eq : dy_rd dy_rSp cas_111 = sp_ag sp_a147 := @of_decide_eq_true _ (dzSp_d _ _) (by decide +kernel)
/-- all that is by hand of the class -/
theorem cah_ok : ∀ s ∈ cah_, dz_spec tz_T (qz_X rR) cz_pg (dy_rd dy_rSp s) := by
  intro s hs
  unfold cah_ at hs
  simp only [List.mem_cons, List.not_mem_nil, or_false] at hs
  rcases hs with e | e | e | e <;> subst e
  · rw [sp_a69_eq]; exact sp_af_ok (by decide)
  · rw [sp_a112_eq]; exact sp_af_ok (by decide)
  · rw [sp_a118_eq]; exact sp_af_ok (by decide)
  · rw [sp_a147_eq]; exact sp_ag_ok (by decide) (by decide)
