/-! The law: line, seal, reset: what each side leaves of the other. -/
def rtb (t : Nat) : Bool := Nat.beq t 13 || (Nat.beq t 14 || (Nat.beq t 15 || (Nat.beq t 18 || Nat.beq t 20)))
/-- new cells that bear a tag of the model's LINES lose it -/
def rtg (τ τ1 : Nat → Nat) (q : Nat) : Nat := bif Nat.beq (τ q) 0 && rtb (τ1 q) then 0 else τ1 q
theorem rtb_all : ((List.range 120).all fun t => rtb t || (match tz_T t with
  | some ti => ti.2.2.2.2.all (fun D => !(rtb D.2.2.2.1))
  | none => true)) = true := by decide +kernel
theorem rtb_ok {t : Nat} {ti : dz_I} (h : tz_T t = some ti) (hb : rtb t = false) : ∀ D ∈ ti.2.2.2.2, rtb D.2.2.2.1 = false := by
  have hl : t < 120 := by
    rcases Nat.lt_or_ge t 120 with w | w
    · exact w
    · have : tz_T t = none := by
        unfold tz_T
        rw [dz_nth_eq]
        exact List.getElem?_eq_none (Nat.le_trans (by decide : tz_I.length ≤ 120) w)
      rw [this] at h
      cases h
  have w := List.all_eq_true.mp rtb_all t (List.mem_range.mpr hl)
  rw [hb, h, Bool.false_or] at w
  intro D hD
  have := List.all_eq_true.mp w D hD
  cases e : rtb D.2.2.2.1 with
  | false => rfl
  | true => rw [e] at this; cases this
theorem ds_mem {ti : dz_I} {i : Nat} {D : dz_D} (h : dz_ds ti i = some D) : D ∈ ti.2.2.2.2 := by
  unfold dz_ds at h
  split at h
  · exact dz_nth_mem h
  · exact dz_nth_mem h
  · cases h
theorem rtg_old {τ τ1 : Nat → Nat} {q : Nat} (h : τ q ≠ 0) : rtg τ τ1 q = τ1 q := by unfold rtg; rw [dz_beq_ne h]; rfl
theorem rtg_nb {τ τ1 : Nat → Nat} {q : Nat} (h : rtb (τ1 q) = false) : rtg τ τ1 q = τ1 q := by unfold rtg; rw [h, Bool.and_false]; rfl
theorem rtg_of {τ τ1 : Nat → Nat} {q : Nat} (h : rtg τ τ1 q ≠ 0) : rtg τ τ1 q = τ1 q ∧ (τ q ≠ 0 ∨ rtb (τ1 q) = false) := by
  by_cases e0 : τ q = 0
  · cases e : rtb (τ1 q) with
    | true => exact absurd (by unfold rtg; rw [e0, e]; rfl) h
    | false => exact ⟨rtg_nb e, Or.inr rfl⟩
  · exact ⟨rtg_old e0, Or.inl e0⟩
theorem fz_rtb {t : Nat} (h : fz_P t = true) : rtb t = false := by
  cases e : rtb t with
  | false => rfl
  | true =>
    unfold rtb at e
    simp only [Bool.or_eq_true] at e
    rcases e with e | e | e | e | e <;> (rw [Nat.eq_of_beq_eq_true e] at h; cases h)
theorem rtg_B {τ τ1 : Nat → Nat} {h g : cz_H} (hX : jz_X τ) (hB : ez_B τ h) (hB1 : ez_B τ1 g) (x : ∀ q, τ q ≠ 0 → τ1 q = τ q ∧ (fz_P (τ q) = false → q ≠ 192 → q ≠ 805 → g.2.2 q = h.2.2 q)) : ez_B (rtg τ τ1) g := by
  refine ⟨fun r hr => ?_, hB1.2.1, hB1.2.2⟩
  obtain ⟨e, ho⟩ := rtg_of hr
  have h1 : τ1 r ≠ 0 := by rw [← e]; exact hr
  obtain ⟨hh, ti, t1, t2, t3, t4⟩ := hB1.1 r h1
  refine ⟨hh, ti, by rw [e]; exact t1, t2, t3, fun i v hv => ?_⟩
  by_cases hc : τ r ≠ 0 ∧ fz_P (τ r) = false ∧ r ≠ 192 ∧ r ≠ 805
  · obtain ⟨xt, xc⟩ := x r hc.1
    have hv' : dz_get (h.2.2 r) i = some v := by rw [← xc hc.2.1 hc.2.2.1 hc.2.2.2]; exact hv
    obtain ⟨-, ti', s1, s2, s3, s4⟩ := hB.1 r hc.1
    rw [← xt, t1] at s1
    cases s1
    obtain ⟨D, d1, d2, d3, d4, d5⟩ := s4 i v hv'
    refine ⟨D, d1, d2, d3, d4.imp id (fun w p hp => ?_), d5⟩
    obtain ⟨w1, w2⟩ := w p hp
    have w3 : τ p ≠ 0 := by rw [w1]; exact w2
    exact ⟨(rtg_old w3).trans ((x p w3).1.trans w1), w2⟩
  · have hb : rtb (τ1 r) = false := by
      rcases ho with ho | ho
      · rw [(x r ho).1]
        cases e2 : fz_P (τ r) with
        | true => exact fz_rtb e2
        | false =>
          by_cases w1 : r = 192
          · rw [w1, hX 192 (by decide)]; rfl
          · by_cases w2 : r = 805
            · rw [w2, hX 805 (by decide)]; rfl
            · exact absurd ⟨ho, e2, w1, w2⟩ hc
      · exact ho
    obtain ⟨D, d1, d2, d3, d4, d5⟩ := t4 i v hv
    refine ⟨D, d1, d2, d3, d4.imp id (fun w p hp => ?_), d5⟩
    obtain ⟨w1, w2⟩ := w p hp
    exact ⟨(rtg_nb (by rw [w1]; exact rtb_ok t1 hb D (ds_mem d1))).trans w1, w2⟩
/-- tags of the model's LINES and of strings -/
def pmb (t : Nat) : Bool := Nat.beq (Nat.land (Nat.shiftRight 476028928 t) 1) 1
def mk2 (τ : Nat → Nat) (h : cz_H) (τ' : Nat → Nat) (h' : cz_H) : Prop := (∀ r, pmb (τ r) = true → τ' r = τ r ∧ h'.2.2 r = h.2.2 r) ∧ (∀ r, (τ' r = 13 ∨ τ' r = 15) → τ r = τ' r) ∧ ∀ j, qz_fm j = true → qz_I h' 770 j = qz_I h 770 j
/-- tags of the class's DATA and of strings -/
def pcb (t : Nat) : Bool := Nat.beq (Nat.land (Nat.shiftRight 3096225146470456 t) 1) 1
def ck2 (τ : Nat → Nat) (h : cz_H) (τ' : Nat → Nat) (h' : cz_H) : Prop := ∀ r, pcb (τ r) = true → τ' r = τ r ∧ h'.2.2 r = h.2.2 r
section RrHalf
variable {τ τ' : Nat → Nat} {h h' : cz_H}
theorem mk2.T (s : mk2 τ h τ' h') {r t : Nat} (ht : τ r = t) (hp : pmb t = true) : τ' r = t := by subst ht; exact (s.1 r hp).1
theorem mk2.C (s : mk2 τ h τ' h') {r t : Nat} (ht : τ r = t) (hp : pmb t = true) : h'.2.2 r = h.2.2 r := by subst ht; exact (s.1 r hp).2
theorem mk2.B (s : mk2 τ h τ' h') {r t : Nat} (ht : τ' r = t) (hp : t = 13 ∨ t = 15) : τ r = t := by subst ht; exact s.2.1 r hp
theorem ck2.T (s : ck2 τ h τ' h') {r t : Nat} (ht : τ r = t) (hp : pcb t = true) : τ' r = t := by subst ht; exact (s r hp).1
theorem ck2.C (s : ck2 τ h τ' h') {r t : Nat} (ht : τ r = t) (hp : pcb t = true) : h'.2.2 r = h.2.2 r := by subst ht; exact (s r hp).2
def mK (τ : Nat → Nat) (h : cz_H) (τ' : Nat → Nat) (h' : cz_H) : Prop := mk2 τ h τ' h' ∧ rT τ h
theorem mK.s (k : mK τ h τ' h') : mk2 τ h τ' h' := k.1
theorem mK.t (k : mK τ h τ' h') : rT τ h := k.2
def cK (τ : Nat → Nat) (h : cz_H) (τ' : Nat → Nat) (h' : cz_H) : Prop := ck2 τ h τ' h' ∧ rT τ h
theorem cK.s (k : cK τ h τ' h') : ck2 τ h τ' h' := k.1
theorem cK.t (k : cK τ h τ' h') : rT τ h := k.2
theorem mK.f7 (k : mK τ h τ' h') : ∀ j, qz_fm j = true → qz_I h' 770 j = qz_I h 770 j := k.1.2.2
theorem mK.cpo (k : mK τ h τ' h') : h'.2.2 (po h) = h.2.2 (po h) := k.1.C k.2.2.2.2.1.1 rfl
theorem mK.cls (k : mK τ h τ' h') : h'.2.2 (ls h) = h.2.2 (ls h) := k.1.C k.2.2.2.2.1.2.1 rfl
theorem mK.cdc (k : mK τ h τ' h') : h'.2.2 (dc h) = h.2.2 (dc h) := k.1.C k.2.2.2.2.1.2.2.1 rfl
theorem mK.cbw (k : mK τ h τ' h') : h'.2.2 (bw h) = h.2.2 (bw h) := k.1.C k.2.2.2.2.1.2.2.2.1 rfl
theorem mK.cpq (k : mK τ h τ' h') : h'.2.2 (pq h) = h.2.2 (pq h) := k.1.C k.2.2.2.2.1.2.2.2.2 rfl
theorem mK.po9 (k : mK τ h τ' h') : po h' = po h ∧ ls h' = ls h ∧ dc h' = dc h ∧ bw h' = bw h ∧ pq h' = pq h := by
  refine ⟨?_, ?_, ?_, ?_, ?_⟩
  · unfold po qz_P; rw [k.f7 9 rfl]
  · unfold ls qz_P; rw [k.f7 11 rfl]
  · unfold dc qz_P; rw [k.f7 21 rfl]
  · unfold bw qz_P; rw [k.f7 22 rfl]
  · unfold pq qz_P; rw [k.f7 27 rfl]
theorem mK.I (_k : mK τ h τ' h') {q : Nat} (e : h'.2.2 q = h.2.2 q) (j : Nat) : qz_I h' q j = qz_I h q j := by unfold qz_I; rw [e]
theorem mK.P (_k : mK τ h τ' h') {q : Nat} (e : h'.2.2 q = h.2.2 q) (j : Nat) : qz_P h' q j = qz_P h q j := by unfold qz_P qz_I; rw [e]
theorem mK.N (_k : mK τ h τ' h') {q : Nat} (e : h'.2.2 q = h.2.2 q) : qz_N h' q = qz_N h q := by unfold qz_N; rw [e]
theorem mK.sl (k : mK τ h τ' h') {s : Nat} {l : List Int} (hs : nzL s = some l) : h'.2.2 s = h.2.2 s ∧ h'.2.2 (qz_P h s 0) = h.2.2 (qz_P h s 0) := ⟨k.s.C (k.t.2.2.1 s l hs).1 rfl, k.s.C (k.t.2.2.1 s l hs).2 rfl⟩
theorem mK.Z (k : mK τ h τ' h') (z : nz_Z h) : nz_Z h' := fun s l hs => by
  obtain ⟨a, b, c⟩ := z s l hs
  obtain ⟨e1, e2⟩ := k.sl hs
  have e3 := k.P e1 0
  refine ⟨?_, b, by rw [e3]; exact c⟩
  unfold nz_S at a ⊢
  rw [e3, k.N e2]
  exact ⟨a.1, fun j v hv => by rw [k.I e2]; exact a.2 j v hv⟩
theorem mK.mLx (k : mK τ h τ' h') (m : mL τ h) : mL τ' h' := by
  obtain ⟨e1, -⟩ := k.po9
  refine ⟨fun r hr => ?_, fun r hr => ?_⟩
  · have hr' := k.s.B hr (by decide)
    obtain ⟨m1, m2⟩ := m.1 r hr'
    exact ⟨k.s.T m1 rfl, fun j => by rw [e1, k.N k.cpo, k.I (k.s.C hr' rfl), k.I (k.s.C m1 rfl)]; exact m2 j⟩
  · have hr' := k.s.B hr (by decide)
    obtain ⟨m1, m2, m3⟩ := m.2 r hr'
    refine ⟨k.s.T m1 rfl, k.s.T m2 rfl, ?_⟩
    rw [e1, k.N k.cpo, k.I (k.s.C hr' rfl), k.I (k.s.C m1 rfl), k.I (k.s.C m2 rfl)]; exact m3
theorem mK.Jm (k : mK τ h τ' h') {Ls : List vz} (m : mJ τ h Ls) : mJ τ' h' Ls := by
  obtain ⟨⟨⟨n1, n2⟩, n3, n4⟩, ⟨c1, c2⟩, mm, ⟨z1, z2⟩, v1, v2⟩ := m
  obtain ⟨e1, e2, e3, e4, e5⟩ := k.po9
  have el : lc h' = lc h := k.f7 12 rfl
  have en : pn h' = pn h := k.f7 10 rfl
  have e8 : qz_I h' 770 8 = qz_I h 770 8 := k.f7 8 rfl
  refine ⟨⟨⟨by rw [el, e2, k.N k.cls]; exact n1, by rw [en, e1, k.N k.cpo]; exact n2⟩, by rw [e8, el]; exact n3, by rw [en, el]; exact n4⟩, ⟨fun i hi => ?_, fun i j hi hj => ?_⟩, k.mLx mm, ⟨k.Z z1, ?_⟩, by rw [el]; exact v1, fun i x hx => ?_⟩
  · rw [e2, k.I k.cls]; rw [el] at hi; exact c1 i hi
  · rw [e2, k.I k.cls, k.I k.cls]; rw [el] at hi hj; exact c2 i j hi hj
  · refine ⟨fun p p1 p2 j hj => ?_, ?_⟩
    · have c := k.s.C (k.t.2.1 p p1 p2) rfl
      rw [k.P c]; rw [k.N c] at hj; exact z2.1 p p1 p2 j hj
    · rw [k.P (k.s.C (k.t.2.1 786 (by decide) (by decide)) rfl)]; exact z2.2
  · have hi : i < Ls.length := (List.getElem?_eq_some_iff.mp hx).1
    have t13 := k.t.2.2.2.2.2.2.2.1 i (by omega)
    obtain ⟨m1, m2, -⟩ := mm.2 _ t13
    rw [e2, k.P k.cls]
    exact vc_tr (v2 i x hx) (k.s.C t13 rfl) (k.s.C m1 rfl) (k.s.C m2 rfl) (by omega) (fun j _ _ => by unfold pl; rw [e1]; exact k.I k.cpo _)
theorem mK.Je (k : mK τ h τ' h') {F : rz_W} (e : eJ τ h F) : eJ τ' h' F := by
  obtain ⟨⟨a1, a2, a3, a4⟩, a5, a6, a7, a8⟩ := e
  obtain ⟨e1, e2, e3, e4, e5⟩ := k.po9
  have ec : cn h' = cn h := k.f7 23 rfl
  have en : pn h' = pn h := k.f7 10 rfl
  refine ⟨⟨by rw [ec]; exact a1, by rw [ec, e3, k.N k.cdc]; exact a2, by rw [ec, e4, k.N k.cbw]; exact a3, by rw [en, e1, k.N k.cpo]; exact a4⟩, fun i j hij hj => ?_, fun i hi => ?_, fun y hy => ?_, fun r hr => ?_⟩
  · rw [e3, k.I k.cdc, k.I k.cdc]; rw [ec] at hj; exact a5 i j hij hj
  · rw [ec] at hi
    obtain ⟨⟨r1, r2⟩, cp, vs, r3, r4, r5, r6⟩ := a6 i hi
    obtain ⟨t15, t16⟩ := a8 _ r2
    have c0 := k.s.C r2 rfl
    have c1 := k.s.C t15 rfl
    have c2 := k.s.C t16 rfl
    unfold eR
    rw [e4, k.I k.cbw, k.P k.cbw, e3, k.I k.cdc, k.I c0, k.I c1, k.I c2, en]
    exact ⟨⟨r1, k.s.T r2 rfl⟩, cp, vs, r3, r4, r5, fun j v hv => by unfold pl; rw [e1, k.I k.cpo]; exact r6 j v hv⟩
  · obtain ⟨i, i1, i2⟩ := a7 y hy
    exact ⟨i, by rw [ec]; exact i1, by rw [e3, k.I k.cdc]; exact i2⟩
  · obtain ⟨t15, t16⟩ := a8 r (k.s.B hr (by decide))
    exact ⟨k.s.T t15 rfl, k.s.T t16 rfl⟩
theorem mK.Jp (k : mK τ h τ' h') {F : rz_W} (p : pP h F) : pP h' F := by
  obtain ⟨e1, e2, e3, e4, e5⟩ := k.po9
  have ep : pkn h' = pkn h := k.f7 28 rfl
  have ec : cn h' = cn h := k.f7 23 rfl
  refine ⟨by rw [ep, e5, k.N k.cpq]; exact p.1, fun i hi => ?_⟩
  rw [ep] at hi
  rw [e5, k.I k.cpq, ec, e3, k.I k.cdc]; exact p.2 i hi
theorem cK.c202 (k : cK τ h τ' h') : h'.2.2 202 = h.2.2 202 := k.1.C k.2.1.2.2.2.1 rfl
theorem cK.c203 (k : cK τ h τ' h') : h'.2.2 203 = h.2.2 203 := k.1.C k.2.1.2.2.2.2.1 rfl
theorem cK.c205 (k : cK τ h τ' h') : h'.2.2 205 = h.2.2 205 := k.1.C k.2.1.2.2.2.2.2.1 rfl
theorem cK.I (_k : cK τ h τ' h') {q : Nat} (e : h'.2.2 q = h.2.2 q) (j : Nat) : qz_I h' q j = qz_I h q j := by unfold qz_I; rw [e]
theorem cK.P (_k : cK τ h τ' h') {q : Nat} (e : h'.2.2 q = h.2.2 q) (j : Nat) : qz_P h' q j = qz_P h q j := by unfold qz_P qz_I; rw [e]
theorem cK.N (_k : cK τ h τ' h') {q : Nat} (e : h'.2.2 q = h.2.2 q) : qz_N h' q = qz_N h q := by unfold qz_N; rw [e]
theorem cK.sp (k : cK τ h τ' h') (i : Int) : sz_p h' i = sz_p h i := k.P k.c203 _
theorem cK.ss (k : cK τ h τ' h') {i : Int} (i0 : 0 ≤ i) (i1 : i < 513) (j : Nat) : qz_I h' (sz_p h' i) j = qz_I h (sz_p h i) j := by
  rw [k.sp]; exact k.I (k.s.C (k.t.2.2.2.2.2.1 i i0 i1) rfl) j
theorem cK.sfp (k : cK τ h τ' h') {i : Int} (i0 : 0 ≤ i) (i1 : i < 513) : sz_fp h' i = sz_fp h i := by unfold sz_fp qz_P; rw [k.ss i0 i1]
theorem cK.sl (k : cK τ h τ' h') {s : Nat} {l : List Int} (hs : nzL s = some l) : h'.2.2 s = h.2.2 s ∧ h'.2.2 (qz_P h s 0) = h.2.2 (qz_P h s 0) := ⟨k.s.C (k.t.2.2.1 s l hs).1 rfl, k.s.C (k.t.2.2.1 s l hs).2 rfl⟩
theorem cK.Z (k : cK τ h τ' h') (z : nz_Z h) : nz_Z h' := fun s l hs => by
  obtain ⟨a, b, c⟩ := z s l hs
  obtain ⟨e1, e2⟩ := k.sl hs
  have e3 := k.P e1 0
  refine ⟨?_, b, by rw [e3]; exact c⟩
  unfold nz_S at a ⊢
  rw [e3, k.N e2]
  exact ⟨a.1, fun j v hv => by rw [k.I e2]; exact a.2 j v hv⟩
theorem cK.Jc (k : cK τ h τ' h') {F : rz_W} {E : Int → Prop} (c : cJ τ h F E) : cJ τ' h' F E := by
  obtain ⟨⟨a1, a2⟩, a3, a4, a5, a6, Xs, a7, a8⟩ := c
  have i2 := fun j => k.I k.c202 j
  have w1 := k.t.2.2.2.2.1
  have sf : ∀ i, 0 ≤ i → i < 513 → sz_f h' i = sz_f h i := fun i i0 i1 => k.ss i0 i1 0
  refine ⟨⟨⟨?_, fun i j i0 hij hj => ?_⟩, fun i j i0 i1 j0 j1 e => ?_⟩, fun i hi => ?_, by rw [i2, i2]; exact a4, k.Z a5, fun x i x0 x1 hk => ?_, Xs, by rw [i2]; exact a7, a8⟩
  · rw [sf 0 (by decide) (by decide)]; exact a1.1
  · rw [i2] at hj; rw [sf i i0 (by omega), sf j (by omega) (by omega)]; exact a1.2 i j i0 hij hj
  · rw [k.sp, k.sp] at e; exact a2 i j i0 i1 j0 j1 e
  · rw [i2] at hi; rw [k.I k.c205]; exact a3 i hi
  · obtain ⟨c0, c1, c2, c3⟩ := hk
    rw [i2] at c1 c3
    rw [sf i c0 (by omega)] at c2
    have hk' : sz_at h x i := ⟨c0, c1, c2, fun w => by rw [← sf (i + 1) (by omega) (by omega)]; exact c3 w⟩
    obtain ⟨⟨d1, d2, d3⟩, d4⟩ := a6 x i x0 x1 hk'
    have cf := k.s.C (k.t.2.2.2.2.2.2.1 i c0 c1) rfl
    rw [k.sfp c0 (by omega), k.I cf, k.I cf, k.ss c0 (by omega)]
    refine ⟨⟨d1, ?_, d3⟩, d4⟩
    revert d2
    cases (F x).2 with
    | none => intro d2; show qz_I h' _ 3 = 0; rw [k.I cf]; exact d2
    | some q =>
      rintro ⟨p, p1, p2, p3, p4, p5⟩
      have cp := k.s.C p1 rfl
      exact ⟨p, k.s.T p1 rfl, by rw [k.I cf]; exact p2, by rw [k.I cf]; exact p3, by rw [k.N cp]; exact p4, fun j v hv => by rw [k.I cp]; exact p5 j v hv⟩
theorem cK.Js (k : cK τ h τ' h') (q : sq h) : sq h' := fun i i0 i1 h3 => by
  rw [k.I k.c202] at i1
  have w1 := k.t.2.2.2.2.1
  have cf := k.s.C (k.t.2.2.2.2.2.2.1 i i0 i1) rfl
  rw [k.sfp i0 (by omega)] at h3 ⊢
  rw [k.I cf] at h3
  rw [k.I cf, k.I cf, k.I cf, k.I cf]
  exact q i i0 i1 h3
end RrHalf
/-! The law: what holds between calls, put together anew. -/
theorem pmb_no {t : Nat} (h : pmb t = true) : fz_P t = false ∧ t ≠ 0 ∧ t ≠ 44 ∧ t ≠ 35 ∧ t ≠ 75 := by
  have hlt : t < 29 := Classical.byContradiction fun w => by
    have e : Nat.shiftRight 476028928 t = 0 := by
      show 476028928 >>> t = 0
      rw [Nat.shiftRight_eq_div_pow]
      exact Nat.div_eq_of_lt (Nat.lt_of_lt_of_le (show 476028928 < 2 ^ 29 by decide) (Nat.pow_le_pow_right (by decide) (by omega)))
    unfold pmb at h
    rw [e] at h
    cases h
  have key : ∀ j, j < 29 → pmb j = true → fz_P j = false ∧ j ≠ 0 ∧ j ≠ 44 ∧ j ≠ 35 ∧ j ≠ 75 := by decide
  exact key t hlt h
theorem pcb_no {t : Nat} (h : pcb t = true) : rtb t = false ∧ t ≠ 0 ∧ t ≠ 35 ∧ t ≠ 17 ∧ t ≠ 18 ∧ t ≠ 30 ∧ t ≠ 31 ∧ (t < 19 ∨ 22 < t) := by
  have hlt : t < 52 := Classical.byContradiction fun w => by
    have e : Nat.shiftRight 3096225146470456 t = 0 := by
      show 3096225146470456 >>> t = 0
      rw [Nat.shiftRight_eq_div_pow]
      exact Nat.div_eq_of_lt (Nat.lt_of_lt_of_le (show 3096225146470456 < 2 ^ 52 by decide) (Nat.pow_le_pow_right (by decide) (by omega)))
    unfold pcb at h
    rw [e] at h
    cases h
  have key : ∀ j, j < 52 → pcb j = true → rtb j = false ∧ j ≠ 0 ∧ j ≠ 35 ∧ j ≠ 17 ∧ j ≠ 18 ∧ j ≠ 30 ∧ j ≠ 31 ∧ (j < 19 ∨ 22 < j) := by decide
  exact key t hlt h
theorem rT_of2 {τ : Nat → Nat} {h : cz_H} {F : rz_W} {E : Int → Prop} (hI : jz_I τ h F E) (tl : ∀ i : Nat, (i : Int) < lc h → τ (qz_P h (ls h) i) = 13) (tb : ∀ i : Nat, (i : Int) < cn h → τ (qz_P h (bw h) i) = 13) : rT τ h := by
  have hB := hI.1
  have hX := hI.2.1
  have t770 : τ 770 = 75 := hX 770 (by decide)
  have t202 : τ 202 = 48 := hX 202 (by decide)
  have t203 : τ 203 = 49 := hX 203 (by decide)
  have tt := ez_tls hB t770
  have td := ez_tdb hB t770
  have bn := sz_R_n1 hB t202
  refine ⟨⟨t770, hX 193 (by decide), hX 771 (by decide), t202, t203, hX 205 (by decide), hX 206 (by decide)⟩, fun p p1 p2 => ?_, fun s l hs => nz_hz hB hX s l hs, ⟨tt.2, tt.1, td.1, td.2, ez_tpq hB t770⟩, by omega, fun k k0 k1 => sz_tag hB t203 k0 k1, fun k k0 k1 => ?_, tl, tb⟩
  · have : p = 785 ∨ p = 786 ∨ p = 787 ∨ p = 788 := by omega
    rcases this with e | e | e | e <;> subst e
    · exact hX 785 (by decide)
    · exact hX 786 (by decide)
    · exact hX 787 (by decide)
    · exact hX 788 (by decide)
  · have t4 := sz_tag hB t203 k0 (show k < 513 by omega)
    have b1 : 1 ≤ qz_I h (sz_p h k) 1 ∧ qz_I h (sz_p h k) 1 ≤ 1000000 := ez_fB (cl := 4) hB t4 tq_4 rfl rfl (by decide)
    exact (ez_old (cl := 4) (k := 1) hB t4 tq_4 rfl rfl (by decide) (show qz_I h (sz_p h k) 1 = (sz_fp h k : Int) + 1 by unfold sz_fp qz_P; omega)).1
theorem XP_of {τ : Nat → Nat} {h : cz_H} {F : rz_W} {E : Int → Prop} {Ls : List vz} (t : rT τ h) (c : cJ τ h F E) (m : mJ τ h Ls) (hb : ∀ i : Nat, (i : Int) < cn h → 1 ≤ qz_I h (bw h) i) (hn : cn h ≤ qz_N h (bw h)) (hd : qz_N h (bw h) ≤ qz_N h (dc h)) : qz_XP τ h :=
  ⟨⟨t.1.1, t.1.2.2.2.1, t.1.2.2.2.2.2.1⟩, ⟨t.2.2.2.1.2.1, t.2.2.2.1.1, t.2.2.2.1.2.2.1, t.2.2.2.1.2.2.2.1⟩, c.2.1, m.2.1.1, hb, ⟨m.1.1.1, hn, Int.le_trans hn hd, hd, m.1.1.2⟩, m.2.2.1.1, m.2.2.1.2⟩
theorem X_new {τ : Nat → Nat} {h : cz_H} {Ls : List vz} (hI : jz_I τ h (vF Ls) (vE Ls)) (hM : mI τ h Ls 0) (x2 : qz_X2 τ h) (hb : ∀ i : Nat, (i : Int) < cn h → 1 ≤ qz_I h (bw h) i) (hn : cn h ≤ qz_N h (bw h)) (hd : qz_N h (bw h) ≤ qz_N h (dc h)) (w : uz_wf (vF Ls)) (s6 : qz_I h 202 6 = 0 ↔ qz_I h 770 7 = 0) (s7 : qz_I h 770 7 ≠ 0 → uz_S (vF Ls) (vE Ls) ∧ sq h ∧ eJ τ h (vF Ls) ∧ pP h (vF Ls) ∧ ∀ x, (vF Ls x).2 ≠ none → az (vF Ls) 501 x) (u : qz_I h 206 2 = 0 ∧ qz_I h 206 3 = 0) (p : rP h) : dz_B tz_T (qz_X rR) τ h :=
  have t := rT_of hI hM hb hn
  ⟨hI.1.1, ⟨hI.2.1, hI.1.2.1, x2, XP_of t hI.2.2 hM.2.2 hb hn hd, Ls, t, hI.2.2, hM.2.2, w, s6, s7, u, p⟩, hI.1.2.2⟩
theorem X2_tr {τ τ' : Nat → Nat} {h g : cz_H} (x : qz_X2 τ h) (i24 : qz_I g 770 24 = qz_I h 770 24) (i25 : qz_I g 770 25 = qz_I h 770 25) (i35 : qz_I g 770 35 = qz_I h 770 35) (i36 : qz_I g 770 36 = qz_I h 770 36) (t : ∀ q, (τ q = 21 ∨ τ q = 23) → τ' q = τ q ∧ g.2.2 q = h.2.2 q) : qz_X2 τ' g := by
  obtain ⟨⟨y1, y2⟩, y3, y4⟩ := x
  have e1 : qz_P g 770 24 = qz_P h 770 24 := by unfold qz_P; rw [i24]
  have e2 : qz_P g 770 35 = qz_P h 770 35 := by unfold qz_P; rw [i35]
  obtain ⟨a1, a2⟩ := t _ (Or.inl y1)
  obtain ⟨b1, b2⟩ := t _ (Or.inr y3)
  have c1 : qz_N g (qz_P h 770 24) = qz_N h (qz_P h 770 24) := by unfold qz_N; rw [a2]
  have c2 : qz_N g (qz_P h 770 35) = qz_N h (qz_P h 770 35) := by unfold qz_N; rw [b2]
  exact ⟨⟨by rw [e1, a1]; exact y1, by rw [e1, c1, i25]; exact y2⟩, by rw [e2, b1]; exact y3, by rw [e2, c2, i36]; exact y4⟩
theorem ne_tag {τ : Nat → Nat} (hX : jz_X τ) {q t : Nat} (hq : τ q = t) (p : Nat) (h : (!(Nat.beq (tz_ex p) 0) && !(Nat.beq (tz_ex p) t)) = true) : q ≠ p := fun e => by
  rw [Bool.and_eq_true, Bool.not_eq_true', Bool.not_eq_true'] at h
  have h0 : tz_ex p ≠ 0 := fun w => by rw [w] at h; cases h.1
  rw [e, hX p h0] at hq
  rw [hq, Nat.beq_refl] at h
  cases h.2
section LnX
variable {τ τ1 τ3 : Nat → Nat} {h g1 g2 g3 : cz_H} {F2 : rz_W} {E2 : Int → Prop} {Ls Ls2 : List vz} {a b : Nat}
theorem ln_C (x : fz τ (dz_put h 192 1 (ez_v (.inl 0))) τ1 g1 a b) (o : ∀ q, q ≠ 805 → g2.2.2 q = g1.2.2 q) : ∀ q, τ q ≠ 0 → τ1 q = τ q ∧ (fz_P (τ q) = false → q ≠ 192 → q ≠ 805 → g2.2.2 q = h.2.2 q) := fun q h0 => ⟨(x.1 q h0).1, fun h1 h2 h3 => by rw [o q h3, (x.1 q h0).2 h1, qz_put_at _ _ _ _ h2]⟩
theorem ln_m2 (hX : jz_X τ) (c : ∀ q, τ q ≠ 0 → τ1 q = τ q ∧ (fz_P (τ q) = false → q ≠ 192 → q ≠ 805 → g2.2.2 q = h.2.2 q)) : mk2 τ h (rtg τ τ1) g2 := by
  refine ⟨fun r hr => ?_, fun r hr => ?_, fun j _ => ?_⟩
  · obtain ⟨k1, k2, k3, k4, -⟩ := pmb_no hr
    exact ⟨(rtg_old k2).trans (c r k2).1, (c r k2).2 k1 (fun e => by rw [e, hX 192 (by decide)] at k3; exact k3 rfl) (fun e => by rw [e, hX 805 (by decide)] at k4; exact k4 rfl)⟩
  · have hb : rtb (rtg τ τ1 r) = true := by rcases hr with e | e <;> (rw [e]; rfl)
    have h0 : rtg τ τ1 r ≠ 0 := by rcases hr with e | e <;> (rw [e]; decide)
    obtain ⟨e1, e2⟩ := rtg_of h0
    rcases e2 with e2 | e2
    · rw [e1, (c r e2).1]
    · rw [e1, e2] at hb; cases hb
  · unfold qz_I; rw [(c 770 (by rw [hX 770 (by decide)]; decide)).2 (by rw [hX 770 (by decide)]; rfl) (by decide) (by decide)]
theorem ln_X {τ τ1 : Nat → Nat} (hX : jz_X τ) (c : ∀ q, τ q ≠ 0 → τ1 q = τ q) : jz_X (rtg τ τ1) := fun r hr => by
  have h0 : τ r ≠ 0 := by rw [hX r hr]; exact hr
  rw [rtg_old h0, c r h0, hX r hr]
theorem ln_A (hX : jz_X τ) (hB : ez_B τ h) (t : rT τ h) (m : mJ τ h Ls) (hI : jz_I τ1 g1 F2 E2) (x : fz τ (dz_put h 192 1 (ez_v (.inl 0))) τ1 g1 a b) (o : ∀ q, q ≠ 805 → g2.2.2 q = g1.2.2 q) (hB2 : ez_B τ1 g2) : ez_B (rtg τ τ1) g2 ∧ jz_X (rtg τ τ1) ∧ mJ (rtg τ τ1) g2 Ls ∧ cJ (rtg τ τ1) g2 F2 E2 := by
  have c := ln_C x o
  have B2 := rtg_B hX hB hB2 c
  have m2 : mJ (rtg τ τ1) g2 Ls := mK.Jm ⟨ln_m2 hX c, t⟩ m
  have c1 : ∀ q, τ q ≠ 0 → fz_P (τ q) = false → q ≠ 192 → g1.2.2 q = h.2.2 q := fun q h0 h1 h2 => by rw [(x.1 q h0).2 h1, qz_put_at _ _ _ _ h2]
  have i7 : ∀ j, qz_I g1 770 j = qz_I h 770 j := fun j => by unfold qz_I; rw [c1 770 (by rw [hX 770 (by decide)]; decide) (by rw [hX 770 (by decide)]; rfl) (by decide)]
  have tls := t.2.2.2.1.2.1
  have tbw := t.2.2.2.1.2.2.2.1
  have els : ls g1 = ls h := by unfold ls qz_P; rw [i7]
  have ebw : bw g1 = bw h := by unfold bw qz_P; rw [i7]
  have cls : g1.2.2 (ls h) = h.2.2 (ls h) := c1 _ (by rw [tls]; decide) (by rw [tls]; rfl) (ne_tag hX tls 192 rfl)
  have cbw : g1.2.2 (bw h) = h.2.2 (bw h) := c1 _ (by rw [tbw]; decide) (by rw [tbw]; rfl) (ne_tag hX tbw 192 rfl)
  have t1 : rT τ1 g1 := rT_of2 hI (fun i hi => by
    have hi' : (i : Int) < lc h := by unfold lc at hi ⊢; rw [← i7]; exact hi
    have e : qz_P g1 (ls g1) i = qz_P h (ls h) i := by rw [els]; unfold qz_P qz_I; rw [cls]
    have tt := t.2.2.2.2.2.2.2.1 i hi'
    rw [e, (x.1 _ (by rw [tt]; decide)).1, tt]) (fun i hi => by
    have hi' : (i : Int) < cn h := by unfold cn at hi ⊢; rw [← i7]; exact hi
    have e : qz_P g1 (bw g1) i = qz_P h (bw h) i := by rw [ebw]; unfold qz_P qz_I; rw [cbw]
    have tt := t.2.2.2.2.2.2.2.2 i hi'
    rw [e, (x.1 _ (by rw [tt]; decide)).1, tt])
  have k : ck2 τ1 g1 (rtg τ τ1) g2 := fun r hr => by
    obtain ⟨r1, r2, r3, -⟩ := pcb_no hr
    exact ⟨rtg_nb r1, o r (fun e => by rw [e, hI.2.1 805 (by decide)] at r3; exact r3 rfl)⟩
  exact ⟨B2, ln_X hX (fun q h0 => (c q h0).1), m2, cK.Jc ⟨k, t1⟩ hI.2.2⟩
theorem ln_c2 {τ : Nat → Nat} {e : Int} (hX : jz_X τ) (w : fw τ g2 τ3 g3 e) : ck2 τ g2 τ3 g3 := fun r hr => by
  obtain ⟨k1, k0, k35, k17, k18, k30, k31, -⟩ := pcb_no hr
  have ne : ∀ p, tz_ex p ≠ 0 → pcb (tz_ex p) = false → r ≠ p := fun p h1 h2 e => by rw [e, hX p h1, h2] at hr; cases hr
  exact ⟨(w.1 r k0).1, (w.1 r k0).2 (ne 770 (by decide) (by decide)) (ne 789 (by decide) (by decide)) (ne 790 (by decide) (by decide)) k17 k18 k30 k31⟩
theorem ln_B {n kind e : Int} (hb : dz_B tz_T (qz_X rR) τ h) (t : rT τ h) (m : mJ τ h Ls) (w : uz_wf (vF Ls)) (u : qz_I h 206 2 = 0 ∧ qz_I h 206 3 = 0) (p : rP h) (hn : qz_I h 770 2 = n) (s6 : qz_I h 202 6 = 0) (s7 : qz_I h 770 7 = 0) (hI : jz_I τ1 g1 F2 E2) (x : fz τ (dz_put h 192 1 (ez_v (.inl 0))) τ1 g1 a b) (st : rz_step (rz_b h) n kind (vF Ls) (vE Ls) F2 E2) (j2 : ∀ j, j ≠ 1 → j ≠ 4 → j ≠ 5 → qz_I g1 202 j = qz_I h 202 j) (o : ∀ q, q ≠ 805 → g2.2.2 q = g1.2.2 q) (hB2 : ez_B τ1 g2) (hM : mI τ3 g3 Ls2 0) (f : fw (rtg τ τ1) g2 τ3 g3 e) (st2 : rz_step (mb g2) (qz_I g2 770 2) kind (vF Ls) (vE Ls) (vF Ls2) (vE Ls2)) : dz_B tz_T (qz_X rR) τ3 g3 := by
  have hB := dz_ezB hb
  have hX := hb.2.1.1
  have hXP := hb.2.1.2.2.2.1
  have c := ln_C x o
  obtain ⟨B2, x2, m2, c2⟩ := ln_A hX hB t m hI x o hB2
  have t770 := hX 770 (by decide)
  have cel : ∀ q tg, τ q = tg → (!(Nat.beq tg 0) && (!(fz_P tg) && (!(Nat.beq tg 44) && !(Nat.beq tg 35)))) = true → g2.2.2 q = h.2.2 q := fun q tg hq ht => by
    simp only [Bool.and_eq_true, Bool.not_eq_true'] at ht
    exact (c q (fun e => by rw [← hq, e] at ht; cases ht.1)).2 (by rw [hq]; exact ht.2.1) (fun e => by rw [e, hX 192 (by decide)] at hq; rw [← hq] at ht; cases ht.2.2.1) (fun e => by rw [e, hX 805 (by decide)] at hq; rw [← hq] at ht; cases ht.2.2.2)
  have cel3 : ∀ q tg, τ q = tg → (!(Nat.beq tg 0) && ((!(fz_P tg) && (!(Nat.beq tg 44) && !(Nat.beq tg 35))) && ((!(Nat.beq tg 75) && (!(Nat.beq tg (tz_ex 789)) && !(Nat.beq tg (tz_ex 790)))) && ((!(Nat.beq tg 17) && !(Nat.beq tg 18)) && (!(Nat.beq tg 30) && !(Nat.beq tg 31)))))) = true → τ3 q = τ q ∧ g3.2.2 q = h.2.2 q := fun q tg hq ht => by
    simp only [Bool.and_eq_true, Bool.not_eq_true'] at ht
    obtain ⟨h0, ⟨h1, h2, h3⟩, ⟨h4, h5, h6⟩, ⟨h7, h8⟩, h9, h10⟩ := ht
    have q0 : τ q ≠ 0 := fun e => by rw [← hq, e] at h0; cases h0
    have er : rtg τ τ1 q = τ q := (rtg_old q0).trans (c q q0).1
    have nb : ∀ k, Nat.beq tg k = false → rtg τ τ1 q ≠ k := fun k hk e => by rw [er, hq] at e; rw [e, Nat.beq_refl] at hk; cases hk
    have np : ∀ p, tz_ex p ≠ 0 → Nat.beq tg (tz_ex p) = false → q ≠ p := fun p h1 h2 e => by rw [e, hX p h1] at hq; rw [hq, Nat.beq_refl] at h2; cases h2
    have f1 := f.1 q (by rw [er]; exact q0)
    refine ⟨f1.1.trans er, ?_⟩
    rw [f1.2 (np 770 (by decide) h4) (np 789 (by decide) h5) (np 790 (by decide) h6) (nb 17 h7) (nb 18 h8) (nb 30 h9) (nb 31 h10)]
    exact cel q tg hq (by simp only [Bool.and_eq_true, Bool.not_eq_true']; exact ⟨h0, h1, h2, h3⟩)
  have j7 : ∀ j, qz_I g2 770 j = qz_I h 770 j := fun j => by unfold qz_I; rw [cel 770 75 t770 rfl]
  have i7 : ∀ j, j ≠ 0 → j ≠ 2 → (j < 8 ∨ 12 < j) → j ≠ 17 → j ≠ 18 → qz_I g3 770 j = qz_I h 770 j := fun j h1 h2 h3 h4 h5 => by rw [f.2.2.1 j h1 h2 h3 h4 h5, j7]
  have eb : mb g2 = rz_b h := funext fun i => by
    show qz_I g2 771 i.toNat = qz_I h 193 i.toNat
    rw [p]; unfold qz_I; rw [cel 771 76 (hX 771 (by decide)) rfl]
  rw [eb, j7, hn] at st2
  obtain ⟨e1, e2⟩ := rz_step_uniq st st2
  subst e1 e2
  have tbw := t.2.2.2.1.2.2.2.1
  have tdc := t.2.2.2.1.2.2.1
  obtain ⟨k3, k3c⟩ := cel3 (bw h) 20 tbw rfl
  obtain ⟨-, k4c⟩ := cel3 (dc h) 19 tdc rfl
  have ebw : bw g3 = bw h := by unfold bw qz_P; rw [i7 22 (by decide) (by decide) (by decide) (by decide) (by decide)]
  have edc : dc g3 = dc h := by unfold dc qz_P; rw [i7 21 (by decide) (by decide) (by decide) (by decide) (by decide)]
  have ecn : cn g3 = cn h := i7 23 (by decide) (by decide) (by decide) (by decide) (by decide)
  have ebw2 : bw g2 = bw h := by unfold bw qz_P; rw [j7]
  have ecn2 : cn g2 = cn h := j7 23
  have cbw2 : g2.2.2 (bw h) = h.2.2 (bw h) := cel (bw h) 20 tbw rfl
  obtain ⟨-, -, -, -, p3, ⟨-, p5, -, p6, -⟩, -⟩ := hXP
  have t2 : rT (rtg τ τ1) g2 := rT_of ⟨B2, x2, c2⟩ ⟨B2, x2, m2⟩ (fun i hi => by rw [ecn2] at hi; rw [ebw2]; unfold qz_I; rw [cbw2]; exact p3 i hi) (by rw [ecn2, ebw2]; unfold qz_N; rw [cbw2]; exact p5)
  have c3 : cJ τ3 g3 (vF Ls2) (vE Ls2) := cK.Jc ⟨ln_c2 x2 f, t2⟩ c2
  obtain ⟨-, c202⟩ : τ3 202 = rtg τ τ1 202 ∧ g3.2.2 202 = g2.2.2 202 := ln_c2 x2 f 202 (by rw [x2 202 (by decide)]; rfl)
  have i6 : qz_I g3 202 6 = 0 := by
    rw [show qz_I g3 202 6 = qz_I g2 202 6 by unfold qz_I; rw [c202], show qz_I g2 202 6 = qz_I g1 202 6 by unfold qz_I; rw [o 202 (by decide)], j2 6 (by decide) (by decide) (by decide)]; exact s6
  have i77 : qz_I g3 770 7 = 0 := by rw [i7 7 (by decide) (by decide) (by decide) (by decide) (by decide)]; exact s7
  have c206 := (cel3 206 3 (hX 206 (by decide)) rfl).2
  have c193 := (cel3 193 45 (hX 193 (by decide)) rfl).2
  have c771 := (cel3 771 76 (hX 771 (by decide)) rfl).2
  refine X_new ⟨hM.1, hM.2.1, c3⟩ hM (X2_tr hb.2.1.2.2.1 (i7 24 (by decide) (by decide) (by decide) (by decide) (by decide)) (i7 25 (by decide) (by decide) (by decide) (by decide) (by decide)) (i7 35 (by decide) (by decide) (by decide) (by decide) (by decide)) (i7 36 (by decide) (by decide) (by decide) (by decide) (by decide)) (fun q hq => by rcases hq with e | e <;> exact cel3 q _ e rfl)) (fun i hi => ?_) ?_ ?_ (uz_wf_step w st) ⟨fun _ => i77, fun _ => i6⟩ (fun z => absurd i77 z) ?_ (fun j => ?_)
  · rw [ecn] at hi; rw [ebw]; unfold qz_I; rw [k3c]; exact p3 i hi
  · rw [ecn, ebw]; unfold qz_N; rw [k3c]; exact p5
  · rw [ebw, edc]; unfold qz_N; rw [k3c, k4c]; exact p6
  · unfold qz_I; rw [c206]; exact u
  · unfold qz_I; rw [c193, c771]; exact p j
end LnX
