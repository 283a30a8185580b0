/-! What a LINE tells are points. -/
def vyk (v : vy) : Prop := ((-1 ≤ v.2.1.2.1 ∧ v.2.1.2.1 ≤ 1114111) ∧ (-1 ≤ v.2.1.2.2.1 ∧ v.2.1.2.2.1 ≤ 1114111) ∧ (-1 ≤ v.2.1.2.2.2 ∧ v.2.1.2.2.2 ≤ 1114111)) ∧ (ptl v.2.2.2.2.1 ∧ v.2.2.2.2.1.length ≤ 18) ∧ (ptl v.2.2.2.2.2.1 ∧ v.2.2.2.2.2.1.length ≤ 18) ∧ ptl v.2.2.2.2.2.2 ∧ v.2.2.2.2.2.2.length ≤ 18
theorem ptl_nil : ptl [] := fun v hv => by cases hv
theorem rz_rw_ok {b : Int → Int} {s t : Int} {vs : List Int} (h : rz_rw b 18 s t = some vs) : ptl vs ∧ vs.length ≤ 18 := by
  have hl := rz_rw_len h
  unfold rz_rw at h
  split at h
  · rename_i hb
    exact ⟨rz_row_bd b _ _ _ _ h, by omega⟩
  · cases h
theorem rz_rn_ok (b : Int → Int) (s t : Int) : ptl (rz_rn b s t) ∧ (rz_rn b s t).length ≤ 18 := by
  unfold rz_rn
  split
  · exact ⟨ptl_nil, Nat.zero_le _⟩
  · cases e : rz_rw b 18 s t with
    | none => exact ⟨ptl_nil, Nat.zero_le _⟩
    | some vs => exact rz_rw_ok e
theorem lyE_ok {b : Int → Int} {n kind : Int} {v : vy} (h : lyE b n kind v) : vyk v := by
  have n0 : ptl ([] : List Int) ∧ ([] : List Int).length ≤ 18 := ⟨ptl_nil, Nat.zero_le _⟩
  have z0 : (-1 : Int) ≤ 0 ∧ (0 : Int) ≤ 1114111 := by decide
  rcases h with ⟨-, A, a1, a2⟩ | ⟨-, A, a1, a2⟩ | ⟨-, A, vs, a1, a2, a3⟩ | ⟨-, A, gr, nm, a1, a2, a3⟩ | ⟨-, a2⟩
  · rw [a2]; exact ⟨⟨rz_code_bd _ _ _, rz_code_bd _ _ _, rz_code_bd _ _ _⟩, n0, n0, n0⟩
  · rw [a2]; exact ⟨⟨z0, z0, z0⟩, rz_rn_ok _ _ _, rz_rn_ok _ _ _, rz_rn_ok _ _ _⟩
  · rw [a3]; exact ⟨⟨z0, z0, z0⟩, rz_rw_ok a2, n0, n0⟩
  · rw [a3]; exact ⟨⟨z0, z0, z0⟩, n0, n0, n0⟩
  · rw [a2]; exact ⟨⟨z0, z0, z0⟩, n0, n0, n0⟩
theorem dok_0 : dok xD0 := fun x => ⟨⟨by show -1 ≤ (-1 : Int) ∧ (-1 : Int) ≤ 1114111; decide, by show -1 ≤ (-1 : Int) ∧ (-1 : Int) ≤ 1114111; decide, by show -1 ≤ (-1 : Int) ∧ (-1 : Int) ≤ 1114111; decide⟩, ⟨fun l e => (by cases e), fun l e => (by cases e), fun l e => (by cases e)⟩, fun s hs => (by cases hs)⟩
theorem dok_xd {D : Int → xD} {v : vy} (hd : dok D) (hv : vyk v) : dok (xd D v) := fun x => by
  obtain ⟨h1, ⟨f1, f2, f3⟩, h3⟩ := hd x
  obtain ⟨v1, v2, v3, v4⟩ := hv
  refine xd_cs (P := fun X => ((-1 ≤ X.1.2.1 ∧ X.1.2.1 ≤ 1114111) ∧ (-1 ≤ X.1.2.2.1 ∧ X.1.2.2.1 ≤ 1114111) ∧ (-1 ≤ X.1.2.2.2 ∧ X.1.2.2.2 ≤ 1114111)) ∧ ((∀ l, X.2.2.1.1 = some l → ptl l ∧ l.length ≤ 18) ∧ (∀ l, X.2.2.1.2.1 = some l → ptl l ∧ l.length ≤ 18) ∧ (∀ l, X.2.2.1.2.2 = some l → ptl l ∧ l.length ≤ 18)) ∧ ∀ s ∈ X.2.2.2, (ptl s.2.1 ∧ s.2.1.length ≤ 18) ∧ (ptl s.2.2.1 ∧ s.2.2.1.length ≤ 18) ∧ ptl s.2.2.2 ∧ s.2.2.2.length ≤ 18) D v x (fun _ => ⟨h1, ⟨f1, f2, f3⟩, h3⟩) (fun _ _ => ⟨v1, ⟨f1, f2, f3⟩, h3⟩) (fun _ _ => ⟨h1, ⟨f1, f2, f3⟩, fun s hs => ?_⟩) (fun _ _ => ⟨h1, ⟨fun l e => ?_, fun l e => ?_, fun l e => ?_⟩, h3⟩) (fun _ _ => ⟨h1, ⟨f1, f2, f3⟩, h3⟩) (fun _ _ _ _ => ⟨h1, ⟨f1, f2, f3⟩, h3⟩)
  · rcases List.mem_append.mp hs with w | w
    · exact h3 s w
    · rw [List.mem_singleton] at w
      rw [w]; exact ⟨v2, v3, v4⟩
  · have e : (if v.2.2.1.1 = 67 then some v.2.2.2.2.1 else (D x).2.2.1.1) = some l := e
    split at e
    · cases e; exact v2
    · exact f1 l e
  · have e : (if v.2.2.1.1 = 70 then some v.2.2.2.2.1 else (D x).2.2.1.2.1) = some l := e
    split at e
    · cases e; exact v2
    · exact f2 l e
  · have e : (if v.2.2.1.1 = 84 then some v.2.2.2.2.1 else (D x).2.2.1.2.2) = some l := e
    split at e
    · cases e; exact v2
    · exact f3 l e
theorem yD_app (Ls : List vz) (x : vz) : yD (Ls ++ [x]) = xd (yD Ls) (ey x) := by unfold yD; rw [List.map_append]; exact xDs_app _ _
/-- a LINE on both sides -/
theorem ln_yD {b : Int → Int} {n kind v : Int} {D2 : Int → xD} {Ls Ls2 : List vz} (a : xsl b n kind (yD Ls) v D2) (c : (v ≠ -1 ∧ ∃ x : vz, Ls2 = Ls ++ [x] ∧ lyE b n kind (ey x)) ∨ (v = -1 ∧ Ls2 = Ls)) (hd : dok (yD Ls)) : D2 = yD Ls2 ∧ dok (yD Ls2) := by
  rcases c with ⟨c1, x, c2, c3⟩ | ⟨c1, c2⟩
  · rcases a with ⟨a1, -⟩ | ⟨-, y, a2, a3⟩
    · exact absurd a1 c1
    · have e := lyE_uniq a2 c3
      subst e
      rw [c2, yD_app]
      exact ⟨a3, dok_xd hd (lyE_ok c3)⟩
  · rcases a with ⟨-, a2⟩ | ⟨a1, -⟩
    · rw [c2]; exact ⟨a2, hd⟩
    · exact absurd c1 a1
theorem xQ.tp {τ τ1 : Nat → Nat} {h g : cz_H} {O O1 : Nat → Int} {x : Int} {D : xD} {f z : Nat} (a : xQ τ h O x D f z) (ef : ∀ j, j < 8 → qz_I g f j = qz_I h f j) (ez : ∀ j, qz_I g z j = qz_I h z j) (e5 : ∀ q, τ q = 5 → τ1 q = 5 ∧ g.2.2 q = h.2.2 q) (e6 : ∀ q, τ q = 6 → O q = x → τ1 q = 6 ∧ O1 q = x ∧ g.2.2 q = h.2.2 q) : xQ τ1 g O1 x D f z := by
  obtain ⟨⟨a1, a2, a3, a4⟩, ⟨b1, b2, b3⟩, ⟨c1, c2, c3⟩, d⟩ := a
  refine ⟨⟨by rw [ef 1 (by decide)]; exact a1, by rw [ef 5 (by decide)]; exact a2, by rw [ef 6 (by decide)]; exact a3, by rw [ef 7 (by decide)]; exact a4⟩, ⟨by rw [ez]; exact b1, by rw [ez]; exact b2, by rw [ez]; exact b3⟩, ⟨by rw [ez]; exact c1.tr e5, by rw [ez]; exact c2.tr e5, by rw [ez]; exact c3.tr e5⟩, ?_⟩
  rw [ez]
  refine sC.tr (fun p p1 p2 => ?_) (fun q hq => ?_) d
  · obtain ⟨u1, u2, -⟩ := e6 p p2.1 p2.2
    exact ⟨u1, u2⟩
  · rcases hq with hq | ⟨-, hq⟩
    · obtain ⟨u1, u2⟩ := e5 q hq
      exact ⟨u1.trans hq.symm, u2⟩
    · obtain ⟨u1, -, u2⟩ := e6 q hq.1 hq.2
      exact ⟨u1.trans hq.1.symm, u2⟩
theorem pz_rng {τ : Nat → Nat} (hX : jz_X τ) {q : Nat} (hq : τ q < 55 ∨ 60 < τ q) : q < 723 ∨ 728 < q := by
  by_cases e : 723 ≤ q ∧ q ≤ 728
  · exfalso
    have : q = 723 ∨ q = 724 ∨ q = 725 ∨ q = 726 ∨ q = 727 ∨ q = 728 := by omega
    rcases this with w | w | w | w | w | w <;> (subst w; rw [hX _ (by decide)] at hq; revert hq; decide)
  · omega
theorem jx_pz {τ : Nat → Nat} {h g : cz_H} {D : Int → xD} (hB : ez_B τ h) (hX : jz_X τ) (hj : jx τ h D) (P : pz τ h g) : jx τ g D := by
  obtain ⟨O, hx⟩ := hj
  have t202 : τ 202 = 48 := hX 202 (by decide)
  have t203 : τ 203 = 49 := hX 203 (by decide)
  have c : ∀ q, τ q ≠ 3 → τ q < 55 → g.2.2 q = h.2.2 q := fun q h1 h2 => P.2.1 q h1 (pz_rng hX (Or.inl h2))
  refine ⟨O, fun x k x0 x1 hk => ?_⟩
  obtain ⟨hk', hp, hf, hz⟩ := sz_at_tr hB t202 t203 (by unfold qz_I; rw [c 202 (by omega) (by omega)]) (c 203 (by omega) (by omega)) (fun q hq => c q (by omega) (by omega)) hk
  obtain ⟨-, t3, -⟩ := sz_fp_t hB t202 t203 hk'
  rw [hp, hf]
  exact (hx x k x0 x1 hk').tp (fun j j8 => P.2.2 _ t3 j j8) hz (fun q hq => ⟨hq, c q (by omega) (by omega)⟩) (fun q hq ho => ⟨hq, ho, c q (by omega) (by omega)⟩)
theorem cFl_tr {τ : Nat → Nat} {h g : cz_H} {F : rz_W} (hB : ez_B τ h) (t202 : τ 202 = 48) (t203 : τ 203 = 49) (a : cFl h F) (e2 : qz_I g 202 1 = qz_I h 202 1) (e3 : g.2.2 203 = h.2.2 203) (e4 : ∀ q, τ q = 3 ∨ τ q = 4 → g.2.2 q = h.2.2 q) (c3 : g.2.2 723 = h.2.2 723) (c4 : g.2.2 724 = h.2.2 724) : cFl g F := fun x k x0 x1 hk hn c => by
  obtain ⟨hk', hp, hf, hz⟩ := sz_at_tr hB t202 t203 e2 e3 (fun q hq => e4 q (Or.inr hq)) hk
  obtain ⟨-, t3, -⟩ := sz_fp_t hB t202 t203 hk'
  obtain ⟨l, l1, l2, l3⟩ := a x k x0 x1 hk' hn c
  refine ⟨l, l1, ?_, l3⟩
  rw [hf]
  unfold sg qz_I at l2 ⊢
  rw [e4 _ (Or.inl t3), c3, c4]; exact l2
theorem cFl_fD {τ : Nat → Nat} {h : cz_H} {T : Int → Nat} {F : rz_W} {E : Int → Prop} (hC : pz_C τ h T F E) (a : cFl h F) : fD h T F := fun x x0 x1 hn c => by
  obtain ⟨k, hk⟩ : ∃ k, sz_at h x k := sz_at_ex hC.2.2.1 (sz_R_n1 hC.1 (hC.2.1 202 (by decide))).1 x0
  obtain ⟨l, l1, l2, l3⟩ := a x k x0 x1 hk hn c
  have e1 := (hC.2.2.2.1 x k x0 x1 hk).1
  have eT : sz_fp h k = T x := by unfold sz_fp qz_P; omega
  rw [eT] at l2
  exact ⟨l, l1, l2, l3⟩
/-! The law: line, seal, reset: what each side leaves of the other. -/
def rtb (t : Nat) : Bool := Nat.beq t 13 || (Nat.beq t 14 || (Nat.beq t 15 || (Nat.beq t 18 || (Nat.beq t 20 || Nat.beq t 75))))
/-- new cells that bear a tag of the model's LINES lose it -/
def rtg (τ τ1 : Nat → Nat) (q : Nat) : Nat := bif Nat.beq (τ q) 0 && rtb (τ1 q) then 0 else τ1 q
theorem rtb_all : ((List.range 120).all fun t => rtb t || (match tz_T t with
  | some ti => ti.2.2.2.2.all (fun D => !(rtb D.2.2.2.1))
  | none => true)) = true := by decide +kernel
theorem rtb_ok {t : Nat} {ti : dz_I} (h : tz_T t = some ti) (hb : rtb t = false) : ∀ D ∈ ti.2.2.2.2, rtb D.2.2.2.1 = false := by
  have hl : t < 120 := by
    rcases Nat.lt_or_ge t 120 with w | w
    · exact w
    · have : tz_T t = none := by
        unfold tz_T
        rw [dz_nth_eq]
        exact List.getElem?_eq_none (Nat.le_trans (by decide : tz_I.length ≤ 120) w)
      rw [this] at h
      cases h
  have w := List.all_eq_true.mp rtb_all t (List.mem_range.mpr hl)
  rw [hb, h, Bool.false_or] at w
  intro D hD
  have := List.all_eq_true.mp w D hD
  cases e : rtb D.2.2.2.1 with
  | false => rfl
  | true => rw [e] at this; cases this
theorem ds_mem {ti : dz_I} {i : Nat} {D : dz_D} (h : dz_ds ti i = some D) : D ∈ ti.2.2.2.2 := by
  unfold dz_ds at h
  split at h
  · exact dz_nth_mem h
  · exact dz_nth_mem h
  · cases h
theorem rtg_old {τ τ1 : Nat → Nat} {q : Nat} (h : τ q ≠ 0) : rtg τ τ1 q = τ1 q := by unfold rtg; rw [dz_beq_ne h]; rfl
theorem rtg_nb {τ τ1 : Nat → Nat} {q : Nat} (h : rtb (τ1 q) = false) : rtg τ τ1 q = τ1 q := by unfold rtg; rw [h, Bool.and_false]; rfl
theorem rtg_of {τ τ1 : Nat → Nat} {q : Nat} (h : rtg τ τ1 q ≠ 0) : rtg τ τ1 q = τ1 q ∧ (τ q ≠ 0 ∨ rtb (τ1 q) = false) := by
  by_cases e0 : τ q = 0
  · cases e : rtb (τ1 q) with
    | true => exact absurd (by unfold rtg; rw [e0, e]; rfl) h
    | false => exact ⟨rtg_nb e, Or.inr rfl⟩
  · exact ⟨rtg_old e0, Or.inl e0⟩
theorem fz_rtb {t : Nat} (h : fz_P t = true) : rtb t = false := by
  cases e : rtb t with
  | false => rfl
  | true =>
    unfold rtb at e
    simp only [Bool.or_eq_true] at e
    rcases e with e | e | e | e | e | e <;> (rw [Nat.eq_of_beq_eq_true e] at h; cases h)
theorem rtg_B {τ τ1 : Nat → Nat} {h g : cz_H} (hX : jz_X τ) (hB : ez_B τ h) (hB1 : ez_B τ1 g) (x : ∀ q, τ q ≠ 0 → τ1 q = τ q ∧ (fz_P (τ q) = false → q ≠ 192 → q ≠ 805 → g.2.2 q = h.2.2 q)) : ez_B (rtg τ τ1) g := by
  refine ⟨fun r hr => ?_, hB1.2.1, hB1.2.2⟩
  obtain ⟨e, ho⟩ := rtg_of hr
  have h1 : τ1 r ≠ 0 := by rw [← e]; exact hr
  obtain ⟨hh, ti, t1, t2, t3, t4⟩ := hB1.1 r h1
  refine ⟨hh, ti, by rw [e]; exact t1, t2, t3, fun i v hv => ?_⟩
  by_cases hc : τ r ≠ 0 ∧ fz_P (τ r) = false ∧ r ≠ 192 ∧ r ≠ 805
  · obtain ⟨xt, xc⟩ := x r hc.1
    have hv' : dz_get (h.2.2 r) i = some v := by rw [← xc hc.2.1 hc.2.2.1 hc.2.2.2]; exact hv
    obtain ⟨-, ti', s1, s2, s3, s4⟩ := hB.1 r hc.1
    rw [← xt, t1] at s1
    cases s1
    obtain ⟨D, d1, d2, d3, d4, d5⟩ := s4 i v hv'
    refine ⟨D, d1, d2, d3, d4.imp id (fun w p hp => ?_), d5⟩
    obtain ⟨w1, w2⟩ := w p hp
    have w3 : τ p ≠ 0 := by rw [w1]; exact w2
    exact ⟨(rtg_old w3).trans ((x p w3).1.trans w1), w2⟩
  · have hb : rtb (τ1 r) = false := by
      rcases ho with ho | ho
      · rw [(x r ho).1]
        cases e2 : fz_P (τ r) with
        | true => exact fz_rtb e2
        | false =>
          by_cases w1 : r = 192
          · rw [w1, hX 192 (by decide)]; rfl
          · by_cases w2 : r = 805
            · rw [w2, hX 805 (by decide)]; rfl
            · exact absurd ⟨ho, e2, w1, w2⟩ hc
      · exact ho
    obtain ⟨D, d1, d2, d3, d4, d5⟩ := t4 i v hv
    refine ⟨D, d1, d2, d3, d4.imp id (fun w p hp => ?_), d5⟩
    obtain ⟨w1, w2⟩ := w p hp
    exact ⟨(rtg_nb (by rw [w1]; exact rtb_ok t1 hb D (ds_mem d1))).trans w1, w2⟩
/-- tags of the model's LINES and of strings -/
def pmb (t : Nat) : Bool := Nat.beq (Nat.land (Nat.shiftRight 476028928 t) 1) 1
def mk2 (τ : Nat → Nat) (h : cz_H) (τ' : Nat → Nat) (h' : cz_H) : Prop := (∀ r, pmb (τ r) = true → τ' r = τ r ∧ h'.2.2 r = h.2.2 r) ∧ (∀ r, (τ' r = 13 ∨ τ' r = 15) → τ r = τ' r) ∧ ∀ j, qz_fm j = true → qz_I h' 770 j = qz_I h 770 j
/-- tags of the class's DATA and of strings -/
def pcb (t : Nat) : Bool := Nat.beq (Nat.land (Nat.shiftRight 2814750169759800 t) 1) 1
def ck2 (τ : Nat → Nat) (h : cz_H) (τ' : Nat → Nat) (h' : cz_H) : Prop := (∀ r, pcb (τ r) = true → τ' r = τ r ∧ h'.2.2 r = h.2.2 r) ∧ qz_I h' 202 1 = qz_I h 202 1 ∧ qz_I h' 202 4 = qz_I h 202 4 ∧ qz_I h' 202 5 = qz_I h 202 5
section RrHalf
variable {τ τ' : Nat → Nat} {h h' : cz_H}
theorem mk2.T (s : mk2 τ h τ' h') {r t : Nat} (ht : τ r = t) (hp : pmb t = true) : τ' r = t := by subst ht; exact (s.1 r hp).1
theorem mk2.C (s : mk2 τ h τ' h') {r t : Nat} (ht : τ r = t) (hp : pmb t = true) : h'.2.2 r = h.2.2 r := by subst ht; exact (s.1 r hp).2
theorem mk2.B (s : mk2 τ h τ' h') {r t : Nat} (ht : τ' r = t) (hp : t = 13 ∨ t = 15) : τ r = t := by subst ht; exact s.2.1 r hp
theorem ck2.T (s : ck2 τ h τ' h') {r t : Nat} (ht : τ r = t) (hp : pcb t = true) : τ' r = t := by subst ht; exact (s.1 r hp).1
theorem ck2.C (s : ck2 τ h τ' h') {r t : Nat} (ht : τ r = t) (hp : pcb t = true) : h'.2.2 r = h.2.2 r := by subst ht; exact (s.1 r hp).2
def mK (τ : Nat → Nat) (h : cz_H) (τ' : Nat → Nat) (h' : cz_H) : Prop := mk2 τ h τ' h' ∧ rT τ h
theorem mK.s (k : mK τ h τ' h') : mk2 τ h τ' h' := k.1
theorem mK.t (k : mK τ h τ' h') : rT τ h := k.2
def cK (τ : Nat → Nat) (h : cz_H) (τ' : Nat → Nat) (h' : cz_H) : Prop := ck2 τ h τ' h' ∧ rT τ h
theorem cK.s (k : cK τ h τ' h') : ck2 τ h τ' h' := k.1
theorem cK.t (k : cK τ h τ' h') : rT τ h := k.2
theorem mK.f7 (k : mK τ h τ' h') : ∀ j, qz_fm j = true → qz_I h' 770 j = qz_I h 770 j := k.1.2.2
theorem mK.cpo (k : mK τ h τ' h') : h'.2.2 (po h) = h.2.2 (po h) := k.1.C k.2.2.2.2.1.1 rfl
theorem mK.cls (k : mK τ h τ' h') : h'.2.2 (ls h) = h.2.2 (ls h) := k.1.C k.2.2.2.2.1.2.1 rfl
theorem mK.cdc (k : mK τ h τ' h') : h'.2.2 (dc h) = h.2.2 (dc h) := k.1.C k.2.2.2.2.1.2.2.1 rfl
theorem mK.cbw (k : mK τ h τ' h') : h'.2.2 (bw h) = h.2.2 (bw h) := k.1.C k.2.2.2.2.1.2.2.2.1 rfl
theorem mK.cpq (k : mK τ h τ' h') : h'.2.2 (pq h) = h.2.2 (pq h) := k.1.C k.2.2.2.2.1.2.2.2.2 rfl
theorem mK.po9 (k : mK τ h τ' h') : po h' = po h ∧ ls h' = ls h ∧ dc h' = dc h ∧ bw h' = bw h ∧ pq h' = pq h := by
  refine ⟨?_, ?_, ?_, ?_, ?_⟩
  · unfold po qz_P; rw [k.f7 9 rfl]
  · unfold ls qz_P; rw [k.f7 11 rfl]
  · unfold dc qz_P; rw [k.f7 21 rfl]
  · unfold bw qz_P; rw [k.f7 22 rfl]
  · unfold pq qz_P; rw [k.f7 27 rfl]
theorem mK.I (_k : mK τ h τ' h') {q : Nat} (e : h'.2.2 q = h.2.2 q) (j : Nat) : qz_I h' q j = qz_I h q j := by unfold qz_I; rw [e]
theorem mK.P (_k : mK τ h τ' h') {q : Nat} (e : h'.2.2 q = h.2.2 q) (j : Nat) : qz_P h' q j = qz_P h q j := by unfold qz_P qz_I; rw [e]
theorem mK.N (_k : mK τ h τ' h') {q : Nat} (e : h'.2.2 q = h.2.2 q) : qz_N h' q = qz_N h q := by unfold qz_N; rw [e]
theorem mK.sl (k : mK τ h τ' h') {s : Nat} {l : List Int} (hs : nzL s = some l) : h'.2.2 s = h.2.2 s ∧ h'.2.2 (qz_P h s 0) = h.2.2 (qz_P h s 0) := ⟨k.s.C (k.t.2.2.1 s l hs).1 rfl, k.s.C (k.t.2.2.1 s l hs).2 rfl⟩
theorem mK.Z (k : mK τ h τ' h') (z : nz_Z h) : nz_Z h' := fun s l hs => by
  obtain ⟨a, b, c⟩ := z s l hs
  obtain ⟨e1, e2⟩ := k.sl hs
  have e3 := k.P e1 0
  refine ⟨?_, b, by rw [e3]; exact c⟩
  unfold nz_S at a ⊢
  rw [e3, k.N e2]
  exact ⟨a.1, fun j v hv => by rw [k.I e2]; exact a.2 j v hv⟩
theorem mK.mLx (k : mK τ h τ' h') (m : mL τ h) : mL τ' h' := by
  obtain ⟨e1, -⟩ := k.po9
  refine ⟨fun r hr => ?_, fun r hr => ?_⟩
  · have hr' := k.s.B hr (by decide)
    obtain ⟨m1, m2⟩ := m.1 r hr'
    exact ⟨k.s.T m1 rfl, fun j => by rw [e1, k.N k.cpo, k.I (k.s.C hr' rfl), k.I (k.s.C m1 rfl)]; exact m2 j⟩
  · have hr' := k.s.B hr (by decide)
    obtain ⟨m1, m2, m3⟩ := m.2 r hr'
    refine ⟨k.s.T m1 rfl, k.s.T m2 rfl, ?_⟩
    rw [e1, k.N k.cpo, k.I (k.s.C hr' rfl), k.I (k.s.C m1 rfl), k.I (k.s.C m2 rfl)]; exact m3
theorem mK.Jm (k : mK τ h τ' h') {Ls : List vz} (m : mJ τ h Ls) : mJ τ' h' Ls := by
  obtain ⟨⟨⟨n1, n2⟩, n3, n4⟩, ⟨c1, c2⟩, mm, ⟨z1, z2⟩, v1, v2⟩ := m
  obtain ⟨e1, e2, e3, e4, e5⟩ := k.po9
  have el : lc h' = lc h := k.f7 12 rfl
  have en : pn h' = pn h := k.f7 10 rfl
  have e8 : qz_I h' 770 8 = qz_I h 770 8 := k.f7 8 rfl
  refine ⟨⟨⟨by rw [el, e2, k.N k.cls]; exact n1, by rw [en, e1, k.N k.cpo]; exact n2⟩, by rw [e8, el]; exact n3, by rw [en, el]; exact n4⟩, ⟨fun i hi => ?_, fun i j hi hj => ?_⟩, k.mLx mm, ⟨k.Z z1, ?_⟩, by rw [el]; exact v1, fun i x hx => ?_⟩
  · rw [e2, k.I k.cls]; rw [el] at hi; exact c1 i hi
  · rw [e2, k.I k.cls, k.I k.cls]; rw [el] at hi hj; exact c2 i j hi hj
  · refine ⟨fun p p1 p2 j hj => ?_, ?_, nmx_c z2.2.2 (fun p p1 p2 => k.s.C (k.t.2.1 p p1 p2) rfl)⟩
    · have c := k.s.C (k.t.2.1 p p1 p2) rfl
      rw [k.P c]; rw [k.N c] at hj; exact z2.1 p p1 p2 j hj
    · rw [k.P (k.s.C (k.t.2.1 786 (by decide) (by decide)) rfl)]; exact z2.2.1
  · have hi : i < Ls.length := (List.getElem?_eq_some_iff.mp hx).1
    have t13 := k.t.2.2.2.2.2.2.2.1 i (by omega)
    obtain ⟨m1, m2, -⟩ := mm.2 _ t13
    rw [e2, k.P k.cls]
    exact ⟨vc_tr (v2 i x hx).1 (k.s.C t13 rfl) (k.s.C m1 rfl) (k.s.C m2 rfl) (by omega) (fun j _ _ => by unfold pl; rw [e1]; exact k.I k.cpo _), vx_tr (v2 i x hx).2 (k.s.C t13 rfl) (k.s.C m1 rfl) (k.s.C m2 rfl) (by omega) (fun j _ _ => by unfold pl; rw [e1]; exact k.I k.cpo _)⟩
theorem mK.Je (k : mK τ h τ' h') {F : rz_W} (e : eJ τ h F) : eJ τ' h' F := by
  obtain ⟨⟨a1, a2, a3, a4⟩, a5, a6, a7, a8⟩ := e
  obtain ⟨e1, e2, e3, e4, e5⟩ := k.po9
  have ec : cn h' = cn h := k.f7 23 rfl
  have en : pn h' = pn h := k.f7 10 rfl
  refine ⟨⟨by rw [ec]; exact a1, by rw [ec, e3, k.N k.cdc]; exact a2, by rw [ec, e4, k.N k.cbw]; exact a3, by rw [en, e1, k.N k.cpo]; exact a4⟩, fun i j hij hj => ?_, fun i hi => ?_, fun y hy => ?_, fun r hr => ?_⟩
  · rw [e3, k.I k.cdc, k.I k.cdc]; rw [ec] at hj; exact a5 i j hij hj
  · rw [ec] at hi
    obtain ⟨⟨r1, r2⟩, cp, vs, r3, r4, r5, r6⟩ := a6 i hi
    obtain ⟨t15, t16⟩ := a8 _ r2
    have c0 := k.s.C r2 rfl
    have c1 := k.s.C t15 rfl
    have c2 := k.s.C t16 rfl
    unfold eR
    rw [e4, k.I k.cbw, k.P k.cbw, e3, k.I k.cdc, k.I c0, k.I c1, k.I c2, en]
    exact ⟨⟨r1, k.s.T r2 rfl⟩, cp, vs, r3, r4, r5, fun j v hv => by unfold pl; rw [e1, k.I k.cpo]; exact r6 j v hv⟩
  · obtain ⟨i, i1, i2⟩ := a7 y hy
    exact ⟨i, by rw [ec]; exact i1, by rw [e3, k.I k.cdc]; exact i2⟩
  · obtain ⟨t15, t16⟩ := a8 r (k.s.B hr (by decide))
    exact ⟨k.s.T t15 rfl, k.s.T t16 rfl⟩
theorem mK.Jp (k : mK τ h τ' h') {F : rz_W} (p : pP h F) : pP h' F := by
  obtain ⟨e1, e2, e3, e4, e5⟩ := k.po9
  have ep : pkn h' = pkn h := k.f7 28 rfl
  have ec : cn h' = cn h := k.f7 23 rfl
  refine ⟨by rw [ep, e5, k.N k.cpq]; exact p.1, fun i hi => ?_⟩
  rw [ep] at hi
  rw [e5, k.I k.cpq, ec, e3, k.I k.cdc]; exact p.2 i hi
theorem cK.i1 (k : cK τ h τ' h') : qz_I h' 202 1 = qz_I h 202 1 := k.1.2.1
theorem cK.i4 (k : cK τ h τ' h') : qz_I h' 202 4 = qz_I h 202 4 := k.1.2.2.1
theorem cK.i5 (k : cK τ h τ' h') : qz_I h' 202 5 = qz_I h 202 5 := k.1.2.2.2
theorem cK.c203 (k : cK τ h τ' h') : h'.2.2 203 = h.2.2 203 := k.1.C k.2.1.2.2.2.2.1 rfl
theorem cK.c205 (k : cK τ h τ' h') : h'.2.2 205 = h.2.2 205 := k.1.C k.2.1.2.2.2.2.2.1 rfl
theorem cK.I (_k : cK τ h τ' h') {q : Nat} (e : h'.2.2 q = h.2.2 q) (j : Nat) : qz_I h' q j = qz_I h q j := by unfold qz_I; rw [e]
theorem cK.P (_k : cK τ h τ' h') {q : Nat} (e : h'.2.2 q = h.2.2 q) (j : Nat) : qz_P h' q j = qz_P h q j := by unfold qz_P qz_I; rw [e]
theorem cK.N (_k : cK τ h τ' h') {q : Nat} (e : h'.2.2 q = h.2.2 q) : qz_N h' q = qz_N h q := by unfold qz_N; rw [e]
theorem cK.sp (k : cK τ h τ' h') (i : Int) : sz_p h' i = sz_p h i := k.P k.c203 _
theorem cK.ss (k : cK τ h τ' h') {i : Int} (i0 : 0 ≤ i) (i1 : i < 513) (j : Nat) : qz_I h' (sz_p h' i) j = qz_I h (sz_p h i) j := by
  rw [k.sp]; exact k.I (k.s.C (k.t.2.2.2.2.2.1 i i0 i1) rfl) j
theorem cK.sfp (k : cK τ h τ' h') {i : Int} (i0 : 0 ≤ i) (i1 : i < 513) : sz_fp h' i = sz_fp h i := by unfold sz_fp qz_P; rw [k.ss i0 i1]
theorem cK.sl (k : cK τ h τ' h') {s : Nat} {l : List Int} (hs : nzL s = some l) : h'.2.2 s = h.2.2 s ∧ h'.2.2 (qz_P h s 0) = h.2.2 (qz_P h s 0) := ⟨k.s.C (k.t.2.2.1 s l hs).1 rfl, k.s.C (k.t.2.2.1 s l hs).2 rfl⟩
theorem cK.Z (k : cK τ h τ' h') (z : nz_Z h) : nz_Z h' := fun s l hs => by
  obtain ⟨a, b, c⟩ := z s l hs
  obtain ⟨e1, e2⟩ := k.sl hs
  have e3 := k.P e1 0
  refine ⟨?_, b, by rw [e3]; exact c⟩
  unfold nz_S at a ⊢
  rw [e3, k.N e2]
  exact ⟨a.1, fun j v hv => by rw [k.I e2]; exact a.2 j v hv⟩
theorem cK.Jc (k : cK τ h τ' h') {F : rz_W} {E : Int → Prop} (c : cJ τ h F E) : cJ τ' h' F E := by
  obtain ⟨⟨a1, a2⟩, a3, a4, a5, a6, Xs, a7, a8⟩ := c
  have w1 := k.t.2.2.2.2.1
  have sf : ∀ i, 0 ≤ i → i < 513 → sz_f h' i = sz_f h i := fun i i0 i1 => k.ss i0 i1 0
  refine ⟨⟨⟨?_, fun i j i0 hij hj => ?_⟩, fun i j i0 i1 j0 j1 e => ?_⟩, fun i hi => ?_, by rw [k.i1, k.i5]; exact a4, k.Z a5, fun x i x0 x1 hk => ?_, Xs, by rw [k.i5]; exact a7, a8⟩
  · rw [sf 0 (by decide) (by decide)]; exact a1.1
  · rw [k.i1] at hj; rw [sf i i0 (by omega), sf j (by omega) (by omega)]; exact a1.2 i j i0 hij hj
  · rw [k.sp, k.sp] at e; exact a2 i j i0 i1 j0 j1 e
  · rw [k.i4] at hi; rw [k.I k.c205]; exact a3 i hi
  · obtain ⟨c0, c1, c2, c3⟩ := hk
    rw [k.i1] at c1 c3
    rw [sf i c0 (by omega)] at c2
    have hk' : sz_at h x i := ⟨c0, c1, c2, fun w => by rw [← sf (i + 1) (by omega) (by omega)]; exact c3 w⟩
    obtain ⟨⟨d1, d2, d3⟩, d4⟩ := a6 x i x0 x1 hk'
    have cf := k.s.C (k.t.2.2.2.2.2.2.1 i c0 c1) rfl
    rw [k.sfp c0 (by omega), k.I cf, k.I cf, k.ss c0 (by omega)]
    refine ⟨⟨d1, ?_, d3⟩, d4⟩
    revert d2
    cases (F x).2 with
    | none => intro d2; show qz_I h' _ 3 = 0; rw [k.I cf]; exact d2
    | some q =>
      rintro ⟨p, p1, p2, p3, p4, p5⟩
      have cp := k.s.C p1 rfl
      exact ⟨p, k.s.T p1 rfl, by rw [k.I cf]; exact p2, by rw [k.I cf]; exact p3, by rw [k.N cp]; exact p4, fun j v hv => by rw [k.I cp]; exact p5 j v hv⟩
theorem cK.Js (k : cK τ h τ' h') (q : sq h) : sq h' := fun i i0 i1 h3 => by
  rw [k.i1] at i1
  have w1 := k.t.2.2.2.2.1
  have cf := k.s.C (k.t.2.2.2.2.2.2.1 i i0 i1) rfl
  rw [k.sfp i0 (by omega)] at h3 ⊢
  rw [k.I cf] at h3
  rw [k.I cf, k.I cf, k.I cf, k.I cf]
  exact q i i0 i1 h3
end RrHalf
/-! The law: what holds between calls, put together anew. -/
theorem pmb_no {t : Nat} (h : pmb t = true) : fz_P t = false ∧ t ≠ 0 ∧ t ≠ 44 ∧ t ≠ 35 ∧ t ≠ 75 := by
  have hlt : t < 29 := Classical.byContradiction fun w => by
    have e : Nat.shiftRight 476028928 t = 0 := by
      show 476028928 >>> t = 0
      rw [Nat.shiftRight_eq_div_pow]
      exact Nat.div_eq_of_lt (Nat.lt_of_lt_of_le (show 476028928 < 2 ^ 29 by decide) (Nat.pow_le_pow_right (by decide) (by omega)))
    unfold pmb at h
    rw [e] at h
    cases h
  have key : ∀ j, j < 29 → pmb j = true → fz_P j = false ∧ j ≠ 0 ∧ j ≠ 44 ∧ j ≠ 35 ∧ j ≠ 75 := by decide
  exact key t hlt h
theorem pcb_no {t : Nat} (h : pcb t = true) : rtb t = false ∧ t ≠ 0 ∧ t ≠ 35 ∧ t ≠ 17 ∧ t ≠ 18 ∧ t ≠ 30 ∧ t ≠ 31 ∧ (t < 19 ∨ 22 < t) := by
  have hlt : t < 52 := Classical.byContradiction fun w => by
    have e : Nat.shiftRight 2814750169759800 t = 0 := by
      show 2814750169759800 >>> t = 0
      rw [Nat.shiftRight_eq_div_pow]
      exact Nat.div_eq_of_lt (Nat.lt_of_lt_of_le (show 2814750169759800 < 2 ^ 52 by decide) (Nat.pow_le_pow_right (by decide) (by omega)))
    unfold pcb at h
    rw [e] at h
    cases h
  have key : ∀ j, j < 52 → pcb j = true → rtb j = false ∧ j ≠ 0 ∧ j ≠ 35 ∧ j ≠ 17 ∧ j ≠ 18 ∧ j ≠ 30 ∧ j ≠ 31 ∧ (j < 19 ∨ 22 < j) := by decide
  exact key t hlt h
theorem rT_of2 {τ : Nat → Nat} {h : cz_H} {F : rz_W} {E : Int → Prop} (hI : jz_I τ h F E) (tl : ∀ i : Nat, (i : Int) < lc h → τ (qz_P h (ls h) i) = 13) (tb : ∀ i : Nat, (i : Int) < cn h → τ (qz_P h (bw h) i) = 13) : rT τ h := by
  have hB := hI.1
  have hX := hI.2.1
  have t770 : τ 770 = 75 := hX 770 (by decide)
  have t202 : τ 202 = 48 := hX 202 (by decide)
  have t203 : τ 203 = 49 := hX 203 (by decide)
  have tt := ez_tls hB t770
  have td := ez_tdb hB t770
  have bn := sz_R_n1 hB t202
  refine ⟨⟨t770, hX 193 (by decide), hX 771 (by decide), t202, t203, hX 205 (by decide), hX 206 (by decide)⟩, fun p p1 p2 => ?_, fun s l hs => nz_hz hB hX s l hs, ⟨tt.2, tt.1, td.1, td.2, ez_tpq hB t770⟩, by omega, fun k k0 k1 => sz_tag hB t203 k0 k1, fun k k0 k1 => ?_, tl, tb⟩
  · have : p = 785 ∨ p = 786 ∨ p = 787 ∨ p = 788 := by omega
    rcases this with e | e | e | e <;> subst e
    · exact hX 785 (by decide)
    · exact hX 786 (by decide)
    · exact hX 787 (by decide)
    · exact hX 788 (by decide)
  · have t4 := sz_tag hB t203 k0 (show k < 513 by omega)
    have b1 : 1 ≤ qz_I h (sz_p h k) 1 ∧ qz_I h (sz_p h k) 1 ≤ 1000000 := ez_fB (cl := 4) hB t4 tq_4 rfl rfl (by decide)
    exact (ez_old (cl := 4) (k := 1) hB t4 tq_4 rfl rfl (by decide) (show qz_I h (sz_p h k) 1 = (sz_fp h k : Int) + 1 by unfold sz_fp qz_P; omega)).1
theorem XP_of {τ : Nat → Nat} {h : cz_H} {F : rz_W} {E : Int → Prop} {Ls : List vz} (t : rT τ h) (c : cJ τ h F E) (m : mJ τ h Ls) (hb : ∀ i : Nat, (i : Int) < cn h → 1 ≤ qz_I h (bw h) i) (hn : cn h ≤ qz_N h (bw h)) (hd : qz_N h (bw h) ≤ qz_N h (dc h)) : qz_XP τ h :=
  ⟨⟨t.1.1, t.1.2.2.2.1, t.1.2.2.2.2.2.1⟩, ⟨t.2.2.2.1.2.1, t.2.2.2.1.1, t.2.2.2.1.2.2.1, t.2.2.2.1.2.2.2.1⟩, c.2.1, m.2.1.1, hb, ⟨m.1.1.1, hn, Int.le_trans hn hd, hd, m.1.1.2⟩, m.2.2.1.1, m.2.2.1.2⟩
theorem X_new {τ : Nat → Nat} {h : cz_H} {Ls : List vz} (hI : jz_I τ h (vF Ls) (vE Ls)) (hM : mI τ h Ls 0) (x2 : qz_X2 τ h) (hb : ∀ i : Nat, (i : Int) < cn h → 1 ≤ qz_I h (bw h) i) (hn : cn h ≤ qz_N h (bw h)) (hd : qz_N h (bw h) ≤ qz_N h (dc h)) (w : uz_wf (vF Ls)) (s6 : qz_I h 202 6 = 0 ↔ qz_I h 770 7 = 0) (s7 : qz_I h 770 7 ≠ 0 → uz_S (vF Ls) (vE Ls) ∧ sq h ∧ eJ τ h (vF Ls) ∧ pP h (vF Ls) ∧ ∀ x, (vF Ls x).2 ≠ none → az (vF Ls) 501 x) (u : qz_I h 206 2 = 0 ∧ qz_I h 206 3 = 0) (p : rP h) (ww : rW τ h Ls) (xx : rXt h) : dz_B tz_T (qz_X rR) τ h :=
  have t := rT_of hI hM hb hn
  ⟨hI.1.1, ⟨hI.2.1, hI.1.2.1, x2, XP_of t hI.2.2 hM.2.2 hb hn hd, Ls, ⟨t, hI.2.2, hM.2.2, w, s6, s7, u, p⟩, ww, xx⟩, hI.1.2.2⟩
theorem X2_tr {τ τ' : Nat → Nat} {h g : cz_H} (x : qz_X2 τ h) (i24 : qz_I g 770 24 = qz_I h 770 24) (i25 : qz_I g 770 25 = qz_I h 770 25) (i35 : qz_I g 770 35 = qz_I h 770 35) (i36 : qz_I g 770 36 = qz_I h 770 36) (t : ∀ q, (τ q = 21 ∨ τ q = 23) → τ' q = τ q ∧ g.2.2 q = h.2.2 q) : qz_X2 τ' g := by
  obtain ⟨⟨y1, y2⟩, y3, y4⟩ := x
  have e1 : qz_P g 770 24 = qz_P h 770 24 := by unfold qz_P; rw [i24]
  have e2 : qz_P g 770 35 = qz_P h 770 35 := by unfold qz_P; rw [i35]
  obtain ⟨a1, a2⟩ := t _ (Or.inl y1)
  obtain ⟨b1, b2⟩ := t _ (Or.inr y3)
  have c1 : qz_N g (qz_P h 770 24) = qz_N h (qz_P h 770 24) := by unfold qz_N; rw [a2]
  have c2 : qz_N g (qz_P h 770 35) = qz_N h (qz_P h 770 35) := by unfold qz_N; rw [b2]
  exact ⟨⟨by rw [e1, a1]; exact y1, by rw [e1, c1, i25]; exact y2⟩, by rw [e2, b1]; exact y3, by rw [e2, c2, i36]; exact y4⟩
theorem ne_tag {τ : Nat → Nat} (hX : jz_X τ) {q t : Nat} (hq : τ q = t) (p : Nat) (h : (!(Nat.beq (tz_ex p) 0) && !(Nat.beq (tz_ex p) t)) = true) : q ≠ p := fun e => by
  rw [Bool.and_eq_true, Bool.not_eq_true', Bool.not_eq_true'] at h
  have h0 : tz_ex p ≠ 0 := fun w => by rw [w] at h; cases h.1
  rw [e, hX p h0] at hq
  rw [hq, Nat.beq_refl] at h
  cases h.2
section LnX
variable {τ τ1 τ3 : Nat → Nat} {h g1 g2 g3 : cz_H} {F2 : rz_W} {E2 : Int → Prop} {Ls Ls2 : List vz} {a b : Nat}
theorem ln_C (x : fz τ (dz_put h 192 1 (ez_v (.inl 0))) τ1 g1 a b) (o : ∀ q, q ≠ 805 → g2.2.2 q = g1.2.2 q) : ∀ q, τ q ≠ 0 → τ1 q = τ q ∧ (fz_P (τ q) = false → q ≠ 192 → q ≠ 805 → g2.2.2 q = h.2.2 q) := fun q h0 => ⟨(x.1 q h0).1, fun h1 h2 h3 => by rw [o q h3, (x.1 q h0).2 h1, qz_put_at _ _ _ _ h2]⟩
theorem ln_m2 (hX : jz_X τ) (c : ∀ q, τ q ≠ 0 → τ1 q = τ q ∧ (fz_P (τ q) = false → q ≠ 192 → q ≠ 805 → g2.2.2 q = h.2.2 q)) : mk2 τ h (rtg τ τ1) g2 := by
  refine ⟨fun r hr => ?_, fun r hr => ?_, fun j _ => ?_⟩
  · obtain ⟨k1, k2, k3, k4, -⟩ := pmb_no hr
    exact ⟨(rtg_old k2).trans (c r k2).1, (c r k2).2 k1 (fun e => by rw [e, hX 192 (by decide)] at k3; exact k3 rfl) (fun e => by rw [e, hX 805 (by decide)] at k4; exact k4 rfl)⟩
  · have hb : rtb (rtg τ τ1 r) = true := by rcases hr with e | e <;> (rw [e]; rfl)
    have h0 : rtg τ τ1 r ≠ 0 := by rcases hr with e | e <;> (rw [e]; decide)
    obtain ⟨e1, e2⟩ := rtg_of h0
    rcases e2 with e2 | e2
    · rw [e1, (c r e2).1]
    · rw [e1, e2] at hb; cases hb
  · unfold qz_I; rw [(c 770 (by rw [hX 770 (by decide)]; decide)).2 (by rw [hX 770 (by decide)]; rfl) (by decide) (by decide)]
theorem ln_X {τ τ1 : Nat → Nat} (hX : jz_X τ) (c : ∀ q, τ q ≠ 0 → τ1 q = τ q) : jz_X (rtg τ τ1) := fun r hr => by
  have h0 : τ r ≠ 0 := by rw [hX r hr]; exact hr
  rw [rtg_old h0, c r h0, hX r hr]
theorem ln_A (hX : jz_X τ) (hB : ez_B τ h) (t : rT τ h) (m : mJ τ h Ls) (hI : jz_I τ1 g1 F2 E2) (x : fz τ (dz_put h 192 1 (ez_v (.inl 0))) τ1 g1 a b) (o : ∀ q, q ≠ 805 → g2.2.2 q = g1.2.2 q) (hB2 : ez_B τ1 g2) : ez_B (rtg τ τ1) g2 ∧ jz_X (rtg τ τ1) ∧ mJ (rtg τ τ1) g2 Ls ∧ cJ (rtg τ τ1) g2 F2 E2 := by
  have c := ln_C x o
  have B2 := rtg_B hX hB hB2 c
  have m2 : mJ (rtg τ τ1) g2 Ls := mK.Jm ⟨ln_m2 hX c, t⟩ m
  have c1 : ∀ q, τ q ≠ 0 → fz_P (τ q) = false → q ≠ 192 → g1.2.2 q = h.2.2 q := fun q h0 h1 h2 => by rw [(x.1 q h0).2 h1, qz_put_at _ _ _ _ h2]
  have i7 : ∀ j, qz_I g1 770 j = qz_I h 770 j := fun j => by unfold qz_I; rw [c1 770 (by rw [hX 770 (by decide)]; decide) (by rw [hX 770 (by decide)]; rfl) (by decide)]
  have tls := t.2.2.2.1.2.1
  have tbw := t.2.2.2.1.2.2.2.1
  have els : ls g1 = ls h := by unfold ls qz_P; rw [i7]
  have ebw : bw g1 = bw h := by unfold bw qz_P; rw [i7]
  have cls : g1.2.2 (ls h) = h.2.2 (ls h) := c1 _ (by rw [tls]; decide) (by rw [tls]; rfl) (ne_tag hX tls 192 rfl)
  have cbw : g1.2.2 (bw h) = h.2.2 (bw h) := c1 _ (by rw [tbw]; decide) (by rw [tbw]; rfl) (ne_tag hX tbw 192 rfl)
  have t1 : rT τ1 g1 := rT_of2 hI (fun i hi => by
    have hi' : (i : Int) < lc h := by unfold lc at hi ⊢; rw [← i7]; exact hi
    have e : qz_P g1 (ls g1) i = qz_P h (ls h) i := by rw [els]; unfold qz_P qz_I; rw [cls]
    have tt := t.2.2.2.2.2.2.2.1 i hi'
    rw [e, (x.1 _ (by rw [tt]; decide)).1, tt]) (fun i hi => by
    have hi' : (i : Int) < cn h := by unfold cn at hi ⊢; rw [← i7]; exact hi
    have e : qz_P g1 (bw g1) i = qz_P h (bw h) i := by rw [ebw]; unfold qz_P qz_I; rw [cbw]
    have tt := t.2.2.2.2.2.2.2.2 i hi'
    rw [e, (x.1 _ (by rw [tt]; decide)).1, tt])
  have k : ck2 τ1 g1 (rtg τ τ1) g2 := by
    refine ⟨fun r hr => ?_, ?_⟩
    · obtain ⟨r1, r2, r3, -⟩ := pcb_no hr
      exact ⟨rtg_nb r1, o r (fun e => by rw [e, hI.2.1 805 (by decide)] at r3; exact r3 rfl)⟩
    · unfold qz_I; rw [o 202 (by decide)]; exact ⟨rfl, rfl, rfl⟩
  exact ⟨B2, ln_X hX (fun q h0 => (c q h0).1), m2, cK.Jc ⟨k, t1⟩ hI.2.2⟩
theorem ln_c2 {τ : Nat → Nat} {e : Int} (hX : jz_X τ) (w : fw τ g2 τ3 g3 e) : ck2 τ g2 τ3 g3 := by
  refine ⟨fun r hr => ?_, ?_⟩
  · obtain ⟨k1, k0, k35, k17, k18, k30, k31, -⟩ := pcb_no hr
    have ne : ∀ p, tz_ex p ≠ 0 → pcb (tz_ex p) = false → r ≠ p := fun p h1 h2 e => by rw [e, hX p h1, h2] at hr; cases hr
    exact ⟨(w.1 r k0).1, (w.1 r k0).2 (ne 770 (by decide) (by decide)) (ne 789 (by decide) (by decide)) (ne 790 (by decide) (by decide)) k17 k18 k30 k31⟩
  · have t : τ 202 = 48 := hX 202 (by decide)
    unfold qz_I
    rw [(w.1 202 (by rw [t]; decide)).2 (by decide) (by decide) (by decide) (by rw [t]; decide) (by rw [t]; decide) (by rw [t]; decide) (by rw [t]; decide)]
    exact ⟨rfl, rfl, rfl⟩
theorem ln_B {n kind e : Int} (hb : dz_B tz_T (qz_X rR) τ h) (t : rT τ h) (m : mJ τ h Ls) (w : uz_wf (vF Ls)) (u : qz_I h 206 2 = 0 ∧ qz_I h 206 3 = 0) (p : rP h) (hn : qz_I h 770 2 = n) (s6 : qz_I h 202 6 = 0) (s7 : qz_I h 770 7 = 0) (hI : jz_I τ1 g1 F2 E2) (x : fz τ (dz_put h 192 1 (ez_v (.inl 0))) τ1 g1 a b) (st : rz_step (rz_b h) n kind (vF Ls) (vE Ls) F2 E2) (j2 : ∀ j, j ≠ 1 → j ≠ 4 → j ≠ 5 → qz_I g1 202 j = qz_I h 202 j) (o : ∀ q, q ≠ 805 → g2.2.2 q = g1.2.2 q) (hB2 : ez_B τ1 g2) (hM : mI τ3 g3 Ls2 0) (f : fw (rtg τ τ1) g2 τ3 g3 e) (st2 : rz_step (mb g2) (qz_I g2 770 2) kind (vF Ls) (vE Ls) (vF Ls2) (vE Ls2)) (ww : rW τ h Ls) (xx : rXt h) (hj : jx τ1 g1 (yD Ls2)) (dk : dok (yD Ls2)) : dz_B tz_T (qz_X rR) τ3 g3 := by
  have hB := dz_ezB hb
  have hX := hb.2.1.1
  have hXP := hb.2.1.2.2.2.1
  have c := ln_C x o
  obtain ⟨B2, x2, m2, c2⟩ := ln_A hX hB t m hI x o hB2
  have t770 := hX 770 (by decide)
  have cel : ∀ q tg, τ q = tg → (!(Nat.beq tg 0) && (!(fz_P tg) && (!(Nat.beq tg 44) && !(Nat.beq tg 35)))) = true → g2.2.2 q = h.2.2 q := fun q tg hq ht => by
    simp only [Bool.and_eq_true, Bool.not_eq_true'] at ht
    exact (c q (fun e => by rw [← hq, e] at ht; cases ht.1)).2 (by rw [hq]; exact ht.2.1) (fun e => by rw [e, hX 192 (by decide)] at hq; rw [← hq] at ht; cases ht.2.2.1) (fun e => by rw [e, hX 805 (by decide)] at hq; rw [← hq] at ht; cases ht.2.2.2)
  have cel3 : ∀ q tg, τ q = tg → (!(Nat.beq tg 0) && ((!(fz_P tg) && (!(Nat.beq tg 44) && !(Nat.beq tg 35))) && ((!(Nat.beq tg 75) && (!(Nat.beq tg (tz_ex 789)) && !(Nat.beq tg (tz_ex 790)))) && ((!(Nat.beq tg 17) && !(Nat.beq tg 18)) && (!(Nat.beq tg 30) && !(Nat.beq tg 31)))))) = true → τ3 q = τ q ∧ g3.2.2 q = h.2.2 q := fun q tg hq ht => by
    simp only [Bool.and_eq_true, Bool.not_eq_true'] at ht
    obtain ⟨h0, ⟨h1, h2, h3⟩, ⟨h4, h5, h6⟩, ⟨h7, h8⟩, h9, h10⟩ := ht
    have q0 : τ q ≠ 0 := fun e => by rw [← hq, e] at h0; cases h0
    have er : rtg τ τ1 q = τ q := (rtg_old q0).trans (c q q0).1
    have nb : ∀ k, Nat.beq tg k = false → rtg τ τ1 q ≠ k := fun k hk e => by rw [er, hq] at e; rw [e, Nat.beq_refl] at hk; cases hk
    have np : ∀ p, tz_ex p ≠ 0 → Nat.beq tg (tz_ex p) = false → q ≠ p := fun p h1 h2 e => by rw [e, hX p h1] at hq; rw [hq, Nat.beq_refl] at h2; cases h2
    have f1 := f.1 q (by rw [er]; exact q0)
    refine ⟨f1.1.trans er, ?_⟩
    rw [f1.2 (np 770 (by decide) h4) (np 789 (by decide) h5) (np 790 (by decide) h6) (nb 17 h7) (nb 18 h8) (nb 30 h9) (nb 31 h10)]
    exact cel q tg hq (by simp only [Bool.and_eq_true, Bool.not_eq_true']; exact ⟨h0, h1, h2, h3⟩)
  have j7 : ∀ j, qz_I g2 770 j = qz_I h 770 j := fun j => by unfold qz_I; rw [cel 770 75 t770 rfl]
  have i7 : ∀ j, j ≠ 0 → j ≠ 2 → (j < 8 ∨ 12 < j) → j ≠ 17 → j ≠ 18 → qz_I g3 770 j = qz_I h 770 j := fun j h1 h2 h3 h4 h5 => by rw [f.2.2.1 j h1 h2 h3 h4 h5, j7]
  have eb : mb g2 = rz_b h := funext fun i => by
    show qz_I g2 771 i.toNat = qz_I h 193 i.toNat
    rw [p]; unfold qz_I; rw [cel 771 76 (hX 771 (by decide)) rfl]
  rw [eb, j7, hn] at st2
  obtain ⟨e1, e2⟩ := rz_step_uniq st st2
  subst e1 e2
  have tbw := t.2.2.2.1.2.2.2.1
  have tdc := t.2.2.2.1.2.2.1
  obtain ⟨k3, k3c⟩ := cel3 (bw h) 20 tbw rfl
  obtain ⟨-, k4c⟩ := cel3 (dc h) 19 tdc rfl
  have ebw : bw g3 = bw h := by unfold bw qz_P; rw [i7 22 (by decide) (by decide) (by decide) (by decide) (by decide)]
  have edc : dc g3 = dc h := by unfold dc qz_P; rw [i7 21 (by decide) (by decide) (by decide) (by decide) (by decide)]
  have ecn : cn g3 = cn h := i7 23 (by decide) (by decide) (by decide) (by decide) (by decide)
  have ebw2 : bw g2 = bw h := by unfold bw qz_P; rw [j7]
  have ecn2 : cn g2 = cn h := j7 23
  have cbw2 : g2.2.2 (bw h) = h.2.2 (bw h) := cel (bw h) 20 tbw rfl
  obtain ⟨-, -, -, -, p3, ⟨-, p5, -, p6, -⟩, -⟩ := hXP
  have t2 : rT (rtg τ τ1) g2 := rT_of ⟨B2, x2, c2⟩ ⟨B2, x2, m2⟩ (fun i hi => by rw [ecn2] at hi; rw [ebw2]; unfold qz_I; rw [cbw2]; exact p3 i hi) (by rw [ecn2, ebw2]; unfold qz_N; rw [cbw2]; exact p5)
  have c3 : cJ τ3 g3 (vF Ls2) (vE Ls2) := cK.Jc ⟨ln_c2 x2 f, t2⟩ c2
  have c202 : g3.2.2 202 = g2.2.2 202 := by
    have t : rtg τ τ1 202 = 48 := x2 202 (by decide)
    exact (f.1 202 (by rw [t]; decide)).2 (by decide) (by decide) (by decide) (by rw [t]; decide) (by rw [t]; decide) (by rw [t]; decide) (by rw [t]; decide)
  have i6 : qz_I g3 202 6 = 0 := by
    rw [show qz_I g3 202 6 = qz_I g2 202 6 by unfold qz_I; rw [c202], show qz_I g2 202 6 = qz_I g1 202 6 by unfold qz_I; rw [o 202 (by decide)], j2 6 (by decide) (by decide) (by decide)]; exact s6
  have i77 : qz_I g3 770 7 = 0 := by rw [i7 7 (by decide) (by decide) (by decide) (by decide) (by decide)]; exact s7
  have c206 := (cel3 206 3 (hX 206 (by decide)) rfl).2
  have c193 := (cel3 193 45 (hX 193 (by decide)) rfl).2
  have c771 := (cel3 771 76 (hX 771 (by decide)) rfl).2
  refine X_new ⟨hM.1, hM.2.1, c3⟩ hM (X2_tr hb.2.1.2.2.1 (i7 24 (by decide) (by decide) (by decide) (by decide) (by decide)) (i7 25 (by decide) (by decide) (by decide) (by decide) (by decide)) (i7 35 (by decide) (by decide) (by decide) (by decide) (by decide)) (i7 36 (by decide) (by decide) (by decide) (by decide) (by decide)) (fun q hq => by rcases hq with e | e <;> exact cel3 q _ e rfl)) (fun i hi => ?_) ?_ ?_ (uz_wf_step w st) ⟨fun _ => i77, fun _ => i6⟩ (fun z => absurd i77 z) ?_ (fun j => ?_) ?_ ?_
  · rw [ecn] at hi; rw [ebw]; unfold qz_I; rw [k3c]; exact p3 i hi
  · rw [ecn, ebw]; unfold qz_N; rw [k3c]; exact p5
  · rw [ebw, edc]; unfold qz_N; rw [k3c, k4c]; exact p6
  · unfold qz_I; rw [c206]; exact u
  · unfold qz_I; rw [c193, c771]; exact p j
  · have k4 : ∀ q, τ1 q = 3 ∨ τ1 q = 4 ∨ τ1 q = 5 ∨ τ1 q = 6 → τ3 q = τ1 q ∧ g3.2.2 q = g1.2.2 q := fun q hq => by
      have rb : rtb (τ1 q) = false := by rcases hq with e | e | e | e <;> (rw [e]; rfl)
      have er : rtg τ τ1 q = τ1 q := rtg_nb rb
      have ne : ∀ p, tz_ex p ≠ 0 → (tz_ex p < 3 ∨ 6 < tz_ex p) → q ≠ p := fun p h1 h2 e => by rw [e, hI.2.1 p h1] at hq; omega
      have f1 := f.1 q (by rw [er]; omega)
      refine ⟨f1.1.trans er, ?_⟩
      rw [f1.2 (ne 770 (by decide) (by decide)) (ne 789 (by decide) (by decide)) (ne 790 (by decide) (by decide)) (by rw [er]; omega) (by rw [er]; omega) (by rw [er]; omega) (by rw [er]; omega)]
      exact o q (ne 805 (by decide) (by decide))
    refine ⟨rU_of hM.2.1, ww.2.1.k (cel3 195 47 (hX 195 (by decide)) rfl).2 (cel3 773 78 (hX 773 (by decide)) rfl).2, jx_tr hI.1 (hI.2.1 202 (by decide)) (hI.2.1 203 (by decide)) hj ?_ ?_ k4, dk, fun z => absurd i77 z, ?_⟩
    · rw [show qz_I g3 202 1 = qz_I g2 202 1 by unfold qz_I; rw [c202]]; unfold qz_I; rw [o 202 (by decide)]
    · have t9 : rtg τ τ1 203 = 49 := x2 203 (by decide)
      rw [(f.1 203 (by rw [t9]; decide)).2 (by decide) (by decide) (by decide) (by rw [t9]; decide) (by rw [t9]; decide) (by rw [t9]; decide) (by rw [t9]; decide), o 203 (by decide)]
    · unfold qz_I; rw [c206]; exact ww.2.2.2.2.2
  · exact rX_t ww.1 xx (fun q hq => by rcases hq with e | e | e | e <;> exact (cel3 q _ e rfl).2)
end LnX
/-! The law: the cases that only ask, from what holds between calls into the pieces and back. (Written by wip/p2/py/gen_a4.py.) -/
def gel (h : cz_H) : Nat := qz_P h 770 35
def gfo (h : cz_H) : Nat := qz_P h 770 38
def got (h : cz_H) : Nat := qz_P h 770 39
def gke (h : cz_H) : Nat := qz_P h 770 40
/-- room, less what the arrays that grow have had -/
def psi (h : cz_H) : Int := (h.2.1 : Int) - 2 * qz_N h (po h) - 2 * qz_N h (ls h) - 4 * qz_N h (bw h) - 2 * qz_N h (sk h) - 2 * qz_N h (gel h) - 2 * qz_N h (gfo h) - 2 * qz_N h (got h) - 2 * qz_N h (gke h)
def phc (h : cz_H) : Int := 64 * (h.1 : Int) - qz_N h (po h) - qz_N h (ls h) - 2 * qz_N h (bw h) - qz_N h (sk h) - qz_N h (gel h) - qz_N h (gfo h) - qz_N h (got h) - qz_N h (gke h)
theorem ez_tg5 {τ : Nat → Nat} {h : cz_H} (hB : ez_B τ h) (t770 : τ 770 = 75) : (qz_I h 770 24 = (sk h : Int) + 1 ∧ qz_I h 770 35 = (gel h : Int) + 1 ∧ qz_I h 770 38 = (gfo h : Int) + 1 ∧ qz_I h 770 39 = (got h : Int) + 1 ∧ qz_I h 770 40 = (gke h : Int) + 1) ∧ τ (sk h) = 21 ∧ τ (gel h) = 23 ∧ τ (gfo h) = 24 ∧ τ (got h) = 25 ∧ τ (gke h) = 25 := by
  have b24 : 1 ≤ qz_I h 770 24 ∧ qz_I h 770 24 ≤ 1000000 := ez_fB (cl := 11) hB t770 tq_75 rfl rfl (by decide)
  have e24 : qz_I h 770 24 = (sk h : Int) + 1 := by unfold sk qz_P; omega
  have b35 : 1 ≤ qz_I h 770 35 ∧ qz_I h 770 35 ≤ 1000000 := ez_fB (cl := 11) hB t770 tq_75 rfl rfl (by decide)
  have e35 : qz_I h 770 35 = (gel h : Int) + 1 := by unfold gel qz_P; omega
  have b38 : 1 ≤ qz_I h 770 38 ∧ qz_I h 770 38 ≤ 1000000 := ez_fB (cl := 11) hB t770 tq_75 rfl rfl (by decide)
  have e38 : qz_I h 770 38 = (gfo h : Int) + 1 := by unfold gfo qz_P; omega
  have b39 : 1 ≤ qz_I h 770 39 ∧ qz_I h 770 39 ≤ 1000000 := ez_fB (cl := 11) hB t770 tq_75 rfl rfl (by decide)
  have e39 : qz_I h 770 39 = (got h : Int) + 1 := by unfold got qz_P; omega
  have b40 : 1 ≤ qz_I h 770 40 ∧ qz_I h 770 40 ≤ 1000000 := ez_fB (cl := 11) hB t770 tq_75 rfl rfl (by decide)
  have e40 : qz_I h 770 40 = (gke h : Int) + 1 := by unfold gke qz_P; omega
  exact ⟨⟨e24, e35, e38, e39, e40⟩, (ez_old (cl := 11) (k := 24) hB t770 tq_75 rfl rfl (by decide) e24).1, (ez_old (cl := 11) (k := 35) hB t770 tq_75 rfl rfl (by decide) e35).1, (ez_old (cl := 11) (k := 38) hB t770 tq_75 rfl rfl (by decide) e38).1, (ez_old (cl := 11) (k := 39) hB t770 tq_75 rfl rfl (by decide) e39).1, (ez_old (cl := 11) (k := 40) hB t770 tq_75 rfl rfl (by decide) e40).1⟩
theorem mo_i {n : Nat} {ρ : Nat → Int} {τ : Nat → Nat} {h : cz_H} {r t i cl v : Nat} {ti : dz_I} {lo hi : Int} {tg md : Nat} (hB : ez_B τ h) (ht : τ r = t) (t0 : t ≠ 0) (hti : tz_T t = some ti) (hk : (Nat.beq ti.1 0 && Nat.beq ti.2.1 cl) = true) (hD : dz_nth ti.2.2.2.2 i = some (0, lo, hi, tg, md)) (hv : v < n) (he : ρ v = qz_I h r i) : dz_mo n ρ τ h (((r : Int) + 1, []), t, ((i : Int), []), (0, dz_var v, 0)) := by
  obtain ⟨vs, w, -, -, g1, g2, -⟩ := ez_fld (cl := cl) (k := i) hB ht hti hk hD
  have kw : dz_k w = 0 := by
    have := g2.1
    rcases w with a | a | a
    · rfl
    · cases this
    · cases this
  exact ⟨r, i, w, dz_c1, ⟨ht, t0⟩, dz_c1, g1, kw, dz_v1 hv (by rw [he]; unfold qz_I; rw [g1]), fun r' hr => by rw [hr] at kw; cases kw⟩
theorem mo_r {n : Nat} {ρ : Nat → Int} {τ : Nat → Nat} {h : cz_H} {r t i cl v : Nat} {ti : dz_I} {lo hi : Int} {tg md : Nat} (hB : ez_B τ h) (ht : τ r = t) (t0 : t ≠ 0) (hti : tz_T t = some ti) (hk : (Nat.beq ti.1 0 && Nat.beq ti.2.1 cl) = true) (hD : dz_nth ti.2.2.2.2 i = some (3, lo, hi, tg, md)) (hm : md ≠ 2) (hv : v < n) (he : ρ v = qz_I h r i) : dz_mo n ρ τ h (((r : Int) + 1, []), t, ((i : Int), []), (3, dz_var v, tg)) := by
  obtain ⟨vs, w, -, -, g1, g2, -⟩ := ez_fld (cl := cl) (k := i) hB ht hti hk hD
  have kw : dz_k w = 3 := by
    have := g2.1
    rcases w with a | a | a
    · cases this
    · cases this
    · rfl
  exact ⟨r, i, w, dz_c1, ⟨ht, t0⟩, dz_c1, g1, kw, dz_v1 hv (by rw [he]; unfold qz_I; rw [g1]), g2.2.2.1.resolve_left hm⟩
theorem ko_f {n : Nat} {ρ : Nat → Int} {τ : Nat → Nat} {h : cz_H} {r t b s u : Nat} {ti : dz_I} {D : dz_D} {e : dz_E} (hB : ez_B τ h) (ht : τ r = t) (t0 : t ≠ 0) (hti : tz_T t = some ti) (hk : (Nat.beq ti.1 1 && Nat.blt ti.2.1 11) = true) (hD : dz_nth ti.2.2.2.2 0 = some D) (he : dz_ok n ρ e ((r : Int) + 1)) (hb : b < n) (hs : s < n) (hu : u < n) (eb : ρ b = qz_N h r) (es : ρ s = 0) (eu : ρ u = 0) : dz_ko n ρ τ h (e, t, dz_var b, dz_var s, dz_var u, (1, []), (1000000, [])) := by
  obtain ⟨m, f, -, o2, o3, -⟩ := ez_arr hB ht hti hk hD
  exact ⟨r, (ti.2.1, m, f), 0, 0, 1, 1000000, he, ⟨ht, t0⟩, o2, dz_v1 hb (by rw [eb, o3]), dz_v1 hs es, dz_v1 hu eu, dz_c1, dz_c1, fun i h1 h2 => absurd h2 (by omega)⟩
theorem ko_N {n : Nat} {ρ : Nat → Int} {τ : Nat → Nat} {h : cz_H} {a b t j : Nat} {s u lo hi : dz_E} (k : dz_ko n ρ τ h (dz_var a, t, dz_var b, s, u, lo, hi)) (e : qz_I h 770 j = 0 + (1 * ρ a + 0)) : qz_N h (qz_P h 770 j) = ρ b := by
  obtain ⟨r, q, s', u', lo', hi', h1, -, h3, h4, -⟩ := k
  have e1 : (0 : Int) + (1 * ρ a + 0) = (r : Int) + 1 := h1.2
  have e2 : (0 : Int) + (1 * ρ b + 0) = (q.2.1 : Int) := h4.2
  have e3 : qz_P h 770 j = r := by unfold qz_P; omega
  rw [e3]
  unfold qz_N
  rw [h3]
  show (q.2.1 : Int) = ρ b
  omega
theorem gm_le {n : Nat} {ρ : Nat → Int} {e : dz_E} (h : ∃ x, 0 ≤ x ∧ dz_ok n ρ e x) : 0 ≤ e.1 + dz_ev ρ e.2 := by
  obtain ⟨x, h1, h2⟩ := h
  rw [h2.2]
  exact h1
def lwS : dz_Sp := (0, 18, (0, [((2, 0, 3, 34), (1, []), (0, []), (0, [])), ((2, 1, 3, 44), (193, []), (0, []), (0, [])), ((2, 2, 3, 75), (771, []), (0, []), (0, [])), ((2, 3, 3, 35), (806, []), (0, []), (0, [])), ((0, 4, 0, 0), (0, []), (0, []), (0, [])), ((4, 34, 0, 0), (1, []), (1, []), (1000000, [])), ((1, 0, 0, 44), (193, []), (1, []), (0, [])), ((3, 0, 0, 75), (771, []), (2, []), (0, [(6, 1)])), ((1, 0, 0, 48), (203, []), (5, []), (0, [])), ((1, 0, 0, 75), (771, []), (12, []), (0, [])), ((1, 3, 21, 75), (771, []), (24, []), (0, [])), ((4, 21, 0, 0), (0, [(9, 1)]), (1, []), (1000000, [])), ((1, 3, 23, 75), (771, []), (35, []), (0, [])), ((4, 23, 0, 0), (0, [(13, 1)]), (1, []), (1000000, [])), ((1, 3, 24, 75), (771, []), (38, []), (0, [])), ((4, 24, 0, 0), (0, [(17, 1)]), (1, []), (1000000, [])), ((1, 3, 25, 75), (771, []), (39, []), (0, [])), ((4, 25, 0, 0), (0, [(21, 1)]), (1, []), (1000000, [])), ((1, 3, 25, 75), (771, []), (40, []), (0, [])), ((4, 25, 0, 0), (0, [(25, 1)]), (1, []), (1000000, []))], [(-192, [(0, 1)]), (500000, [(0, -1)]), (0, [(1, 1)]), (0, [(2, 1)]), (4000, [(2, -1)]), (-6, [(2, -1), (3, 1)]), (100000, [(3, -1)]), (0, [(6, 1)]), (4096, [(6, -1)]), (0, [(7, 1)]), (0, [(8, 1)]), (256, [(7, -1)]), (512, [(8, -1)]), (-1, [(9, 1)]), (1000000, [(9, -1)]), (-64, [(10, 1)]), (18700, [(10, -1)]), (-1, [(13, 1)]), (1000000, [(13, -1)]), (-1024, [(14, 1)]), (300000, [(14, -1)]), (-1, [(17, 1)]), (1000000, [(17, -1)]), (-1024, [(18, 1)]), (200000, [(18, -1)]), (-1, [(21, 1)]), (1000000, [(21, -1)]), (-1024, [(22, 1)]), (600100, [(22, -1)]), (-1, [(25, 1)]), (1000000, [(25, -1)]), (-1024, [(26, 1)]), (600100, [(26, -1)]), (1029900, [(1, -1), (10, 2), (14, 2), (18, 2), (22, 2), (26, 2)])]), [], [(1, 2), (2, 0), (10, 6), (10, 7), (10, 8), (11, 0), (12, 0), (21, 0), (23, 0), (24, 0), (25, 0), (35, 1), (44, 2), (44, 4), (46, 0), (62, 0), (63, 0), (64, 0), (65, 6), (65, 7), (66, 0), (67, 0), (68, 0), (69, 0), (75, 1), (75, 3), (75, 5), (75, 25), (75, 26), (75, 31), (75, 34), (75, 36), (75, 37), (75, 39), (75, 40), (75, 41), (75, 42), (77, 0), (82, 0), (83, 0), (84, 0), (85, 0), (86, 0), (87, 0), (87, 1), (87, 2), (87, 3)])
theorem lws_eq : dy_rd dy_rSp lws = lwS := @of_decide_eq_true _ (dzSp_d _ _) (by decide +kernel)
def lwC : List dz_Cu := [(1213, (29, [((2, 0, 3, 34), (1, []), (0, []), (0, [])), ((2, 1, 3, 44), (193, []), (0, []), (0, [])), ((2, 2, 3, 75), (771, []), (0, []), (0, [])), ((2, 3, 3, 35), (806, []), (0, []), (0, [])), ((2, 4, 0, 0), (0, [(2, 1)]), (0, []), (0, [])), ((1, 0, 0, 44), (193, []), (1, []), (0, [])), ((1, 0, 0, 75), (771, []), (2, []), (0, [])), ((3, 0, 0, 48), (203, []), (5, []), (0, [(7, 1)])), ((3, 0, 0, 75), (771, []), (12, []), (0, [(8, 1)])), ((1, 3, 21, 75), (771, []), (24, []), (0, [])), ((4, 21, 0, 0), (0, [(33, 1)]), (1, []), (1000000, [])), ((1, 3, 23, 75), (771, []), (35, []), (0, [])), ((4, 23, 0, 0), (0, [(37, 1)]), (1, []), (1000000, [])), ((1, 3, 24, 75), (771, []), (38, []), (0, [])), ((4, 24, 0, 0), (0, [(41, 1)]), (1, []), (1000000, [])), ((1, 3, 25, 75), (771, []), (39, []), (0, [])), ((4, 25, 0, 0), (0, [(45, 1)]), (1, []), (1000000, [])), ((1, 3, 25, 75), (771, []), (40, []), (0, [])), ((4, 25, 0, 0), (0, [(49, 1)]), (1, []), (1000000, []))], [(0, [(31, 1)]), (0, [(6, 1), (31, -1)]), (0, [(31, -1), (32, 1)]), (0, [(31, 1), (32, -1)]), (0, [(0, -1), (29, 1)]), (0, [(1, -1), (30, 1)]), (18, [(1, 1), (10, -2), (14, -2), (18, -2), (22, -2), (26, -2), (30, -1), (34, 2), (38, 2), (42, 2), (46, 2), (50, 2)]), (256, [(0, 64), (10, -1), (14, -1), (18, -1), (22, -1), (26, -1), (29, -64), (34, 1), (38, 1), (42, 1), (46, 1), (50, 1)])]), (0, []))]
def dzCu_d : DecidableEq (List dz_Cu) := @instDecidableEqList dz_Cu (@instDecidableEqProd Nat (dz_Tp × dz_E) _ (@instDecidableEqProd dz_Tp dz_E dzTp_d dzE_d))
theorem lwc_eq : dy_rd dy_rCu lwc = lwC := @of_decide_eq_true _ (dzCu_d _ _) (by decide +kernel)
def lwR (h : cz_H) (i : Int) : Nat → Int := fun n => ([(h.1 : Int), (h.2.1 : Int), i, qz_N h 0, 0, 0, qz_I h 192 1, qz_I h 202 5, qz_I h 770 12, qz_I h 770 24, qz_N h (sk h), 0, 0, qz_I h 770 35, qz_N h (gel h), 0, 0, qz_I h 770 38, qz_N h (gfo h), 0, 0, qz_I h 770 39, qz_N h (got h), 0, 0, qz_I h 770 40, qz_N h (gke h), 0, 0] : List Int).getD n 0
theorem lw_G {τ : Nat → Nat} {h : cz_H} {i : Int} (hb : dz_B tz_T (qz_X rR) τ h) (i0 : 0 ≤ i) (i1 : i + 6 ≤ qz_N h 0) (i2 : i ≤ 4000) (hn : qz_I h 192 1 = qz_I h 770 2) (hc : h.1 ≤ 500000) (hs : (h.2.1 : Int) ≤ 1029900 + 2 * qz_N h (sk h) + 2 * qz_N h (gel h) + 2 * qz_N h (gfo h) + 2 * qz_N h (got h) + 2 * qz_N h (gke h)) : dz_G tz_T (qz_X rR) (dz_ini lwS.2.2.1) (lwR h i) τ h (ez_L [(4, .inl i), (0, .inr (.inr (some 0))), (1, .inr (.inr (some 192))), (2, .inr (.inr (some 770))), (3, .inr (.inr (some 805)))]) [] := by
  have hB := dz_ezB hb
  have hX := hb.2.1.1
  have t0 : τ 0 = 34 := hX 0 (by decide)
  have t192 : τ 192 = 44 := hX 192 (by decide)
  have t202 : τ 202 = 48 := hX 202 (by decide)
  have t770 : τ 770 = 75 := hX 770 (by decide)
  have t805 : τ 805 = 35 := hX 805 (by decide)
  obtain ⟨⟨p24, p35, p38, p39, p40⟩, t24, t35, t38, t39, t40⟩ := ez_tg5 hB t770
  have h192 := hb.2.2
  have b1 : 0 ≤ qz_I h 192 1 ∧ qz_I h 192 1 ≤ 4096 := ez_fB (cl := 0) hB t192 tq_44 rfl rfl (by decide)
  have b5 : 0 ≤ qz_I h 202 5 ∧ qz_I h 202 5 ≤ 256 := ez_fB (cl := 2) hB t202 tq_48 rfl rfl (by decide)
  have b12 : 0 ≤ qz_I h 770 12 ∧ qz_I h 770 12 ≤ 512 := ez_fB (cl := 11) hB t770 tq_75 rfl rfl (by decide)
  obtain ⟨m0, f0, -, -, -, n0, -⟩ := ez_arr hB t0 tq_34 rfl rfl
  have n0 : 0 ≤ qz_N h 0 ∧ qz_N h 0 ≤ 3072 := n0
  have b24 : 1 ≤ qz_I h 770 24 ∧ qz_I h 770 24 ≤ 1000000 := ez_fB (cl := 11) hB t770 tq_75 rfl rfl (by decide)
  obtain ⟨m24, f24, -, -, -, n24, -⟩ := ez_arr hB t24 tq_21 rfl rfl
  have n24 : 64 ≤ qz_N h (sk h) ∧ qz_N h (sk h) ≤ 18700 := n24
  have b35 : 1 ≤ qz_I h 770 35 ∧ qz_I h 770 35 ≤ 1000000 := ez_fB (cl := 11) hB t770 tq_75 rfl rfl (by decide)
  obtain ⟨m35, f35, -, -, -, n35, -⟩ := ez_arr hB t35 tq_23 rfl rfl
  have n35 : 1024 ≤ qz_N h (gel h) ∧ qz_N h (gel h) ≤ 300000 := n35
  have b38 : 1 ≤ qz_I h 770 38 ∧ qz_I h 770 38 ≤ 1000000 := ez_fB (cl := 11) hB t770 tq_75 rfl rfl (by decide)
  obtain ⟨m38, f38, -, -, -, n38, -⟩ := ez_arr hB t38 tq_24 rfl rfl
  have n38 : 1024 ≤ qz_N h (gfo h) ∧ qz_N h (gfo h) ≤ 200000 := n38
  have b39 : 1 ≤ qz_I h 770 39 ∧ qz_I h 770 39 ≤ 1000000 := ez_fB (cl := 11) hB t770 tq_75 rfl rfl (by decide)
  obtain ⟨m39, f39, -, -, -, n39, -⟩ := ez_arr hB t39 tq_25 rfl rfl
  have n39 : 1024 ≤ qz_N h (got h) ∧ qz_N h (got h) ≤ 600100 := n39
  have b40 : 1 ≤ qz_I h 770 40 ∧ qz_I h 770 40 ≤ 1000000 := ez_fB (cl := 11) hB t770 tq_75 rfl rfl (by decide)
  obtain ⟨m40, f40, -, -, -, n40, -⟩ := ez_arr hB t40 tq_25 rfl rfl
  have n40 : 1024 ≤ qz_N h (gke h) ∧ qz_N h (gke h) ≤ 600100 := n40
  show dz_G tz_T (qz_X rR) (29, [(-192, [(0, 1)]), (500000, [(0, -1)]), (0, [(1, 1)]), (0, [(2, 1)]), (4000, [(2, -1)]), (-6, [(2, -1), (3, 1)]), (100000, [(3, -1)]), (0, [(6, 1)]), (4096, [(6, -1)]), (0, [(7, 1)]), (0, [(8, 1)]), (256, [(7, -1)]), (512, [(8, -1)]), (-1, [(9, 1)]), (1000000, [(9, -1)]), (-64, [(10, 1)]), (18700, [(10, -1)]), (-1, [(13, 1)]), (1000000, [(13, -1)]), (-1024, [(14, 1)]), (300000, [(14, -1)]), (-1, [(17, 1)]), (1000000, [(17, -1)]), (-1024, [(18, 1)]), (200000, [(18, -1)]), (-1, [(21, 1)]), (1000000, [(21, -1)]), (-1024, [(22, 1)]), (600100, [(22, -1)]), (-1, [(25, 1)]), (1000000, [(25, -1)]), (-1024, [(26, 1)]), (600100, [(26, -1)]), (1029900, [(1, -1), (10, 2), (14, 2), (18, 2), (22, 2), (26, 2)])], [(0, 3, (1, []), 34), (1, 3, (193, []), 44), (2, 3, (771, []), 75), (3, 3, (806, []), 35), (4, 0, dz_var 2, 0)], [], [((193, []), 44, (1, []), (0, dz_var 6, 0)), ((771, []), 75, (2, []), (0, (0, [(6, 1)]), 0)), ((203, []), 48, (5, []), (0, dz_var 7, 0)), ((771, []), 75, (12, []), (0, dz_var 8, 0)), ((771, []), 75, (24, []), (3, dz_var 9, 21)), ((771, []), 75, (35, []), (3, dz_var 13, 23)), ((771, []), 75, (38, []), (3, dz_var 17, 24)), ((771, []), 75, (39, []), (3, dz_var 21, 25)), ((771, []), 75, (40, []), (3, dz_var 25, 25))], [((1, []), 34, dz_var 3, dz_var 4, dz_var 5, (1, []), (1000000, [])), ((0, [(9, 1)]), 21, dz_var 10, dz_var 11, dz_var 12, (1, []), (1000000, [])), ((0, [(13, 1)]), 23, dz_var 14, dz_var 15, dz_var 16, (1, []), (1000000, [])), ((0, [(17, 1)]), 24, dz_var 18, dz_var 19, dz_var 20, (1, []), (1000000, [])), ((0, [(21, 1)]), 25, dz_var 22, dz_var 23, dz_var 24, (1, []), (1000000, [])), ((0, [(25, 1)]), 25, dz_var 26, dz_var 27, dz_var 28, (1, []), (1000000, []))], dz_var 0, dz_var 1) (lwR h i) τ h (ez_L [(4, .inl i), (0, .inr (.inr (some 0))), (1, .inr (.inr (some 192))), (2, .inr (.inr (some 770))), (3, .inr (.inr (some 805)))]) []
  refine ⟨List.forall_mem_cons.mpr ⟨⟨_, (show (0 : Int) ≤ (-192 : Int) + (1 * (h.1 : Int) + 0) by omega), by decide, rfl⟩, List.forall_mem_cons.mpr ⟨⟨_, (show (0 : Int) ≤ (500000 : Int) + (-1 * (h.1 : Int) + 0) by omega), by decide, rfl⟩, List.forall_mem_cons.mpr ⟨⟨_, (show (0 : Int) ≤ (0 : Int) + (1 * (h.2.1 : Int) + 0) by omega), by decide, rfl⟩, List.forall_mem_cons.mpr ⟨⟨_, (show (0 : Int) ≤ (0 : Int) + (1 * i + 0) by omega), by decide, rfl⟩, List.forall_mem_cons.mpr ⟨⟨_, (show (0 : Int) ≤ (4000 : Int) + (-1 * i + 0) by omega), by decide, rfl⟩, List.forall_mem_cons.mpr ⟨⟨_, (show (0 : Int) ≤ (-6 : Int) + (-1 * i + (1 * qz_N h 0 + 0)) by omega), by decide, rfl⟩, List.forall_mem_cons.mpr ⟨⟨_, (show (0 : Int) ≤ (100000 : Int) + (-1 * qz_N h 0 + 0) by omega), by decide, rfl⟩, List.forall_mem_cons.mpr ⟨⟨_, (show (0 : Int) ≤ (0 : Int) + (1 * qz_I h 192 1 + 0) by omega), by decide, rfl⟩, List.forall_mem_cons.mpr ⟨⟨_, (show (0 : Int) ≤ (4096 : Int) + (-1 * qz_I h 192 1 + 0) by omega), by decide, rfl⟩, List.forall_mem_cons.mpr ⟨⟨_, (show (0 : Int) ≤ (0 : Int) + (1 * qz_I h 202 5 + 0) by omega), by decide, rfl⟩, List.forall_mem_cons.mpr ⟨⟨_, (show (0 : Int) ≤ (0 : Int) + (1 * qz_I h 770 12 + 0) by omega), by decide, rfl⟩, List.forall_mem_cons.mpr ⟨⟨_, (show (0 : Int) ≤ (256 : Int) + (-1 * qz_I h 202 5 + 0) by omega), by decide, rfl⟩, List.forall_mem_cons.mpr ⟨⟨_, (show (0 : Int) ≤ (512 : Int) + (-1 * qz_I h 770 12 + 0) by omega), by decide, rfl⟩, List.forall_mem_cons.mpr ⟨⟨_, (show (0 : Int) ≤ (-1 : Int) + (1 * qz_I h 770 24 + 0) by omega), by decide, rfl⟩, List.forall_mem_cons.mpr ⟨⟨_, (show (0 : Int) ≤ (1000000 : Int) + (-1 * qz_I h 770 24 + 0) by omega), by decide, rfl⟩, List.forall_mem_cons.mpr ⟨⟨_, (show (0 : Int) ≤ (-64 : Int) + (1 * qz_N h (sk h) + 0) by omega), by decide, rfl⟩, List.forall_mem_cons.mpr ⟨⟨_, (show (0 : Int) ≤ (18700 : Int) + (-1 * qz_N h (sk h) + 0) by omega), by decide, rfl⟩, List.forall_mem_cons.mpr ⟨⟨_, (show (0 : Int) ≤ (-1 : Int) + (1 * qz_I h 770 35 + 0) by omega), by decide, rfl⟩, List.forall_mem_cons.mpr ⟨⟨_, (show (0 : Int) ≤ (1000000 : Int) + (-1 * qz_I h 770 35 + 0) by omega), by decide, rfl⟩, List.forall_mem_cons.mpr ⟨⟨_, (show (0 : Int) ≤ (-1024 : Int) + (1 * qz_N h (gel h) + 0) by omega), by decide, rfl⟩, List.forall_mem_cons.mpr ⟨⟨_, (show (0 : Int) ≤ (300000 : Int) + (-1 * qz_N h (gel h) + 0) by omega), by decide, rfl⟩, List.forall_mem_cons.mpr ⟨⟨_, (show (0 : Int) ≤ (-1 : Int) + (1 * qz_I h 770 38 + 0) by omega), by decide, rfl⟩, List.forall_mem_cons.mpr ⟨⟨_, (show (0 : Int) ≤ (1000000 : Int) + (-1 * qz_I h 770 38 + 0) by omega), by decide, rfl⟩, List.forall_mem_cons.mpr ⟨⟨_, (show (0 : Int) ≤ (-1024 : Int) + (1 * qz_N h (gfo h) + 0) by omega), by decide, rfl⟩, List.forall_mem_cons.mpr ⟨⟨_, (show (0 : Int) ≤ (200000 : Int) + (-1 * qz_N h (gfo h) + 0) by omega), by decide, rfl⟩, List.forall_mem_cons.mpr ⟨⟨_, (show (0 : Int) ≤ (-1 : Int) + (1 * qz_I h 770 39 + 0) by omega), by decide, rfl⟩, List.forall_mem_cons.mpr ⟨⟨_, (show (0 : Int) ≤ (1000000 : Int) + (-1 * qz_I h 770 39 + 0) by omega), by decide, rfl⟩, List.forall_mem_cons.mpr ⟨⟨_, (show (0 : Int) ≤ (-1024 : Int) + (1 * qz_N h (got h) + 0) by omega), by decide, rfl⟩, List.forall_mem_cons.mpr ⟨⟨_, (show (0 : Int) ≤ (600100 : Int) + (-1 * qz_N h (got h) + 0) by omega), by decide, rfl⟩, List.forall_mem_cons.mpr ⟨⟨_, (show (0 : Int) ≤ (-1 : Int) + (1 * qz_I h 770 40 + 0) by omega), by decide, rfl⟩, List.forall_mem_cons.mpr ⟨⟨_, (show (0 : Int) ≤ (1000000 : Int) + (-1 * qz_I h 770 40 + 0) by omega), by decide, rfl⟩, List.forall_mem_cons.mpr ⟨⟨_, (show (0 : Int) ≤ (-1024 : Int) + (1 * qz_N h (gke h) + 0) by omega), by decide, rfl⟩, List.forall_mem_cons.mpr ⟨⟨_, (show (0 : Int) ≤ (600100 : Int) + (-1 * qz_N h (gke h) + 0) by omega), by decide, rfl⟩, List.forall_mem_cons.mpr ⟨⟨_, (show (0 : Int) ≤ (1029900 : Int) + (-1 * (h.2.1 : Int) + (2 * qz_N h (sk h) + (2 * qz_N h (gel h) + (2 * qz_N h (gfo h) + (2 * qz_N h (got h) + (2 * qz_N h (gke h) + 0)))))) by omega), by decide, rfl⟩, fun _ w => (by cases w)⟩⟩⟩⟩⟩⟩⟩⟩⟩⟩⟩⟩⟩⟩⟩⟩⟩⟩⟩⟩⟩⟩⟩⟩⟩⟩⟩⟩⟩⟩⟩⟩⟩⟩,
    List.forall_mem_cons.mpr ⟨⟨.inr (.inr (some 0)), rfl, rfl, ⟨by decide, (by show (1 : Int) + 0 = ((0 : Nat) : Int) + 1; omega)⟩, fun r hr => (by cases hr; exact ⟨t0, by decide⟩)⟩, List.forall_mem_cons.mpr ⟨⟨.inr (.inr (some 192)), rfl, rfl, ⟨by decide, (by show (193 : Int) + 0 = ((192 : Nat) : Int) + 1; omega)⟩, fun r hr => (by cases hr; exact ⟨t192, by decide⟩)⟩, List.forall_mem_cons.mpr ⟨⟨.inr (.inr (some 770)), rfl, rfl, ⟨by decide, (by show (771 : Int) + 0 = ((770 : Nat) : Int) + 1; omega)⟩, fun r hr => (by cases hr; exact ⟨t770, by decide⟩)⟩, List.forall_mem_cons.mpr ⟨⟨.inr (.inr (some 805)), rfl, rfl, ⟨by decide, (by show (806 : Int) + 0 = ((805 : Nat) : Int) + 1; omega)⟩, fun r hr => (by cases hr; exact ⟨t805, by decide⟩)⟩, List.forall_mem_cons.mpr ⟨⟨_, rfl, rfl, dz_v1 (Nat.le_of_ble_eq_true rfl) (rz_rd (n := i) ⟨by omega, by omega⟩).symm, fun r hr => (by cases hr)⟩, fun _ w => (by cases w)⟩⟩⟩⟩⟩, trivial,
    List.forall_mem_cons.mpr ⟨mo_i (cl := 0) hB t192 (by decide) tq_44 rfl rfl (Nat.le_of_ble_eq_true rfl) rfl, List.forall_mem_cons.mpr ⟨mo_i (cl := 11) hB t770 (by decide) tq_75 rfl rfl (Nat.le_of_ble_eq_true rfl) hn, List.forall_mem_cons.mpr ⟨mo_i (cl := 2) hB t202 (by decide) tq_48 rfl rfl (Nat.le_of_ble_eq_true rfl) rfl, List.forall_mem_cons.mpr ⟨mo_i (cl := 11) hB t770 (by decide) tq_75 rfl rfl (Nat.le_of_ble_eq_true rfl) rfl, List.forall_mem_cons.mpr ⟨mo_r (cl := 11) hB t770 (by decide) tq_75 rfl rfl (by decide) (Nat.le_of_ble_eq_true rfl) rfl, List.forall_mem_cons.mpr ⟨mo_r (cl := 11) hB t770 (by decide) tq_75 rfl rfl (by decide) (Nat.le_of_ble_eq_true rfl) rfl, List.forall_mem_cons.mpr ⟨mo_r (cl := 11) hB t770 (by decide) tq_75 rfl rfl (by decide) (Nat.le_of_ble_eq_true rfl) rfl, List.forall_mem_cons.mpr ⟨mo_r (cl := 11) hB t770 (by decide) tq_75 rfl rfl (by decide) (Nat.le_of_ble_eq_true rfl) rfl, List.forall_mem_cons.mpr ⟨mo_r (cl := 11) hB t770 (by decide) tq_75 rfl rfl (by decide) (Nat.le_of_ble_eq_true rfl) rfl, fun _ w => (by cases w)⟩⟩⟩⟩⟩⟩⟩⟩⟩,
    List.forall_mem_cons.mpr ⟨ko_f hB t0 (by decide) tq_34 rfl rfl ⟨by decide, (by show (1 : Int) + 0 = ((0 : Nat) : Int) + 1; omega)⟩ (Nat.le_of_ble_eq_true rfl) (Nat.le_of_ble_eq_true rfl) (Nat.le_of_ble_eq_true rfl) rfl rfl rfl, List.forall_mem_cons.mpr ⟨ko_f hB t24 (by decide) tq_21 rfl rfl (dz_v1 (Nat.le_of_ble_eq_true rfl) p24) (Nat.le_of_ble_eq_true rfl) (Nat.le_of_ble_eq_true rfl) (Nat.le_of_ble_eq_true rfl) rfl rfl rfl, List.forall_mem_cons.mpr ⟨ko_f hB t35 (by decide) tq_23 rfl rfl (dz_v1 (Nat.le_of_ble_eq_true rfl) p35) (Nat.le_of_ble_eq_true rfl) (Nat.le_of_ble_eq_true rfl) (Nat.le_of_ble_eq_true rfl) rfl rfl rfl, List.forall_mem_cons.mpr ⟨ko_f hB t38 (by decide) tq_24 rfl rfl (dz_v1 (Nat.le_of_ble_eq_true rfl) p38) (Nat.le_of_ble_eq_true rfl) (Nat.le_of_ble_eq_true rfl) (Nat.le_of_ble_eq_true rfl) rfl rfl rfl, List.forall_mem_cons.mpr ⟨ko_f hB t39 (by decide) tq_25 rfl rfl (dz_v1 (Nat.le_of_ble_eq_true rfl) p39) (Nat.le_of_ble_eq_true rfl) (Nat.le_of_ble_eq_true rfl) (Nat.le_of_ble_eq_true rfl) rfl rfl rfl, List.forall_mem_cons.mpr ⟨ko_f hB t40 (by decide) tq_25 rfl rfl (dz_v1 (Nat.le_of_ble_eq_true rfl) p40) (Nat.le_of_ble_eq_true rfl) (Nat.le_of_ble_eq_true rfl) (Nat.le_of_ble_eq_true rfl) rfl rfl rfl, fun _ w => (by cases w)⟩⟩⟩⟩⟩⟩,
    dz_v1 (Nat.le_of_ble_eq_true rfl) rfl, dz_v1 (Nat.le_of_ble_eq_true rfl) rfl, hb⟩
theorem lw_q {pc hs : Nat} {sl : List Nat} (hck : dy_goL tz_T tz_cf cz_pg cm_0 pc lws sl lwc hs = true) (hh : ∀ s ∈ sl, dz_spec tz_T (qz_X rR) cz_pg (dy_rd dy_rSp s)) {d : Nat} (hd : 18 ≤ d) {Q : cz_F → Prop} {τ : Nat → Nat} {h : cz_H} {i : Int} (hb : dz_B tz_T (qz_X rR) τ h) (i0 : 0 ≤ i) (i1 : i + 6 ≤ qz_N h 0) (i2 : i ≤ 4000) (hn : qz_I h 192 1 = qz_I h 770 2) (hc : h.1 ≤ 500000) (hs : (h.2.1 : Int) ≤ 1029900 + 2 * qz_N h (sk h) + 2 * qz_N h (gel h) + 2 * qz_N h (gfo h) + 2 * qz_N h (got h) + 2 * qz_N h (gke h)) (k : ∀ τ2 g, dz_B tz_T (qz_X rR) τ2 g → qz_N g 0 = qz_N h 0 → qz_I g 192 1 = qz_I g 770 2 → (0 ≤ qz_I g 192 1 ∧ qz_I g 192 1 ≤ qz_I h 192 1) → qz_I g 202 5 = qz_I h 202 5 → qz_I g 770 12 = qz_I h 770 12 → psi g ≤ psi h + 18 → phc g ≤ phc h + 256 → ez_W d cm_0 1213 [(4, .inl i), (0, .inr (.inr (some 0))), (1, .inr (.inr (some 192))), (2, .inr (.inr (some 770))), (3, .inr (.inr (some 805)))] [] g Q) : ez_W d cm_0 pc [(4, .inl i), (0, .inr (.inr (some 0))), (1, .inr (.inr (some 192))), (2, .inr (.inr (some 770))), (3, .inr (.inr (some 805)))] [] h Q := by
  have hB := dz_ezB hb
  have hX := hb.2.1.1
  have t0 : τ 0 = 34 := hX 0 (by decide)
  have t770 : τ 770 = 75 := hX 770 (by decide)
  have hck := dy_goL_ok hck
  rw [lws_eq, lwc_eq] at hck
  refine dw_piece (sp := lwS) (qz_okC rR_st) rfl (fun s w => ?_) hck hd (lw_G hb i0 i1 i2 hn hc hs) (fun F w => ?_) ?_
  · obtain ⟨n, n1, rfl⟩ := List.mem_map.mp w
    exact hh n n1
  · obtain ⟨al, w1, -⟩ := w
    cases w1
  intro c hc2 ρ τ2 g L2 hG hag hfr
  rw [show lwC = [_] from rfl, List.mem_singleton] at hc2
  subst hc2
  have hG : dz_G tz_T (qz_X rR) (53, [(0, [(31, 1)]), (0, [(6, 1), (31, -1)]), (0, [(31, -1), (32, 1)]), (0, [(31, 1), (32, -1)]), (0, [(0, -1), (29, 1)]), (0, [(1, -1), (30, 1)]), (18, [(1, 1), (10, -2), (14, -2), (18, -2), (22, -2), (26, -2), (30, -1), (34, 2), (38, 2), (42, 2), (46, 2), (50, 2)]), (256, [(0, 64), (10, -1), (14, -1), (18, -1), (22, -1), (26, -1), (29, -64), (34, 1), (38, 1), (42, 1), (46, 1), (50, 1)])], [(0, 3, (1, []), 34), (1, 3, (193, []), 44), (2, 3, (771, []), 75), (3, 3, (806, []), 35), (4, 0, (0, [(2, 1)]), 0)], [], [((193, []), 44, (1, []), (0, dz_var 31, 0)), ((771, []), 75, (2, []), (0, dz_var 32, 0)), ((203, []), 48, (5, []), (0, (0, [(7, 1)]), 0)), ((771, []), 75, (12, []), (0, (0, [(8, 1)]), 0)), ((771, []), 75, (24, []), (3, dz_var 33, 21)), ((771, []), 75, (35, []), (3, dz_var 37, 23)), ((771, []), 75, (38, []), (3, dz_var 41, 24)), ((771, []), 75, (39, []), (3, dz_var 45, 25)), ((771, []), 75, (40, []), (3, dz_var 49, 25))], [((0, [(33, 1)]), 21, dz_var 34, dz_var 35, dz_var 36, (1, []), (1000000, [])), ((0, [(37, 1)]), 23, dz_var 38, dz_var 39, dz_var 40, (1, []), (1000000, [])), ((0, [(41, 1)]), 24, dz_var 42, dz_var 43, dz_var 44, (1, []), (1000000, [])), ((0, [(45, 1)]), 25, dz_var 46, dz_var 47, dz_var 48, (1, []), (1000000, [])), ((0, [(49, 1)]), 25, dz_var 50, dz_var 51, dz_var 52, (1, []), (1000000, []))], dz_var 29, dz_var 30) ρ τ2 g L2 [] := hG
  obtain ⟨gm, lo, -, mo, ko, rc, rs, hb2⟩ := hG
  have rc : (0 : Int) + (1 * ρ 29 + 0) = (g.1 : Int) := rc.2
  have rs : (0 : Int) + (1 * ρ 30 + 0) = (g.2.1 : Int) := rs.2
  obtain ⟨⟨v0, f0, k0⟩, lo⟩ := List.forall_mem_cons.mp lo
  obtain ⟨⟨v1, f1, k1⟩, lo⟩ := List.forall_mem_cons.mp lo
  obtain ⟨⟨v2, f2, k2⟩, lo⟩ := List.forall_mem_cons.mp lo
  obtain ⟨⟨v3, f3, k3⟩, lo⟩ := List.forall_mem_cons.mp lo
  obtain ⟨⟨v4, f4, k4⟩, lo⟩ := List.forall_mem_cons.mp lo
  obtain ⟨m0, mo⟩ := List.forall_mem_cons.mp mo
  have s0 : qz_I g 192 1 = 0 + (1 * ρ 31 + 0) := dz_slot (p := 192) (i := 1) m0
  obtain ⟨m1, mo⟩ := List.forall_mem_cons.mp mo
  have s1 : qz_I g 770 2 = 0 + (1 * ρ 32 + 0) := dz_slot (p := 770) (i := 2) m1
  obtain ⟨m2, mo⟩ := List.forall_mem_cons.mp mo
  have s2 : qz_I g 202 5 = 0 + (1 * ρ 7 + 0) := dz_slot (p := 202) (i := 5) m2
  obtain ⟨m3, mo⟩ := List.forall_mem_cons.mp mo
  have s3 : qz_I g 770 12 = 0 + (1 * ρ 8 + 0) := dz_slot (p := 770) (i := 12) m3
  obtain ⟨m4, mo⟩ := List.forall_mem_cons.mp mo
  have s4 : qz_I g 770 24 = 0 + (1 * ρ 33 + 0) := dz_slot (p := 770) (i := 24) m4
  obtain ⟨m5, mo⟩ := List.forall_mem_cons.mp mo
  have s5 : qz_I g 770 35 = 0 + (1 * ρ 37 + 0) := dz_slot (p := 770) (i := 35) m5
  obtain ⟨m6, mo⟩ := List.forall_mem_cons.mp mo
  have s6 : qz_I g 770 38 = 0 + (1 * ρ 41 + 0) := dz_slot (p := 770) (i := 38) m6
  obtain ⟨m7, mo⟩ := List.forall_mem_cons.mp mo
  have s7 : qz_I g 770 39 = 0 + (1 * ρ 45 + 0) := dz_slot (p := 770) (i := 39) m7
  obtain ⟨m8, mo⟩ := List.forall_mem_cons.mp mo
  have s8 : qz_I g 770 40 = 0 + (1 * ρ 49 + 0) := dz_slot (p := 770) (i := 40) m8
  obtain ⟨c0, ko⟩ := List.forall_mem_cons.mp ko
  have w0 : qz_N g (sk g) = ρ 34 := ko_N (j := 24) c0 s4
  obtain ⟨c1, ko⟩ := List.forall_mem_cons.mp ko
  have w1 : qz_N g (gel g) = ρ 38 := ko_N (j := 35) c1 s5
  obtain ⟨c2, ko⟩ := List.forall_mem_cons.mp ko
  have w2 : qz_N g (gfo g) = ρ 42 := ko_N (j := 38) c2 s6
  obtain ⟨c3, ko⟩ := List.forall_mem_cons.mp ko
  have w3 : qz_N g (got g) = ρ 46 := ko_N (j := 39) c3 s7
  obtain ⟨c4, ko⟩ := List.forall_mem_cons.mp ko
  have w4 : qz_N g (gke g) = ρ 50 := ko_N (j := 40) c4 s8
  obtain ⟨g0, gm⟩ := List.forall_mem_cons.mp gm
  have g0 : (0 : Int) ≤ (0 : Int) + (1 * ρ 31 + 0) := gm_le g0
  obtain ⟨g1, gm⟩ := List.forall_mem_cons.mp gm
  have g1 : (0 : Int) ≤ (0 : Int) + (1 * ρ 6 + (-1 * ρ 31 + 0)) := gm_le g1
  obtain ⟨g2, gm⟩ := List.forall_mem_cons.mp gm
  have g2 : (0 : Int) ≤ (0 : Int) + (-1 * ρ 31 + (1 * ρ 32 + 0)) := gm_le g2
  obtain ⟨g3, gm⟩ := List.forall_mem_cons.mp gm
  have g3 : (0 : Int) ≤ (0 : Int) + (1 * ρ 31 + (-1 * ρ 32 + 0)) := gm_le g3
  obtain ⟨g4, gm⟩ := List.forall_mem_cons.mp gm
  have g4 : (0 : Int) ≤ (0 : Int) + (-1 * ρ 0 + (1 * ρ 29 + 0)) := gm_le g4
  obtain ⟨g5, gm⟩ := List.forall_mem_cons.mp gm
  have g5 : (0 : Int) ≤ (0 : Int) + (-1 * ρ 1 + (1 * ρ 30 + 0)) := gm_le g5
  obtain ⟨g6, gm⟩ := List.forall_mem_cons.mp gm
  have g6 : (0 : Int) ≤ (18 : Int) + (1 * ρ 1 + (-2 * ρ 10 + (-2 * ρ 14 + (-2 * ρ 18 + (-2 * ρ 22 + (-2 * ρ 26 + (-1 * ρ 30 + (2 * ρ 34 + (2 * ρ 38 + (2 * ρ 42 + (2 * ρ 46 + (2 * ρ 50 + 0)))))))))))) := gm_le g6
  obtain ⟨g7, gm⟩ := List.forall_mem_cons.mp gm
  have g7 : (0 : Int) ≤ (256 : Int) + (64 * ρ 0 + (-1 * ρ 10 + (-1 * ρ 14 + (-1 * ρ 18 + (-1 * ρ 22 + (-1 * ρ 26 + (-64 * ρ 29 + (1 * ρ 34 + (1 * ρ 38 + (1 * ρ 42 + (1 * ρ 46 + (1 * ρ 50 + 0)))))))))))) := gm_le g7
  have a0 : ρ 0 = (h.1 : Int) := hag 0 (Nat.le_of_ble_eq_true rfl)
  have a1 : ρ 1 = (h.2.1 : Int) := hag 1 (Nat.le_of_ble_eq_true rfl)
  have a2 : ρ 2 = i := hag 2 (Nat.le_of_ble_eq_true rfl)
  have a6 : ρ 6 = qz_I h 192 1 := hag 6 (Nat.le_of_ble_eq_true rfl)
  have a7 : ρ 7 = qz_I h 202 5 := hag 7 (Nat.le_of_ble_eq_true rfl)
  have a8 : ρ 8 = qz_I h 770 12 := hag 8 (Nat.le_of_ble_eq_true rfl)
  have a10 : ρ 10 = qz_N h (sk h) := hag 10 (Nat.le_of_ble_eq_true rfl)
  have a14 : ρ 14 = qz_N h (gel h) := hag 14 (Nat.le_of_ble_eq_true rfl)
  have a18 : ρ 18 = qz_N h (gfo h) := hag 18 (Nat.le_of_ble_eq_true rfl)
  have a22 : ρ 22 = qz_N h (got h) := hag 22 (Nat.le_of_ble_eq_true rfl)
  have a26 : ρ 26 = qz_N h (gke h) := hag 26 (Nat.le_of_ble_eq_true rfl)
  obtain ⟨ft, fa, fg, -⟩ := hfr
  have q770 : τ 770 ≠ 0 := by rw [t770]; decide
  have i9 : qz_I g 770 9 = qz_I h 770 9 := qz_I_eq (fg 770 q770 9 (by rw [t770]; rfl))
  have i11 : qz_I g 770 11 = qz_I h 770 11 := qz_I_eq (fg 770 q770 11 (by rw [t770]; rfl))
  have i22 : qz_I g 770 22 = qz_I h 770 22 := qz_I_eq (fg 770 q770 22 (by rw [t770]; rfl))
  have epo : po g = po h := by unfold po qz_P; rw [i9]
  have els : ls g = ls h := by unfold ls qz_P; rw [i11]
  have ebw : bw g = bw h := by unfold bw qz_P; rw [i22]
  have tt := ez_tls hB t770
  have td := ez_tdb hB t770
  have npo : qz_N g (po g) = qz_N h (po h) := by rw [epo]; exact qz_N_eq (fa _ (by rw [tt.2]; decide))
  have nls : qz_N g (ls g) = qz_N h (ls h) := by rw [els]; exact qz_N_eq (fa _ (by rw [tt.1]; decide))
  have nbw : qz_N g (bw g) = qz_N h (bw h) := by rw [ebw]; exact qz_N_eq (fa _ (by rw [td.2]; decide))
  have n0 : qz_N g 0 = qz_N h 0 := qz_N_eq (fa 0 (by rw [t0]; decide))
  have e0 : v0 = .inr (.inr (some 0)) := dz_ref k0.1 (by have : (1 : Int) + 0 = dz_n v0 := k0.2.1.2; omega)
  have e1 : v1 = .inr (.inr (some 192)) := dz_ref k1.1 (by have : (193 : Int) + 0 = dz_n v1 := k1.2.1.2; omega)
  have e2 : v2 = .inr (.inr (some 770)) := dz_ref k2.1 (by have : (771 : Int) + 0 = dz_n v2 := k2.2.1.2; omega)
  have e3 : v3 = .inr (.inr (some 805)) := dz_ref k3.1 (by have : (806 : Int) + 0 = dz_n v3 := k3.2.1.2; omega)
  have e4 : v4 = ez_v (.inl i) := by
    have : (0 : Int) + (1 * ρ 2 + 0) = dz_n v4 := k4.2.1.2
    rw [dz_int k4.1, show dz_n v4 = i by omega]
  refine ez_from (L := [(4, .inl i), (0, .inr (.inr (some 0))), (1, .inr (.inr (some 192))), (2, .inr (.inr (some 770))), (3, .inr (.inr (some 805)))]) (st := []) rfl (fun q hq => ?_) (k τ2 g hb2 n0 (by omega) ⟨by omega, by omega⟩ (by omega) (by omega) ?_ ?_)
  · simp only [List.mem_cons, List.not_mem_nil, or_false] at hq
    rcases hq with e | e | e | e | e <;> subst e
    · show cz_find 4 L2 = some (ez_v (.inl i)); rw [← e4]; exact f4
    · show cz_find 0 L2 = some (.inr (.inr (some 0))); rw [← e0]; exact f0
    · show cz_find 1 L2 = some (.inr (.inr (some 192))); rw [← e1]; exact f1
    · show cz_find 2 L2 = some (.inr (.inr (some 770))); rw [← e2]; exact f2
    · show cz_find 3 L2 = some (.inr (.inr (some 805))); rw [← e3]; exact f3
  · unfold psi; rw [npo, nls, nbw, w0, w1, w2, w3, w4]; omega
  · unfold phc; rw [npo, nls, nbw, w0, w1, w2, w3, w4]; omega
/-! The law: a step of the loop, and what room it takes. -/
/-- how many LINES there may be at a call -/
def lnb (h : cz_H) (i : Int) : Prop := 12 * qz_I h 202 5 ≤ i ∧ 12 * qz_I h 770 12 ≤ i ∧ (0 < qz_I h 192 1 → 12 * qz_I h 202 5 + 6 ≤ i ∧ 12 * qz_I h 770 12 + 6 ≤ i)
def stp (h g : cz_H) : Prop := qz_N g 0 = qz_N h 0 ∧ qz_I g 192 1 = qz_I g 770 2 ∧ psi g + 45 * qz_I g 192 1 ≤ psi h + 45 * qz_I h 192 1 + 1030 ∧ phc g + 360 * qz_I g 192 1 ≤ phc h + 360 * qz_I h 192 1 + 7264 ∧ ∀ i, lnb h i → lnb g (i + 6)
theorem n6 {τ : Nat → Nat} {h g : cz_H} (hB : ez_B τ h) (t770 : τ 770 = 75) (i : ∀ j, (j = 22 ∨ j = 24 ∨ j = 35 ∨ (38 ≤ j ∧ j ≤ 40)) → qz_I g 770 j = qz_I h 770 j) (c : ∀ q, 20 ≤ τ q → τ q ≤ 25 → τ q ≠ 22 → g.2.2 q = h.2.2 q) : qz_N g (bw g) = qz_N h (bw h) ∧ qz_N g (sk g) = qz_N h (sk h) ∧ qz_N g (gel g) = qz_N h (gel h) ∧ qz_N g (gfo g) = qz_N h (gfo h) ∧ qz_N g (got g) = qz_N h (got h) ∧ qz_N g (gke g) = qz_N h (gke h) := by
  obtain ⟨-, t24, t35, t38, t39, t40⟩ := ez_tg5 hB t770
  have td := (ez_tdb hB t770).2
  refine ⟨?_, ?_, ?_, ?_, ?_, ?_⟩
  · rw [show bw g = bw h by unfold bw qz_P; rw [i 22 (by omega)]]; unfold qz_N; rw [c _ (by rw [td]; decide) (by rw [td]; decide) (by rw [td]; decide)]
  · rw [show sk g = sk h by unfold sk qz_P; rw [i 24 (by omega)]]; unfold qz_N; rw [c _ (by rw [t24]; decide) (by rw [t24]; decide) (by rw [t24]; decide)]
  · rw [show gel g = gel h by unfold gel qz_P; rw [i 35 (by omega)]]; unfold qz_N; rw [c _ (by rw [t35]; decide) (by rw [t35]; decide) (by rw [t35]; decide)]
  · rw [show gfo g = gfo h by unfold gfo qz_P; rw [i 38 (by omega)]]; unfold qz_N; rw [c _ (by rw [t38]; decide) (by rw [t38]; decide) (by rw [t38]; decide)]
  · rw [show got g = got h by unfold got qz_P; rw [i 39 (by omega)]]; unfold qz_N; rw [c _ (by rw [t39]; decide) (by rw [t39]; decide) (by rw [t39]; decide)]
  · rw [show gke g = gke h by unfold gke qz_P; rw [i 40 (by omega)]]; unfold qz_N; rw [c _ (by rw [t40]; decide) (by rw [t40]; decide) (by rw [t40]; decide)]
theorem n2 {τ : Nat → Nat} {h g : cz_H} (hB : ez_B τ h) (t770 : τ 770 = 75) (i9 : qz_I g 770 9 = qz_I h 770 9) (i11 : qz_I g 770 11 = qz_I h 770 11) (c : ∀ q, (τ q = 17 ∨ τ q = 18) → g.2.2 q = h.2.2 q) : qz_N g (po g) = qz_N h (po h) ∧ qz_N g (ls g) = qz_N h (ls h) := by
  have tt := ez_tls hB t770
  refine ⟨?_, ?_⟩
  · rw [show po g = po h by unfold po qz_P; rw [i9]]; unfold qz_N; rw [c _ (Or.inl tt.2)]
  · rw [show ls g = ls h by unfold ls qz_P; rw [i11]]; unfold qz_N; rw [c _ (Or.inr tt.1)]
/-- where nothing is written but 770's first slots and places beyond -/
theorem stp_x {τ : Nat → Nat} {h g : cz_H} (hX : jz_X τ) (hB : ez_B τ h) (hn : qz_I h 192 1 = qz_I h 770 2) (c : ∀ q, τ q ≠ 0 → q ≠ 770 → g.2.2 q = h.2.2 q) (i : ∀ j, j ≠ 0 → qz_I g 770 j = qz_I h 770 j) (h1 : g.1 ≤ h.1 + 2) (h2 : g.2.1 ≤ h.2.1 + 12) : stp h g := by
  have t770 : τ 770 = 75 := hX 770 (by decide)
  have cc : ∀ q t, τ q = t → (!(Nat.beq t 0) && !(Nat.beq t 75)) = true → g.2.2 q = h.2.2 q := fun q t ht w => by
    rw [Bool.and_eq_true, Bool.not_eq_true', Bool.not_eq_true'] at w
    exact c q (fun e => by rw [← ht, e] at w; cases w.1) (fun e => by rw [e, t770] at ht; rw [← ht] at w; cases w.2)
  have ii : ∀ q t j, τ q = t → (!(Nat.beq t 0) && !(Nat.beq t 75)) = true → qz_I g q j = qz_I h q j := fun q t j ht w => by unfold qz_I; rw [cc q t ht w]
  obtain ⟨a1, a2, a3, a4, a5, a6⟩ := n6 (g := g) hB t770 (fun j hj => i j (by omega)) (fun q q1 q2 q3 => c q (by omega) (fun e => by rw [e, t770] at q2; omega))
  obtain ⟨a7, a8⟩ := n2 (g := g) hB t770 (i 9 (by decide)) (i 11 (by decide)) (fun q hq => by rcases hq with e | e <;> exact cc q _ e rfl)
  have i1 := ii 192 44 1 (hX 192 (by decide)) rfl
  have i5 := ii 202 48 5 (hX 202 (by decide)) rfl
  have i2 := i 2 (by decide)
  have i12 := i 12 (by decide)
  refine ⟨by unfold qz_N; rw [cc 0 34 (hX 0 (by decide)) rfl], by rw [i1, i2]; exact hn, ?_, ?_, fun k hk => ?_⟩
  · unfold psi; rw [a1, a2, a3, a4, a5, a6, a7, a8, i1]; omega
  · unfold phc; rw [a1, a2, a3, a4, a5, a6, a7, a8, i1]; omega
  · unfold lnb at hk ⊢; rw [i1, i5, i12]; omega
theorem stp_q {h g : cz_H} (n0 : qz_N g 0 = qz_N h 0) (e : qz_I g 192 1 = qz_I g 770 2) (t : 0 ≤ qz_I g 192 1 ∧ qz_I g 192 1 ≤ qz_I h 192 1) (i5 : qz_I g 202 5 = qz_I h 202 5) (i12 : qz_I g 770 12 = qz_I h 770 12) (p1 : psi g ≤ psi h + 18) (p2 : phc g ≤ phc h + 256) : stp h g :=
  ⟨n0, e, by omega, by omega, fun k hk => by unfold lnb at hk ⊢; rw [i5, i12]; omega⟩
theorem full_Xe {τ : Nat → Nat} {h g3 : cz_H} {e : Nat} (hX : qz_X rR τ h) (hB : ez_B τ h) (hB3 : ez_B τ g3) (f3 : ez_fr (ez_one 770) (xc h e) g3) (j7 : ∀ j, j ≠ 0 → qz_I g3 770 j = qz_I (xc h e) 770 j) : dz_B tz_T (qz_X rR) τ g3 := by
  have cc : ∀ q, τ q ≠ 0 → q ≠ 770 → g3.2.2 q = h.2.2 q := fun q h0 h4 => by rw [f3.2.2 q (dz_beq_ne h4), xc_t hB h0]
  have t770 : τ 770 = 75 := hX.1 770 (by decide)
  have i7 : ∀ j, j ≠ 0 → qz_I g3 770 j = qz_I h 770 j := fun j h0 => by
    rw [j7 j h0]; unfold qz_I; rw [xc_t hB (by rw [t770]; decide)]
  have s : qz_s2 τ h τ g3 := s2_tape hX.1 (fun q h0 _ _ _ h4 _ => cc q h0 h4) (fun j hj => i7 j (fun e => by rw [e] at hj; cases hj))
  refine X_s2 hX hB3 s ?_ (fun j => ?_) ?_
  · exact X2_tr hX.2.2.1 (i7 24 (by decide)) (i7 25 (by decide)) (i7 35 (by decide)) (i7 36 (by decide)) (fun q hq => ⟨rfl, cc q (by omega) (fun e => by rw [e, t770] at hq; omega)⟩)
  · obtain ⟨Ls, ⟨t, c, m, w, s6, s7, u, p⟩, ww, xx⟩ := hX.2.2.2.2
    have a1 : qz_I g3 193 j = qz_I h 193 j := by unfold qz_I; rw [cc 193 (by rw [hX.1 193 (by decide)]; decide) (by decide)]
    have a2 : qz_I g3 771 j = qz_I h 771 j := by unfold qz_I; rw [cc 771 (by rw [hX.1 771 (by decide)]; decide) (by decide)]
    rw [a1, a2, p j]
  · obtain ⟨Ls, -, ww, xx⟩ := hX.2.2.2.2
    exact rX_t ww.1 xx (fun q hq => cc q (by omega) (fun e => by rw [e, t770] at hq; omega))
/-- a refused call, both sides -/
theorem ref_X {τ : Nat → Nat} {h g3 : cz_H} {e : Nat} (hb : dz_B tz_T (qz_X rR) τ h) (hn : qz_I h 192 1 = qz_I h 770 2) (hB3 : ez_B τ g3) (f3 : ez_fr (ez_one 770) (xc h e) g3) (j7 : ∀ j, j ≠ 0 → qz_I g3 770 j = qz_I (xc h e) 770 j) : dz_B tz_T (qz_X rR) τ g3 ∧ stp h g3 := by
  have hB := dz_ezB hb
  have t770 : τ 770 = 75 := hb.2.1.1 770 (by decide)
  refine ⟨full_Xe hb.2.1 hB hB3 f3 j7, stp_x hb.2.1.1 hB hn (fun q h0 h4 => by rw [f3.2.2 q (dz_beq_ne h4), xc_t hB h0]) (fun j h0 => ?_) ?_ ?_⟩
  · rw [j7 j h0]; unfold qz_I; rw [xc_t hB (by rw [t770]; decide)]
  · rw [f3.1]; exact Nat.le_succ _
  · rw [f3.2.1]; show h.2.1 + 6 ≤ _; omega
/-- a LINE taken, both sides: the room -/
theorem ln_stp {τ τ1 τ3 : Nat → Nat} {h g1 g2 g3 : cz_H} {n : Int} (hX : jz_X τ) (hB : ez_B τ h) (hn : qz_I h 192 1 = qz_I h 770 2) (x : fz τ (dz_put h 192 1 (ez_v (.inl 0))) τ1 g1 5 65) (o : ∀ q, q ≠ 805 → g2.2.2 q = g1.2.2 q) (o1 : g2.1 = g1.1 ∧ g2.2.1 = g1.2.1) (T1 : qz_I g1 192 1 = 0) (L5 : qz_I g1 202 5 = qz_I h 202 5 ∨ (qz_I g1 202 5 = qz_I h 202 5 + 1 ∧ 0 < qz_I h 192 1)) (hN : qz_I h 770 2 = n) (f : fw (rtg τ τ1) g2 τ3 g3 (45 * n + 100)) (B2 : ez_B (rtg τ τ1) g2) (L12 : lc g3 = lc h ∨ (lc g3 = lc h + 1 ∧ 0 < n)) : stp h g3 := by
  have c := ln_C x o
  have x2 : jz_X (rtg τ τ1) := ln_X hX (fun q h0 => (c q h0).1)
  have t770 : τ 770 = 75 := hX 770 (by decide)
  have u770 : rtg τ τ1 770 = 75 := x2 770 (by decide)
  have cel : ∀ q tg, τ q = tg → (!(Nat.beq tg 0) && (!(fz_P tg) && (!(Nat.beq tg 44) && !(Nat.beq tg 35)))) = true → g2.2.2 q = h.2.2 q := fun q tg hq ht => by
    simp only [Bool.and_eq_true, Bool.not_eq_true'] at ht
    exact (c q (fun e => by rw [← hq, e] at ht; cases ht.1)).2 (by rw [hq]; exact ht.2.1) (fun e => by rw [e, hX 192 (by decide)] at hq; rw [← hq] at ht; cases ht.2.2.1) (fun e => by rw [e, hX 805 (by decide)] at hq; rw [← hq] at ht; cases ht.2.2.2)
  have j7 : ∀ j, qz_I g2 770 j = qz_I h 770 j := fun j => by unfold qz_I; rw [cel 770 75 t770 rfl]
  -- over the class
  obtain ⟨a1, a2, a3, a4, a5, a6⟩ := n6 (g := g2) hB t770 (fun j _ => j7 j) (fun q q1 q2 q3 => by
    have : τ q = 20 ∨ τ q = 21 ∨ τ q = 23 ∨ τ q = 24 ∨ τ q = 25 := by omega
    rcases this with e | e | e | e | e <;> exact cel q _ e rfl)
  obtain ⟨a7, a8⟩ := n2 (g := g2) hB t770 (j7 9) (j7 11) (fun q hq => by rcases hq with e | e <;> exact cel q _ e rfl)
  -- over the model
  have np : ∀ q p tg, rtg τ τ1 q = tg → tz_ex p ≠ 0 → tz_ex p ≠ tg → q ≠ p := fun q p tg h1 h2 h3 e => h3 (by rw [← h1, e, x2 p h2])
  have fc : ∀ q tg, rtg τ τ1 q = tg → (!(Nat.beq tg 0) && ((!(Nat.beq tg 75) && (!(Nat.beq tg (tz_ex 789)) && !(Nat.beq tg (tz_ex 790)))) && ((!(Nat.beq tg 17) && !(Nat.beq tg 18)) && (!(Nat.beq tg 30) && !(Nat.beq tg 31))))) = true → g3.2.2 q = g2.2.2 q := fun q tg hq ht => by
    simp only [Bool.and_eq_true, Bool.not_eq_true'] at ht
    obtain ⟨h0, ⟨h4, h5, h6⟩, ⟨h7, h8⟩, h9, h10⟩ := ht
    have nb : ∀ k, Nat.beq tg k = false → rtg τ τ1 q ≠ k := fun k hk e => by rw [hq] at e; rw [e, Nat.beq_refl] at hk; cases hk
    have nq : ∀ p, tz_ex p ≠ 0 → Nat.beq tg (tz_ex p) = false → q ≠ p := fun p h1 h2 e => by rw [e, x2 p h1] at hq; rw [hq, Nat.beq_refl] at h2; cases h2
    exact (f.1 q (nb 0 h0)).2 (nq 770 (by decide) h4) (nq 789 (by decide) h5) (nq 790 (by decide) h6) (nb 17 h7) (nb 18 h8) (nb 30 h9) (nb 31 h10)
  have f7 := f.2.2.1
  obtain ⟨b1, b2, b3, b4, b5, b6⟩ := n6 (g := g3) B2 u770 (fun j hj => f7 j (by omega) (by omega) (by omega) (by omega) (by omega)) (fun q q1 q2 q3 => by
    have : rtg τ τ1 q = 20 ∨ rtg τ τ1 q = 21 ∨ rtg τ τ1 q = 23 ∨ rtg τ τ1 q = 24 ∨ rtg τ τ1 q = 25 := by omega
    rcases this with e | e | e | e | e <;> exact fc q _ e rfl)
  have i192 : qz_I g3 192 1 = 0 := by
    rw [show qz_I g3 192 1 = qz_I g2 192 1 by unfold qz_I; rw [fc 192 44 (x2 192 (by decide)) rfl], show qz_I g2 192 1 = qz_I g1 192 1 by unfold qz_I; rw [o 192 (by decide)]]; exact T1
  have i202 : qz_I g3 202 5 = qz_I g1 202 5 := by
    rw [show qz_I g3 202 5 = qz_I g2 202 5 by unfold qz_I; rw [fc 202 48 (x2 202 (by decide)) rfl]]; unfold qz_I; rw [o 202 (by decide)]
  have n0 : qz_N g3 0 = qz_N h 0 := by unfold qz_N; rw [fc 0 34 (x2 0 (by decide)) rfl, cel 0 34 (hX 0 (by decide)) rfl]
  have fr := f.2.2.2.2.1
  have fn := f.2.2.2.2.2.1
  have xr := x.2
  have px : (dz_put h 192 1 (ez_v (.inl 0))).1 = h.1 ∧ (dz_put h 192 1 (ez_v (.inl 0))).2.1 = h.2.1 := ⟨rfl, rfl⟩
  rw [a7, a8] at fr fn
  refine ⟨n0, by rw [i192, f.2.2.2.1], ?_, ?_, fun k hk => ?_⟩
  · unfold psi; rw [b1, b2, b3, b4, b5, b6, a1, a2, a3, a4, a5, a6, i192]; omega
  · unfold phc; rw [b1, b2, b3, b4, b5, b6, a1, a2, a3, a4, a5, a6, i192]; omega
  · unfold lc at L12; unfold lnb at hk ⊢; rw [i192, i202]; omega
/-! The law: seal and reset, what holds behind both sides. -/
theorem rng_tag {τ : Nat → Nat} (hX : jz_X τ) {q t : Nat} (hq : τ q = t) (h : (Nat.blt t 55 || Nat.blt 60 t) = true) : q < 723 ∨ 728 < q := by
  rcases Nat.lt_or_ge q 723 with w | w
  · exact Or.inl w
  · rcases Nat.lt_or_ge 728 q with w2 | w2
    · exact Or.inr w2
    · exfalso
      have : q = 723 ∨ q = 724 ∨ q = 725 ∨ q = 726 ∨ q = 727 ∨ q = 728 := by omega
      rcases this with e | e | e | e | e | e <;> (rw [e, hX _ (by decide)] at hq; rw [← hq] at h; cases h)
theorem sW_c2 {τ τ3 : Nat → Nat} {g2 g3 : cz_H} (hX : jz_X τ) (w : sW τ g2 τ3 g3) : ck2 τ g2 τ3 g3 := by
  refine ⟨fun r hr => ?_, ?_⟩
  · obtain ⟨k1, k0, -, -, -, -, -, k9⟩ := pcb_no hr
    have ne : ∀ p, tz_ex p ≠ 0 → pcb (tz_ex p) = false → r ≠ p := fun p h1 h2 e => by rw [e, hX p h1, h2] at hr; cases hr
    exact ⟨(w.1 r k0).1, (w.1 r k0).2 (ne 770 (by decide) (by decide)) (ne 794 (by decide) (by decide)) k9⟩
  · have t : τ 202 = 48 := hX 202 (by decide)
    unfold qz_I
    rw [(w.1 202 (by rw [t]; decide)).2 (by decide) (by decide) (by rw [t]; decide)]
    exact ⟨rfl, rfl, rfl⟩
theorem pmb_58 {t : Nat} (h : pmb t = true) : t ≠ 3 ∧ (Nat.blt t 55 || Nat.blt 60 t) = true ∧ t ≠ 48 := by
  have hlt : t < 29 := Classical.byContradiction fun w => by
    have e : Nat.shiftRight 476028928 t = 0 := by
      show 476028928 >>> t = 0
      rw [Nat.shiftRight_eq_div_pow]
      exact Nat.div_eq_of_lt (Nat.lt_of_lt_of_le (show 476028928 < 2 ^ 29 by decide) (Nat.pow_le_pow_right (by decide) (by omega)))
    unfold pmb at h
    rw [e] at h
    cases h
  have key : ∀ j, j < 29 → pmb j = true → j ≠ 3 ∧ (Nat.blt j 55 || Nat.blt 60 j) = true ∧ j ≠ 48 := by decide
  exact key t hlt h
section SlX
variable {τ τ3 : Nat → Nat} {h g1 g2 g3 : cz_H} {Ls : List vz}
theorem sl_C (B1 : ez_B τ g1) (P1 : pz τ h g1) (o : ∀ q, τ q ≠ 0 → q ≠ 202 → q ≠ 805 → g2.2.2 q = g1.2.2 q) : ∀ q, τ q ≠ 0 → τ q ≠ 3 → (q < 723 ∨ 728 < q) → q ≠ 202 → q ≠ 805 → g2.2.2 q = h.2.2 q := fun q h0 h1 h2 h3 h4 => (o q h0 h3 h4).trans (P1.2.1 q h1 h2)
theorem sl_m2 (hX : jz_X τ) (c : ∀ q, τ q ≠ 0 → τ q ≠ 3 → (q < 723 ∨ 728 < q) → q ≠ 202 → q ≠ 805 → g2.2.2 q = h.2.2 q) : mk2 τ h τ g2 := by
  refine ⟨fun r hr => ⟨rfl, ?_⟩, fun _ _ => rfl, fun j _ => ?_⟩
  · obtain ⟨k1, k2, k3, k4, -⟩ := pmb_no hr
    obtain ⟨k5, k6, k7⟩ := pmb_58 hr
    exact c r k2 k5 (rng_tag hX rfl k6) (fun e => by rw [e, hX 202 (by decide)] at k7; exact k7 rfl) (fun e => by rw [e, hX 805 (by decide)] at k4; exact k4 rfl)
  · have t : τ 770 = 75 := hX 770 (by decide)
    unfold qz_I; rw [c 770 (by rw [t]; decide) (by rw [t]; decide) (by decide) (by decide) (by decide)]
theorem sl_B (hb : dz_B tz_T (qz_X rR) τ h) (t : rT τ h) (m : mJ τ h Ls) (w : uz_wf (vF Ls)) (u : qz_I h 206 2 = 0 ∧ qz_I h 206 3 = 0) (p : rP h) (J1 : jz_I τ g1 (vF Ls) (vE Ls)) (P1 : pz τ h g1) (B2 : ez_B τ g2) (o : ∀ q, τ q ≠ 0 → q ≠ 202 → q ≠ 805 → g2.2.2 q = g1.2.2 q) (o2 : ∀ j, j ≠ 6 → qz_I g2 202 j = qz_I g1 202 j) (M3 : mI τ3 g3 Ls 0) (e3 : eD τ3 g3 (vF Ls)) (nb : qz_N g3 (bw g3) ≤ qz_N g3 (dc g3)) (W : sW τ g2 τ3 g3) (s6 : qz_I g2 202 6 = 0 ↔ qz_I g3 770 7 = 0) (s7 : qz_I g3 770 7 ≠ 0 → uz_S (vF Ls) (vE Ls) ∧ sq g1 ∧ pP g3 (vF Ls) ∧ ∀ x, (vF Ls x).2 ≠ none → az (vF Ls) 501 x) (ww : rW τ h Ls) (xx : rXt h) (sd : qz_I g3 770 7 ≠ 0 → pQ g3 (vF Ls) (vE Ls) ∧ cFl g1 (vF Ls) ∧ cP g1 (vF Ls) (vE Ls)) : dz_B tz_T (qz_X rR) τ3 g3 := by
  have hB := dz_ezB hb
  have hX := hb.2.1.1
  have hXP := hb.2.1.2.2.2.1
  have c := sl_C J1.1 P1 o
  have t770 : τ 770 = 75 := hX 770 (by decide)
  have m2 : mJ τ g2 Ls := mK.Jm ⟨sl_m2 hX c, t⟩ m
  have cel : ∀ q tg, τ q = tg → (!(Nat.beq tg 0) && (!(Nat.beq tg 3) && ((Nat.blt tg 55 || Nat.blt 60 tg) && (!(Nat.beq tg 48) && !(Nat.beq tg 35))))) = true → g2.2.2 q = h.2.2 q ∧ g1.2.2 q = h.2.2 q := fun q tg hq ht => by
    simp only [Bool.and_eq_true, Bool.not_eq_true'] at ht
    obtain ⟨h0, h1, h2, h3, h4⟩ := ht
    have q0 : τ q ≠ 0 := fun e => by rw [← hq, e] at h0; cases h0
    have q3 : τ q ≠ 3 := fun e => by rw [← hq, e] at h1; cases h1
    have qr := rng_tag hX hq h2
    exact ⟨c q q0 q3 qr (fun e => by rw [e, hX 202 (by decide)] at hq; rw [← hq] at h3; cases h3) (fun e => by rw [e, hX 805 (by decide)] at hq; rw [← hq] at h4; cases h4), P1.2.1 q q3 qr⟩
  have j7 : ∀ j, qz_I g2 770 j = qz_I h 770 j := fun j => by unfold qz_I; rw [(cel 770 75 t770 rfl).1]
  have i7 : ∀ j, qz_I g1 770 j = qz_I h 770 j := fun j => by unfold qz_I; rw [(cel 770 75 t770 rfl).2]
  have tls := t.2.2.2.1.2.1
  have tbw := t.2.2.2.1.2.2.2.1
  have els : ls g1 = ls h := by unfold ls qz_P; rw [i7]
  have ebw : bw g1 = bw h := by unfold bw qz_P; rw [i7]
  have cls := (cel (ls h) 18 tls rfl).2
  have cbw := (cel (bw h) 20 tbw rfl).2
  have t1 : rT τ g1 := rT_of2 J1 (fun i hi => by
    have hi' : (i : Int) < lc h := by unfold lc at hi ⊢; rw [← i7]; exact hi
    have e : qz_P g1 (ls g1) i = qz_P h (ls h) i := by rw [els]; unfold qz_P qz_I; rw [cls]
    rw [e]; exact t.2.2.2.2.2.2.2.1 i hi') (fun i hi => by
    have hi' : (i : Int) < cn h := by unfold cn at hi ⊢; rw [← i7]; exact hi
    have e : qz_P g1 (bw g1) i = qz_P h (bw h) i := by rw [ebw]; unfold qz_P qz_I; rw [cbw]
    rw [e]; exact t.2.2.2.2.2.2.2.2 i hi')
  have k1 : ck2 τ g1 τ g2 := ⟨fun r hr => ⟨rfl, by
    obtain ⟨r1, r2, r3, -⟩ := pcb_no hr
    exact o r r2 (fun e => by rw [e, hX 202 (by decide)] at hr; cases hr) (fun e => by rw [e, hX 805 (by decide)] at r3; exact r3 rfl)⟩, o2 1 (by decide), o2 4 (by decide), o2 5 (by decide)⟩
  have c2 : cJ τ g2 (vF Ls) (vE Ls) := cK.Jc ⟨k1, t1⟩ J1.2.2
  obtain ⟨-, -, -, -, p3, ⟨-, p5, -, p6, -⟩, -⟩ := hXP
  have ebw2 : bw g2 = bw h := by unfold bw qz_P; rw [j7]
  have ecn2 : cn g2 = cn h := j7 23
  have cbw2 := (cel (bw h) 20 tbw rfl).1
  have t2 : rT τ g2 := rT_of ⟨B2, hX, c2⟩ ⟨B2, hX, m2⟩ (fun i hi => by rw [ecn2] at hi; rw [ebw2]; unfold qz_I; rw [cbw2]; exact p3 i hi) (by rw [ecn2, ebw2]; unfold qz_N; rw [cbw2]; exact p5)
  have k3 := sW_c2 hX W
  have c3 : cJ τ3 g3 (vF Ls) (vE Ls) := cK.Jc ⟨k3, t2⟩ c2
  have wc : ∀ q tg, τ q = tg → (!(Nat.beq tg 0) && (!(Nat.beq tg 75) && (!(Nat.beq tg (tz_ex 794)) && (Nat.blt tg 19 || Nat.blt 22 tg)))) = true → τ3 q = τ q ∧ g3.2.2 q = g2.2.2 q := fun q tg hq ht => by
    simp only [Bool.and_eq_true, Bool.not_eq_true', Bool.or_eq_true] at ht
    obtain ⟨h0, h1, h2, h3⟩ := ht
    have q0 : τ q ≠ 0 := fun e => by rw [← hq, e] at h0; cases h0
    have nq : ∀ p, tz_ex p ≠ 0 → Nat.beq tg (tz_ex p) = false → q ≠ p := fun p w1 w2 e => by rw [e, hX p w1] at hq; rw [hq, Nat.beq_refl] at w2; cases w2
    exact ⟨(W.1 q q0).1, (W.1 q q0).2 (nq 770 (by decide) h1) (nq 794 (by decide) h2) (by rw [hq]; exact h3.imp Nat.blt_eq.mp Nat.blt_eq.mp)⟩
  have c202 := (wc 202 48 (hX 202 (by decide)) rfl).2
  have e6 : qz_I g3 202 6 = qz_I g2 202 6 := by unfold qz_I; rw [c202]
  have f7 := W.2.2.1
  have x2 := hb.2.1.2.2.1
  have t23 := x2.2.1
  have u770 : τ3 770 = 75 := M3.2.1 770 (by decide)
  obtain ⟨w1, w2⟩ := wc _ 23 t23 rfl
  have e35 : qz_P g3 770 35 = qz_P h 770 35 := by unfold qz_P; rw [f7 35 (by decide) (by decide) (by decide), j7]
  have n35 : qz_N g3 (qz_P h 770 35) = qz_N h (qz_P h 770 35) := by unfold qz_N; rw [w2, (cel _ 23 t23 rfl).1]
  have esk : sk g2 = sk h := by unfold sk qz_P; rw [j7]
  have nsk : qz_N g2 (sk h) = qz_N h (sk h) := by unfold qz_N; rw [(cel (sk h) 21 x2.1.1 rfl).1]
  refine X_new ⟨M3.1, M3.2.1, c3⟩ M3 ⟨⟨ez_tsk M3.1 u770, W.2.2.2.1.2.2 (by rw [esk, nsk]; show qz_I g2 770 25 ≤ _; rw [j7]; exact x2.1.2)⟩, by rw [e35, w1]; exact t23, by rw [e35, n35, f7 36 (by decide) (by decide) (by decide), j7]; exact x2.2.2⟩ (fun i hi => (e3.2.2.2.2.1 i hi).1.1) e3.2.2.1.2.2.1 nb w (by rw [e6]; exact s6) (fun z => ?_) ?_ (fun j => ?_) ?_ ?_
  · obtain ⟨a1, a2, a3, a4⟩ := s7 z
    exact ⟨a1, cK.Js ⟨k3, t2⟩ (cK.Js ⟨k1, t1⟩ a2), e3.2.2, a3, a4⟩
  · have t206 : τ 206 = 3 := hX 206 (by decide)
    have a1 : ∀ j, qz_I g3 206 j = qz_I g1 206 j := fun j => by unfold qz_I; rw [(wc 206 3 t206 rfl).2, o 206 (by rw [t206]; decide) (by decide) (by decide)]
    rw [a1, a1, P1.2.2 206 t206 2 (by decide), P1.2.2 206 t206 3 (by decide)]; exact u
  · have a1 : qz_I g3 193 j = qz_I h 193 j := by unfold qz_I; rw [(wc 193 45 (hX 193 (by decide)) rfl).2, (cel 193 45 (hX 193 (by decide)) rfl).1]
    have a2 : qz_I g3 771 j = qz_I h 771 j := by unfold qz_I; rw [(wc 771 76 (hX 771 (by decide)) rfl).2, (cel 771 76 (hX 771 (by decide)) rfl).1]
    rw [a1, a2]; exact p j
  · have g31 : ∀ q tg, τ q = tg → ((!(Nat.beq tg 0) && (!(Nat.beq tg 75) && (!(Nat.beq tg (tz_ex 794)) && (Nat.blt tg 19 || Nat.blt 22 tg)))) && (!(Nat.beq (tz_ex 202) tg) && !(Nat.beq (tz_ex 805) tg))) = true → τ3 q = τ q ∧ g3.2.2 q = g1.2.2 q := fun q tg hq ht => by
      have ht9 := Bool.and_eq_true_iff.mp ht
      have ht8 := Bool.and_eq_true_iff.mp ht9.2
      have ht7 := (Bool.and_eq_true_iff.mp ht9.1).1
      obtain ⟨a1, a2⟩ := wc q tg hq ht9.1
      refine ⟨a1, a2.trans (o q (fun e => ?_) (ne_tag hX hq 202 ht8.1) (ne_tag hX hq 805 ht8.2))⟩
      rw [← hq, e] at ht7; cases ht7
    have j1 := jx_pz hB hX ww.2.2.1 P1
    have t206 : τ 206 = 3 := hX 206 (by decide)
    have h206 : ∀ j, j < 8 → qz_I g3 206 j = qz_I h 206 j := fun j hj => by
      rw [show qz_I g3 206 j = qz_I g1 206 j by unfold qz_I; rw [(g31 206 3 t206 rfl).2]]; exact P1.2.2 206 t206 j hj
    have i201 : qz_I g3 202 1 = qz_I g1 202 1 := by rw [show qz_I g3 202 1 = qz_I g2 202 1 by unfold qz_I; rw [c202]]; exact o2 1 (by decide)
    refine ⟨rU_of M3.2.1, ww.2.1.k ((wc 195 47 (hX 195 (by decide)) rfl).2.trans (cel 195 47 (hX 195 (by decide)) rfl).1) ((wc 773 78 (hX 773 (by decide)) rfl).2.trans (cel 773 78 (hX 773 (by decide)) rfl).1), jx_tr J1.1 (hX 202 (by decide)) (hX 203 (by decide)) j1 i201 (g31 203 49 (hX 203 (by decide)) rfl).2 (fun q hq => by rcases hq with e | e | e | e <;> exact g31 q _ e rfl), ww.2.2.2.1, fun z => ?_, by rw [h206 1 (by decide), h206 5 (by decide), h206 6 (by decide), h206 7 (by decide)]; exact ww.2.2.2.2.2⟩
    obtain ⟨d1, d2, d3⟩ := sd z
    exact ⟨d1, cFl_tr J1.1 (hX 202 (by decide)) (hX 203 (by decide)) d2 i201 (g31 203 49 (hX 203 (by decide)) rfl).2 (fun q hq => by rcases hq with e | e <;> exact (g31 q _ e rfl).2) (g31 723 55 (hX 723 (by decide)) rfl).2 (g31 724 56 (hX 724 (by decide)) rfl).2, d3.keep (g31 723 55 (hX 723 (by decide)) rfl).2 (g31 727 59 (hX 727 (by decide)) rfl).2 (g31 728 60 (hX 728 (by decide)) rfl).2⟩
  · exact rX_t ww.1 xx (fun q hq => by rcases hq with e | e | e | e <;> exact (wc q _ e rfl).2.trans (cel q _ e rfl).1)
theorem sl_stp (hX : jz_X τ) (hB : ez_B τ h) (hn : qz_I h 192 1 = qz_I h 770 2) (J1 : ez_B τ g1) (P1 : pz τ h g1) (B2 : ez_B τ g2) (o : ∀ q, τ q ≠ 0 → q ≠ 202 → q ≠ 805 → g2.2.2 q = g1.2.2 q) (o2 : ∀ j, j ≠ 6 → qz_I g2 202 j = qz_I g1 202 j) (r1 : g2.1 ≤ h.1 + 1) (r2 : g2.2.1 ≤ h.2.1 + 6) (W : sW τ g2 τ3 g3) : stp h g3 := by
  have c := sl_C J1 P1 o
  have t770 : τ 770 = 75 := hX 770 (by decide)
  have cel : ∀ q tg, τ q = tg → (!(Nat.beq tg 0) && (!(Nat.beq tg 3) && ((Nat.blt tg 55 || Nat.blt 60 tg) && (!(Nat.beq tg 48) && !(Nat.beq tg 35))))) = true → g2.2.2 q = h.2.2 q := fun q tg hq ht => by
    simp only [Bool.and_eq_true, Bool.not_eq_true'] at ht
    obtain ⟨h0, h1, h2, h3, h4⟩ := ht
    exact c q (fun e => by rw [← hq, e] at h0; cases h0) (fun e => by rw [← hq, e] at h1; cases h1) (rng_tag hX hq h2) (fun e => by rw [e, hX 202 (by decide)] at hq; rw [← hq] at h3; cases h3) (fun e => by rw [e, hX 805 (by decide)] at hq; rw [← hq] at h4; cases h4)
  have wc : ∀ q tg, τ q = tg → (!(Nat.beq tg 0) && (!(Nat.beq tg 75) && (!(Nat.beq tg (tz_ex 794)) && (Nat.blt tg 19 || Nat.blt 22 tg)))) = true → g3.2.2 q = g2.2.2 q := fun q tg hq ht => by
    simp only [Bool.and_eq_true, Bool.not_eq_true', Bool.or_eq_true] at ht
    obtain ⟨h0, h1, h2, h3⟩ := ht
    have q0 : τ q ≠ 0 := fun e => by rw [← hq, e] at h0; cases h0
    have nq : ∀ p, tz_ex p ≠ 0 → Nat.beq tg (tz_ex p) = false → q ≠ p := fun p w1 w2 e => by rw [e, hX p w1] at hq; rw [hq, Nat.beq_refl] at w2; cases w2
    exact (W.1 q q0).2 (nq 770 (by decide) h1) (nq 794 (by decide) h2) (by rw [hq]; exact h3.imp Nat.blt_eq.mp Nat.blt_eq.mp)
  have j7 : ∀ j, qz_I g2 770 j = qz_I h 770 j := fun j => by unfold qz_I; rw [cel 770 75 t770 rfl]
  have f7 := W.2.2.1
  obtain ⟨a1, a2, a3, a4, a5, a6⟩ := n6 (g := g2) hB t770 (fun j _ => j7 j) (fun q q1 q2 q3 => by
    have : τ q = 20 ∨ τ q = 21 ∨ τ q = 23 ∨ τ q = 24 ∨ τ q = 25 := by omega
    rcases this with e | e | e | e | e <;> exact cel q _ e rfl)
  obtain ⟨a7, a8⟩ := n2 (g := g2) hB t770 (j7 9) (j7 11) (fun q hq => by rcases hq with e | e <;> exact cel q _ e rfl)
  obtain ⟨b7, b8⟩ := n2 (g := g3) B2 t770 (f7 9 (by decide) (by decide) (by decide)) (f7 11 (by decide) (by decide) (by decide)) (fun q hq => by rcases hq with e | e <;> exact wc q _ e rfl)
  obtain ⟨-, -, t35, t38, t39, t40⟩ := ez_tg5 B2 t770
  have b3 : qz_N g3 (gel g3) = qz_N g2 (gel g2) := by rw [show gel g3 = gel g2 by unfold gel qz_P; rw [f7 35 (by decide) (by decide) (by decide)]]; unfold qz_N; rw [wc _ 23 t35 rfl]
  have b4 : qz_N g3 (gfo g3) = qz_N g2 (gfo g2) := by rw [show gfo g3 = gfo g2 by unfold gfo qz_P; rw [f7 38 (by decide) (by decide) (by decide)]]; unfold qz_N; rw [wc _ 24 t38 rfl]
  have b5 : qz_N g3 (got g3) = qz_N g2 (got g2) := by rw [show got g3 = got g2 by unfold got qz_P; rw [f7 39 (by decide) (by decide) (by decide)]]; unfold qz_N; rw [wc _ 25 t39 rfl]
  have b6 : qz_N g3 (gke g3) = qz_N g2 (gke g2) := by rw [show gke g3 = gke g2 by unfold gke qz_P; rw [f7 40 (by decide) (by decide) (by decide)]]; unfold qz_N; rw [wc _ 25 t40 rfl]
  have r := W.2.2.2.2.1
  rw [a1, a2] at r
  have i1 : qz_I g3 192 1 = qz_I h 192 1 := by unfold qz_I; rw [wc 192 44 (hX 192 (by decide)) rfl, cel 192 44 (hX 192 (by decide)) rfl]
  have i2 : qz_I g3 770 2 = qz_I h 770 2 := by rw [f7 2 (by decide) (by decide) (by decide), j7]
  have i12 : qz_I g3 770 12 = qz_I h 770 12 := by rw [f7 12 (by decide) (by decide) (by decide), j7]
  have i5 : qz_I g3 202 5 = qz_I h 202 5 := by
    rw [show qz_I g3 202 5 = qz_I g2 202 5 by unfold qz_I; rw [wc 202 48 (hX 202 (by decide)) rfl], o2 5 (by decide)]
    unfold qz_I; rw [P1.2.1 202 (by rw [hX 202 (by decide)]; decide) (by decide)]
  refine ⟨by unfold qz_N; rw [wc 0 34 (hX 0 (by decide)) rfl, cel 0 34 (hX 0 (by decide)) rfl], by rw [i1, i2]; exact hn, ?_, ?_, fun k hk => ?_⟩
  · unfold psi; rw [b3, b4, b5, b6, b7, b8, a3, a4, a5, a6, a7, a8, i1]; omega
  · unfold phc; rw [b3, b4, b5, b6, b7, b8, a3, a4, a5, a6, a7, a8, i1]; omega
  · unfold lnb at hk ⊢; rw [i1, i5, i12]; omega
/-- behind reset -/
theorem rs_B (hb : dz_B tz_T (qz_X rR) τ h) (hn : qz_I h 192 1 = qz_I h 770 2) (t : rT τ h) (u : qz_I h 206 2 = 0 ∧ qz_I h 206 3 = 0) (p : rP h) (J1 : jz_I τ g1 (fun _ => (0, none)) (fun _ => False)) (c : ∀ q, τ q ≠ 1 → τ q ≠ 4 → τ q ≠ 48 → g1.2.2 q = h.2.2 q) (z5 : qz_I g1 202 5 = 0) (z6 : qz_I g1 202 6 = 0) (r1 : g1.1 = h.1 ∧ g1.2.1 = h.2.1) (M3 : mI τ g3 [] 0) (c3 : ∀ q, τ q ≠ 0 → q ≠ 770 → q ≠ 782 → τ q ≠ 88 → g3.2.2 q = g1.2.2 q) (f7 : ∀ j, j ≠ 0 → j ≠ 7 → j ≠ 8 → j ≠ 10 → j ≠ 12 → qz_I g3 770 j = qz_I g1 770 j) (z7 : qz_I g3 770 7 = 0) (r3 : g3.1 = g1.1 ∧ g3.2.1 = g1.2.1) {Ls9 : List vz} (ww : rW τ h Ls9) (hj : jx τ g1 xD0) (y9 : ∀ t, t < 8 → qz_I g3 (754 + 2 * t) 1 = 0) (z82 : ∀ s : Nat, s < 8 → qz_I g3 782 s = 0) : dz_B tz_T (qz_X rR) τ g3 ∧ stp h g3 := by
  have hB := dz_ezB hb
  have hX := hb.2.1.1
  have hXP := hb.2.1.2.2.2.1
  have t770 : τ 770 = 75 := hX 770 (by decide)
  have i7 : ∀ j, qz_I g1 770 j = qz_I h 770 j := fun j => by unfold qz_I; rw [c 770 (by rw [t770]; decide) (by rw [t770]; decide) (by rw [t770]; decide)]
  have cel : ∀ q tg, τ q = tg → (!(Nat.beq tg 0) && ((!(Nat.beq tg 1) && (!(Nat.beq tg 4) && (!(Nat.beq tg 48) && !(Nat.beq tg 88)))) && (!(Nat.beq tg 75) && !(Nat.beq tg (tz_ex 782))))) = true → g1.2.2 q = h.2.2 q ∧ g3.2.2 q = h.2.2 q := fun q tg hq ht => by
    simp only [Bool.and_eq_true, Bool.not_eq_true'] at ht
    obtain ⟨h0, ⟨h1, h2, h3, h88⟩, h4, h5⟩ := ht
    have nb : ∀ k, Nat.beq tg k = false → τ q ≠ k := fun k hk e => by rw [hq] at e; rw [e, Nat.beq_refl] at hk; cases hk
    have nq : ∀ p, tz_ex p ≠ 0 → Nat.beq tg (tz_ex p) = false → q ≠ p := fun p w1 w2 e => by rw [e, hX p w1] at hq; rw [hq, Nat.beq_refl] at w2; cases w2
    have e1 := c q (nb 1 h1) (nb 4 h2) (nb 48 h3)
    exact ⟨e1, (c3 q (nb 0 h0) (nq 770 (by decide) h4) (nq 782 (by decide) h5) (nb 88 h88)).trans e1⟩
  have g7 : ∀ j, j ≠ 0 → j ≠ 7 → j ≠ 8 → j ≠ 10 → j ≠ 12 → qz_I g3 770 j = qz_I h 770 j := fun j a1 a2 a3 a4 a5 => (f7 j a1 a2 a3 a4 a5).trans (i7 j)
  have tls := t.2.2.2.1.2.1
  have tbw := t.2.2.2.1.2.2.2.1
  have tdc := t.2.2.2.1.2.2.1
  have els : ls g1 = ls h := by unfold ls qz_P; rw [i7]
  have ebw : bw g1 = bw h := by unfold bw qz_P; rw [i7]
  have cls := (cel (ls h) 18 tls rfl).1
  have cbw := (cel (bw h) 20 tbw rfl).1
  have t1 : rT τ g1 := rT_of2 J1 (fun i hi => by
    have hi' : (i : Int) < lc h := by unfold lc at hi ⊢; rw [← i7]; exact hi
    have e : qz_P g1 (ls g1) i = qz_P h (ls h) i := by rw [els]; unfold qz_P qz_I; rw [cls]
    rw [e]; exact t.2.2.2.2.2.2.2.1 i hi') (fun i hi => by
    have hi' : (i : Int) < cn h := by unfold cn at hi ⊢; rw [← i7]; exact hi
    have e : qz_P g1 (bw g1) i = qz_P h (bw h) i := by rw [ebw]; unfold qz_P qz_I; rw [cbw]
    rw [e]; exact t.2.2.2.2.2.2.2.2 i hi')
  have c202 : g3.2.2 202 = g1.2.2 202 := c3 202 (by rw [hX 202 (by decide)]; decide) (by decide) (by decide) (by rw [hX 202 (by decide)]; decide)
  have k3 : ck2 τ g1 τ g3 := by
    refine ⟨fun r hr => ⟨rfl, ?_⟩, ?_⟩
    · obtain ⟨r1, r2, -⟩ := pcb_no hr
      have ne : ∀ p, tz_ex p ≠ 0 → pcb (tz_ex p) = false → r ≠ p := fun p h1 h2 e => by rw [e, hX p h1, h2] at hr; cases hr
      exact c3 r r2 (ne 770 (by decide) (by decide)) (ne 782 (by decide) (by decide)) (fun e => by rw [e] at hr; cases hr)
    · unfold qz_I; rw [c202]; exact ⟨rfl, rfl, rfl⟩
  have cc3 : cJ τ g3 (vF []) (vE []) := cK.Jc ⟨k3, t1⟩ J1.2.2
  have ebw3 : bw g3 = bw h := by unfold bw qz_P; rw [g7 22 (by decide) (by decide) (by decide) (by decide) (by decide)]
  have edc3 : dc g3 = dc h := by unfold dc qz_P; rw [g7 21 (by decide) (by decide) (by decide) (by decide) (by decide)]
  have ecn3 : cn g3 = cn h := g7 23 (by decide) (by decide) (by decide) (by decide) (by decide)
  have cb3 := (cel (bw h) 20 tbw rfl).2
  have cd3 := (cel (dc h) 19 tdc rfl).2
  obtain ⟨-, -, -, -, p3, ⟨-, p5, -, p6, -⟩, -⟩ := hXP
  have e206 := (cel 206 3 (hX 206 (by decide)) rfl).2
  have e193 := (cel 193 45 (hX 193 (by decide)) rfl).2
  have e771 := (cel 771 76 (hX 771 (by decide)) rfl).2
  have wf0 : uz_wf (vF []) := fun x => ⟨Int.le_refl 0, fun cp vs e => by cases e⟩
  have i1 : qz_I g3 192 1 = qz_I h 192 1 := by unfold qz_I; rw [(cel 192 44 (hX 192 (by decide)) rfl).2]
  have i2 : qz_I g3 770 2 = qz_I h 770 2 := g7 2 (by decide) (by decide) (by decide) (by decide) (by decide)
  have i5 : qz_I g3 202 5 = 0 := by rw [show qz_I g3 202 5 = qz_I g1 202 5 by unfold qz_I; rw [c202]]; exact z5
  have i6 : qz_I g3 202 6 = 0 := by rw [show qz_I g3 202 6 = qz_I g1 202 6 by unfold qz_I; rw [c202]]; exact z6
  have i12 : qz_I g3 770 12 = 0 := by
    have : ((([] : List vz).length : Nat) : Int) = lc g3 := M3.2.2.2.2.2.2.1
    unfold lc at this; rw [← this]; rfl
  have b5 : 0 ≤ qz_I h 202 5 ∧ qz_I h 202 5 ≤ 256 := ez_fB (cl := 2) hB (hX 202 (by decide)) tq_48 rfl rfl (by decide)
  obtain ⟨a1, a2, a3, a4, a5, a6⟩ := n6 (g := g3) hB t770 (fun j hj => g7 j (by omega) (by omega) (by omega) (by omega) (by omega)) (fun q q1 q2 q3 => by
    have : τ q = 20 ∨ τ q = 21 ∨ τ q = 23 ∨ τ q = 24 ∨ τ q = 25 := by omega
    rcases this with e | e | e | e | e <;> exact (cel q _ e rfl).2)
  obtain ⟨a7, a8⟩ := n2 (g := g3) hB t770 (g7 9 (by decide) (by decide) (by decide) (by decide) (by decide)) (g7 11 (by decide) (by decide) (by decide) (by decide) (by decide)) (fun q hq => by rcases hq with e | e <;> exact (cel q _ e rfl).2)
  refine ⟨X_new ⟨M3.1, M3.2.1, cc3⟩ M3 (X2_tr hb.2.1.2.2.1 (g7 24 (by decide) (by decide) (by decide) (by decide) (by decide)) (g7 25 (by decide) (by decide) (by decide) (by decide) (by decide)) (g7 35 (by decide) (by decide) (by decide) (by decide) (by decide)) (g7 36 (by decide) (by decide) (by decide) (by decide) (by decide)) (fun q hq => by rcases hq with e | e <;> exact ⟨rfl, (cel q _ e rfl).2⟩)) (fun i hi => ?_) ?_ ?_ wf0 ⟨fun _ => z7, fun _ => i6⟩ (fun z => absurd z7 z) ?_ (fun j => ?_) ?_ ?_, ?_⟩
  · rw [ecn3] at hi; rw [ebw3]; unfold qz_I; rw [cb3]; exact p3 i hi
  · rw [ecn3, ebw3]; unfold qz_N; rw [cb3]; exact p5
  · rw [ebw3, edc3]; unfold qz_N; rw [cb3, cd3]; exact p6
  · unfold qz_I; rw [e206]; exact u
  · unfold qz_I; rw [e193, e771]; exact p j
  · refine ⟨rU_of M3.2.1, ww.2.1.k (cel 195 47 (hX 195 (by decide)) rfl).2 (cel 773 78 (hX 773 (by decide)) rfl).2, jx_tr J1.1 (hX 202 (by decide)) (hX 203 (by decide)) hj (by unfold qz_I; rw [c202]) (c3 203 (by rw [hX 203 (by decide)]; decide) (by decide) (by decide) (by rw [hX 203 (by decide)]; decide)) (fun q hq => ⟨rfl, c3 q (by omega) (fun e => by rw [e, t770] at hq; omega) (fun e => by rw [e, hX 782 (by decide)] at hq; revert hq; decide) (by omega)⟩), dok_0, fun z => absurd z7 z, ?_⟩
    unfold qz_I; rw [e206]; exact ww.2.2.2.2.2
  · exact ⟨fun _ => [], fun t ht => ⟨⟨y9 t ht, fun j v hv => by cases hv⟩, ptl_nil, Nat.zero_le _⟩, fun t ht => ⟨⟨z82 t ht, fun j v hv => by cases hv⟩, ptl_nil, Nat.zero_le _⟩⟩
  · refine ⟨by unfold qz_N; rw [(cel 0 34 (hX 0 (by decide)) rfl).2], by rw [i1, i2]; exact hn, ?_, ?_, fun k hk => ?_⟩
    · unfold psi; rw [a1, a2, a3, a4, a5, a6, a7, a8, i1, r3.2, r1.2]; omega
    · unfold phc; rw [a1, a2, a3, a4, a5, a6, a7, a8, i1, r3.1, r1.1]; omega
    · unfold lnb at hk ⊢; rw [i1, i5, i12]; omega
end SlX
/-! The law: line. (Written by wip/p2/py/pv108c.py: with its answers.) -/
/-- what a LINE of a kind answers -/
def lnA (b : Int → Int) (n a v : Int) : Prop := (a = 0 ∧ rz_an b n 7 (rz_g0 b) v) ∨ (a = 1 ∧ rz_an b n 5 (rz_g1 b) v) ∨ (a = 2 ∧ rz_an b n 3 (rz_g2 b) v) ∨ (a = 3 ∧ rz_an b n 2 (rz_g3 b) v) ∨ (a = 4 ∧ rz_an b n 2 (rz_g4 b) v)
theorem lnA_u {b : Int → Int} {n a v v2 : Int} (h1 : lnA b n a v) (h2 : lnA b n a v2) : v = v2 := by
  have u0 : ∀ A v v2, rz_g0 b A v → rz_g0 b A v2 → v = v2 := fun A v v2 ⟨f, l, c, dd, w1, w2⟩ ⟨f', l', c', dd', x1, x2⟩ => by
    obtain ⟨rfl, rfl, -, -⟩ := rz_F_uniq w1 x1
    exact w2.trans x2.symm
  have u4 : ∀ A v v2, rz_g4 b A v → rz_g4 b A v2 → v = v2 := fun A v v2 ⟨w1, w2⟩ ⟨_, x2⟩ => by
    cases e : rz_rw b 3 (rz_ff b A 0) (rz_tt b A 0) with
    | none => exact absurd e w1.1
    | some vs => rw [w2 vs e, x2 vs e]
  rcases h1 with ⟨e, h1⟩ | ⟨e, h1⟩ | ⟨e, h1⟩ | ⟨e, h1⟩ | ⟨e, h1⟩ <;> subst e
  · rcases h2 with ⟨e, h2⟩ | ⟨e, h2⟩ | ⟨e, h2⟩ | ⟨e, h2⟩ | ⟨e, h2⟩
    · exact rz_an_u u0 h1 h2
    all_goals exact absurd e (by decide)
  · rcases h2 with ⟨e, h2⟩ | ⟨e, h2⟩ | ⟨e, h2⟩ | ⟨e, h2⟩ | ⟨e, h2⟩
    · exact absurd e (by decide)
    · exact rz_an_u (fun A v v2 w x => w.2.trans x.2.symm) h1 h2
    all_goals exact absurd e (by decide)
  · rcases h2 with ⟨e, h2⟩ | ⟨e, h2⟩ | ⟨e, h2⟩ | ⟨e, h2⟩ | ⟨e, h2⟩
    · exact absurd e (by decide)
    · exact absurd e (by decide)
    · exact rz_an_u (fun A v v2 w x => w.2.trans x.2.symm) h1 h2
    all_goals exact absurd e (by decide)
  · rcases h2 with ⟨e, h2⟩ | ⟨e, h2⟩ | ⟨e, h2⟩ | ⟨e, h2⟩ | ⟨e, h2⟩
    · exact absurd e (by decide)
    · exact absurd e (by decide)
    · exact absurd e (by decide)
    · exact rz_an_u (fun A v v2 w x => w.2.2.trans x.2.2.symm) h1 h2
    · exact absurd e (by decide)
  · rcases h2 with ⟨e, h2⟩ | ⟨e, h2⟩ | ⟨e, h2⟩ | ⟨e, h2⟩ | ⟨e, h2⟩
    · exact absurd e (by decide)
    · exact absurd e (by decide)
    · exact absurd e (by decide)
    · exact absurd e (by decide)
    · exact rz_an_u u4 h1 h2
section EzLn
variable {d : Nat} {h : cz_H} {τ : Nat → Nat} {Q : cz_F → Prop} {Ls : List vz}
theorem rd_mlineX {a : Int} (hB : ez_B τ h) (t770 : τ 770 = 75) (ar : ez_rg a) (ho : a < 0 ∨ 4 < a) (k : ∀ g, ez_B τ g → ez_fr (ez_one 770) h g → (∀ j, j ≠ 0 → qz_I g 770 j = qz_I h 770 j) → qz_I g 770 0 = 1 → Q (.inl (some (ez_v (.inl 0))), g)) : ez_W (d + 10) cm_276 0 [(0, .inr (.inr (some (770)))), (1, .inl (a))] [] h Q := by
  obtain ⟨ar1, ar2⟩ := ar
  refine ez_go (n := 2) (pc' := 2) (L' := [(0, .inr (.inr (some (770)))), (1, .inl (a))]) (st' := [.inl (0), .inr (.inr (some (770)))]) rfl ?_
  refine ez_pf hB t770 rfl rfl tq_75 rfl rfl rfl rfl (ez_vdI rfl rfl (by omega) (by omega)) (fun hB1 w2 => ?_)
  have fP : ez_fr (ez_one 770) h (dz_put h 770 0 (ez_v (.inl (0)))) := (ez_fr.refl (ez_one 770) h).put rfl _ _
  have iP : ∀ j, j ≠ 0 → qz_I (dz_put h 770 0 (ez_v (.inl (0)))) 770 j = qz_I h 770 j := fun j hj => ez_put_I (fun w => hj w.2)
  refine ez_go (n := 1) (pc' := 6) (L' := [(0, .inr (.inr (some (770)))), (1, .inl (a))]) (st' := [.inl (a)]) rfl ?_
  refine ez_if rfl rfl ⟨by first | omega | exact (sz_i32 _).1, by first | omega | exact (sz_i32 _).2⟩ (fun (c3 : (a) < (0)) => ?_) (fun (c3 : ¬((a) < (0))) => ?_)
  · skip
    refine ez_go (n := 2) (pc' := 16) (L' := [(0, .inr (.inr (some (770)))), (1, .inl (a))]) (st' := [.inl (1), .inr (.inr (some (770)))]) rfl ?_
    refine ez_cv hB1 t770 rfl rfl rfl tq_75 rfl rfl rfl (rd_mfail hB1 t770 (by omega) (by omega) (fun gf hBf ff9 jf vf0 => ez_K1 ?_))
    exact ez_retI rfl rfl (k gf hBf (fP.trans ff9) (fun j hj => by rw [jf j hj, iP j hj]) vf0)
  · skip
    refine ez_go (n := 2) (pc' := 11) (L' := [(0, .inr (.inr (some (770)))), (1, .inl (a))]) (st' := [.inl (4), .inl (a)]) rfl ?_
    refine ez_icmp rfl rfl ⟨by first | omega | exact (sz_i32 _).1, by first | omega | exact (sz_i32 _).2⟩ ⟨by first | omega | exact (sz_i32 _).1, by first | omega | exact (sz_i32 _).2⟩ (fun (c4 : (a) ≤ (4)) => ?_) (fun (c4 : ¬((a) ≤ (4))) => ?_)
    · skip
      exfalso; omega
    · skip
      refine ez_go (n := 2) (pc' := 16) (L' := [(0, .inr (.inr (some (770)))), (1, .inl (a))]) (st' := [.inl (1), .inr (.inr (some (770)))]) rfl ?_
      refine ez_cv hB1 t770 rfl rfl rfl tq_75 rfl rfl rfl (rd_mfail hB1 t770 (by omega) (by omega) (fun gf hBf ff9 jf vf0 => ez_K1 ?_))
      exact ez_retI rfl rfl (k gf hBf (fP.trans ff9) (fun j hj => by rw [jf j hj, iP j hj]) vf0)

def lnP (τ : Nat → Nat) (h : cz_H) (a : Int) (Ls : List vz) (F : cz_F) : Prop := ((a < 0 ∨ 4 < a) ∧ F = (.inr h.1, xc h 1)) ∨ ((0 ≤ a ∧ a ≤ 4) ∧ qz_I h 202 6 ≠ 0 ∧ F = (.inr h.1, xc h 2)) ∨ ((0 ≤ a ∧ a ≤ 4) ∧ qz_I h 202 6 = 0 ∧ ∃ g τ1 F2 E2 D2 o, F = (o, g) ∧ jx τ1 g D2 ∧ jz_I τ1 g F2 E2 ∧ fz τ (dz_put h 192 1 (ez_v (.inl 0))) τ1 g 5 65 ∧ rz_step (rz_b h) (qz_I h 192 1) a (vF Ls) (vE Ls) F2 E2 ∧ qz_I g 192 1 = 0 ∧ (qz_I g 202 5 = qz_I h 202 5 ∨ (qz_I g 202 5 = qz_I h 202 5 + 1 ∧ 0 < qz_I h 192 1)) ∧ (∀ j, j ≠ 1 → j ≠ 4 → j ≠ 5 → qz_I g 202 j = qz_I h 202 j) ∧ ((∃ v, o = .inl (some (ez_v (.inl v))) ∧ v ≠ -1 ∧ lnA (rz_b h) (qz_I h 192 1) a v ∧ xsl (rz_b h) (qz_I h 192 1) a (yD Ls) v D2) ∨ (∃ r, o = .inr r ∧ cz_exc g r = some 3 ∧ lnA (rz_b h) (qz_I h 192 1) a (-1) ∧ xsl (rz_b h) (qz_I h 192 1) a (yD Ls) (-1) D2)))
theorem rd_lineP {a : Int} (hI : jz_I τ h (vF Ls) (vE Ls)) (hj : jx τ h (yD Ls)) (hl : qz_I h 192 1 = 0 ∨ qz_I h 202 5 ≤ 255) (hr1 : h.1 + 5 ≤ 600192) (hr2 : h.2.1 + 65 ≤ 7302232) (ar : ez_rg a) : ez_W (d + 9) cm_21 0 [(0, .inr (.inr (some (192)))), (1, .inl (a))] [] h (lnP τ h a Ls) := by
  by_cases ha : 0 ≤ a ∧ a ≤ 4
  · have w : a = 0 ∨ a = 1 ∨ a = 2 ∨ a = 3 ∨ a = 4 := by omega
    rcases w with e | e | e | e | e <;> subst e
    · exact rd_line0 hI hj hl hr1 hr2 (fun s => Or.inr (Or.inl ⟨by decide, s, rfl⟩)) (fun s g τ1 F2 E2 D2 g1 gj g2 g3 g4 _ g6 g7 o ho => Or.inr (Or.inr ⟨by decide, s, g, τ1, F2, E2, D2, o, rfl, gj, g1, g2, g3, g4, g6, g7, ho.imp (fun ⟨v, a1, a2, a3, a4⟩ => ⟨v, a1, a2, Or.inl ⟨rfl, a3⟩, a4⟩) (fun ⟨r, a1, a2, a3, a4⟩ => ⟨r, a1, a2, Or.inl ⟨rfl, a3⟩, a4⟩)⟩))
    · exact rd_line1 hI hj hl hr1 hr2 (fun s => Or.inr (Or.inl ⟨by decide, s, rfl⟩)) (fun s g τ1 F2 E2 D2 g1 gj g2 g3 g4 _ g6 g7 o ho => Or.inr (Or.inr ⟨by decide, s, g, τ1, F2, E2, D2, o, rfl, gj, g1, g2, g3, g4, g6, g7, ho.imp (fun ⟨v, a1, a2, a3, a4⟩ => ⟨v, a1, a2, Or.inr (Or.inl ⟨rfl, a3⟩), a4⟩) (fun ⟨r, a1, a2, a3, a4⟩ => ⟨r, a1, a2, Or.inr (Or.inl ⟨rfl, a3⟩), a4⟩)⟩))
    · exact rd_line2 hI hj hl hr1 hr2 (fun s => Or.inr (Or.inl ⟨by decide, s, rfl⟩)) (fun s g τ1 F2 E2 D2 g1 gj g2 g3 g4 _ g6 g7 o ho => Or.inr (Or.inr ⟨by decide, s, g, τ1, F2, E2, D2, o, rfl, gj, g1, g2, g3, g4, g6, g7, ho.imp (fun ⟨v, a1, a2, a3, a4⟩ => ⟨v, a1, a2, Or.inr (Or.inr (Or.inl ⟨rfl, a3⟩)), a4⟩) (fun ⟨r, a1, a2, a3, a4⟩ => ⟨r, a1, a2, Or.inr (Or.inr (Or.inl ⟨rfl, a3⟩)), a4⟩)⟩))
    · exact rd_line3 hI hj hl hr1 hr2 (fun s => Or.inr (Or.inl ⟨by decide, s, rfl⟩)) (fun s g τ1 F2 E2 D2 g1 gj g2 g3 g4 _ g6 g7 o ho => Or.inr (Or.inr ⟨by decide, s, g, τ1, F2, E2, D2, o, rfl, gj, g1, g2, g3, g4, g6, g7, ho.imp (fun ⟨v, a1, a2, a3, a4⟩ => ⟨v, a1, a2, Or.inr (Or.inr (Or.inr (Or.inl ⟨rfl, a3⟩))), a4⟩) (fun ⟨r, a1, a2, a3, a4⟩ => ⟨r, a1, a2, Or.inr (Or.inr (Or.inr (Or.inl ⟨rfl, a3⟩))), a4⟩)⟩))
    · exact rd_line4 hI hj hl hr1 hr2 (fun s => Or.inr (Or.inl ⟨by decide, s, rfl⟩)) (fun s g τ1 F2 E2 D2 g1 gj g2 g3 g4 _ g6 g7 o ho => Or.inr (Or.inr ⟨by decide, s, g, τ1, F2, E2, D2, o, rfl, gj, g1, g2, g3, g4, g6, g7, ho.imp (fun ⟨v, a1, a2, a3, a4⟩ => ⟨v, a1, a2, Or.inr (Or.inr (Or.inr (Or.inr (⟨rfl, a3⟩)))), a4⟩) (fun ⟨r, a1, a2, a3, a4⟩ => ⟨r, a1, a2, Or.inr (Or.inr (Or.inr (Or.inr (⟨rfl, a3⟩)))), a4⟩)⟩))
  · exact rd_lineX hI.1 ar (by omega) (by omega) (by omega) (Or.inl ⟨by omega, rfl⟩)
theorem rd_mlineP {a : Int} (ha : 0 ≤ a ∧ a ≤ 4) (hI : mI τ h Ls 0) (hlc : qz_I h 770 2 = 0 ∨ lc h ≤ 255) (hr1 : h.1 + 25000 ≤ 600192) (hr2 : h.2.1 + 900000 ≤ 7302232) (kS : qz_I h 770 7 ≠ 0 → ∀ g, mI τ g Ls 0 → ez_fr (ez_one 770) h g → (∀ j, j ≠ 0 → qz_I g 770 j = qz_I h 770 j) → qz_I g 770 0 = 2 → Q (.inl (some (ez_v (.inl 0))), g)) (kC : qz_I h 770 7 = 0 → ∀ g τ1 Ls2 v, mI τ1 g Ls2 0 → fw τ h τ1 g (45 * qz_I h 770 2 + 100) → rz_step (mb h) (qz_I h 770 2) a (vF Ls) (vE Ls) (vF Ls2) (vE Ls2) → (lc g = lc h ∨ (lc g = lc h + 1 ∧ 0 < qz_I h 770 2)) → ((qz_I g 770 0 = 0 ∧ v ≠ -1 ∧ lnA (mb h) (qz_I h 770 2) a v ∧ ∃ x : vz, Ls2 = Ls ++ [x] ∧ lyE (mb h) (qz_I h 770 2) a (ey x)) ∨ (qz_I g 770 0 = 3 ∧ lnA (mb h) (qz_I h 770 2) a (-1) ∧ Ls2 = Ls)) → Q (.inl (some (ez_v (.inl v))), g)) : ez_W (d + 10) cm_276 0 [(0, .inr (.inr (some (770)))), (1, .inl (a))] [] h Q := by
  have w : a = 0 ∨ a = 1 ∨ a = 2 ∨ a = 3 ∨ a = 4 := by omega
  rcases w with e | e | e | e | e <;> subst e
  · exact rd_mline0 hI hlc hr1 hr2 kS (fun z g τ1 Ls2 v c1 c2 c3 c4 c5 => kC z g τ1 Ls2 v c1 c2 c3 c4 (c5.imp (fun ⟨a1, a2, a3, a4⟩ => ⟨a1, a2, Or.inl ⟨rfl, a3⟩, a4⟩) (fun ⟨a1, a3, a4⟩ => ⟨a1, Or.inl ⟨rfl, a3⟩, a4⟩)))
  · exact rd_mline1 hI hlc hr1 hr2 kS (fun z g τ1 Ls2 v c1 c2 c3 c4 c5 => kC z g τ1 Ls2 v c1 c2 c3 c4 (c5.imp (fun ⟨a1, a2, a3, a4⟩ => ⟨a1, a2, Or.inr (Or.inl ⟨rfl, a3⟩), a4⟩) (fun ⟨a1, a3, a4⟩ => ⟨a1, Or.inr (Or.inl ⟨rfl, a3⟩), a4⟩)))
  · exact rd_mline2 hI hlc hr1 hr2 kS (fun z g τ1 Ls2 v c1 c2 c3 c4 c5 => kC z g τ1 Ls2 v c1 c2 c3 c4 (c5.imp (fun ⟨a1, a2, a3, a4⟩ => ⟨a1, a2, Or.inr (Or.inr (Or.inl ⟨rfl, a3⟩)), a4⟩) (fun ⟨a1, a3, a4⟩ => ⟨a1, Or.inr (Or.inr (Or.inl ⟨rfl, a3⟩)), a4⟩)))
  · exact rd_mline3 hI hlc hr1 hr2 kS (fun z g τ1 Ls2 v c1 c2 c3 c4 c5 => kC z g τ1 Ls2 v c1 c2 c3 c4 (c5.imp (fun ⟨a1, a2, a3, a4⟩ => ⟨a1, a2, Or.inr (Or.inr (Or.inr (Or.inl ⟨rfl, a3⟩))), a4⟩) (fun ⟨a1, a3, a4⟩ => ⟨a1, Or.inr (Or.inr (Or.inr (Or.inl ⟨rfl, a3⟩))), a4⟩)))
  · exact rd_mline4 hI hlc hr1 hr2 kS (fun z g τ1 Ls2 v c1 c2 c3 c4 c5 => kC z g τ1 Ls2 v c1 c2 c3 c4 (c5.imp (fun ⟨a1, a2, a3, a4⟩ => ⟨a1, a2, Or.inr (Or.inr (Or.inr (Or.inr (⟨rfl, a3⟩)))), a4⟩) (fun ⟨a1, a3, a4⟩ => ⟨a1, Or.inr (Or.inr (Or.inr (Or.inr (⟨rfl, a3⟩)))), a4⟩)))
theorem lw_line {i : Int} (hb : dz_B tz_T (qz_X rR) τ h) (hn : qz_I h 192 1 = qz_I h 770 2) (hl : qz_I h 192 1 = 0 ∨ qz_I h 202 5 ≤ 255) (hlc : qz_I h 770 2 = 0 ∨ lc h ≤ 255) (i0 : 0 ≤ i) (i1 : i + 6 ≤ qz_N h 0) (i2 : i ≤ 4000) (hr1 : h.1 + 26000 ≤ 600192) (hr2 : h.2.1 + 901000 ≤ 7302232) (k : ∀ τ2 g, dz_B tz_T (qz_X rR) τ2 g → stp h g → ez_W (d + 11) cm_0 1213 [(4, .inl (i)), (0, .inr (.inr (some (0)))), (1, .inr (.inr (some (192)))), (2, .inr (.inr (some (770)))), (3, .inr (.inr (some (805))))] [] g Q) : ez_W (d + 11) cm_0 252 [(4, .inl (i)), (0, .inr (.inr (some (0)))), (1, .inr (.inr (some (192)))), (2, .inr (.inr (some (770)))), (3, .inr (.inr (some (805))))] [] h Q := by
  have hB := dz_ezB hb
  have hX := hb.2.1
  have t0 : τ 0 = 34 := hX.1 0 (by decide)
  have t192 : τ 192 = 44 := hX.1 192 (by decide)
  have t770 : τ 770 = 75 := hX.1 770 (by decide)
  have t805 : τ 805 = 35 := hX.1 805 (by decide)
  have t771 : τ 771 = 76 := hX.1 771 (by decide)
  obtain ⟨Ls, ⟨t, c, m, w, s6, s77, u, p⟩, ww, xx⟩ := id hX.2.2.2.2
  have hI : jz_I τ h (vF Ls) (vE Ls) := ⟨hB, hX.1, c⟩
  have hM : mI τ h Ls 0 := ⟨hB, hX.1, m⟩
  refine ez_go (n := 5) (pc' := 258) (L' := [(4, .inl (i)), (0, .inr (.inr (some (0)))), (1, .inr (.inr (some (192)))), (2, .inr (.inr (some (770)))), (3, .inr (.inr (some (805))))]) (st' := [.inl ((i) + (1)), .inr (.inr (some (0))), .inr (.inr (some (192)))]) rfl ?_
  have n2 : 0 ≤ qz_N h 0 ∧ qz_N h 0 ≤ 3072 := ez_len hB t0 tq_34 rfl
  refine ez_aI hB t0 rfl tq_34 rfl rfl (by omega) (by omega) (fun (b1 : -2147483648 ≤ qz_I h 0 ((i) + (1)).toNat) (b1' : qz_I h 0 ((i) + (1)).toNat ≤ 2147483647) => ?_)
  refine ez_go (n := 1) (pc' := 260) (L' := [(4, .inl (i)), (0, .inr (.inr (some (0)))), (1, .inr (.inr (some (192)))), (2, .inr (.inr (some (770)))), (3, .inr (.inr (some (805))))]) (st' := [.inr (.inr (some (805))), .inl (qz_I h 0 ((i) + (1)).toNat), .inr (.inr (some (192)))]) rfl ?_
  refine ez_cs hB.2.1 rfl rfl rfl rfl rfl (hp_line hB t192 (rd_lineP (d := d) hI ww.2.2.1 hl (by omega) (by omega) ⟨by omega, by omega⟩) (fun F hF => ?_))
  rcases hF with ⟨ha, rfl⟩ | ⟨ha, hs6, rfl⟩ | ⟨ha, hs6, g1, τ1, F2, E2, D2, o, rfl, jJ, J1, X1, S1, T1, L5, J2, ho⟩
  · refine Or.inr (Or.inl ⟨_, _, rfl, xc_exc hB rfl, ez_K1 ?_⟩)
    have hBx : ez_B τ (xc h 1) := xc_B hB (by omega) (by omega)
    have sc : ∀ j, qz_I (xc h 1) 0 j = qz_I h 0 j := fun j => by unfold qz_I; rw [xc_t hB (by rw [t0]; decide)]
    have sn : qz_N (xc h 1) 0 = qz_N h 0 := by unfold qz_N; rw [xc_t hB (by rw [t0]; decide)]
    refine ez_go (n := 6) (pc' := 271) (L' := [(5, .inl (1)), (4, .inl (i)), (0, .inr (.inr (some (0)))), (1, .inr (.inr (some (192)))), (2, .inr (.inr (some (770)))), (3, .inr (.inr (some (805))))]) (st' := [.inl ((i) + (1)), .inr (.inr (some (0))), .inr (.inr (some (770)))]) rfl ?_
    have n4 : 0 ≤ qz_N (xc h 1) 0 ∧ qz_N (xc h 1) 0 ≤ 3072 := ez_len hBx t0 tq_34 rfl
    refine ez_aI hBx t0 rfl tq_34 rfl rfl (by omega) (by omega) (fun (b3 : -2147483648 ≤ qz_I (xc h 1) 0 ((i) + (1)).toNat) (b3' : qz_I (xc h 1) 0 ((i) + (1)).toNat ≤ 2147483647) => ?_)
    rw [show qz_I (xc h 1) 0 ((i) + (1)).toNat = qz_I h 0 ((i) + (1)).toNat from sc _]
    refine ez_cv hBx t770 rfl rfl rfl tq_75 rfl rfl rfl (rd_mlineX hBx t770 ⟨by omega, by omega⟩ ha (fun g3 b1 b2 b3 b0 => ez_K1 ?_))
    refine ez_go (n := 2) (pc' := 1213) (L' := [(6, .inl (0)), (5, .inl (1)), (4, .inl (i)), (0, .inr (.inr (some (0)))), (1, .inr (.inr (some (192)))), (2, .inr (.inr (some (770)))), (3, .inr (.inr (some (805))))]) (st' := []) rfl ?_
    refine ez_less [(4, .inl (i)), (0, .inr (.inr (some (0)))), (1, .inr (.inr (some (192)))), (2, .inr (.inr (some (770)))), (3, .inr (.inr (some (805))))] rfl ⟨rfl, rfl, rfl, rfl, rfl, trivial⟩ ?_
    exact k _ _ (ref_X hb hn b1 b2 b3).1 (ref_X hb hn b1 b2 b3).2
  · refine Or.inr (Or.inr (Or.inl ⟨_, _, rfl, xc_exc hB rfl, ez_K1 ?_⟩))
    have hBx : ez_B τ (xc h 2) := xc_B hB (by omega) (by omega)
    have sc : ∀ j, qz_I (xc h 2) 0 j = qz_I h 0 j := fun j => by unfold qz_I; rw [xc_t hB (by rw [t0]; decide)]
    have sn : qz_N (xc h 2) 0 = qz_N h 0 := by unfold qz_N; rw [xc_t hB (by rw [t0]; decide)]
    refine ez_go (n := 6) (pc' := 271) (L' := [(5, .inl (2)), (4, .inl (i)), (0, .inr (.inr (some (0)))), (1, .inr (.inr (some (192)))), (2, .inr (.inr (some (770)))), (3, .inr (.inr (some (805))))]) (st' := [.inl ((i) + (1)), .inr (.inr (some (0))), .inr (.inr (some (770)))]) rfl ?_
    have n6 : 0 ≤ qz_N (xc h 2) 0 ∧ qz_N (xc h 2) 0 ≤ 3072 := ez_len hBx t0 tq_34 rfl
    refine ez_aI hBx t0 rfl tq_34 rfl rfl (by omega) (by omega) (fun (b5 : -2147483648 ≤ qz_I (xc h 2) 0 ((i) + (1)).toNat) (b5' : qz_I (xc h 2) 0 ((i) + (1)).toNat ≤ 2147483647) => ?_)
    rw [show qz_I (xc h 2) 0 ((i) + (1)).toNat = qz_I h 0 ((i) + (1)).toNat from sc _]
    have M2 : mI τ (xc h 2) Ls 0 := mI.f7 hM hBx (fun q h0 _ => xc_t hB h0) (fun j _ _ => by unfold qz_I; rw [xc_t hB (by rw [t770]; decide)])
    have y7 : ∀ j, qz_I (xc h 2) 770 j = qz_I h 770 j := fun j => by unfold qz_I; rw [xc_t hB (by rw [t770]; decide)]
    have n7 : qz_I h 770 7 ≠ 0 := fun w7 => hs6 (s6.mpr w7)
    have rx : (xc h 2).1 = h.1 + 1 ∧ (xc h 2).2.1 = h.2.1 + 6 := ⟨rfl, rfl⟩
    refine ez_cv hBx t770 rfl rfl rfl tq_75 rfl rfl rfl (rd_mlineP (d := d) ha M2 (by unfold lc at hlc ⊢; rw [y7, y7]; exact hlc) (by omega) (by omega) (fun _ g3 b1 b2 b3 b0 => ez_K1 ?_) (fun z7 => absurd ((y7 7).symm.trans z7) n7))
    refine ez_go (n := 2) (pc' := 1213) (L' := [(6, .inl (0)), (5, .inl (2)), (4, .inl (i)), (0, .inr (.inr (some (0)))), (1, .inr (.inr (some (192)))), (2, .inr (.inr (some (770)))), (3, .inr (.inr (some (805))))]) (st' := []) rfl ?_
    refine ez_less [(4, .inl (i)), (0, .inr (.inr (some (0)))), (1, .inr (.inr (some (192)))), (2, .inr (.inr (some (770)))), (3, .inr (.inr (some (805))))] rfl ⟨rfl, rfl, rfl, rfl, rfl, trivial⟩ ?_
    exact k _ _ (ref_X hb hn b1.1 b2 b3).1 (ref_X hb hn b1.1 b2 b3).2
  · have C1 := ln_C X1 (g2 := g1) (fun _ _ => rfl)
    have r5 := X1.2
    have px : (dz_put h 192 1 (ez_v (.inl 0))).1 = h.1 ∧ (dz_put h 192 1 (ez_v (.inl 0))).2.1 = h.2.1 := ⟨rfl, rfl⟩
    rcases ho with ⟨v, rfl, vn, va, vx⟩ | ⟨r, rfl, hx, va, vx⟩
    · refine Or.inl ⟨v, τ1, g1, rfl, J1.1, J1.2.1 805 (by decide), fun hBo => ez_K1 ?_⟩
      have o : ∀ q, q ≠ 805 → (ow g1 v).2.2 q = g1.2.2 q := fun q hq => ow_at hq
      obtain ⟨B2, x2, m2, c2⟩ := ln_A hX.1 hB t m J1 X1 o hBo
      have u0 : rtg τ τ1 0 = 34 := x2 0 (by decide)
      have u770 : rtg τ τ1 770 = 75 := x2 770 (by decide)
      have c0 : (ow g1 v).2.2 0 = h.2.2 0 := (o 0 (by decide)).trans ((C1 0 (by rw [t0]; decide)).2 (by rw [t0]; rfl) (by decide) (by decide))
      have c7 : (ow g1 v).2.2 770 = h.2.2 770 := (o 770 (by decide)).trans ((C1 770 (by rw [t770]; decide)).2 (by rw [t770]; rfl) (by decide) (by decide))
      have c771 : (ow g1 v).2.2 771 = h.2.2 771 := (o 771 (by decide)).trans ((C1 771 (by rw [t771]; decide)).2 (by rw [t771]; rfl) (by decide) (by decide))
      have eb : mb (ow g1 v) = rz_b h := funext fun i => by show qz_I (ow g1 v) 771 i.toNat = qz_I h 193 i.toNat; rw [p]; unfold qz_I; rw [c771]
      have u805 : rtg τ τ1 805 = 35 := x2 805 (by decide)
      have sc : ∀ j, qz_I (ow g1 v) 0 j = qz_I h 0 j := fun j => by unfold qz_I; rw [c0]
      have sn : qz_N (ow g1 v) 0 = qz_N h 0 := by unfold qz_N; rw [c0]
      have s7 : ∀ j, qz_I (ow g1 v) 770 j = qz_I h 770 j := fun j => by unfold qz_I; rw [c7]
      have r6 : (ow g1 v).1 = g1.1 ∧ (ow g1 v).2.1 = g1.2.1 := ⟨rfl, rfl⟩
      refine ez_go (n := 6) (pc' := 271) (L' := [(5, .inl (0)), (4, .inl (i)), (0, .inr (.inr (some (0)))), (1, .inr (.inr (some (192)))), (2, .inr (.inr (some (770)))), (3, .inr (.inr (some (805))))]) (st' := [.inl ((i) + (1)), .inr (.inr (some (0))), .inr (.inr (some (770)))]) rfl ?_
      have n8 : 0 ≤ qz_N (ow g1 v) 0 ∧ qz_N (ow g1 v) 0 ≤ 3072 := ez_len B2 u0 tq_34 rfl
      refine ez_aI B2 u0 rfl tq_34 rfl rfl (by omega) (by omega) (fun (b7 : -2147483648 ≤ qz_I (ow g1 v) 0 ((i) + (1)).toNat) (b7' : qz_I (ow g1 v) 0 ((i) + (1)).toNat ≤ 2147483647) => ?_)
      rw [show qz_I (ow g1 v) 0 ((i) + (1)).toNat = qz_I h 0 ((i) + (1)).toNat from sc _]
      refine ez_cv B2 u770 rfl rfl rfl tq_75 rfl rfl rfl (rd_mlineP (d := d) ha ⟨B2, x2, m2⟩ (by unfold lc at hlc ⊢; rw [s7, s7]; exact hlc) (by omega) (by omega) (fun z7 => absurd ((s7 7).trans (s6.mp hs6)) z7) (fun _ g3 τ3 Ls2 v3 b1 b2 b3 b4 b5 => ez_K1 ?_))
      have w770 : τ3 770 = 75 := b1.2.1 770 (by decide)
      have w805 : τ3 805 = 35 := b1.2.1 805 (by decide)
      rw [eb, s7, ← hn] at b5
      obtain ⟨b0, bv, ba, bx⟩ := b5.resolve_right (fun w => vn (lnA_u va w.2.1))
      have yy := ln_yD vx (Or.inl ⟨vn, bx⟩) ww.2.2.2.1
      have ev : v = v3 := lnA_u va ba
      subst ev
      refine ez_go (n := 2) (pc' := 1213) (L' := [(6, .inl (v)), (5, .inl (0)), (4, .inl (i)), (0, .inr (.inr (some (0)))), (1, .inr (.inr (some (192)))), (2, .inr (.inr (some (770)))), (3, .inr (.inr (some (805))))]) (st' := []) rfl ?_
      refine ez_less [(4, .inl (i)), (0, .inr (.inr (some (0)))), (1, .inr (.inr (some (192)))), (2, .inr (.inr (some (770)))), (3, .inr (.inr (some (805))))] rfl ⟨rfl, rfl, rfl, rfl, rfl, trivial⟩ ?_
      exact k _ _ (ln_B hb t m w u p rfl hs6 (s6.mp hs6) J1 X1 (by rw [← hn]; exact S1) J2 o hBo b1 b2 b3 ww xx (by rw [← yy.1]; exact jJ) yy.2) (ln_stp hX.1 hB hn X1 o r6 T1 L5 rfl (by rw [← s7 2]; exact b2) B2 (by unfold lc at b4 ⊢; rw [s7, s7] at b4; exact b4))
    · refine Or.inr (Or.inr (Or.inr ⟨r, g1, rfl, hx, ez_K1 ?_⟩))
      have o : ∀ q, q ≠ 805 → g1.2.2 q = g1.2.2 q := fun q hq => rfl
      obtain ⟨B2, x2, m2, c2⟩ := ln_A hX.1 hB t m J1 X1 o J1.1
      have u0 : rtg τ τ1 0 = 34 := x2 0 (by decide)
      have u770 : rtg τ τ1 770 = 75 := x2 770 (by decide)
      have c0 : g1.2.2 0 = h.2.2 0 := (o 0 (by decide)).trans ((C1 0 (by rw [t0]; decide)).2 (by rw [t0]; rfl) (by decide) (by decide))
      have c7 : g1.2.2 770 = h.2.2 770 := (o 770 (by decide)).trans ((C1 770 (by rw [t770]; decide)).2 (by rw [t770]; rfl) (by decide) (by decide))
      have c771 : g1.2.2 771 = h.2.2 771 := (o 771 (by decide)).trans ((C1 771 (by rw [t771]; decide)).2 (by rw [t771]; rfl) (by decide) (by decide))
      have eb : mb g1 = rz_b h := funext fun i => by show qz_I g1 771 i.toNat = qz_I h 193 i.toNat; rw [p]; unfold qz_I; rw [c771]
      have u805 : rtg τ τ1 805 = 35 := x2 805 (by decide)
      have sc : ∀ j, qz_I g1 0 j = qz_I h 0 j := fun j => by unfold qz_I; rw [c0]
      have sn : qz_N g1 0 = qz_N h 0 := by unfold qz_N; rw [c0]
      have s7 : ∀ j, qz_I g1 770 j = qz_I h 770 j := fun j => by unfold qz_I; rw [c7]
      have r6 : g1.1 = g1.1 ∧ g1.2.1 = g1.2.1 := ⟨rfl, rfl⟩
      refine ez_go (n := 6) (pc' := 271) (L' := [(5, .inl (3)), (4, .inl (i)), (0, .inr (.inr (some (0)))), (1, .inr (.inr (some (192)))), (2, .inr (.inr (some (770)))), (3, .inr (.inr (some (805))))]) (st' := [.inl ((i) + (1)), .inr (.inr (some (0))), .inr (.inr (some (770)))]) rfl ?_
      have n10 : 0 ≤ qz_N g1 0 ∧ qz_N g1 0 ≤ 3072 := ez_len B2 u0 tq_34 rfl
      refine ez_aI B2 u0 rfl tq_34 rfl rfl (by omega) (by omega) (fun (b9 : -2147483648 ≤ qz_I g1 0 ((i) + (1)).toNat) (b9' : qz_I g1 0 ((i) + (1)).toNat ≤ 2147483647) => ?_)
      rw [show qz_I g1 0 ((i) + (1)).toNat = qz_I h 0 ((i) + (1)).toNat from sc _]
      refine ez_cv B2 u770 rfl rfl rfl tq_75 rfl rfl rfl (rd_mlineP (d := d) ha ⟨B2, x2, m2⟩ (by unfold lc at hlc ⊢; rw [s7, s7]; exact hlc) (by omega) (by omega) (fun z7 => absurd ((s7 7).trans (s6.mp hs6)) z7) (fun _ g3 τ3 Ls2 v3 b1 b2 b3 b4 b5 => ez_K1 ?_))
      have w770 : τ3 770 = 75 := b1.2.1 770 (by decide)
      have w805 : τ3 805 = 35 := b1.2.1 805 (by decide)
      rw [eb, s7, ← hn] at b5
      obtain ⟨b0, ba, bx⟩ := b5.resolve_left (fun w => w.2.1 (lnA_u w.2.2.1 va))
      have yy := ln_yD vx (Or.inr ⟨rfl, bx⟩) ww.2.2.2.1
      refine ez_go (n := 2) (pc' := 1213) (L' := [(6, .inl (v3)), (5, .inl (3)), (4, .inl (i)), (0, .inr (.inr (some (0)))), (1, .inr (.inr (some (192)))), (2, .inr (.inr (some (770)))), (3, .inr (.inr (some (805))))]) (st' := []) rfl ?_
      refine ez_less [(4, .inl (i)), (0, .inr (.inr (some (0)))), (1, .inr (.inr (some (192)))), (2, .inr (.inr (some (770)))), (3, .inr (.inr (some (805))))] rfl ⟨rfl, rfl, rfl, rfl, rfl, trivial⟩ ?_
      exact k _ _ (ln_B hb t m w u p rfl hs6 (s6.mp hs6) J1 X1 (by rw [← hn]; exact S1) J2 o J1.1 b1 b2 b3 ww xx (by rw [← yy.1]; exact jJ) yy.2) (ln_stp hX.1 hB hn X1 o r6 T1 L5 rfl (by rw [← s7 2]; exact b2) B2 (by unfold lc at b4 ⊢; rw [s7, s7] at b4; exact b4))

end EzLn
/-! The law: seal, reset. (Written by wip/p2/py/pv109.py.) -/
section EzLs
variable {d : Nat} {h : cz_H} {τ : Nat → Nat} {Q : cz_F → Prop} {Ls : List vz}
def slP (τ : Nat → Nat) (h : cz_H) (Ls : List vz) (F : cz_F) : Prop := (qz_I h 202 6 ≠ 0 ∧ F = (.inr h.1, xc h 2)) ∨ (qz_I h 202 6 = 0 ∧ uz_S (vF Ls) (vE Ls) ∧ ∃ g1 g v, F = (.inl (some (ez_v (.inl v))), g) ∧ pz τ h g1 ∧ jz_I τ g1 (vF Ls) (vE Ls) ∧ sq g1 ∧ cFl g1 (vF Ls) ∧ cP g1 (vF Ls) (vE Ls) ∧ ez_B τ g ∧ ez_fr (ez_one 202) g1 g ∧ (∀ j, j ≠ 6 → qz_I g 202 j = qz_I g1 202 j) ∧ qz_I g 202 6 = 1 ∧ pcn (vF Ls) (vE Ls) v) ∨ (qz_I h 202 6 = 0 ∧ ¬ uz_S (vF Ls) (vE Ls) ∧ ∃ g, F = (.inr g.1, xc g 4) ∧ jz_I τ g (vF Ls) (vE Ls) ∧ pz τ h g)
theorem rd_sealP (hI : jz_I τ h (vF Ls) (vE Ls)) (hw : uz_wf (vF Ls)) (hr1 : h.1 + 1 ≤ 600192) (hr2 : h.2.1 + 6 ≤ 7302232) : ez_W (d + 8) cm_37 0 [(0, .inr (.inr (some (192))))] [] h (slP τ h Ls) :=
  rd_seal hI hw hr1 hr2 (fun s => Or.inl ⟨s, rfl⟩) (fun s S g1 g v a1 a2 a3 a4 a5 a6 a7 a8 a9 a10 => Or.inr (Or.inl ⟨s, S, g1, g, v, rfl, a1, a2, a3, a4, a5, a6, a7, a8, a9, a10⟩)) (fun s S g a1 a2 => Or.inr (Or.inr ⟨s, S, g, rfl, a1, a2⟩))
theorem lw_seal {i : Int} (hb : dz_B tz_T (qz_X rR) τ h) (hn : qz_I h 192 1 = qz_I h 770 2) (hlc : lc h ≤ 500) (hr1 : h.1 + 26000 ≤ 600192) (hr2 : h.2.1 + 901000 ≤ 7302232) (k : ∀ τ2 g, dz_B tz_T (qz_X rR) τ2 g → stp h g → ez_W (d + 11) cm_0 1213 [(4, .inl (i)), (0, .inr (.inr (some (0)))), (1, .inr (.inr (some (192)))), (2, .inr (.inr (some (770)))), (3, .inr (.inr (some (805))))] [] g Q) : ez_W (d + 11) cm_0 280 [(4, .inl (i)), (0, .inr (.inr (some (0)))), (1, .inr (.inr (some (192)))), (2, .inr (.inr (some (770)))), (3, .inr (.inr (some (805))))] [] h Q := by
  have hB := dz_ezB hb
  have hX := hb.2.1
  have t0 : τ 0 = 34 := hX.1 0 (by decide)
  have t192 : τ 192 = 44 := hX.1 192 (by decide)
  have t770 : τ 770 = 75 := hX.1 770 (by decide)
  have t805 : τ 805 = 35 := hX.1 805 (by decide)
  obtain ⟨Ls, ⟨t, c, m, w, s6, s77, u, p⟩, ww, xx⟩ := id hX.2.2.2.2
  have hI : jz_I τ h (vF Ls) (vE Ls) := ⟨hB, hX.1, c⟩
  have hM : mI τ h Ls 0 := ⟨hB, hX.1, m⟩
  have tbw := t.2.2.2.1.2.2.2.1
  have tdc := t.2.2.2.1.2.2.1
  obtain ⟨-, -, -, -, p3, ⟨-, p5, -, p6, -⟩, -⟩ := id hX.2.2.2.1
  refine ez_go (n := 2) (pc' := 282) (L' := [(4, .inl (i)), (0, .inr (.inr (some (0)))), (1, .inr (.inr (some (192)))), (2, .inr (.inr (some (770)))), (3, .inr (.inr (some (805))))]) (st' := [.inr (.inr (some (805))), .inr (.inr (some (192)))]) rfl ?_
  refine ez_cs hB.2.1 rfl rfl rfl rfl rfl (hp_seal hB t192 (rd_sealP (d := d + 1) hI w (by omega) (by omega)) (fun F hF => ?_))
  rcases hF with ⟨hs6, rfl⟩ | ⟨hs6, hS, g1, g, v, rfl, P1, J1, sq1, fl1, cp1, Bg, fg, jg, z6, pc1⟩ | ⟨hs6, hS, g1, rfl, J1, P1⟩
  · refine Or.inr (Or.inl ⟨_, _, rfl, xc_exc hB rfl, ez_K1 ?_⟩)
    have hBx : ez_B τ (xc h 2) := xc_B hB (by omega) (by omega)
    refine ez_go (n := 2) (pc' := 288) (L' := [(5, .inl (1)), (4, .inl (i)), (0, .inr (.inr (some (0)))), (1, .inr (.inr (some (192)))), (2, .inr (.inr (some (770)))), (3, .inr (.inr (some (805))))]) (st' := [.inr (.inr (some (770)))]) rfl ?_
    have y7 : ∀ j, qz_I (xc h 2) 770 j = qz_I h 770 j := fun j => by unfold qz_I; rw [xc_t hB (by rw [t770]; decide)]
    have M2 : mI τ (xc h 2) Ls 0 := mI.f7 hM hBx (fun q h0 _ => xc_t hB h0) (fun j _ _ => y7 j)
    have n7 : qz_I h 770 7 ≠ 0 := fun w7 => hs6 (s6.mpr w7)
    have rx : (xc h 2).1 = h.1 + 1 ∧ (xc h 2).2.1 = h.2.1 + 6 := ⟨rfl, rfl⟩
    have nd : qz_N (xc h 2) (bw (xc h 2)) ≤ qz_N (xc h 2) (dc (xc h 2)) := by
      rw [show bw (xc h 2) = bw h by unfold bw qz_P; rw [y7], show dc (xc h 2) = dc h by unfold dc qz_P; rw [y7]]; unfold qz_N; rw [xc_t hB (by rw [tbw]; decide), xc_t hB (by rw [tdc]; decide)]; exact p6
    refine ez_cv hBx t770 rfl rfl rfl tq_75 rfl rfl rfl (rd_mseal (d := d + 6) M2 w nd (by unfold lc at hlc ⊢; rw [y7]; exact hlc) (by omega) (by omega) (fun _ g3 b1 b2 b3 b0 => ez_K1 ?_) (fun z7 => absurd ((y7 7).symm.trans z7) n7) (fun z7 => absurd ((y7 7).symm.trans z7) n7))
    have u770 : τ 770 = 75 := t770
    have u805 : τ 805 = 35 := t805
    refine ez_go (n := 2) (pc' := 1213) (L' := [(6, .inl (0)), (5, .inl (1)), (4, .inl (i)), (0, .inr (.inr (some (0)))), (1, .inr (.inr (some (192)))), (2, .inr (.inr (some (770)))), (3, .inr (.inr (some (805))))]) (st' := []) rfl ?_
    refine ez_less [(4, .inl (i)), (0, .inr (.inr (some (0)))), (1, .inr (.inr (some (192)))), (2, .inr (.inr (some (770)))), (3, .inr (.inr (some (805))))] rfl ⟨rfl, rfl, rfl, rfl, rfl, trivial⟩ ?_
    exact k _ _ (ref_X hb hn b1.1 b2 b3).1 (ref_X hb hn b1.1 b2 b3).2
  · refine Or.inl ⟨v, τ, g, rfl, Bg, t805, fun hBo => ez_K1 ?_⟩
    have o : ∀ q, τ q ≠ 0 → q ≠ 202 → q ≠ 805 → (ow g v).2.2 q = g1.2.2 q := fun q _ h2 h3 => (ow_at h3).trans (fg.2.2 q (dz_beq_ne h2))
    have o2 : ∀ j, j ≠ 6 → qz_I (ow g v) 202 j = qz_I g1 202 j := fun j hj => (ow_I (by decide)).trans (jg j hj)
    have ra : (ow g v).1 = h.1 := fg.1.trans P1.1.1
    have rb : (ow g v).2.1 = h.2.1 := fg.2.1.trans P1.1.2
    refine ez_go (n := 2) (pc' := 288) (L' := [(5, .inl (0)), (4, .inl (i)), (0, .inr (.inr (some (0)))), (1, .inr (.inr (some (192)))), (2, .inr (.inr (some (770)))), (3, .inr (.inr (some (805))))]) (st' := [.inr (.inr (some (770)))]) rfl ?_
    have C := sl_C J1.1 P1 o
    have m2 : mJ τ (ow g v) Ls := mK.Jm ⟨sl_m2 hX.1 C, t⟩ m
    have y7 : ∀ j, qz_I (ow g v) 770 j = qz_I h 770 j := fun j => by unfold qz_I; rw [C 770 (by rw [t770]; decide) (by rw [t770]; decide) (by decide) (by decide) (by decide)]
    have cb := C (bw h) (by rw [tbw]; decide) (by rw [tbw]; decide) (rng_tag hX.1 tbw rfl) (ne_tag hX.1 tbw 202 rfl) (ne_tag hX.1 tbw 805 rfl)
    have cd := C (dc h) (by rw [tdc]; decide) (by rw [tdc]; decide) (rng_tag hX.1 tdc rfl) (ne_tag hX.1 tdc 202 rfl) (ne_tag hX.1 tdc 805 rfl)
    have nd : qz_N (ow g v) (bw (ow g v)) ≤ qz_N (ow g v) (dc (ow g v)) := by
      rw [show bw (ow g v) = bw h by unfold bw qz_P; rw [y7], show dc (ow g v) = dc h by unfold dc qz_P; rw [y7]]; unfold qz_N; rw [cb, cd]; exact p6
    refine ez_cv hBo t770 rfl rfl rfl tq_75 rfl rfl rfl (rd_mseal (d := d + 6) ⟨hBo, hX.1, m2⟩ w nd (by unfold lc at hlc ⊢; rw [y7]; exact hlc) (by omega) (by omega) (fun z7 => absurd ((y7 7).trans (s6.mp hs6)) z7) (fun _ _ g3 τ3 v3 b1 b2 b3 b4 b5 b6 b7 b0 b9 => ez_K1 ?_) (fun _ nS => absurd hS nS))
    have ev : v = v3 := pcn_eq pc1 b9
    subst ev
    have u770 : τ3 770 = 75 := b1.2.1 770 (by decide)
    have u805 : τ3 805 = 35 := b1.2.1 805 (by decide)
    refine ez_go (n := 2) (pc' := 1213) (L' := [(6, .inl (v)), (5, .inl (0)), (4, .inl (i)), (0, .inr (.inr (some (0)))), (1, .inr (.inr (some (192)))), (2, .inr (.inr (some (770)))), (3, .inr (.inr (some (805))))]) (st' := []) rfl ?_
    refine ez_less [(4, .inl (i)), (0, .inr (.inr (some (0)))), (1, .inr (.inr (some (192)))), (2, .inr (.inr (some (770)))), (3, .inr (.inr (some (805))))] rfl ⟨rfl, rfl, rfl, rfl, rfl, trivial⟩ ?_
    exact k _ _ (sl_B hb t m w u p J1 P1 hBo o o2 b1 b2 b3 b4 (by rw [b7, ow_I (by decide), z6]) (fun _ => ⟨hS, sq1, b5.P, b6⟩) ww xx (fun _ => ⟨b5, fl1, cp1⟩)) (sl_stp hX.1 hB hn J1.1 P1 hBo o o2 (by omega) (by omega) b4)
  · have ra0 := P1.1.1
    have rb0 := P1.1.2
    refine Or.inr (Or.inr ⟨_, _, rfl, xc_exc J1.1 rfl, ez_K1 ?_⟩)
    have hBx : ez_B τ (xc g1 4) := xc_B J1.1 (by omega) (by omega)
    have o : ∀ q, τ q ≠ 0 → q ≠ 202 → q ≠ 805 → (xc g1 4).2.2 q = g1.2.2 q := fun q h0 _ _ => xc_t J1.1 h0
    have o2 : ∀ j, j ≠ 6 → qz_I (xc g1 4) 202 j = qz_I g1 202 j := fun j _ => by unfold qz_I; rw [xc_t J1.1 (by rw [hX.1 202 (by decide)]; decide)]
    have e6 : qz_I (xc g1 4) 202 6 = 0 := by
      rw [show qz_I (xc g1 4) 202 6 = qz_I h 202 6 by unfold qz_I; rw [xc_t J1.1 (by rw [hX.1 202 (by decide)]; decide), P1.2.1 202 (by rw [hX.1 202 (by decide)]; decide) (by decide)]]; exact hs6
    have ra : (xc g1 4).1 = h.1 + 1 := by show g1.1 + 1 = _; omega
    have rb : (xc g1 4).2.1 = h.2.1 + 6 := by show g1.2.1 + 6 = _; omega
    refine ez_go (n := 2) (pc' := 288) (L' := [(5, .inl (2)), (4, .inl (i)), (0, .inr (.inr (some (0)))), (1, .inr (.inr (some (192)))), (2, .inr (.inr (some (770)))), (3, .inr (.inr (some (805))))]) (st' := [.inr (.inr (some (770)))]) rfl ?_
    have C := sl_C J1.1 P1 o
    have m2 : mJ τ (xc g1 4) Ls := mK.Jm ⟨sl_m2 hX.1 C, t⟩ m
    have y7 : ∀ j, qz_I (xc g1 4) 770 j = qz_I h 770 j := fun j => by unfold qz_I; rw [C 770 (by rw [t770]; decide) (by rw [t770]; decide) (by decide) (by decide) (by decide)]
    have cb := C (bw h) (by rw [tbw]; decide) (by rw [tbw]; decide) (rng_tag hX.1 tbw rfl) (ne_tag hX.1 tbw 202 rfl) (ne_tag hX.1 tbw 805 rfl)
    have cd := C (dc h) (by rw [tdc]; decide) (by rw [tdc]; decide) (rng_tag hX.1 tdc rfl) (ne_tag hX.1 tdc 202 rfl) (ne_tag hX.1 tdc 805 rfl)
    have nd : qz_N (xc g1 4) (bw (xc g1 4)) ≤ qz_N (xc g1 4) (dc (xc g1 4)) := by
      rw [show bw (xc g1 4) = bw h by unfold bw qz_P; rw [y7], show dc (xc g1 4) = dc h by unfold dc qz_P; rw [y7]]; unfold qz_N; rw [cb, cd]; exact p6
    refine ez_cv hBx t770 rfl rfl rfl tq_75 rfl rfl rfl (rd_mseal (d := d + 6) ⟨hBx, hX.1, m2⟩ w nd (by unfold lc at hlc ⊢; rw [y7]; exact hlc) (by omega) (by omega) (fun z7 => absurd ((y7 7).trans (s6.mp hs6)) z7) (fun _ yS => absurd yS hS) (fun _ _ g3 τ3 b1 b2 b3 b4 b7 b0 => ez_K1 ?_))
    have u770 : τ3 770 = 75 := b1.2.1 770 (by decide)
    have u805 : τ3 805 = 35 := b1.2.1 805 (by decide)
    refine ez_go (n := 2) (pc' := 1213) (L' := [(6, .inl (0)), (5, .inl (2)), (4, .inl (i)), (0, .inr (.inr (some (0)))), (1, .inr (.inr (some (192)))), (2, .inr (.inr (some (770)))), (3, .inr (.inr (some (805))))]) (st' := []) rfl ?_
    refine ez_less [(4, .inl (i)), (0, .inr (.inr (some (0)))), (1, .inr (.inr (some (192)))), (2, .inr (.inr (some (770)))), (3, .inr (.inr (some (805))))] rfl ⟨rfl, rfl, rfl, rfl, rfl, trivial⟩ ?_
    exact k _ _ (sl_B hb t m w u p J1 P1 hBx o o2 b1 b2 b3 b4 ⟨fun _ => b7, fun _ => e6⟩ (fun z => absurd b7 z) ww xx (fun z => absurd b7 z)) (sl_stp hX.1 hB hn J1.1 P1 hBx o o2 (by omega) (by omega) b4)

theorem lw_reset {i : Int} (hb : dz_B tz_T (qz_X rR) τ h) (hn : qz_I h 192 1 = qz_I h 770 2) (k : ∀ τ2 g, dz_B tz_T (qz_X rR) τ2 g → stp h g → ez_W (d + 11) cm_0 1213 [(4, .inl (i)), (0, .inr (.inr (some (0)))), (1, .inr (.inr (some (192)))), (2, .inr (.inr (some (770)))), (3, .inr (.inr (some (805))))] [] g Q) : ez_W (d + 11) cm_0 296 [(4, .inl (i)), (0, .inr (.inr (some (0)))), (1, .inr (.inr (some (192)))), (2, .inr (.inr (some (770)))), (3, .inr (.inr (some (805))))] [] h Q := by
  have hB := dz_ezB hb
  have hX := hb.2.1
  have t0 : τ 0 = 34 := hX.1 0 (by decide)
  have t192 : τ 192 = 44 := hX.1 192 (by decide)
  have t770 : τ 770 = 75 := hX.1 770 (by decide)
  have t805 : τ 805 = 35 := hX.1 805 (by decide)
  obtain ⟨Ls, ⟨t, c, m, w, s6, s77, u, p⟩, ww, xx⟩ := id hX.2.2.2.2
  have hI : jz_I τ h (vF Ls) (vE Ls) := ⟨hB, hX.1, c⟩
  have hM : mI τ h Ls 0 := ⟨hB, hX.1, m⟩
  have tbw := t.2.2.2.1.2.2.2.1
  have tdc := t.2.2.2.1.2.2.1
  obtain ⟨-, -, -, -, p3, ⟨-, p5, -, p6, -⟩, -⟩ := id hX.2.2.2.1
  refine ez_go (n := 1) (pc' := 297) (L' := [(4, .inl (i)), (0, .inr (.inr (some (0)))), (1, .inr (.inr (some (192)))), (2, .inr (.inr (some (770)))), (3, .inr (.inr (some (805))))]) (st' := [.inr (.inr (some (192)))]) rfl ?_
  refine ez_cv hB t192 rfl rfl rfl tq_44 rfl rfl rfl (rd_reset (d := d + 8) hI ww.2.1 ww.2.2.2.2.2.1 ww.2.2.2.2.2.2 u.1 u.2 (fun bf ga g1 g9 BF fa fb J1 jx1 B9 f9 z9 y1 y4 y5 y6 => ez_K1 ?_))
  have C : ∀ q, τ q ≠ 1 → τ q ≠ 4 → τ q ≠ 48 → g1.2.2 q = h.2.2 q := fun q h1 h2 h3 => by
    rw [fb.2.2 q (dz_beq_ne (fun e => by rw [e, hX.1 202 (by decide)] at h3; exact h3 rfl)), fa.2.2 q (dz_beq_ne (fun e => by rw [e, sz_tag hB (hX.1 203 (by decide)) (by decide) (by decide)] at h2; exact h2 rfl))]
  have z5 := y5
  have z6 := y6
  have C9 : ∀ q, τ q ≠ 1 → τ q ≠ 4 → τ q ≠ 48 → τ q ≠ 88 → g9.2.2 q = h.2.2 q := fun q h1 h2 h3 h4 => (f9.2.2 q (dz_beq_ne h4)).trans (C q h1 h2 h3)
  have r1 : g1.1 = h.1 ∧ g1.2.1 = h.2.1 := ⟨by rw [fb.1, fa.1], by rw [fb.2.1, fa.2.1]⟩
  have M1 : mI τ g9 Ls 0 := ⟨B9, hX.1, mK.Jm ⟨⟨fun r hr => ⟨rfl, C9 r (fun e => by rw [e] at hr; cases hr) (fun e => by rw [e] at hr; cases hr) (fun e => by rw [e] at hr; cases hr) (fun e => by rw [e] at hr; cases hr)⟩, fun _ _ => rfl, fun j _ => by unfold qz_I; rw [C9 770 (by rw [t770]; decide) (by rw [t770]; decide) (by rw [t770]; decide) (by rw [t770]; decide)]⟩, t⟩ m⟩
  have y77 : qz_I g9 770 7 = qz_I h 770 7 := by unfold qz_I; rw [C9 770 (by rw [t770]; decide) (by rw [t770]; decide) (by rw [t770]; decide) (by rw [t770]; decide)]
  refine ez_go (n := 2) (pc' := 302) (L' := [(4, .inl (i)), (0, .inr (.inr (some (0)))), (1, .inr (.inr (some (192)))), (2, .inr (.inr (some (770)))), (3, .inr (.inr (some (805))))]) (st' := [.inr (.inr (some (770)))]) rfl ?_
  refine ez_cv B9 t770 rfl rfl rfl tq_75 rfl rfl rfl (rd_mreT M1 (fun v3 g3 VF b1 b2 b3 b4 b5 b6 b7 b8 => ez_K1 ?_))
  refine ez_go (n := 2) (pc' := 1213) (L' := [(4, .inl (i)), (0, .inr (.inr (some (0)))), (1, .inr (.inr (some (192)))), (2, .inr (.inr (some (770)))), (3, .inr (.inr (some (805))))]) (st' := []) rfl ?_
  refine ez_less [(4, .inl (i)), (0, .inr (.inr (some (0)))), (1, .inr (.inr (some (192)))), (2, .inr (.inr (some (770)))), (3, .inr (.inr (some (805))))] rfl ⟨rfl, rfl, rfl, rfl, rfl, trivial⟩ ?_
  have e7 : ∀ j, qz_I g9 770 j = qz_I g1 770 j := fun j => f9.I (dz_beq_ne (by rw [t770]; decide)) j
  have R := rs_B hb hn t u p J1 C z5 z6 r1 b2 (fun q h0 h1 h2 h3 => (b3 q h0 h1 h2).trans (f9.2.2 q (dz_beq_ne h3))) (fun j j0 j7 j8 j10 j12 => (b4 j j0 j7 j8 j10 j12).trans (e7 j)) b5 ⟨b6.trans f9.1, b7.trans f9.2.1⟩ ww jx1 (fun t ht => by rw [show qz_I g3 (754 + 2 * t) 1 = qz_I g9 (754 + 2 * t) 1 by unfold qz_I; rw [b3 _ (by rw [((rU_of hX.1).2 t ht).2.1]; decide) (by omega) (by omega)]]; exact z9 t ht) b8
  exact k _ _ R.1 R.2

end EzLs
