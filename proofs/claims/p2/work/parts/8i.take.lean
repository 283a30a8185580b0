/-! The class: take. (Written by wip/p2/py/pv26.py.) -/
section EzTa
variable {d : Nat} {h : cz_H} {τ : Nat → Nat} {Q : cz_F → Prop}
theorem rd_fieldsOf0 (k : Q (.inl (some (ez_v (.inl 7))), h)) : ez_W d cm_150 0 [(0, .inl (0))] [] h Q := by
  refine ez_go (n := 1) (pc' := 1) (L' := [(0, .inl (0))]) (st' := [.inl (0)]) rfl ?_
  refine ez_sw rfl ⟨by decide, by decide⟩ ⟨_, rfl, rfl⟩ ?_
  refine ez_go (n := 1) (pc' := 30) (L' := [(0, .inl (0))]) (st' := [.inl (7)]) rfl ?_
  exact ez_retI rfl rfl k

theorem rd_fieldsOf1 (k : Q (.inl (some (ez_v (.inl 5))), h)) : ez_W d cm_150 0 [(0, .inl (1))] [] h Q := by
  refine ez_go (n := 1) (pc' := 1) (L' := [(0, .inl (1))]) (st' := [.inl (1)]) rfl ?_
  refine ez_sw rfl ⟨by decide, by decide⟩ ⟨_, rfl, rfl⟩ ?_
  refine ez_go (n := 1) (pc' := 32) (L' := [(0, .inl (1))]) (st' := [.inl (5)]) rfl ?_
  exact ez_retI rfl rfl k

theorem rd_fieldsOf2 (k : Q (.inl (some (ez_v (.inl 3))), h)) : ez_W d cm_150 0 [(0, .inl (2))] [] h Q := by
  refine ez_go (n := 1) (pc' := 1) (L' := [(0, .inl (2))]) (st' := [.inl (2)]) rfl ?_
  refine ez_sw rfl ⟨by decide, by decide⟩ ⟨_, rfl, rfl⟩ ?_
  refine ez_go (n := 1) (pc' := 34) (L' := [(0, .inl (2))]) (st' := [.inl (3)]) rfl ?_
  exact ez_retI rfl rfl k

theorem rd_fieldsOf3 (k : Q (.inl (some (ez_v (.inl 2))), h)) : ez_W d cm_150 0 [(0, .inl (3))] [] h Q := by
  refine ez_go (n := 1) (pc' := 1) (L' := [(0, .inl (3))]) (st' := [.inl (3)]) rfl ?_
  refine ez_sw rfl ⟨by decide, by decide⟩ ⟨_, rfl, rfl⟩ ?_
  refine ez_go (n := 1) (pc' := 36) (L' := [(0, .inl (3))]) (st' := [.inl (2)]) rfl ?_
  exact ez_retI rfl rfl k

theorem rd_fieldsOf4 (k : Q (.inl (some (ez_v (.inl 2))), h)) : ez_W d cm_150 0 [(0, .inl (4))] [] h Q := by
  refine ez_go (n := 1) (pc' := 1) (L' := [(0, .inl (4))]) (st' := [.inl (4)]) rfl ?_
  refine ez_sw rfl ⟨by decide, by decide⟩ ⟨_, rfl, rfl⟩ ?_
  refine ez_go (n := 1) (pc' := 36) (L' := [(0, .inl (4))]) (st' := [.inl (2)]) rfl ?_
  exact ez_retI rfl rfl k

theorem rd_take_e {v kd n : Int} (hB : ez_B τ h) (t720 : τ 720 = 52) (t202 : τ 202 = 48) (v0 : -1 ≤ v) (v1 : v ≤ 1114112) (hl : v = -1 ∨ qz_I h 202 5 ≤ 255) (k : ∀ g, ez_B τ g → ez_fr (ez_one 202) h g → (∀ j, j ≠ 5 → qz_I g 202 j = qz_I h 202 j) → qz_I g 202 5 = qz_I h 202 5 + (if v = -1 then 0 else 1) → Q (.inl (some (ez_v (.inl v))), g)) : ez_W (d + 1) cm_174 97 [(3, .inl (v)), (0, .inr (.inr (some (720)))), (1, .inl (kd)), (2, .inl (n))] [] h Q := by
  refine ez_go (n := 1) (pc' := 98) (L' := [(3, .inl (v)), (0, .inr (.inr (some (720)))), (1, .inl (kd)), (2, .inl (n))]) (st' := [.inr (.inr (some (720)))]) rfl ?_
  refine ez_gC (p := 202) (tg := 48) hB t720 rfl rfl tq_52 rfl rfl (fun (t202 : _ = 48) => ?_)
  refine ez_go (n := 1) (pc' := 102) (L' := [(3, .inl (v)), (0, .inr (.inr (some (720)))), (1, .inl (kd)), (2, .inl (n))]) (st' := [.inr (.inr (some (202))), .inr (.inr (some (202)))]) rfl ?_
  refine ez_gI hB t202 rfl rfl tq_48 rfl rfl (fun (b1 : 0 ≤ qz_I h 202 5) (b1' : qz_I h 202 5 ≤ 256) => ?_)
  refine ez_go (n := 2) (pc' := 107) (L' := [(3, .inl (v)), (0, .inr (.inr (some (720)))), (1, .inl (kd)), (2, .inl (n))]) (st' := [.inl (-1), .inl (v), .inl (qz_I h 202 5), .inr (.inr (some (202)))]) rfl ?_
  refine ez_icmp rfl rfl ⟨by first | omega | exact (sz_i32 _).1, by first | omega | exact (sz_i32 _).2⟩ ⟨by first | omega | exact (sz_i32 _).1, by first | omega | exact (sz_i32 _).2⟩ (fun (c2 : (v) = (-1)) => ?_) (fun (c2 : ¬((v) = (-1))) => ?_)
  · skip
    refine ez_go (n := 2) (pc' := 116) (L' := [(3, .inl (v)), (0, .inr (.inr (some (720)))), (1, .inl (kd)), (2, .inl (n))]) (st' := [.inl ((qz_I h 202 5) + (0)), .inr (.inr (some (202)))]) rfl ?_
    refine ez_pf hB t202 rfl rfl tq_48 rfl rfl rfl rfl (ez_vdI rfl rfl (by omega) (by omega)) (fun hB3 w4 => ?_)
    refine ez_go (n := 1) (pc' := 120) (L' := [(3, .inl (v)), (0, .inr (.inr (some (720)))), (1, .inl (kd)), (2, .inl (n))]) (st' := [.inl (v)]) rfl ?_
    exact ez_retI rfl rfl (k _ hB3 ((ez_fr.refl (ez_one 202) h).put (show Nat.beq 202 202 = true from rfl) _ _) (fun j hj => ez_put_I (fun w => hj w.2)) (by rw [w4, rz_rd ⟨by omega, by omega⟩]; split <;> omega))
  · skip
    refine ez_go (n := 3) (pc' := 116) (L' := [(3, .inl (v)), (0, .inr (.inr (some (720)))), (1, .inl (kd)), (2, .inl (n))]) (st' := [.inl ((qz_I h 202 5) + (1)), .inr (.inr (some (202)))]) rfl ?_
    refine ez_pf hB t202 rfl rfl tq_48 rfl rfl rfl rfl (ez_vdI rfl rfl (by omega) (by omega)) (fun hB5 w6 => ?_)
    refine ez_go (n := 1) (pc' := 120) (L' := [(3, .inl (v)), (0, .inr (.inr (some (720)))), (1, .inl (kd)), (2, .inl (n))]) (st' := [.inl (v)]) rfl ?_
    exact ez_retI rfl rfl (k _ hB5 ((ez_fr.refl (ez_one 202) h).put (show Nat.beq 202 202 = true from rfl) _ _) (fun j hj => ez_put_I (fun w => hj w.2)) (by rw [w6, rz_rd ⟨by omega, by omega⟩]; split <;> omega))

/-- behind a LINE that is none: nothing of DATA has changed -/
theorem jz_no {τ1 : Nat → Nat} {g : cz_H} {F : rz_W} {E : Int → Prop} {a b : Nat} (hI : jz_I τ h F E) (hB : ez_B τ1 g) (x : fz τ h τ1 g a b) (e2 : ∀ j, qz_I g 202 j = qz_I h 202 j) (e3 : g.2.2 203 = h.2.2 203) (e5 : g.2.2 205 = h.2.2 205) (e4 : ∀ q, τ q = 4 → g.2.2 q = h.2.2 q) : jz_I τ1 g F E := by
  obtain ⟨i1, i2, ⟨i3, i4⟩, i5, i6, i7, i8, Xs, i9, i10⟩ := hI
  have t202 : τ 202 = 48 := i2 202 (by decide)
  have t203 : τ 203 = 49 := i2 203 (by decide)
  have bn := sz_R_n1 i1 t202
  have hp : ∀ k, sz_p g k = sz_p h k := fun k => by unfold sz_p qz_P qz_I; rw [e3]
  have hs : ∀ k, 0 ≤ k → k < 513 → ∀ j, qz_I g (sz_p g k) j = qz_I h (sz_p h k) j := fun k k0 k1 j => by
    rw [hp]
    unfold qz_I
    rw [e4 _ (sz_tag i1 t203 k0 k1)]
  refine ⟨hB, i2.fz x, ⟨⟨?_, fun i j i0 ij jn => ?_⟩, fun i j i0 i1' j0 j1 e => ?_⟩, fun i hi => ?_, ?_, nz_Z_fz i1 i2 i7 x, ?_, Xs, ?_, i10⟩
  · unfold sz_f; rw [hs 0 (by omega) (by omega)]; exact i3.1
  · rw [e2] at jn
    unfold sz_f
    rw [hs i i0 (by omega), hs j (by omega) (by omega)]
    exact i3.2 i j i0 ij jn
  · rw [hp, hp] at e; exact i4 i j i0 i1' j0 j1 e
  · rw [e2] at hi; unfold qz_I; rw [e5]; exact i5 i hi
  · rw [e2, e2]; exact i6
  · refine sz_D_tr i1 t202 t203 i8 (e2 1) e3 e4 (fun q hq => ?_) (fun p hp => ?_)
    · have := (x.1 q (by rw [hq]; decide)).2 (by rw [hq]; rfl)
      unfold qz_I; rw [this]; exact ⟨rfl, rfl, rfl, rfl⟩
    · have := x.1 p (by rw [hp]; decide)
      exact ⟨this.1.trans hp, this.2 (by rw [hp]; rfl)⟩
  · rw [e2]; exact i9
/-- behind a LINE that was taken -/
theorem jz_yes {τ1 : Nat → Nat} {g g2 : cz_H} {F F' : rz_W} {E E' : Int → Prop} {a b : Nat} (hI : jz_I τ h F E) (hB2 : ez_B τ1 g2) (x : fz τ h τ1 g2 a b) (hBg : ez_B τ1 g) (ok : sz_ok g ∧ sz_inj g) (hE : ∀ i : Nat, (i : Int) < qz_I g 202 4 → 1 ≤ qz_I g 205 i) (hn : qz_I g 202 1 ≤ qz_I h 202 1 + 2) (h5 : qz_I g 202 5 = qz_I h 202 5) (hD : sz_D τ1 g F' E') (hf : ez_fr (ez_one 202) g g2) (hj : ∀ j, j ≠ 5 → qz_I g2 202 j = qz_I g 202 j) (hl : qz_I g2 202 5 = qz_I g 202 5 + 1) (hXs : ∃ y, ∀ x, (F' x).2 ≠ none → (F x).2 ≠ none ∨ x = y) : jz_I τ1 g2 F' E' := by
  obtain ⟨i1, i2, -, -, i6, i7, -, Xs, i9, i10⟩ := hI
  have X1 := i2.fz x
  have t202 : τ1 202 = 48 := X1 202 (by decide)
  have t203 : τ1 203 = 49 := X1 203 (by decide)
  have fr : ∀ q, q ≠ 202 → g2.2.2 q = g.2.2 q := fun q hq => hf.2.2 q (dz_beq_ne hq)
  have h3 := fr 203 (by decide)
  have h4 : ∀ q, τ1 q = 4 → g2.2.2 q = g.2.2 q := fun q hq => fr q (fun e => by rw [e, t202] at hq; cases hq)
  have bn := sz_R_n1 hBg t202
  have hp : ∀ k, sz_p g2 k = sz_p g k := fun k => by unfold sz_p qz_P qz_I; rw [h3]
  have hs : ∀ k, 0 ≤ k → k < 513 → ∀ j, qz_I g2 (sz_p g2 k) j = qz_I g (sz_p g k) j := fun k k0 k1 j => by
    rw [hp]
    unfold qz_I
    rw [h4 _ (sz_tag hBg t203 k0 k1)]
  refine ⟨hB2, X1, ⟨⟨?_, fun i j i0 ij jn => ?_⟩, fun i j i0 i1' j0 j1 e => ?_⟩, fun i hi => ?_, ?_, nz_Z_fz i1 i2 i7 x, ?_, ?_⟩
  · unfold sz_f; rw [hs 0 (by omega) (by omega)]; exact ok.1.1
  · rw [hj 1 (by decide)] at jn
    unfold sz_f
    rw [hs i i0 (by omega), hs j (by omega) (by omega)]
    exact ok.1.2 i j i0 ij jn
  · rw [hp, hp] at e; exact ok.2 i j i0 i1' j0 j1 e
  · rw [hj 4 (by decide)] at hi; unfold qz_I; rw [fr 205 (by decide)]; exact hE i hi
  · rw [hj 1 (by decide), hl]; omega
  · refine sz_D_tr hBg t202 t203 hD (hj 1 (by decide)) h3 h4 (fun q hq => ?_) (fun p hp => ⟨hp, fr p (fun e => by rw [e, t202] at hp; cases hp)⟩)
    have := fr q (fun e => by rw [e, t202] at hq; cases hq)
    unfold qz_I; rw [this]; exact ⟨rfl, rfl, rfl, rfl⟩
  · obtain ⟨y, hy⟩ := hXs
    refine ⟨y :: Xs, by rw [hl]; simp only [List.length_cons]; omega, fun x hx => ?_⟩
    rcases hy x hx with w | w
    · exact List.mem_cons_of_mem _ (i10 x w)
    · rw [w]; exact List.mem_cons_self
theorem rz_A_ff {b : Int → Int} {n : Int} {w : Nat} {A : List (Int × Int)} (hA : rz_A b n w A) {k : Int} (k0 : 0 ≤ k) (k1 : k < (A.length : Int)) : rz_ff b A k ≤ rz_tt b A k := by
  obtain ⟨c, -, h2, rfl, -⟩ := hA
  have hk : k.toNat < (rz_seg b c.toNat 0 0).length := by omega
  have hm : (rz_seg b c.toNat 0 0).getD k.toNat (0, 0) ∈ rz_seg b c.toNat 0 0 := by
    rw [List.getD_eq_getElem?_getD, List.getElem?_eq_getElem hk]
    exact List.getElem_mem hk
  have := rz_seg_le b c.toNat 0 0 (Int.le_refl _) _ hm
  exact (rz_tl_tr b _ this.2.1).2.1
theorem sz_pe_ok {g : cz_H} (hB : ez_B τ h) (t203 : τ 203 = 49) (t202 : τ 202 = 48) (e2 : qz_I g 202 1 = qz_I h 202 1) (e3 : g.2.2 203 = h.2.2 203) (e4 : ∀ q, τ q = 4 → g.2.2 q = h.2.2 q) (hs : sz_ok h) (hi : sz_inj h) : sz_ok g ∧ sz_inj g := by
  have bn := sz_R_n1 hB t202
  have hp : ∀ k, sz_p g k = sz_p h k := fun k => by unfold sz_p qz_P qz_I; rw [e3]
  have hss : ∀ k, 0 ≤ k → k < 513 → ∀ j, qz_I g (sz_p g k) j = qz_I h (sz_p h k) j := fun k k0 k1 j => by
    rw [hp]
    unfold qz_I
    rw [e4 _ (sz_tag hB t203 k0 k1)]
  refine ⟨⟨?_, fun i j i0 ij jn => ?_⟩, fun i j i0 i1' j0 j1 e => ?_⟩
  · unfold sz_f; rw [hss 0 (by omega) (by omega)]; exact hs.1
  · rw [e2] at jn
    unfold sz_f
    rw [hss i i0 (by omega), hss j (by omega) (by omega)]
    exact hs.2 i j i0 ij jn
  · rw [hp, hp] at e; exact hi i j i0 i1' j0 j1 e
theorem rd_take0 {F : rz_W} {E : Int → Prop} {n : Int} (hI : jz_I τ h F E) (n0 : 0 ≤ n) (n1 : n ≤ 4096) (hl : n = 0 ∨ qz_I h 202 5 ≤ 255) (hr1 : h.1 + 4 ≤ 600192) (hr2 : h.2.1 + 59 ≤ 7302232) (k : ∀ g τ1 F2 E2 (v : Int), jz_I τ1 g F2 E2 → fz τ h τ1 g 4 59 → rz_step (rz_b h) n 0 F E F2 E2 → ((v = -1 ∧ qz_I g 202 5 = qz_I h 202 5) ∨ (0 ≤ v ∧ v ≤ 1114112 ∧ 0 < n ∧ qz_I g 202 5 = qz_I h 202 5 + 1)) → (∀ j, j ≠ 1 → j ≠ 4 → j ≠ 5 → qz_I g 202 j = qz_I h 202 j) → Q (.inl (some (ez_v (.inl v))), g)) : ez_W (d + 8) cm_174 0 [(0, .inr (.inr (some (720)))), (1, .inl (0)), (2, .inl (n))] [] h Q := by
  have t193 : τ 193 = 45 := hI.2.1 193 (by decide)
  have t202 : τ 202 = 48 := hI.2.1 202 (by decide)
  have t203 : τ 203 = 49 := hI.2.1 203 (by decide)
  have t204 : τ 204 = 50 := hI.2.1 204 (by decide)
  have t205 : τ 205 = 51 := hI.2.1 205 (by decide)
  have t720 : τ 720 = 52 := hI.2.1 720 (by decide)
  have t721 : τ 721 = 53 := hI.2.1 721 (by decide)
  have t722 : τ 722 = 54 := hI.2.1 722 (by decide)
  have hB := hI.1
  refine ez_go (n := 1) (pc' := 1) (L' := [(0, .inr (.inr (some (720)))), (1, .inl (0)), (2, .inl (n))]) (st' := [.inr (.inr (some (720)))]) rfl ?_
  refine ez_gC (p := 202) (tg := 48) hB t720 rfl rfl tq_52 rfl rfl (fun (t202 : _ = 48) => ?_)
  refine ez_gI hB t202 rfl rfl tq_48 rfl rfl (fun (b1 : 0 ≤ qz_I h 202 5) (b1' : qz_I h 202 5 ≤ 256) => ?_)
  refine ez_go (n := 1) (pc' := 10) (L' := [(0, .inr (.inr (some (720)))), (1, .inl (0)), (2, .inl (n))]) (st' := [.inl (256), .inl (qz_I h 202 5)]) rfl ?_
  refine ez_icmp rfl rfl ⟨by first | omega | exact (sz_i32 _).1, by first | omega | exact (sz_i32 _).2⟩ ⟨by first | omega | exact (sz_i32 _).1, by first | omega | exact (sz_i32 _).2⟩ (fun (c2 : (256) ≤ (qz_I h 202 5)) => ?_) (fun (c2 : ¬((256) ≤ (qz_I h 202 5))) => ?_)
  · skip
    refine ez_go (n := 1) (pc' := 26) (L' := [(0, .inr (.inr (some (720)))), (1, .inl (0)), (2, .inl (n))]) (st' := [.inl (-1)]) rfl ?_
    exact ez_retI rfl rfl (k h τ F E (-1) hI (fz.refl _ _ _ _) ⟨fun _ => Or.inr ⟨(fun ⟨_, _, _, _, A, hA, _⟩ => by have := rz_A_pos (by decide) hA; omega), rfl, rfl⟩, fun w => absurd w (by decide), fun w _ => absurd rfl w⟩ (Or.inl ⟨rfl, rfl⟩) (fun _ _ _ _ => rfl))
  · skip
    refine ez_go (n := 3) (pc' := 16) (L' := [(0, .inr (.inr (some (720)))), (1, .inl (0)), (2, .inl (n))]) (st' := [.inl (0), .inl (n), .inr (.inr (some (720)))]) rfl ?_
    refine ez_cs hB.2.1 rfl rfl rfl rfl rfl (rd_fieldsOf0 (ez_K1 ?_))
    refine ez_cv hB t720 rfl rfl rfl tq_52 rfl rfl rfl (rd_split hB t720 t721 t722 n0 n1 (by omega) (by omega) (fun g0 hB0 f0 hno => ez_K1 ?_) (fun g0 c hB0 f0 hpl hha hlen hfl => ez_K1 ?_))
    · skip
      have x0 := fz_ft t721 t722 f0
      have q202 : ∀ j, qz_I g0 202 j = qz_I h 202 j := fun j => f0.I rfl j
      have hI0 : jz_I τ g0 F E := jz_no hI hB0 x0 q202 (f0.2.2 203 rfl) (f0.2.2 205 rfl) (fun q hq => f0.2.2 q (by unfold rz_ft; rw [dz_beq_ne (fun e => by rw [e, t721] at hq; cases hq), dz_beq_ne (fun e => by rw [e, t722] at hq; cases hq)]; rfl))
      have b0 : rz_b g0 = rz_b h := rz_b_fr f0 rfl
      refine ez_if rfl rfl ⟨by decide, by decide⟩ (fun (c3 : (0 : Int) ≠ (0)) => absurd c3 (by decide)) (fun _ => ?_)
      refine ez_go (n := 1) (pc' := 26) (L' := [(0, .inr (.inr (some (720)))), (1, .inl (0)), (2, .inl (n))]) (st' := [.inl (-1)]) rfl ?_
      exact ez_retI rfl rfl (k g0 τ F E (-1) hI0 (x0.mono (by omega) (by omega)) ⟨fun _ => Or.inr ⟨(fun ⟨_, _, _, _, A, hA, _⟩ => by obtain ⟨c, c1, c2, c3, c4⟩ := hA; exact hno c1 c c2.1 c2.2.1 c2.2.2.1 c2.2.2.2 (by rw [← c3]; exact c4)), rfl, rfl⟩, fun w => absurd w (by decide), fun w _ => absurd rfl w⟩ (Or.inl ⟨rfl, q202 5⟩) (fun j _ _ _ => q202 j))
    · skip
      have x0 := fz_ft t721 t722 f0
      have q202 : ∀ j, qz_I g0 202 j = qz_I h 202 j := fun j => f0.I rfl j
      have hI0 : jz_I τ g0 F E := jz_no hI hB0 x0 q202 (f0.2.2 203 rfl) (f0.2.2 205 rfl) (fun q hq => f0.2.2 q (by unfold rz_ft; rw [dz_beq_ne (fun e => by rw [e, t721] at hq; cases hq), dz_beq_ne (fun e => by rw [e, t722] at hq; cases hq)]; rfl))
      have b0 : rz_b g0 = rz_b h := rz_b_fr f0 rfl
      have hA : rz_A (rz_b h) n 7 (rz_seg (rz_b h) c.toNat 0 0) := ⟨c, hpl, hha, rfl, hlen⟩
      generalize rz_seg (rz_b h) c.toNat 0 0 = A at hA hfl hlen
      have hlen : (A.length : Int) = 7 := by rw [hlen]; rfl
      have hfa : ∀ k, 0 ≤ k → k ≤ 6 → rz_f g0 k = rz_ff (rz_b h) A k ∧ rz_t g0 k = rz_tt (rz_b h) A k := fun k k0 k1 => rz_flds_at hfl k0 (by omega)
      have hft : ∀ k, 0 ≤ k → k ≤ 6 → rz_f g0 k ≤ rz_t g0 k := fun k k0 k1 => by
        obtain ⟨w1, w2⟩ := hfa k k0 k1
        rw [w1, w2]
        exact rz_A_ff hA (by omega) (by omega)
      have hlt : qz_I h 202 5 ≤ 255 := by omega
      have hnp := rz_A_pos (by decide) hA
      have fc0 := x0.2
      have i6 := hI.2.2.2.2.1
      have hsp : qz_I g0 202 1 + 2 ≤ 513 := by rw [q202]; omega
      refine ez_if rfl rfl ⟨by decide, by decide⟩ (fun _ => ?_) (fun (c4 : ¬((1 : Int) ≠ (0))) => absurd c4 (by decide))
      refine ez_go (n := 1) (pc' := 28) (L' := [(0, .inr (.inr (some (720)))), (1, .inl (0)), (2, .inl (n))]) (st' := [.inl (0)]) rfl ?_
      refine ez_sw rfl ⟨by decide, by decide⟩ ⟨_, rfl, rfl⟩ ?_
      refine ez_go (n := 1) (pc' := 61) (L' := [(0, .inr (.inr (some (720)))), (1, .inl (0)), (2, .inl (n))]) (st' := [.inr (.inr (some (720)))]) rfl ?_
      refine ez_cv hB0 t720 rfl rfl rfl tq_52 rfl rfl rfl (rd_takeFact hB0 t193 t202 t203 t720 t721 t722 hI0.2.2.1.1 hI0.2.2.1.2 hft hsp (by omega) (by omega) (fun g1 τ1 hB1 hx hno => ez_K1 ?_) (fun g1 h1 τ1 first last cls dec hB1 hBh hx t3 hF r0 r2 hD ht => ez_K1 ?_))
      · skip
        have xx := x0.trans (fz_xr t720 hx)
        have w202 : ∀ j, qz_I g1 202 j = qz_I g0 202 j := fun j => hx.I (by rw [t202]; decide) (by decide) j
        have hI1 : jz_I τ1 g1 F E := jz_no hI0 hB1 (fz_xr t720 hx) w202 ((hx.1 203 (by rw [t203]; decide)).2 (by decide)) ((hx.1 205 (by rw [t205]; decide)).2 (by decide)) (fun q hq => (hx.1 q (by rw [hq]; decide)).2 (fun e => by rw [e, t720] at hq; cases hq))
        have u202 : τ1 202 = 48 := hI1.2.1 202 (by decide)
        have u720 : τ1 720 = 52 := hI1.2.1 720 (by decide)
        have hnone : ¬ ∃ first last cls dec, rz_L0 (rz_b h) n first last cls dec := fun ⟨f, l, c2, dd, A2, hA2, w⟩ => hno ⟨f, l, c2, dd, by rw [← rz_A_uniq hA hA2] at w; rw [b0]; exact rz_F_congr (fun k k0 k1 => (hfa k k0 k1).1.symm) (fun k k0 k1 => (hfa k k0 k1).2.symm) w⟩
        refine ez_go (n := 2) (pc' := 97) (L' := [(3, .inl (-1)), (0, .inr (.inr (some (720)))), (1, .inl (0)), (2, .inl (n))]) (st' := []) rfl ?_
        refine ez_less [(3, .inl (-1)), (0, .inr (.inr (some (720)))), (1, .inl (0)), (2, .inl (n))] rfl ⟨rfl, rfl, rfl, rfl, trivial⟩ ?_
        refine rd_take_e hB1 u720 u202 (by omega) (by omega) (Or.inl rfl) (fun g9 hB9 f9 j9 l9 => ?_)
        rw [if_pos rfl] at l9
        have y9 := fz_1 u202 rfl f9
        have e9 : ∀ j, qz_I g9 202 j = qz_I g1 202 j := fun j => by by_cases w : j = 5; (· rw [w, l9]; omega); (· exact j9 j w)
        have hI9 : jz_I τ1 g9 F E := jz_no hI1 hB9 y9 e9 (f9.2.2 203 rfl) (f9.2.2 205 rfl) (fun q hq => f9.2.2 q (rz_ne hq u202 rfl))
        exact k g9 _ F E (-1) hI9 ((xx.trans y9).mono (by omega) (by omega)) ⟨fun _ => Or.inr ⟨hnone, rfl, rfl⟩, fun w => absurd w (by decide), fun w _ => absurd rfl w⟩ (Or.inl ⟨rfl, by rw [e9, w202, q202]⟩) (fun j _ _ _ => by rw [e9, w202, q202])
      · skip
        have xr := fz_xr t720 hx
        have X1 := hI0.2.1.fz xr
        have u202 : τ1 202 = 48 := X1 202 (by decide)
        have u203 : τ1 203 = 49 := X1 203 (by decide)
        have u204 : τ1 204 = 50 := X1 204 (by decide)
        have u205 : τ1 205 = 51 := X1 205 (by decide)
        have u720 : τ1 720 = 52 := X1 720 (by decide)
        have w202 : ∀ j, qz_I h1 202 j = qz_I g0 202 j := fun j => hx.I (by rw [t202]; decide) (by decide) j
        have c205 : h1.2.2 205 = g0.2.2 205 := (hx.1 205 (by rw [t205]; decide)).2 (by decide)
        have c203 : h1.2.2 203 = g0.2.2 203 := (hx.1 203 (by rw [t203]; decide)).2 (by decide)
        have c4 : ∀ q, τ q = 4 → h1.2.2 q = g0.2.2 q := fun q hq => (hx.1 q (by rw [hq]; decide)).2 (fun e => by rw [e, t720] at hq; cases hq)
        have hDh : sz_D τ1 h1 F E := sz_D_tr hB0 t202 t203 hI0.2.2.2.2.2.2.1 (w202 1) c203 c4 (fun q hq => by have := (xr.1 q (by rw [hq]; decide)).2 (by rw [hq]; rfl); unfold qz_I; rw [this]; exact ⟨rfl, rfl, rfl, rfl⟩) (fun p hp => by have := xr.1 p (by rw [hp]; decide); exact ⟨this.1.trans hp, this.2 (by rw [hp]; rfl)⟩)
        have hok9 : sz_ok g1 ∧ sz_inj g1 := ⟨ht.1, ht.2.1⟩
        have p205 : sz_PS τ1 205 = false := by unfold sz_PS; rw [u205]; rfl
        have hE9 : ∀ i : Nat, (i : Int) < qz_I g1 202 4 → 1 ≤ qz_I g1 205 i := fun i hi => by rw [ht.2.2.2.1 4 (by decide), w202] at hi; rw [ht.2.2.1.I p205]; unfold qz_I; rw [c205]; exact hI0.2.2.2.1 i hi
        have hn9 : qz_I g1 202 1 ≤ qz_I g0 202 1 + 2 := by have := ht.2.2.2.2.1; rw [w202] at this; exact this
        have h59 : qz_I g1 202 5 = qz_I g0 202 5 := (ht.2.2.2.1 5 (by decide)).trans (w202 5)
        have ho9 : ∀ j, j ≠ 1 → j ≠ 4 → qz_I g1 202 j = qz_I g0 202 j := fun j j1 _ => (ht.2.2.2.1 j j1).trans (w202 j)
        have xg := xr.trans (fz_PS u202 u203 ht.2.2.1)
        rw [b0] at hF
        have hF := rz_F_congr (fun k k0 k1 => (hfa k k0 k1).1) (fun k k0 k1 => (hfa k k0 k1).2) hF
        have hF1 := hF.1
        have bl := rz_last_bd (rz_b h) (rz_ff (rz_b h) A 0) (rz_tt (rz_b h) A 0)
        have bf := rz_code_bd (rz_b h) (rz_ff (rz_b h) A 0) (rz_dots (rz_b h) (rz_tt (rz_b h) A 0 - rz_ff (rz_b h) A 0).toNat (rz_ff (rz_b h) A 0))
        have ef2 : rz_first (rz_b h) (rz_ff (rz_b h) A 0) (rz_tt (rz_b h) A 0) = rz_code (rz_b h) (rz_ff (rz_b h) A 0) (rz_dots (rz_b h) (rz_tt (rz_b h) A 0 - rz_ff (rz_b h) A 0).toNat (rz_ff (rz_b h) A 0)) := rfl
        have hone : dec ≠ none → first = last := fun w => by
          by_cases e : first < last
          · exfalso
            rcases hF.2.2.2.1 with ⟨_, w2⟩ | ⟨w2, _⟩
            · exact w w2
            · exact w2 (hF.2.2.2.2.2 e 3 (by omega) (by omega))
          · omega
        obtain ⟨F2, hF2⟩ : ∃ F2 : rz_W, ∀ x, F2 x = if first ≤ x ∧ x ≤ last then (cls, dec) else F x := ⟨fun x => if first ≤ x ∧ x ≤ last then (cls, dec) else F x, fun x => rfl⟩
        obtain ⟨E2, hE2⟩ : ∃ E2, E2 = E := ⟨E, rfl⟩
        have hD9 : sz_D τ1 g1 F2 E2 := by rw [hE2]; exact sz_D_F hBh u202 u203 t3 hDh ht r0 r2 hD hone hF2
        have hXs : ∃ y, ∀ x, (F2 x).2 ≠ none → (F x).2 ≠ none ∨ x = y := ⟨first, fun x hx => by
          rw [hF2 x] at hx
          by_cases e : first ≤ x ∧ x ≤ last
          · rw [if_pos e] at hx; have := hone hx; exact Or.inr (by omega)
          · rw [if_neg e] at hx; exact Or.inl hx⟩
        have hstep : rz_step (rz_b h) n 0 F E F2 E2 := ⟨fun _ => Or.inl ⟨first, last, cls, dec, ⟨A, hA, hF⟩, hF2, hE2⟩, fun w => absurd w (by decide), fun w _ => absurd rfl w⟩
        refine ez_go (n := 2) (pc' := 97) (L' := [(3, .inl (last - first + 1)), (0, .inr (.inr (some (720)))), (1, .inl (0)), (2, .inl (n))]) (st' := []) rfl ?_
        refine ez_less [(3, .inl (last - first + 1)), (0, .inr (.inr (some (720)))), (1, .inl (0)), (2, .inl (n))] rfl ⟨rfl, rfl, rfl, rfl, trivial⟩ ?_
        refine rd_take_e hB1 u720 u202 (by omega) (by omega) (Or.inr (by rw [h59, q202]; exact hlt)) (fun g9 hB9 f9 j9 l9 => ?_)
        rw [if_neg (by omega)] at l9
        have y9 := fz_1 u202 rfl f9
        refine k g9 _ F2 E2 _ (jz_yes hI0 hB9 (xg.trans y9) hB1 hok9 hE9 hn9 h59 hD9 f9 j9 l9 hXs) (((x0.trans xg).trans y9).mono (by omega) (by omega)) hstep (Or.inr ⟨by omega, by omega, hnp, by rw [l9, h59, q202]⟩) (fun j j1 j4 j5 => by rw [j9 j j5, ho9 j j1 j4, q202])

theorem rd_take1 {F : rz_W} {E : Int → Prop} {n : Int} (hI : jz_I τ h F E) (n0 : 0 ≤ n) (n1 : n ≤ 4096) (hl : n = 0 ∨ qz_I h 202 5 ≤ 255) (hr1 : h.1 + 4 ≤ 600192) (hr2 : h.2.1 + 59 ≤ 7302232) (k : ∀ g τ1 F2 E2 (v : Int), jz_I τ1 g F2 E2 → fz τ h τ1 g 4 59 → rz_step (rz_b h) n 1 F E F2 E2 → ((v = -1 ∧ qz_I g 202 5 = qz_I h 202 5) ∨ (0 ≤ v ∧ v ≤ 1114112 ∧ 0 < n ∧ qz_I g 202 5 = qz_I h 202 5 + 1)) → (∀ j, j ≠ 1 → j ≠ 4 → j ≠ 5 → qz_I g 202 j = qz_I h 202 j) → Q (.inl (some (ez_v (.inl v))), g)) : ez_W (d + 8) cm_174 0 [(0, .inr (.inr (some (720)))), (1, .inl (1)), (2, .inl (n))] [] h Q := by
  have t193 : τ 193 = 45 := hI.2.1 193 (by decide)
  have t202 : τ 202 = 48 := hI.2.1 202 (by decide)
  have t203 : τ 203 = 49 := hI.2.1 203 (by decide)
  have t204 : τ 204 = 50 := hI.2.1 204 (by decide)
  have t205 : τ 205 = 51 := hI.2.1 205 (by decide)
  have t720 : τ 720 = 52 := hI.2.1 720 (by decide)
  have t721 : τ 721 = 53 := hI.2.1 721 (by decide)
  have t722 : τ 722 = 54 := hI.2.1 722 (by decide)
  have hB := hI.1
  refine ez_go (n := 1) (pc' := 1) (L' := [(0, .inr (.inr (some (720)))), (1, .inl (1)), (2, .inl (n))]) (st' := [.inr (.inr (some (720)))]) rfl ?_
  refine ez_gC (p := 202) (tg := 48) hB t720 rfl rfl tq_52 rfl rfl (fun (t202 : _ = 48) => ?_)
  refine ez_gI hB t202 rfl rfl tq_48 rfl rfl (fun (b1 : 0 ≤ qz_I h 202 5) (b1' : qz_I h 202 5 ≤ 256) => ?_)
  refine ez_go (n := 1) (pc' := 10) (L' := [(0, .inr (.inr (some (720)))), (1, .inl (1)), (2, .inl (n))]) (st' := [.inl (256), .inl (qz_I h 202 5)]) rfl ?_
  refine ez_icmp rfl rfl ⟨by first | omega | exact (sz_i32 _).1, by first | omega | exact (sz_i32 _).2⟩ ⟨by first | omega | exact (sz_i32 _).1, by first | omega | exact (sz_i32 _).2⟩ (fun (c2 : (256) ≤ (qz_I h 202 5)) => ?_) (fun (c2 : ¬((256) ≤ (qz_I h 202 5))) => ?_)
  · skip
    refine ez_go (n := 1) (pc' := 26) (L' := [(0, .inr (.inr (some (720)))), (1, .inl (1)), (2, .inl (n))]) (st' := [.inl (-1)]) rfl ?_
    exact ez_retI rfl rfl (k h τ F E (-1) hI (fz.refl _ _ _ _) ⟨fun w => absurd w (by decide), fun w => absurd w (by decide), fun _ _ => ⟨rfl, rfl⟩⟩ (Or.inl ⟨rfl, rfl⟩) (fun _ _ _ _ => rfl))
  · skip
    refine ez_go (n := 3) (pc' := 16) (L' := [(0, .inr (.inr (some (720)))), (1, .inl (1)), (2, .inl (n))]) (st' := [.inl (1), .inl (n), .inr (.inr (some (720)))]) rfl ?_
    refine ez_cs hB.2.1 rfl rfl rfl rfl rfl (rd_fieldsOf1 (ez_K1 ?_))
    refine ez_cv hB t720 rfl rfl rfl tq_52 rfl rfl rfl (rd_split hB t720 t721 t722 n0 n1 (by omega) (by omega) (fun g0 hB0 f0 hno => ez_K1 ?_) (fun g0 c hB0 f0 hpl hha hlen hfl => ez_K1 ?_))
    · skip
      have x0 := fz_ft t721 t722 f0
      have q202 : ∀ j, qz_I g0 202 j = qz_I h 202 j := fun j => f0.I rfl j
      have hI0 : jz_I τ g0 F E := jz_no hI hB0 x0 q202 (f0.2.2 203 rfl) (f0.2.2 205 rfl) (fun q hq => f0.2.2 q (by unfold rz_ft; rw [dz_beq_ne (fun e => by rw [e, t721] at hq; cases hq), dz_beq_ne (fun e => by rw [e, t722] at hq; cases hq)]; rfl))
      have b0 : rz_b g0 = rz_b h := rz_b_fr f0 rfl
      refine ez_if rfl rfl ⟨by decide, by decide⟩ (fun (c3 : (0 : Int) ≠ (0)) => absurd c3 (by decide)) (fun _ => ?_)
      refine ez_go (n := 1) (pc' := 26) (L' := [(0, .inr (.inr (some (720)))), (1, .inl (1)), (2, .inl (n))]) (st' := [.inl (-1)]) rfl ?_
      exact ez_retI rfl rfl (k g0 τ F E (-1) hI0 (x0.mono (by omega) (by omega)) ⟨fun w => absurd w (by decide), fun w => absurd w (by decide), fun _ _ => ⟨rfl, rfl⟩⟩ (Or.inl ⟨rfl, q202 5⟩) (fun j _ _ _ => q202 j))
    · skip
      have x0 := fz_ft t721 t722 f0
      have q202 : ∀ j, qz_I g0 202 j = qz_I h 202 j := fun j => f0.I rfl j
      have hI0 : jz_I τ g0 F E := jz_no hI hB0 x0 q202 (f0.2.2 203 rfl) (f0.2.2 205 rfl) (fun q hq => f0.2.2 q (by unfold rz_ft; rw [dz_beq_ne (fun e => by rw [e, t721] at hq; cases hq), dz_beq_ne (fun e => by rw [e, t722] at hq; cases hq)]; rfl))
      have b0 : rz_b g0 = rz_b h := rz_b_fr f0 rfl
      have hA : rz_A (rz_b h) n 5 (rz_seg (rz_b h) c.toNat 0 0) := ⟨c, hpl, hha, rfl, hlen⟩
      generalize rz_seg (rz_b h) c.toNat 0 0 = A at hA hfl hlen
      have hlen : (A.length : Int) = 5 := by rw [hlen]; rfl
      have hfa : ∀ k, 0 ≤ k → k ≤ 4 → rz_f g0 k = rz_ff (rz_b h) A k ∧ rz_t g0 k = rz_tt (rz_b h) A k := fun k k0 k1 => rz_flds_at hfl k0 (by omega)
      have hft : ∀ k, 0 ≤ k → k ≤ 4 → rz_f g0 k ≤ rz_t g0 k := fun k k0 k1 => by
        obtain ⟨w1, w2⟩ := hfa k k0 k1
        rw [w1, w2]
        exact rz_A_ff hA (by omega) (by omega)
      have hlt : qz_I h 202 5 ≤ 255 := by omega
      have hnp := rz_A_pos (by decide) hA
      have fc0 := x0.2
      have i6 := hI.2.2.2.2.1
      have hsp : qz_I g0 202 1 + 2 ≤ 513 := by rw [q202]; omega
      refine ez_if rfl rfl ⟨by decide, by decide⟩ (fun _ => ?_) (fun (c4 : ¬((1 : Int) ≠ (0))) => absurd c4 (by decide))
      refine ez_go (n := 1) (pc' := 28) (L' := [(0, .inr (.inr (some (720)))), (1, .inl (1)), (2, .inl (n))]) (st' := [.inl (1)]) rfl ?_
      refine ez_sw rfl ⟨by decide, by decide⟩ ⟨_, rfl, rfl⟩ ?_
      refine ez_go (n := 1) (pc' := 69) (L' := [(0, .inr (.inr (some (720)))), (1, .inl (1)), (2, .inl (n))]) (st' := [.inr (.inr (some (720)))]) rfl ?_
      refine ez_cv hB0 t720 rfl rfl rfl tq_52 rfl rfl rfl (rd_takeSpecial hB0 t193 t202 t203 t720 t721 t722 hI0.2.2.1.1 hI0.2.2.1.2 hft hsp hI0.2.2.2.2.2.1 (nz_hz hB0 hI0.2.1) (hI0.2.1 1 (by decide)) (by omega) (by omega) (fun g1 τ1 hB1 hx => ez_K1 ?_) (fun g1 g3 h1 τ1 p hB1 hBh hB3 hx ht h6 => ez_K1 ?_))
      · skip
        have xx := x0.trans (fz_xt hx)
        have w202 : ∀ j, qz_I g1 202 j = qz_I g0 202 j := fun j => hx.I (by rw [t202]; decide) j
        have hI1 : jz_I τ1 g1 F E := jz_no hI0 hB1 (fz_xt hx) w202 ((hx.1 203 (by rw [t203]; decide)).2) ((hx.1 205 (by rw [t205]; decide)).2) (fun q hq => (hx.1 q (by rw [hq]; decide)).2)
        have u202 : τ1 202 = 48 := hI1.2.1 202 (by decide)
        have u720 : τ1 720 = 52 := hI1.2.1 720 (by decide)
        refine ez_go (n := 2) (pc' := 97) (L' := [(3, .inl (-1)), (0, .inr (.inr (some (720)))), (1, .inl (1)), (2, .inl (n))]) (st' := []) rfl ?_
        refine ez_less [(3, .inl (-1)), (0, .inr (.inr (some (720)))), (1, .inl (1)), (2, .inl (n))] rfl ⟨rfl, rfl, rfl, rfl, trivial⟩ ?_
        refine rd_take_e hB1 u720 u202 (by omega) (by omega) (Or.inl rfl) (fun g9 hB9 f9 j9 l9 => ?_)
        rw [if_pos rfl] at l9
        have y9 := fz_1 u202 rfl f9
        have e9 : ∀ j, qz_I g9 202 j = qz_I g1 202 j := fun j => by by_cases w : j = 5; (· rw [w, l9]; omega); (· exact j9 j w)
        have hI9 : jz_I τ1 g9 F E := jz_no hI1 hB9 y9 e9 (f9.2.2 203 rfl) (f9.2.2 205 rfl) (fun q hq => f9.2.2 q (rz_ne hq u202 rfl))
        exact k g9 _ F E (-1) hI9 ((xx.trans y9).mono (by omega) (by omega)) ⟨fun w => absurd w (by decide), fun w => absurd w (by decide), fun _ _ => ⟨rfl, rfl⟩⟩ (Or.inl ⟨rfl, by rw [e9, w202, q202]⟩) (fun j _ _ _ => by rw [e9, w202, q202])
      · skip
        have xr := fz_xt hx
        have X1 := hI0.2.1.fz xr
        have u202 : τ1 202 = 48 := X1 202 (by decide)
        have u203 : τ1 203 = 49 := X1 203 (by decide)
        have u204 : τ1 204 = 50 := X1 204 (by decide)
        have u205 : τ1 205 = 51 := X1 205 (by decide)
        have u720 : τ1 720 = 52 := X1 720 (by decide)
        have w202 : ∀ j, qz_I h1 202 j = qz_I g0 202 j := fun j => hx.I (by rw [t202]; decide) j
        have c205 : h1.2.2 205 = g0.2.2 205 := (hx.1 205 (by rw [t205]; decide)).2
        have c203 : h1.2.2 203 = g0.2.2 203 := (hx.1 203 (by rw [t203]; decide)).2
        have c4 : ∀ q, τ q = 4 → h1.2.2 q = g0.2.2 q := fun q hq => (hx.1 q (by rw [hq]; decide)).2
        have hDh : sz_D τ1 h1 F E := sz_D_tr hB0 t202 t203 hI0.2.2.2.2.2.2.1 (w202 1) c203 c4 (fun q hq => by have := (xr.1 q (by rw [hq]; decide)).2 (by rw [hq]; rfl); unfold qz_I; rw [this]; exact ⟨rfl, rfl, rfl, rfl⟩) (fun p hp => by have := xr.1 p (by rw [hp]; decide); exact ⟨this.1.trans hp, this.2 (by rw [hp]; rfl)⟩)
        have F2e : ∃ F2, F2 = F := ⟨F, rfl⟩
        obtain ⟨F2, hF2⟩ := F2e
        have E2e : ∃ E2, E2 = E := ⟨E, rfl⟩
        obtain ⟨E2, hE2⟩ := E2e
        have hXs : ∃ y, ∀ x, (F2 x).2 ≠ none → (F x).2 ≠ none ∨ x = y := ⟨0, fun x hx => Or.inl (by rw [hF2] at hx; exact hx)⟩
        have hstep : rz_step (rz_b h) n 1 F E F2 E2 := ⟨fun w => absurd w (by decide), fun w => absurd w (by decide), fun _ _ => ⟨hF2, hE2⟩⟩
        have hok9 : sz_ok g3 ∧ sz_inj g3 := ⟨ht.1, ht.2.1⟩
        have p205 : sz_PS τ1 205 = false := by unfold sz_PS; rw [u205]; rfl
        have hE9 : ∀ i : Nat, (i : Int) < qz_I g3 202 4 → 1 ≤ qz_I g3 205 i := fun i hi => by rw [ht.2.2.2.1 4 (by decide), w202] at hi; rw [ht.2.2.1.I p205]; unfold qz_I; rw [c205]; exact hI0.2.2.2.1 i hi
        have hn9 : qz_I g3 202 1 ≤ qz_I g0 202 1 + 2 := by have := ht.2.2.2.2.1; rw [w202] at this; exact this
        have h59 : qz_I g3 202 5 = qz_I g0 202 5 := (ht.2.2.2.1 5 (by decide)).trans (w202 5)
        have ho9 : ∀ j, j ≠ 1 → j ≠ 4 → qz_I g3 202 j = qz_I g0 202 j := fun j j1 _ => (ht.2.2.2.1 j j1).trans (w202 j)
        have p6 : ∀ q, τ1 q ≠ 6 → g1.2.2 q = g3.2.2 q := fun q hq => h6.2.2 q (dz_beq_ne hq)
        have xg := (xr.trans (fz_PS u202 u203 ht.2.2.1)).trans (fz_P6 h6)
        have z202 : ∀ j, qz_I g1 202 j = qz_I g3 202 j := fun j => by unfold qz_I; rw [p6 202 (by rw [u202]; decide)]
        have hD9 : sz_D τ1 g1 F2 E2 := by
          rw [hF2, hE2]
          refine sz_D_tr hB3 u202 u203 (sz_D_R hBh u202 u203 hDh ht (fun P u v w => w (by decide)) (fun x u v w wu => by rw [w (by decide)]; exact wu)) (z202 1) (p6 203 (by rw [u203]; decide)) (fun q hq => p6 q (by rw [hq]; decide)) (fun q hq => ?_) (fun p hp => ⟨hp, p6 p (by rw [hp]; decide)⟩)
          unfold qz_I; rw [p6 q (by rw [hq]; decide)]; exact ⟨rfl, rfl, rfl, rfl⟩
        have hok9 := sz_same_ok hB3 u203 u202 (p6 202 (by rw [u202]; decide)) (p6 203 (by rw [u203]; decide)) (fun q hq => p6 q (by rw [hq]; decide)) hok9.1 hok9.2
        have hE9 : ∀ i : Nat, (i : Int) < qz_I g1 202 4 → 1 ≤ qz_I g1 205 i := fun i hi => by rw [z202] at hi; unfold qz_I; rw [p6 205 (by rw [u205]; decide)]; exact hE9 i hi
        have hn9 : qz_I g1 202 1 ≤ qz_I g0 202 1 + 2 := by rw [z202]; exact hn9
        have h59 : qz_I g1 202 5 = qz_I g0 202 5 := (z202 5).trans h59
        have ho9 : ∀ j, j ≠ 1 → j ≠ 4 → qz_I g1 202 j = qz_I g0 202 j := fun j j1 j4 => (z202 j).trans (ho9 j j1 j4)
        refine ez_go (n := 2) (pc' := 97) (L' := [(3, .inl (1)), (0, .inr (.inr (some (720)))), (1, .inl (1)), (2, .inl (n))]) (st' := []) rfl ?_
        refine ez_less [(3, .inl (1)), (0, .inr (.inr (some (720)))), (1, .inl (1)), (2, .inl (n))] rfl ⟨rfl, rfl, rfl, rfl, trivial⟩ ?_
        refine rd_take_e hB1 u720 u202 (by omega) (by omega) (Or.inr (by rw [h59, q202]; exact hlt)) (fun g9 hB9 f9 j9 l9 => ?_)
        rw [if_neg (by omega)] at l9
        have y9 := fz_1 u202 rfl f9
        refine k g9 _ F2 E2 _ (jz_yes hI0 hB9 (xg.trans y9) hB1 hok9 hE9 hn9 h59 hD9 f9 j9 l9 hXs) (((x0.trans xg).trans y9).mono (by omega) (by omega)) hstep (Or.inr ⟨by omega, by omega, hnp, by rw [l9, h59, q202]⟩) (fun j j1 j4 j5 => by rw [j9 j j5, ho9 j j1 j4, q202])

theorem rd_take2 {F : rz_W} {E : Int → Prop} {n : Int} (hI : jz_I τ h F E) (n0 : 0 ≤ n) (n1 : n ≤ 4096) (hl : n = 0 ∨ qz_I h 202 5 ≤ 255) (hr1 : h.1 + 4 ≤ 600192) (hr2 : h.2.1 + 59 ≤ 7302232) (k : ∀ g τ1 F2 E2 (v : Int), jz_I τ1 g F2 E2 → fz τ h τ1 g 4 59 → rz_step (rz_b h) n 2 F E F2 E2 → ((v = -1 ∧ qz_I g 202 5 = qz_I h 202 5) ∨ (0 ≤ v ∧ v ≤ 1114112 ∧ 0 < n ∧ qz_I g 202 5 = qz_I h 202 5 + 1)) → (∀ j, j ≠ 1 → j ≠ 4 → j ≠ 5 → qz_I g 202 j = qz_I h 202 j) → Q (.inl (some (ez_v (.inl v))), g)) : ez_W (d + 8) cm_174 0 [(0, .inr (.inr (some (720)))), (1, .inl (2)), (2, .inl (n))] [] h Q := by
  have t193 : τ 193 = 45 := hI.2.1 193 (by decide)
  have t202 : τ 202 = 48 := hI.2.1 202 (by decide)
  have t203 : τ 203 = 49 := hI.2.1 203 (by decide)
  have t204 : τ 204 = 50 := hI.2.1 204 (by decide)
  have t205 : τ 205 = 51 := hI.2.1 205 (by decide)
  have t720 : τ 720 = 52 := hI.2.1 720 (by decide)
  have t721 : τ 721 = 53 := hI.2.1 721 (by decide)
  have t722 : τ 722 = 54 := hI.2.1 722 (by decide)
  have hB := hI.1
  refine ez_go (n := 1) (pc' := 1) (L' := [(0, .inr (.inr (some (720)))), (1, .inl (2)), (2, .inl (n))]) (st' := [.inr (.inr (some (720)))]) rfl ?_
  refine ez_gC (p := 202) (tg := 48) hB t720 rfl rfl tq_52 rfl rfl (fun (t202 : _ = 48) => ?_)
  refine ez_gI hB t202 rfl rfl tq_48 rfl rfl (fun (b1 : 0 ≤ qz_I h 202 5) (b1' : qz_I h 202 5 ≤ 256) => ?_)
  refine ez_go (n := 1) (pc' := 10) (L' := [(0, .inr (.inr (some (720)))), (1, .inl (2)), (2, .inl (n))]) (st' := [.inl (256), .inl (qz_I h 202 5)]) rfl ?_
  refine ez_icmp rfl rfl ⟨by first | omega | exact (sz_i32 _).1, by first | omega | exact (sz_i32 _).2⟩ ⟨by first | omega | exact (sz_i32 _).1, by first | omega | exact (sz_i32 _).2⟩ (fun (c2 : (256) ≤ (qz_I h 202 5)) => ?_) (fun (c2 : ¬((256) ≤ (qz_I h 202 5))) => ?_)
  · skip
    refine ez_go (n := 1) (pc' := 26) (L' := [(0, .inr (.inr (some (720)))), (1, .inl (2)), (2, .inl (n))]) (st' := [.inl (-1)]) rfl ?_
    exact ez_retI rfl rfl (k h τ F E (-1) hI (fz.refl _ _ _ _) ⟨fun w => absurd w (by decide), fun w => absurd w (by decide), fun _ _ => ⟨rfl, rfl⟩⟩ (Or.inl ⟨rfl, rfl⟩) (fun _ _ _ _ => rfl))
  · skip
    refine ez_go (n := 3) (pc' := 16) (L' := [(0, .inr (.inr (some (720)))), (1, .inl (2)), (2, .inl (n))]) (st' := [.inl (2), .inl (n), .inr (.inr (some (720)))]) rfl ?_
    refine ez_cs hB.2.1 rfl rfl rfl rfl rfl (rd_fieldsOf2 (ez_K1 ?_))
    refine ez_cv hB t720 rfl rfl rfl tq_52 rfl rfl rfl (rd_split hB t720 t721 t722 n0 n1 (by omega) (by omega) (fun g0 hB0 f0 hno => ez_K1 ?_) (fun g0 c hB0 f0 hpl hha hlen hfl => ez_K1 ?_))
    · skip
      have x0 := fz_ft t721 t722 f0
      have q202 : ∀ j, qz_I g0 202 j = qz_I h 202 j := fun j => f0.I rfl j
      have hI0 : jz_I τ g0 F E := jz_no hI hB0 x0 q202 (f0.2.2 203 rfl) (f0.2.2 205 rfl) (fun q hq => f0.2.2 q (by unfold rz_ft; rw [dz_beq_ne (fun e => by rw [e, t721] at hq; cases hq), dz_beq_ne (fun e => by rw [e, t722] at hq; cases hq)]; rfl))
      have b0 : rz_b g0 = rz_b h := rz_b_fr f0 rfl
      refine ez_if rfl rfl ⟨by decide, by decide⟩ (fun (c3 : (0 : Int) ≠ (0)) => absurd c3 (by decide)) (fun _ => ?_)
      refine ez_go (n := 1) (pc' := 26) (L' := [(0, .inr (.inr (some (720)))), (1, .inl (2)), (2, .inl (n))]) (st' := [.inl (-1)]) rfl ?_
      exact ez_retI rfl rfl (k g0 τ F E (-1) hI0 (x0.mono (by omega) (by omega)) ⟨fun w => absurd w (by decide), fun w => absurd w (by decide), fun _ _ => ⟨rfl, rfl⟩⟩ (Or.inl ⟨rfl, q202 5⟩) (fun j _ _ _ => q202 j))
    · skip
      have x0 := fz_ft t721 t722 f0
      have q202 : ∀ j, qz_I g0 202 j = qz_I h 202 j := fun j => f0.I rfl j
      have hI0 : jz_I τ g0 F E := jz_no hI hB0 x0 q202 (f0.2.2 203 rfl) (f0.2.2 205 rfl) (fun q hq => f0.2.2 q (by unfold rz_ft; rw [dz_beq_ne (fun e => by rw [e, t721] at hq; cases hq), dz_beq_ne (fun e => by rw [e, t722] at hq; cases hq)]; rfl))
      have b0 : rz_b g0 = rz_b h := rz_b_fr f0 rfl
      have hA : rz_A (rz_b h) n 3 (rz_seg (rz_b h) c.toNat 0 0) := ⟨c, hpl, hha, rfl, hlen⟩
      generalize rz_seg (rz_b h) c.toNat 0 0 = A at hA hfl hlen
      have hlen : (A.length : Int) = 3 := by rw [hlen]; rfl
      have hfa : ∀ k, 0 ≤ k → k ≤ 2 → rz_f g0 k = rz_ff (rz_b h) A k ∧ rz_t g0 k = rz_tt (rz_b h) A k := fun k k0 k1 => rz_flds_at hfl k0 (by omega)
      have hft : ∀ k, 0 ≤ k → k ≤ 2 → rz_f g0 k ≤ rz_t g0 k := fun k k0 k1 => by
        obtain ⟨w1, w2⟩ := hfa k k0 k1
        rw [w1, w2]
        exact rz_A_ff hA (by omega) (by omega)
      have hlt : qz_I h 202 5 ≤ 255 := by omega
      have hnp := rz_A_pos (by decide) hA
      have fc0 := x0.2
      have i6 := hI.2.2.2.2.1
      have hsp : qz_I g0 202 1 + 2 ≤ 513 := by rw [q202]; omega
      refine ez_if rfl rfl ⟨by decide, by decide⟩ (fun _ => ?_) (fun (c4 : ¬((1 : Int) ≠ (0))) => absurd c4 (by decide))
      refine ez_go (n := 1) (pc' := 28) (L' := [(0, .inr (.inr (some (720)))), (1, .inl (2)), (2, .inl (n))]) (st' := [.inl (2)]) rfl ?_
      refine ez_sw rfl ⟨by decide, by decide⟩ ⟨_, rfl, rfl⟩ ?_
      refine ez_go (n := 1) (pc' := 77) (L' := [(0, .inr (.inr (some (720)))), (1, .inl (2)), (2, .inl (n))]) (st' := [.inr (.inr (some (720)))]) rfl ?_
      refine ez_cv hB0 t720 rfl rfl rfl tq_52 rfl rfl rfl (rd_takeFold hB0 t193 t202 t203 t720 t721 t722 hI0.2.2.1.1 hI0.2.2.1.2 hft hsp (by omega) (by omega) (fun g1 τ1 hB1 hx => ez_K1 ?_) (fun g1 h1 τ1 p hB1 hBh hx ht => ez_K1 ?_))
      · skip
        have xx := x0.trans (fz_xt hx)
        have w202 : ∀ j, qz_I g1 202 j = qz_I g0 202 j := fun j => hx.I (by rw [t202]; decide) j
        have hI1 : jz_I τ1 g1 F E := jz_no hI0 hB1 (fz_xt hx) w202 ((hx.1 203 (by rw [t203]; decide)).2) ((hx.1 205 (by rw [t205]; decide)).2) (fun q hq => (hx.1 q (by rw [hq]; decide)).2)
        have u202 : τ1 202 = 48 := hI1.2.1 202 (by decide)
        have u720 : τ1 720 = 52 := hI1.2.1 720 (by decide)
        refine ez_go (n := 2) (pc' := 97) (L' := [(3, .inl (-1)), (0, .inr (.inr (some (720)))), (1, .inl (2)), (2, .inl (n))]) (st' := []) rfl ?_
        refine ez_less [(3, .inl (-1)), (0, .inr (.inr (some (720)))), (1, .inl (2)), (2, .inl (n))] rfl ⟨rfl, rfl, rfl, rfl, trivial⟩ ?_
        refine rd_take_e hB1 u720 u202 (by omega) (by omega) (Or.inl rfl) (fun g9 hB9 f9 j9 l9 => ?_)
        rw [if_pos rfl] at l9
        have y9 := fz_1 u202 rfl f9
        have e9 : ∀ j, qz_I g9 202 j = qz_I g1 202 j := fun j => by by_cases w : j = 5; (· rw [w, l9]; omega); (· exact j9 j w)
        have hI9 : jz_I τ1 g9 F E := jz_no hI1 hB9 y9 e9 (f9.2.2 203 rfl) (f9.2.2 205 rfl) (fun q hq => f9.2.2 q (rz_ne hq u202 rfl))
        exact k g9 _ F E (-1) hI9 ((xx.trans y9).mono (by omega) (by omega)) ⟨fun w => absurd w (by decide), fun w => absurd w (by decide), fun _ _ => ⟨rfl, rfl⟩⟩ (Or.inl ⟨rfl, by rw [e9, w202, q202]⟩) (fun j _ _ _ => by rw [e9, w202, q202])
      · skip
        have xr := fz_xt hx
        have X1 := hI0.2.1.fz xr
        have u202 : τ1 202 = 48 := X1 202 (by decide)
        have u203 : τ1 203 = 49 := X1 203 (by decide)
        have u204 : τ1 204 = 50 := X1 204 (by decide)
        have u205 : τ1 205 = 51 := X1 205 (by decide)
        have u720 : τ1 720 = 52 := X1 720 (by decide)
        have w202 : ∀ j, qz_I h1 202 j = qz_I g0 202 j := fun j => hx.I (by rw [t202]; decide) j
        have c205 : h1.2.2 205 = g0.2.2 205 := (hx.1 205 (by rw [t205]; decide)).2
        have c203 : h1.2.2 203 = g0.2.2 203 := (hx.1 203 (by rw [t203]; decide)).2
        have c4 : ∀ q, τ q = 4 → h1.2.2 q = g0.2.2 q := fun q hq => (hx.1 q (by rw [hq]; decide)).2
        have hDh : sz_D τ1 h1 F E := sz_D_tr hB0 t202 t203 hI0.2.2.2.2.2.2.1 (w202 1) c203 c4 (fun q hq => by have := (xr.1 q (by rw [hq]; decide)).2 (by rw [hq]; rfl); unfold qz_I; rw [this]; exact ⟨rfl, rfl, rfl, rfl⟩) (fun p hp => by have := xr.1 p (by rw [hp]; decide); exact ⟨this.1.trans hp, this.2 (by rw [hp]; rfl)⟩)
        have F2e : ∃ F2, F2 = F := ⟨F, rfl⟩
        obtain ⟨F2, hF2⟩ := F2e
        have E2e : ∃ E2, E2 = E := ⟨E, rfl⟩
        obtain ⟨E2, hE2⟩ := E2e
        have hXs : ∃ y, ∀ x, (F2 x).2 ≠ none → (F x).2 ≠ none ∨ x = y := ⟨0, fun x hx => Or.inl (by rw [hF2] at hx; exact hx)⟩
        have hstep : rz_step (rz_b h) n 2 F E F2 E2 := ⟨fun w => absurd w (by decide), fun w => absurd w (by decide), fun _ _ => ⟨hF2, hE2⟩⟩
        have hok9 : sz_ok g1 ∧ sz_inj g1 := ⟨ht.1, ht.2.1⟩
        have p205 : sz_PS τ1 205 = false := by unfold sz_PS; rw [u205]; rfl
        have hE9 : ∀ i : Nat, (i : Int) < qz_I g1 202 4 → 1 ≤ qz_I g1 205 i := fun i hi => by rw [ht.2.2.2.1 4 (by decide), w202] at hi; rw [ht.2.2.1.I p205]; unfold qz_I; rw [c205]; exact hI0.2.2.2.1 i hi
        have hn9 : qz_I g1 202 1 ≤ qz_I g0 202 1 + 2 := by have := ht.2.2.2.2.1; rw [w202] at this; exact this
        have h59 : qz_I g1 202 5 = qz_I g0 202 5 := (ht.2.2.2.1 5 (by decide)).trans (w202 5)
        have ho9 : ∀ j, j ≠ 1 → j ≠ 4 → qz_I g1 202 j = qz_I g0 202 j := fun j j1 _ => (ht.2.2.2.1 j j1).trans (w202 j)
        have xg := xr.trans (fz_PS u202 u203 ht.2.2.1)
        have hD9 : sz_D τ1 g1 F2 E2 := by rw [hF2, hE2]; exact sz_D_R hBh u202 u203 hDh ht (fun P u v w => w (by decide)) (fun x u v w wu => by rw [w (by decide)]; exact wu)
        refine ez_go (n := 2) (pc' := 97) (L' := [(3, .inl (1)), (0, .inr (.inr (some (720)))), (1, .inl (2)), (2, .inl (n))]) (st' := []) rfl ?_
        refine ez_less [(3, .inl (1)), (0, .inr (.inr (some (720)))), (1, .inl (2)), (2, .inl (n))] rfl ⟨rfl, rfl, rfl, rfl, trivial⟩ ?_
        refine rd_take_e hB1 u720 u202 (by omega) (by omega) (Or.inr (by rw [h59, q202]; exact hlt)) (fun g9 hB9 f9 j9 l9 => ?_)
        rw [if_neg (by omega)] at l9
        have y9 := fz_1 u202 rfl f9
        refine k g9 _ F2 E2 _ (jz_yes hI0 hB9 (xg.trans y9) hB1 hok9 hE9 hn9 h59 hD9 f9 j9 l9 hXs) (((x0.trans xg).trans y9).mono (by omega) (by omega)) hstep (Or.inr ⟨by omega, by omega, hnp, by rw [l9, h59, q202]⟩) (fun j j1 j4 j5 => by rw [j9 j j5, ho9 j j1 j4, q202])

theorem rd_take3 {F : rz_W} {E : Int → Prop} {n : Int} (hI : jz_I τ h F E) (n0 : 0 ≤ n) (n1 : n ≤ 4096) (hl : n = 0 ∨ qz_I h 202 5 ≤ 255) (hr1 : h.1 + 4 ≤ 600192) (hr2 : h.2.1 + 59 ≤ 7302232) (k : ∀ g τ1 F2 E2 (v : Int), jz_I τ1 g F2 E2 → fz τ h τ1 g 4 59 → rz_step (rz_b h) n 3 F E F2 E2 → ((v = -1 ∧ qz_I g 202 5 = qz_I h 202 5) ∨ (0 ≤ v ∧ v ≤ 1114112 ∧ 0 < n ∧ qz_I g 202 5 = qz_I h 202 5 + 1)) → (∀ j, j ≠ 1 → j ≠ 4 → j ≠ 5 → qz_I g 202 j = qz_I h 202 j) → Q (.inl (some (ez_v (.inl v))), g)) : ez_W (d + 8) cm_174 0 [(0, .inr (.inr (some (720)))), (1, .inl (3)), (2, .inl (n))] [] h Q := by
  have t193 : τ 193 = 45 := hI.2.1 193 (by decide)
  have t202 : τ 202 = 48 := hI.2.1 202 (by decide)
  have t203 : τ 203 = 49 := hI.2.1 203 (by decide)
  have t204 : τ 204 = 50 := hI.2.1 204 (by decide)
  have t205 : τ 205 = 51 := hI.2.1 205 (by decide)
  have t720 : τ 720 = 52 := hI.2.1 720 (by decide)
  have t721 : τ 721 = 53 := hI.2.1 721 (by decide)
  have t722 : τ 722 = 54 := hI.2.1 722 (by decide)
  have hB := hI.1
  refine ez_go (n := 1) (pc' := 1) (L' := [(0, .inr (.inr (some (720)))), (1, .inl (3)), (2, .inl (n))]) (st' := [.inr (.inr (some (720)))]) rfl ?_
  refine ez_gC (p := 202) (tg := 48) hB t720 rfl rfl tq_52 rfl rfl (fun (t202 : _ = 48) => ?_)
  refine ez_gI hB t202 rfl rfl tq_48 rfl rfl (fun (b1 : 0 ≤ qz_I h 202 5) (b1' : qz_I h 202 5 ≤ 256) => ?_)
  refine ez_go (n := 1) (pc' := 10) (L' := [(0, .inr (.inr (some (720)))), (1, .inl (3)), (2, .inl (n))]) (st' := [.inl (256), .inl (qz_I h 202 5)]) rfl ?_
  refine ez_icmp rfl rfl ⟨by first | omega | exact (sz_i32 _).1, by first | omega | exact (sz_i32 _).2⟩ ⟨by first | omega | exact (sz_i32 _).1, by first | omega | exact (sz_i32 _).2⟩ (fun (c2 : (256) ≤ (qz_I h 202 5)) => ?_) (fun (c2 : ¬((256) ≤ (qz_I h 202 5))) => ?_)
  · skip
    refine ez_go (n := 1) (pc' := 26) (L' := [(0, .inr (.inr (some (720)))), (1, .inl (3)), (2, .inl (n))]) (st' := [.inl (-1)]) rfl ?_
    exact ez_retI rfl rfl (k h τ F E (-1) hI (fz.refl _ _ _ _) ⟨fun w => absurd w (by decide), fun _ => Or.inr ⟨(fun ⟨_, _, A, hA, _⟩ => by have := rz_A_pos (by decide) hA; omega), rfl, rfl⟩, fun _ w => absurd rfl w⟩ (Or.inl ⟨rfl, rfl⟩) (fun _ _ _ _ => rfl))
  · skip
    refine ez_go (n := 3) (pc' := 16) (L' := [(0, .inr (.inr (some (720)))), (1, .inl (3)), (2, .inl (n))]) (st' := [.inl (3), .inl (n), .inr (.inr (some (720)))]) rfl ?_
    refine ez_cs hB.2.1 rfl rfl rfl rfl rfl (rd_fieldsOf3 (ez_K1 ?_))
    refine ez_cv hB t720 rfl rfl rfl tq_52 rfl rfl rfl (rd_split hB t720 t721 t722 n0 n1 (by omega) (by omega) (fun g0 hB0 f0 hno => ez_K1 ?_) (fun g0 c hB0 f0 hpl hha hlen hfl => ez_K1 ?_))
    · skip
      have x0 := fz_ft t721 t722 f0
      have q202 : ∀ j, qz_I g0 202 j = qz_I h 202 j := fun j => f0.I rfl j
      have hI0 : jz_I τ g0 F E := jz_no hI hB0 x0 q202 (f0.2.2 203 rfl) (f0.2.2 205 rfl) (fun q hq => f0.2.2 q (by unfold rz_ft; rw [dz_beq_ne (fun e => by rw [e, t721] at hq; cases hq), dz_beq_ne (fun e => by rw [e, t722] at hq; cases hq)]; rfl))
      have b0 : rz_b g0 = rz_b h := rz_b_fr f0 rfl
      refine ez_if rfl rfl ⟨by decide, by decide⟩ (fun (c3 : (0 : Int) ≠ (0)) => absurd c3 (by decide)) (fun _ => ?_)
      refine ez_go (n := 1) (pc' := 26) (L' := [(0, .inr (.inr (some (720)))), (1, .inl (3)), (2, .inl (n))]) (st' := [.inl (-1)]) rfl ?_
      exact ez_retI rfl rfl (k g0 τ F E (-1) hI0 (x0.mono (by omega) (by omega)) ⟨fun w => absurd w (by decide), fun _ => Or.inr ⟨(fun ⟨_, _, A, hA, _⟩ => by obtain ⟨c, c1, c2, c3, c4⟩ := hA; exact hno c1 c c2.1 c2.2.1 c2.2.2.1 c2.2.2.2 (by rw [← c3]; exact c4)), rfl, rfl⟩, fun _ w => absurd rfl w⟩ (Or.inl ⟨rfl, q202 5⟩) (fun j _ _ _ => q202 j))
    · skip
      have x0 := fz_ft t721 t722 f0
      have q202 : ∀ j, qz_I g0 202 j = qz_I h 202 j := fun j => f0.I rfl j
      have hI0 : jz_I τ g0 F E := jz_no hI hB0 x0 q202 (f0.2.2 203 rfl) (f0.2.2 205 rfl) (fun q hq => f0.2.2 q (by unfold rz_ft; rw [dz_beq_ne (fun e => by rw [e, t721] at hq; cases hq), dz_beq_ne (fun e => by rw [e, t722] at hq; cases hq)]; rfl))
      have b0 : rz_b g0 = rz_b h := rz_b_fr f0 rfl
      have hA : rz_A (rz_b h) n 2 (rz_seg (rz_b h) c.toNat 0 0) := ⟨c, hpl, hha, rfl, hlen⟩
      generalize rz_seg (rz_b h) c.toNat 0 0 = A at hA hfl hlen
      have hlen : (A.length : Int) = 2 := by rw [hlen]; rfl
      have hfa : ∀ k, 0 ≤ k → k ≤ 1 → rz_f g0 k = rz_ff (rz_b h) A k ∧ rz_t g0 k = rz_tt (rz_b h) A k := fun k k0 k1 => rz_flds_at hfl k0 (by omega)
      have hft : ∀ k, 0 ≤ k → k ≤ 1 → rz_f g0 k ≤ rz_t g0 k := fun k k0 k1 => by
        obtain ⟨w1, w2⟩ := hfa k k0 k1
        rw [w1, w2]
        exact rz_A_ff hA (by omega) (by omega)
      have hlt : qz_I h 202 5 ≤ 255 := by omega
      have hnp := rz_A_pos (by decide) hA
      have fc0 := x0.2
      have i6 := hI.2.2.2.2.1
      have hsp : qz_I g0 202 1 + 2 ≤ 513 := by rw [q202]; omega
      refine ez_if rfl rfl ⟨by decide, by decide⟩ (fun _ => ?_) (fun (c4 : ¬((1 : Int) ≠ (0))) => absurd c4 (by decide))
      refine ez_go (n := 1) (pc' := 28) (L' := [(0, .inr (.inr (some (720)))), (1, .inl (3)), (2, .inl (n))]) (st' := [.inl (3)]) rfl ?_
      refine ez_sw rfl ⟨by decide, by decide⟩ ⟨_, rfl, rfl⟩ ?_
      refine ez_go (n := 1) (pc' := 85) (L' := [(0, .inr (.inr (some (720)))), (1, .inl (3)), (2, .inl (n))]) (st' := [.inr (.inr (some (720)))]) rfl ?_
      refine ez_cv hB0 t720 rfl rfl rfl tq_52 rfl rfl rfl (rd_takeProperty hB0 hI0.2.2.2.2.2.1 (hI0.2.1 2 (by decide)) (hI0.2.1 3 (by decide)) (hI0.2.1 4 (by decide)) (hI0.2.1 5 (by decide)) (hI0.2.1 6 (by decide)) t193 t202 t203 t720 t721 t722 hI0.2.2.1.1 hI0.2.2.1.2 hft hsp (fun g1 hB1 f1 hno => ez_K1 ?_) (fun g1 h1 first last hB1 hBh f1 ef el f1n fl ht => ez_K1 ?_))
      · skip
        obtain ⟨τ1, eτ⟩ : ∃ τ1, τ1 = τ := ⟨τ, rfl⟩
        rw [← eτ] at hB1
        have hx : ez_xr τ g0 τ1 g1 720 0 0 := by rw [eτ]; exact ⟨fun q hq => ⟨rfl, fun w => f1.2.2 q (dz_beq_ne w)⟩, by rw [f1.1]; omega, by rw [f1.2.1]; omega⟩
        have xx := x0.trans (fz_xr t720 hx)
        have w202 : ∀ j, qz_I g1 202 j = qz_I g0 202 j := fun j => hx.I (by rw [t202]; decide) (by decide) j
        have hI1 : jz_I τ1 g1 F E := jz_no hI0 hB1 (fz_xr t720 hx) w202 ((hx.1 203 (by rw [t203]; decide)).2 (by decide)) ((hx.1 205 (by rw [t205]; decide)).2 (by decide)) (fun q hq => (hx.1 q (by rw [hq]; decide)).2 (fun e => by rw [e, t720] at hq; cases hq))
        have u202 : τ1 202 = 48 := hI1.2.1 202 (by decide)
        have u720 : τ1 720 = 52 := hI1.2.1 720 (by decide)
        have hnone : ¬ ∃ first last, rz_L3 (rz_b h) n first last := fun ⟨f, l, A2, hA2, w1, w2⟩ => hno (by rw [← rz_A_uniq hA hA2] at w1 w2; rw [b0, (hfa 0 (by omega) (by omega)).1, (hfa 0 (by omega) (by omega)).2, (hfa 1 (by omega) (by omega)).1, (hfa 1 (by omega) (by omega)).2]; exact ⟨⟨by rw [← w1.1]; exact w1.2.2.1, by rw [← w1.1, ← w1.2.1]; exact w1.2.2.2⟩, w2⟩)
        refine ez_go (n := 2) (pc' := 97) (L' := [(3, .inl (-1)), (0, .inr (.inr (some (720)))), (1, .inl (3)), (2, .inl (n))]) (st' := []) rfl ?_
        refine ez_less [(3, .inl (-1)), (0, .inr (.inr (some (720)))), (1, .inl (3)), (2, .inl (n))] rfl ⟨rfl, rfl, rfl, rfl, trivial⟩ ?_
        refine rd_take_e hB1 u720 u202 (by omega) (by omega) (Or.inl rfl) (fun g9 hB9 f9 j9 l9 => ?_)
        rw [if_pos rfl] at l9
        have y9 := fz_1 u202 rfl f9
        have e9 : ∀ j, qz_I g9 202 j = qz_I g1 202 j := fun j => by by_cases w : j = 5; (· rw [w, l9]; omega); (· exact j9 j w)
        have hI9 : jz_I τ1 g9 F E := jz_no hI1 hB9 y9 e9 (f9.2.2 203 rfl) (f9.2.2 205 rfl) (fun q hq => f9.2.2 q (rz_ne hq u202 rfl))
        exact k g9 _ F E (-1) hI9 ((xx.trans y9).mono (by omega) (by omega)) ⟨fun w => absurd w (by decide), fun _ => Or.inr ⟨hnone, rfl, rfl⟩, fun _ w => absurd rfl w⟩ (Or.inl ⟨rfl, by rw [e9, w202, q202]⟩) (fun j _ _ _ => by rw [e9, w202, q202])
      · skip
        obtain ⟨τ1, eτ⟩ : ∃ τ1, τ1 = τ := ⟨τ, rfl⟩
        rw [← eτ] at hB1 hBh ht
        have hx : ez_xr τ g0 τ1 h1 720 0 0 := by rw [eτ]; exact ⟨fun q hq => ⟨rfl, fun w => f1.2.2 q (dz_beq_ne w)⟩, by rw [f1.1]; omega, by rw [f1.2.1]; omega⟩
        rw [b0, (hfa 0 (by omega) (by omega)).1, (hfa 0 (by omega) (by omega)).2] at ef el
        rw [b0, (hfa 1 (by omega) (by omega)).1, (hfa 1 (by omega) (by omega)).2] at ht
        have xr := fz_xr t720 hx
        have X1 := hI0.2.1.fz xr
        have u202 : τ1 202 = 48 := X1 202 (by decide)
        have u203 : τ1 203 = 49 := X1 203 (by decide)
        have u204 : τ1 204 = 50 := X1 204 (by decide)
        have u205 : τ1 205 = 51 := X1 205 (by decide)
        have u720 : τ1 720 = 52 := X1 720 (by decide)
        have w202 : ∀ j, qz_I h1 202 j = qz_I g0 202 j := fun j => hx.I (by rw [t202]; decide) (by decide) j
        have c205 : h1.2.2 205 = g0.2.2 205 := (hx.1 205 (by rw [t205]; decide)).2 (by decide)
        have c203 : h1.2.2 203 = g0.2.2 203 := (hx.1 203 (by rw [t203]; decide)).2 (by decide)
        have c4 : ∀ q, τ q = 4 → h1.2.2 q = g0.2.2 q := fun q hq => (hx.1 q (by rw [hq]; decide)).2 (fun e => by rw [e, t720] at hq; cases hq)
        have hDh : sz_D τ1 h1 F E := sz_D_tr hB0 t202 t203 hI0.2.2.2.2.2.2.1 (w202 1) c203 c4 (fun q hq => by have := (xr.1 q (by rw [hq]; decide)).2 (by rw [hq]; rfl); unfold qz_I; rw [this]; exact ⟨rfl, rfl, rfl, rfl⟩) (fun p hp => by have := xr.1 p (by rw [hp]; decide); exact ⟨this.1.trans hp, this.2 (by rw [hp]; rfl)⟩)
        have hok9 : sz_ok g1 ∧ sz_inj g1 := ⟨ht.1, ht.2.1⟩
        have p205 : sz_PS τ1 205 = false := by unfold sz_PS; rw [u205]; rfl
        have hE9 : ∀ i : Nat, (i : Int) < qz_I g1 202 4 → 1 ≤ qz_I g1 205 i := fun i hi => by rw [ht.2.2.2.1 4 (by decide), w202] at hi; rw [ht.2.2.1.I p205]; unfold qz_I; rw [c205]; exact hI0.2.2.2.1 i hi
        have hn9 : qz_I g1 202 1 ≤ qz_I g0 202 1 + 2 := by have := ht.2.2.2.2.1; rw [w202] at this; exact this
        have h59 : qz_I g1 202 5 = qz_I g0 202 5 := (ht.2.2.2.1 5 (by decide)).trans (w202 5)
        have ho9 : ∀ j, j ≠ 1 → j ≠ 4 → qz_I g1 202 j = qz_I g0 202 j := fun j j1 _ => (ht.2.2.2.1 j j1).trans (w202 j)
        have xg := xr.trans (fz_PS u202 u203 ht.2.2.1)
        have bl := rz_last_bd (rz_b h) (rz_ff (rz_b h) A 0) (rz_tt (rz_b h) A 0)
        have bf := rz_code_bd (rz_b h) (rz_ff (rz_b h) A 0) (rz_dots (rz_b h) (rz_tt (rz_b h) A 0 - rz_ff (rz_b h) A 0).toNat (rz_ff (rz_b h) A 0))
        have ef2 : rz_first (rz_b h) (rz_ff (rz_b h) A 0) (rz_tt (rz_b h) A 0) = rz_code (rz_b h) (rz_ff (rz_b h) A 0) (rz_dots (rz_b h) (rz_tt (rz_b h) A 0 - rz_ff (rz_b h) A 0).toNat (rz_ff (rz_b h) A 0)) := rfl
        obtain ⟨F2, hF2⟩ : ∃ F2, F2 = F := ⟨F, rfl⟩
        obtain ⟨E2, hE2⟩ : ∃ E2 : Int → Prop, ∀ x, E2 x ↔ (E x ∨ ((first ≤ x ∧ x ≤ last) ∧ rz_CE (rz_b h) (rz_ff (rz_b h) A 1) (rz_tt (rz_b h) A 1))) := ⟨_, fun x => Iff.rfl⟩
        have hD9 : sz_D τ1 g1 F2 E2 := by rw [hF2]; exact sz_D_R hBh u202 u203 hDh ht (fun P u v w => w.1 rfl) (fun x u v w wu => by rw [w.2 rfl, wu]; exact (hE2 x).symm)
        have hXs : ∃ y, ∀ x, (F2 x).2 ≠ none → (F x).2 ≠ none ∨ x = y := ⟨0, fun x hx => Or.inl (by rw [hF2] at hx; exact hx)⟩
        have hstep : rz_step (rz_b h) n 3 F E F2 E2 := by
          refine ⟨fun w => absurd w (by decide), fun _ => ?_, fun _ w => absurd rfl w⟩
          by_cases hce : rz_CE (rz_b h) (rz_ff (rz_b h) A 1) (rz_tt (rz_b h) A 1)
          · exact Or.inl ⟨first, last, ⟨A, hA, ⟨ef, el, f1n, fl⟩, hce⟩, hF2, fun x => (hE2 x).trans ⟨fun w => w.imp id (fun w => w.1), fun w => w.imp id (fun w => ⟨w, hce⟩)⟩⟩
          · refine Or.inr ⟨fun ⟨_, _, A2, hA2, _, w⟩ => hce (by rw [rz_A_uniq hA hA2]; exact w), hF2, funext fun x => propext ((hE2 x).trans ⟨fun w => w.elim id (fun w => absurd w.2 hce), Or.inl⟩)⟩
        refine ez_go (n := 2) (pc' := 97) (L' := [(3, .inl (last - first + 1)), (0, .inr (.inr (some (720)))), (1, .inl (3)), (2, .inl (n))]) (st' := []) rfl ?_
        refine ez_less [(3, .inl (last - first + 1)), (0, .inr (.inr (some (720)))), (1, .inl (3)), (2, .inl (n))] rfl ⟨rfl, rfl, rfl, rfl, trivial⟩ ?_
        refine rd_take_e hB1 u720 u202 (by omega) (by omega) (Or.inr (by rw [h59, q202]; exact hlt)) (fun g9 hB9 f9 j9 l9 => ?_)
        rw [if_neg (by omega)] at l9
        have y9 := fz_1 u202 rfl f9
        refine k g9 _ F2 E2 _ (jz_yes hI0 hB9 (xg.trans y9) hB1 hok9 hE9 hn9 h59 hD9 f9 j9 l9 hXs) (((x0.trans xg).trans y9).mono (by omega) (by omega)) hstep (Or.inr ⟨by omega, by omega, hnp, by rw [l9, h59, q202]⟩) (fun j j1 j4 j5 => by rw [j9 j j5, ho9 j j1 j4, q202])

theorem rd_take4 {F : rz_W} {E : Int → Prop} {n : Int} (hI : jz_I τ h F E) (n0 : 0 ≤ n) (n1 : n ≤ 4096) (hl : n = 0 ∨ qz_I h 202 5 ≤ 255) (hr1 : h.1 + 4 ≤ 600192) (hr2 : h.2.1 + 59 ≤ 7302232) (k : ∀ g τ1 F2 E2 (v : Int), jz_I τ1 g F2 E2 → fz τ h τ1 g 4 59 → rz_step (rz_b h) n 4 F E F2 E2 → ((v = -1 ∧ qz_I g 202 5 = qz_I h 202 5) ∨ (0 ≤ v ∧ v ≤ 1114112 ∧ 0 < n ∧ qz_I g 202 5 = qz_I h 202 5 + 1)) → (∀ j, j ≠ 1 → j ≠ 4 → j ≠ 5 → qz_I g 202 j = qz_I h 202 j) → Q (.inl (some (ez_v (.inl v))), g)) : ez_W (d + 8) cm_174 0 [(0, .inr (.inr (some (720)))), (1, .inl (4)), (2, .inl (n))] [] h Q := by
  have t193 : τ 193 = 45 := hI.2.1 193 (by decide)
  have t202 : τ 202 = 48 := hI.2.1 202 (by decide)
  have t203 : τ 203 = 49 := hI.2.1 203 (by decide)
  have t204 : τ 204 = 50 := hI.2.1 204 (by decide)
  have t205 : τ 205 = 51 := hI.2.1 205 (by decide)
  have t720 : τ 720 = 52 := hI.2.1 720 (by decide)
  have t721 : τ 721 = 53 := hI.2.1 721 (by decide)
  have t722 : τ 722 = 54 := hI.2.1 722 (by decide)
  have hB := hI.1
  refine ez_go (n := 1) (pc' := 1) (L' := [(0, .inr (.inr (some (720)))), (1, .inl (4)), (2, .inl (n))]) (st' := [.inr (.inr (some (720)))]) rfl ?_
  refine ez_gC (p := 202) (tg := 48) hB t720 rfl rfl tq_52 rfl rfl (fun (t202 : _ = 48) => ?_)
  refine ez_gI hB t202 rfl rfl tq_48 rfl rfl (fun (b1 : 0 ≤ qz_I h 202 5) (b1' : qz_I h 202 5 ≤ 256) => ?_)
  refine ez_go (n := 1) (pc' := 10) (L' := [(0, .inr (.inr (some (720)))), (1, .inl (4)), (2, .inl (n))]) (st' := [.inl (256), .inl (qz_I h 202 5)]) rfl ?_
  refine ez_icmp rfl rfl ⟨by first | omega | exact (sz_i32 _).1, by first | omega | exact (sz_i32 _).2⟩ ⟨by first | omega | exact (sz_i32 _).1, by first | omega | exact (sz_i32 _).2⟩ (fun (c2 : (256) ≤ (qz_I h 202 5)) => ?_) (fun (c2 : ¬((256) ≤ (qz_I h 202 5))) => ?_)
  · skip
    refine ez_go (n := 1) (pc' := 26) (L' := [(0, .inr (.inr (some (720)))), (1, .inl (4)), (2, .inl (n))]) (st' := [.inl (-1)]) rfl ?_
    exact ez_retI rfl rfl (k h τ F E (-1) hI (fz.refl _ _ _ _) ⟨fun w => absurd w (by decide), fun w => absurd w (by decide), fun _ _ => ⟨rfl, rfl⟩⟩ (Or.inl ⟨rfl, rfl⟩) (fun _ _ _ _ => rfl))
  · skip
    refine ez_go (n := 3) (pc' := 16) (L' := [(0, .inr (.inr (some (720)))), (1, .inl (4)), (2, .inl (n))]) (st' := [.inl (4), .inl (n), .inr (.inr (some (720)))]) rfl ?_
    refine ez_cs hB.2.1 rfl rfl rfl rfl rfl (rd_fieldsOf4 (ez_K1 ?_))
    refine ez_cv hB t720 rfl rfl rfl tq_52 rfl rfl rfl (rd_split hB t720 t721 t722 n0 n1 (by omega) (by omega) (fun g0 hB0 f0 hno => ez_K1 ?_) (fun g0 c hB0 f0 hpl hha hlen hfl => ez_K1 ?_))
    · skip
      have x0 := fz_ft t721 t722 f0
      have q202 : ∀ j, qz_I g0 202 j = qz_I h 202 j := fun j => f0.I rfl j
      have hI0 : jz_I τ g0 F E := jz_no hI hB0 x0 q202 (f0.2.2 203 rfl) (f0.2.2 205 rfl) (fun q hq => f0.2.2 q (by unfold rz_ft; rw [dz_beq_ne (fun e => by rw [e, t721] at hq; cases hq), dz_beq_ne (fun e => by rw [e, t722] at hq; cases hq)]; rfl))
      have b0 : rz_b g0 = rz_b h := rz_b_fr f0 rfl
      refine ez_if rfl rfl ⟨by decide, by decide⟩ (fun (c3 : (0 : Int) ≠ (0)) => absurd c3 (by decide)) (fun _ => ?_)
      refine ez_go (n := 1) (pc' := 26) (L' := [(0, .inr (.inr (some (720)))), (1, .inl (4)), (2, .inl (n))]) (st' := [.inl (-1)]) rfl ?_
      exact ez_retI rfl rfl (k g0 τ F E (-1) hI0 (x0.mono (by omega) (by omega)) ⟨fun w => absurd w (by decide), fun w => absurd w (by decide), fun _ _ => ⟨rfl, rfl⟩⟩ (Or.inl ⟨rfl, q202 5⟩) (fun j _ _ _ => q202 j))
    · skip
      have x0 := fz_ft t721 t722 f0
      have q202 : ∀ j, qz_I g0 202 j = qz_I h 202 j := fun j => f0.I rfl j
      have hI0 : jz_I τ g0 F E := jz_no hI hB0 x0 q202 (f0.2.2 203 rfl) (f0.2.2 205 rfl) (fun q hq => f0.2.2 q (by unfold rz_ft; rw [dz_beq_ne (fun e => by rw [e, t721] at hq; cases hq), dz_beq_ne (fun e => by rw [e, t722] at hq; cases hq)]; rfl))
      have b0 : rz_b g0 = rz_b h := rz_b_fr f0 rfl
      have hA : rz_A (rz_b h) n 2 (rz_seg (rz_b h) c.toNat 0 0) := ⟨c, hpl, hha, rfl, hlen⟩
      generalize rz_seg (rz_b h) c.toNat 0 0 = A at hA hfl hlen
      have hlen : (A.length : Int) = 2 := by rw [hlen]; rfl
      have hfa : ∀ k, 0 ≤ k → k ≤ 1 → rz_f g0 k = rz_ff (rz_b h) A k ∧ rz_t g0 k = rz_tt (rz_b h) A k := fun k k0 k1 => rz_flds_at hfl k0 (by omega)
      have hft : ∀ k, 0 ≤ k → k ≤ 1 → rz_f g0 k ≤ rz_t g0 k := fun k k0 k1 => by
        obtain ⟨w1, w2⟩ := hfa k k0 k1
        rw [w1, w2]
        exact rz_A_ff hA (by omega) (by omega)
      have hlt : qz_I h 202 5 ≤ 255 := by omega
      have hnp := rz_A_pos (by decide) hA
      have fc0 := x0.2
      have i6 := hI.2.2.2.2.1
      have hsp : qz_I g0 202 1 + 2 ≤ 513 := by rw [q202]; omega
      refine ez_if rfl rfl ⟨by decide, by decide⟩ (fun _ => ?_) (fun (c4 : ¬((1 : Int) ≠ (0))) => absurd c4 (by decide))
      refine ez_go (n := 1) (pc' := 28) (L' := [(0, .inr (.inr (some (720)))), (1, .inl (4)), (2, .inl (n))]) (st' := [.inl (4)]) rfl ?_
      refine ez_sw rfl ⟨by decide, by decide⟩ ⟨_, rfl, rfl⟩ ?_
      refine ez_go (n := 1) (pc' := 93) (L' := [(0, .inr (.inr (some (720)))), (1, .inl (4)), (2, .inl (n))]) (st' := [.inr (.inr (some (720)))]) rfl ?_
      refine ez_cv hB0 t720 rfl rfl rfl tq_52 rfl rfl rfl (rd_takeEntry hB0 t193 t202 t203 t720 t721 t722 hI0.2.2.1.1 hI0.2.2.1.2 hft hsp t204 t205 hI0.2.2.2.1 (by omega) (by omega) (fun g1 τ1 hB1 hx => ez_K1 ?_) (fun g1 h1 τ1 v v1 v3 hB1 hBh hx fe j9 hE9 => ez_K1 ?_))
      · skip
        have xx := x0.trans (fz_xt hx)
        have w202 : ∀ j, qz_I g1 202 j = qz_I g0 202 j := fun j => hx.I (by rw [t202]; decide) j
        have hI1 : jz_I τ1 g1 F E := jz_no hI0 hB1 (fz_xt hx) w202 ((hx.1 203 (by rw [t203]; decide)).2) ((hx.1 205 (by rw [t205]; decide)).2) (fun q hq => (hx.1 q (by rw [hq]; decide)).2)
        have u202 : τ1 202 = 48 := hI1.2.1 202 (by decide)
        have u720 : τ1 720 = 52 := hI1.2.1 720 (by decide)
        refine ez_go (n := 1) (pc' := 97) (L' := [(3, .inl (-1)), (0, .inr (.inr (some (720)))), (1, .inl (4)), (2, .inl (n))]) (st' := []) rfl ?_
        refine ez_less [(3, .inl (-1)), (0, .inr (.inr (some (720)))), (1, .inl (4)), (2, .inl (n))] rfl ⟨rfl, rfl, rfl, rfl, trivial⟩ ?_
        refine rd_take_e hB1 u720 u202 (by omega) (by omega) (Or.inl rfl) (fun g9 hB9 f9 j9 l9 => ?_)
        rw [if_pos rfl] at l9
        have y9 := fz_1 u202 rfl f9
        have e9 : ∀ j, qz_I g9 202 j = qz_I g1 202 j := fun j => by by_cases w : j = 5; (· rw [w, l9]; omega); (· exact j9 j w)
        have hI9 : jz_I τ1 g9 F E := jz_no hI1 hB9 y9 e9 (f9.2.2 203 rfl) (f9.2.2 205 rfl) (fun q hq => f9.2.2 q (rz_ne hq u202 rfl))
        exact k g9 _ F E (-1) hI9 ((xx.trans y9).mono (by omega) (by omega)) ⟨fun w => absurd w (by decide), fun w => absurd w (by decide), fun _ _ => ⟨rfl, rfl⟩⟩ (Or.inl ⟨rfl, by rw [e9, w202, q202]⟩) (fun j _ _ _ => by rw [e9, w202, q202])
      · skip
        have xr := fz_xt hx
        have X1 := hI0.2.1.fz xr
        have u202 : τ1 202 = 48 := X1 202 (by decide)
        have u203 : τ1 203 = 49 := X1 203 (by decide)
        have u204 : τ1 204 = 50 := X1 204 (by decide)
        have u205 : τ1 205 = 51 := X1 205 (by decide)
        have u720 : τ1 720 = 52 := X1 720 (by decide)
        have w202 : ∀ j, qz_I h1 202 j = qz_I g0 202 j := fun j => hx.I (by rw [t202]; decide) j
        have c205 : h1.2.2 205 = g0.2.2 205 := (hx.1 205 (by rw [t205]; decide)).2
        have c203 : h1.2.2 203 = g0.2.2 203 := (hx.1 203 (by rw [t203]; decide)).2
        have c4 : ∀ q, τ q = 4 → h1.2.2 q = g0.2.2 q := fun q hq => (hx.1 q (by rw [hq]; decide)).2
        have hDh : sz_D τ1 h1 F E := sz_D_tr hB0 t202 t203 hI0.2.2.2.2.2.2.1 (w202 1) c203 c4 (fun q hq => by have := (xr.1 q (by rw [hq]; decide)).2 (by rw [hq]; rfl); unfold qz_I; rw [this]; exact ⟨rfl, rfl, rfl, rfl⟩) (fun p hp => by have := xr.1 p (by rw [hp]; decide); exact ⟨this.1.trans hp, this.2 (by rw [hp]; rfl)⟩)
        have F2e : ∃ F2, F2 = F := ⟨F, rfl⟩
        obtain ⟨F2, hF2⟩ := F2e
        have E2e : ∃ E2, E2 = E := ⟨E, rfl⟩
        obtain ⟨E2, hE2⟩ := E2e
        have hXs : ∃ y, ∀ x, (F2 x).2 ≠ none → (F x).2 ≠ none ∨ x = y := ⟨0, fun x hx => Or.inl (by rw [hF2] at hx; exact hx)⟩
        have hstep : rz_step (rz_b h) n 4 F E F2 E2 := ⟨fun w => absurd w (by decide), fun w => absurd w (by decide), fun _ _ => ⟨hF2, hE2⟩⟩
        have xg := xr.trans (fz_PE u202 u204 u205 fe)
        have pe : ∀ q, τ1 q = 3 ∨ τ1 q = 4 ∨ τ1 q = 5 → nz_PE q = false := fun q hq => by unfold nz_PE; rw [dz_beq_ne (fun e => by rw [e, u202] at hq; omega), dz_beq_ne (fun e => by rw [e, u204] at hq; omega), dz_beq_ne (fun e => by rw [e, u205] at hq; omega)]; rfl
        have hD9 : sz_D τ1 g1 F2 E2 := by
          rw [hF2, hE2]
          refine sz_D_tr hBh u202 u203 hDh (j9 1 (by decide)) (fe.2.2 203 rfl) (fun q hq => fe.2.2 q (pe q (Or.inr (Or.inl hq)))) (fun q hq => ?_) (fun p hp => ⟨hp, fe.2.2 p (pe p (Or.inr (Or.inr hp)))⟩)
          unfold qz_I; rw [fe.2.2 q (pe q (Or.inl hq))]; exact ⟨rfl, rfl, rfl, rfl⟩
        have okh := sz_same_ok hB0 t203 t202 (hx.1 202 (by rw [t202]; decide)).2 (hx.1 203 (by rw [t203]; decide)).2 (fun q hq => (hx.1 q (by rw [hq]; decide)).2) hI0.2.2.1.1 hI0.2.2.1.2
        have hok9 := sz_pe_ok hBh u203 u202 (j9 1 (by decide)) (fe.2.2 203 rfl) (fun q hq => fe.2.2 q (pe q (Or.inr (Or.inl hq)))) okh.1 okh.2
        have hn9 : qz_I g1 202 1 ≤ qz_I g0 202 1 + 2 := by rw [j9 1 (by decide), w202]; omega
        have h59 : qz_I g1 202 5 = qz_I g0 202 5 := (j9 5 (by decide)).trans (w202 5)
        have ho9 : ∀ j, j ≠ 1 → j ≠ 4 → qz_I g1 202 j = qz_I g0 202 j := fun j _ j4 => (j9 j j4).trans (w202 j)
        refine ez_go (n := 1) (pc' := 97) (L' := [(3, .inl (v)), (0, .inr (.inr (some (720)))), (1, .inl (4)), (2, .inl (n))]) (st' := []) rfl ?_
        refine ez_less [(3, .inl (v)), (0, .inr (.inr (some (720)))), (1, .inl (4)), (2, .inl (n))] rfl ⟨rfl, rfl, rfl, rfl, trivial⟩ ?_
        refine rd_take_e hB1 u720 u202 (by omega) (by omega) (Or.inr (by rw [h59, q202]; exact hlt)) (fun g9 hB9 f9 j9 l9 => ?_)
        rw [if_neg (by omega)] at l9
        have y9 := fz_1 u202 rfl f9
        refine k g9 _ F2 E2 _ (jz_yes hI0 hB9 (xg.trans y9) hB1 hok9 hE9 hn9 h59 hD9 f9 j9 l9 hXs) (((x0.trans xg).trans y9).mono (by omega) (by omega)) hstep (Or.inr ⟨by omega, by omega, hnp, by rw [l9, h59, q202]⟩) (fun j j1 j4 j5 => by rw [j9 j j5, ho9 j j1 j4, q202])

end EzTa
