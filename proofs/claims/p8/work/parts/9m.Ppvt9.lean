/-! The model: the calls that make texts. (Written by wip/p2/py/pvt9.py.) -/
section EzMt
variable {d : Nat} {h : cz_H} {τ : Nat → Nat} {Q : cz_F → Prop} {X : Nat → List Int}
/-- the texts on one side -/
def mxs (h : cz_H) (X : Nat → List Int) : Prop := ∀ t, t < 8 → mx h t (X t) ∧ ptl (X t) ∧ (X t).length ≤ 2000
theorem mxs.k {g : cz_H} (m : mxs h X) (e : ∀ q, (774 ≤ q ∧ q ≤ 782) → g.2.2 q = h.2.2 q) : mxs g X := fun t ht => by
  obtain ⟨⟨a, b⟩, c⟩ := m t ht
  refine ⟨⟨?_, fun j v hv => ?_⟩, c⟩
  · unfold qz_I at a ⊢; rw [e 782 (by omega)]; exact a
  · have := b j v hv; unfold qz_I at this ⊢; rw [e _ (by omega)]; exact this
/-- one field more than before -/
theorem f7C {g : cz_H} {Ls : List vz} (c : nmC τ h Ls) (hB : ez_B τ g) (f : ez_fr (ez_one 770) h g) (i : ∀ j, j ≠ 0 → qz_I g 770 j = qz_I h 770 j) : nmC τ g Ls := by
  have t770 : τ 770 = 75 := c.1.2.1 770 (by decide)
  have tp := ez_tpq c.1.1 t770
  have td := ez_tdb c.1.1 t770
  have k : ∀ q, τ q ≠ 75 → g.2.2 q = h.2.2 q := fun q hq => f.2.2 q (dz_beq_ne (fun e => hq (by rw [e]; exact t770)))
  exact ⟨c.1.gen hB (fun _ _ => rfl) (fun q q0 => by rw [q0]; decide) (fun q hq => k q (by omega)) (fun j j1 j2 => i j (by omega)), c.2.1.tr hB (fun _ _ => rfl) (fun q q0 w => by omega) (fun j hj => i j (by omega)) (fun q hq => k q (by omega)), c.2.2.1.tr (fun j hj => i j (by omega)) (k _ (by omega)) (k _ (by omega)), c.2.2.2⟩
def mF (h g : cz_H) (c : Int) : Prop := ez_fr (ez_one 770) h g ∧ (∀ j, j ≠ 0 → qz_I g 770 j = qz_I h 770 j) ∧ qz_I g 770 0 = c
theorem mF.trans {h g k : cz_H} {c e : Int} (a : mF h g c) (b : mF g k e) : mF h k e := ⟨a.1.trans b.1, fun j hj => (b.2.1 j hj).trans (a.2.1 j hj), b.2.2⟩
theorem rd_mout {t : Int} (tr : ez_rg t) (k1 : t < 0 ∨ 7 < t → Q (.inl (some (ez_v (.inl 1))), h)) (k0 : 0 ≤ t ∧ t ≤ 7 → Q (.inl (some (ez_v (.inl 0))), h)) : ez_W d cm_286 0 [(0, .inr (.inr (some (770)))), (1, .inl (t))] [] h Q := by
  obtain ⟨tr1, tr2⟩ := tr
  refine ez_go (n := 1) (pc' := 1) (L' := [(0, .inr (.inr (some (770)))), (1, .inl (t))]) (st' := [.inl (t)]) rfl ?_
  refine ez_if rfl rfl ⟨by first | omega | exact (sz_i32 _).1, by first | omega | exact (sz_i32 _).2⟩ (fun (c1 : (t) < (0)) => ?_) (fun (c1 : ¬((t) < (0))) => ?_)
  · skip
    refine ez_go (n := 2) (pc' := 15) (L' := [(0, .inr (.inr (some (770)))), (1, .inl (t))]) (st' := [.inl (1)]) rfl ?_
    exact ez_retZ rfl rfl (by decide) (k1 (by omega))
  · skip
    refine ez_go (n := 2) (pc' := 7) (L' := [(0, .inr (.inr (some (770)))), (1, .inl (t))]) (st' := [.inl (7), .inl (t)]) rfl ?_
    refine ez_icmp rfl rfl ⟨by first | omega | exact (sz_i32 _).1, by first | omega | exact (sz_i32 _).2⟩ ⟨by first | omega | exact (sz_i32 _).1, by first | omega | exact (sz_i32 _).2⟩ (fun (c2 : (t) ≤ (7)) => ?_) (fun (c2 : ¬((t) ≤ (7))) => ?_)
    · skip
      refine ez_go (n := 1) (pc' := 15) (L' := [(0, .inr (.inr (some (770)))), (1, .inl (t))]) (st' := [.inl (0)]) rfl ?_
      exact ez_retZ rfl rfl (by decide) (k0 (by omega))
    · skip
      refine ez_go (n := 2) (pc' := 15) (L' := [(0, .inr (.inr (some (770)))), (1, .inl (t))]) (st' := [.inl (1)]) rfl ?_
      exact ez_retZ rfl rfl (by decide) (k1 (by omega))

theorem rd_mnormal {t u fm : Int} {Ls : List vz} (hB : ez_B τ h) (hX : jz_X τ) (c : qz_I h 770 7 ≠ 0 → nmC τ h Ls) (sl : slt h) (mxh : mxs h X) (tr : ez_rg t) (ur : ez_rg u) (fmr : ez_rg fm) (hr1 : h.1 + 1000 ≤ 600192) (hr2 : h.2.1 + 150000 ≤ 7302232) (kA : (t < 0 ∨ 7 < t ∨ u < 0 ∨ 7 < u ∨ fm < 0 ∨ 3 < fm) → ∀ g, ez_B τ g → mF h g 1 → Q (.inl (some (ez_v (.inl 0))), g)) (kS : ((0 ≤ t ∧ t ≤ 7) ∧ (0 ≤ u ∧ u ≤ 7) ∧ 0 ≤ fm ∧ fm ≤ 3) → qz_I h 770 7 = 0 → ∀ g, ez_B τ g → mF h g 2 → Q (.inl (some (ez_v (.inl 0))), g)) (kX : ((0 ≤ t ∧ t ≤ 7) ∧ (0 ≤ u ∧ u ≤ 7) ∧ 0 ≤ fm ∧ fm ≤ 3) → qz_I h 770 7 ≠ 0 → ∀ h1, ez_B τ h1 → mF h h1 0 → ∀ m, uz_FL (vF Ls) (decide (fm = 1 ∨ fm = 3)) (X u.toNat) m → 2000 < m.length → ∀ g2 τ2, ez_B τ2 g2 → nk τ h1 τ2 g2 → ∀ g, ez_B τ2 g → mF (xc g2 0) g 3 → Q (.inl (some (ez_v (.inl 0))), g)) (k1 : ((0 ≤ t ∧ t ≤ 7) ∧ (0 ≤ u ∧ u ≤ 7) ∧ 0 ≤ fm ∧ fm ≤ 3) → qz_I h 770 7 ≠ 0 → ∀ h1, ez_B τ h1 → mF h h1 0 → ∀ m res, uz_FL (vF Ls) (decide (fm = 1 ∨ fm = 3)) (X u.toNat) m → m.length ≤ 2000 → nfR (vF Ls) (vE Ls) fm m res → ptl res → ∀ g2 τ2, ez_B τ2 g2 → nk τ h1 τ2 g2 → tm g2 res → ∀ g, ez_B τ2 g → ez_fr (mx_P t.toNat) g2 g → mx g t.toNat res → Q (.inl (some (ez_v (.inl (res.length : Int)))), g)) : ez_W (d + 8) cm_282 0 [(0, .inr (.inr (some (770)))), (1, .inl (t)), (2, .inl (u)), (3, .inl (fm))] [] h Q := by
  have t770 : τ 770 = 75 := hX 770 (by decide)
  obtain ⟨tr1, tr2⟩ := id tr
  obtain ⟨ur1, ur2⟩ := id ur
  obtain ⟨fmr1, fmr2⟩ := id fmr
  refine ez_go (n := 2) (pc' := 2) (L' := [(0, .inr (.inr (some (770)))), (1, .inl (t)), (2, .inl (u)), (3, .inl (fm))]) (st' := [.inl (0), .inr (.inr (some (770)))]) rfl ?_
  refine ez_pf hB t770 rfl rfl tq_75 rfl rfl rfl rfl (ez_vdI rfl rfl (by omega) (by omega)) (fun hB1 w2 => ?_)
  have fP : ez_fr (ez_one 770) h (dz_put h 770 0 (ez_v (.inl (0)))) := (ez_fr.refl (ez_one 770) h).put rfl _ _
  have vP : qz_I (dz_put h 770 0 (ez_v (.inl (0)))) 770 0 = 0 := w2.trans (rz_rd ⟨by omega, by omega⟩)
  have iP : ∀ j, j ≠ 0 → qz_I (dz_put h 770 0 (ez_v (.inl (0)))) 770 j = qz_I h 770 j := fun j hj => ez_put_I (fun w => hj w.2)
  have hP := hB1
  generalize (dz_put h 770 0 (ez_v (.inl (0)))) = h1 at *
  have cP1 := fP.1; have cP2 := fP.2.1
  refine ez_go (n := 2) (pc' := 7) (L' := [(0, .inr (.inr (some (770)))), (1, .inl (t)), (2, .inl (u)), (3, .inl (fm))]) (st' := [.inl (t), .inr (.inr (some (770)))]) rfl ?_
  refine ez_cv hP t770 rfl rfl rfl tq_75 rfl rfl rfl (rd_mout (show ez_rg (t) by assumption) (fun o1 => ez_K1 ?_) (fun o1 => ez_K1 ?_))
  · skip
    refine ez_if rfl rfl ⟨by decide, by decide⟩ (fun _ => ?_) (fun (c3 : ¬((1 : Int) ≠ (0))) => absurd c3 (by decide))
    refine ez_go (n := 2) (pc' := 32) (L' := [(0, .inr (.inr (some (770)))), (1, .inl (t)), (2, .inl (u)), (3, .inl (fm))]) (st' := [.inl (1), .inr (.inr (some (770)))]) rfl ?_
    refine ez_cv hP t770 rfl rfl rfl tq_75 rfl rfl rfl (rd_mfail hP t770 (by omega) (by omega) (fun gf hBf ff jf vf0 => ez_K1 ?_))
    exact ez_retI rfl rfl (kA (by omega) gf hBf (mF.trans ⟨fP, iP, vP⟩ ⟨ff, jf, vf0⟩))
  · skip
    refine ez_if rfl rfl ⟨by decide, by decide⟩ (fun (c4 : (0 : Int) ≠ (0)) => absurd c4 (by decide)) (fun _ => ?_)
    refine ez_go (n := 2) (pc' := 15) (L' := [(0, .inr (.inr (some (770)))), (1, .inl (t)), (2, .inl (u)), (3, .inl (fm))]) (st' := [.inl (u), .inr (.inr (some (770)))]) rfl ?_
    refine ez_cv hP t770 rfl rfl rfl tq_75 rfl rfl rfl (rd_mout (show ez_rg (u) by assumption) (fun o2 => ez_K1 ?_) (fun o2 => ez_K1 ?_))
    · skip
      refine ez_if rfl rfl ⟨by decide, by decide⟩ (fun _ => ?_) (fun (c5 : ¬((1 : Int) ≠ (0))) => absurd c5 (by decide))
      refine ez_go (n := 2) (pc' := 32) (L' := [(0, .inr (.inr (some (770)))), (1, .inl (t)), (2, .inl (u)), (3, .inl (fm))]) (st' := [.inl (1), .inr (.inr (some (770)))]) rfl ?_
      refine ez_cv hP t770 rfl rfl rfl tq_75 rfl rfl rfl (rd_mfail hP t770 (by omega) (by omega) (fun gf hBf ff jf vf0 => ez_K1 ?_))
      exact ez_retI rfl rfl (kA (by omega) gf hBf (mF.trans ⟨fP, iP, vP⟩ ⟨ff, jf, vf0⟩))
    · skip
      refine ez_if rfl rfl ⟨by decide, by decide⟩ (fun (c6 : (0 : Int) ≠ (0)) => absurd c6 (by decide)) (fun _ => ?_)
      refine ez_go (n := 1) (pc' := 22) (L' := [(0, .inr (.inr (some (770)))), (1, .inl (t)), (2, .inl (u)), (3, .inl (fm))]) (st' := [.inl (fm)]) rfl ?_
      refine ez_if rfl rfl ⟨by first | omega | exact (sz_i32 _).1, by first | omega | exact (sz_i32 _).2⟩ (fun (c7 : (fm) < (0)) => ?_) (fun (c7 : ¬((fm) < (0))) => ?_)
      · skip
        refine ez_go (n := 2) (pc' := 32) (L' := [(0, .inr (.inr (some (770)))), (1, .inl (t)), (2, .inl (u)), (3, .inl (fm))]) (st' := [.inl (1), .inr (.inr (some (770)))]) rfl ?_
        refine ez_cv hP t770 rfl rfl rfl tq_75 rfl rfl rfl (rd_mfail hP t770 (by omega) (by omega) (fun gf hBf ff jf vf0 => ez_K1 ?_))
        exact ez_retI rfl rfl (kA (by omega) gf hBf (mF.trans ⟨fP, iP, vP⟩ ⟨ff, jf, vf0⟩))
      · skip
        refine ez_go (n := 2) (pc' := 27) (L' := [(0, .inr (.inr (some (770)))), (1, .inl (t)), (2, .inl (u)), (3, .inl (fm))]) (st' := [.inl (3), .inl (fm)]) rfl ?_
        refine ez_icmp rfl rfl ⟨by first | omega | exact (sz_i32 _).1, by first | omega | exact (sz_i32 _).2⟩ ⟨by first | omega | exact (sz_i32 _).1, by first | omega | exact (sz_i32 _).2⟩ (fun (c8 : (fm) ≤ (3)) => ?_) (fun (c8 : ¬((fm) ≤ (3))) => ?_)
        · skip
          refine ez_go (n := 1) (pc' := 37) (L' := [(0, .inr (.inr (some (770)))), (1, .inl (t)), (2, .inl (u)), (3, .inl (fm))]) (st' := [.inr (.inr (some (770)))]) rfl ?_
          refine ez_gI hP t770 rfl rfl tq_75 rfl rfl (fun (b9 : 0 ≤ qz_I h1 770 7) (b9' : qz_I h1 770 7 ≤ 1) => ?_)
          refine ez_if rfl rfl ⟨by first | omega | exact (sz_i32 _).1, by first | omega | exact (sz_i32 _).2⟩ (fun (c10 : (qz_I h1 770 7) ≠ (0)) => ?_) (fun (c10 : ¬((qz_I h1 770 7) ≠ (0))) => ?_)
          · skip
            have c1 := f7C (c (by rw [← iP 7 (by decide)]; assumption)) hP fP iP
            have k1P : ∀ q, q ≠ 770 → h1.2.2 q = h.2.2 q := fun q hq => fP.2.2 q (dz_beq_ne hq)
            have c73 : ∀ j, qz_I h1 773 j = qz_I h 773 j := fun j => by unfold qz_I; rw [k1P 773 (by decide)]
            have c82 : ∀ j, qz_I h1 782 j = qz_I h 782 j := fun j => by unfold qz_I; rw [k1P 782 (by decide)]
            have mx1 : mxs h1 X := mxh.k (fun q hq => k1P q (by omega))
            refine ez_go (n := 2) (pc' := 51) (L' := [(0, .inr (.inr (some (770)))), (1, .inl (t)), (2, .inl (u)), (3, .inl (fm))]) (st' := [.inr (.inr (some (770))), .inr (.inr (some (770)))]) rfl ?_
            refine ez_gC (p := 773) (tg := 78) hP t770 rfl rfl tq_75 rfl rfl (fun (t773 : _ = 78) => ?_)
            refine ez_go (n := 1) (pc' := 55) (L' := [(0, .inr (.inr (some (770)))), (1, .inl (t)), (2, .inl (u)), (3, .inl (fm))]) (st' := [.inl (u), .inr (.inr (some (773))), .inr (.inr (some (770)))]) rfl ?_
            have n12 : 8 ≤ qz_N h1 773 ∧ qz_N h1 773 ≤ 8 := ez_len hP t773 tq_78 rfl
            have y13 : 1 ≤ qz_I h1 773 (u).toNat ∧ qz_I h1 773 (u).toNat ≤ 1000000 := ez_aB hP t773 tq_78 rfl rfl (by decide) (by omega) (by omega)
            have y13' : ((qz_P h1 773 (u).toNat : Nat) : Int) + 1 = qz_I h1 773 (u).toNat := by unfold qz_P; omega
            refine ez_aR hP t773 rfl tq_78 rfl rfl (by omega) (by omega) (by omega) (fun (t11 : _ = 37) => ?_)
            rw [show qz_P h1 773 (u).toNat = 774 + (u).toNat by unfold qz_P; have := (sl (u).toNat (by omega)).2; rw [show qz_I h1 773 (u).toNat = qz_I h 773 (u).toNat from c73 _]; omega]
            refine ez_go (n := 1) (pc' := 57) (L' := [(0, .inr (.inr (some (770)))), (1, .inl (t)), (2, .inl (u)), (3, .inl (fm))]) (st' := [.inr (.inr (some (770))), .inr (.inr (some (774 + (u).toNat))), .inr (.inr (some (770)))]) rfl ?_
            refine ez_gC (p := 782) (tg := 79) hP t770 rfl rfl tq_75 rfl rfl (fun (t782 : _ = 79) => ?_)
            refine ez_go (n := 1) (pc' := 61) (L' := [(0, .inr (.inr (some (770)))), (1, .inl (t)), (2, .inl (u)), (3, .inl (fm))]) (st' := [.inl (u), .inr (.inr (some (782))), .inr (.inr (some (774 + (u).toNat))), .inr (.inr (some (770)))]) rfl ?_
            have n15 : 8 ≤ qz_N h1 782 ∧ qz_N h1 782 ≤ 8 := ez_len hP t782 tq_79 rfl
            refine ez_aI hP t782 rfl tq_79 rfl rfl (by omega) (by omega) (fun (b14 : 0 ≤ qz_I h1 782 (u).toNat) (b14' : qz_I h1 782 (u).toNat ≤ 2000) => ?_)
            rw [show qz_I h1 782 (u).toNat = ((X (u).toNat).length : Int) from (mx1 (u).toNat (by omega)).1.1]
            refine ez_go (n := 1) (pc' := 63) (L' := [(0, .inr (.inr (some (770)))), (1, .inl (t)), (2, .inl (u)), (3, .inl (fm))]) (st' := [.inl (fm), .inl (((X (u).toNat).length : Int)), .inr (.inr (some (774 + (u).toNat))), .inr (.inr (some (770)))]) rfl ?_
            have mu := mx1 (u).toNat (by omega)
            have rm0 := fP.1; have rm1 := fP.2.1
            refine ez_cv hP t770 rfl rfl rfl tq_75 rfl rfl rfl (rd_mnorm_s (u := X (u).toNat) c1 (mx_tag hX (show (u).toNat < 8 by omega)).1 rfl (by have := mu.2.2; omega) mu.1.2 mu.2.1 ⟨by omega, by omega⟩ (by omega) (by omega) (fun m res um lt nf pr g2 τ2 hB2 nk2 tm2 => ez_K0 ?_) (fun m um lt g2 τ2 hB2 nk2 => ez_Kc (xc_exc hB2 rfl) rfl ?_))
            · have u770 : τ2 770 = 75 := nk2.X hX 770 (by decide)
              refine ez_go (n := 3) (pc' := 79) (L' := [(0, .inr (.inr (some (770)))), (1, .inl (t)), (2, .inl (u)), (3, .inl (fm))]) (st' := [.inl (t), .inr (.inr (some (770)))]) rfl ?_
              have X2 := nk2.X hX
              have rl : res.length ≤ 2000 := by have := tm2.1; have : 0 ≤ qz_I g2 770 30 ∧ qz_I g2 770 30 ≤ 2000 := ez_fB (cl := 11) (k := 30) hB2 u770 tq_75 rfl rfl (by decide); omega
              have sl2 : slt g2 := fun s hs => by rw [show qz_I g2 195 s = qz_I h 195 s by unfold qz_I; rw [nk2.C hX (by rw [hX 195 (by decide)]; decide) (by rw [hX 195 (by decide)]; decide) (by rw [hX 195 (by decide)]; decide) (by rw [hX 195 (by decide)]; decide) (by rw [hX 195 (by decide)]; decide) (by rw [hX 195 (by decide)]; decide), fP.2.2 195 rfl], show qz_I g2 773 s = qz_I h 773 s by unfold qz_I; rw [nk2.C hX (by rw [hX 773 (by decide)]; decide) (by rw [hX 773 (by decide)]; decide) (by rw [hX 773 (by decide)]; decide) (by rw [hX 773 (by decide)]; decide) (by rw [hX 773 (by decide)]; decide) (by rw [hX 773 (by decide)]; decide), fP.2.2 773 rfl]]; exact sl s hs
              refine ez_cv hB2 u770 rfl rfl rfl tq_75 rfl rfl rfl (rd_mtk hB2 X2 sl2 tm2 (fun j v hv => ⟨by have := ptl_at pr hv; omega, by have := ptl_at pr hv; omega⟩) rl (by omega) (by omega) (fun g3 hB3 f3 mx3 => ez_K1 ?_))
              exact ez_retI rfl rfl (k1 (by omega) (by rw [← iP 7 (by decide)]; assumption) h1 hP ⟨fP, iP, vP⟩ m res um lt nf pr g2 τ2 hB2 nk2 tm2 g3 hB3 f3 mx3)
            · have u770 : τ2 770 = 75 := nk2.X hX 770 (by decide)
              have rm2 := nk2.rm c1.1.1 hB2 (hX 770 (by decide)) u770
              have hBx : ez_B τ2 (xc g2 0) := xc_B hB2 (by omega) (by omega)
              refine ez_go (n := 3) (pc' := 73) (L' := [(4, .inr (.inr (some (g2.1)))), (0, .inr (.inr (some (770)))), (1, .inl (t)), (2, .inl (u)), (3, .inl (fm))]) (st' := [.inl (3), .inr (.inr (some (770)))]) rfl ?_
              refine ez_cv hBx u770 rfl rfl rfl tq_75 rfl rfl rfl (rd_mfail hBx u770 (by omega) (by omega) (fun gf hBf ff jf vf0 => ez_K1 ?_))
              exact ez_retI rfl rfl (kX (by omega) (by rw [← iP 7 (by decide)]; assumption) h1 hP ⟨fP, iP, vP⟩ m um lt g2 τ2 hB2 nk2 gf hBf ⟨ff, jf, vf0⟩)
          · skip
            refine ez_go (n := 2) (pc' := 45) (L' := [(0, .inr (.inr (some (770)))), (1, .inl (t)), (2, .inl (u)), (3, .inl (fm))]) (st' := [.inl (2), .inr (.inr (some (770)))]) rfl ?_
            refine ez_cv hP t770 rfl rfl rfl tq_75 rfl rfl rfl (rd_mfail hP t770 (by omega) (by omega) (fun gf hBf ff jf vf0 => ez_K1 ?_))
            exact ez_retI rfl rfl (kS (by omega) (by rw [← iP 7 (by decide)]; omega) gf hBf (mF.trans ⟨fP, iP, vP⟩ ⟨ff, jf, vf0⟩))
        · skip
          refine ez_go (n := 2) (pc' := 32) (L' := [(0, .inr (.inr (some (770)))), (1, .inl (t)), (2, .inl (u)), (3, .inl (fm))]) (st' := [.inl (1), .inr (.inr (some (770)))]) rfl ?_
          refine ez_cv hP t770 rfl rfl rfl tq_75 rfl rfl rfl (rd_mfail hP t770 (by omega) (by omega) (fun gf hBf ff jf vf0 => ez_K1 ?_))
          exact ez_retI rfl rfl (kA (by omega) gf hBf (mF.trans ⟨fP, iP, vP⟩ ⟨ff, jf, vf0⟩))

theorem rd_mpart_l {t u i j : Int} (hX : jz_X τ) (sl : slt h) (mu : mx h u.toNat (X u.toNat) ∧ ptl (X u.toNat) ∧ (X u.toNat).length ≤ 2000) (t770 : τ 770 = 75) (u0 : 0 ≤ u ∧ u ≤ 7) (i0 : 0 ≤ i) (ij : i ≤ j) (jl : j ≤ ((X u.toNat).length : Int)) (kx : ∀ g, ez_B τ g → ez_fr (ez_one 796) h g → (∀ (n : Nat) v, (pt (X u.toNat) i j)[n]? = some v → qz_I g 796 n = v) → ez_W (d + 1) cm_287 82 [(0, .inr (.inr (some (770)))), (1, .inl (t)), (2, .inl (u)), (3, .inl (i)), (4, .inl (j))] [] g Q) : ∀ (m : Nat) (k : Int) (g : cz_H), m = (j - k).toNat → i ≤ k → k ≤ j → ez_B τ g → ez_fr (ez_one 796) h g → (∀ (n : Nat) v, (n : Int) < k - i → (pt (X u.toNat) i j)[n]? = some v → qz_I g 796 n = v) → ez_W (d + 1) cm_287 51 [(5, .inl (k)), (0, .inr (.inr (some (770)))), (1, .inl (t)), (2, .inl (u)), (3, .inl (i)), (4, .inl (j))] [] g Q := by
  have ml := mu.2.2
  intro m
  induction m with
  | zero =>
    intro k g hm k0 k1 hBg hf hv9
    have c73 : ∀ j, qz_I g 773 j = qz_I h 773 j := fun j => hf.I rfl j
    have cu : ∀ j, qz_I g (774 + (u).toNat) j = qz_I h (774 + (u).toNat) j := fun j => hf.I (dz_beq_ne (by omega)) j
    refine ez_go (n := 2) (pc' := 55) (L' := [(5, .inl (k)), (0, .inr (.inr (some (770)))), (1, .inl (t)), (2, .inl (u)), (3, .inl (i)), (4, .inl (j))]) (st' := [.inl (j), .inl (k)]) rfl ?_
    refine ez_icmp rfl rfl ⟨by first | omega | exact (sz_i32 _).1, by first | omega | exact (sz_i32 _).2⟩ ⟨by first | omega | exact (sz_i32 _).1, by first | omega | exact (sz_i32 _).2⟩ (fun (c1 : (j) ≤ (k)) => ?_) (fun (c1 : ¬((j) ≤ (k))) => ?_)
    · skip
      refine ez_less [(0, .inr (.inr (some (770)))), (1, .inl (t)), (2, .inl (u)), (3, .inl (i)), (4, .inl (j))] rfl ⟨rfl, rfl, rfl, rfl, rfl, trivial⟩ ?_
      exact kx g hBg hf (fun n v hv => hv9 n v (by have := (pt_at hv).1; omega) hv)
    · exfalso; omega
  | succ m ih =>
    intro k g hm k0 k1 hBg hf hv9
    have c73 : ∀ j, qz_I g 773 j = qz_I h 773 j := fun j => hf.I rfl j
    have cu : ∀ j, qz_I g (774 + (u).toNat) j = qz_I h (774 + (u).toNat) j := fun j => hf.I (dz_beq_ne (by omega)) j
    refine ez_go (n := 2) (pc' := 55) (L' := [(5, .inl (k)), (0, .inr (.inr (some (770)))), (1, .inl (t)), (2, .inl (u)), (3, .inl (i)), (4, .inl (j))]) (st' := [.inl (j), .inl (k)]) rfl ?_
    refine ez_icmp rfl rfl ⟨by first | omega | exact (sz_i32 _).1, by first | omega | exact (sz_i32 _).2⟩ ⟨by first | omega | exact (sz_i32 _).1, by first | omega | exact (sz_i32 _).2⟩ (fun (c1 : (j) ≤ (k)) => ?_) (fun (c1 : ¬((j) ≤ (k))) => ?_)
    · exfalso; omega
    · skip
      refine ez_go (n := 1) (pc' := 59) (L' := [(5, .inl (k)), (0, .inr (.inr (some (770)))), (1, .inl (t)), (2, .inl (u)), (3, .inl (i)), (4, .inl (j))]) (st' := [.inr (.inr (some (770)))]) rfl ?_
      refine ez_gC (p := 796) (tg := 83) hBg t770 rfl rfl tq_75 rfl rfl (fun (t796 : _ = 83) => ?_)
      refine ez_go (n := 4) (pc' := 67) (L' := [(5, .inl (k)), (0, .inr (.inr (some (770)))), (1, .inl (t)), (2, .inl (u)), (3, .inl (i)), (4, .inl (j))]) (st' := [.inr (.inr (some (770))), .inl ((k) - (i)), .inr (.inr (some (796)))]) rfl ?_
      refine ez_gC (p := 773) (tg := 78) hBg t770 rfl rfl tq_75 rfl rfl (fun (t773 : _ = 78) => ?_)
      refine ez_go (n := 1) (pc' := 71) (L' := [(5, .inl (k)), (0, .inr (.inr (some (770)))), (1, .inl (t)), (2, .inl (u)), (3, .inl (i)), (4, .inl (j))]) (st' := [.inl (u), .inr (.inr (some (773))), .inl ((k) - (i)), .inr (.inr (some (796)))]) rfl ?_
      have n3 : 8 ≤ qz_N g 773 ∧ qz_N g 773 ≤ 8 := ez_len hBg t773 tq_78 rfl
      have y4 : 1 ≤ qz_I g 773 (u).toNat := (by have := (sl u.toNat (by omega)).2; rw [c73]; omega)
      have y5 : 1 ≤ qz_I g 773 (u).toNat ∧ qz_I g 773 (u).toNat ≤ 1000000 := ez_aB hBg t773 tq_78 rfl rfl (by decide) (by omega) (by omega)
      have y5' : ((qz_P g 773 (u).toNat : Nat) : Int) + 1 = qz_I g 773 (u).toNat := by unfold qz_P; omega
      refine ez_aR hBg t773 rfl tq_78 rfl rfl (by omega) (by omega) (by omega) (fun (t2 : _ = 37) => ?_)
      rw [show qz_P g 773 (u).toNat = 774 + (u).toNat by unfold qz_P; have := (sl (u).toNat (by omega)).2; rw [show qz_I g 773 (u).toNat = qz_I h 773 (u).toNat from c73 _]; omega]
      refine ez_go (n := 1) (pc' := 74) (L' := [(5, .inl (k)), (0, .inr (.inr (some (770)))), (1, .inl (t)), (2, .inl (u)), (3, .inl (i)), (4, .inl (j))]) (st' := [.inl (k), .inr (.inr (some (774 + (u).toNat))), .inl ((k) - (i)), .inr (.inr (some (796)))]) rfl ?_
      have n7 : 2000 ≤ qz_N g (774 + (u).toNat) ∧ qz_N g (774 + (u).toNat) ≤ 2000 := ez_len hBg (mx_tag hX (show (u).toNat < 8 by omega)).1 tq_37 rfl
      refine ez_aI hBg (mx_tag hX (show (u).toNat < 8 by omega)).1 rfl tq_37 rfl rfl (by omega) (by omega) (fun (b6 : -2147483648 ≤ qz_I g (774 + (u).toNat) (k).toNat) (b6' : qz_I g (774 + (u).toNat) (k).toNat ≤ 2147483647) => ?_)
      have n10 : 2000 ≤ qz_N g 796 ∧ qz_N g 796 ≤ 2000 := ez_len hBg t796 tq_83 rfl
      refine ez_as hBg t796 rfl tq_83 rfl rfl (by omega) (by omega) (ez_vdI rfl rfl (by omega) (by omega)) (fun hB8 w9 => ?_)
      refine ez_go (n := 2) (pc' := 51) (L' := [(5, .inl (k + 1)), (0, .inr (.inr (some (770)))), (1, .inl (t)), (2, .inl (u)), (3, .inl (i)), (4, .inl (j))]) (st' := []) rfl ?_
      refine ez_less [(5, .inl (k + 1)), (0, .inr (.inr (some (770)))), (1, .inl (t)), (2, .inl (u)), (3, .inl (i)), (4, .inl (j))] rfl ⟨rfl, rfl, rfl, rfl, rfl, rfl, trivial⟩ ?_
      refine ih (k + 1) _ (by omega) (by omega) (by omega) hB8 (hf.put (show Nat.beq 796 796 = true from rfl) _ _) (fun n v hn hv => ?_)
      obtain ⟨p1, p2⟩ := pt_at hv
      by_cases en : (n : Int) = k - i
      · rw [show n = (k - i).toNat by omega, w9]
        have e9 : qz_I g (774 + (u).toNat) (k).toNat = v := by rw [cu, show (k).toNat = i.toNat + n by omega]; exact mu.1.2 _ v p2
        rw [e9]; exact rz_rd ⟨by have := ptl_at mu.2.1 p2; omega, by have := ptl_at mu.2.1 p2; omega⟩
      · rw [ez_put_I (fun w => by omega)]; exact hv9 n v (by omega) hv

theorem rd_mpart {t u i j : Int} (hB : ez_B τ h) (hX : jz_X τ) (sl : slt h) (mxh : mxs h X) (tr : ez_rg t) (ur : ez_rg u) (ir : ez_rg i) (jr : ez_rg j) (kA : (t < 0 ∨ 7 < t ∨ u < 0 ∨ 7 < u ∨ i < 0 ∨ j < i ∨ ((X u.toNat).length : Int) < j) → ∀ g, ez_B τ g → mF h g 1 → Q (.inl (some (ez_v (.inl 0))), g)) (k1 : ((0 ≤ t ∧ t ≤ 7) ∧ (0 ≤ u ∧ u ≤ 7) ∧ 0 ≤ i ∧ i ≤ j ∧ j ≤ ((X u.toNat).length : Int)) → ∀ h1, ez_B τ h1 → mF h h1 0 → ∀ g2, ez_B τ g2 → ez_fr (nz_PL 796) h1 g2 → (∀ j, j ≠ 30 → qz_I g2 770 j = qz_I h1 770 j) → ∀ g, ez_B τ g → ez_fr (mx_P t.toNat) g2 g → mx g t.toNat (pt (X u.toNat) i j) → Q (.inl (some (ez_v (.inl ((pt (X u.toNat) i j).length : Int)))), g)) : ez_W (d + 2) cm_287 0 [(0, .inr (.inr (some (770)))), (1, .inl (t)), (2, .inl (u)), (3, .inl (i)), (4, .inl (j))] [] h Q := by
  have t770 : τ 770 = 75 := hX 770 (by decide)
  obtain ⟨tr1, tr2⟩ := id tr
  obtain ⟨ur1, ur2⟩ := id ur
  obtain ⟨ir1, ir2⟩ := id ir
  obtain ⟨jr1, jr2⟩ := id jr
  refine ez_go (n := 2) (pc' := 2) (L' := [(0, .inr (.inr (some (770)))), (1, .inl (t)), (2, .inl (u)), (3, .inl (i)), (4, .inl (j))]) (st' := [.inl (0), .inr (.inr (some (770)))]) rfl ?_
  refine ez_pf hB t770 rfl rfl tq_75 rfl rfl rfl rfl (ez_vdI rfl rfl (by omega) (by omega)) (fun hB1 w2 => ?_)
  have fP : ez_fr (ez_one 770) h (dz_put h 770 0 (ez_v (.inl (0)))) := (ez_fr.refl (ez_one 770) h).put rfl _ _
  have vP : qz_I (dz_put h 770 0 (ez_v (.inl (0)))) 770 0 = 0 := w2.trans (rz_rd ⟨by omega, by omega⟩)
  have iP : ∀ j, j ≠ 0 → qz_I (dz_put h 770 0 (ez_v (.inl (0)))) 770 j = qz_I h 770 j := fun j hj => ez_put_I (fun w => hj w.2)
  have hP := hB1
  generalize (dz_put h 770 0 (ez_v (.inl (0)))) = h1 at *
  have cP1 := fP.1; have cP2 := fP.2.1
  refine ez_go (n := 2) (pc' := 7) (L' := [(0, .inr (.inr (some (770)))), (1, .inl (t)), (2, .inl (u)), (3, .inl (i)), (4, .inl (j))]) (st' := [.inl (t), .inr (.inr (some (770)))]) rfl ?_
  refine ez_cv hP t770 rfl rfl rfl tq_75 rfl rfl rfl (rd_mout (show ez_rg (t) by assumption) (fun o3 => ez_K1 ?_) (fun o3 => ez_K1 ?_))
  · skip
    refine ez_if rfl rfl ⟨by decide, by decide⟩ (fun _ => ?_) (fun (c3 : ¬((1 : Int) ≠ (0))) => absurd c3 (by decide))
    refine ez_go (n := 2) (pc' := 44) (L' := [(0, .inr (.inr (some (770)))), (1, .inl (t)), (2, .inl (u)), (3, .inl (i)), (4, .inl (j))]) (st' := [.inl (1), .inr (.inr (some (770)))]) rfl ?_
    refine ez_cv hP t770 rfl rfl rfl tq_75 rfl rfl rfl (rd_mfail hP t770 (by omega) (by omega) (fun gf hBf ff jf vf0 => ez_K1 ?_))
    exact ez_retI rfl rfl (kA (by omega) gf hBf (mF.trans ⟨fP, iP, vP⟩ ⟨ff, jf, vf0⟩))
  · skip
    refine ez_if rfl rfl ⟨by decide, by decide⟩ (fun (c4 : (0 : Int) ≠ (0)) => absurd c4 (by decide)) (fun _ => ?_)
    refine ez_go (n := 2) (pc' := 15) (L' := [(0, .inr (.inr (some (770)))), (1, .inl (t)), (2, .inl (u)), (3, .inl (i)), (4, .inl (j))]) (st' := [.inl (u), .inr (.inr (some (770)))]) rfl ?_
    refine ez_cv hP t770 rfl rfl rfl tq_75 rfl rfl rfl (rd_mout (show ez_rg (u) by assumption) (fun o4 => ez_K1 ?_) (fun o4 => ez_K1 ?_))
    · skip
      refine ez_if rfl rfl ⟨by decide, by decide⟩ (fun _ => ?_) (fun (c5 : ¬((1 : Int) ≠ (0))) => absurd c5 (by decide))
      refine ez_go (n := 2) (pc' := 44) (L' := [(0, .inr (.inr (some (770)))), (1, .inl (t)), (2, .inl (u)), (3, .inl (i)), (4, .inl (j))]) (st' := [.inl (1), .inr (.inr (some (770)))]) rfl ?_
      refine ez_cv hP t770 rfl rfl rfl tq_75 rfl rfl rfl (rd_mfail hP t770 (by omega) (by omega) (fun gf hBf ff jf vf0 => ez_K1 ?_))
      exact ez_retI rfl rfl (kA (by omega) gf hBf (mF.trans ⟨fP, iP, vP⟩ ⟨ff, jf, vf0⟩))
    · skip
      refine ez_if rfl rfl ⟨by decide, by decide⟩ (fun (c6 : (0 : Int) ≠ (0)) => absurd c6 (by decide)) (fun _ => ?_)
      refine ez_go (n := 1) (pc' := 22) (L' := [(0, .inr (.inr (some (770)))), (1, .inl (t)), (2, .inl (u)), (3, .inl (i)), (4, .inl (j))]) (st' := [.inl (i)]) rfl ?_
      refine ez_if rfl rfl ⟨by first | omega | exact (sz_i32 _).1, by first | omega | exact (sz_i32 _).2⟩ (fun (c7 : (i) < (0)) => ?_) (fun (c7 : ¬((i) < (0))) => ?_)
      · skip
        refine ez_go (n := 2) (pc' := 44) (L' := [(0, .inr (.inr (some (770)))), (1, .inl (t)), (2, .inl (u)), (3, .inl (i)), (4, .inl (j))]) (st' := [.inl (1), .inr (.inr (some (770)))]) rfl ?_
        refine ez_cv hP t770 rfl rfl rfl tq_75 rfl rfl rfl (rd_mfail hP t770 (by omega) (by omega) (fun gf hBf ff jf vf0 => ez_K1 ?_))
        exact ez_retI rfl rfl (kA (by omega) gf hBf (mF.trans ⟨fP, iP, vP⟩ ⟨ff, jf, vf0⟩))
      · skip
        refine ez_go (n := 2) (pc' := 28) (L' := [(0, .inr (.inr (some (770)))), (1, .inl (t)), (2, .inl (u)), (3, .inl (i)), (4, .inl (j))]) (st' := [.inl (i), .inl (j)]) rfl ?_
        refine ez_icmp rfl rfl ⟨by first | omega | exact (sz_i32 _).1, by first | omega | exact (sz_i32 _).2⟩ ⟨by first | omega | exact (sz_i32 _).1, by first | omega | exact (sz_i32 _).2⟩ (fun (c8 : (j) < (i)) => ?_) (fun (c8 : ¬((j) < (i))) => ?_)
        · skip
          refine ez_go (n := 2) (pc' := 44) (L' := [(0, .inr (.inr (some (770)))), (1, .inl (t)), (2, .inl (u)), (3, .inl (i)), (4, .inl (j))]) (st' := [.inl (1), .inr (.inr (some (770)))]) rfl ?_
          refine ez_cv hP t770 rfl rfl rfl tq_75 rfl rfl rfl (rd_mfail hP t770 (by omega) (by omega) (fun gf hBf ff jf vf0 => ez_K1 ?_))
          exact ez_retI rfl rfl (kA (by omega) gf hBf (mF.trans ⟨fP, iP, vP⟩ ⟨ff, jf, vf0⟩))
        · skip
          refine ez_go (n := 2) (pc' := 34) (L' := [(0, .inr (.inr (some (770)))), (1, .inl (t)), (2, .inl (u)), (3, .inl (i)), (4, .inl (j))]) (st' := [.inr (.inr (some (770))), .inl (j)]) rfl ?_
          refine ez_gC (p := 782) (tg := 79) hP t770 rfl rfl tq_75 rfl rfl (fun (t782 : _ = 79) => ?_)
          have c82 : ∀ j, qz_I h1 782 j = qz_I h 782 j := fun j => fP.I rfl j
          refine ez_go (n := 1) (pc' := 38) (L' := [(0, .inr (.inr (some (770)))), (1, .inl (t)), (2, .inl (u)), (3, .inl (i)), (4, .inl (j))]) (st' := [.inl (u), .inr (.inr (some (782))), .inl (j)]) rfl ?_
          have n10 : 8 ≤ qz_N h1 782 ∧ qz_N h1 782 ≤ 8 := ez_len hP t782 tq_79 rfl
          refine ez_aI hP t782 rfl tq_79 rfl rfl (by omega) (by omega) (fun (b9 : 0 ≤ qz_I h1 782 (u).toNat) (b9' : qz_I h1 782 (u).toNat ≤ 2000) => ?_)
          have mu := mxh (u).toNat (by omega)
          rw [show qz_I h1 782 (u).toNat = ((X (u).toNat).length : Int) from (c82 _).trans mu.1.1]
          refine ez_icmp rfl rfl ⟨by first | omega | exact (sz_i32 _).1, by first | omega | exact (sz_i32 _).2⟩ ⟨by first | omega | exact (sz_i32 _).1, by first | omega | exact (sz_i32 _).2⟩ (fun (c11 : (j) ≤ (((X (u).toNat).length : Int))) => ?_) (fun (c11 : ¬((j) ≤ (((X (u).toNat).length : Int)))) => ?_)
          · skip
            refine ez_go (n := 2) (pc' := 51) (L' := [(5, .inl (i)), (0, .inr (.inr (some (770)))), (1, .inl (t)), (2, .inl (u)), (3, .inl (i)), (4, .inl (j))]) (st' := []) rfl ?_
            refine ez_less [(5, .inl (i)), (0, .inr (.inr (some (770)))), (1, .inl (t)), (2, .inl (u)), (3, .inl (i)), (4, .inl (j))] rfl ⟨rfl, rfl, rfl, rfl, rfl, rfl, trivial⟩ ?_
            have k1P : ∀ q, q ≠ 770 → h1.2.2 q = h.2.2 q := fun q hq => fP.2.2 q (dz_beq_ne hq)
            have mx1 : mxs h1 X := mxh.k (fun q hq => k1P q (by omega))
            have sl1 : slt h1 := fun s hs => by unfold qz_I; rw [k1P 195 (by decide), k1P 773 (by decide)]; exact sl s hs
            have mu1 := mx1 (u).toNat (by omega)
            refine rd_mpart_l (h := h1) hX sl1 mu1 t770 ⟨by omega, by omega⟩ (by omega) (by omega) (by omega) (fun g2 hB2 f2 v2 => ?_) _ i h1 rfl (by omega) (by omega) hP (ez_fr.refl _ _) (fun n v hn => by omega)
            have ml := mu1.2.2
            refine ez_go (n := 4) (pc' := 87) (L' := [(0, .inr (.inr (some (770)))), (1, .inl (t)), (2, .inl (u)), (3, .inl (i)), (4, .inl (j))]) (st' := [.inl ((j) - (i)), .inr (.inr (some (770)))]) rfl ?_
            refine ez_pf hB2 t770 rfl rfl tq_75 rfl rfl rfl rfl (ez_vdI rfl rfl (by omega) (by omega)) (fun hB12 w13 => ?_)
            have pl9 := pt_len (l := X (u).toNat) (i := i) (j := j) (by omega) (by omega) (by omega)
            have tm3 : tm (dz_put g2 770 30 (ez_v (.inl ((j) - (i))))) (pt (X (u).toNat) i j) := ⟨by rw [w13, pl9]; exact rz_rd ⟨by omega, by omega⟩, fun n v hv => by rw [ez_put_I (fun w => absurd w.1 (by decide))]; exact v2 n v hv⟩
            have i3 : ∀ j, j ≠ 30 → qz_I (dz_put g2 770 30 (ez_v (.inl ((j) - (i))))) 770 j = qz_I h1 770 j := fun j hj => by rw [ez_put_I (fun w => hj w.2)]; exact f2.I rfl j
            have f3 : ez_fr (nz_PL 796) h1 (dz_put g2 770 30 (ez_v (.inl ((j) - (i))))) := (ez_fr_mono f2 (fun z hz => by unfold ez_one at hz; rw [Nat.eq_of_beq_eq_true hz]; rfl)).put (show nz_PL 796 770 = true from rfl) _ _
            have hB3 := hB12
            generalize (dz_put g2 770 30 (ez_v (.inl ((j) - (i))))) = g3 at *
            refine ez_go (n := 2) (pc' := 92) (L' := [(0, .inr (.inr (some (770)))), (1, .inl (t)), (2, .inl (u)), (3, .inl (i)), (4, .inl (j))]) (st' := [.inl (t), .inr (.inr (some (770)))]) rfl ?_
            have pp9 := pt_ptl (i := i) (j := j) mu1.2.1
            have sl3 : slt g3 := fun s hs => by unfold qz_I; rw [f3.2.2 195 rfl, f3.2.2 773 rfl]; exact sl1 s hs
            refine ez_cv hB3 t770 rfl rfl rfl tq_75 rfl rfl rfl (rd_mtk hB3 hX sl3 tm3 (fun n v hv => ⟨by have := ptl_at pp9 hv; omega, by have := ptl_at pp9 hv; omega⟩) (by omega) (by omega) (by omega) (fun g4 hB4 f4 mx4 => ez_K1 ?_))
            exact ez_retI rfl rfl (k1 ⟨by omega, by omega, by omega, by omega, by omega⟩ h1 hP ⟨fP, iP, vP⟩ g3 hB3 f3 i3 g4 hB4 f4 mx4)
          · skip
            refine ez_go (n := 2) (pc' := 44) (L' := [(0, .inr (.inr (some (770)))), (1, .inl (t)), (2, .inl (u)), (3, .inl (i)), (4, .inl (j))]) (st' := [.inl (1), .inr (.inr (some (770)))]) rfl ?_
            refine ez_cv hP t770 rfl rfl rfl tq_75 rfl rfl rfl (rd_mfail hP t770 (by omega) (by omega) (fun gf hBf ff jf vf0 => ez_K1 ?_))
            exact ez_retI rfl rfl (kA (by omega) gf hBf (mF.trans ⟨fP, iP, vP⟩ ⟨ff, jf, vf0⟩))

theorem rd_madd {t p : Int} (hB : ez_B τ h) (hX : jz_X τ) (sl : slt h) (mxh : mxs h X) (tr : ez_rg t) (pr : ez_rg p) (kA : (t < 0 ∨ 7 < t ∨ p < 0 ∨ 1114111 < p) → ∀ g, ez_B τ g → mF h g 1 → Q (.inl (some (ez_v (.inl 0))), g)) (kB : ((0 ≤ t ∧ t ≤ 7) ∧ 0 ≤ p ∧ p ≤ 1114111) → (X t.toNat).length = 2000 → ∀ g, ez_B τ g → mF h g 2 → Q (.inl (some (ez_v (.inl 0))), g)) (k1 : ((0 ≤ t ∧ t ≤ 7) ∧ 0 ≤ p ∧ p ≤ 1114111) → (X t.toNat).length < 2000 → ∀ h1, ez_B τ h1 → mF h h1 0 → ∀ g, ez_B τ g → ez_fr (mx_P t.toNat) h1 g → mx g t.toNat (X t.toNat ++ [p]) → Q (.inl (some (ez_v (.inl (((X t.toNat).length : Int) + 1)))), g)) : ez_W (d + 1) cm_217 0 [(0, .inr (.inr (some (770)))), (1, .inl (t)), (2, .inl (p))] [] h Q := by
  have t770 : τ 770 = 75 := hX 770 (by decide)
  obtain ⟨tr1, tr2⟩ := id tr
  obtain ⟨pr1, pr2⟩ := id pr
  refine ez_go (n := 2) (pc' := 2) (L' := [(0, .inr (.inr (some (770)))), (1, .inl (t)), (2, .inl (p))]) (st' := [.inl (0), .inr (.inr (some (770)))]) rfl ?_
  refine ez_pf hB t770 rfl rfl tq_75 rfl rfl rfl rfl (ez_vdI rfl rfl (by omega) (by omega)) (fun hB1 w2 => ?_)
  have fP : ez_fr (ez_one 770) h (dz_put h 770 0 (ez_v (.inl (0)))) := (ez_fr.refl (ez_one 770) h).put rfl _ _
  have vP : qz_I (dz_put h 770 0 (ez_v (.inl (0)))) 770 0 = 0 := w2.trans (rz_rd ⟨by omega, by omega⟩)
  have iP : ∀ j, j ≠ 0 → qz_I (dz_put h 770 0 (ez_v (.inl (0)))) 770 j = qz_I h 770 j := fun j hj => ez_put_I (fun w => hj w.2)
  have hP := hB1
  generalize (dz_put h 770 0 (ez_v (.inl (0)))) = h1 at *
  have cP1 := fP.1; have cP2 := fP.2.1
  refine ez_go (n := 2) (pc' := 7) (L' := [(0, .inr (.inr (some (770)))), (1, .inl (t)), (2, .inl (p))]) (st' := [.inl (t), .inr (.inr (some (770)))]) rfl ?_
  refine ez_cv hP t770 rfl rfl rfl tq_75 rfl rfl rfl (rd_mout (show ez_rg (t) by assumption) (fun o5 => ez_K1 ?_) (fun o5 => ez_K1 ?_))
  · skip
    refine ez_if rfl rfl ⟨by decide, by decide⟩ (fun _ => ?_) (fun (c3 : ¬((1 : Int) ≠ (0))) => absurd c3 (by decide))
    refine ez_go (n := 2) (pc' := 25) (L' := [(0, .inr (.inr (some (770)))), (1, .inl (t)), (2, .inl (p))]) (st' := [.inl (1), .inr (.inr (some (770)))]) rfl ?_
    refine ez_cv hP t770 rfl rfl rfl tq_75 rfl rfl rfl (rd_mfail hP t770 (by omega) (by omega) (fun gf hBf ff jf vf0 => ez_K1 ?_))
    exact ez_retI rfl rfl (kA (by omega) gf hBf (mF.trans ⟨fP, iP, vP⟩ ⟨ff, jf, vf0⟩))
  · skip
    refine ez_if rfl rfl ⟨by decide, by decide⟩ (fun (c4 : (0 : Int) ≠ (0)) => absurd c4 (by decide)) (fun _ => ?_)
    refine ez_go (n := 1) (pc' := 14) (L' := [(0, .inr (.inr (some (770)))), (1, .inl (t)), (2, .inl (p))]) (st' := [.inl (p)]) rfl ?_
    refine ez_if rfl rfl ⟨by first | omega | exact (sz_i32 _).1, by first | omega | exact (sz_i32 _).2⟩ (fun (c5 : (p) < (0)) => ?_) (fun (c5 : ¬((p) < (0))) => ?_)
    · skip
      refine ez_go (n := 2) (pc' := 25) (L' := [(0, .inr (.inr (some (770)))), (1, .inl (t)), (2, .inl (p))]) (st' := [.inl (1), .inr (.inr (some (770)))]) rfl ?_
      refine ez_cv hP t770 rfl rfl rfl tq_75 rfl rfl rfl (rd_mfail hP t770 (by omega) (by omega) (fun gf hBf ff jf vf0 => ez_K1 ?_))
      exact ez_retI rfl rfl (kA (by omega) gf hBf (mF.trans ⟨fP, iP, vP⟩ ⟨ff, jf, vf0⟩))
    · skip
      refine ez_go (n := 1) (pc' := 18) (L' := [(0, .inr (.inr (some (770)))), (1, .inl (t)), (2, .inl (p))]) (st' := [.inl (p)]) rfl ?_
      refine ez_ldc (1114111) rfl rfl rfl ?_
      refine ez_icmp rfl rfl ⟨by first | omega | exact (sz_i32 _).1, by first | omega | exact (sz_i32 _).2⟩ ⟨by first | omega | exact (sz_i32 _).1, by first | omega | exact (sz_i32 _).2⟩ (fun (c6 : (p) ≤ (1114111)) => ?_) (fun (c6 : ¬((p) ≤ (1114111))) => ?_)
      · skip
        refine ez_go (n := 1) (pc' := 30) (L' := [(0, .inr (.inr (some (770)))), (1, .inl (t)), (2, .inl (p))]) (st' := [.inr (.inr (some (770)))]) rfl ?_
        refine ez_gC (p := 782) (tg := 79) hP t770 rfl rfl tq_75 rfl rfl (fun (t782 : _ = 79) => ?_)
        have k1P : ∀ q, q ≠ 770 → h1.2.2 q = h.2.2 q := fun q hq => fP.2.2 q (dz_beq_ne hq)
        have c73 : ∀ j, qz_I h1 773 j = qz_I h 773 j := fun j => fP.I rfl j
        have mx1 : mxs h1 X := mxh.k (fun q hq => k1P q (by omega))
        refine ez_go (n := 1) (pc' := 34) (L' := [(0, .inr (.inr (some (770)))), (1, .inl (t)), (2, .inl (p))]) (st' := [.inl (t), .inr (.inr (some (782)))]) rfl ?_
        have n8 : 8 ≤ qz_N h1 782 ∧ qz_N h1 782 ≤ 8 := ez_len hP t782 tq_79 rfl
        refine ez_aI hP t782 rfl tq_79 rfl rfl (by omega) (by omega) (fun (b7 : 0 ≤ qz_I h1 782 (t).toNat) (b7' : qz_I h1 782 (t).toNat ≤ 2000) => ?_)
        have mt := mx1 (t).toNat (by omega)
        have mtl := mt.1.1; have mt2 := mt.2.2
        rw [show qz_I h1 782 (t).toNat = ((X (t).toNat).length : Int) from mt.1.1]
        refine ez_go (n := 1) (pc' := 38) (L' := [(0, .inr (.inr (some (770)))), (1, .inl (t)), (2, .inl (p))]) (st' := [.inl (2000), .inl (((X (t).toNat).length : Int))]) rfl ?_
        refine ez_icmp rfl rfl ⟨by first | omega | exact (sz_i32 _).1, by first | omega | exact (sz_i32 _).2⟩ ⟨by first | omega | exact (sz_i32 _).1, by first | omega | exact (sz_i32 _).2⟩ (fun (c9 : (((X (t).toNat).length : Int)) ≠ (2000)) => ?_) (fun (c9 : ¬((((X (t).toNat).length : Int)) ≠ (2000))) => ?_)
        · skip
          refine ez_go (n := 1) (pc' := 48) (L' := [(0, .inr (.inr (some (770)))), (1, .inl (t)), (2, .inl (p))]) (st' := [.inr (.inr (some (770)))]) rfl ?_
          refine ez_gC (p := 773) (tg := 78) hP t770 rfl rfl tq_75 rfl rfl (fun (t773 : _ = 78) => ?_)
          refine ez_go (n := 1) (pc' := 52) (L' := [(0, .inr (.inr (some (770)))), (1, .inl (t)), (2, .inl (p))]) (st' := [.inl (t), .inr (.inr (some (773)))]) rfl ?_
          have n11 : 8 ≤ qz_N h1 773 ∧ qz_N h1 773 ≤ 8 := ez_len hP t773 tq_78 rfl
          have y12 : 1 ≤ qz_I h1 773 (t).toNat := (by have := (sl t.toNat (by omega)).2; rw [c73]; omega)
          have y13 : 1 ≤ qz_I h1 773 (t).toNat ∧ qz_I h1 773 (t).toNat ≤ 1000000 := ez_aB hP t773 tq_78 rfl rfl (by decide) (by omega) (by omega)
          have y13' : ((qz_P h1 773 (t).toNat : Nat) : Int) + 1 = qz_I h1 773 (t).toNat := by unfold qz_P; omega
          refine ez_aR hP t773 rfl tq_78 rfl rfl (by omega) (by omega) (by omega) (fun (t10 : _ = 37) => ?_)
          rw [show qz_P h1 773 (t).toNat = 774 + (t).toNat by unfold qz_P; have := (sl (t).toNat (by omega)).2; rw [show qz_I h1 773 (t).toNat = qz_I h 773 (t).toNat from c73 _]; omega]
          refine ez_go (n := 1) (pc' := 54) (L' := [(0, .inr (.inr (some (770)))), (1, .inl (t)), (2, .inl (p))]) (st' := [.inr (.inr (some (770))), .inr (.inr (some (774 + (t).toNat)))]) rfl ?_
          refine ez_gC (p := 782) (tg := 79) hP t770 rfl rfl tq_75 rfl rfl (fun (t782 : _ = 79) => ?_)
          refine ez_go (n := 1) (pc' := 58) (L' := [(0, .inr (.inr (some (770)))), (1, .inl (t)), (2, .inl (p))]) (st' := [.inl (t), .inr (.inr (some (782))), .inr (.inr (some (774 + (t).toNat)))]) rfl ?_
          have n15 : 8 ≤ qz_N h1 782 ∧ qz_N h1 782 ≤ 8 := ez_len hP t782 tq_79 rfl
          refine ez_aI hP t782 rfl tq_79 rfl rfl (by omega) (by omega) (fun (b14 : 0 ≤ qz_I h1 782 (t).toNat) (b14' : qz_I h1 782 (t).toNat ≤ 2000) => ?_)
          rw [show qz_I h1 782 (t).toNat = ((X (t).toNat).length : Int) from mt.1.1]
          refine ez_go (n := 1) (pc' := 60) (L' := [(0, .inr (.inr (some (770)))), (1, .inl (t)), (2, .inl (p))]) (st' := [.inl (p), .inl (((X (t).toNat).length : Int)), .inr (.inr (some (774 + (t).toNat)))]) rfl ?_
          have n18 : 2000 ≤ qz_N h1 (774 + (t).toNat) ∧ qz_N h1 (774 + (t).toNat) ≤ 2000 := ez_len hP (mx_tag hX (show (t).toNat < 8 by omega)).1 tq_37 rfl
          refine ez_as hP (mx_tag hX (show (t).toNat < 8 by omega)).1 rfl tq_37 rfl rfl (by omega) (by omega) (ez_vdI rfl rfl (by omega) (by omega)) (fun hB16 w17 => ?_)
          have wA : qz_I (dz_put h1 (774 + (t).toNat) (((X (t).toNat).length : Int)).toNat (ez_v (.inl (p)))) (774 + (t).toNat) (((X (t).toNat).length : Int)).toNat = p := w17.trans (rz_rd ⟨by omega, by omega⟩)
          have sA : ∀ j, j ≠ (((X (t).toNat).length : Int)).toNat → qz_I (dz_put h1 (774 + (t).toNat) (((X (t).toNat).length : Int)).toNat (ez_v (.inl (p)))) (774 + (t).toNat) j = qz_I h1 (774 + (t).toNat) j := fun j hj => ez_put_I (fun w => hj w.2)
          have fA : ez_fr (mx_P (t).toNat) h1 (dz_put h1 (774 + (t).toNat) (((X (t).toNat).length : Int)).toNat (ez_v (.inl (p)))) := (ez_fr.refl (mx_P (t).toNat) h1).put (mx_Pa _) _ _
          have c8A : ∀ j, qz_I (dz_put h1 (774 + (t).toNat) (((X (t).toNat).length : Int)).toNat (ez_v (.inl (p)))) 782 j = qz_I h1 782 j := fun j => ez_put_I (fun w => by omega)
          have hA := hB16
          generalize (dz_put h1 (774 + (t).toNat) (((X (t).toNat).length : Int)).toNat (ez_v (.inl (p)))) = gA at *
          refine ez_go (n := 1) (pc' := 62) (L' := [(0, .inr (.inr (some (770)))), (1, .inl (t)), (2, .inl (p))]) (st' := [.inr (.inr (some (770)))]) rfl ?_
          refine ez_gC (p := 782) (tg := 79) hA t770 rfl rfl tq_75 rfl rfl (fun (t782 : _ = 79) => ?_)
          refine ez_go (n := 2) (pc' := 67) (L' := [(0, .inr (.inr (some (770)))), (1, .inl (t)), (2, .inl (p))]) (st' := [.inl (t), .inr (.inr (some (782))), .inl (t), .inr (.inr (some (782)))]) rfl ?_
          have n20 : 8 ≤ qz_N gA 782 ∧ qz_N gA 782 ≤ 8 := ez_len hA t782 tq_79 rfl
          refine ez_aI hA t782 rfl tq_79 rfl rfl (by omega) (by omega) (fun (b19 : 0 ≤ qz_I gA 782 (t).toNat) (b19' : qz_I gA 782 (t).toNat ≤ 2000) => ?_)
          rw [show qz_I gA 782 (t).toNat = ((X (t).toNat).length : Int) from (c8A _).trans mt.1.1]
          refine ez_go (n := 2) (pc' := 70) (L' := [(0, .inr (.inr (some (770)))), (1, .inl (t)), (2, .inl (p))]) (st' := [.inl ((((X (t).toNat).length : Int)) + (1)), .inl (t), .inr (.inr (some (782)))]) rfl ?_
          have n23 : 8 ≤ qz_N gA 782 ∧ qz_N gA 782 ≤ 8 := ez_len hA t782 tq_79 rfl
          refine ez_as hA t782 rfl tq_79 rfl rfl (by omega) (by omega) (ez_vdI rfl rfl (by omega) (by omega)) (fun hB21 w22 => ?_)
          have wD : qz_I (dz_put gA 782 (t).toNat (ez_v (.inl ((((X (t).toNat).length : Int)) + (1))))) 782 (t).toNat = ((X (t).toNat).length : Int) + 1 := w22.trans (rz_rd ⟨by omega, by omega⟩)
          have sD : ∀ j, qz_I (dz_put gA 782 (t).toNat (ez_v (.inl ((((X (t).toNat).length : Int)) + (1))))) (774 + (t).toNat) j = qz_I gA (774 + (t).toNat) j := fun j => ez_put_I (fun w => by omega)
          have fD9 : ez_fr (mx_P (t).toNat) h1 (dz_put gA 782 (t).toNat (ez_v (.inl ((((X (t).toNat).length : Int)) + (1))))) := fA.put (mx_Pb _) _ _
          have hD := hB21
          generalize (dz_put gA 782 (t).toNat (ez_v (.inl ((((X (t).toNat).length : Int)) + (1))))) = gD at *
          have mxD : mx gD (t).toNat (X (t).toNat ++ [p]) := by
            refine ⟨by rw [wD, List.length_append]; rfl, fun j v hv => ?_⟩
            by_cases e : j < (X (t).toNat).length
            · rw [List.getElem?_append_left e] at hv
              rw [sD, sA j (by omega)]; exact mt.1.2 j v hv
            · rw [List.getElem?_append_right (by omega)] at hv
              have e0 : j - (X (t).toNat).length = 0 := by
                by_cases w : j - (X (t).toNat).length = 0
                · exact w
                · rw [List.getElem?_eq_none (by rw [List.length_singleton]; omega)] at hv; cases hv
              rw [e0] at hv
              cases hv
              rw [sD, show j = (((X (t).toNat).length : Int)).toNat by omega]; exact wA
          refine ez_go (n := 1) (pc' := 72) (L' := [(0, .inr (.inr (some (770)))), (1, .inl (t)), (2, .inl (p))]) (st' := [.inr (.inr (some (770)))]) rfl ?_
          refine ez_gC (p := 782) (tg := 79) hD t770 rfl rfl tq_75 rfl rfl (fun (t782 : _ = 79) => ?_)
          refine ez_go (n := 1) (pc' := 76) (L' := [(0, .inr (.inr (some (770)))), (1, .inl (t)), (2, .inl (p))]) (st' := [.inl (t), .inr (.inr (some (782)))]) rfl ?_
          have n25 : 8 ≤ qz_N gD 782 ∧ qz_N gD 782 ≤ 8 := ez_len hD t782 tq_79 rfl
          refine ez_aI hD t782 rfl tq_79 rfl rfl (by omega) (by omega) (fun (b24 : 0 ≤ qz_I gD 782 (t).toNat) (b24' : qz_I gD 782 (t).toNat ≤ 2000) => ?_)
          rw [show qz_I gD 782 (t).toNat = ((X (t).toNat).length : Int) + 1 from wD]
          exact ez_retI rfl rfl (k1 (by omega) (by omega) h1 hP ⟨fP, iP, vP⟩ gD hD fD9 mxD)
        · skip
          refine ez_go (n := 2) (pc' := 43) (L' := [(0, .inr (.inr (some (770)))), (1, .inl (t)), (2, .inl (p))]) (st' := [.inl (2), .inr (.inr (some (770)))]) rfl ?_
          refine ez_cv hP t770 rfl rfl rfl tq_75 rfl rfl rfl (rd_mfail hP t770 (by omega) (by omega) (fun gf hBf ff jf vf0 => ez_K1 ?_))
          exact ez_retI rfl rfl (kB (by omega) (by omega) gf hBf (mF.trans ⟨fP, iP, vP⟩ ⟨ff, jf, vf0⟩))
      · skip
        refine ez_go (n := 2) (pc' := 25) (L' := [(0, .inr (.inr (some (770)))), (1, .inl (t)), (2, .inl (p))]) (st' := [.inl (1), .inr (.inr (some (770)))]) rfl ?_
        refine ez_cv hP t770 rfl rfl rfl tq_75 rfl rfl rfl (rd_mfail hP t770 (by omega) (by omega) (fun gf hBf ff jf vf0 => ez_K1 ?_))
        exact ez_retI rfl rfl (kA (by omega) gf hBf (mF.trans ⟨fP, iP, vP⟩ ⟨ff, jf, vf0⟩))

end EzMt
