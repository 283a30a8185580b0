/-! The class: line, seal. (Written by wip/p2/py/pv38.py.) -/
/-- what is thrown lies in a cell of its own, without a tag -/
def xc (h : cz_H) (k : Nat) : cz_H := cz_push h 6 (.inr (.inr k))
theorem xc_at {h : cz_H} {k q : Nat} (hq : q ≠ h.1) : (xc h k).2.2 q = h.2.2 q := by
  unfold xc
  show (if q = h.1 then _ else _) = _
  rw [if_neg hq]
theorem xc_exc {τ : Nat → Nat} {h : cz_H} {k : Nat} (hB : ez_B τ h) (hk : Nat.blt k 5 = true) : cz_exc (xc h k) h.1 = some k := by
  have h1 : (xc h k).2.2 h.1 = .inr (.inr k) := by
    unfold xc
    show (if h.1 = h.1 then _ else _) = _
    rw [if_pos rfl]
  have h2 : cz_hereB (xc h k) h.1 = true := by
    unfold cz_hereB
    rw [Bool.and_eq_true, Bool.or_eq_true]
    refine ⟨Nat.blt_eq.mpr (show h.1 < h.1 + 1 by omega), Or.inl (Nat.ble_eq.mpr hB.2.2)⟩
  unfold cz_exc
  rw [h2, h1]
  show (bif k.blt 5 then some k else none) = _
  rw [hk]
  rfl
theorem xc_B {τ : Nat → Nat} {h : cz_H} {k : Nat} (hB : ez_B τ h) (h1 : h.1 + 1 ≤ 600192) (h2 : h.2.1 + 6 ≤ 7302232) : ez_B τ (xc h k) := by
  refine ⟨fun q hq => ?_, (ez_roomp h1 h2).2, Nat.le_succ_of_le hB.2.2⟩
  obtain ⟨a1, ti, a2, a3, a4, a5⟩ := hB.1 q hq
  have hne : q ≠ h.1 := fun e => by have := dz_here_lt a1; omega
  have e := xc_at (k := k) hne
  refine ⟨?_, ti, a2, by rw [e]; exact a3, a4, fun i v hv => a5 i v (by rw [e] at hv; exact hv)⟩
  unfold cz_hereB at a1 ⊢
  rw [Bool.and_eq_true] at a1 ⊢
  exact ⟨Nat.blt_eq.mpr (Nat.lt_succ_of_lt (Nat.blt_eq.mp a1.1)), a1.2⟩
theorem xc_t {τ : Nat → Nat} {h : cz_H} {k : Nat} (hB : ez_B τ h) {q : Nat} (hq : τ q ≠ 0) : (xc h k).2.2 q = h.2.2 q := xc_at (fun e => by have := dz_here_lt (hB.1 q hq).1; omega)
theorem xc_xt {τ : Nat → Nat} {h : cz_H} {k : Nat} (hB : ez_B τ h) : ez_xt τ h τ (xc h k) 1 6 := ⟨fun q hq => ⟨rfl, xc_t hB hq⟩, ⟨Nat.le_succ _, Nat.le_refl _⟩, Nat.le_add_right _ _, Nat.le_refl _⟩
theorem jz_xc {τ : Nat → Nat} {h : cz_H} {k : Nat} {F : rz_W} {E : Int → Prop} (hI : jz_I τ h F E) (h1 : h.1 + 1 ≤ 600192) (h2 : h.2.1 + 6 ≤ 7302232) : jz_I τ (xc h k) F E := by
  have x := xc_xt (k := k) hI.1
  exact jz_no hI (xc_B hI.1 h1 h2) (fz_xt x) (fun j => x.I (by rw [hI.2.1 202 (by decide)]; decide) j) (x.1 203 (by rw [hI.2.1 203 (by decide)]; decide)).2 (x.1 205 (by rw [hI.2.1 205 (by decide)]; decide)).2 (fun q hq => (x.1 q (by rw [hq]; decide)).2)
theorem jx_xc {τ : Nat → Nat} {h : cz_H} {k : Nat} {F : rz_W} {E : Int → Prop} {D : Int → xD} (hI : jz_I τ h F E) (hX : jx τ h D) : jx τ (xc h k) D := by
  have x := xc_xt (k := k) hI.1
  exact jx_tr hI.1 (hI.2.1 202 (by decide)) (hI.2.1 203 (by decide)) hX (x.I (by rw [hI.2.1 202 (by decide)]; decide) 1) (x.1 203 (by rw [hI.2.1 203 (by decide)]; decide)).2 (fun q hq => x.1 q (by omega))
theorem jx_put {τ : Nat → Nat} {h : cz_H} {r i : Nat} {v : cz_V} {F : rz_W} {E : Int → Prop} {D : Int → xD} (hI : jz_I τ h F E) (hX : jx τ h D) (hr : r ≠ 202) (h3 : r ≠ 203) (ht : τ r ≠ 3 ∧ τ r ≠ 4 ∧ τ r ≠ 5 ∧ τ r ≠ 6) : jx τ (dz_put h r i v) D := by
  have fr : ∀ q, q ≠ r → (dz_put h r i v).2.2 q = h.2.2 q := fun q hq => qz_put_at h r i v hq
  exact jx_tr hI.1 (hI.2.1 202 (by decide)) (hI.2.1 203 (by decide)) hX (by unfold qz_I; rw [fr 202 (Ne.symm hr)]) (fr 203 (Ne.symm h3)) (fun q hq => ⟨rfl, fr q (fun e => by rw [e] at hq; omega)⟩)
/-- the same behind a write that is none of its business -/
theorem jz_put {τ : Nat → Nat} {h : cz_H} {r i : Nat} {v : cz_V} {F : rz_W} {E : Int → Prop} (hI : jz_I τ h F E) (hB : ez_B τ (dz_put h r i v)) (hr : r ≠ 202) (h3 : r ≠ 203) (h5 : r ≠ 205) (ht : τ r ≠ 3 ∧ τ r ≠ 4 ∧ τ r ≠ 5 ∧ τ r ≠ 27 ∧ τ r ≠ 28) : jz_I τ (dz_put h r i v) F E := by
  obtain ⟨i1, i2, ⟨i3, i4⟩, i5, i6, i7, i8, Xs, i9, i10⟩ := hI
  have t202 : τ 202 = 48 := i2 202 (by decide)
  have t203 : τ 203 = 49 := i2 203 (by decide)
  have fr : ∀ q, q ≠ r → (dz_put h r i v).2.2 q = h.2.2 q := fun q hq => qz_put_at h r i v hq
  have n : ∀ {q t}, τ q = t → t = 3 ∨ t = 4 ∨ t = 5 ∨ t = 27 ∨ t = 28 → q ≠ r := fun {q t} hq hh e => by rw [e] at hq; omega
  have e202 : ∀ j, qz_I (dz_put h r i v) 202 j = qz_I h 202 j := fun j => by unfold qz_I; rw [fr 202 (Ne.symm hr)]
  have e4 : ∀ q, τ q = 4 → (dz_put h r i v).2.2 q = h.2.2 q := fun q hq => fr q (n hq (by omega))
  obtain ⟨o1, o2⟩ := sz_pe_ok i1 t203 t202 (e202 1) (fr 203 (Ne.symm h3)) e4 i3 i4
  refine ⟨hB, i2, ⟨o1, o2⟩, fun j hj => ?_, by rw [e202, e202]; exact i6, fun s l hl => ?_, ?_, Xs, by rw [e202]; exact i9, i10⟩
  · rw [e202] at hj; unfold qz_I; rw [fr 205 (Ne.symm h5)]; exact i5 j hj
  · obtain ⟨y1, y2, y3⟩ := i7 s l hl
    obtain ⟨z1, z2⟩ := nz_hz i1 i2 s l hl
    have e1 := fr s (n z1 (by omega))
    have e2 := fr _ (n z2 (by omega))
    have e3 : qz_P (dz_put h r i v) s 0 = qz_P h s 0 := by unfold qz_P qz_I; rw [e1]
    refine ⟨?_, y2, by rw [e3]; exact y3⟩
    unfold nz_S at *
    rw [e3]
    unfold qz_N qz_I at *
    rw [e2]
    exact y1
  · refine sz_D_tr i1 t202 t203 i8 (e202 1) (fr 203 (Ne.symm h3)) e4 (fun q hq => ?_) (fun p hp => ⟨hp, fr p (n hp (by omega))⟩)
    unfold qz_I; rw [fr q (n hq (by omega))]; exact ⟨rfl, rfl, rfl, rfl⟩
section EzLn
variable {d : Nat} {h : cz_H} {τ : Nat → Nat} {Q : cz_F → Prop} {F : rz_W} {E : Int → Prop} {D : Int → xD}
theorem rd_reqRange {v lo hi : Int} (v0 : ez_rg v) (l0 : ez_rg lo) (h0 : ez_rg hi) (hr1 : h.1 + 1 ≤ 600192) (hr2 : h.2.1 + 6 ≤ 7302232) (k1 : lo ≤ v → v ≤ hi → Q (.inl none, h)) (k0 : v < lo ∨ hi < v → Q (.inr h.1, xc h 1)) : ez_W (d + 6) cm_32 0 [(0, .inl (v)), (1, .inl (lo)), (2, .inl (hi))] [] h Q := by
  have v1 := v0.1
  have v2 := v0.2
  have l1 := l0.1
  have l2 := l0.2
  have h1 := h0.1
  have h2 := h0.2
  refine ez_go (n := 2) (pc' := 2) (L' := [(0, .inl (v)), (1, .inl (lo)), (2, .inl (hi))]) (st' := [.inl (lo), .inl (v)]) rfl ?_
  refine ez_icmp rfl rfl ⟨by first | omega | exact (sz_i32 _).1, by first | omega | exact (sz_i32 _).2⟩ ⟨by first | omega | exact (sz_i32 _).1, by first | omega | exact (sz_i32 _).2⟩ (fun (c1 : (v) < (lo)) => ?_) (fun (c1 : ¬((v) < (lo))) => ?_)
  · skip
    exact ez_th rfl rfl (by omega) (by omega) (by omega) rfl (k0 (by omega))
  · skip
    refine ez_go (n := 2) (pc' := 7) (L' := [(0, .inl (v)), (1, .inl (lo)), (2, .inl (hi))]) (st' := [.inl (hi), .inl (v)]) rfl ?_
    refine ez_icmp rfl rfl ⟨by first | omega | exact (sz_i32 _).1, by first | omega | exact (sz_i32 _).2⟩ ⟨by first | omega | exact (sz_i32 _).1, by first | omega | exact (sz_i32 _).2⟩ (fun (c2 : (v) ≤ (hi)) => ?_) (fun (c2 : ¬((v) ≤ (hi))) => ?_)
    · skip
      exact ez_ret0 rfl rfl (k1 (by omega) (by omega))
    · skip
      exact ez_th rfl rfl (by omega) (by omega) (by omega) rfl (k0 (by omega))

theorem rd_reqOpen (hB : ez_B τ h) (t192 : τ 192 = 44) (hr1 : h.1 + 1 ≤ 600192) (hr2 : h.2.1 + 6 ≤ 7302232) (k1 : qz_I h 202 6 = 0 → Q (.inl none, h)) (k0 : qz_I h 202 6 ≠ 0 → Q (.inr h.1, xc h 2)) : ez_W (d + 6) cm_30 0 [(0, .inr (.inr (some (192))))] [] h Q := by
  refine ez_go (n := 1) (pc' := 1) (L' := [(0, .inr (.inr (some (192))))]) (st' := [.inr (.inr (some (192)))]) rfl ?_
  refine ez_gC (p := 202) (tg := 48) hB t192 rfl rfl tq_44 rfl rfl (fun (t202 : _ = 48) => ?_)
  refine ez_gI hB t202 rfl rfl tq_48 rfl rfl (fun (b1 : 0 ≤ qz_I h 202 6) (b1' : qz_I h 202 6 ≤ 1) => ?_)
  refine ez_if rfl rfl ⟨by first | omega | exact (sz_i32 _).1, by first | omega | exact (sz_i32 _).2⟩ (fun (c2 : (qz_I h 202 6) = (0)) => ?_) (fun (c2 : ¬((qz_I h 202 6) = (0))) => ?_)
  · skip
    exact ez_ret0 rfl rfl (k1 (by omega))
  · skip
    exact ez_th rfl rfl (by omega) (by omega) (by omega) rfl (k0 (by omega))

theorem rd_line0 (hI : jz_I τ h F E) (hX : jx τ h D) (hl : qz_I h 192 1 = 0 ∨ qz_I h 202 5 ≤ 255) (hr1 : h.1 + 5 ≤ 600192) (hr2 : h.2.1 + 65 ≤ 7302232) (kS : qz_I h 202 6 ≠ 0 → Q (.inr h.1, xc h 2)) (kC : qz_I h 202 6 = 0 → ∀ g τ1 F2 E2 D2, jz_I τ1 g F2 E2 → jx τ1 g D2 → fz τ (dz_put h 192 1 (ez_v (.inl 0))) τ1 g 5 65 → rz_step (rz_b h) (qz_I h 192 1) 0 F E F2 E2 → qz_I g 192 1 = 0 → (∀ j, j ≠ 1 → qz_I g 192 j = qz_I h 192 j) → (qz_I g 202 5 = qz_I h 202 5 ∨ (qz_I g 202 5 = qz_I h 202 5 + 1 ∧ 0 < qz_I h 192 1)) → (∀ j, j ≠ 1 → j ≠ 4 → j ≠ 5 → qz_I g 202 j = qz_I h 202 j) → ∀ o, ((∃ v, o = .inl (some (ez_v (.inl v))) ∧ v ≠ -1 ∧ rz_an (rz_b h) (qz_I h 192 1) 7 (rz_g0 (rz_b h)) v ∧ xsl (rz_b h) (qz_I h 192 1) 0 D v D2) ∨ (∃ r, o = .inr r ∧ cz_exc g r = some 3 ∧ rz_an (rz_b h) (qz_I h 192 1) 7 (rz_g0 (rz_b h)) (-1) ∧ xsl (rz_b h) (qz_I h 192 1) 0 D (-1) D2)) → Q (o, g)) : ez_W (d + 9) cm_21 0 [(0, .inr (.inr (some (192)))), (1, .inl (0))] [] h Q := by
  have t192 : τ 192 = 44 := hI.2.1 192 (by decide)
  refine ez_go (n := 3) (pc' := 3) (L' := [(0, .inr (.inr (some (192)))), (1, .inl (0))]) (st' := [.inl (4), .inl (0), .inl (0)]) rfl ?_
  refine ez_cs hI.1.2.1 rfl rfl rfl rfl rfl (rd_reqRange ⟨by decide, by decide⟩ ⟨by decide, by decide⟩ ⟨by decide, by decide⟩ (by omega) (by omega) (fun _ _ => ez_K0 ?_) (fun w => by omega))
  refine ez_go (n := 1) (pc' := 7) (L' := [(0, .inr (.inr (some (192)))), (1, .inl (0))]) (st' := [.inr (.inr (some (192)))]) rfl ?_
  refine ez_cv hI.1 t192 rfl rfl rfl tq_44 rfl rfl rfl (rd_reqOpen hI.1 t192 (by omega) (by omega) (fun ho => ez_K0 ?_) (fun ho => ez_Kp (xc_exc hI.1 rfl) rfl (kS ho)))
  refine ez_go (n := 1) (pc' := 11) (L' := [(0, .inr (.inr (some (192)))), (1, .inl (0))]) (st' := [.inr (.inr (some (192)))]) rfl ?_
  refine ez_gI hI.1 t192 rfl rfl tq_44 rfl rfl (fun (b1 : 0 ≤ qz_I h 192 1) (b1' : qz_I h 192 1 ≤ 4096) => ?_)
  refine ez_go (n := 3) (pc' := 17) (L' := [(2, .inl (qz_I h 192 1)), (0, .inr (.inr (some (192)))), (1, .inl (0))]) (st' := [.inl (0), .inr (.inr (some (192)))]) rfl ?_
  refine ez_pf hI.1 t192 rfl rfl tq_44 rfl rfl rfl rfl (ez_vdI rfl rfl (by omega) (by omega)) (fun hB2 w3 => ?_)
  refine ez_go (n := 1) (pc' := 21) (L' := [(2, .inl (qz_I h 192 1)), (0, .inr (.inr (some (192)))), (1, .inl (0))]) (st' := [.inr (.inr (some (192)))]) rfl ?_
  refine ez_gC (p := 720) (tg := 52) hB2 t192 rfl rfl tq_44 rfl rfl (fun (t720 : _ = 52) => ?_)
  refine ez_go (n := 2) (pc' := 26) (L' := [(2, .inl (qz_I h 192 1)), (0, .inr (.inr (some (192)))), (1, .inl (0))]) (st' := [.inl (qz_I h 192 1), .inl (0), .inr (.inr (some (720)))]) rfl ?_
  have hI1 : jz_I τ (dz_put h 192 1 (ez_v (.inl (0)))) F E := jz_put hI hB2 (by decide) (by decide) (by decide) (by rw [t192]; decide)
  have hX1 : jx τ (dz_put h 192 1 (ez_v (.inl (0)))) D := jx_put hI hX (by decide) (by decide) (by rw [t192]; decide)
  have q202 : ∀ j, qz_I (dz_put h 192 1 (ez_v (.inl (0)))) 202 j = qz_I h 202 j := fun j => ez_put_I (by omega)
  have b1 : rz_b (dz_put h 192 1 (ez_v (.inl (0)))) = rz_b h := funext fun i => ez_put_I (by omega)
  have z1 : qz_I (dz_put h 192 1 (ez_v (.inl (0)))) 192 1 = 0 := by rw [w3]; rfl
  have zj : ∀ j, j ≠ 1 → qz_I (dz_put h 192 1 (ez_v (.inl (0)))) 192 j = qz_I h 192 j := fun j hj => ez_put_I (fun w => hj w.2)
  have c1 : ((dz_put h 192 1 (ez_v (.inl (0))))).1 = h.1 := rfl
  have c2 : ((dz_put h 192 1 (ez_v (.inl (0))))).2.1 = h.2.1 := rfl
  have kk := kC ho
  generalize (dz_put h 192 1 (ez_v (.inl (0)))) = h1 at *
  refine ez_cv hI1.1 t720 rfl rfl rfl tq_52 rfl rfl rfl (rd_take0 hI1 hX1 (by omega) (by omega) (by rw [q202]; exact hl) (by omega) (by omega) (fun g τ1 F2 E2 v D2 hI2 x st hv ho2 hans hxs hX2 => ez_K1 ?_))
  rw [b1] at st hans hxs
  have u192 : τ1 192 = 44 := hI2.2.1 192 (by decide)
  have xc2 := x.2
  have q5 := q202 5
  have a192 : ∀ j, qz_I g 192 j = qz_I h1 192 j := fun j => by unfold qz_I; rw [(x.1 192 (by rw [t192]; decide)).2 (by rw [t192]; rfl)]
  refine ez_go (n := 3) (pc' := 32) (L' := [(3, .inl (v)), (2, .inl (qz_I h 192 1)), (0, .inr (.inr (some (192)))), (1, .inl (0))]) (st' := [.inl (-1), .inl (v)]) rfl ?_
  refine ez_icmp rfl rfl ⟨by first | omega | exact (sz_i32 _).1, by first | omega | exact (sz_i32 _).2⟩ ⟨by first | omega | exact (sz_i32 _).1, by first | omega | exact (sz_i32 _).2⟩ (fun (c4 : (v) ≠ (-1)) => ?_) (fun (c4 : ¬((v) ≠ (-1))) => ?_)
  · skip
    refine ez_go (n := 1) (pc' := 44) (L' := [(3, .inl (v)), (2, .inl (qz_I h 192 1)), (0, .inr (.inr (some (192)))), (1, .inl (0))]) (st' := [.inl (v)]) rfl ?_
    exact ez_retI rfl rfl (kk g τ1 F2 E2 D2 hI2 hX2 (x.mono (by omega) (by omega)) st ((a192 1).trans z1) (fun j hj => (a192 j).trans (zj j hj)) (by omega) (fun j j1 j4 j5 => by rw [ho2 j j1 j4 j5, q202]) _ (Or.inl ⟨v, rfl, by omega, hans, hxs⟩))
  · skip
    refine ez_th rfl rfl (by omega) (by omega) (by omega) rfl ?_
    exact kk (xc g 3) τ1 F2 E2 D2 (jz_xc hI2 (by omega) (by omega)) (jx_xc hI2 hX2) ((x.trans (fz_xt (xc_xt hI2.1))).mono (by omega) (by omega)) st ((xc_xt hI2.1).I (by rw [u192]; decide) 1 |>.trans ((a192 1).trans z1)) (fun j hj => ((xc_xt hI2.1).I (by rw [u192]; decide) j).trans ((a192 j).trans (zj j hj))) (Or.inl (by rw [(xc_xt hI2.1).I (by rw [hI2.2.1 202 (by decide)]; decide)]; omega)) (fun j j1 j4 j5 => by rw [(xc_xt hI2.1).I (by rw [hI2.2.1 202 (by decide)]; decide), ho2 j j1 j4 j5, q202]) _ (Or.inr ⟨g.1, rfl, xc_exc hI2.1 rfl, by rw [show v = -1 by omega] at hans; exact hans, by rw [show v = -1 by omega] at hxs; exact hxs⟩)

theorem rd_line1 (hI : jz_I τ h F E) (hX : jx τ h D) (hl : qz_I h 192 1 = 0 ∨ qz_I h 202 5 ≤ 255) (hr1 : h.1 + 5 ≤ 600192) (hr2 : h.2.1 + 65 ≤ 7302232) (kS : qz_I h 202 6 ≠ 0 → Q (.inr h.1, xc h 2)) (kC : qz_I h 202 6 = 0 → ∀ g τ1 F2 E2 D2, jz_I τ1 g F2 E2 → jx τ1 g D2 → fz τ (dz_put h 192 1 (ez_v (.inl 0))) τ1 g 5 65 → rz_step (rz_b h) (qz_I h 192 1) 1 F E F2 E2 → qz_I g 192 1 = 0 → (∀ j, j ≠ 1 → qz_I g 192 j = qz_I h 192 j) → (qz_I g 202 5 = qz_I h 202 5 ∨ (qz_I g 202 5 = qz_I h 202 5 + 1 ∧ 0 < qz_I h 192 1)) → (∀ j, j ≠ 1 → j ≠ 4 → j ≠ 5 → qz_I g 202 j = qz_I h 202 j) → ∀ o, ((∃ v, o = .inl (some (ez_v (.inl v))) ∧ v ≠ -1 ∧ rz_an (rz_b h) (qz_I h 192 1) 5 (rz_g1 (rz_b h)) v ∧ xsl (rz_b h) (qz_I h 192 1) 1 D v D2) ∨ (∃ r, o = .inr r ∧ cz_exc g r = some 3 ∧ rz_an (rz_b h) (qz_I h 192 1) 5 (rz_g1 (rz_b h)) (-1) ∧ xsl (rz_b h) (qz_I h 192 1) 1 D (-1) D2)) → Q (o, g)) : ez_W (d + 9) cm_21 0 [(0, .inr (.inr (some (192)))), (1, .inl (1))] [] h Q := by
  have t192 : τ 192 = 44 := hI.2.1 192 (by decide)
  refine ez_go (n := 3) (pc' := 3) (L' := [(0, .inr (.inr (some (192)))), (1, .inl (1))]) (st' := [.inl (4), .inl (0), .inl (1)]) rfl ?_
  refine ez_cs hI.1.2.1 rfl rfl rfl rfl rfl (rd_reqRange ⟨by decide, by decide⟩ ⟨by decide, by decide⟩ ⟨by decide, by decide⟩ (by omega) (by omega) (fun _ _ => ez_K0 ?_) (fun w => by omega))
  refine ez_go (n := 1) (pc' := 7) (L' := [(0, .inr (.inr (some (192)))), (1, .inl (1))]) (st' := [.inr (.inr (some (192)))]) rfl ?_
  refine ez_cv hI.1 t192 rfl rfl rfl tq_44 rfl rfl rfl (rd_reqOpen hI.1 t192 (by omega) (by omega) (fun ho => ez_K0 ?_) (fun ho => ez_Kp (xc_exc hI.1 rfl) rfl (kS ho)))
  refine ez_go (n := 1) (pc' := 11) (L' := [(0, .inr (.inr (some (192)))), (1, .inl (1))]) (st' := [.inr (.inr (some (192)))]) rfl ?_
  refine ez_gI hI.1 t192 rfl rfl tq_44 rfl rfl (fun (b1 : 0 ≤ qz_I h 192 1) (b1' : qz_I h 192 1 ≤ 4096) => ?_)
  refine ez_go (n := 3) (pc' := 17) (L' := [(2, .inl (qz_I h 192 1)), (0, .inr (.inr (some (192)))), (1, .inl (1))]) (st' := [.inl (0), .inr (.inr (some (192)))]) rfl ?_
  refine ez_pf hI.1 t192 rfl rfl tq_44 rfl rfl rfl rfl (ez_vdI rfl rfl (by omega) (by omega)) (fun hB2 w3 => ?_)
  refine ez_go (n := 1) (pc' := 21) (L' := [(2, .inl (qz_I h 192 1)), (0, .inr (.inr (some (192)))), (1, .inl (1))]) (st' := [.inr (.inr (some (192)))]) rfl ?_
  refine ez_gC (p := 720) (tg := 52) hB2 t192 rfl rfl tq_44 rfl rfl (fun (t720 : _ = 52) => ?_)
  refine ez_go (n := 2) (pc' := 26) (L' := [(2, .inl (qz_I h 192 1)), (0, .inr (.inr (some (192)))), (1, .inl (1))]) (st' := [.inl (qz_I h 192 1), .inl (1), .inr (.inr (some (720)))]) rfl ?_
  have hI1 : jz_I τ (dz_put h 192 1 (ez_v (.inl (0)))) F E := jz_put hI hB2 (by decide) (by decide) (by decide) (by rw [t192]; decide)
  have hX1 : jx τ (dz_put h 192 1 (ez_v (.inl (0)))) D := jx_put hI hX (by decide) (by decide) (by rw [t192]; decide)
  have q202 : ∀ j, qz_I (dz_put h 192 1 (ez_v (.inl (0)))) 202 j = qz_I h 202 j := fun j => ez_put_I (by omega)
  have b1 : rz_b (dz_put h 192 1 (ez_v (.inl (0)))) = rz_b h := funext fun i => ez_put_I (by omega)
  have z1 : qz_I (dz_put h 192 1 (ez_v (.inl (0)))) 192 1 = 0 := by rw [w3]; rfl
  have zj : ∀ j, j ≠ 1 → qz_I (dz_put h 192 1 (ez_v (.inl (0)))) 192 j = qz_I h 192 j := fun j hj => ez_put_I (fun w => hj w.2)
  have c1 : ((dz_put h 192 1 (ez_v (.inl (0))))).1 = h.1 := rfl
  have c2 : ((dz_put h 192 1 (ez_v (.inl (0))))).2.1 = h.2.1 := rfl
  have kk := kC ho
  generalize (dz_put h 192 1 (ez_v (.inl (0)))) = h1 at *
  refine ez_cv hI1.1 t720 rfl rfl rfl tq_52 rfl rfl rfl (rd_take1 hI1 hX1 (by omega) (by omega) (by rw [q202]; exact hl) (by omega) (by omega) (fun g τ1 F2 E2 v D2 hI2 x st hv ho2 hans hxs hX2 => ez_K1 ?_))
  rw [b1] at st hans hxs
  have u192 : τ1 192 = 44 := hI2.2.1 192 (by decide)
  have xc2 := x.2
  have q5 := q202 5
  have a192 : ∀ j, qz_I g 192 j = qz_I h1 192 j := fun j => by unfold qz_I; rw [(x.1 192 (by rw [t192]; decide)).2 (by rw [t192]; rfl)]
  refine ez_go (n := 3) (pc' := 32) (L' := [(3, .inl (v)), (2, .inl (qz_I h 192 1)), (0, .inr (.inr (some (192)))), (1, .inl (1))]) (st' := [.inl (-1), .inl (v)]) rfl ?_
  refine ez_icmp rfl rfl ⟨by first | omega | exact (sz_i32 _).1, by first | omega | exact (sz_i32 _).2⟩ ⟨by first | omega | exact (sz_i32 _).1, by first | omega | exact (sz_i32 _).2⟩ (fun (c4 : (v) ≠ (-1)) => ?_) (fun (c4 : ¬((v) ≠ (-1))) => ?_)
  · skip
    refine ez_go (n := 1) (pc' := 44) (L' := [(3, .inl (v)), (2, .inl (qz_I h 192 1)), (0, .inr (.inr (some (192)))), (1, .inl (1))]) (st' := [.inl (v)]) rfl ?_
    exact ez_retI rfl rfl (kk g τ1 F2 E2 D2 hI2 hX2 (x.mono (by omega) (by omega)) st ((a192 1).trans z1) (fun j hj => (a192 j).trans (zj j hj)) (by omega) (fun j j1 j4 j5 => by rw [ho2 j j1 j4 j5, q202]) _ (Or.inl ⟨v, rfl, by omega, hans, hxs⟩))
  · skip
    refine ez_th rfl rfl (by omega) (by omega) (by omega) rfl ?_
    exact kk (xc g 3) τ1 F2 E2 D2 (jz_xc hI2 (by omega) (by omega)) (jx_xc hI2 hX2) ((x.trans (fz_xt (xc_xt hI2.1))).mono (by omega) (by omega)) st ((xc_xt hI2.1).I (by rw [u192]; decide) 1 |>.trans ((a192 1).trans z1)) (fun j hj => ((xc_xt hI2.1).I (by rw [u192]; decide) j).trans ((a192 j).trans (zj j hj))) (Or.inl (by rw [(xc_xt hI2.1).I (by rw [hI2.2.1 202 (by decide)]; decide)]; omega)) (fun j j1 j4 j5 => by rw [(xc_xt hI2.1).I (by rw [hI2.2.1 202 (by decide)]; decide), ho2 j j1 j4 j5, q202]) _ (Or.inr ⟨g.1, rfl, xc_exc hI2.1 rfl, by rw [show v = -1 by omega] at hans; exact hans, by rw [show v = -1 by omega] at hxs; exact hxs⟩)

theorem rd_line2 (hI : jz_I τ h F E) (hX : jx τ h D) (hl : qz_I h 192 1 = 0 ∨ qz_I h 202 5 ≤ 255) (hr1 : h.1 + 5 ≤ 600192) (hr2 : h.2.1 + 65 ≤ 7302232) (kS : qz_I h 202 6 ≠ 0 → Q (.inr h.1, xc h 2)) (kC : qz_I h 202 6 = 0 → ∀ g τ1 F2 E2 D2, jz_I τ1 g F2 E2 → jx τ1 g D2 → fz τ (dz_put h 192 1 (ez_v (.inl 0))) τ1 g 5 65 → rz_step (rz_b h) (qz_I h 192 1) 2 F E F2 E2 → qz_I g 192 1 = 0 → (∀ j, j ≠ 1 → qz_I g 192 j = qz_I h 192 j) → (qz_I g 202 5 = qz_I h 202 5 ∨ (qz_I g 202 5 = qz_I h 202 5 + 1 ∧ 0 < qz_I h 192 1)) → (∀ j, j ≠ 1 → j ≠ 4 → j ≠ 5 → qz_I g 202 j = qz_I h 202 j) → ∀ o, ((∃ v, o = .inl (some (ez_v (.inl v))) ∧ v ≠ -1 ∧ rz_an (rz_b h) (qz_I h 192 1) 3 (rz_g2 (rz_b h)) v ∧ xsl (rz_b h) (qz_I h 192 1) 2 D v D2) ∨ (∃ r, o = .inr r ∧ cz_exc g r = some 3 ∧ rz_an (rz_b h) (qz_I h 192 1) 3 (rz_g2 (rz_b h)) (-1) ∧ xsl (rz_b h) (qz_I h 192 1) 2 D (-1) D2)) → Q (o, g)) : ez_W (d + 9) cm_21 0 [(0, .inr (.inr (some (192)))), (1, .inl (2))] [] h Q := by
  have t192 : τ 192 = 44 := hI.2.1 192 (by decide)
  refine ez_go (n := 3) (pc' := 3) (L' := [(0, .inr (.inr (some (192)))), (1, .inl (2))]) (st' := [.inl (4), .inl (0), .inl (2)]) rfl ?_
  refine ez_cs hI.1.2.1 rfl rfl rfl rfl rfl (rd_reqRange ⟨by decide, by decide⟩ ⟨by decide, by decide⟩ ⟨by decide, by decide⟩ (by omega) (by omega) (fun _ _ => ez_K0 ?_) (fun w => by omega))
  refine ez_go (n := 1) (pc' := 7) (L' := [(0, .inr (.inr (some (192)))), (1, .inl (2))]) (st' := [.inr (.inr (some (192)))]) rfl ?_
  refine ez_cv hI.1 t192 rfl rfl rfl tq_44 rfl rfl rfl (rd_reqOpen hI.1 t192 (by omega) (by omega) (fun ho => ez_K0 ?_) (fun ho => ez_Kp (xc_exc hI.1 rfl) rfl (kS ho)))
  refine ez_go (n := 1) (pc' := 11) (L' := [(0, .inr (.inr (some (192)))), (1, .inl (2))]) (st' := [.inr (.inr (some (192)))]) rfl ?_
  refine ez_gI hI.1 t192 rfl rfl tq_44 rfl rfl (fun (b1 : 0 ≤ qz_I h 192 1) (b1' : qz_I h 192 1 ≤ 4096) => ?_)
  refine ez_go (n := 3) (pc' := 17) (L' := [(2, .inl (qz_I h 192 1)), (0, .inr (.inr (some (192)))), (1, .inl (2))]) (st' := [.inl (0), .inr (.inr (some (192)))]) rfl ?_
  refine ez_pf hI.1 t192 rfl rfl tq_44 rfl rfl rfl rfl (ez_vdI rfl rfl (by omega) (by omega)) (fun hB2 w3 => ?_)
  refine ez_go (n := 1) (pc' := 21) (L' := [(2, .inl (qz_I h 192 1)), (0, .inr (.inr (some (192)))), (1, .inl (2))]) (st' := [.inr (.inr (some (192)))]) rfl ?_
  refine ez_gC (p := 720) (tg := 52) hB2 t192 rfl rfl tq_44 rfl rfl (fun (t720 : _ = 52) => ?_)
  refine ez_go (n := 2) (pc' := 26) (L' := [(2, .inl (qz_I h 192 1)), (0, .inr (.inr (some (192)))), (1, .inl (2))]) (st' := [.inl (qz_I h 192 1), .inl (2), .inr (.inr (some (720)))]) rfl ?_
  have hI1 : jz_I τ (dz_put h 192 1 (ez_v (.inl (0)))) F E := jz_put hI hB2 (by decide) (by decide) (by decide) (by rw [t192]; decide)
  have hX1 : jx τ (dz_put h 192 1 (ez_v (.inl (0)))) D := jx_put hI hX (by decide) (by decide) (by rw [t192]; decide)
  have q202 : ∀ j, qz_I (dz_put h 192 1 (ez_v (.inl (0)))) 202 j = qz_I h 202 j := fun j => ez_put_I (by omega)
  have b1 : rz_b (dz_put h 192 1 (ez_v (.inl (0)))) = rz_b h := funext fun i => ez_put_I (by omega)
  have z1 : qz_I (dz_put h 192 1 (ez_v (.inl (0)))) 192 1 = 0 := by rw [w3]; rfl
  have zj : ∀ j, j ≠ 1 → qz_I (dz_put h 192 1 (ez_v (.inl (0)))) 192 j = qz_I h 192 j := fun j hj => ez_put_I (fun w => hj w.2)
  have c1 : ((dz_put h 192 1 (ez_v (.inl (0))))).1 = h.1 := rfl
  have c2 : ((dz_put h 192 1 (ez_v (.inl (0))))).2.1 = h.2.1 := rfl
  have kk := kC ho
  generalize (dz_put h 192 1 (ez_v (.inl (0)))) = h1 at *
  refine ez_cv hI1.1 t720 rfl rfl rfl tq_52 rfl rfl rfl (rd_take2 hI1 hX1 (by omega) (by omega) (by rw [q202]; exact hl) (by omega) (by omega) (fun g τ1 F2 E2 v D2 hI2 x st hv ho2 hans hxs hX2 => ez_K1 ?_))
  rw [b1] at st hans hxs
  have u192 : τ1 192 = 44 := hI2.2.1 192 (by decide)
  have xc2 := x.2
  have q5 := q202 5
  have a192 : ∀ j, qz_I g 192 j = qz_I h1 192 j := fun j => by unfold qz_I; rw [(x.1 192 (by rw [t192]; decide)).2 (by rw [t192]; rfl)]
  refine ez_go (n := 3) (pc' := 32) (L' := [(3, .inl (v)), (2, .inl (qz_I h 192 1)), (0, .inr (.inr (some (192)))), (1, .inl (2))]) (st' := [.inl (-1), .inl (v)]) rfl ?_
  refine ez_icmp rfl rfl ⟨by first | omega | exact (sz_i32 _).1, by first | omega | exact (sz_i32 _).2⟩ ⟨by first | omega | exact (sz_i32 _).1, by first | omega | exact (sz_i32 _).2⟩ (fun (c4 : (v) ≠ (-1)) => ?_) (fun (c4 : ¬((v) ≠ (-1))) => ?_)
  · skip
    refine ez_go (n := 1) (pc' := 44) (L' := [(3, .inl (v)), (2, .inl (qz_I h 192 1)), (0, .inr (.inr (some (192)))), (1, .inl (2))]) (st' := [.inl (v)]) rfl ?_
    exact ez_retI rfl rfl (kk g τ1 F2 E2 D2 hI2 hX2 (x.mono (by omega) (by omega)) st ((a192 1).trans z1) (fun j hj => (a192 j).trans (zj j hj)) (by omega) (fun j j1 j4 j5 => by rw [ho2 j j1 j4 j5, q202]) _ (Or.inl ⟨v, rfl, by omega, hans, hxs⟩))
  · skip
    refine ez_th rfl rfl (by omega) (by omega) (by omega) rfl ?_
    exact kk (xc g 3) τ1 F2 E2 D2 (jz_xc hI2 (by omega) (by omega)) (jx_xc hI2 hX2) ((x.trans (fz_xt (xc_xt hI2.1))).mono (by omega) (by omega)) st ((xc_xt hI2.1).I (by rw [u192]; decide) 1 |>.trans ((a192 1).trans z1)) (fun j hj => ((xc_xt hI2.1).I (by rw [u192]; decide) j).trans ((a192 j).trans (zj j hj))) (Or.inl (by rw [(xc_xt hI2.1).I (by rw [hI2.2.1 202 (by decide)]; decide)]; omega)) (fun j j1 j4 j5 => by rw [(xc_xt hI2.1).I (by rw [hI2.2.1 202 (by decide)]; decide), ho2 j j1 j4 j5, q202]) _ (Or.inr ⟨g.1, rfl, xc_exc hI2.1 rfl, by rw [show v = -1 by omega] at hans; exact hans, by rw [show v = -1 by omega] at hxs; exact hxs⟩)

theorem rd_line3 (hI : jz_I τ h F E) (hX : jx τ h D) (hl : qz_I h 192 1 = 0 ∨ qz_I h 202 5 ≤ 255) (hr1 : h.1 + 5 ≤ 600192) (hr2 : h.2.1 + 65 ≤ 7302232) (kS : qz_I h 202 6 ≠ 0 → Q (.inr h.1, xc h 2)) (kC : qz_I h 202 6 = 0 → ∀ g τ1 F2 E2 D2, jz_I τ1 g F2 E2 → jx τ1 g D2 → fz τ (dz_put h 192 1 (ez_v (.inl 0))) τ1 g 5 65 → rz_step (rz_b h) (qz_I h 192 1) 3 F E F2 E2 → qz_I g 192 1 = 0 → (∀ j, j ≠ 1 → qz_I g 192 j = qz_I h 192 j) → (qz_I g 202 5 = qz_I h 202 5 ∨ (qz_I g 202 5 = qz_I h 202 5 + 1 ∧ 0 < qz_I h 192 1)) → (∀ j, j ≠ 1 → j ≠ 4 → j ≠ 5 → qz_I g 202 j = qz_I h 202 j) → ∀ o, ((∃ v, o = .inl (some (ez_v (.inl v))) ∧ v ≠ -1 ∧ rz_an (rz_b h) (qz_I h 192 1) 2 (rz_g3 (rz_b h)) v ∧ xsl (rz_b h) (qz_I h 192 1) 3 D v D2) ∨ (∃ r, o = .inr r ∧ cz_exc g r = some 3 ∧ rz_an (rz_b h) (qz_I h 192 1) 2 (rz_g3 (rz_b h)) (-1) ∧ xsl (rz_b h) (qz_I h 192 1) 3 D (-1) D2)) → Q (o, g)) : ez_W (d + 9) cm_21 0 [(0, .inr (.inr (some (192)))), (1, .inl (3))] [] h Q := by
  have t192 : τ 192 = 44 := hI.2.1 192 (by decide)
  refine ez_go (n := 3) (pc' := 3) (L' := [(0, .inr (.inr (some (192)))), (1, .inl (3))]) (st' := [.inl (4), .inl (0), .inl (3)]) rfl ?_
  refine ez_cs hI.1.2.1 rfl rfl rfl rfl rfl (rd_reqRange ⟨by decide, by decide⟩ ⟨by decide, by decide⟩ ⟨by decide, by decide⟩ (by omega) (by omega) (fun _ _ => ez_K0 ?_) (fun w => by omega))
  refine ez_go (n := 1) (pc' := 7) (L' := [(0, .inr (.inr (some (192)))), (1, .inl (3))]) (st' := [.inr (.inr (some (192)))]) rfl ?_
  refine ez_cv hI.1 t192 rfl rfl rfl tq_44 rfl rfl rfl (rd_reqOpen hI.1 t192 (by omega) (by omega) (fun ho => ez_K0 ?_) (fun ho => ez_Kp (xc_exc hI.1 rfl) rfl (kS ho)))
  refine ez_go (n := 1) (pc' := 11) (L' := [(0, .inr (.inr (some (192)))), (1, .inl (3))]) (st' := [.inr (.inr (some (192)))]) rfl ?_
  refine ez_gI hI.1 t192 rfl rfl tq_44 rfl rfl (fun (b1 : 0 ≤ qz_I h 192 1) (b1' : qz_I h 192 1 ≤ 4096) => ?_)
  refine ez_go (n := 3) (pc' := 17) (L' := [(2, .inl (qz_I h 192 1)), (0, .inr (.inr (some (192)))), (1, .inl (3))]) (st' := [.inl (0), .inr (.inr (some (192)))]) rfl ?_
  refine ez_pf hI.1 t192 rfl rfl tq_44 rfl rfl rfl rfl (ez_vdI rfl rfl (by omega) (by omega)) (fun hB2 w3 => ?_)
  refine ez_go (n := 1) (pc' := 21) (L' := [(2, .inl (qz_I h 192 1)), (0, .inr (.inr (some (192)))), (1, .inl (3))]) (st' := [.inr (.inr (some (192)))]) rfl ?_
  refine ez_gC (p := 720) (tg := 52) hB2 t192 rfl rfl tq_44 rfl rfl (fun (t720 : _ = 52) => ?_)
  refine ez_go (n := 2) (pc' := 26) (L' := [(2, .inl (qz_I h 192 1)), (0, .inr (.inr (some (192)))), (1, .inl (3))]) (st' := [.inl (qz_I h 192 1), .inl (3), .inr (.inr (some (720)))]) rfl ?_
  have hI1 : jz_I τ (dz_put h 192 1 (ez_v (.inl (0)))) F E := jz_put hI hB2 (by decide) (by decide) (by decide) (by rw [t192]; decide)
  have hX1 : jx τ (dz_put h 192 1 (ez_v (.inl (0)))) D := jx_put hI hX (by decide) (by decide) (by rw [t192]; decide)
  have q202 : ∀ j, qz_I (dz_put h 192 1 (ez_v (.inl (0)))) 202 j = qz_I h 202 j := fun j => ez_put_I (by omega)
  have b1 : rz_b (dz_put h 192 1 (ez_v (.inl (0)))) = rz_b h := funext fun i => ez_put_I (by omega)
  have z1 : qz_I (dz_put h 192 1 (ez_v (.inl (0)))) 192 1 = 0 := by rw [w3]; rfl
  have zj : ∀ j, j ≠ 1 → qz_I (dz_put h 192 1 (ez_v (.inl (0)))) 192 j = qz_I h 192 j := fun j hj => ez_put_I (fun w => hj w.2)
  have c1 : ((dz_put h 192 1 (ez_v (.inl (0))))).1 = h.1 := rfl
  have c2 : ((dz_put h 192 1 (ez_v (.inl (0))))).2.1 = h.2.1 := rfl
  have kk := kC ho
  generalize (dz_put h 192 1 (ez_v (.inl (0)))) = h1 at *
  refine ez_cv hI1.1 t720 rfl rfl rfl tq_52 rfl rfl rfl (rd_take3 hI1 hX1 (by omega) (by omega) (by rw [q202]; exact hl) (by omega) (by omega) (fun g τ1 F2 E2 v D2 hI2 x st hv ho2 hans hxs hX2 => ez_K1 ?_))
  rw [b1] at st hans hxs
  have u192 : τ1 192 = 44 := hI2.2.1 192 (by decide)
  have xc2 := x.2
  have q5 := q202 5
  have a192 : ∀ j, qz_I g 192 j = qz_I h1 192 j := fun j => by unfold qz_I; rw [(x.1 192 (by rw [t192]; decide)).2 (by rw [t192]; rfl)]
  refine ez_go (n := 3) (pc' := 32) (L' := [(3, .inl (v)), (2, .inl (qz_I h 192 1)), (0, .inr (.inr (some (192)))), (1, .inl (3))]) (st' := [.inl (-1), .inl (v)]) rfl ?_
  refine ez_icmp rfl rfl ⟨by first | omega | exact (sz_i32 _).1, by first | omega | exact (sz_i32 _).2⟩ ⟨by first | omega | exact (sz_i32 _).1, by first | omega | exact (sz_i32 _).2⟩ (fun (c4 : (v) ≠ (-1)) => ?_) (fun (c4 : ¬((v) ≠ (-1))) => ?_)
  · skip
    refine ez_go (n := 1) (pc' := 44) (L' := [(3, .inl (v)), (2, .inl (qz_I h 192 1)), (0, .inr (.inr (some (192)))), (1, .inl (3))]) (st' := [.inl (v)]) rfl ?_
    exact ez_retI rfl rfl (kk g τ1 F2 E2 D2 hI2 hX2 (x.mono (by omega) (by omega)) st ((a192 1).trans z1) (fun j hj => (a192 j).trans (zj j hj)) (by omega) (fun j j1 j4 j5 => by rw [ho2 j j1 j4 j5, q202]) _ (Or.inl ⟨v, rfl, by omega, hans, hxs⟩))
  · skip
    refine ez_th rfl rfl (by omega) (by omega) (by omega) rfl ?_
    exact kk (xc g 3) τ1 F2 E2 D2 (jz_xc hI2 (by omega) (by omega)) (jx_xc hI2 hX2) ((x.trans (fz_xt (xc_xt hI2.1))).mono (by omega) (by omega)) st ((xc_xt hI2.1).I (by rw [u192]; decide) 1 |>.trans ((a192 1).trans z1)) (fun j hj => ((xc_xt hI2.1).I (by rw [u192]; decide) j).trans ((a192 j).trans (zj j hj))) (Or.inl (by rw [(xc_xt hI2.1).I (by rw [hI2.2.1 202 (by decide)]; decide)]; omega)) (fun j j1 j4 j5 => by rw [(xc_xt hI2.1).I (by rw [hI2.2.1 202 (by decide)]; decide), ho2 j j1 j4 j5, q202]) _ (Or.inr ⟨g.1, rfl, xc_exc hI2.1 rfl, by rw [show v = -1 by omega] at hans; exact hans, by rw [show v = -1 by omega] at hxs; exact hxs⟩)

theorem rd_line4 (hI : jz_I τ h F E) (hX : jx τ h D) (hl : qz_I h 192 1 = 0 ∨ qz_I h 202 5 ≤ 255) (hr1 : h.1 + 5 ≤ 600192) (hr2 : h.2.1 + 65 ≤ 7302232) (kS : qz_I h 202 6 ≠ 0 → Q (.inr h.1, xc h 2)) (kC : qz_I h 202 6 = 0 → ∀ g τ1 F2 E2 D2, jz_I τ1 g F2 E2 → jx τ1 g D2 → fz τ (dz_put h 192 1 (ez_v (.inl 0))) τ1 g 5 65 → rz_step (rz_b h) (qz_I h 192 1) 4 F E F2 E2 → qz_I g 192 1 = 0 → (∀ j, j ≠ 1 → qz_I g 192 j = qz_I h 192 j) → (qz_I g 202 5 = qz_I h 202 5 ∨ (qz_I g 202 5 = qz_I h 202 5 + 1 ∧ 0 < qz_I h 192 1)) → (∀ j, j ≠ 1 → j ≠ 4 → j ≠ 5 → qz_I g 202 j = qz_I h 202 j) → ∀ o, ((∃ v, o = .inl (some (ez_v (.inl v))) ∧ v ≠ -1 ∧ rz_an (rz_b h) (qz_I h 192 1) 2 (rz_g4 (rz_b h)) v ∧ xsl (rz_b h) (qz_I h 192 1) 4 D v D2) ∨ (∃ r, o = .inr r ∧ cz_exc g r = some 3 ∧ rz_an (rz_b h) (qz_I h 192 1) 2 (rz_g4 (rz_b h)) (-1) ∧ xsl (rz_b h) (qz_I h 192 1) 4 D (-1) D2)) → Q (o, g)) : ez_W (d + 9) cm_21 0 [(0, .inr (.inr (some (192)))), (1, .inl (4))] [] h Q := by
  have t192 : τ 192 = 44 := hI.2.1 192 (by decide)
  refine ez_go (n := 3) (pc' := 3) (L' := [(0, .inr (.inr (some (192)))), (1, .inl (4))]) (st' := [.inl (4), .inl (0), .inl (4)]) rfl ?_
  refine ez_cs hI.1.2.1 rfl rfl rfl rfl rfl (rd_reqRange ⟨by decide, by decide⟩ ⟨by decide, by decide⟩ ⟨by decide, by decide⟩ (by omega) (by omega) (fun _ _ => ez_K0 ?_) (fun w => by omega))
  refine ez_go (n := 1) (pc' := 7) (L' := [(0, .inr (.inr (some (192)))), (1, .inl (4))]) (st' := [.inr (.inr (some (192)))]) rfl ?_
  refine ez_cv hI.1 t192 rfl rfl rfl tq_44 rfl rfl rfl (rd_reqOpen hI.1 t192 (by omega) (by omega) (fun ho => ez_K0 ?_) (fun ho => ez_Kp (xc_exc hI.1 rfl) rfl (kS ho)))
  refine ez_go (n := 1) (pc' := 11) (L' := [(0, .inr (.inr (some (192)))), (1, .inl (4))]) (st' := [.inr (.inr (some (192)))]) rfl ?_
  refine ez_gI hI.1 t192 rfl rfl tq_44 rfl rfl (fun (b1 : 0 ≤ qz_I h 192 1) (b1' : qz_I h 192 1 ≤ 4096) => ?_)
  refine ez_go (n := 3) (pc' := 17) (L' := [(2, .inl (qz_I h 192 1)), (0, .inr (.inr (some (192)))), (1, .inl (4))]) (st' := [.inl (0), .inr (.inr (some (192)))]) rfl ?_
  refine ez_pf hI.1 t192 rfl rfl tq_44 rfl rfl rfl rfl (ez_vdI rfl rfl (by omega) (by omega)) (fun hB2 w3 => ?_)
  refine ez_go (n := 1) (pc' := 21) (L' := [(2, .inl (qz_I h 192 1)), (0, .inr (.inr (some (192)))), (1, .inl (4))]) (st' := [.inr (.inr (some (192)))]) rfl ?_
  refine ez_gC (p := 720) (tg := 52) hB2 t192 rfl rfl tq_44 rfl rfl (fun (t720 : _ = 52) => ?_)
  refine ez_go (n := 2) (pc' := 26) (L' := [(2, .inl (qz_I h 192 1)), (0, .inr (.inr (some (192)))), (1, .inl (4))]) (st' := [.inl (qz_I h 192 1), .inl (4), .inr (.inr (some (720)))]) rfl ?_
  have hI1 : jz_I τ (dz_put h 192 1 (ez_v (.inl (0)))) F E := jz_put hI hB2 (by decide) (by decide) (by decide) (by rw [t192]; decide)
  have hX1 : jx τ (dz_put h 192 1 (ez_v (.inl (0)))) D := jx_put hI hX (by decide) (by decide) (by rw [t192]; decide)
  have q202 : ∀ j, qz_I (dz_put h 192 1 (ez_v (.inl (0)))) 202 j = qz_I h 202 j := fun j => ez_put_I (by omega)
  have b1 : rz_b (dz_put h 192 1 (ez_v (.inl (0)))) = rz_b h := funext fun i => ez_put_I (by omega)
  have z1 : qz_I (dz_put h 192 1 (ez_v (.inl (0)))) 192 1 = 0 := by rw [w3]; rfl
  have zj : ∀ j, j ≠ 1 → qz_I (dz_put h 192 1 (ez_v (.inl (0)))) 192 j = qz_I h 192 j := fun j hj => ez_put_I (fun w => hj w.2)
  have c1 : ((dz_put h 192 1 (ez_v (.inl (0))))).1 = h.1 := rfl
  have c2 : ((dz_put h 192 1 (ez_v (.inl (0))))).2.1 = h.2.1 := rfl
  have kk := kC ho
  generalize (dz_put h 192 1 (ez_v (.inl (0)))) = h1 at *
  refine ez_cv hI1.1 t720 rfl rfl rfl tq_52 rfl rfl rfl (rd_take4 hI1 hX1 (by omega) (by omega) (by rw [q202]; exact hl) (by omega) (by omega) (fun g τ1 F2 E2 v D2 hI2 x st hv ho2 hans hxs hX2 => ez_K1 ?_))
  rw [b1] at st hans hxs
  have u192 : τ1 192 = 44 := hI2.2.1 192 (by decide)
  have xc2 := x.2
  have q5 := q202 5
  have a192 : ∀ j, qz_I g 192 j = qz_I h1 192 j := fun j => by unfold qz_I; rw [(x.1 192 (by rw [t192]; decide)).2 (by rw [t192]; rfl)]
  refine ez_go (n := 3) (pc' := 32) (L' := [(3, .inl (v)), (2, .inl (qz_I h 192 1)), (0, .inr (.inr (some (192)))), (1, .inl (4))]) (st' := [.inl (-1), .inl (v)]) rfl ?_
  refine ez_icmp rfl rfl ⟨by first | omega | exact (sz_i32 _).1, by first | omega | exact (sz_i32 _).2⟩ ⟨by first | omega | exact (sz_i32 _).1, by first | omega | exact (sz_i32 _).2⟩ (fun (c4 : (v) ≠ (-1)) => ?_) (fun (c4 : ¬((v) ≠ (-1))) => ?_)
  · skip
    refine ez_go (n := 1) (pc' := 44) (L' := [(3, .inl (v)), (2, .inl (qz_I h 192 1)), (0, .inr (.inr (some (192)))), (1, .inl (4))]) (st' := [.inl (v)]) rfl ?_
    exact ez_retI rfl rfl (kk g τ1 F2 E2 D2 hI2 hX2 (x.mono (by omega) (by omega)) st ((a192 1).trans z1) (fun j hj => (a192 j).trans (zj j hj)) (by omega) (fun j j1 j4 j5 => by rw [ho2 j j1 j4 j5, q202]) _ (Or.inl ⟨v, rfl, by omega, hans, hxs⟩))
  · skip
    refine ez_th rfl rfl (by omega) (by omega) (by omega) rfl ?_
    exact kk (xc g 3) τ1 F2 E2 D2 (jz_xc hI2 (by omega) (by omega)) (jx_xc hI2 hX2) ((x.trans (fz_xt (xc_xt hI2.1))).mono (by omega) (by omega)) st ((xc_xt hI2.1).I (by rw [u192]; decide) 1 |>.trans ((a192 1).trans z1)) (fun j hj => ((xc_xt hI2.1).I (by rw [u192]; decide) j).trans ((a192 j).trans (zj j hj))) (Or.inl (by rw [(xc_xt hI2.1).I (by rw [hI2.2.1 202 (by decide)]; decide)]; omega)) (fun j j1 j4 j5 => by rw [(xc_xt hI2.1).I (by rw [hI2.2.1 202 (by decide)]; decide), ho2 j j1 j4 j5, q202]) _ (Or.inr ⟨g.1, rfl, xc_exc hI2.1 rfl, by rw [show v = -1 by omega] at hans; exact hans, by rw [show v = -1 by omega] at hxs; exact hxs⟩)

theorem rd_lineX {kind : Int} (hB : ez_B τ h) (hv : ez_rg kind) (ho : kind < 0 ∨ 4 < kind) (hr1 : h.1 + 1 ≤ 600192) (hr2 : h.2.1 + 6 ≤ 7302232) (k : Q (.inr h.1, xc h 1)) : ez_W (d + 9) cm_21 0 [(0, .inr (.inr (some (192)))), (1, .inl (kind))] [] h Q := by
  refine ez_go (n := 3) (pc' := 3) (L' := [(0, .inr (.inr (some (192)))), (1, .inl (kind))]) (st' := [.inl (4), .inl (0), .inl (kind)]) rfl ?_
  refine ez_cs hB.2.1 rfl rfl rfl rfl rfl (rd_reqRange hv ⟨by decide, by decide⟩ ⟨by decide, by decide⟩ (by omega) (by omega) (fun _ _ => by omega) (fun w => ez_Kp (xc_exc hB rfl) rfl k))

end EzLn
/-! The class: seal, reset. (Written by wip/p2/py/pv39.py.) -/
theorem jz_pz {τ : Nat → Nat} {h g : cz_H} {F : rz_W} {E : Int → Prop} (hI : jz_I τ h F E) (hB : ez_B τ g) (x : pz τ h g) : jz_I τ g F E := by
  obtain ⟨i1, i2, ⟨i3, i4⟩, i5, i6, i7, i8, Xs, i9, i10⟩ := hI
  have t202 : τ 202 = 48 := i2 202 (by decide)
  have t203 : τ 203 = 49 := i2 203 (by decide)
  have fr : ∀ q t, τ q = t → t ≠ 3 → (t < 55 ∨ 60 < t) → g.2.2 q = h.2.2 q := fun q t hq h3 ht => x.2.1 q (by rw [hq]; exact h3) (by
    by_cases e : 723 ≤ q ∧ q ≤ 728
    · exfalso
      have : q = 723 ∨ q = 724 ∨ q = 725 ∨ q = 726 ∨ q = 727 ∨ q = 728 := by omega
      rcases this with rfl | rfl | rfl | rfl | rfl | rfl <;> (rw [i2 _ (by decide)] at hq; have hq := hq; revert ht; rw [← hq]; decide)
    · omega)
  have e202 : ∀ j, qz_I g 202 j = qz_I h 202 j := fun j => by unfold qz_I; rw [fr 202 48 t202 (by decide) (by decide)]
  have e203 := fr 203 49 t203 (by decide) (by decide)
  have e4 : ∀ q, τ q = 4 → g.2.2 q = h.2.2 q := fun q hq => fr q 4 hq (by decide) (by decide)
  obtain ⟨o1, o2⟩ := sz_pe_ok i1 t203 t202 (e202 1) e203 e4 i3 i4
  refine ⟨hB, i2, ⟨o1, o2⟩, fun j hj => ?_, by rw [e202, e202]; exact i6, fun s l hl => ?_, ?_, Xs, by rw [e202]; exact i9, i10⟩
  · rw [e202] at hj; unfold qz_I; rw [fr 205 51 (i2 205 (by decide)) (by decide) (by decide)]; exact i5 j hj
  · obtain ⟨y1, y2, y3⟩ := i7 s l hl
    obtain ⟨z1, z2⟩ := nz_hz i1 i2 s l hl
    have e1 := fr s 27 z1 (by decide) (by decide)
    have e2 := fr _ 28 z2 (by decide) (by decide)
    have e3 : qz_P g s 0 = qz_P h s 0 := by unfold qz_P qz_I; rw [e1]
    refine ⟨?_, y2, by rw [e3]; exact y3⟩
    unfold nz_S at *
    rw [e3]
    unfold qz_N qz_I at *
    rw [e2]
    exact y1
  · refine sz_D_tr i1 t202 t203 i8 (e202 1) e203 e4 (fun q hq => ⟨x.2.2 q hq 0 (by decide), x.2.2 q hq 2 (by decide), x.2.2 q hq 3 (by decide), x.2.2 q hq 4 (by decide)⟩) (fun p hp => ⟨hp, fr p 5 hp (by decide) (by decide)⟩)
/-- what lies in the pool ends in the pool -/
def sq (g : cz_H) : Prop := ∀ k, 0 ≤ k → k < qz_I g 202 1 → 1 ≤ qz_I g (sz_fp g k) 3 → qz_I g (sz_fp g k) 9 + qz_I g (sz_fp g k) 10 ≤ 20480 ∧ qz_I g (sz_fp g k) 11 + qz_I g (sz_fp g k) 12 ≤ 20480
theorem sq_of {τ : Nat → Nat} {T : Int → Nat} {F : rz_W} {E : Int → Prop} {Xs : List Int} {g : cz_H} (hw : uz_wf F) (hx : xy τ T F E Xs g) (hall : ∀ x, (F x).2 ≠ none → qz_I g (T x) 8 = 2) : sq g := by
  intro k k0 k1 h3
  have t723 : τ 723 = 55 := hx.1.2.1 723 (by decide)
  have b2 : 0 ≤ qz_I g 723 2 ∧ qz_I g 723 2 ≤ 20480 := ez_fB (cl := 6) hx.1.1 t723 tq_55 rfl rfl (by decide)
  obtain ⟨at1, x0, x1⟩ := sz_first hx.1.2.2.1 k0 k1
  have e1 := (hx.1.2.2.2.1 _ k x0 x1 at1).1
  have eT : sz_fp g k = T (sz_f g k) := by unfold sz_fp qz_P; omega
  rw [eT] at h3 ⊢
  have hn : (F (sz_f g k)).2 ≠ none := fun w => by have := (hx.1.2.2.2.2 _ x0 x1).2.2.1 w; omega
  obtain ⟨-, h2⟩ := hx.2.1 _ x0 x1 hn (hall _ hn)
  obtain ⟨l, -, ⟨a1, a2, a3, -⟩, -⟩ := h2 false
  obtain ⟨l', -, ⟨c1, c2, c3, -⟩, -⟩ := h2 true
  have a1 : qz_I g (T (sz_f g k)) 10 = _ := a1
  have a3 : qz_I g (T (sz_f g k)) 9 + _ ≤ _ := a3
  have c1 : qz_I g (T (sz_f g k)) 12 = _ := c1
  have c3 : qz_I g (T (sz_f g k)) 11 + _ ≤ _ := c3
  exact ⟨by omega, by omega⟩
/-- what the pool holds of each point -/
def cFl (h : cz_H) (F : rz_W) : Prop := ∀ x k, 0 ≤ x → x ≤ 1114111 → sz_at h x k → (F x).2 ≠ none → ∀ c, ∃ l, uz_F F c x l ∧ sg h (sz_fp h k) c l ∧ l.length ≤ 40
theorem cFl_of {τ : Nat → Nat} {T : Int → Nat} {F : rz_W} {E : Int → Prop} {Xs : List Int} {g : cz_H} (hx : xy τ T F E Xs g) (hall : ∀ x, (F x).2 ≠ none → qz_I g (T x) 8 = 2) : cFl g F := by
  intro x k x0 x1 hk hn c
  have e1 := (hx.1.2.2.2.1 x k x0 x1 hk).1
  have eT : sz_fp g k = T x := by unfold sz_fp qz_P; omega
  rw [eT]
  obtain ⟨l, l1, l2, l3⟩ := (hx.2.1 x x0 x1 hn (hall x hn)).2 c
  exact ⟨l, l1, l2, l3⟩
section EzSe
variable {d : Nat} {h : cz_H} {τ : Nat → Nat} {Q : cz_F → Prop} {F : rz_W} {E : Int → Prop}
theorem rd_seal (hI : jz_I τ h F E) (hw : uz_wf F) (hr1 : h.1 + 1 ≤ 600192) (hr2 : h.2.1 + 6 ≤ 7302232) (kS : qz_I h 202 6 ≠ 0 → Q (.inr h.1, xc h 2)) (k1 : qz_I h 202 6 = 0 → uz_S F E → ∀ g1 g v, pz τ h g1 → jz_I τ g1 F E → sq g1 → cFl g1 F → cP g1 F E → ez_B τ g → ez_fr (ez_one 202) g1 g → (∀ j, j ≠ 6 → qz_I g 202 j = qz_I g1 202 j) → qz_I g 202 6 = 1 → pcn F E v → Q (.inl (some (ez_v (.inl v))), g)) (k0 : qz_I h 202 6 = 0 → ¬ uz_S F E → ∀ g, jz_I τ g F E → pz τ h g → Q (.inr g.1, xc g 4)) : ez_W (d + 8) cm_37 0 [(0, .inr (.inr (some (192))))] [] h Q := by
  have t192 : τ 192 = 44 := hI.2.1 192 (by decide)
  have t202 : τ 202 = 48 := hI.2.1 202 (by decide)
  refine ez_go (n := 1) (pc' := 1) (L' := [(0, .inr (.inr (some (192))))]) (st' := [.inr (.inr (some (192)))]) rfl ?_
  refine ez_cv hI.1 t192 rfl rfl rfl tq_44 rfl rfl rfl (rd_reqOpen hI.1 t192 (by omega) (by omega) (fun ho => ez_K0 ?_) (fun ho => ez_Kp (xc_exc hI.1 rfl) rfl (kS ho)))
  refine ez_go (n := 1) (pc' := 5) (L' := [(0, .inr (.inr (some (192))))]) (st' := [.inr (.inr (some (192)))]) rfl ?_
  refine ez_gC (p := 723) (tg := 55) hI.1 t192 rfl rfl tq_44 rfl rfl (fun (t723 : _ = 55) => ?_)
  obtain ⟨T, hC⟩ := pz_C_of hI
  obtain ⟨Xs0, hX1, hX2⟩ := hI.2.2.2.2.2.2.2
  have b5 : 0 ≤ qz_I h 202 5 ∧ qz_I h 202 5 ≤ 256 := ez_fB (cl := 2) hI.1 t202 tq_48 rfl rfl (by decide)
  obtain ⟨Xs, hXe⟩ : ∃ Xs, Xs = Xs0.filter (fun x => decide (0 ≤ x ∧ x ≤ 1114111)) := ⟨_, rfl⟩
  have hXl : Xs.length ≤ 256 := by have := List.length_filter_le (fun x => decide (0 ≤ x ∧ x ≤ 1114111)) Xs0; rw [hXe]; omega
  have hXr : ∀ x ∈ Xs, 0 ≤ x ∧ x ≤ 1114111 := fun x hx => by rw [hXe, List.mem_filter] at hx; exact of_decide_eq_true hx.2
  have hXs : ∀ x, (F x).2 ≠ none → x ∈ Xs := fun x hx => by
    obtain ⟨q, hq⟩ : ∃ q, (F x).2 = some q := by cases hq : (F x).2 with | none => exact absurd hq hx | some q => exact ⟨q, rfl⟩
    rw [hXe, List.mem_filter]; exact ⟨hX2 x hx, decide_eq_true ((hw x).2 q.1 q.2 hq).2.2.2⟩
  refine ez_cv hI.1 t723 rfl rfl rfl tq_55 rfl rfl rfl (rd_prepare hw hXr hXs hXl hC (fun hSS g hx hp hall hpc hcp => ez_K1 ?_) (fun hSS g hB hp => ez_K1 ?_))
  · skip
    have hB := hx.1.1
    have hI2 := jz_pz hI hB hp
    have cc := hp.1
    refine ez_if rfl rfl ⟨by decide, by decide⟩ (fun _ => ?_) (fun (c1 : ¬((1 : Int) ≠ (0))) => absurd c1 (by decide))
    refine ez_go (n := 1) (pc' := 23) (L' := [(0, .inr (.inr (some (192))))]) (st' := [.inr (.inr (some (192)))]) rfl ?_
    refine ez_gC (p := 202) (tg := 48) hI2.1 t192 rfl rfl tq_44 rfl rfl (fun (t202 : _ = 48) => ?_)
    refine ez_go (n := 1) (pc' := 27) (L' := [(0, .inr (.inr (some (192))))]) (st' := [.inl (1), .inr (.inr (some (202)))]) rfl ?_
    refine ez_pf hI2.1 t202 rfl rfl tq_48 rfl rfl rfl rfl (ez_vdI rfl rfl (by omega) (by omega)) (fun hB2 w3 => ?_)
    refine ez_go (n := 1) (pc' := 31) (L' := [(0, .inr (.inr (some (192))))]) (st' := [.inr (.inr (some (192)))]) rfl ?_
    refine ez_gC (p := 723) (tg := 55) hB2 t192 rfl rfl tq_44 rfl rfl (fun (t723 : _ = 55) => ?_)
    refine ez_gI hB2 t723 rfl rfl tq_55 rfl rfl (fun (b4 : 0 ≤ qz_I (dz_put g 202 6 (ez_v (.inl (1)))) 723 8) (b4' : qz_I (dz_put g 202 6 (ez_v (.inl (1)))) 723 8 ≤ 256) => ?_)
    have sq1 := sq_of hw hx hall
    have e6 : qz_I (dz_put g 202 6 (ez_v (.inl (1)))) 202 6 = 1 := by rw [w3]; rfl
    have ej : ∀ j, j ≠ 6 → qz_I (dz_put g 202 6 (ez_v (.inl (1)))) 202 j = qz_I g 202 j := fun j hj => ez_put_I (fun w => hj w.2)
    exact ez_retI rfl rfl (k1 ho hSS g _ _ hp hI2 sq1 (cFl_of hx hall) hcp hB2 ((ez_fr.refl (ez_one 202) g).put (show Nat.beq 202 202 = true from rfl) _ _) ej e6 (by rw [show qz_I (dz_put g 202 6 (ez_v (.inl (1)))) 723 8 = qz_I g 723 8 from ez_put_I (fun w => absurd w.1 (by decide))]; exact hpc))
  · skip
    have hI2 := jz_pz hI hB hp
    have cc := hp.1
    refine ez_if rfl rfl ⟨by decide, by decide⟩ (fun (c5 : (0 : Int) ≠ (0)) => absurd c5 (by decide)) (fun _ => ?_)
    refine ez_th rfl rfl (by omega) (by omega) (by omega) rfl ?_
    exact k0 ho hSS g hI2 hp

end EzSe

/-! The model reads: peek, hex, code. (Written by wip/p2/py/pv50.py.) -/
def mb (h : cz_H) (i : Int) : Int := qz_I h 771 i.toNat
/-- only the place of reading has changed -/
def mz (h g : cz_H) : Prop := ez_fr (ez_one 770) h g ∧ ∀ j, j ≠ 17 → qz_I g 770 j = qz_I h 770 j
theorem mz.refl (h : cz_H) : mz h h := ⟨ez_fr.refl _ _, fun _ _ => rfl⟩
theorem mz.trans {h g k : cz_H} (a : mz h g) (b : mz g k) : mz h k := ⟨a.1.trans b.1, fun j hj => (b.2 j hj).trans (a.2 j hj)⟩
theorem mz.b {h g : cz_H} (a : mz h g) : mb g = mb h := funext fun i => a.1.I (by decide) _
theorem mz.I {h g : cz_H} (a : mz h g) {q : Nat} (hq : q ≠ 770) (j : Nat) : qz_I g q j = qz_I h q j := a.1.I (dz_beq_ne hq) j
theorem mz.N {h g : cz_H} (a : mz h g) {q : Nat} (hq : q ≠ 770) : qz_N g q = qz_N h q := a.1.N (dz_beq_ne hq)
theorem mz_put {h : cz_H} {v : cz_V} : mz h (dz_put h 770 17 v) := ⟨(ez_fr.refl (ez_one 770) h).put (show Nat.beq 770 770 = true from rfl) _ _, fun j hj => ez_put_I (fun w => hj w.2)⟩
/-- the byte at a, or -1 -/
def mk (b : Int → Int) (a s : Int) : Int := if a < s then b a else -1
/-- a digit's value, or -1 -/
def mh (c : Int) : Int := if 48 ≤ c ∧ c ≤ 57 then c - 48 else if 65 ≤ c ∧ c ≤ 70 then c - 55 else -1
/-- behind the digits: at most n -/
def me (b : Int → Int) : Nat → Int → Int
  | 0, i => i
  | n + 1, i => if 0 ≤ mh (b i) then me b n (i + 1) else i
theorem me_le (b : Int → Int) : ∀ n i, i ≤ me b n i ∧ me b n i ≤ i + n
  | 0, i => by unfold me; omega
  | n + 1, i => by
    have := me_le b n (i + 1)
    unfold me
    split <;> omega
theorem mh_rg (c : Int) : -1 ≤ mh c ∧ mh c ≤ 15 := by
  unfold mh
  split
  · omega
  · split <;> omega
theorem mk_pos {b : Int → Int} {a s : Int} (h : 0 ≤ mh (mk b a s)) : a < s ∧ 0 ≤ mh (b a) ∧ mk b a s = b a := by
  by_cases e : a < s
  · have e2 : mk b a s = b a := by unfold mk; rw [if_pos e]
    exact ⟨e, by rw [← e2]; exact h, e2⟩
  · have e2 : mk b a s = -1 := by unfold mk; rw [if_neg e]
    rw [e2] at h
    exact absurd h (by decide)
theorem mk_neg {b : Int → Int} {a s : Int} (h : ¬ 0 ≤ mh (mk b a s)) (e : a < s) : ¬ 0 ≤ mh (b a) := by
  have e2 : mk b a s = b a := by unfold mk; rw [if_pos e]
  rw [← e2]; exact h
theorem rz_hex_mh (b : Int → Int) (n : Nat) (i v : Int) : rz_hex b (n + 1) i v = if 0 ≤ mh (b i) then rz_hex b n (i + 1) (v * 16 + mh (b i)) else -1 := by
  unfold mh
  show (if 48 ≤ b i ∧ b i ≤ 57 then rz_hex b n (i + 1) (v * 16 + b i - 48) else if 65 ≤ b i ∧ b i ≤ 70 then rz_hex b n (i + 1) (v * 16 + b i - 65 + 10) else -1) = _
  by_cases e : 48 ≤ b i ∧ b i ≤ 57
  · rw [if_pos e, if_pos e, if_pos (by omega)]; congr 1; omega
  · rw [if_neg e, if_neg e]
    by_cases e2 : 65 ≤ b i ∧ b i ≤ 70
    · rw [if_pos e2, if_pos e2, if_pos (by omega)]; congr 1; omega
    · rw [if_neg e2, if_neg e2, if_neg (by omega)]
/-- digits alone up to there -/
theorem rz_hex_me (b : Int → Int) : ∀ (n : Nat) (i v : Int) (k : Nat), k ≤ n → i + (k : Int) ≤ me b n i → 0 ≤ v → ∃ w, rz_hex b k i v = w ∧ 0 ≤ w
  | n, i, v, 0, _, _, hv => ⟨v, rfl, hv⟩
  | 0, i, v, k + 1, hk, _, _ => by omega
  | n + 1, i, v, k + 1, hk, he, hv => by
    unfold me at he
    split at he
    · rename_i e
      rw [rz_hex_mh, if_pos e]
      exact rz_hex_me b n (i + 1) _ k (by omega) (by push_cast at he; omega) (by omega)
    · push_cast at he; omega
/-- beyond there is none -/
theorem rz_hex_no (b : Int → Int) : ∀ (n : Nat) (i v : Int) (k : Nat), k ≤ n → me b n i < i + (k : Int) → rz_hex b k i v = -1
  | n, i, v, 0, _, h => by have := me_le b n i; push_cast at h; omega
  | 0, i, v, k + 1, hk, _ => by omega
  | n + 1, i, v, k + 1, hk, he => by
    unfold me at he
    rw [rz_hex_mh]
    split at he
    · rename_i e
      rw [if_pos e]
      exact rz_hex_no b n (i + 1) _ k (by omega) (by push_cast at he; omega)
    · rename_i e
      rw [if_neg e]
/-- a CODE that ends elsewhere than its digits is none -/
theorem rz_code_no {b : Int → Int} {s t e : Int} (n : Nat) (hn : (t - s).toNat ≤ n) (he : me b n s < e) (h1 : s ≤ e) (h2 : e ≤ t) : rz_code b s e = -1 := by
  unfold rz_code
  have := rz_hex_no b n s 0 (e - s).toNat (by omega) (by omega)
  split
  · rfl
  · rw [this]; rfl
section EzMo
variable {d : Nat} {h : cz_H} {τ : Nat → Nat} {Q : cz_F → Prop}
theorem rd_can1 (hr1 : h.1 + 1 ≤ 600192) (hr2 : h.2.1 + 6 ≤ 7302232) (k : Q (.inl none, h)) : ez_W (d + 6) cm_227 0 [(0, .inr (.inr (some (770)))), (1, .inl (1))] [] h Q := by
  refine ez_go (n := 1) (pc' := 1) (L' := [(0, .inr (.inr (some (770)))), (1, .inl (1))]) (st' := [.inl (1)]) rfl ?_
  refine ez_if rfl rfl ⟨by decide, by decide⟩ (fun _ => ?_) (fun (c1 : ¬((1 : Int) ≠ (0))) => absurd c1 (by decide))
  exact ez_ret0 rfl rfl k

theorem rd_can0 (hr1 : h.1 + 1 ≤ 600192) (hr2 : h.2.1 + 6 ≤ 7302232) (k : Q (.inr h.1, xc h 1)) : ez_W (d + 6) cm_227 0 [(0, .inr (.inr (some (770)))), (1, .inl (0))] [] h Q := by
  refine ez_go (n := 1) (pc' := 1) (L' := [(0, .inr (.inr (some (770)))), (1, .inl (0))]) (st' := [.inl (0)]) rfl ?_
  refine ez_if rfl rfl ⟨by decide, by decide⟩ (fun (c1 : (0 : Int) ≠ (0)) => absurd c1 (by decide)) (fun _ => ?_)
  exact ez_th rfl rfl (by omega) (by omega) (by omega) rfl (k)

theorem rd_mblank {c : Int} (c0 : -128 ≤ c) (c1 : c ≤ 127) (k1 : c = 9 ∨ c = 32 → Q (.inl (some (ez_v (.inl 1))), h)) (k0 : ¬ (c = 9 ∨ c = 32) → Q (.inl (some (ez_v (.inl 0))), h)) : ez_W d cm_223 0 [(0, .inr (.inr (some (770)))), (1, .inl (c))] [] h Q := by
  refine ez_go (n := 2) (pc' := 3) (L' := [(0, .inr (.inr (some (770)))), (1, .inl (c))]) (st' := [.inl (9), .inl (c)]) rfl ?_
  refine ez_icmp rfl rfl ⟨by first | omega | exact (sz_i32 _).1, by first | omega | exact (sz_i32 _).2⟩ ⟨by first | omega | exact (sz_i32 _).1, by first | omega | exact (sz_i32 _).2⟩ (fun (c1 : (c) = (9)) => ?_) (fun (c1 : ¬((c) = (9))) => ?_)
  · skip
    refine ez_go (n := 2) (pc' := 17) (L' := [(0, .inr (.inr (some (770)))), (1, .inl (c))]) (st' := [.inl (1)]) rfl ?_
    exact ez_retZ rfl rfl (by decide) (k1 (by omega))
  · skip
    refine ez_go (n := 2) (pc' := 9) (L' := [(0, .inr (.inr (some (770)))), (1, .inl (c))]) (st' := [.inl (32), .inl (c)]) rfl ?_
    refine ez_icmp rfl rfl ⟨by first | omega | exact (sz_i32 _).1, by first | omega | exact (sz_i32 _).2⟩ ⟨by first | omega | exact (sz_i32 _).1, by first | omega | exact (sz_i32 _).2⟩ (fun (c2 : (c) ≠ (32)) => ?_) (fun (c2 : ¬((c) ≠ (32))) => ?_)
    · skip
      refine ez_go (n := 1) (pc' := 17) (L' := [(0, .inr (.inr (some (770)))), (1, .inl (c))]) (st' := [.inl (0)]) rfl ?_
      exact ez_retZ rfl rfl (by decide) (k0 (by omega))
    · skip
      refine ez_go (n := 2) (pc' := 17) (L' := [(0, .inr (.inr (some (770)))), (1, .inl (c))]) (st' := [.inl (1)]) rfl ?_
      exact ez_retZ rfl rfl (by decide) (k1 (by omega))

theorem rd_peek (hB : ez_B τ h) (t770 : τ 770 = 75) (k : -128 ≤ (mk (mb h) (qz_I h 770 17) (qz_I h 770 18)) → (mk (mb h) (qz_I h 770 17) (qz_I h 770 18)) ≤ 127 → Q (.inl (some (ez_v (.inl (mk (mb h) (qz_I h 770 17) (qz_I h 770 18))))), h)) : ez_W d cm_289 0 [(0, .inr (.inr (some (770))))] [] h Q := by
  refine ez_go (n := 1) (pc' := 1) (L' := [(0, .inr (.inr (some (770))))]) (st' := [.inr (.inr (some (770)))]) rfl ?_
  refine ez_gI hB t770 rfl rfl tq_75 rfl rfl (fun (b1 : 0 ≤ qz_I h 770 17) (b1' : qz_I h 770 17 ≤ 4200) => ?_)
  refine ez_go (n := 1) (pc' := 5) (L' := [(0, .inr (.inr (some (770))))]) (st' := [.inr (.inr (some (770))), .inl (qz_I h 770 17)]) rfl ?_
  refine ez_gI hB t770 rfl rfl tq_75 rfl rfl (fun (b2 : 0 ≤ qz_I h 770 18) (b2' : qz_I h 770 18 ≤ 4096) => ?_)
  refine ez_icmp rfl rfl ⟨by first | omega | exact (sz_i32 _).1, by first | omega | exact (sz_i32 _).2⟩ ⟨by first | omega | exact (sz_i32 _).1, by first | omega | exact (sz_i32 _).2⟩ (fun (c3 : (qz_I h 770 18) ≤ (qz_I h 770 17)) => ?_) (fun (c3 : ¬((qz_I h 770 18) ≤ (qz_I h 770 17))) => ?_)
  · skip
    refine ez_go (n := 1) (pc' := 24) (L' := [(0, .inr (.inr (some (770))))]) (st' := [.inl (-1)]) rfl ?_
    have e : (mk (mb h) (qz_I h 770 17) (qz_I h 770 18)) = -1 := by unfold mk; rw [if_neg (by omega)]
    rw [e] at k
    exact ez_retI rfl rfl (k (by omega) (by omega))
  · skip
    refine ez_go (n := 1) (pc' := 12) (L' := [(0, .inr (.inr (some (770))))]) (st' := [.inr (.inr (some (770)))]) rfl ?_
    refine ez_gC (p := 771) (tg := 76) hB t770 rfl rfl tq_75 rfl rfl (fun (t771 : _ = 76) => ?_)
    refine ez_go (n := 1) (pc' := 16) (L' := [(0, .inr (.inr (some (770))))]) (st' := [.inr (.inr (some (770))), .inr (.inr (some (771)))]) rfl ?_
    refine ez_gI hB t770 rfl rfl tq_75 rfl rfl (fun (b4 : 0 ≤ qz_I h 770 17) (b4' : qz_I h 770 17 ≤ 4200) => ?_)
    have n6 : 4096 ≤ qz_N h 771 ∧ qz_N h 771 ≤ 4096 := ez_len hB t771 tq_76 rfl
    refine ez_aI hB t771 rfl tq_76 rfl rfl (by omega) (by omega) (fun (b5 : -128 ≤ qz_I h 771 (qz_I h 770 17).toNat) (b5' : qz_I h 771 (qz_I h 770 17).toNat ≤ 127) => ?_)
    refine ez_go (n := 1) (pc' := 24) (L' := [(0, .inr (.inr (some (770))))]) (st' := [.inl (qz_I h 771 (qz_I h 770 17).toNat)]) rfl ?_
    have e : (mk (mb h) (qz_I h 770 17) (qz_I h 770 18)) = qz_I h 771 (qz_I h 770 17).toNat := by unfold mk; rw [if_pos (by omega)]; rfl
    rw [e] at k
    exact ez_retI rfl rfl (k (by omega) (by omega))

theorem rd_hex (hB : ez_B τ h) (t770 : τ 770 = 75) (k : Q (.inl (some (ez_v (.inl (mh (mk (mb h) (qz_I h 770 17) (qz_I h 770 18)))))), h)) : ez_W (d + 1) cm_265 0 [(0, .inr (.inr (some (770))))] [] h Q := by
  refine ez_go (n := 1) (pc' := 1) (L' := [(0, .inr (.inr (some (770))))]) (st' := [.inr (.inr (some (770)))]) rfl ?_
  refine ez_cv hB t770 rfl rfl rfl tq_75 rfl rfl rfl (rd_peek hB t770 (fun p1 p2 => ez_K1 ?_))
  generalize (mk (mb h) (qz_I h 770 17) (qz_I h 770 18)) = c at *
  refine ez_go (n := 3) (pc' := 8) (L' := [(1, .inl (c)), (0, .inr (.inr (some (770))))]) (st' := [.inl (48), .inl (c)]) rfl ?_
  refine ez_icmp rfl rfl ⟨by first | omega | exact (sz_i32 _).1, by first | omega | exact (sz_i32 _).2⟩ ⟨by first | omega | exact (sz_i32 _).1, by first | omega | exact (sz_i32 _).2⟩ (fun (c1 : (c) < (48)) => ?_) (fun (c1 : ¬((c) < (48))) => ?_)
  · skip
    refine ez_go (n := 2) (pc' := 27) (L' := [(1, .inl (c)), (0, .inr (.inr (some (770))))]) (st' := [.inl (65), .inl (c)]) rfl ?_
    refine ez_icmp rfl rfl ⟨by first | omega | exact (sz_i32 _).1, by first | omega | exact (sz_i32 _).2⟩ ⟨by first | omega | exact (sz_i32 _).1, by first | omega | exact (sz_i32 _).2⟩ (fun (c2 : (c) < (65)) => ?_) (fun (c2 : ¬((c) < (65))) => ?_)
    · skip
      refine ez_go (n := 1) (pc' := 47) (L' := [(1, .inl (c)), (0, .inr (.inr (some (770))))]) (st' := [.inl (-1)]) rfl ?_
      have e : mh c = -1 := by unfold mh; split <;> (try split) <;> omega
      rw [e] at k
      exact ez_retI rfl rfl k
    · skip
      refine ez_go (n := 2) (pc' := 33) (L' := [(1, .inl (c)), (0, .inr (.inr (some (770))))]) (st' := [.inl (70), .inl (c)]) rfl ?_
      refine ez_icmp rfl rfl ⟨by first | omega | exact (sz_i32 _).1, by first | omega | exact (sz_i32 _).2⟩ ⟨by first | omega | exact (sz_i32 _).1, by first | omega | exact (sz_i32 _).2⟩ (fun (c3 : (70) < (c)) => ?_) (fun (c3 : ¬((70) < (c))) => ?_)
      · skip
        refine ez_go (n := 1) (pc' := 47) (L' := [(1, .inl (c)), (0, .inr (.inr (some (770))))]) (st' := [.inl (-1)]) rfl ?_
        have e : mh c = -1 := by unfold mh; split <;> (try split) <;> omega
        rw [e] at k
        exact ez_retI rfl rfl k
      · skip
        refine ez_go (n := 6) (pc' := 47) (L' := [(1, .inl (c)), (0, .inr (.inr (some (770))))]) (st' := [.inl (((c) - (65)) + (10))]) rfl ?_
        have e : mh c = ((c) - (65)) + (10) := by unfold mh; split <;> (try split) <;> omega
        rw [e] at k
        exact ez_retI rfl rfl k
  · skip
    refine ez_go (n := 2) (pc' := 14) (L' := [(1, .inl (c)), (0, .inr (.inr (some (770))))]) (st' := [.inl (57), .inl (c)]) rfl ?_
    refine ez_icmp rfl rfl ⟨by first | omega | exact (sz_i32 _).1, by first | omega | exact (sz_i32 _).2⟩ ⟨by first | omega | exact (sz_i32 _).1, by first | omega | exact (sz_i32 _).2⟩ (fun (c4 : (57) < (c)) => ?_) (fun (c4 : ¬((57) < (c))) => ?_)
    · skip
      refine ez_go (n := 2) (pc' := 27) (L' := [(1, .inl (c)), (0, .inr (.inr (some (770))))]) (st' := [.inl (65), .inl (c)]) rfl ?_
      refine ez_icmp rfl rfl ⟨by first | omega | exact (sz_i32 _).1, by first | omega | exact (sz_i32 _).2⟩ ⟨by first | omega | exact (sz_i32 _).1, by first | omega | exact (sz_i32 _).2⟩ (fun (c5 : (c) < (65)) => ?_) (fun (c5 : ¬((c) < (65))) => ?_)
      · skip
        refine ez_go (n := 1) (pc' := 47) (L' := [(1, .inl (c)), (0, .inr (.inr (some (770))))]) (st' := [.inl (-1)]) rfl ?_
        have e : mh c = -1 := by unfold mh; split <;> (try split) <;> omega
        rw [e] at k
        exact ez_retI rfl rfl k
      · skip
        refine ez_go (n := 2) (pc' := 33) (L' := [(1, .inl (c)), (0, .inr (.inr (some (770))))]) (st' := [.inl (70), .inl (c)]) rfl ?_
        refine ez_icmp rfl rfl ⟨by first | omega | exact (sz_i32 _).1, by first | omega | exact (sz_i32 _).2⟩ ⟨by first | omega | exact (sz_i32 _).1, by first | omega | exact (sz_i32 _).2⟩ (fun (c6 : (70) < (c)) => ?_) (fun (c6 : ¬((70) < (c))) => ?_)
        · skip
          refine ez_go (n := 1) (pc' := 47) (L' := [(1, .inl (c)), (0, .inr (.inr (some (770))))]) (st' := [.inl (-1)]) rfl ?_
          have e : mh c = -1 := by unfold mh; split <;> (try split) <;> omega
          rw [e] at k
          exact ez_retI rfl rfl k
        · skip
          refine ez_go (n := 6) (pc' := 47) (L' := [(1, .inl (c)), (0, .inr (.inr (some (770))))]) (st' := [.inl (((c) - (65)) + (10))]) rfl ?_
          have e : mh c = ((c) - (65)) + (10) := by unfold mh; split <;> (try split) <;> omega
          rw [e] at k
          exact ez_retI rfl rfl k
    · skip
      refine ez_go (n := 4) (pc' := 47) (L' := [(1, .inl (c)), (0, .inr (.inr (some (770))))]) (st' := [.inl ((c) - (48))]) rfl ?_
      have e : mh c = (c) - (48) := by unfold mh; split <;> (try split) <;> omega
      rw [e] at k
      exact ez_retI rfl rfl k

theorem rd_mend (hB : ez_B τ h) (t770 : τ 770 = 75) (hr1 : h.1 + 1 ≤ 600192) (hr2 : h.2.1 + 6 ≤ 7302232) (k1 : qz_I h 770 17 = qz_I h 770 18 → Q (.inl none, h)) (k0 : qz_I h 770 17 ≠ qz_I h 770 18 → Q (.inr h.1, xc h 1)) : ez_W (d + 7) cm_248 0 [(0, .inr (.inr (some (770))))] [] h Q := by
  refine ez_go (n := 2) (pc' := 2) (L' := [(0, .inr (.inr (some (770))))]) (st' := [.inr (.inr (some (770))), .inr (.inr (some (770)))]) rfl ?_
  refine ez_gI hB t770 rfl rfl tq_75 rfl rfl (fun (b1 : 0 ≤ qz_I h 770 17) (b1' : qz_I h 770 17 ≤ 4200) => ?_)
  refine ez_go (n := 1) (pc' := 6) (L' := [(0, .inr (.inr (some (770))))]) (st' := [.inr (.inr (some (770))), .inl (qz_I h 770 17), .inr (.inr (some (770)))]) rfl ?_
  refine ez_gI hB t770 rfl rfl tq_75 rfl rfl (fun (b2 : 0 ≤ qz_I h 770 18) (b2' : qz_I h 770 18 ≤ 4096) => ?_)
  refine ez_icmp rfl rfl ⟨by first | omega | exact (sz_i32 _).1, by first | omega | exact (sz_i32 _).2⟩ ⟨by first | omega | exact (sz_i32 _).1, by first | omega | exact (sz_i32 _).2⟩ (fun (c3 : (qz_I h 770 17) ≠ (qz_I h 770 18)) => ?_) (fun (c3 : ¬((qz_I h 770 17) ≠ (qz_I h 770 18))) => ?_)
  · skip
    refine ez_go (n := 1) (pc' := 17) (L' := [(0, .inr (.inr (some (770))))]) (st' := [.inl (0), .inr (.inr (some (770)))]) rfl ?_
    refine ez_cv hB t770 rfl rfl rfl tq_75 rfl rfl rfl (rd_can0 (by omega) (by omega) (ez_Kp (xc_exc hB rfl) rfl (k0 (by omega))))
  · skip
    refine ez_go (n := 2) (pc' := 17) (L' := [(0, .inr (.inr (some (770))))]) (st' := [.inl (1), .inr (.inr (some (770)))]) rfl ?_
    refine ez_cv hB t770 rfl rfl rfl tq_75 rfl rfl rfl (rd_can1 (by omega) (by omega) (ez_K0 ?_))
    exact ez_ret0 rfl rfl (k1 (by omega))

theorem rd_code_x {v : Int} {g : cz_H} (t770 : τ 770 = 75) (hr1 : h.1 + 1 ≤ 600192) (hr2 : h.2.1 + 6 ≤ 7302232) (k1 : ∀ g, ez_B τ g → mz h g → qz_I g 770 17 = (me (mb h) (qz_I h 770 18 - qz_I h 770 17).toNat (qz_I h 770 17)) → rz_code (mb h) (qz_I h 770 17) (me (mb h) (qz_I h 770 18 - qz_I h 770 17).toNat (qz_I h 770 17)) ≠ -1 → Q (.inl (some (ez_v (.inl (rz_code (mb h) (qz_I h 770 17) (me (mb h) (qz_I h 770 18 - qz_I h 770 17).toNat (qz_I h 770 17)))))), g)) (k0 : rz_code (mb h) (qz_I h 770 17) (me (mb h) (qz_I h 770 18 - qz_I h 770 17).toNat (qz_I h 770 17)) = -1 → ∀ g, ez_B τ g → mz h g → Q (.inr g.1, xc g 1)) (hB : ez_B τ g) (hm : mz h g) (hf : qz_I h 770 17 ≤ qz_I g 770 17) (hf0 : 0 ≤ qz_I h 770 17) (hs : qz_I g 770 17 ≤ qz_I h 770 18) (hs1 : qz_I h 770 18 ≤ 4096) (h6 : qz_I g 770 17 - qz_I h 770 17 ≤ 6) (v0 : 0 ≤ v) (v1 : v ≤ 16777215) (he : qz_I g 770 17 = (me (mb h) (qz_I h 770 18 - qz_I h 770 17).toNat (qz_I h 770 17))) (hr : rz_hex (mb h) (qz_I g 770 17 - qz_I h 770 17).toNat (qz_I h 770 17) 0 = v) : ez_W (d + 7) cm_234 57 [(2, .inl (v)), (1, .inl ((qz_I h 770 17))), (0, .inr (.inr (some (770))))] [] g Q := by
  have c1 := hm.1.1
  have c2 := hm.1.2.1
  have bb : qz_I g 771 (qz_I h 770 17).toNat = qz_I h 771 (qz_I h 770 17).toNat := hm.I (by decide) _
  refine ez_go (n := 1) (pc' := 58) (L' := [(2, .inl (v)), (1, .inl ((qz_I h 770 17))), (0, .inr (.inr (some (770))))]) (st' := [.inr (.inr (some (770)))]) rfl ?_
  refine ez_gI hB t770 rfl rfl tq_75 rfl rfl (fun (b1 : 0 ≤ qz_I g 770 17) (b1' : qz_I g 770 17 ≤ 4200) => ?_)
  refine ez_go (n := 6) (pc' := 67) (L' := [(3, .inl ((qz_I g 770 17) - ((qz_I h 770 17)))), (2, .inl (v)), (1, .inl ((qz_I h 770 17))), (0, .inr (.inr (some (770))))]) (st' := [.inl (4), .inl ((qz_I g 770 17) - ((qz_I h 770 17))), .inr (.inr (some (770)))]) rfl ?_
  refine ez_icmp rfl rfl ⟨by first | omega | exact (sz_i32 _).1, by first | omega | exact (sz_i32 _).2⟩ ⟨by first | omega | exact (sz_i32 _).1, by first | omega | exact (sz_i32 _).2⟩ (fun (c2 : ((qz_I g 770 17) - ((qz_I h 770 17))) < (4)) => ?_) (fun (c2 : ¬(((qz_I g 770 17) - ((qz_I h 770 17))) < (4))) => ?_)
  · skip
    refine ez_go (n := 1) (pc' := 97) (L' := [(3, .inl ((qz_I g 770 17) - ((qz_I h 770 17)))), (2, .inl (v)), (1, .inl ((qz_I h 770 17))), (0, .inr (.inr (some (770))))]) (st' := [.inl (0), .inr (.inr (some (770)))]) rfl ?_
    refine ez_cv hB t770 rfl rfl rfl tq_75 rfl rfl rfl (rd_can0 (by omega) (by omega) (ez_Kp (xc_exc hB rfl) rfl (k0 (by unfold rz_code; rw [← he, hr]; first | (rw [if_pos (by omega)]) | (rw [if_pos (by show _ ∨ _ ∨ (_ ∧ qz_I h 771 _ = 48); rw [← bb]; omega)]) | (split; (· rfl); (· rw [if_neg (by omega)]))) g hB hm)))
  · skip
    refine ez_go (n := 1) (pc' := 71) (L' := [(3, .inl ((qz_I g 770 17) - ((qz_I h 770 17)))), (2, .inl (v)), (1, .inl ((qz_I h 770 17))), (0, .inr (.inr (some (770))))]) (st' := [.inl (v), .inr (.inr (some (770)))]) rfl ?_
    refine ez_ldc (1114111) rfl rfl rfl ?_
    refine ez_icmp rfl rfl ⟨by first | omega | exact (sz_i32 _).1, by first | omega | exact (sz_i32 _).2⟩ ⟨by first | omega | exact (sz_i32 _).1, by first | omega | exact (sz_i32 _).2⟩ (fun (c3 : (1114111) < (v)) => ?_) (fun (c3 : ¬((1114111) < (v))) => ?_)
    · skip
      refine ez_go (n := 1) (pc' := 97) (L' := [(3, .inl ((qz_I g 770 17) - ((qz_I h 770 17)))), (2, .inl (v)), (1, .inl ((qz_I h 770 17))), (0, .inr (.inr (some (770))))]) (st' := [.inl (0), .inr (.inr (some (770)))]) rfl ?_
      refine ez_cv hB t770 rfl rfl rfl tq_75 rfl rfl rfl (rd_can0 (by omega) (by omega) (ez_Kp (xc_exc hB rfl) rfl (k0 (by unfold rz_code; rw [← he, hr]; first | (rw [if_pos (by omega)]) | (rw [if_pos (by show _ ∨ _ ∨ (_ ∧ qz_I h 771 _ = 48); rw [← bb]; omega)]) | (split; (· rfl); (· rw [if_neg (by omega)]))) g hB hm)))
    · skip
      refine ez_go (n := 2) (pc' := 78) (L' := [(3, .inl ((qz_I g 770 17) - ((qz_I h 770 17)))), (2, .inl (v)), (1, .inl ((qz_I h 770 17))), (0, .inr (.inr (some (770))))]) (st' := [.inl (4), .inl ((qz_I g 770 17) - ((qz_I h 770 17))), .inr (.inr (some (770)))]) rfl ?_
      refine ez_icmp rfl rfl ⟨by first | omega | exact (sz_i32 _).1, by first | omega | exact (sz_i32 _).2⟩ ⟨by first | omega | exact (sz_i32 _).1, by first | omega | exact (sz_i32 _).2⟩ (fun (c4 : ((qz_I g 770 17) - ((qz_I h 770 17))) = (4)) => ?_) (fun (c4 : ¬(((qz_I g 770 17) - ((qz_I h 770 17))) = (4))) => ?_)
      · skip
        refine ez_go (n := 2) (pc' := 97) (L' := [(3, .inl ((qz_I g 770 17) - ((qz_I h 770 17)))), (2, .inl (v)), (1, .inl ((qz_I h 770 17))), (0, .inr (.inr (some (770))))]) (st' := [.inl (1), .inr (.inr (some (770)))]) rfl ?_
        refine ez_cv hB t770 rfl rfl rfl tq_75 rfl rfl rfl (rd_can1 (by omega) (by omega) (ez_K0 ?_))
        refine ez_go (n := 1) (pc' := 101) (L' := [(3, .inl ((qz_I g 770 17) - ((qz_I h 770 17)))), (2, .inl (v)), (1, .inl ((qz_I h 770 17))), (0, .inr (.inr (some (770))))]) (st' := [.inl (v)]) rfl ?_
        have e : rz_code (mb h) (qz_I h 770 17) (me (mb h) (qz_I h 770 18 - qz_I h 770 17).toNat (qz_I h 770 17)) = v := by unfold rz_code; rw [← he, hr, if_neg (by first | omega | (show ¬(_ ∨ _ ∨ (_ ∧ qz_I h 771 _ = 48)); rw [← bb]; omega)), if_pos (by omega)]
        rw [e] at k1
        exact ez_retI rfl rfl (k1 g hB hm he (by omega))
      · skip
        refine ez_go (n := 1) (pc' := 82) (L' := [(3, .inl ((qz_I g 770 17) - ((qz_I h 770 17)))), (2, .inl (v)), (1, .inl ((qz_I h 770 17))), (0, .inr (.inr (some (770))))]) (st' := [.inr (.inr (some (770))), .inr (.inr (some (770)))]) rfl ?_
        refine ez_gC (p := 771) (tg := 76) hB t770 rfl rfl tq_75 rfl rfl (fun (t771 : _ = 76) => ?_)
        refine ez_go (n := 1) (pc' := 86) (L' := [(3, .inl ((qz_I g 770 17) - ((qz_I h 770 17)))), (2, .inl (v)), (1, .inl ((qz_I h 770 17))), (0, .inr (.inr (some (770))))]) (st' := [.inl ((qz_I h 770 17)), .inr (.inr (some (771))), .inr (.inr (some (770)))]) rfl ?_
        have n6 : 4096 ≤ qz_N g 771 ∧ qz_N g 771 ≤ 4096 := ez_len hB t771 tq_76 rfl
        refine ez_aI hB t771 rfl tq_76 rfl rfl (by omega) (by omega) (fun (b5 : -128 ≤ qz_I g 771 ((qz_I h 770 17)).toNat) (b5' : qz_I g 771 ((qz_I h 770 17)).toNat ≤ 127) => ?_)
        refine ez_go (n := 1) (pc' := 89) (L' := [(3, .inl ((qz_I g 770 17) - ((qz_I h 770 17)))), (2, .inl (v)), (1, .inl ((qz_I h 770 17))), (0, .inr (.inr (some (770))))]) (st' := [.inl (48), .inl (qz_I g 771 ((qz_I h 770 17)).toNat), .inr (.inr (some (770)))]) rfl ?_
        refine ez_icmp rfl rfl ⟨by first | omega | exact (sz_i32 _).1, by first | omega | exact (sz_i32 _).2⟩ ⟨by first | omega | exact (sz_i32 _).1, by first | omega | exact (sz_i32 _).2⟩ (fun (c7 : (qz_I g 771 ((qz_I h 770 17)).toNat) = (48)) => ?_) (fun (c7 : ¬((qz_I g 771 ((qz_I h 770 17)).toNat) = (48))) => ?_)
        · skip
          refine ez_go (n := 1) (pc' := 97) (L' := [(3, .inl ((qz_I g 770 17) - ((qz_I h 770 17)))), (2, .inl (v)), (1, .inl ((qz_I h 770 17))), (0, .inr (.inr (some (770))))]) (st' := [.inl (0), .inr (.inr (some (770)))]) rfl ?_
          refine ez_cv hB t770 rfl rfl rfl tq_75 rfl rfl rfl (rd_can0 (by omega) (by omega) (ez_Kp (xc_exc hB rfl) rfl (k0 (by unfold rz_code; rw [← he, hr]; first | (rw [if_pos (by omega)]) | (rw [if_pos (by show _ ∨ _ ∨ (_ ∧ qz_I h 771 _ = 48); rw [← bb]; omega)]) | (split; (· rfl); (· rw [if_neg (by omega)]))) g hB hm)))
        · skip
          refine ez_go (n := 2) (pc' := 97) (L' := [(3, .inl ((qz_I g 770 17) - ((qz_I h 770 17)))), (2, .inl (v)), (1, .inl ((qz_I h 770 17))), (0, .inr (.inr (some (770))))]) (st' := [.inl (1), .inr (.inr (some (770)))]) rfl ?_
          refine ez_cv hB t770 rfl rfl rfl tq_75 rfl rfl rfl (rd_can1 (by omega) (by omega) (ez_K0 ?_))
          refine ez_go (n := 1) (pc' := 101) (L' := [(3, .inl ((qz_I g 770 17) - ((qz_I h 770 17)))), (2, .inl (v)), (1, .inl ((qz_I h 770 17))), (0, .inr (.inr (some (770))))]) (st' := [.inl (v)]) rfl ?_
          have e : rz_code (mb h) (qz_I h 770 17) (me (mb h) (qz_I h 770 18 - qz_I h 770 17).toNat (qz_I h 770 17)) = v := by unfold rz_code; rw [← he, hr, if_neg (by first | omega | (show ¬(_ ∨ _ ∨ (_ ∧ qz_I h 771 _ = 48)); rw [← bb]; omega)), if_pos (by omega)]
          rw [e] at k1
          exact ez_retI rfl rfl (k1 g hB hm he (by omega))

theorem rd_code_l (t770 : τ 770 = 75) (hr1 : h.1 + 1 ≤ 600192) (hr2 : h.2.1 + 6 ≤ 7302232) (hf0 : 0 ≤ qz_I h 770 17) (hs1 : qz_I h 770 18 ≤ 4096) (k1 : ∀ g, ez_B τ g → mz h g → qz_I g 770 17 = (me (mb h) (qz_I h 770 18 - qz_I h 770 17).toNat (qz_I h 770 17)) → rz_code (mb h) (qz_I h 770 17) (me (mb h) (qz_I h 770 18 - qz_I h 770 17).toNat (qz_I h 770 17)) ≠ -1 → Q (.inl (some (ez_v (.inl (rz_code (mb h) (qz_I h 770 17) (me (mb h) (qz_I h 770 18 - qz_I h 770 17).toNat (qz_I h 770 17)))))), g)) (k0 : rz_code (mb h) (qz_I h 770 17) (me (mb h) (qz_I h 770 18 - qz_I h 770 17).toNat (qz_I h 770 17)) = -1 → ∀ g, ez_B τ g → mz h g → Q (.inr g.1, xc g 1)) : ∀ (n : Nat) (v : Int) (g : cz_H), n = (qz_I h 770 18 - qz_I g 770 17).toNat → ez_B τ g → mz h g → qz_I h 770 17 ≤ qz_I g 770 17 → qz_I g 770 17 ≤ qz_I h 770 18 → qz_I g 770 17 - qz_I h 770 17 ≤ 6 → 0 ≤ v → (me (mb h) (qz_I h 770 18 - qz_I h 770 17).toNat (qz_I h 770 17)) = me (mb h) (qz_I h 770 18 - qz_I g 770 17).toNat (qz_I g 770 17) → (∀ m : Nat, rz_hex (mb h) ((qz_I g 770 17 - qz_I h 770 17).toNat + m) (qz_I h 770 17) 0 = rz_hex (mb h) m (qz_I g 770 17) v) → ez_W (d + 7) cm_234 7 [(2, .inl (v)), (1, .inl ((qz_I h 770 17))), (0, .inr (.inr (some (770))))] [] g Q := by
  intro n
  induction n with
  | zero =>
    intro v g hn hB hm hf hs h6 v0 he hr
    have hmr := mh_rg (mk (mb g) (qz_I g 770 17) (qz_I g 770 18))
    have e18 : qz_I g 770 18 = qz_I h 770 18 := hm.2 18 (by decide)
    have c1 := hm.1.1
    have c2 := hm.1.2.1
    have hr0 := hr 0
    rw [Nat.add_zero] at hr0
    have hr0 : rz_hex (mb h) (qz_I g 770 17 - qz_I h 770 17).toNat (qz_I h 770 17) 0 = v := hr0
    have hbd := rz_hex_bd (mb h) (qz_I g 770 17 - qz_I h 770 17).toNat (qz_I h 770 17) 0 1 (by omega) (by omega) (by omega)
    have hp6 := rz_pow6 (show (qz_I g 770 17 - qz_I h 770 17).toNat ≤ 6 by omega)
    rw [hr0] at hbd
    have v1 : v ≤ 16777215 := by omega
    refine ez_go (n := 1) (pc' := 8) (L' := [(2, .inl (v)), (1, .inl ((qz_I h 770 17))), (0, .inr (.inr (some (770))))]) (st' := [.inr (.inr (some (770)))]) rfl ?_
    refine ez_cv hB t770 rfl rfl rfl tq_75 rfl rfl rfl (rd_hex hB t770 (ez_K1 ?_))
    refine ez_if rfl rfl ⟨by first | omega | exact (sz_i32 _).1, by first | omega | exact (sz_i32 _).2⟩ (fun (c1 : (mh (mk (mb g) (qz_I g 770 17) (qz_I g 770 18))) < (0)) => ?_) (fun (c1 : ¬((mh (mk (mb g) (qz_I g 770 17) (qz_I g 770 18))) < (0))) => ?_)
    · skip
      refine ez_less [(2, .inl (v)), (1, .inl ((qz_I h 770 17))), (0, .inr (.inr (some (770))))] rfl ⟨rfl, rfl, rfl, trivial⟩ ?_
      refine rd_code_x t770 hr1 hr2 k1 k0 hB hm hf hf0 hs hs1 h6 v0 v1 ?_ hr0
      rw [he]
      by_cases e : qz_I g 770 17 < qz_I h 770 18
      · have hc9 := mk_neg (b := mb g) (a := qz_I g 770 17) (s := qz_I g 770 18) (by omega) (by omega)
        rw [hm.b] at hc9
        rw [show (qz_I h 770 18 - qz_I g 770 17).toNat = (qz_I h 770 18 - (qz_I g 770 17 + 1)).toNat + 1 by omega, me, if_neg hc9]
      · rw [show (qz_I h 770 18 - qz_I g 770 17).toNat = 0 by omega, me]
    · skip
      refine ez_go (n := 2) (pc' := 16) (L' := [(2, .inl (v)), (1, .inl ((qz_I h 770 17))), (0, .inr (.inr (some (770))))]) (st' := [.inr (.inr (some (770))), .inr (.inr (some (770)))]) rfl ?_
      refine ez_gI hB t770 rfl rfl tq_75 rfl rfl (fun (b2 : 0 ≤ qz_I g 770 17) (b2' : qz_I g 770 17 ≤ 4200) => ?_)
      refine ez_go (n := 3) (pc' := 23) (L' := [(2, .inl (v)), (1, .inl ((qz_I h 770 17))), (0, .inr (.inr (some (770))))]) (st' := [.inl (6), .inl ((qz_I g 770 17) - ((qz_I h 770 17))), .inr (.inr (some (770)))]) rfl ?_
      refine ez_icmp rfl rfl ⟨by first | omega | exact (sz_i32 _).1, by first | omega | exact (sz_i32 _).2⟩ ⟨by first | omega | exact (sz_i32 _).1, by first | omega | exact (sz_i32 _).2⟩ (fun (c3 : (6) ≤ ((qz_I g 770 17) - ((qz_I h 770 17)))) => ?_) (fun (c3 : ¬((6) ≤ ((qz_I g 770 17) - ((qz_I h 770 17))))) => ?_)
      · skip
        refine ez_go (n := 1) (pc' := 31) (L' := [(2, .inl (v)), (1, .inl ((qz_I h 770 17))), (0, .inr (.inr (some (770))))]) (st' := [.inl (0), .inr (.inr (some (770)))]) rfl ?_
        refine ez_cv hB t770 rfl rfl rfl tq_75 rfl rfl rfl (rd_can0 (by omega) (by omega) (ez_Kp (xc_exc hB rfl) rfl (k0 (by obtain ⟨hlt9, hc9, hmk⟩ := mk_pos (b := mb g) (a := qz_I g 770 17) (s := qz_I g 770 18) (by omega); rw [hm.b] at hc9; have q1 := me_le (mb h) (qz_I h 770 18 - (qz_I g 770 17 + 1)).toNat (qz_I g 770 17 + 1); unfold rz_code; rw [if_pos (Or.inr (Or.inl (by rw [he, show (qz_I h 770 18 - qz_I g 770 17).toNat = (qz_I h 770 18 - (qz_I g 770 17 + 1)).toNat + 1 by omega, me, if_pos hc9]; omega)))]) g hB hm)))
      · skip
        refine ez_go (n := 2) (pc' := 31) (L' := [(2, .inl (v)), (1, .inl ((qz_I h 770 17))), (0, .inr (.inr (some (770))))]) (st' := [.inl (1), .inr (.inr (some (770)))]) rfl ?_
        refine ez_cv hB t770 rfl rfl rfl tq_75 rfl rfl rfl (rd_can1 (by omega) (by omega) (ez_K0 ?_))
        refine ez_go (n := 4) (pc' := 39) (L' := [(2, .inl (v)), (1, .inl ((qz_I h 770 17))), (0, .inr (.inr (some (770))))]) (st' := [.inr (.inr (some (770))), .inl ((16) * (v))]) rfl ?_
        refine ez_cv hB t770 rfl rfl rfl tq_75 rfl rfl rfl (rd_hex hB t770 (ez_K1 ?_))
        refine ez_go (n := 4) (pc' := 46) (L' := [(2, .inl (((16) * (v)) + (mh (mk (mb g) (qz_I g 770 17) (qz_I g 770 18))))), (1, .inl ((qz_I h 770 17))), (0, .inr (.inr (some (770))))]) (st' := [.inr (.inr (some (770))), .inr (.inr (some (770)))]) rfl ?_
        refine ez_gI hB t770 rfl rfl tq_75 rfl rfl (fun (b4 : 0 ≤ qz_I g 770 17) (b4' : qz_I g 770 17 ≤ 4200) => ?_)
        refine ez_go (n := 2) (pc' := 51) (L' := [(2, .inl (((16) * (v)) + (mh (mk (mb g) (qz_I g 770 17) (qz_I g 770 18))))), (1, .inl ((qz_I h 770 17))), (0, .inr (.inr (some (770))))]) (st' := [.inl ((qz_I g 770 17) + (1)), .inr (.inr (some (770)))]) rfl ?_
        refine ez_pf hB t770 rfl rfl tq_75 rfl rfl rfl rfl (ez_vdI rfl rfl (by omega) (by omega)) (fun hB5 w6 => ?_)
        refine ez_go (n := 1) (pc' := 7) (L' := [(2, .inl (((16) * (v)) + (mh (mk (mb g) (qz_I g 770 17) (qz_I g 770 18))))), (1, .inl ((qz_I h 770 17))), (0, .inr (.inr (some (770))))]) (st' := []) rfl ?_
        refine ez_less [(2, .inl (((16) * (v)) + (mh (mk (mb g) (qz_I g 770 17) (qz_I g 770 18))))), (1, .inl ((qz_I h 770 17))), (0, .inr (.inr (some (770))))] rfl ⟨rfl, rfl, rfl, trivial⟩ ?_
        exfalso
        have := (mk_pos (b := mb g) (a := qz_I g 770 17) (s := qz_I g 770 18) (by omega)).1
        omega
  | succ n ih =>
    intro v g hn hB hm hf hs h6 v0 he hr
    have hmr := mh_rg (mk (mb g) (qz_I g 770 17) (qz_I g 770 18))
    have e18 : qz_I g 770 18 = qz_I h 770 18 := hm.2 18 (by decide)
    have c1 := hm.1.1
    have c2 := hm.1.2.1
    have hr0 := hr 0
    rw [Nat.add_zero] at hr0
    have hr0 : rz_hex (mb h) (qz_I g 770 17 - qz_I h 770 17).toNat (qz_I h 770 17) 0 = v := hr0
    have hbd := rz_hex_bd (mb h) (qz_I g 770 17 - qz_I h 770 17).toNat (qz_I h 770 17) 0 1 (by omega) (by omega) (by omega)
    have hp6 := rz_pow6 (show (qz_I g 770 17 - qz_I h 770 17).toNat ≤ 6 by omega)
    rw [hr0] at hbd
    have v1 : v ≤ 16777215 := by omega
    refine ez_go (n := 1) (pc' := 8) (L' := [(2, .inl (v)), (1, .inl ((qz_I h 770 17))), (0, .inr (.inr (some (770))))]) (st' := [.inr (.inr (some (770)))]) rfl ?_
    refine ez_cv hB t770 rfl rfl rfl tq_75 rfl rfl rfl (rd_hex hB t770 (ez_K1 ?_))
    refine ez_if rfl rfl ⟨by first | omega | exact (sz_i32 _).1, by first | omega | exact (sz_i32 _).2⟩ (fun (c1 : (mh (mk (mb g) (qz_I g 770 17) (qz_I g 770 18))) < (0)) => ?_) (fun (c1 : ¬((mh (mk (mb g) (qz_I g 770 17) (qz_I g 770 18))) < (0))) => ?_)
    · skip
      refine ez_less [(2, .inl (v)), (1, .inl ((qz_I h 770 17))), (0, .inr (.inr (some (770))))] rfl ⟨rfl, rfl, rfl, trivial⟩ ?_
      refine rd_code_x t770 hr1 hr2 k1 k0 hB hm hf hf0 hs hs1 h6 v0 v1 ?_ hr0
      rw [he]
      by_cases e : qz_I g 770 17 < qz_I h 770 18
      · have hc9 := mk_neg (b := mb g) (a := qz_I g 770 17) (s := qz_I g 770 18) (by omega) (by omega)
        rw [hm.b] at hc9
        rw [show (qz_I h 770 18 - qz_I g 770 17).toNat = (qz_I h 770 18 - (qz_I g 770 17 + 1)).toNat + 1 by omega, me, if_neg hc9]
      · rw [show (qz_I h 770 18 - qz_I g 770 17).toNat = 0 by omega, me]
    · skip
      refine ez_go (n := 2) (pc' := 16) (L' := [(2, .inl (v)), (1, .inl ((qz_I h 770 17))), (0, .inr (.inr (some (770))))]) (st' := [.inr (.inr (some (770))), .inr (.inr (some (770)))]) rfl ?_
      refine ez_gI hB t770 rfl rfl tq_75 rfl rfl (fun (b2 : 0 ≤ qz_I g 770 17) (b2' : qz_I g 770 17 ≤ 4200) => ?_)
      refine ez_go (n := 3) (pc' := 23) (L' := [(2, .inl (v)), (1, .inl ((qz_I h 770 17))), (0, .inr (.inr (some (770))))]) (st' := [.inl (6), .inl ((qz_I g 770 17) - ((qz_I h 770 17))), .inr (.inr (some (770)))]) rfl ?_
      refine ez_icmp rfl rfl ⟨by first | omega | exact (sz_i32 _).1, by first | omega | exact (sz_i32 _).2⟩ ⟨by first | omega | exact (sz_i32 _).1, by first | omega | exact (sz_i32 _).2⟩ (fun (c3 : (6) ≤ ((qz_I g 770 17) - ((qz_I h 770 17)))) => ?_) (fun (c3 : ¬((6) ≤ ((qz_I g 770 17) - ((qz_I h 770 17))))) => ?_)
      · skip
        refine ez_go (n := 1) (pc' := 31) (L' := [(2, .inl (v)), (1, .inl ((qz_I h 770 17))), (0, .inr (.inr (some (770))))]) (st' := [.inl (0), .inr (.inr (some (770)))]) rfl ?_
        refine ez_cv hB t770 rfl rfl rfl tq_75 rfl rfl rfl (rd_can0 (by omega) (by omega) (ez_Kp (xc_exc hB rfl) rfl (k0 (by obtain ⟨hlt9, hc9, hmk⟩ := mk_pos (b := mb g) (a := qz_I g 770 17) (s := qz_I g 770 18) (by omega); rw [hm.b] at hc9; have q1 := me_le (mb h) (qz_I h 770 18 - (qz_I g 770 17 + 1)).toNat (qz_I g 770 17 + 1); unfold rz_code; rw [if_pos (Or.inr (Or.inl (by rw [he, show (qz_I h 770 18 - qz_I g 770 17).toNat = (qz_I h 770 18 - (qz_I g 770 17 + 1)).toNat + 1 by omega, me, if_pos hc9]; omega)))]) g hB hm)))
      · skip
        refine ez_go (n := 2) (pc' := 31) (L' := [(2, .inl (v)), (1, .inl ((qz_I h 770 17))), (0, .inr (.inr (some (770))))]) (st' := [.inl (1), .inr (.inr (some (770)))]) rfl ?_
        refine ez_cv hB t770 rfl rfl rfl tq_75 rfl rfl rfl (rd_can1 (by omega) (by omega) (ez_K0 ?_))
        refine ez_go (n := 4) (pc' := 39) (L' := [(2, .inl (v)), (1, .inl ((qz_I h 770 17))), (0, .inr (.inr (some (770))))]) (st' := [.inr (.inr (some (770))), .inl ((16) * (v))]) rfl ?_
        refine ez_cv hB t770 rfl rfl rfl tq_75 rfl rfl rfl (rd_hex hB t770 (ez_K1 ?_))
        refine ez_go (n := 4) (pc' := 46) (L' := [(2, .inl (((16) * (v)) + (mh (mk (mb g) (qz_I g 770 17) (qz_I g 770 18))))), (1, .inl ((qz_I h 770 17))), (0, .inr (.inr (some (770))))]) (st' := [.inr (.inr (some (770))), .inr (.inr (some (770)))]) rfl ?_
        refine ez_gI hB t770 rfl rfl tq_75 rfl rfl (fun (b4 : 0 ≤ qz_I g 770 17) (b4' : qz_I g 770 17 ≤ 4200) => ?_)
        refine ez_go (n := 2) (pc' := 51) (L' := [(2, .inl (((16) * (v)) + (mh (mk (mb g) (qz_I g 770 17) (qz_I g 770 18))))), (1, .inl ((qz_I h 770 17))), (0, .inr (.inr (some (770))))]) (st' := [.inl ((qz_I g 770 17) + (1)), .inr (.inr (some (770)))]) rfl ?_
        refine ez_pf hB t770 rfl rfl tq_75 rfl rfl rfl rfl (ez_vdI rfl rfl (by omega) (by omega)) (fun hB5 w6 => ?_)
        refine ez_go (n := 1) (pc' := 7) (L' := [(2, .inl (((16) * (v)) + (mh (mk (mb g) (qz_I g 770 17) (qz_I g 770 18))))), (1, .inl ((qz_I h 770 17))), (0, .inr (.inr (some (770))))]) (st' := []) rfl ?_
        refine ez_less [(2, .inl (((16) * (v)) + (mh (mk (mb g) (qz_I g 770 17) (qz_I g 770 18))))), (1, .inl ((qz_I h 770 17))), (0, .inr (.inr (some (770))))] rfl ⟨rfl, rfl, rfl, trivial⟩ ?_
        obtain ⟨hlt9, hc9, hmk⟩ := mk_pos (b := mb g) (a := qz_I g 770 17) (s := qz_I g 770 18) (by omega)
        rw [hm.b] at hc9 hmk
        have hmr2 := mh_rg (mb h (qz_I g 770 17))
        have hmk2 : mk (mb g) (qz_I g 770 17) (qz_I g 770 18) = mb h (qz_I g 770 17) := by rw [hm.b]; exact hmk
        have a9 : qz_I (dz_put g 770 17 (ez_v (.inl ((qz_I g 770 17) + (1))))) 770 17 = qz_I g 770 17 + 1 := by rw [w6, rz_rd ⟨by omega, by omega⟩]
        rw [hmk2]
        refine ih _ _ (by rw [a9]; omega) hB5 (hm.trans mz_put) (by rw [a9]; omega) (by rw [a9]; omega) (by rw [a9]; omega) (by omega) ?_ (fun m => ?_)
        · rw [a9, he, show (qz_I h 770 18 - qz_I g 770 17).toNat = (qz_I h 770 18 - (qz_I g 770 17 + 1)).toNat + 1 by omega, me, if_pos (by omega)]
        · rw [a9, show (qz_I g 770 17 + 1 - qz_I h 770 17).toNat + m = (qz_I g 770 17 - qz_I h 770 17).toNat + (m + 1) by omega, hr (m + 1), rz_hex_mh, if_pos (by omega)]; congr 1; omega
theorem rd_code (hB : ez_B τ h) (t770 : τ 770 = 75) (hr1 : h.1 + 1 ≤ 600192) (hr2 : h.2.1 + 6 ≤ 7302232) (hfs : qz_I h 770 17 ≤ qz_I h 770 18) (hs1 : qz_I h 770 18 ≤ 4096) (k1 : ∀ g, ez_B τ g → mz h g → qz_I g 770 17 = (me (mb h) (qz_I h 770 18 - qz_I h 770 17).toNat (qz_I h 770 17)) → rz_code (mb h) (qz_I h 770 17) (me (mb h) (qz_I h 770 18 - qz_I h 770 17).toNat (qz_I h 770 17)) ≠ -1 → Q (.inl (some (ez_v (.inl (rz_code (mb h) (qz_I h 770 17) (me (mb h) (qz_I h 770 18 - qz_I h 770 17).toNat (qz_I h 770 17)))))), g)) (k0 : rz_code (mb h) (qz_I h 770 17) (me (mb h) (qz_I h 770 18 - qz_I h 770 17).toNat (qz_I h 770 17)) = -1 → ∀ g, ez_B τ g → mz h g → Q (.inr g.1, xc g 1)) : ez_W (d + 7) cm_234 0 [(0, .inr (.inr (some (770))))] [] h Q := by
  refine ez_go (n := 1) (pc' := 1) (L' := [(0, .inr (.inr (some (770))))]) (st' := [.inr (.inr (some (770)))]) rfl ?_
  refine ez_gI hB t770 rfl rfl tq_75 rfl rfl (fun (b1 : 0 ≤ qz_I h 770 17) (b1' : qz_I h 770 17 ≤ 4200) => ?_)
  refine ez_go (n := 3) (pc' := 7) (L' := [(2, .inl (0)), (1, .inl (qz_I h 770 17)), (0, .inr (.inr (some (770))))]) (st' := []) rfl ?_
  refine ez_less [(2, .inl (0)), (1, .inl (qz_I h 770 17)), (0, .inr (.inr (some (770))))] rfl ⟨rfl, rfl, rfl, trivial⟩ ?_
  exact rd_code_l t770 hr1 hr2 (by omega) hs1 k1 k0 _ 0 h rfl hB (mz.refl _) (by omega) hfs (by omega) (by omega) rfl (fun m => by rw [show (qz_I h 770 17 - qz_I h 770 17).toNat + m = m by omega])

end EzMo
/-! The model reads: fields. (Written by wip/p2/py/pv51.py.) -/
def mf (h : cz_H) (k : Int) : Int := qz_I h 789 k.toNat
def mt (h : cz_H) (k : Int) : Int := qz_I h 790 k.toNat
def nz_PF (q : Nat) : Bool := Nat.beq q 789 || Nat.beq q 790
/-- fields as they were cut -/
def mz_c (h : cz_H) (A : List (Int × Int)) : Prop := ∀ (k : Nat) (p : Int × Int), A[k]? = some p → mf h k = p.1 ∧ mt h k = p.2
theorem mb_F {h g : cz_H} (hf : ez_fr nz_PF h g) : mb g = mb h := funext fun i => hf.I rfl _
section EzMf
variable {d : Nat} {h : cz_H} {τ : Nat → Nat} {Q : cz_F → Prop}
theorem rd_fields_1 {w n : Int} (hB : ez_B τ h) (t770 : τ 770 = 75) (t771 : τ 771 = 76) (hr1 : h.1 + 1 ≤ 600192) (hr2 : h.2.1 + 6 ≤ 7302232) (n1 : n ≤ 4096) (kT : ¬ rz_plain (mb h) n → Q (.inr h.1, xc h 1)) (kx : ∀ e, rz_plain (mb h) n → rz_hash (mb h) n e → ez_W (d + 7) cm_255 78 [(3, .inl (e)), (0, .inr (.inr (some (770)))), (1, .inl (w)), (2, .inl (n))] [] h Q) : ∀ (m : Nat) (k e : Int), m = (k + 1).toNat → -1 ≤ k → k < n → k < e → e ≤ n → (∀ j, k < j → j < n → rz_pl (mb h) j) → (∀ j, k < j → j < e → mb h j ≠ 35) → (e = n ∨ mb h e = 35) → ez_W (d + 7) cm_255 7 [(4, .inl (k)), (3, .inl (e)), (0, .inr (.inr (some (770)))), (1, .inl (w)), (2, .inl (n))] [] h Q := by
  intro m
  induction m with
  | zero =>
    intro k e hm k0 k1 he0 he1 hpl hno hat
    refine ez_go (n := 1) (pc' := 9) (L' := [(4, .inl (k)), (3, .inl (e)), (0, .inr (.inr (some (770)))), (1, .inl (w)), (2, .inl (n))]) (st' := [.inl (k)]) rfl ?_
    refine ez_if rfl rfl ⟨by first | omega | exact (sz_i32 _).1, by first | omega | exact (sz_i32 _).2⟩ (fun (c1 : (k) < (0)) => ?_) (fun (c1 : ¬((k) < (0))) => ?_)
    · skip
      refine ez_less [(3, .inl (e)), (0, .inr (.inr (some (770)))), (1, .inl (w)), (2, .inl (n))] rfl ⟨rfl, rfl, rfl, rfl, trivial⟩ ?_
      exact kx e (fun j j0 j1 => hpl j (by omega) j1) ⟨by omega, by omega, fun j j0 j1 => hno j (by omega) j1, hat⟩
    · exfalso; omega
  | succ m ih =>
    intro k e hm k0 k1 he0 he1 hpl hno hat
    refine ez_go (n := 1) (pc' := 9) (L' := [(4, .inl (k)), (3, .inl (e)), (0, .inr (.inr (some (770)))), (1, .inl (w)), (2, .inl (n))]) (st' := [.inl (k)]) rfl ?_
    refine ez_if rfl rfl ⟨by first | omega | exact (sz_i32 _).1, by first | omega | exact (sz_i32 _).2⟩ (fun (c1 : (k) < (0)) => ?_) (fun (c1 : ¬((k) < (0))) => ?_)
    · exfalso; omega
    · skip
      refine ez_go (n := 2) (pc' := 14) (L' := [(4, .inl (k)), (3, .inl (e)), (0, .inr (.inr (some (770)))), (1, .inl (w)), (2, .inl (n))]) (st' := [.inr (.inr (some (770))), .inr (.inr (some (770)))]) rfl ?_
      refine ez_gC (p := 771) (tg := 76) hB t770 rfl rfl tq_75 rfl rfl (fun (t771 : _ = 76) => ?_)
      refine ez_go (n := 1) (pc' := 19) (L' := [(4, .inl (k)), (3, .inl (e)), (0, .inr (.inr (some (770)))), (1, .inl (w)), (2, .inl (n))]) (st' := [.inl (k), .inr (.inr (some (771))), .inr (.inr (some (770)))]) rfl ?_
      have n3 : 4096 ≤ qz_N h 771 ∧ qz_N h 771 ≤ 4096 := ez_len hB t771 tq_76 rfl
      refine ez_aI hB t771 rfl tq_76 rfl rfl (by omega) (by omega) (fun (b2 : -128 ≤ qz_I h 771 (k).toNat) (b2' : qz_I h 771 (k).toNat ≤ 127) => ?_)
      refine ez_go (n := 1) (pc' := 22) (L' := [(4, .inl (k)), (3, .inl (e)), (0, .inr (.inr (some (770)))), (1, .inl (w)), (2, .inl (n))]) (st' := [.inl (9), .inl (qz_I h 771 (k).toNat), .inr (.inr (some (770)))]) rfl ?_
      refine ez_icmp rfl rfl ⟨by first | omega | exact (sz_i32 _).1, by first | omega | exact (sz_i32 _).2⟩ ⟨by first | omega | exact (sz_i32 _).1, by first | omega | exact (sz_i32 _).2⟩ (fun (c4 : (qz_I h 771 (k).toNat) = (9)) => ?_) (fun (c4 : ¬((qz_I h 771 (k).toNat) = (9))) => ?_)
      · skip
        refine ez_go (n := 2) (pc' := 54) (L' := [(4, .inl (k)), (3, .inl (e)), (0, .inr (.inr (some (770)))), (1, .inl (w)), (2, .inl (n))]) (st' := [.inl (1), .inr (.inr (some (770)))]) rfl ?_
        refine ez_cv hB t770 rfl rfl rfl tq_75 rfl rfl rfl (rd_can1 (by omega) (by omega) (ez_K0 ?_))
        refine ez_go (n := 1) (pc' := 58) (L' := [(4, .inl (k)), (3, .inl (e)), (0, .inr (.inr (some (770)))), (1, .inl (w)), (2, .inl (n))]) (st' := [.inr (.inr (some (770)))]) rfl ?_
        refine ez_gC (p := 771) (tg := 76) hB t770 rfl rfl tq_75 rfl rfl (fun (t771 : _ = 76) => ?_)
        refine ez_go (n := 1) (pc' := 63) (L' := [(4, .inl (k)), (3, .inl (e)), (0, .inr (.inr (some (770)))), (1, .inl (w)), (2, .inl (n))]) (st' := [.inl (k), .inr (.inr (some (771)))]) rfl ?_
        have n6 : 4096 ≤ qz_N h 771 ∧ qz_N h 771 ≤ 4096 := ez_len hB t771 tq_76 rfl
        refine ez_aI hB t771 rfl tq_76 rfl rfl (by omega) (by omega) (fun (b5 : -128 ≤ qz_I h 771 (k).toNat) (b5' : qz_I h 771 (k).toNat ≤ 127) => ?_)
        refine ez_go (n := 1) (pc' := 66) (L' := [(4, .inl (k)), (3, .inl (e)), (0, .inr (.inr (some (770)))), (1, .inl (w)), (2, .inl (n))]) (st' := [.inl (35), .inl (qz_I h 771 (k).toNat)]) rfl ?_
        refine ez_icmp rfl rfl ⟨by first | omega | exact (sz_i32 _).1, by first | omega | exact (sz_i32 _).2⟩ ⟨by first | omega | exact (sz_i32 _).1, by first | omega | exact (sz_i32 _).2⟩ (fun (c7 : (qz_I h 771 (k).toNat) ≠ (35)) => ?_) (fun (c7 : ¬((qz_I h 771 (k).toNat) ≠ (35))) => ?_)
        · skip
          refine ez_go (n := 2) (pc' := 7) (L' := [(4, .inl (k + (-1))), (3, .inl (e)), (0, .inr (.inr (some (770)))), (1, .inl (w)), (2, .inl (n))]) (st' := []) rfl ?_
          refine ez_less [(4, .inl (k + (-1))), (3, .inl (e)), (0, .inr (.inr (some (770)))), (1, .inl (w)), (2, .inl (n))] rfl ⟨rfl, rfl, rfl, rfl, rfl, trivial⟩ ?_
          have hplk : rz_pl (mb h) k := by unfold rz_pl mb; omega
          refine ih _ _ (by omega) (by omega) (by omega) (by omega) (by omega) (fun j j0 j1 => ?_) (fun j j0 j1 => ?_) ?_
          · by_cases e9 : j = k; (· rw [e9]; exact hplk); (· exact hpl j (by omega) j1)
          · by_cases e9 : j = k; (· rw [e9]; unfold mb; omega); (· exact hno j (by omega) j1)
          · exact hat
        · skip
          refine ez_go (n := 4) (pc' := 7) (L' := [(4, .inl (k + (-1))), (3, .inl (k)), (0, .inr (.inr (some (770)))), (1, .inl (w)), (2, .inl (n))]) (st' := []) rfl ?_
          refine ez_less [(4, .inl (k + (-1))), (3, .inl (k)), (0, .inr (.inr (some (770)))), (1, .inl (w)), (2, .inl (n))] rfl ⟨rfl, rfl, rfl, rfl, rfl, trivial⟩ ?_
          have hplk : rz_pl (mb h) k := by unfold rz_pl mb; omega
          refine ih _ _ (by omega) (by omega) (by omega) (by omega) (by omega) (fun j j0 j1 => ?_) (fun j j0 j1 => ?_) ?_
          · by_cases e9 : j = k; (· rw [e9]; exact hplk); (· exact hpl j (by omega) j1)
          · omega
          · exact Or.inr (by unfold mb; omega)
      · skip
        refine ez_go (n := 1) (pc' := 26) (L' := [(4, .inl (k)), (3, .inl (e)), (0, .inr (.inr (some (770)))), (1, .inl (w)), (2, .inl (n))]) (st' := [.inr (.inr (some (770))), .inr (.inr (some (770)))]) rfl ?_
        refine ez_gC (p := 771) (tg := 76) hB t770 rfl rfl tq_75 rfl rfl (fun (t771 : _ = 76) => ?_)
        refine ez_go (n := 1) (pc' := 31) (L' := [(4, .inl (k)), (3, .inl (e)), (0, .inr (.inr (some (770)))), (1, .inl (w)), (2, .inl (n))]) (st' := [.inl (k), .inr (.inr (some (771))), .inr (.inr (some (770)))]) rfl ?_
        have n9 : 4096 ≤ qz_N h 771 ∧ qz_N h 771 ≤ 4096 := ez_len hB t771 tq_76 rfl
        refine ez_aI hB t771 rfl tq_76 rfl rfl (by omega) (by omega) (fun (b8 : -128 ≤ qz_I h 771 (k).toNat) (b8' : qz_I h 771 (k).toNat ≤ 127) => ?_)
        refine ez_go (n := 1) (pc' := 34) (L' := [(4, .inl (k)), (3, .inl (e)), (0, .inr (.inr (some (770)))), (1, .inl (w)), (2, .inl (n))]) (st' := [.inl (32), .inl (qz_I h 771 (k).toNat), .inr (.inr (some (770)))]) rfl ?_
        refine ez_icmp rfl rfl ⟨by first | omega | exact (sz_i32 _).1, by first | omega | exact (sz_i32 _).2⟩ ⟨by first | omega | exact (sz_i32 _).1, by first | omega | exact (sz_i32 _).2⟩ (fun (c10 : (qz_I h 771 (k).toNat) < (32)) => ?_) (fun (c10 : ¬((qz_I h 771 (k).toNat) < (32))) => ?_)
        · skip
          refine ez_go (n := 1) (pc' := 54) (L' := [(4, .inl (k)), (3, .inl (e)), (0, .inr (.inr (some (770)))), (1, .inl (w)), (2, .inl (n))]) (st' := [.inl (0), .inr (.inr (some (770)))]) rfl ?_
          refine ez_cv hB t770 rfl rfl rfl tq_75 rfl rfl rfl (rd_can0 (by omega) (by omega) (ez_Kp (xc_exc hB rfl) rfl (kT (fun hp => by have := hp k (by omega) (by omega); unfold rz_pl mb at this; omega))))
        · skip
          refine ez_go (n := 1) (pc' := 38) (L' := [(4, .inl (k)), (3, .inl (e)), (0, .inr (.inr (some (770)))), (1, .inl (w)), (2, .inl (n))]) (st' := [.inr (.inr (some (770))), .inr (.inr (some (770)))]) rfl ?_
          refine ez_gC (p := 771) (tg := 76) hB t770 rfl rfl tq_75 rfl rfl (fun (t771 : _ = 76) => ?_)
          refine ez_go (n := 1) (pc' := 43) (L' := [(4, .inl (k)), (3, .inl (e)), (0, .inr (.inr (some (770)))), (1, .inl (w)), (2, .inl (n))]) (st' := [.inl (k), .inr (.inr (some (771))), .inr (.inr (some (770)))]) rfl ?_
          have n12 : 4096 ≤ qz_N h 771 ∧ qz_N h 771 ≤ 4096 := ez_len hB t771 tq_76 rfl
          refine ez_aI hB t771 rfl tq_76 rfl rfl (by omega) (by omega) (fun (b11 : -128 ≤ qz_I h 771 (k).toNat) (b11' : qz_I h 771 (k).toNat ≤ 127) => ?_)
          refine ez_go (n := 1) (pc' := 46) (L' := [(4, .inl (k)), (3, .inl (e)), (0, .inr (.inr (some (770)))), (1, .inl (w)), (2, .inl (n))]) (st' := [.inl (126), .inl (qz_I h 771 (k).toNat), .inr (.inr (some (770)))]) rfl ?_
          refine ez_icmp rfl rfl ⟨by first | omega | exact (sz_i32 _).1, by first | omega | exact (sz_i32 _).2⟩ ⟨by first | omega | exact (sz_i32 _).1, by first | omega | exact (sz_i32 _).2⟩ (fun (c13 : (126) < (qz_I h 771 (k).toNat)) => ?_) (fun (c13 : ¬((126) < (qz_I h 771 (k).toNat))) => ?_)
          · skip
            refine ez_go (n := 1) (pc' := 54) (L' := [(4, .inl (k)), (3, .inl (e)), (0, .inr (.inr (some (770)))), (1, .inl (w)), (2, .inl (n))]) (st' := [.inl (0), .inr (.inr (some (770)))]) rfl ?_
            refine ez_cv hB t770 rfl rfl rfl tq_75 rfl rfl rfl (rd_can0 (by omega) (by omega) (ez_Kp (xc_exc hB rfl) rfl (kT (fun hp => by have := hp k (by omega) (by omega); unfold rz_pl mb at this; omega))))
          · skip
            refine ez_go (n := 2) (pc' := 54) (L' := [(4, .inl (k)), (3, .inl (e)), (0, .inr (.inr (some (770)))), (1, .inl (w)), (2, .inl (n))]) (st' := [.inl (1), .inr (.inr (some (770)))]) rfl ?_
            refine ez_cv hB t770 rfl rfl rfl tq_75 rfl rfl rfl (rd_can1 (by omega) (by omega) (ez_K0 ?_))
            refine ez_go (n := 1) (pc' := 58) (L' := [(4, .inl (k)), (3, .inl (e)), (0, .inr (.inr (some (770)))), (1, .inl (w)), (2, .inl (n))]) (st' := [.inr (.inr (some (770)))]) rfl ?_
            refine ez_gC (p := 771) (tg := 76) hB t770 rfl rfl tq_75 rfl rfl (fun (t771 : _ = 76) => ?_)
            refine ez_go (n := 1) (pc' := 63) (L' := [(4, .inl (k)), (3, .inl (e)), (0, .inr (.inr (some (770)))), (1, .inl (w)), (2, .inl (n))]) (st' := [.inl (k), .inr (.inr (some (771)))]) rfl ?_
            have n15 : 4096 ≤ qz_N h 771 ∧ qz_N h 771 ≤ 4096 := ez_len hB t771 tq_76 rfl
            refine ez_aI hB t771 rfl tq_76 rfl rfl (by omega) (by omega) (fun (b14 : -128 ≤ qz_I h 771 (k).toNat) (b14' : qz_I h 771 (k).toNat ≤ 127) => ?_)
            refine ez_go (n := 1) (pc' := 66) (L' := [(4, .inl (k)), (3, .inl (e)), (0, .inr (.inr (some (770)))), (1, .inl (w)), (2, .inl (n))]) (st' := [.inl (35), .inl (qz_I h 771 (k).toNat)]) rfl ?_
            refine ez_icmp rfl rfl ⟨by first | omega | exact (sz_i32 _).1, by first | omega | exact (sz_i32 _).2⟩ ⟨by first | omega | exact (sz_i32 _).1, by first | omega | exact (sz_i32 _).2⟩ (fun (c16 : (qz_I h 771 (k).toNat) ≠ (35)) => ?_) (fun (c16 : ¬((qz_I h 771 (k).toNat) ≠ (35))) => ?_)
            · skip
              refine ez_go (n := 2) (pc' := 7) (L' := [(4, .inl (k + (-1))), (3, .inl (e)), (0, .inr (.inr (some (770)))), (1, .inl (w)), (2, .inl (n))]) (st' := []) rfl ?_
              refine ez_less [(4, .inl (k + (-1))), (3, .inl (e)), (0, .inr (.inr (some (770)))), (1, .inl (w)), (2, .inl (n))] rfl ⟨rfl, rfl, rfl, rfl, rfl, trivial⟩ ?_
              have hplk : rz_pl (mb h) k := by unfold rz_pl mb; omega
              refine ih _ _ (by omega) (by omega) (by omega) (by omega) (by omega) (fun j j0 j1 => ?_) (fun j j0 j1 => ?_) ?_
              · by_cases e9 : j = k; (· rw [e9]; exact hplk); (· exact hpl j (by omega) j1)
              · by_cases e9 : j = k; (· rw [e9]; unfold mb; omega); (· exact hno j (by omega) j1)
              · exact hat
            · skip
              refine ez_go (n := 4) (pc' := 7) (L' := [(4, .inl (k + (-1))), (3, .inl (k)), (0, .inr (.inr (some (770)))), (1, .inl (w)), (2, .inl (n))]) (st' := []) rfl ?_
              refine ez_less [(4, .inl (k + (-1))), (3, .inl (k)), (0, .inr (.inr (some (770)))), (1, .inl (w)), (2, .inl (n))] rfl ⟨rfl, rfl, rfl, rfl, rfl, trivial⟩ ?_
              have hplk : rz_pl (mb h) k := by unfold rz_pl mb; omega
              refine ih _ _ (by omega) (by omega) (by omega) (by omega) (by omega) (fun j j0 j1 => ?_) (fun j j0 j1 => ?_) ?_
              · by_cases e9 : j = k; (· rw [e9]; exact hplk); (· exact hpl j (by omega) j1)
              · omega
              · exact Or.inr (by unfold mb; omega)
theorem rd_fields_2 {w n e : Int} (t770 : τ 770 = 75) (t771 : τ 771 = 76) (hr1 : h.1 + 1 ≤ 600192) (hr2 : h.2.1 + 6 ≤ 7302232) (e1 : e ≤ 4096) (w1 : w ≤ 7) (kT : (rz_seg (mb h) e.toNat 0 0).length ≠ w.toNat → ∀ g, ez_B τ g → ez_fr nz_PF h g → Q (.inr g.1, xc g 1)) (kx : ∀ g A s f, ez_B τ g → ez_fr nz_PF h g → f = (A.length : Int) → f < w → rz_seg (mb h) e.toNat 0 0 = A ++ [(s, e)] → mz_c g A → mf g f = s → ez_W (d + 7) cm_255 158 [(4, .inl (f)), (3, .inl (e)), (0, .inr (.inr (some (770)))), (1, .inl (w)), (2, .inl (n))] [] g Q) : ∀ (m : Nat) (k s f : Int) (g : cz_H) (A : List (Int × Int)), m = (e - k).toNat → 0 ≤ s → s ≤ k → k ≤ e → ez_B τ g → ez_fr nz_PF h g → f = (A.length : Int) → f < w → rz_seg (mb h) e.toNat 0 0 = A ++ rz_seg (mb h) m k s → mz_c g A → mf g f = s → ez_W (d + 7) cm_255 91 [(5, .inl (k)), (4, .inl (f)), (3, .inl (e)), (0, .inr (.inr (some (770)))), (1, .inl (w)), (2, .inl (n))] [] g Q := by
  intro m
  induction m with
  | zero =>
    intro k s f g A hm s0 s1 k1 hB hf hA fw hseg hc hs
    have c1 := hf.1
    have c2 := hf.2.1
    have bg : ∀ i, qz_I g 771 i = qz_I h 771 i := fun i => hf.I rfl i
    refine ez_go (n := 2) (pc' := 94) (L' := [(5, .inl (k)), (4, .inl (f)), (3, .inl (e)), (0, .inr (.inr (some (770)))), (1, .inl (w)), (2, .inl (n))]) (st' := [.inl (e), .inl (k)]) rfl ?_
    refine ez_icmp rfl rfl ⟨by first | omega | exact (sz_i32 _).1, by first | omega | exact (sz_i32 _).2⟩ ⟨by first | omega | exact (sz_i32 _).1, by first | omega | exact (sz_i32 _).2⟩ (fun (c1 : (e) ≤ (k)) => ?_) (fun (c1 : ¬((e) ≤ (k))) => ?_)
    · skip
      refine ez_less [(4, .inl (f)), (3, .inl (e)), (0, .inr (.inr (some (770)))), (1, .inl (w)), (2, .inl (n))] rfl ⟨rfl, rfl, rfl, rfl, rfl, trivial⟩ ?_
      have ek : k = e := by omega
      subst ek
      exact kx g A s f hB hf hA fw (by rw [hseg]; rfl) hc hs
    · exfalso; omega
  | succ m ih =>
    intro k s f g A hm s0 s1 k1 hB hf hA fw hseg hc hs
    have c1 := hf.1
    have c2 := hf.2.1
    have bg : ∀ i, qz_I g 771 i = qz_I h 771 i := fun i => hf.I rfl i
    have hk9 := bg k.toNat
    refine ez_go (n := 2) (pc' := 94) (L' := [(5, .inl (k)), (4, .inl (f)), (3, .inl (e)), (0, .inr (.inr (some (770)))), (1, .inl (w)), (2, .inl (n))]) (st' := [.inl (e), .inl (k)]) rfl ?_
    refine ez_icmp rfl rfl ⟨by first | omega | exact (sz_i32 _).1, by first | omega | exact (sz_i32 _).2⟩ ⟨by first | omega | exact (sz_i32 _).1, by first | omega | exact (sz_i32 _).2⟩ (fun (c1 : (e) ≤ (k)) => ?_) (fun (c1 : ¬((e) ≤ (k))) => ?_)
    · exfalso; omega
    · skip
      refine ez_go (n := 1) (pc' := 98) (L' := [(5, .inl (k)), (4, .inl (f)), (3, .inl (e)), (0, .inr (.inr (some (770)))), (1, .inl (w)), (2, .inl (n))]) (st' := [.inr (.inr (some (770)))]) rfl ?_
      refine ez_gC (p := 771) (tg := 76) hB t770 rfl rfl tq_75 rfl rfl (fun (t771 : _ = 76) => ?_)
      refine ez_go (n := 1) (pc' := 103) (L' := [(5, .inl (k)), (4, .inl (f)), (3, .inl (e)), (0, .inr (.inr (some (770)))), (1, .inl (w)), (2, .inl (n))]) (st' := [.inl (k), .inr (.inr (some (771)))]) rfl ?_
      have n3 : 4096 ≤ qz_N g 771 ∧ qz_N g 771 ≤ 4096 := ez_len hB t771 tq_76 rfl
      refine ez_aI hB t771 rfl tq_76 rfl rfl (by omega) (by omega) (fun (b2 : -128 ≤ qz_I g 771 (k).toNat) (b2' : qz_I g 771 (k).toNat ≤ 127) => ?_)
      refine ez_go (n := 1) (pc' := 106) (L' := [(5, .inl (k)), (4, .inl (f)), (3, .inl (e)), (0, .inr (.inr (some (770)))), (1, .inl (w)), (2, .inl (n))]) (st' := [.inl (59), .inl (qz_I g 771 (k).toNat)]) rfl ?_
      refine ez_icmp rfl rfl ⟨by first | omega | exact (sz_i32 _).1, by first | omega | exact (sz_i32 _).2⟩ ⟨by first | omega | exact (sz_i32 _).1, by first | omega | exact (sz_i32 _).2⟩ (fun (c4 : (qz_I g 771 (k).toNat) = (59)) => ?_) (fun (c4 : ¬((qz_I g 771 (k).toNat) = (59))) => ?_)
      · skip
        refine ez_go (n := 5) (pc' := 118) (L' := [(5, .inl (k)), (4, .inl (f)), (3, .inl (e)), (0, .inr (.inr (some (770)))), (1, .inl (w)), (2, .inl (n))]) (st' := [.inl (w), .inl ((f) + (1)), .inr (.inr (some (770)))]) rfl ?_
        refine ez_icmp rfl rfl ⟨by first | omega | exact (sz_i32 _).1, by first | omega | exact (sz_i32 _).2⟩ ⟨by first | omega | exact (sz_i32 _).1, by first | omega | exact (sz_i32 _).2⟩ (fun (c5 : (w) ≤ ((f) + (1))) => ?_) (fun (c5 : ¬((w) ≤ ((f) + (1)))) => ?_)
        · skip
          refine ez_go (n := 1) (pc' := 126) (L' := [(5, .inl (k)), (4, .inl (f)), (3, .inl (e)), (0, .inr (.inr (some (770)))), (1, .inl (w)), (2, .inl (n))]) (st' := [.inl (0), .inr (.inr (some (770)))]) rfl ?_
          refine ez_cv hB t770 rfl rfl rfl tq_75 rfl rfl rfl (rd_can0 (by omega) (by omega) (ez_Kp (xc_exc hB rfl) rfl (kT (by rw [hseg, List.length_append, rz_seg, if_pos (by show qz_I h 771 k.toNat = 59; omega), List.length_cons]; have := rz_seg_pos (mb h) m (k + 1) (k + 1); omega) g hB hf)))
        · skip
          refine ez_go (n := 2) (pc' := 126) (L' := [(5, .inl (k)), (4, .inl (f)), (3, .inl (e)), (0, .inr (.inr (some (770)))), (1, .inl (w)), (2, .inl (n))]) (st' := [.inl (1), .inr (.inr (some (770)))]) rfl ?_
          refine ez_cv hB t770 rfl rfl rfl tq_75 rfl rfl rfl (rd_can1 (by omega) (by omega) (ez_K0 ?_))
          refine ez_go (n := 1) (pc' := 130) (L' := [(5, .inl (k)), (4, .inl (f)), (3, .inl (e)), (0, .inr (.inr (some (770)))), (1, .inl (w)), (2, .inl (n))]) (st' := [.inr (.inr (some (770)))]) rfl ?_
          refine ez_gC (p := 790) (tg := 81) hB t770 rfl rfl tq_75 rfl rfl (fun (t790 : _ = 81) => ?_)
          refine ez_go (n := 2) (pc' := 137) (L' := [(5, .inl (k)), (4, .inl (f)), (3, .inl (e)), (0, .inr (.inr (some (770)))), (1, .inl (w)), (2, .inl (n))]) (st' := [.inl (k), .inl (f), .inr (.inr (some (790)))]) rfl ?_
          have n8 : 8 ≤ qz_N g 790 ∧ qz_N g 790 ≤ 8 := ez_len hB t790 tq_81 rfl
          refine ez_as hB t790 rfl tq_81 rfl rfl (by omega) (by omega) (ez_vdI rfl rfl (by omega) (by omega)) (fun hB6 w7 => ?_)
          refine ez_go (n := 2) (pc' := 142) (L' := [(4, .inl (f + 1)), (5, .inl (k)), (3, .inl (e)), (0, .inr (.inr (some (770)))), (1, .inl (w)), (2, .inl (n))]) (st' := [.inr (.inr (some (770)))]) rfl ?_
          refine ez_gC (p := 789) (tg := 80) hB6 t770 rfl rfl tq_75 rfl rfl (fun (t789 : _ = 80) => ?_)
          refine ez_go (n := 4) (pc' := 151) (L' := [(4, .inl (f + 1)), (5, .inl (k)), (3, .inl (e)), (0, .inr (.inr (some (770)))), (1, .inl (w)), (2, .inl (n))]) (st' := [.inl ((k) + (1)), .inl (f + 1), .inr (.inr (some (789)))]) rfl ?_
          have n11 : 8 ≤ qz_N (dz_put g 790 (f).toNat (ez_v (.inl (k)))) 789 ∧ qz_N (dz_put g 790 (f).toNat (ez_v (.inl (k)))) 789 ≤ 8 := ez_len hB6 t789 tq_80 rfl
          refine ez_as hB6 t789 rfl tq_80 rfl rfl (by omega) (by omega) (ez_vdI rfl rfl (by omega) (by omega)) (fun hB9 w10 => ?_)
          refine ez_go (n := 2) (pc' := 91) (L' := [(5, .inl (k + 1)), (4, .inl (f + 1)), (3, .inl (e)), (0, .inr (.inr (some (770)))), (1, .inl (w)), (2, .inl (n))]) (st' := []) rfl ?_
          refine ez_less [(5, .inl (k + 1)), (4, .inl (f + 1)), (3, .inl (e)), (0, .inr (.inr (some (770)))), (1, .inl (w)), (2, .inl (n))] rfl ⟨rfl, rfl, rfl, rfl, rfl, rfl, trivial⟩ ?_
          refine ih (k + 1) (k + 1) (f + 1) _ (A ++ [(s, k)]) (by omega) (by omega) (by omega) (by omega) hB9 ((hf.put (show nz_PF 790 = true from rfl) _ _).put (show nz_PF 789 = true from rfl) _ _) (by rw [List.length_append, List.length_singleton]; omega) (by omega) ?_ ?_ ?_
          · rw [hseg, rz_seg, if_pos (by show qz_I h 771 k.toNat = 59; omega), List.append_assoc]; rfl
          · intro j p hj
            by_cases e9 : j < A.length
            · rw [List.getElem?_append_left e9] at hj
              obtain ⟨q1, q2⟩ := hc j p hj
              unfold mf mt at *
              rw [ez_put_I (by omega), ez_put_I (by omega), ez_put_I (by omega), ez_put_I (by omega)]; exact ⟨q1, q2⟩
            · rw [List.getElem?_append_right (by omega)] at hj
              have e10 : j = A.length := by have := (List.getElem?_eq_some_iff.mp hj).1; simp only [List.length_singleton] at this; omega
              subst e10
              rw [Nat.sub_self] at hj
              cases hj
              unfold mf mt at *
              rw [ez_put_I (by omega), ez_put_I (by omega)]
              refine ⟨by rw [← hA]; exact hs, ?_⟩
              rw [ez_put_I (by omega), ← hA, w7, rz_rd ⟨by omega, by omega⟩]
          · unfold mf; rw [w10, rz_rd ⟨by omega, by omega⟩]
      · skip
        refine ez_go (n := 3) (pc' := 91) (L' := [(5, .inl (k + 1)), (4, .inl (f)), (3, .inl (e)), (0, .inr (.inr (some (770)))), (1, .inl (w)), (2, .inl (n))]) (st' := []) rfl ?_
        refine ez_less [(5, .inl (k + 1)), (4, .inl (f)), (3, .inl (e)), (0, .inr (.inr (some (770)))), (1, .inl (w)), (2, .inl (n))] rfl ⟨rfl, rfl, rfl, rfl, rfl, rfl, trivial⟩ ?_
        refine ih (k + 1) s f g A (by omega) s0 (by omega) (by omega) hB hf hA fw ?_ hc hs
        rw [hseg, rz_seg, if_neg (by show ¬ qz_I h 771 k.toNat = 59; omega)]
end EzMf
/-! The model reads: fields are trimmed. (Written by wip/p2/py/pv52.py.) -/
section EzMg
variable {d : Nat} {h : cz_H} {τ : Nat → Nat} {Q : cz_F → Prop}
/-- only one field's bounds have changed -/
def mz_k (h g : cz_H) (k : Int) : Prop := ez_fr nz_PF h g ∧ ∀ j : Int, 0 ≤ j → j ≠ k → mf g j = mf h j ∧ mt g j = mt h j
theorem mz_k.trans {h g g2 : cz_H} {k : Int} (a : mz_k h g k) (b : mz_k g g2 k) : mz_k h g2 k := ⟨a.1.trans b.1, fun j j0 hj => ⟨(b.2 j j0 hj).1.trans (a.2 j j0 hj).1, (b.2 j j0 hj).2.trans (a.2 j j0 hj).2⟩⟩
theorem rd_fields_L {w k : Int} (t770 : τ 770 = 75) (k0 : 0 ≤ k) (k1 : k < 8) : ∀ (m : Nat) (g : cz_H), m = (mt g k - mf g k).toNat → mf g k ≤ mt g k → ez_B τ g → mz_k h g k → (∀ g2, ez_B τ g2 → mz_k h g2 k → mf g2 k = rz_skip (mb h) m (mf g k) → mt g2 k = mt g k → ez_W (d + 7) cm_255 242 [(5, .inl (k)), (0, .inr (.inr (some (770)))), (1, .inl (w))] [] g2 Q) → ez_W (d + 7) cm_255 192 [(5, .inl (k)), (0, .inr (.inr (some (770)))), (1, .inl (w))] [] g Q := by
  intro m
  induction m with
  | zero =>
    intro g hm hle hB hk kx
    have ha9 : qz_I g 789 (k).toNat = mf g k := rfl
    have ht9 : qz_I g 790 (k).toNat = mt g k := rfl
    have bg : ∀ i, qz_I g 771 i = qz_I h 771 i := fun i => hk.1.I rfl i
    refine ez_go (n := 1) (pc' := 193) (L' := [(5, .inl (k)), (0, .inr (.inr (some (770)))), (1, .inl (w))]) (st' := [.inr (.inr (some (770)))]) rfl ?_
    refine ez_gC (p := 789) (tg := 80) hB t770 rfl rfl tq_75 rfl rfl (fun (t789 : _ = 80) => ?_)
    refine ez_go (n := 1) (pc' := 198) (L' := [(5, .inl (k)), (0, .inr (.inr (some (770)))), (1, .inl (w))]) (st' := [.inl (k), .inr (.inr (some (789)))]) rfl ?_
    have n2 : 8 ≤ qz_N g 789 ∧ qz_N g 789 ≤ 8 := ez_len hB t789 tq_80 rfl
    refine ez_aI hB t789 rfl tq_80 rfl rfl (by omega) (by omega) (fun (b1 : 0 ≤ qz_I g 789 (k).toNat) (b1' : qz_I g 789 (k).toNat ≤ 4096) => ?_)
    refine ez_go (n := 1) (pc' := 200) (L' := [(5, .inl (k)), (0, .inr (.inr (some (770)))), (1, .inl (w))]) (st' := [.inr (.inr (some (770))), .inl (qz_I g 789 (k).toNat)]) rfl ?_
    refine ez_gC (p := 790) (tg := 81) hB t770 rfl rfl tq_75 rfl rfl (fun (t790 : _ = 81) => ?_)
    refine ez_go (n := 1) (pc' := 205) (L' := [(5, .inl (k)), (0, .inr (.inr (some (770)))), (1, .inl (w))]) (st' := [.inl (k), .inr (.inr (some (790))), .inl (qz_I g 789 (k).toNat)]) rfl ?_
    have n4 : 8 ≤ qz_N g 790 ∧ qz_N g 790 ≤ 8 := ez_len hB t790 tq_81 rfl
    refine ez_aI hB t790 rfl tq_81 rfl rfl (by omega) (by omega) (fun (b3 : 0 ≤ qz_I g 790 (k).toNat) (b3' : qz_I g 790 (k).toNat ≤ 4096) => ?_)
    refine ez_icmp rfl rfl ⟨by first | omega | exact (sz_i32 _).1, by first | omega | exact (sz_i32 _).2⟩ ⟨by first | omega | exact (sz_i32 _).1, by first | omega | exact (sz_i32 _).2⟩ (fun (c5 : (qz_I g 790 (k).toNat) ≤ (qz_I g 789 (k).toNat)) => ?_) (fun (c5 : ¬((qz_I g 790 (k).toNat) ≤ (qz_I g 789 (k).toNat))) => ?_)
    · skip
      refine ez_less [(5, .inl (k)), (0, .inr (.inr (some (770)))), (1, .inl (w))] rfl ⟨rfl, rfl, rfl, trivial⟩ ?_
      exact kx g hB hk rfl rfl
    · exfalso; omega
  | succ m ih =>
    intro g hm hle hB hk kx
    have ha9 : qz_I g 789 (k).toNat = mf g k := rfl
    have ht9 : qz_I g 790 (k).toNat = mt g k := rfl
    have bg : ∀ i, qz_I g 771 i = qz_I h 771 i := fun i => hk.1.I rfl i
    refine ez_go (n := 1) (pc' := 193) (L' := [(5, .inl (k)), (0, .inr (.inr (some (770)))), (1, .inl (w))]) (st' := [.inr (.inr (some (770)))]) rfl ?_
    refine ez_gC (p := 789) (tg := 80) hB t770 rfl rfl tq_75 rfl rfl (fun (t789 : _ = 80) => ?_)
    refine ez_go (n := 1) (pc' := 198) (L' := [(5, .inl (k)), (0, .inr (.inr (some (770)))), (1, .inl (w))]) (st' := [.inl (k), .inr (.inr (some (789)))]) rfl ?_
    have n2 : 8 ≤ qz_N g 789 ∧ qz_N g 789 ≤ 8 := ez_len hB t789 tq_80 rfl
    refine ez_aI hB t789 rfl tq_80 rfl rfl (by omega) (by omega) (fun (b1 : 0 ≤ qz_I g 789 (k).toNat) (b1' : qz_I g 789 (k).toNat ≤ 4096) => ?_)
    refine ez_go (n := 1) (pc' := 200) (L' := [(5, .inl (k)), (0, .inr (.inr (some (770)))), (1, .inl (w))]) (st' := [.inr (.inr (some (770))), .inl (qz_I g 789 (k).toNat)]) rfl ?_
    refine ez_gC (p := 790) (tg := 81) hB t770 rfl rfl tq_75 rfl rfl (fun (t790 : _ = 81) => ?_)
    refine ez_go (n := 1) (pc' := 205) (L' := [(5, .inl (k)), (0, .inr (.inr (some (770)))), (1, .inl (w))]) (st' := [.inl (k), .inr (.inr (some (790))), .inl (qz_I g 789 (k).toNat)]) rfl ?_
    have n4 : 8 ≤ qz_N g 790 ∧ qz_N g 790 ≤ 8 := ez_len hB t790 tq_81 rfl
    refine ez_aI hB t790 rfl tq_81 rfl rfl (by omega) (by omega) (fun (b3 : 0 ≤ qz_I g 790 (k).toNat) (b3' : qz_I g 790 (k).toNat ≤ 4096) => ?_)
    refine ez_icmp rfl rfl ⟨by first | omega | exact (sz_i32 _).1, by first | omega | exact (sz_i32 _).2⟩ ⟨by first | omega | exact (sz_i32 _).1, by first | omega | exact (sz_i32 _).2⟩ (fun (c5 : (qz_I g 790 (k).toNat) ≤ (qz_I g 789 (k).toNat)) => ?_) (fun (c5 : ¬((qz_I g 790 (k).toNat) ≤ (qz_I g 789 (k).toNat))) => ?_)
    · exfalso; omega
    · skip
      refine ez_go (n := 2) (pc' := 211) (L' := [(5, .inl (k)), (0, .inr (.inr (some (770)))), (1, .inl (w))]) (st' := [.inr (.inr (some (770))), .inr (.inr (some (770)))]) rfl ?_
      refine ez_gC (p := 771) (tg := 76) hB t770 rfl rfl tq_75 rfl rfl (fun (t771 : _ = 76) => ?_)
      refine ez_go (n := 1) (pc' := 215) (L' := [(5, .inl (k)), (0, .inr (.inr (some (770)))), (1, .inl (w))]) (st' := [.inr (.inr (some (770))), .inr (.inr (some (771))), .inr (.inr (some (770)))]) rfl ?_
      refine ez_gC (p := 789) (tg := 80) hB t770 rfl rfl tq_75 rfl rfl (fun (t789 : _ = 80) => ?_)
      refine ez_go (n := 1) (pc' := 220) (L' := [(5, .inl (k)), (0, .inr (.inr (some (770)))), (1, .inl (w))]) (st' := [.inl (k), .inr (.inr (some (789))), .inr (.inr (some (771))), .inr (.inr (some (770)))]) rfl ?_
      have n7 : 8 ≤ qz_N g 789 ∧ qz_N g 789 ≤ 8 := ez_len hB t789 tq_80 rfl
      refine ez_aI hB t789 rfl tq_80 rfl rfl (by omega) (by omega) (fun (b6 : 0 ≤ qz_I g 789 (k).toNat) (b6' : qz_I g 789 (k).toNat ≤ 4096) => ?_)
      have n9 : 4096 ≤ qz_N g 771 ∧ qz_N g 771 ≤ 4096 := ez_len hB t771 tq_76 rfl
      refine ez_aI hB t771 rfl tq_76 rfl rfl (by omega) (by omega) (fun (b8 : -128 ≤ qz_I g 771 (qz_I g 789 (k).toNat).toNat) (b8' : qz_I g 771 (qz_I g 789 (k).toNat).toNat ≤ 127) => ?_)
      refine ez_cv hB t770 rfl rfl rfl tq_75 rfl rfl rfl (rd_mblank (by omega) (by omega) (fun e => ez_K1 ?_) (fun e => ez_K1 ?_))
      · skip
        refine ez_if rfl rfl ⟨by decide, by decide⟩ (fun (c10 : (1 : Int) = (0)) => absurd c10 (by decide)) (fun _ => ?_)
        refine ez_go (n := 1) (pc' := 229) (L' := [(5, .inl (k)), (0, .inr (.inr (some (770)))), (1, .inl (w))]) (st' := [.inr (.inr (some (770)))]) rfl ?_
        refine ez_gC (p := 789) (tg := 80) hB t770 rfl rfl tq_75 rfl rfl (fun (t789 : _ = 80) => ?_)
        refine ez_go (n := 2) (pc' := 235) (L' := [(5, .inl (k)), (0, .inr (.inr (some (770)))), (1, .inl (w))]) (st' := [.inl (k), .inr (.inr (some (789))), .inl (k), .inr (.inr (some (789)))]) rfl ?_
        have n12 : 8 ≤ qz_N g 789 ∧ qz_N g 789 ≤ 8 := ez_len hB t789 tq_80 rfl
        refine ez_aI hB t789 rfl tq_80 rfl rfl (by omega) (by omega) (fun (b11 : 0 ≤ qz_I g 789 (k).toNat) (b11' : qz_I g 789 (k).toNat ≤ 4096) => ?_)
        refine ez_go (n := 2) (pc' := 238) (L' := [(5, .inl (k)), (0, .inr (.inr (some (770)))), (1, .inl (w))]) (st' := [.inl ((qz_I g 789 (k).toNat) + (1)), .inl (k), .inr (.inr (some (789)))]) rfl ?_
        have n15 : 8 ≤ qz_N g 789 ∧ qz_N g 789 ≤ 8 := ez_len hB t789 tq_80 rfl
        refine ez_as hB t789 rfl tq_80 rfl rfl (by omega) (by omega) (ez_vdI rfl rfl (by omega) (by omega)) (fun hB13 w14 => ?_)
        refine ez_go (n := 1) (pc' := 192) (L' := [(5, .inl (k)), (0, .inr (.inr (some (770)))), (1, .inl (w))]) (st' := []) rfl ?_
        refine ez_less [(5, .inl (k)), (0, .inr (.inr (some (770)))), (1, .inl (w))] rfl ⟨rfl, rfl, rfl, trivial⟩ ?_
        have hbl : mb h (mf g k) = 9 ∨ mb h (mf g k) = 32 := by have := bg (mf g k).toNat; unfold mb; rw [← this]; exact e
        have a9 : mf (dz_put g 789 (k).toNat (ez_v (.inl ((qz_I g 789 (k).toNat) + (1))))) k = mf g k + 1 := by unfold mf; rw [w14, rz_rd ⟨by omega, by omega⟩]
        have b9 : mt (dz_put g 789 (k).toNat (ez_v (.inl ((qz_I g 789 (k).toNat) + (1))))) k = mt g k := by unfold mt; exact ez_put_I (by omega)
        have k9 : mz_k g (dz_put g 789 (k).toNat (ez_v (.inl ((qz_I g 789 (k).toNat) + (1))))) k := ⟨(ez_fr.refl nz_PF g).put (show nz_PF 789 = true from rfl) _ _, fun j j0 hj => ⟨by unfold mf; exact ez_put_I (by omega), by unfold mt; exact ez_put_I (by omega)⟩⟩
        refine ih _ (by rw [a9, b9]; omega) (by rw [a9, b9]; omega) hB13 (hk.trans k9) (fun g2 q1 q2 q3 q4 => kx g2 q1 q2 ?_ (q4.trans b9))
        rw [q3, a9, rz_skip, if_pos hbl]
      · skip
        refine ez_if rfl rfl ⟨by decide, by decide⟩ (fun _ => ?_) (fun (c16 : ¬((0 : Int) = (0))) => absurd c16 (by decide))
        refine ez_less [(5, .inl (k)), (0, .inr (.inr (some (770)))), (1, .inl (w))] rfl ⟨rfl, rfl, rfl, trivial⟩ ?_
        refine kx g hB hk ?_ rfl
        rw [rz_skip, if_neg (by have := bg (mf g k).toNat; unfold mb; rw [← this]; exact e)]
theorem rd_fields_R {w k : Int} (t770 : τ 770 = 75) (k0 : 0 ≤ k) (k1 : k < 8) : ∀ (m : Nat) (g : cz_H), m = (mt g k - mf g k).toNat → mf g k ≤ mt g k → ez_B τ g → mz_k h g k → (∀ g2, ez_B τ g2 → mz_k h g2 k → mt g2 k = rz_back (mb h) m (mt g k) → mf g2 k = mf g k → ez_W (d + 7) cm_255 294 [(5, .inl (k)), (0, .inr (.inr (some (770)))), (1, .inl (w))] [] g2 Q) → ez_W (d + 7) cm_255 242 [(5, .inl (k)), (0, .inr (.inr (some (770)))), (1, .inl (w))] [] g Q := by
  intro m
  induction m with
  | zero =>
    intro g hm hle hB hk kx
    have ha9 : qz_I g 789 (k).toNat = mf g k := rfl
    have ht9 : qz_I g 790 (k).toNat = mt g k := rfl
    have bg : ∀ i, qz_I g 771 i = qz_I h 771 i := fun i => hk.1.I rfl i
    refine ez_go (n := 1) (pc' := 243) (L' := [(5, .inl (k)), (0, .inr (.inr (some (770)))), (1, .inl (w))]) (st' := [.inr (.inr (some (770)))]) rfl ?_
    refine ez_gC (p := 789) (tg := 80) hB t770 rfl rfl tq_75 rfl rfl (fun (t789 : _ = 80) => ?_)
    refine ez_go (n := 1) (pc' := 248) (L' := [(5, .inl (k)), (0, .inr (.inr (some (770)))), (1, .inl (w))]) (st' := [.inl (k), .inr (.inr (some (789)))]) rfl ?_
    have n2 : 8 ≤ qz_N g 789 ∧ qz_N g 789 ≤ 8 := ez_len hB t789 tq_80 rfl
    refine ez_aI hB t789 rfl tq_80 rfl rfl (by omega) (by omega) (fun (b1 : 0 ≤ qz_I g 789 (k).toNat) (b1' : qz_I g 789 (k).toNat ≤ 4096) => ?_)
    refine ez_go (n := 1) (pc' := 250) (L' := [(5, .inl (k)), (0, .inr (.inr (some (770)))), (1, .inl (w))]) (st' := [.inr (.inr (some (770))), .inl (qz_I g 789 (k).toNat)]) rfl ?_
    refine ez_gC (p := 790) (tg := 81) hB t770 rfl rfl tq_75 rfl rfl (fun (t790 : _ = 81) => ?_)
    refine ez_go (n := 1) (pc' := 255) (L' := [(5, .inl (k)), (0, .inr (.inr (some (770)))), (1, .inl (w))]) (st' := [.inl (k), .inr (.inr (some (790))), .inl (qz_I g 789 (k).toNat)]) rfl ?_
    have n4 : 8 ≤ qz_N g 790 ∧ qz_N g 790 ≤ 8 := ez_len hB t790 tq_81 rfl
    refine ez_aI hB t790 rfl tq_81 rfl rfl (by omega) (by omega) (fun (b3 : 0 ≤ qz_I g 790 (k).toNat) (b3' : qz_I g 790 (k).toNat ≤ 4096) => ?_)
    refine ez_icmp rfl rfl ⟨by first | omega | exact (sz_i32 _).1, by first | omega | exact (sz_i32 _).2⟩ ⟨by first | omega | exact (sz_i32 _).1, by first | omega | exact (sz_i32 _).2⟩ (fun (c5 : (qz_I g 790 (k).toNat) ≤ (qz_I g 789 (k).toNat)) => ?_) (fun (c5 : ¬((qz_I g 790 (k).toNat) ≤ (qz_I g 789 (k).toNat))) => ?_)
    · skip
      refine ez_less [(5, .inl (k)), (0, .inr (.inr (some (770)))), (1, .inl (w))] rfl ⟨rfl, rfl, rfl, trivial⟩ ?_
      exact kx g hB hk rfl rfl
    · exfalso; omega
  | succ m ih =>
    intro g hm hle hB hk kx
    have ha9 : qz_I g 789 (k).toNat = mf g k := rfl
    have ht9 : qz_I g 790 (k).toNat = mt g k := rfl
    have bg : ∀ i, qz_I g 771 i = qz_I h 771 i := fun i => hk.1.I rfl i
    refine ez_go (n := 1) (pc' := 243) (L' := [(5, .inl (k)), (0, .inr (.inr (some (770)))), (1, .inl (w))]) (st' := [.inr (.inr (some (770)))]) rfl ?_
    refine ez_gC (p := 789) (tg := 80) hB t770 rfl rfl tq_75 rfl rfl (fun (t789 : _ = 80) => ?_)
    refine ez_go (n := 1) (pc' := 248) (L' := [(5, .inl (k)), (0, .inr (.inr (some (770)))), (1, .inl (w))]) (st' := [.inl (k), .inr (.inr (some (789)))]) rfl ?_
    have n2 : 8 ≤ qz_N g 789 ∧ qz_N g 789 ≤ 8 := ez_len hB t789 tq_80 rfl
    refine ez_aI hB t789 rfl tq_80 rfl rfl (by omega) (by omega) (fun (b1 : 0 ≤ qz_I g 789 (k).toNat) (b1' : qz_I g 789 (k).toNat ≤ 4096) => ?_)
    refine ez_go (n := 1) (pc' := 250) (L' := [(5, .inl (k)), (0, .inr (.inr (some (770)))), (1, .inl (w))]) (st' := [.inr (.inr (some (770))), .inl (qz_I g 789 (k).toNat)]) rfl ?_
    refine ez_gC (p := 790) (tg := 81) hB t770 rfl rfl tq_75 rfl rfl (fun (t790 : _ = 81) => ?_)
    refine ez_go (n := 1) (pc' := 255) (L' := [(5, .inl (k)), (0, .inr (.inr (some (770)))), (1, .inl (w))]) (st' := [.inl (k), .inr (.inr (some (790))), .inl (qz_I g 789 (k).toNat)]) rfl ?_
    have n4 : 8 ≤ qz_N g 790 ∧ qz_N g 790 ≤ 8 := ez_len hB t790 tq_81 rfl
    refine ez_aI hB t790 rfl tq_81 rfl rfl (by omega) (by omega) (fun (b3 : 0 ≤ qz_I g 790 (k).toNat) (b3' : qz_I g 790 (k).toNat ≤ 4096) => ?_)
    refine ez_icmp rfl rfl ⟨by first | omega | exact (sz_i32 _).1, by first | omega | exact (sz_i32 _).2⟩ ⟨by first | omega | exact (sz_i32 _).1, by first | omega | exact (sz_i32 _).2⟩ (fun (c5 : (qz_I g 790 (k).toNat) ≤ (qz_I g 789 (k).toNat)) => ?_) (fun (c5 : ¬((qz_I g 790 (k).toNat) ≤ (qz_I g 789 (k).toNat))) => ?_)
    · exfalso; omega
    · skip
      refine ez_go (n := 2) (pc' := 261) (L' := [(5, .inl (k)), (0, .inr (.inr (some (770)))), (1, .inl (w))]) (st' := [.inr (.inr (some (770))), .inr (.inr (some (770)))]) rfl ?_
      refine ez_gC (p := 771) (tg := 76) hB t770 rfl rfl tq_75 rfl rfl (fun (t771 : _ = 76) => ?_)
      refine ez_go (n := 1) (pc' := 265) (L' := [(5, .inl (k)), (0, .inr (.inr (some (770)))), (1, .inl (w))]) (st' := [.inr (.inr (some (770))), .inr (.inr (some (771))), .inr (.inr (some (770)))]) rfl ?_
      refine ez_gC (p := 790) (tg := 81) hB t770 rfl rfl tq_75 rfl rfl (fun (t790 : _ = 81) => ?_)
      refine ez_go (n := 1) (pc' := 270) (L' := [(5, .inl (k)), (0, .inr (.inr (some (770)))), (1, .inl (w))]) (st' := [.inl (k), .inr (.inr (some (790))), .inr (.inr (some (771))), .inr (.inr (some (770)))]) rfl ?_
      have n7 : 8 ≤ qz_N g 790 ∧ qz_N g 790 ≤ 8 := ez_len hB t790 tq_81 rfl
      refine ez_aI hB t790 rfl tq_81 rfl rfl (by omega) (by omega) (fun (b6 : 0 ≤ qz_I g 790 (k).toNat) (b6' : qz_I g 790 (k).toNat ≤ 4096) => ?_)
      refine ez_go (n := 2) (pc' := 273) (L' := [(5, .inl (k)), (0, .inr (.inr (some (770)))), (1, .inl (w))]) (st' := [.inl ((qz_I g 790 (k).toNat) - (1)), .inr (.inr (some (771))), .inr (.inr (some (770)))]) rfl ?_
      have n9 : 4096 ≤ qz_N g 771 ∧ qz_N g 771 ≤ 4096 := ez_len hB t771 tq_76 rfl
      refine ez_aI hB t771 rfl tq_76 rfl rfl (by omega) (by omega) (fun (b8 : -128 ≤ qz_I g 771 ((qz_I g 790 (k).toNat) - (1)).toNat) (b8' : qz_I g 771 ((qz_I g 790 (k).toNat) - (1)).toNat ≤ 127) => ?_)
      refine ez_cv hB t770 rfl rfl rfl tq_75 rfl rfl rfl (rd_mblank (by omega) (by omega) (fun e => ez_K1 ?_) (fun e => ez_K1 ?_))
      · skip
        refine ez_if rfl rfl ⟨by decide, by decide⟩ (fun (c10 : (1 : Int) = (0)) => absurd c10 (by decide)) (fun _ => ?_)
        refine ez_go (n := 1) (pc' := 281) (L' := [(5, .inl (k)), (0, .inr (.inr (some (770)))), (1, .inl (w))]) (st' := [.inr (.inr (some (770)))]) rfl ?_
        refine ez_gC (p := 790) (tg := 81) hB t770 rfl rfl tq_75 rfl rfl (fun (t790 : _ = 81) => ?_)
        refine ez_go (n := 2) (pc' := 287) (L' := [(5, .inl (k)), (0, .inr (.inr (some (770)))), (1, .inl (w))]) (st' := [.inl (k), .inr (.inr (some (790))), .inl (k), .inr (.inr (some (790)))]) rfl ?_
        have n12 : 8 ≤ qz_N g 790 ∧ qz_N g 790 ≤ 8 := ez_len hB t790 tq_81 rfl
        refine ez_aI hB t790 rfl tq_81 rfl rfl (by omega) (by omega) (fun (b11 : 0 ≤ qz_I g 790 (k).toNat) (b11' : qz_I g 790 (k).toNat ≤ 4096) => ?_)
        refine ez_go (n := 2) (pc' := 290) (L' := [(5, .inl (k)), (0, .inr (.inr (some (770)))), (1, .inl (w))]) (st' := [.inl ((qz_I g 790 (k).toNat) - (1)), .inl (k), .inr (.inr (some (790)))]) rfl ?_
        have n15 : 8 ≤ qz_N g 790 ∧ qz_N g 790 ≤ 8 := ez_len hB t790 tq_81 rfl
        refine ez_as hB t790 rfl tq_81 rfl rfl (by omega) (by omega) (ez_vdI rfl rfl (by omega) (by omega)) (fun hB13 w14 => ?_)
        refine ez_go (n := 1) (pc' := 242) (L' := [(5, .inl (k)), (0, .inr (.inr (some (770)))), (1, .inl (w))]) (st' := []) rfl ?_
        refine ez_less [(5, .inl (k)), (0, .inr (.inr (some (770)))), (1, .inl (w))] rfl ⟨rfl, rfl, rfl, trivial⟩ ?_
        have hbl : mb h (mt g k - 1) = 9 ∨ mb h (mt g k - 1) = 32 := by have := bg (mt g k - 1).toNat; unfold mb; rw [← this]; exact e
        have a9 : mt (dz_put g 790 (k).toNat (ez_v (.inl ((qz_I g 790 (k).toNat) - (1))))) k = mt g k - 1 := by unfold mt; rw [w14, rz_rd ⟨by omega, by omega⟩]
        have b9 : mf (dz_put g 790 (k).toNat (ez_v (.inl ((qz_I g 790 (k).toNat) - (1))))) k = mf g k := by unfold mf; exact ez_put_I (by omega)
        have k9 : mz_k g (dz_put g 790 (k).toNat (ez_v (.inl ((qz_I g 790 (k).toNat) - (1))))) k := ⟨(ez_fr.refl nz_PF g).put (show nz_PF 790 = true from rfl) _ _, fun j j0 hj => ⟨by unfold mf; exact ez_put_I (by omega), by unfold mt; exact ez_put_I (by omega)⟩⟩
        refine ih _ (by rw [a9, b9]; omega) (by rw [a9, b9]; omega) hB13 (hk.trans k9) (fun g2 q1 q2 q3 q4 => kx g2 q1 q2 ?_ (q4.trans b9))
        rw [q3, a9, rz_back, if_pos hbl]
      · skip
        refine ez_if rfl rfl ⟨by decide, by decide⟩ (fun _ => ?_) (fun (c16 : ¬((0 : Int) = (0))) => absurd c16 (by decide))
        refine ez_less [(5, .inl (k)), (0, .inr (.inr (some (770)))), (1, .inl (w))] rfl ⟨rfl, rfl, rfl, trivial⟩ ?_
        refine kx g hB hk ?_ rfl
        rw [rz_back, if_neg (by have := bg (mt g k - 1).toNat; unfold mb; rw [← this]; exact e)]
theorem rd_fields_3 {w : Int} {A : List (Int × Int)} (t770 : τ 770 = 75) (hw : w = (A.length : Int)) (w1 : w ≤ 7) (hA : ∀ p ∈ A, p.1 ≤ p.2 ∧ 0 ≤ p.1 ∧ p.2 ≤ 4096) (kx : ∀ g, ez_B τ g → ez_fr nz_PF h g → (∀ (j : Nat) (p : Int × Int), A[j]? = some p → mf g j = rz_tl (mb h) p ∧ mt g j = rz_tr (mb h) p) → Q (.inl none, g)) : ∀ (m : Nat) (k : Int) (g : cz_H), m = (w - k).toNat → 0 ≤ k → k ≤ w → ez_B τ g → ez_fr nz_PF h g → ((∀ (j : Nat) (p : Int × Int), A[j]? = some p → (j : Int) < k → mf g j = rz_tl (mb h) p ∧ mt g j = rz_tr (mb h) p) ∧ (∀ (j : Nat) (p : Int × Int), A[j]? = some p → k ≤ (j : Int) → mf g j = p.1 ∧ mt g j = p.2)) → ez_W (d + 7) cm_255 186 [(5, .inl (k)), (0, .inr (.inr (some (770)))), (1, .inl (w))] [] g Q := by
  intro m
  induction m with
  | zero =>
    intro k g hm k0 k1 hB hf hz
    refine ez_go (n := 2) (pc' := 189) (L' := [(5, .inl (k)), (0, .inr (.inr (some (770)))), (1, .inl (w))]) (st' := [.inl (w), .inl (k)]) rfl ?_
    refine ez_icmp rfl rfl ⟨by first | omega | exact (sz_i32 _).1, by first | omega | exact (sz_i32 _).2⟩ ⟨by first | omega | exact (sz_i32 _).1, by first | omega | exact (sz_i32 _).2⟩ (fun (c1 : (w) ≤ (k)) => ?_) (fun (c1 : ¬((w) ≤ (k))) => ?_)
    · skip
      exact ez_ret0 rfl rfl (kx g hB hf (fun j p hj => hz.1 j p hj (by have := (List.getElem?_eq_some_iff.mp hj).1; omega)))
    · exfalso; omega
  | succ m ih =>
    intro k g hm k0 k1 hB hf hz
    refine ez_go (n := 2) (pc' := 189) (L' := [(5, .inl (k)), (0, .inr (.inr (some (770)))), (1, .inl (w))]) (st' := [.inl (w), .inl (k)]) rfl ?_
    refine ez_icmp rfl rfl ⟨by first | omega | exact (sz_i32 _).1, by first | omega | exact (sz_i32 _).2⟩ ⟨by first | omega | exact (sz_i32 _).1, by first | omega | exact (sz_i32 _).2⟩ (fun (c1 : (w) ≤ (k)) => ?_) (fun (c1 : ¬((w) ≤ (k))) => ?_)
    · exfalso; omega
    · skip
      refine ez_less [(5, .inl (k)), (0, .inr (.inr (some (770)))), (1, .inl (w))] rfl ⟨rfl, rfl, rfl, trivial⟩ ?_
      have hlt : k.toNat < A.length := by omega
      have hp := List.getElem?_eq_getElem hlt
      obtain ⟨p, hpe⟩ : ∃ p, p = A[k.toNat] := ⟨_, rfl⟩
      rw [← hpe] at hp
      obtain ⟨z1, z2⟩ := hz.2 k.toNat p hp (by omega)
      rw [Int.toNat_of_nonneg k0] at z1 z2
      have hpl := hA p (List.mem_of_getElem? hp)
      have bgm : mb g = mb h := mb_F hf
      refine rd_fields_L (h := g) t770 k0 (by omega) _ g rfl (by omega) hB ⟨ez_fr.refl _ _, fun _ _ _ => ⟨rfl, rfl⟩⟩ (fun g1 hB1 h1 v1 v2 => ?_)
      rw [bgm, z1, z2] at v1
      have e1 : mf g1 k = rz_tl (mb h) p := v1
      have tlr := rz_tl_tr (mb h) p hpl.1
      refine rd_fields_R (h := g) t770 k0 (by omega) _ g1 rfl (by omega) hB1 h1 (fun g2 hB2 h2 v3 v4 => ?_)
      rw [bgm, v2, e1, z2] at v3
      have e2 : mt g2 k = rz_tr (mb h) p := v3
      have e3 : mf g2 k = rz_tl (mb h) p := v4.trans e1
      refine ez_go (n := 2) (pc' := 186) (L' := [(5, .inl (k + 1)), (0, .inr (.inr (some (770)))), (1, .inl (w))]) (st' := []) rfl ?_
      refine ez_less [(5, .inl (k + 1)), (0, .inr (.inr (some (770)))), (1, .inl (w))] rfl ⟨rfl, rfl, rfl, trivial⟩ ?_
      refine ih (k + 1) g2 (by omega) (by omega) (by omega) hB2 (hf.trans h2.1) ⟨fun j q hj hjk => ?_, fun j q hj hjk => ?_⟩
      · by_cases e9 : (j : Int) = k
        · have e10 : j = k.toNat := by omega
          subst e10
          rw [hp] at hj; cases hj
          rw [Int.toNat_of_nonneg k0]; exact ⟨e3, e2⟩
        · rw [(h2.2 j (by omega) e9).1, (h2.2 j (by omega) e9).2]; exact hz.1 j q hj (by omega)
      · rw [(h2.2 j (by omega) (by omega)).1, (h2.2 j (by omega) (by omega)).2]; exact hz.2 j q hj (by omega)
theorem ez_t771 (hB : ez_B τ h) (t770 : τ 770 = 75) : τ 771 = 76 := by
  have b : 772 ≤ qz_I h 770 1 ∧ qz_I h 770 1 ≤ 772 := ez_fB (cl := 11) hB t770 tq_75 rfl rfl (by decide)
  exact (ez_old (cl := 11) (k := 1) hB t770 tq_75 rfl rfl (by decide) (show qz_I h 770 1 = ((771 : Nat) : Int) + 1 by omega)).1
theorem rd_fields {w n : Int} (hB : ez_B τ h) (t770 : τ 770 = 75) (hr1 : h.1 + 1 ≤ 600192) (hr2 : h.2.1 + 6 ≤ 7302232) (n0 : 0 ≤ n) (n1 : n ≤ 4096) (w0 : 2 ≤ w) (w1 : w ≤ 7) (kT : (¬ ∃ A, rz_A (mb h) n w.toNat A) → ∀ g, ez_B τ g → ez_fr nz_PF h g → Q (.inr g.1, xc g 1)) (kx : ∀ g A, ez_B τ g → ez_fr nz_PF h g → rz_A (mb h) n w.toNat A → (∀ k, 0 ≤ k → k < w → mf g k = rz_ff (mb h) A k ∧ mt g k = rz_tt (mb h) A k) → Q (.inl none, g)) : ez_W (d + 7) cm_255 0 [(0, .inr (.inr (some (770)))), (1, .inl (w)), (2, .inl (n))] [] h Q := by
  refine ez_go (n := 6) (pc' := 7) (L' := [(4, .inl ((n) - (1))), (3, .inl (n)), (0, .inr (.inr (some (770)))), (1, .inl (w)), (2, .inl (n))]) (st' := []) rfl ?_
  refine ez_less [(4, .inl ((n) - (1))), (3, .inl (n)), (0, .inr (.inr (some (770)))), (1, .inl (w)), (2, .inl (n))] rfl ⟨rfl, rfl, rfl, rfl, rfl, trivial⟩ ?_
  refine rd_fields_1 hB t770 (ez_t771 hB t770) hr1 hr2 n1 (fun hp => kT (fun ⟨A, c, w1, _⟩ => hp w1) h hB (ez_fr.refl _ _)) (fun e hpl hha => ?_) _ (n - 1) n rfl (by omega) (by omega) (by omega) (by omega) (fun j j0 j1 => by omega) (fun j j0 j1 => by omega) (Or.inl rfl)
  have e0 := hha.1
  have e1 := hha.2.1
  refine ez_go (n := 3) (pc' := 82) (L' := [(4, .inl (0)), (3, .inl (e)), (0, .inr (.inr (some (770)))), (1, .inl (w)), (2, .inl (n))]) (st' := [.inr (.inr (some (770)))]) rfl ?_
  refine ez_gC (p := 789) (tg := 80) hB t770 rfl rfl tq_75 rfl rfl (fun (t789 : _ = 80) => ?_)
  refine ez_go (n := 2) (pc' := 87) (L' := [(4, .inl (0)), (3, .inl (e)), (0, .inr (.inr (some (770)))), (1, .inl (w)), (2, .inl (n))]) (st' := [.inl (0), .inl (0), .inr (.inr (some (789)))]) rfl ?_
  have n3 : 8 ≤ qz_N h 789 ∧ qz_N h 789 ≤ 8 := ez_len hB t789 tq_80 rfl
  refine ez_as hB t789 rfl tq_80 rfl rfl (by omega) (by omega) (ez_vdI rfl rfl (by omega) (by omega)) (fun hB1 w2 => ?_)
  refine ez_go (n := 2) (pc' := 91) (L' := [(5, .inl (0)), (4, .inl (0)), (3, .inl (e)), (0, .inr (.inr (some (770)))), (1, .inl (w)), (2, .inl (n))]) (st' := []) rfl ?_
  refine ez_less [(5, .inl (0)), (4, .inl (0)), (3, .inl (e)), (0, .inr (.inr (some (770)))), (1, .inl (w)), (2, .inl (n))] rfl ⟨rfl, rfl, rfl, rfl, rfl, rfl, trivial⟩ ?_
  have hAno : ∀ {A}, rz_A (mb h) n w.toNat A → A = rz_seg (mb h) e.toNat 0 0 := fun {A} hA => by obtain ⟨c, c1, c2, c3, c4⟩ := hA; rw [c3, rz_hash_uniq c2 hha]
  have f0 : ez_fr nz_PF h (dz_put h 789 (0 : Int).toNat (ez_v (.inl (0)))) := (ez_fr.refl nz_PF h).put (show nz_PF 789 = true from rfl) _ _
  refine rd_fields_2 (h := h) t770 (ez_t771 hB t770) hr1 hr2 (by omega) w1 (fun hl g2 hB2 f2 => kT (fun ⟨A, hA⟩ => hl (by rw [← hAno hA]; obtain ⟨c, c1, c2, c3, c4⟩ := hA; exact c4)) g2 hB2 f2) (fun g2 A s f hB2 f2 hA fw hseg hc hs => ?_) _ 0 0 0 _ [] rfl (by omega) (by omega) (by omega) hB1 f0 rfl (by omega) (by rw [show (e - 0).toNat = e.toNat by omega]; rfl) (fun k p hk => by cases hk) (by unfold mf; rw [w2]; rfl)
  have c1 := f2.1
  have c2 := f2.2.1
  refine ez_go (n := 5) (pc' := 164) (L' := [(4, .inl (f)), (3, .inl (e)), (0, .inr (.inr (some (770)))), (1, .inl (w)), (2, .inl (n))]) (st' := [.inl (w), .inl ((f) + (1)), .inr (.inr (some (770)))]) rfl ?_
  refine ez_icmp rfl rfl ⟨by first | omega | exact (sz_i32 _).1, by first | omega | exact (sz_i32 _).2⟩ ⟨by first | omega | exact (sz_i32 _).1, by first | omega | exact (sz_i32 _).2⟩ (fun (c4 : ((f) + (1)) ≠ (w)) => ?_) (fun (c4 : ¬(((f) + (1)) ≠ (w))) => ?_)
  · skip
    refine ez_go (n := 1) (pc' := 172) (L' := [(4, .inl (f)), (3, .inl (e)), (0, .inr (.inr (some (770)))), (1, .inl (w)), (2, .inl (n))]) (st' := [.inl (0), .inr (.inr (some (770)))]) rfl ?_
    refine ez_cv hB2 t770 rfl rfl rfl tq_75 rfl rfl rfl (rd_can0 (by omega) (by omega) (ez_Kp (xc_exc hB2 rfl) rfl (kT (fun ⟨A2, hA2⟩ => by have e5 := hAno hA2; rw [hseg] at e5; obtain ⟨c, c1, c2, c3, c4⟩ := hA2; rw [e5, List.length_append, List.length_singleton] at c4; omega) g2 hB2 f2)))
  · skip
    refine ez_go (n := 2) (pc' := 172) (L' := [(4, .inl (f)), (3, .inl (e)), (0, .inr (.inr (some (770)))), (1, .inl (w)), (2, .inl (n))]) (st' := [.inl (1), .inr (.inr (some (770)))]) rfl ?_
    refine ez_cv hB2 t770 rfl rfl rfl tq_75 rfl rfl rfl (rd_can1 (by omega) (by omega) (ez_K0 ?_))
    refine ez_go (n := 1) (pc' := 176) (L' := [(4, .inl (f)), (3, .inl (e)), (0, .inr (.inr (some (770)))), (1, .inl (w)), (2, .inl (n))]) (st' := [.inr (.inr (some (770)))]) rfl ?_
    refine ez_gC (p := 790) (tg := 81) hB2 t770 rfl rfl tq_75 rfl rfl (fun (t790 : _ = 81) => ?_)
    refine ez_go (n := 2) (pc' := 182) (L' := [(4, .inl (f)), (3, .inl (e)), (0, .inr (.inr (some (770)))), (1, .inl (w)), (2, .inl (n))]) (st' := [.inl (e), .inl (f), .inr (.inr (some (790)))]) rfl ?_
    have n7 : 8 ≤ qz_N g2 790 ∧ qz_N g2 790 ≤ 8 := ez_len hB2 t790 tq_81 rfl
    refine ez_as hB2 t790 rfl tq_81 rfl rfl (by omega) (by omega) (ez_vdI rfl rfl (by omega) (by omega)) (fun hB5 w6 => ?_)
    refine ez_go (n := 2) (pc' := 186) (L' := [(5, .inl (0)), (4, .inl (f)), (3, .inl (e)), (0, .inr (.inr (some (770)))), (1, .inl (w)), (2, .inl (n))]) (st' := []) rfl ?_
    refine ez_less [(5, .inl (0)), (0, .inr (.inr (some (770)))), (1, .inl (w))] rfl ⟨rfl, rfl, rfl, trivial⟩ ?_
    have hA9 : rz_A (mb h) n w.toNat (A ++ [(s, e)]) := ⟨e, hpl, hha, hseg.symm, by rw [List.length_append, List.length_singleton]; omega⟩
    have hle : ∀ p ∈ A ++ [(s, e)], p.1 ≤ p.2 ∧ 0 ≤ p.1 ∧ p.2 ≤ 4096 := fun p hp => by rw [← hseg] at hp; have := rz_seg_le (mb h) e.toNat 0 0 (Int.le_refl _) p hp; omega
    refine rd_fields_3 (h := h) (A := A ++ [(s, e)]) t770 (by rw [List.length_append, List.length_singleton]; omega) w1 hle (fun g3 hB3 f3 hz => kx g3 _ hB3 f3 hA9 (fun k k0 k1 => ?_)) _ 0 _ rfl (by omega) (by omega) hB5 (f2.put (show nz_PF 790 = true from rfl) _ _) ⟨fun j p hj hjk => by omega, fun j p hj hjk => ?_⟩
    · have hlt : k.toNat < (A ++ [(s, e)]).length := by rw [List.length_append, List.length_singleton]; omega
      have ee : (A ++ [(s, e)])[k.toNat]? = some ((A ++ [(s, e)]).getD k.toNat (0, 0)) := by rw [List.getD_eq_getElem?_getD, List.getElem?_eq_getElem hlt]; rfl
      have := hz k.toNat _ ee
      rw [Int.toNat_of_nonneg k0] at this
      exact this
    · by_cases e9 : j < A.length
      · rw [List.getElem?_append_left e9] at hj
        obtain ⟨q1, q2⟩ := hc j p hj
        unfold mf mt at *
        rw [ez_put_I (by omega), ez_put_I (by omega)]; exact ⟨q1, q2⟩
      · rw [List.getElem?_append_right (by omega)] at hj
        have e10 : j = A.length := by have := (List.getElem?_eq_some_iff.mp hj).1; simp only [List.length_singleton] at this; omega
        subst e10
        rw [Nat.sub_self] at hj
        cases hj
        unfold mf mt at *
        rw [ez_put_I (by omega)]
        refine ⟨by rw [← hA]; exact hs, ?_⟩
        rw [← hA, w6, rz_rd ⟨by omega, by omega⟩]

end EzMg
/-! The model reads: field, blanks, codes, optional. (Written by wip/p2/py/pv53.py.) -/
theorem me_dig (b : Int → Int) : ∀ (n : Nat) (i j : Int), i ≤ j → j < me b n i → 0 ≤ mh (b j)
  | 0, i, j, h1, h2 => by unfold me at h2; omega
  | n + 1, i, j, h1, h2 => by
    unfold me at h2
    split at h2
    · rename_i e
      by_cases e2 : j = i
      · rw [e2]; exact e
      · exact me_dig b n (i + 1) j (by omega) h2
    · omega
theorem me_stop (b : Int → Int) : ∀ (n : Nat) (i : Int), me b n i < i + n → ¬ 0 ≤ mh (b (me b n i))
  | 0, i, h => by unfold me at h; omega
  | n + 1, i, h => by
    unfold me at h ⊢
    split at h
    · rename_i e
      rw [if_pos e]
      exact me_stop b n (i + 1) (by push_cast at h; omega)
    · rename_i e
      rw [if_neg e]; exact e
theorem dots_ge (b : Int → Int) : ∀ (n : Nat) (i k : Int), (∀ j, i ≤ j → j < k → b j ≠ 46) → k ≤ i + n → i ≤ k → k ≤ rz_dots b n i
  | 0, i, k, _, h1, _ => by unfold rz_dots; omega
  | n + 1, i, k, h, h1, h2 => by
    unfold rz_dots
    split
    · rename_i e
      by_cases e2 : i < k
      · exact absurd e (h i (Int.le_refl _) e2)
      · omega
    · by_cases e2 : i < k
      · exact dots_ge b n (i + 1) k (fun j j0 j1 => h j (by omega) j1) (by push_cast at h1; omega) (by omega)
      · have := rz_dots_le b n (i + 1); omega
theorem dots_at (b : Int → Int) : ∀ (n : Nat) (i k : Int), (∀ j, i ≤ j → j < k → b j ≠ 46) → k < i + n → i ≤ k → b k = 46 → rz_dots b n i = k
  | 0, i, k, _, h1, _, _ => by omega
  | n + 1, i, k, h, h1, h2, h3 => by
    unfold rz_dots
    by_cases e2 : i < k
    · rw [if_neg (h i (Int.le_refl _) e2)]
      exact dots_at b n (i + 1) k (fun j j0 j1 => h j (by omega) j1) (by push_cast at h1; omega) (by omega) h3
    · have e : i = k := by omega
      rw [e, if_pos h3]
theorem mh_dot : ¬ 0 ≤ mh 46 := by decide
/-- the two ways to read CODES -/
theorem codes_eq {b : Int → Int} {f t E : Int} (hft : f ≤ t) (hE : E = me b (t - f).toNat f) :
    (rz_code b f E = -1 → ¬ (rz_first b f t ≠ -1 ∧ rz_first b f t ≤ rz_last b f t)) ∧
    (E = t → rz_first b f t = rz_code b f E ∧ rz_last b f t = rz_code b f E) ∧
    (E < t → b E ≠ 46 → rz_first b f t = -1) ∧
    (E < t → b E = 46 → rz_first b f t = rz_code b f E ∧ rz_last b f t = if E + 1 < t ∧ b (E + 1) = 46 then rz_code b (E + 2) t else -1) := by
  have hle := me_le b (t - f).toNat f
  rw [← hE] at hle
  have hnd : ∀ j, f ≤ j → j < E → b j ≠ 46 := fun j j0 j1 e => by
    have := me_dig b (t - f).toNat f j j0 (by rw [← hE]; exact j1)
    rw [e] at this; exact mh_dot this
  have hd := dots_ge b (t - f).toNat f E hnd (by omega) (by omega)
  have hdl := rz_dots_le b (t - f).toNat f
  refine ⟨fun h w => ?_, fun h => ?_, fun h1 h2 => ?_, fun h1 h2 => ?_⟩
  · apply w.1
    unfold rz_first
    by_cases e : rz_dots b (t - f).toNat f = E
    · rw [e]; exact h
    · exact rz_code_no (t := t) (t - f).toNat (Nat.le_refl _) (by rw [← hE]; omega) (by omega) (by omega)
  · have e : rz_dots b (t - f).toNat f = t := by omega
    unfold rz_last rz_first
    rw [e, if_neg (by omega), h]
    exact ⟨rfl, rfl⟩
  · unfold rz_first
    have e : rz_dots b (t - f).toNat f ≠ E := fun e => by
      have := dots_ge b (t - f).toNat f (E + 1) (fun j j0 j1 => by
        by_cases e2 : j = E
        · rw [e2]; exact h2
        · exact hnd j j0 (by omega)) (by omega) (by omega)
      omega
    exact rz_code_no (t := t) (t - f).toNat (Nat.le_refl _) (by rw [← hE]; omega) (by omega) (by omega)
  · have e := dots_at b (t - f).toNat f E hnd (by omega) (by omega) h2
    unfold rz_last rz_first
    rw [e, if_pos h1]
    exact ⟨rfl, rfl⟩
/-- place of reading and its end -/
def ms (h g : cz_H) : Prop := ez_fr (ez_one 770) h g ∧ ∀ j, j ≠ 17 → j ≠ 18 → qz_I g 770 j = qz_I h 770 j
theorem ms.trans {h g k : cz_H} (a : ms h g) (b : ms g k) : ms h k := ⟨a.1.trans b.1, fun j h1 h2 => (b.2 j h1 h2).trans (a.2 j h1 h2)⟩
theorem mz.ms {h g : cz_H} (a : mz h g) : ms h g := ⟨a.1, fun j h1 _ => a.2 j h1⟩
theorem ms.b {h g : cz_H} (a : ms h g) : mb g = mb h := funext fun i => a.1.I (by decide) _
section EzMh
variable {d : Nat} {h : cz_H} {τ : Nat → Nat} {Q : cz_F → Prop} {l : Nat}
theorem rd_field {k : Int} (hB : ez_B τ h) (t770 : τ 770 = 75) (k0 : 0 ≤ k) (k1 : k < 8) (kx : ∀ g, ez_B τ g → ms h g → qz_I g 770 17 = mf h k → qz_I g 770 18 = mt h k → Q (.inl none, g)) : ez_W d cm_254 0 [(0, .inr (.inr (some (770)))), (1, .inl (k))] [] h Q := by
  refine ez_go (n := 2) (pc' := 2) (L' := [(0, .inr (.inr (some (770)))), (1, .inl (k))]) (st' := [.inr (.inr (some (770))), .inr (.inr (some (770)))]) rfl ?_
  refine ez_gC (p := 789) (tg := 80) hB t770 rfl rfl tq_75 rfl rfl (fun (t789 : _ = 80) => ?_)
  refine ez_go (n := 1) (pc' := 6) (L' := [(0, .inr (.inr (some (770)))), (1, .inl (k))]) (st' := [.inl (k), .inr (.inr (some (789))), .inr (.inr (some (770)))]) rfl ?_
  have n2 : 8 ≤ qz_N h 789 ∧ qz_N h 789 ≤ 8 := ez_len hB t789 tq_80 rfl
  refine ez_aI hB t789 rfl tq_80 rfl rfl (by omega) (by omega) (fun (b1 : 0 ≤ qz_I h 789 (k).toNat) (b1' : qz_I h 789 (k).toNat ≤ 4096) => ?_)
  refine ez_pf hB t770 rfl rfl tq_75 rfl rfl rfl rfl (ez_vdI rfl rfl (by omega) (by omega)) (fun hB3 w4 => ?_)
  refine ez_go (n := 2) (pc' := 12) (L' := [(0, .inr (.inr (some (770)))), (1, .inl (k))]) (st' := [.inr (.inr (some (770))), .inr (.inr (some (770)))]) rfl ?_
  refine ez_gC (p := 790) (tg := 81) hB3 t770 rfl rfl tq_75 rfl rfl (fun (t790 : _ = 81) => ?_)
  refine ez_go (n := 1) (pc' := 16) (L' := [(0, .inr (.inr (some (770)))), (1, .inl (k))]) (st' := [.inl (k), .inr (.inr (some (790))), .inr (.inr (some (770)))]) rfl ?_
  have n6 : 8 ≤ qz_N (dz_put h 770 17 (ez_v (.inl (qz_I h 789 (k).toNat)))) 790 ∧ qz_N (dz_put h 770 17 (ez_v (.inl (qz_I h 789 (k).toNat)))) 790 ≤ 8 := ez_len hB3 t790 tq_81 rfl
  refine ez_aI hB3 t790 rfl tq_81 rfl rfl (by omega) (by omega) (fun (b5 : 0 ≤ qz_I (dz_put h 770 17 (ez_v (.inl (qz_I h 789 (k).toNat)))) 790 (k).toNat) (b5' : qz_I (dz_put h 770 17 (ez_v (.inl (qz_I h 789 (k).toNat)))) 790 (k).toNat ≤ 4096) => ?_)
  refine ez_pf hB3 t770 rfl rfl tq_75 rfl rfl rfl rfl (ez_vdI rfl rfl (by omega) (by omega)) (fun hB7 w8 => ?_)
  refine ez_ret0 rfl rfl (kx _ hB7 ⟨(((ez_fr.refl (ez_one 770) h).put (show Nat.beq 770 770 = true from rfl) _ _).put (show Nat.beq 770 770 = true from rfl) _ _), fun j h1 h2 => by rw [ez_put_I (by omega), ez_put_I (by omega)]⟩ ?_ ?_)
  · rw [ez_put_I (by omega), w4, rz_rd ⟨by omega, by omega⟩]; rfl
  · rw [w8, rz_rd ⟨by omega, by omega⟩, ez_put_I (by omega)]; rfl

theorem rd_blanks_l (t770 : τ 770 = 75) (kx : ∀ g, ez_B τ g → mz h g → qz_I g 770 17 = rz_skip (mb h) (qz_I h 770 18 - qz_I h 770 17).toNat (qz_I h 770 17) → Q (.inl none, g)) : ∀ (n : Nat) (g : cz_H), n = (qz_I h 770 18 - qz_I g 770 17).toNat → ez_B τ g → mz h g → qz_I g 770 17 ≤ qz_I h 770 18 → rz_skip (mb h) (qz_I h 770 18 - qz_I h 770 17).toNat (qz_I h 770 17) = rz_skip (mb h) (qz_I h 770 18 - qz_I g 770 17).toNat (qz_I g 770 17) → ez_W (d + 1) cm_224 0 [(0, .inr (.inr (some (770))))] [] g Q := by
  intro n
  induction n with
  | zero =>
    intro g hn hB hm hs hx
    have e18 : qz_I g 770 18 = qz_I h 770 18 := hm.2 18 (by decide)
    have b18 : 0 ≤ qz_I g 770 18 ∧ qz_I g 770 18 ≤ 4096 := ez_fB (cl := 11) hB t770 tq_75 rfl rfl (by decide)
    refine ez_go (n := 2) (pc' := 2) (L' := [(0, .inr (.inr (some (770))))]) (st' := [.inr (.inr (some (770))), .inr (.inr (some (770)))]) rfl ?_
    refine ez_cv hB t770 rfl rfl rfl tq_75 rfl rfl rfl (rd_peek hB t770 (fun p1 p2 => ez_K1 ?_))
    refine ez_cv hB t770 rfl rfl rfl tq_75 rfl rfl rfl (rd_mblank p1 p2 (fun e => ez_K1 ?_) (fun e => ez_K1 ?_))
    · skip
      refine ez_if rfl rfl ⟨by decide, by decide⟩ (fun (c1 : (1 : Int) = (0)) => absurd c1 (by decide)) (fun _ => ?_)
      refine ez_go (n := 2) (pc' := 13) (L' := [(0, .inr (.inr (some (770))))]) (st' := [.inr (.inr (some (770))), .inr (.inr (some (770)))]) rfl ?_
      refine ez_gI hB t770 rfl rfl tq_75 rfl rfl (fun (b2 : 0 ≤ qz_I g 770 17) (b2' : qz_I g 770 17 ≤ 4200) => ?_)
      refine ez_go (n := 2) (pc' := 18) (L' := [(0, .inr (.inr (some (770))))]) (st' := [.inl ((qz_I g 770 17) + (1)), .inr (.inr (some (770)))]) rfl ?_
      refine ez_pf hB t770 rfl rfl tq_75 rfl rfl rfl rfl (ez_vdI rfl rfl (by omega) (by omega)) (fun hB3 w4 => ?_)
      refine ez_go (n := 1) (pc' := 0) (L' := [(0, .inr (.inr (some (770))))]) (st' := []) rfl ?_
      have hlt : qz_I g 770 17 < qz_I g 770 18 := by by_cases e9 : qz_I g 770 17 < qz_I g 770 18; (· exact e9); (· exfalso; have : mk (mb g) (qz_I g 770 17) (qz_I g 770 18) = -1 := (by unfold mk; rw [if_neg e9]); omega)
      exfalso; omega
    · skip
      refine ez_if rfl rfl ⟨by decide, by decide⟩ (fun _ => ?_) (fun (c5 : ¬((0 : Int) = (0))) => absurd c5 (by decide))
      refine ez_ret0 rfl rfl (kx g hB hm ?_)
      rw [hx]
      by_cases e9 : qz_I g 770 17 < qz_I g 770 18
      · have hnb : ¬ (mb h (qz_I g 770 17) = 9 ∨ mb h (qz_I g 770 17) = 32) := by have : mk (mb g) (qz_I g 770 17) (qz_I g 770 18) = mb g (qz_I g 770 17) := (by unfold mk; rw [if_pos e9]); rw [this, hm.b] at e; exact e
        rw [show (qz_I h 770 18 - qz_I g 770 17).toNat = (qz_I h 770 18 - (qz_I g 770 17 + 1)).toNat + 1 by omega, rz_skip, if_neg hnb]
      · rw [show (qz_I h 770 18 - qz_I g 770 17).toNat = 0 by omega, rz_skip]
  | succ n ih =>
    intro g hn hB hm hs hx
    have e18 : qz_I g 770 18 = qz_I h 770 18 := hm.2 18 (by decide)
    have b18 : 0 ≤ qz_I g 770 18 ∧ qz_I g 770 18 ≤ 4096 := ez_fB (cl := 11) hB t770 tq_75 rfl rfl (by decide)
    refine ez_go (n := 2) (pc' := 2) (L' := [(0, .inr (.inr (some (770))))]) (st' := [.inr (.inr (some (770))), .inr (.inr (some (770)))]) rfl ?_
    refine ez_cv hB t770 rfl rfl rfl tq_75 rfl rfl rfl (rd_peek hB t770 (fun p1 p2 => ez_K1 ?_))
    refine ez_cv hB t770 rfl rfl rfl tq_75 rfl rfl rfl (rd_mblank p1 p2 (fun e => ez_K1 ?_) (fun e => ez_K1 ?_))
    · skip
      refine ez_if rfl rfl ⟨by decide, by decide⟩ (fun (c1 : (1 : Int) = (0)) => absurd c1 (by decide)) (fun _ => ?_)
      refine ez_go (n := 2) (pc' := 13) (L' := [(0, .inr (.inr (some (770))))]) (st' := [.inr (.inr (some (770))), .inr (.inr (some (770)))]) rfl ?_
      refine ez_gI hB t770 rfl rfl tq_75 rfl rfl (fun (b2 : 0 ≤ qz_I g 770 17) (b2' : qz_I g 770 17 ≤ 4200) => ?_)
      refine ez_go (n := 2) (pc' := 18) (L' := [(0, .inr (.inr (some (770))))]) (st' := [.inl ((qz_I g 770 17) + (1)), .inr (.inr (some (770)))]) rfl ?_
      refine ez_pf hB t770 rfl rfl tq_75 rfl rfl rfl rfl (ez_vdI rfl rfl (by omega) (by omega)) (fun hB3 w4 => ?_)
      refine ez_go (n := 1) (pc' := 0) (L' := [(0, .inr (.inr (some (770))))]) (st' := []) rfl ?_
      have hlt : qz_I g 770 17 < qz_I g 770 18 := by by_cases e9 : qz_I g 770 17 < qz_I g 770 18; (· exact e9); (· exfalso; have : mk (mb g) (qz_I g 770 17) (qz_I g 770 18) = -1 := (by unfold mk; rw [if_neg e9]); omega)
      have hbl : mb h (qz_I g 770 17) = 9 ∨ mb h (qz_I g 770 17) = 32 := by have : mk (mb g) (qz_I g 770 17) (qz_I g 770 18) = mb g (qz_I g 770 17) := (by unfold mk; rw [if_pos hlt]); rw [this, hm.b] at e; exact e
      have a9 : qz_I (dz_put g 770 17 (ez_v (.inl ((qz_I g 770 17) + (1))))) 770 17 = qz_I g 770 17 + 1 := by rw [w4, rz_rd ⟨by omega, by omega⟩]
      refine ez_less [(0, .inr (.inr (some (770))))] rfl ⟨rfl, trivial⟩ ?_
      refine ih _ (by rw [a9]; omega) hB3 (hm.trans mz_put) (by rw [a9]; omega) ?_
      rw [a9, hx, show (qz_I h 770 18 - qz_I g 770 17).toNat = (qz_I h 770 18 - (qz_I g 770 17 + 1)).toNat + 1 by omega, rz_skip, if_pos hbl]
    · skip
      refine ez_if rfl rfl ⟨by decide, by decide⟩ (fun _ => ?_) (fun (c5 : ¬((0 : Int) = (0))) => absurd c5 (by decide))
      refine ez_ret0 rfl rfl (kx g hB hm ?_)
      rw [hx]
      by_cases e9 : qz_I g 770 17 < qz_I g 770 18
      · have hnb : ¬ (mb h (qz_I g 770 17) = 9 ∨ mb h (qz_I g 770 17) = 32) := by have : mk (mb g) (qz_I g 770 17) (qz_I g 770 18) = mb g (qz_I g 770 17) := (by unfold mk; rw [if_pos e9]); rw [this, hm.b] at e; exact e
        rw [show (qz_I h 770 18 - qz_I g 770 17).toNat = (qz_I h 770 18 - (qz_I g 770 17 + 1)).toNat + 1 by omega, rz_skip, if_neg hnb]
      · rw [show (qz_I h 770 18 - qz_I g 770 17).toNat = 0 by omega, rz_skip]
theorem rd_blanks (hB : ez_B τ h) (t770 : τ 770 = 75) (hs : qz_I h 770 17 ≤ qz_I h 770 18) (kx : ∀ g, ez_B τ g → mz h g → qz_I g 770 17 = rz_skip (mb h) (qz_I h 770 18 - qz_I h 770 17).toNat (qz_I h 770 17) → Q (.inl none, g)) : ez_W (d + 1) cm_224 0 [(0, .inr (.inr (some (770))))] [] h Q := rd_blanks_l t770 kx _ h rfl hB (mz.refl _) hs rfl
end EzMh
/-! The model reads: codes, optional. (Written by wip/p2/py/pv54.py.) -/
def nz_PL (l q : Nat) : Bool := Nat.beq q 770 || Nat.beq q l
/-- the place of reading, and a line -/
def ml (h g : cz_H) (l : Nat) : Prop := ez_fr (nz_PL l) h g ∧ ∀ j, j ≠ 17 → qz_I g 770 j = qz_I h 770 j
theorem ml.trans {h g k : cz_H} {l : Nat} (a : ml h g l) (b : ml g k l) : ml h k l := ⟨a.1.trans b.1, fun j hj => (b.2 j hj).trans (a.2 j hj)⟩
theorem mz.ml {h g : cz_H} {l : Nat} (a : mz h g) : ml h g l := ⟨⟨a.1.1, a.1.2.1, fun q hq => a.1.2.2 q (by unfold nz_PL at hq; exact (Bool.or_eq_false_iff.mp hq).1)⟩, a.2⟩
theorem ml.b {h g : cz_H} {l : Nat} (a : ml h g l) (hl : l ≠ 771) : mb g = mb h := funext fun i => a.1.I (by unfold nz_PL; rw [dz_beq_ne (Ne.symm hl)]; rfl) _
theorem ml_put {h : cz_H} {l i : Nat} {v : cz_V} (hl : l ≠ 770) : ml h (dz_put h l i v) l := ⟨(ez_fr.refl (nz_PL l) h).put (by unfold nz_PL; rw [Nat.beq_refl, Bool.or_true]) _ _, fun j _ => ez_put_I (fun w => hl w.1.symm)⟩
theorem mz.l {h g : cz_H} {l : Nat} (a : mz h g) (hl : l ≠ 770) (j : Nat) : qz_I g l j = qz_I h l j := a.I hl j
section EzMi
variable {d : Nat} {h : cz_H} {τ : Nat → Nat} {Q : cz_F → Prop} {l : Nat}
theorem rd_codes (hB : ez_B τ h) (t770 : τ 770 = 75) (tl : τ l = 13) (hr1 : h.1 + 1 ≤ 600192) (hr2 : h.2.1 + 6 ≤ 7302232) (hfs : qz_I h 770 17 ≤ qz_I h 770 18) (hs1 : qz_I h 770 18 ≤ 4096) (k1 : ∀ g, ez_B τ g → ml h g l → qz_I g 770 17 = qz_I h 770 18 → qz_I g l 1 = (rz_first (mb h) (qz_I h 770 17) (qz_I h 770 18)) → qz_I g l 2 = (rz_last (mb h) (qz_I h 770 17) (qz_I h 770 18)) → (rz_first (mb h) (qz_I h 770 17) (qz_I h 770 18)) ≠ -1 → (rz_first (mb h) (qz_I h 770 17) (qz_I h 770 18)) ≤ (rz_last (mb h) (qz_I h 770 17) (qz_I h 770 18)) → (∀ j, j ≠ 1 → j ≠ 2 → qz_I g l j = qz_I h l j) → Q (.inl none, g)) (k0 : ¬ ((rz_first (mb h) (qz_I h 770 17) (qz_I h 770 18)) ≠ -1 ∧ (rz_first (mb h) (qz_I h 770 17) (qz_I h 770 18)) ≤ (rz_last (mb h) (qz_I h 770 17) (qz_I h 770 18))) → ∀ g, ez_B τ g → ml h g l → (∀ j, j ≠ 1 → j ≠ 2 → qz_I g l j = qz_I h l j) → Q (.inr g.1, xc g 1)) : ez_W (d + 8) cm_235 0 [(0, .inr (.inr (some (770)))), (1, .inr (.inr (some (l))))] [] h Q := by
  have n770 : l ≠ 770 := fun e => by rw [e, t770] at tl; cases tl
  have n771 : l ≠ 771 := fun e => by rw [e, ez_t771 hB t770] at tl; cases tl
  refine ez_go (n := 2) (pc' := 2) (L' := [(0, .inr (.inr (some (770)))), (1, .inr (.inr (some (l))))]) (st' := [.inr (.inr (some (770))), .inr (.inr (some (l)))]) rfl ?_
  refine ez_cv hB t770 rfl rfl rfl tq_75 rfl rfl rfl (rd_code hB t770 (by omega) (by omega) hfs hs1 (fun g1 hB1 m1 a1 v1 => ez_K1 ?_) (fun hno g1 hB1 m1 => ez_Kp (xc_exc hB1 rfl) rfl (k0 ((codes_eq hfs rfl).1 hno) g1 hB1 m1.ml (fun j _ _ => m1.l n770 j))))
  have ce := codes_eq hfs (rfl : (me (mb h) (qz_I h 770 18 - qz_I h 770 17).toNat (qz_I h 770 17)) = (me (mb h) (qz_I h 770 18 - qz_I h 770 17).toNat (qz_I h 770 17)))
  have cb := rz_code_bd (mb h) (qz_I h 770 17) (me (mb h) (qz_I h 770 18 - qz_I h 770 17).toNat (qz_I h 770 17))
  have cc1 := m1.1.1
  have cc2 := m1.1.2.1
  have e18 : qz_I g1 770 18 = qz_I h 770 18 := m1.2 18 (by decide)
  have hEl := me_le (mb h) (qz_I h 770 18 - qz_I h 770 17).toNat (qz_I h 770 17)
  generalize hv9 : rz_code (mb h) (qz_I h 770 17) (me (mb h) (qz_I h 770 18 - qz_I h 770 17).toNat (qz_I h 770 17)) = v at *
  generalize (me (mb h) (qz_I h 770 18 - qz_I h 770 17).toNat (qz_I h 770 17)) = E at *
  refine ez_pf hB1 tl rfl rfl tq_13 rfl rfl rfl rfl (ez_vdI rfl rfl (by omega) (by omega)) (fun hB1 w2 => ?_)
  refine ez_go (n := 2) (pc' := 10) (L' := [(0, .inr (.inr (some (770)))), (1, .inr (.inr (some (l))))]) (st' := [.inr (.inr (some (l))), .inr (.inr (some (l)))]) rfl ?_
  refine ez_gI hB1 tl rfl rfl tq_13 rfl rfl (fun (b3 : -2147483648 ≤ qz_I (dz_put g1 l 1 (ez_v (.inl (v)))) l 1) (b3' : qz_I (dz_put g1 l 1 (ez_v (.inl (v)))) l 1 ≤ 2147483647) => ?_)
  refine ez_pf hB1 tl rfl rfl tq_13 rfl rfl rfl rfl (ez_vdI rfl rfl (by omega) (by omega)) (fun hB4 w5 => ?_)
  have M2 : ml h (dz_put (dz_put g1 l 1 (ez_v (.inl (v)))) l 2 (ez_v (.inl (qz_I (dz_put g1 l 1 (ez_v (.inl (v)))) l 1)))) l := (m1.ml.trans (ml_put n770)).trans (ml_put n770)
  have f1 : qz_I (dz_put (dz_put g1 l 1 (ez_v (.inl (v)))) l 2 (ez_v (.inl (qz_I (dz_put g1 l 1 (ez_v (.inl (v)))) l 1)))) l 1 = v := by rw [ez_put_I (by omega), w2, rz_rd ⟨by omega, by omega⟩]
  have f2 : qz_I (dz_put (dz_put g1 l 1 (ez_v (.inl (v)))) l 2 (ez_v (.inl (qz_I (dz_put g1 l 1 (ez_v (.inl (v)))) l 1)))) l 2 = v := by rw [w5, rz_rd ⟨by omega, by omega⟩, w2, rz_rd ⟨by omega, by omega⟩]
  have J2 : ∀ j, j ≠ 1 → j ≠ 2 → qz_I (dz_put (dz_put g1 l 1 (ez_v (.inl (v)))) l 2 (ez_v (.inl (qz_I (dz_put g1 l 1 (ez_v (.inl (v)))) l 1)))) l j = qz_I h l j := fun j j1 j2 => by rw [ez_put_I (fun w => j2 w.2), ez_put_I (fun w => j1 w.2)]; exact m1.l n770 j
  have at2 : qz_I (dz_put (dz_put g1 l 1 (ez_v (.inl (v)))) l 2 (ez_v (.inl (qz_I (dz_put g1 l 1 (ez_v (.inl (v)))) l 1)))) 770 17 = E := by rw [ez_put_I (by omega), ez_put_I (by omega)]; exact a1
  have st2 : qz_I (dz_put (dz_put g1 l 1 (ez_v (.inl (v)))) l 2 (ez_v (.inl (qz_I (dz_put g1 l 1 (ez_v (.inl (v)))) l 1)))) 770 18 = qz_I h 770 18 := M2.2 18 (by decide)
  have c2a : ((dz_put (dz_put g1 l 1 (ez_v (.inl (v)))) l 2 (ez_v (.inl (qz_I (dz_put g1 l 1 (ez_v (.inl (v)))) l 1))))).1 = h.1 := M2.1.1
  have c2b : ((dz_put (dz_put g1 l 1 (ez_v (.inl (v)))) l 2 (ez_v (.inl (qz_I (dz_put g1 l 1 (ez_v (.inl (v)))) l 1))))).2.1 = h.2.1 := M2.1.2.1
  have hB2 := hB4
  generalize (dz_put (dz_put g1 l 1 (ez_v (.inl (v)))) l 2 (ez_v (.inl (qz_I (dz_put g1 l 1 (ez_v (.inl (v)))) l 1)))) = g2 at *
  refine ez_go (n := 1) (pc' := 17) (L' := [(0, .inr (.inr (some (770)))), (1, .inr (.inr (some (l))))]) (st' := [.inr (.inr (some (770)))]) rfl ?_
  refine ez_cv hB2 t770 rfl rfl rfl tq_75 rfl rfl rfl (rd_peek hB2 t770 (fun p1 p2 => ez_K1 ?_))
  rw [at2, st2, M2.b n771] at p1 p2 ⊢
  refine ez_go (n := 1) (pc' := 22) (L' := [(0, .inr (.inr (some (770)))), (1, .inr (.inr (some (l))))]) (st' := [.inl (46), .inl (mk (mb h) E (qz_I h 770 18))]) rfl ?_
  refine ez_icmp rfl rfl ⟨by first | omega | exact (sz_i32 _).1, by first | omega | exact (sz_i32 _).2⟩ ⟨by first | omega | exact (sz_i32 _).1, by first | omega | exact (sz_i32 _).2⟩ (fun (c6 : (mk (mb h) E (qz_I h 770 18)) ≠ (46)) => ?_) (fun (c6 : ¬((mk (mb h) E (qz_I h 770 18)) ≠ (46))) => ?_)
  · skip
    refine ez_go (n := 1) (pc' := 92) (L' := [(0, .inr (.inr (some (770)))), (1, .inr (.inr (some (l))))]) (st' := [.inr (.inr (some (770)))]) rfl ?_
    refine ez_cv hB2 t770 rfl rfl rfl tq_75 rfl rfl rfl (rd_mend hB2 t770 (by omega) (by omega) (fun e9 => ez_K0 ?_) (fun e9 => ez_Kp (xc_exc hB2 rfl) rfl (k0 (fun w => w.1 (ce.2.2.1 (by omega) (fun q => by have : mk (mb h) E (qz_I h 770 18) = mb h E := (by unfold mk; rw [if_pos (by omega)]); omega))) g2 hB2 M2 J2)))
    obtain ⟨q1, q2⟩ := ce.2.1 (by omega)
    exact ez_ret0 rfl rfl (k1 g2 hB2 M2 (e9.trans st2) (f1.trans q1.symm) (f2.trans q2.symm) (by rw [q1]; exact v1) (by rw [q1, q2]; exact Int.le_refl _) J2)
  · skip
    have hltE : E < qz_I h 770 18 := by by_cases e9 : E < qz_I h 770 18; (· exact e9); (· exfalso; have : mk (mb h) E (qz_I h 770 18) = -1 := (by unfold mk; rw [if_neg e9]); omega)
    have dotE : mb h E = 46 := by have : mk (mb h) E (qz_I h 770 18) = mb h E := (by unfold mk; rw [if_pos hltE]); omega
    refine ez_go (n := 2) (pc' := 27) (L' := [(0, .inr (.inr (some (770)))), (1, .inr (.inr (some (l))))]) (st' := [.inr (.inr (some (770))), .inr (.inr (some (770)))]) rfl ?_
    refine ez_gI hB2 t770 rfl rfl tq_75 rfl rfl (fun (b7 : 0 ≤ qz_I g2 770 17) (b7' : qz_I g2 770 17 ≤ 4200) => ?_)
    refine ez_go (n := 2) (pc' := 32) (L' := [(0, .inr (.inr (some (770)))), (1, .inr (.inr (some (l))))]) (st' := [.inl ((qz_I g2 770 17) + (1)), .inr (.inr (some (770)))]) rfl ?_
    refine ez_pf hB2 t770 rfl rfl tq_75 rfl rfl rfl rfl (ez_vdI rfl rfl (by omega) (by omega)) (fun hB8 w9 => ?_)
    refine ez_go (n := 2) (pc' := 37) (L' := [(0, .inr (.inr (some (770)))), (1, .inr (.inr (some (l))))]) (st' := [.inr (.inr (some (770))), .inr (.inr (some (770)))]) rfl ?_
    have at3 : qz_I (dz_put g2 770 17 (ez_v (.inl ((qz_I g2 770 17) + (1))))) 770 17 = E + 1 := by rw [w9, rz_rd ⟨by omega, by omega⟩]; omega
    have M3 : ml h (dz_put g2 770 17 (ez_v (.inl ((qz_I g2 770 17) + (1))))) l := M2.trans mz_put.ml
    have st3 : qz_I (dz_put g2 770 17 (ez_v (.inl ((qz_I g2 770 17) + (1))))) 770 18 = qz_I h 770 18 := M3.2 18 (by decide)
    have J3 : ∀ j, qz_I (dz_put g2 770 17 (ez_v (.inl ((qz_I g2 770 17) + (1))))) l j = qz_I g2 l j := fun j => mz_put.l n770 j
    have c3a : ((dz_put g2 770 17 (ez_v (.inl ((qz_I g2 770 17) + (1)))))).1 = h.1 := M3.1.1
    have c3b : ((dz_put g2 770 17 (ez_v (.inl ((qz_I g2 770 17) + (1)))))).2.1 = h.2.1 := M3.1.2.1
    have hB3 := hB8
    generalize (dz_put g2 770 17 (ez_v (.inl ((qz_I g2 770 17) + (1))))) = g3 at *
    refine ez_cv hB3 t770 rfl rfl rfl tq_75 rfl rfl rfl (rd_peek hB3 t770 (fun p3 p4 => ez_K1 ?_))
    rw [at3, st3, M3.b n771] at p3 p4 ⊢
    refine ez_go (n := 1) (pc' := 42) (L' := [(0, .inr (.inr (some (770)))), (1, .inr (.inr (some (l))))]) (st' := [.inl (46), .inl (mk (mb h) (E + 1) (qz_I h 770 18)), .inr (.inr (some (770)))]) rfl ?_
    refine ez_icmp rfl rfl ⟨by first | omega | exact (sz_i32 _).1, by first | omega | exact (sz_i32 _).2⟩ ⟨by first | omega | exact (sz_i32 _).1, by first | omega | exact (sz_i32 _).2⟩ (fun (c10 : (mk (mb h) (E + 1) (qz_I h 770 18)) ≠ (46)) => ?_) (fun (c10 : ¬((mk (mb h) (E + 1) (qz_I h 770 18)) ≠ (46))) => ?_)
    · skip
      refine ez_go (n := 1) (pc' := 50) (L' := [(0, .inr (.inr (some (770)))), (1, .inr (.inr (some (l))))]) (st' := [.inl (0), .inr (.inr (some (770)))]) rfl ?_
      refine ez_cv hB3 t770 rfl rfl rfl tq_75 rfl rfl rfl (rd_can0 (by omega) (by omega) (ez_Kp (xc_exc hB3 rfl) rfl (k0 (fun w => by obtain ⟨q1, q2⟩ := ce.2.2.2 (by omega) dotE; rw [q1, q2, if_neg (fun q => by have : mk (mb h) (E + 1) (qz_I h 770 18) = mb h (E + 1) := (by unfold mk; rw [if_pos q.1]); omega)] at w; omega) g3 hB3 M3 (fun j j1 j2 => (J3 j).trans (J2 j j1 j2)))))
    · skip
      refine ez_go (n := 2) (pc' := 50) (L' := [(0, .inr (.inr (some (770)))), (1, .inr (.inr (some (l))))]) (st' := [.inl (1), .inr (.inr (some (770)))]) rfl ?_
      refine ez_cv hB3 t770 rfl rfl rfl tq_75 rfl rfl rfl (rd_can1 (by omega) (by omega) (ez_K0 ?_))
      refine ez_go (n := 2) (pc' := 55) (L' := [(0, .inr (.inr (some (770)))), (1, .inr (.inr (some (l))))]) (st' := [.inr (.inr (some (770))), .inr (.inr (some (770)))]) rfl ?_
      refine ez_gI hB3 t770 rfl rfl tq_75 rfl rfl (fun (b11 : 0 ≤ qz_I g3 770 17) (b11' : qz_I g3 770 17 ≤ 4200) => ?_)
      refine ez_go (n := 2) (pc' := 60) (L' := [(0, .inr (.inr (some (770)))), (1, .inr (.inr (some (l))))]) (st' := [.inl ((qz_I g3 770 17) + (1)), .inr (.inr (some (770)))]) rfl ?_
      refine ez_pf hB3 t770 rfl rfl tq_75 rfl rfl rfl rfl (ez_vdI rfl rfl (by omega) (by omega)) (fun hB12 w13 => ?_)
      have hlt2 : E + 1 < qz_I h 770 18 := by by_cases e9 : E + 1 < qz_I h 770 18; (· exact e9); (· exfalso; have : mk (mb h) (E + 1) (qz_I h 770 18) = -1 := (by unfold mk; rw [if_neg e9]); omega)
      have dot2 : mb h (E + 1) = 46 := by have : mk (mb h) (E + 1) (qz_I h 770 18) = mb h (E + 1) := (by unfold mk; rw [if_pos hlt2]); omega
      have at4 : qz_I (dz_put g3 770 17 (ez_v (.inl ((qz_I g3 770 17) + (1))))) 770 17 = E + 2 := by rw [w13, rz_rd ⟨by omega, by omega⟩]; omega
      have M4 : ml h (dz_put g3 770 17 (ez_v (.inl ((qz_I g3 770 17) + (1))))) l := M3.trans mz_put.ml
      have st4 : qz_I (dz_put g3 770 17 (ez_v (.inl ((qz_I g3 770 17) + (1))))) 770 18 = qz_I h 770 18 := M4.2 18 (by decide)
      have J4 : ∀ j, j ≠ 1 → j ≠ 2 → qz_I (dz_put g3 770 17 (ez_v (.inl ((qz_I g3 770 17) + (1))))) l j = qz_I h l j := fun j j1 j2 => (mz_put.l n770 j).trans ((J3 j).trans (J2 j j1 j2))
      have V4 : qz_I (dz_put g3 770 17 (ez_v (.inl ((qz_I g3 770 17) + (1))))) l 1 = v := (mz_put.l n770 1).trans ((J3 1).trans f1)
      have c4a : ((dz_put g3 770 17 (ez_v (.inl ((qz_I g3 770 17) + (1)))))).1 = h.1 := M4.1.1
      have c4b : ((dz_put g3 770 17 (ez_v (.inl ((qz_I g3 770 17) + (1)))))).2.1 = h.2.1 := M4.1.2.1
      have hB4 := hB12
      generalize (dz_put g3 770 17 (ez_v (.inl ((qz_I g3 770 17) + (1))))) = g4 at *
      refine ez_go (n := 2) (pc' := 65) (L' := [(0, .inr (.inr (some (770)))), (1, .inr (.inr (some (l))))]) (st' := [.inr (.inr (some (770))), .inr (.inr (some (l)))]) rfl ?_
      refine ez_cv hB4 t770 rfl rfl rfl tq_75 rfl rfl rfl (rd_code hB4 t770 (by omega) (by omega) (by rw [at4, st4]; omega) (by rw [st4]; exact hs1) (fun g5 hB5 m5 a5 v5 => ez_K1 ?_) (fun hno g5 hB5 m5 => ez_Kp (xc_exc hB5 rfl) rfl (k0 ?_ g5 hB5 (M4.trans m5.ml) (fun j j1 j2 => (m5.l n770 j).trans (J4 j j1 j2)))))
      · rw [at4, st4, M4.b n771] at a5 v5 ⊢
        have cb5 := rz_code_bd (mb h) (E + 2) (me (mb h) (qz_I h 770 18 - (E + 2)).toNat (E + 2))
        have hE5 := me_le (mb h) (qz_I h 770 18 - (E + 2)).toNat (E + 2)
        have c5a := m5.1.1
        have c5b := m5.1.2.1
        have s5 : qz_I g5 770 18 = qz_I h 770 18 := (m5.2 18 (by decide)).trans st4
        have x5 : ∀ j, qz_I g5 l j = qz_I g4 l j := fun j => m5.l n770 j
        have hcode2 : qz_I g5 770 17 ≠ qz_I h 770 18 → rz_code (mb h) (E + 2) (qz_I h 770 18) = -1 := fun hne => rz_code_no (t := qz_I h 770 18) (qz_I h 770 18 - (E + 2)).toNat (Nat.le_refl _) (by omega) (by omega) (by omega)
        generalize hv5 : rz_code (mb h) (E + 2) (me (mb h) (qz_I h 770 18 - (E + 2)).toNat (E + 2)) = v2 at *
        refine ez_pf hB5 tl rfl rfl tq_13 rfl rfl rfl rfl (ez_vdI rfl rfl (by omega) (by omega)) (fun hB14 w15 => ?_)
        have M6 : ml h (dz_put g5 l 2 (ez_v (.inl (v2)))) l := (M4.trans m5.ml).trans (ml_put n770)
        have e61 : qz_I (dz_put g5 l 2 (ez_v (.inl (v2)))) l 1 = v := by rw [ez_put_I (by omega), x5]; exact V4
        have e62 : qz_I (dz_put g5 l 2 (ez_v (.inl (v2)))) l 2 = v2 := by rw [w15, rz_rd ⟨by omega, by omega⟩]
        have J6 : ∀ j, j ≠ 1 → j ≠ 2 → qz_I (dz_put g5 l 2 (ez_v (.inl (v2)))) l j = qz_I h l j := fun j j1 j2 => by rw [ez_put_I (fun w => j2 w.2), x5]; exact J4 j j1 j2
        have at6 : qz_I (dz_put g5 l 2 (ez_v (.inl (v2)))) 770 17 = qz_I g5 770 17 := ez_put_I (fun w => n770 w.1.symm)
        have st6 : qz_I (dz_put g5 l 2 (ez_v (.inl (v2)))) 770 18 = qz_I h 770 18 := M6.2 18 (by decide)
        have c6a : ((dz_put g5 l 2 (ez_v (.inl (v2))))).1 = h.1 := M6.1.1
        have c6b : ((dz_put g5 l 2 (ez_v (.inl (v2))))).2.1 = h.2.1 := M6.1.2.1
        have hB6 := hB14
        generalize (dz_put g5 l 2 (ez_v (.inl (v2)))) = g6 at *
        refine ez_go (n := 2) (pc' := 73) (L' := [(0, .inr (.inr (some (770)))), (1, .inr (.inr (some (l))))]) (st' := [.inr (.inr (some (l))), .inr (.inr (some (770)))]) rfl ?_
        refine ez_gI hB6 tl rfl rfl tq_13 rfl rfl (fun (b16 : -2147483648 ≤ qz_I g6 l 2) (b16' : qz_I g6 l 2 ≤ 2147483647) => ?_)
        refine ez_go (n := 1) (pc' := 77) (L' := [(0, .inr (.inr (some (770)))), (1, .inr (.inr (some (l))))]) (st' := [.inr (.inr (some (l))), .inl (qz_I g6 l 2), .inr (.inr (some (770)))]) rfl ?_
        refine ez_gI hB6 tl rfl rfl tq_13 rfl rfl (fun (b17 : -2147483648 ≤ qz_I g6 l 1) (b17' : qz_I g6 l 1 ≤ 2147483647) => ?_)
        refine ez_icmp rfl rfl ⟨by first | omega | exact (sz_i32 _).1, by first | omega | exact (sz_i32 _).2⟩ ⟨by first | omega | exact (sz_i32 _).1, by first | omega | exact (sz_i32 _).2⟩ (fun (c18 : (qz_I g6 l 2) < (qz_I g6 l 1)) => ?_) (fun (c18 : ¬((qz_I g6 l 2) < (qz_I g6 l 1))) => ?_)
        · skip
          refine ez_go (n := 1) (pc' := 88) (L' := [(0, .inr (.inr (some (770)))), (1, .inr (.inr (some (l))))]) (st' := [.inl (0), .inr (.inr (some (770)))]) rfl ?_
          refine ez_cv hB6 t770 rfl rfl rfl tq_75 rfl rfl rfl (rd_can0 (by omega) (by omega) (ez_Kp (xc_exc hB6 rfl) rfl (k0 (fun w => by obtain ⟨q1, q2⟩ := ce.2.2.2 (by omega) dotE; rw [q1, q2, if_pos ⟨by omega, dot2⟩] at w; by_cases e9 : qz_I g5 770 17 = qz_I h 770 18; (· have e10 : rz_code (mb h) (E + 2) (qz_I h 770 18) = v2 := (by rw [← e9, a5]; exact hv5); omega); (· rw [hcode2 e9] at w; omega)) g6 hB6 M6 J6)))
        · skip
          refine ez_go (n := 2) (pc' := 88) (L' := [(0, .inr (.inr (some (770)))), (1, .inr (.inr (some (l))))]) (st' := [.inl (1), .inr (.inr (some (770)))]) rfl ?_
          refine ez_cv hB6 t770 rfl rfl rfl tq_75 rfl rfl rfl (rd_can1 (by omega) (by omega) (ez_K0 ?_))
          refine ez_go (n := 1) (pc' := 92) (L' := [(0, .inr (.inr (some (770)))), (1, .inr (.inr (some (l))))]) (st' := [.inr (.inr (some (770)))]) rfl ?_
          refine ez_cv hB6 t770 rfl rfl rfl tq_75 rfl rfl rfl (rd_mend hB6 t770 (by omega) (by omega) (fun e9 => ez_K0 ?_) (fun e9 => ez_Kp (xc_exc hB6 rfl) rfl (k0 (fun w => by obtain ⟨q1, q2⟩ := ce.2.2.2 (by omega) dotE; rw [q1, q2, if_pos ⟨by omega, dot2⟩, hcode2 (by omega)] at w; omega) g6 hB6 M6 J6)))
          obtain ⟨q1, q2⟩ := ce.2.2.2 (by omega) dotE
          rw [if_pos ⟨by omega, dot2⟩] at q2
          have e10 : rz_code (mb h) (E + 2) (qz_I h 770 18) = v2 := by rw [← st6, ← e9, at6, a5]; exact hv5
          rw [e10] at q2
          exact ez_ret0 rfl rfl (k1 g6 hB6 M6 (e9.trans st6) (e61.trans q1.symm) (e62.trans q2.symm) (by rw [q1]; exact v1) (by rw [q1, q2]; omega) J6)
      · rw [at4, st4, M4.b n771] at hno
        intro w
        obtain ⟨q1, q2⟩ := ce.2.2.2 (by omega) dotE
        rw [q1, q2, if_pos ⟨by omega, dot2⟩] at w
        have hE5 := me_le (mb h) (qz_I h 770 18 - (E + 2)).toNat (E + 2)
        by_cases e9 : me (mb h) (qz_I h 770 18 - (E + 2)).toNat (E + 2) = qz_I h 770 18
        · rw [e9] at hno; omega
        · rw [rz_code_no (t := qz_I h 770 18) (qz_I h 770 18 - (E + 2)).toNat (Nat.le_refl _) (by omega) (by omega) (by omega)] at w; omega

end EzMi
/-! Rows: tokens of the class, CODES of the model. -/
abbrev bk (c : Int) : Prop := c = 9 ∨ c = 32
theorem tok_nb (b : Int → Int) : ∀ (n : Nat) (i j : Int), i ≤ j → j < rz_tok b n i → ¬ bk (b j)
  | 0, i, j, h1, h2 => by unfold rz_tok at h2; omega
  | n + 1, i, j, h1, h2 => by
    unfold rz_tok at h2
    split at h2
    · omega
    · rename_i e
      by_cases e2 : j = i
      · rw [e2]; exact e
      · exact tok_nb b n (i + 1) j (by omega) h2
theorem tok_stop (b : Int → Int) : ∀ (n : Nat) (i : Int), rz_tok b n i < i + n → bk (b (rz_tok b n i))
  | 0, i, h => by unfold rz_tok at h; omega
  | n + 1, i, h => by
    unfold rz_tok at h ⊢
    split at h
    · rename_i e; rw [if_pos e]; exact e
    · rename_i e
      rw [if_neg e]
      exact tok_stop b n (i + 1) (by push_cast at h; omega)
theorem skip_bk (b : Int → Int) : ∀ (n : Nat) (i j : Int), i ≤ j → j < rz_skip b n i → bk (b j)
  | 0, i, j, h1, h2 => by unfold rz_skip at h2; omega
  | n + 1, i, j, h1, h2 => by
    unfold rz_skip at h2
    split at h2
    · rename_i e
      by_cases e2 : j = i
      · rw [e2]; exact e
      · exact skip_bk b n (i + 1) j (by omega) h2
    · omega
theorem skip_stop (b : Int → Int) : ∀ (n : Nat) (i : Int), rz_skip b n i < i + n → ¬ bk (b (rz_skip b n i))
  | 0, i, h => by unfold rz_skip at h; omega
  | n + 1, i, h => by
    unfold rz_skip at h ⊢
    split at h
    · rename_i e
      rw [if_pos e]
      exact skip_stop b n (i + 1) (by push_cast at h; omega)
    · rename_i e; rw [if_neg e]; exact e
theorem skip_id {b : Int → Int} {n : Nat} {i : Int} (h : ¬ bk (b i)) : rz_skip b n i = i := by
  cases n with
  | zero => rfl
  | succ n => unfold rz_skip; rw [if_neg h]
theorem mh_bk {c : Int} (h : bk c) : ¬ 0 ≤ mh c := by rcases h with rfl | rfl <;> decide
/-- one token, both ways -/
theorem tok_me {b : Int → Int} {a t E X : Int} (hat : a ≤ t) (hE : E = me b (t - a).toNat a) (hX : X = rz_tok b (t - a).toNat a) : E ≤ X ∧ ((rz_code b a E = -1 ∨ (E < t ∧ ¬ bk (b E))) → rz_code b a X = -1) ∧ ((E = t ∨ bk (b E)) → X = E) := by
  have h1 := me_le b (t - a).toNat a
  have h2 := rz_tok_le b (t - a).toNat a
  rw [← hE] at h1
  rw [← hX] at h2
  have hle : E ≤ X := by
    by_cases e : X < E
    · exfalso
      have := me_dig b (t - a).toNat a X (by omega) (by rw [← hE]; exact e)
      exact mh_bk (by have := tok_stop b (t - a).toNat a (by rw [← hX]; omega); rw [← hX] at this; exact this) this
    · omega
  refine ⟨hle, fun w => ?_, fun w => ?_⟩
  · by_cases e : E = X
    · rw [← e]
      rcases w with w | w
      · exact w
      · exfalso
        have := tok_stop b (t - a).toNat a (by rw [← hX]; omega)
        rw [← hX, ← e] at this
        exact w.2 this
    · exact rz_code_no (t := t) (t - a).toNat (Nat.le_refl _) (by rw [← hE]; omega) (by omega) (by omega)
  · rcases w with w | w
    · omega
    · by_cases e : E < X
      · exact absurd w (tok_nb b (t - a).toNat a E (by omega) (by rw [← hX]; exact e))
      · omega
/-- how many tokens: from within one, from blanks -/
theorem ct_tok (b : Int → Int) (s : Int) : ∀ (n : Nat) (i : Int), s < i → ¬ bk (b (i - 1)) → rz_ct b s n i = rz_ct b s (n - (rz_tok b n i - i).toNat) (rz_tok b n i)
  | 0, i, _, _ => by unfold rz_tok; simp
  | n + 1, i, hs, hp => by
    by_cases e : bk (b i)
    · have e1 : rz_tok b (n + 1) i = i := by unfold rz_tok; rw [if_pos e]
      rw [e1]; simp
    · have e1 : rz_tok b (n + 1) i = rz_tok b n (i + 1) := by rw [rz_tok, if_neg e]
      have ih := ct_tok b s n (i + 1) (by omega) (by rw [show i + 1 - 1 = i by omega]; exact e)
      have hl := rz_tok_le b n (i + 1)
      have e2 : rz_ct b s (n + 1) i = rz_ct b s n (i + 1) := by
        rw [rz_ct]
        have : ¬ (¬ (b i = 9 ∨ b i = 32) ∧ (i = s ∨ (b (i - 1) = 9 ∨ b (i - 1) = 32))) := fun w => by
          rcases w.2 with q | q
          · omega
          · exact hp q
        rw [if_neg this, Nat.zero_add]
      rw [e2, ih, e1]
      congr 1
      omega
theorem ct_skip (b : Int → Int) (s : Int) : ∀ (n : Nat) (i : Int), rz_ct b s n i = rz_ct b s (n - (rz_skip b n i - i).toNat) (rz_skip b n i)
  | 0, i => by unfold rz_skip; simp
  | n + 1, i => by
    by_cases e : bk (b i)
    · have e1 : rz_skip b (n + 1) i = rz_skip b n (i + 1) := by rw [rz_skip, if_pos e]
      have ih := ct_skip b s n (i + 1)
      have hl := rz_skip_le b n (i + 1)
      have e2 : rz_ct b s (n + 1) i = rz_ct b s n (i + 1) := by
        rw [rz_ct]
        have : ¬ (¬ (b i = 9 ∨ b i = 32) ∧ (i = s ∨ (b (i - 1) = 9 ∨ b (i - 1) = 32))) := fun w => w.1 e
        rw [if_neg this, Nat.zero_add]
      rw [e2, ih, e1]
      congr 1
      omega
    · have e1 : rz_skip b (n + 1) i = i := by rw [rz_skip, if_neg e]
      rw [e1]; simp
/-- a token begins -/
theorem ct_one {b : Int → Int} {s t a X : Int} (hat : a < t) (hs : a = s ∨ (s < a ∧ bk (b (a - 1)))) (ha : ¬ bk (b a)) (hX : X = rz_tok b (t - a).toNat a) : rz_ct b s (t - a).toNat a = 1 + rz_ct b s (t - X).toNat X := by
  have hl := rz_tok_le b (t - a).toNat a
  have e1 : (t - a).toNat = (t - (a + 1)).toNat + 1 := by omega
  have e2 : rz_tok b (t - a).toNat a = rz_tok b (t - (a + 1)).toNat (a + 1) := by rw [e1, rz_tok, if_neg ha]
  have hl2 := rz_tok_le b (t - (a + 1)).toNat (a + 1)
  have e3 : rz_ct b s (t - a).toNat a = 1 + rz_ct b s (t - (a + 1)).toNat (a + 1) := by
    rw [e1, rz_ct]
    have : ¬ (b a = 9 ∨ b a = 32) ∧ (a = s ∨ (b (a - 1) = 9 ∨ b (a - 1) = 32)) := ⟨ha, hs.imp id (fun w => w.2)⟩
    rw [if_pos this]
  rw [e3, ct_tok b s _ (a + 1) (by omega) (by rw [show a + 1 - 1 = a by omega]; exact ha), ← e2, ← hX]
  congr 2
  rw [← e2, ← hX] at hl2
  omega
/-! The model: keep. (Written by wip/p2/py/pv55.py.) -/
/-- the pool -/
def po (h : cz_H) : Nat := qz_P h 770 9
def pl (h : cz_H) (j : Int) : Int := qz_I h (po h) j.toNat
def pn (h : cz_H) : Int := qz_I h 770 10
/-- one number more in the pool, which may be a new one -/
def kp (τ : Nat → Nat) (h : cz_H) (τ1 : Nat → Nat) (g : cz_H) (p : Int) : Prop :=
  (∀ q, τ q ≠ 0 → τ1 q = τ q ∧ (q ≠ 770 → q ≠ po h → g.2.2 q = h.2.2 q)) ∧ (∀ q, τ q = 0 → τ1 q ≠ 0 → τ1 q = 17) ∧ τ1 (po g) = 17 ∧
  (∀ j, j ≠ 9 → j ≠ 10 → qz_I g 770 j = qz_I h 770 j) ∧ pn g = pn h + 1 ∧ (∀ j, 0 ≤ j → j < pn h → pl g j = pl h j) ∧ pl g (pn h) = p ∧
  (pn g ≤ qz_N g (po g) ∧ qz_N h (po h) ≤ qz_N g (po g)) ∧ ((g.2.1 : Int) - h.2.1 ≤ 2 * (qz_N g (po g) - qz_N h (po h)) ∧ 1024 * ((g.1 : Int) - h.1) ≤ qz_N g (po g) - qz_N h (po h)) ∧ (h.1 ≤ g.1 ∧ h.2.1 ≤ g.2.1) ∧ (po g = po h ∨ τ (po g) = 0)
section EzKp
variable {d : Nat} {h : cz_H} {τ : Nat → Nat} {Q : cz_F → Prop}
theorem rd_keep_l {p : Int} {q : Nat} (t770 : τ 770 = 75) (tq : τ q = 17) (tpo : τ (po h) = 17) (n770 : 770 ≠ q) (npo : po h ≠ q) (hn : pn h ≤ qz_N h q) (hn2 : pn h ≤ qz_N h (po h)) (kx : ∀ g, ez_B τ g → ez_fr (ez_one q) h g → qz_N g q = qz_N h q → (∀ j, 0 ≤ j → j < pn h → qz_I g q j.toNat = pl h j) → ez_W d cm_270 46 [(2, .inr (.inr (some (q)))), (0, .inr (.inr (some (770)))), (1, .inl (p))] [] g Q) : ∀ (m : Nat) (i : Int) (g : cz_H), m = (pn h - i).toNat → 0 ≤ i → i ≤ pn h → ez_B τ g → ez_fr (ez_one q) h g → qz_N g q = qz_N h q → (∀ j, 0 ≤ j → j < i → qz_I g q j.toNat = pl h j) → ez_W d cm_270 23 [(3, .inl (i)), (2, .inr (.inr (some (q)))), (0, .inr (.inr (some (770)))), (1, .inl (p))] [] g Q := by
  unfold pl pn at *
  intro m
  induction m with
  | zero =>
    intro i g hm i0 i1 hB hf nq hc
    have f770 : ∀ j, qz_I g 770 j = qz_I h 770 j := fun j => hf.I (dz_beq_ne n770) j
    have ep : qz_P g 770 9 = po h := by unfold po qz_P; rw [f770]
    have f10 := f770 10
    have np : qz_N g (po h) = qz_N h (po h) := hf.N (dz_beq_ne npo)
    have fpo : ∀ j, qz_I g (po h) j = qz_I h (po h) j := fun j => hf.I (dz_beq_ne npo) j
    refine ez_go (n := 2) (pc' := 25) (L' := [(3, .inl (i)), (2, .inr (.inr (some (q)))), (0, .inr (.inr (some (770)))), (1, .inl (p))]) (st' := [.inr (.inr (some (770))), .inl (i)]) rfl ?_
    refine ez_gI hB t770 rfl rfl tq_75 rfl rfl (fun (b1 : 0 ≤ qz_I g 770 10) (b1' : qz_I g 770 10 ≤ 38500) => ?_)
    refine ez_icmp rfl rfl ⟨by first | omega | exact (sz_i32 _).1, by first | omega | exact (sz_i32 _).2⟩ ⟨by first | omega | exact (sz_i32 _).1, by first | omega | exact (sz_i32 _).2⟩ (fun (c2 : (qz_I g 770 10) ≤ (i)) => ?_) (fun (c2 : ¬((qz_I g 770 10) ≤ (i))) => ?_)
    · skip
      refine ez_less [(2, .inr (.inr (some (q)))), (0, .inr (.inr (some (770)))), (1, .inl (p))] rfl ⟨rfl, rfl, rfl, trivial⟩ ?_
      exact kx g hB hf nq (fun j j0 j1 => hc j j0 (by omega))
    · exfalso; omega
  | succ m ih =>
    intro i g hm i0 i1 hB hf nq hc
    have f770 : ∀ j, qz_I g 770 j = qz_I h 770 j := fun j => hf.I (dz_beq_ne n770) j
    have ep : qz_P g 770 9 = po h := by unfold po qz_P; rw [f770]
    have f10 := f770 10
    have np : qz_N g (po h) = qz_N h (po h) := hf.N (dz_beq_ne npo)
    have fpo : ∀ j, qz_I g (po h) j = qz_I h (po h) j := fun j => hf.I (dz_beq_ne npo) j
    refine ez_go (n := 2) (pc' := 25) (L' := [(3, .inl (i)), (2, .inr (.inr (some (q)))), (0, .inr (.inr (some (770)))), (1, .inl (p))]) (st' := [.inr (.inr (some (770))), .inl (i)]) rfl ?_
    refine ez_gI hB t770 rfl rfl tq_75 rfl rfl (fun (b1 : 0 ≤ qz_I g 770 10) (b1' : qz_I g 770 10 ≤ 38500) => ?_)
    refine ez_icmp rfl rfl ⟨by first | omega | exact (sz_i32 _).1, by first | omega | exact (sz_i32 _).2⟩ ⟨by first | omega | exact (sz_i32 _).1, by first | omega | exact (sz_i32 _).2⟩ (fun (c2 : (qz_I g 770 10) ≤ (i)) => ?_) (fun (c2 : ¬((qz_I g 770 10) ≤ (i))) => ?_)
    · exfalso; omega
    · skip
      refine ez_go (n := 3) (pc' := 34) (L' := [(3, .inl (i)), (2, .inr (.inr (some (q)))), (0, .inr (.inr (some (770)))), (1, .inl (p))]) (st' := [.inr (.inr (some (770))), .inl (i), .inr (.inr (some (q)))]) rfl ?_
      refine ez_gR hB t770 rfl rfl tq_75 rfl rfl (fun (t3 : _ = 17) (t3' : 1 ≤ qz_I g 770 9) => ?_)
      rw [ep] at *
      refine ez_go (n := 1) (pc' := 38) (L' := [(3, .inl (i)), (2, .inr (.inr (some (q)))), (0, .inr (.inr (some (770)))), (1, .inl (p))]) (st' := [.inl (i), .inr (.inr (some ((po h)))), .inl (i), .inr (.inr (some (q)))]) rfl ?_
      have n5 : 1024 ≤ qz_N g ((po h)) ∧ qz_N g ((po h)) ≤ 77100 := ez_len hB t3 tq_17 rfl
      refine ez_aI hB t3 rfl tq_17 rfl rfl (by omega) (by omega) (fun (b4 : -2147483648 ≤ qz_I g ((po h)) (i).toNat) (b4' : qz_I g ((po h)) (i).toNat ≤ 2147483647) => ?_)
      have n8 : 1024 ≤ qz_N g q ∧ qz_N g q ≤ 77100 := ez_len hB tq tq_17 rfl
      refine ez_as hB tq rfl tq_17 rfl rfl (by omega) (by omega) (ez_vdI rfl rfl (by omega) (by omega)) (fun hB6 w7 => ?_)
      refine ez_go (n := 2) (pc' := 23) (L' := [(3, .inl (i + 1)), (2, .inr (.inr (some (q)))), (0, .inr (.inr (some (770)))), (1, .inl (p))]) (st' := []) rfl ?_
      refine ez_less [(3, .inl (i + 1)), (2, .inr (.inr (some (q)))), (0, .inr (.inr (some (770)))), (1, .inl (p))] rfl ⟨rfl, rfl, rfl, rfl, trivial⟩ ?_
      refine ih (i + 1) _ (by omega) (by omega) (by omega) hB6 (hf.put (show Nat.beq q q = true from Nat.beq_refl q) _ _) (by rw [ez_put_N]; exact nq) (fun j j0 j1 => ?_)
      by_cases e : j = i
      · rw [e, w7, rz_rd ⟨by omega, by omega⟩, fpo]
      · rw [ez_put_I (by omega)]; exact hc j j0 (by omega)
theorem rd_keep_e {p : Int} (hB : ez_B τ h) (t770 : τ 770 = 75) (npo : po h ≠ 770) (p0 : -2147483648 ≤ p) (p1 : p ≤ 2147483647) (hn : pn h < qz_N h (po h)) (hm : pn h < 38500) (kx : ∀ g, ez_B τ g → ez_fr (nz_PL (po h)) h g → po g = po h → (∀ j, j ≠ 10 → qz_I g 770 j = qz_I h 770 j) → pn g = pn h + 1 → (∀ j, 0 ≤ j → j < pn h → pl g j = pl h j) → pl g (pn h) = p → qz_N g (po h) = qz_N h (po h) → Q (.inl none, g)) : ez_W d cm_270 51 [(0, .inr (.inr (some (770)))), (1, .inl (p))] [] h Q := by
  have hn' : qz_I h 770 10 < qz_N h (po h) := hn
  have hm' : qz_I h 770 10 < 38500 := hm
  refine ez_go (n := 1) (pc' := 52) (L' := [(0, .inr (.inr (some (770)))), (1, .inl (p))]) (st' := [.inr (.inr (some (770)))]) rfl ?_
  refine ez_gR hB t770 rfl rfl tq_75 rfl rfl (fun (t1 : _ = 17) (t1' : 1 ≤ qz_I h 770 9) => ?_)
  rw [show qz_P h 770 9 = po h from rfl] at *
  refine ez_go (n := 1) (pc' := 56) (L' := [(0, .inr (.inr (some (770)))), (1, .inl (p))]) (st' := [.inr (.inr (some (770))), .inr (.inr (some ((po h))))]) rfl ?_
  refine ez_gI hB t770 rfl rfl tq_75 rfl rfl (fun (b2 : 0 ≤ qz_I h 770 10) (b2' : qz_I h 770 10 ≤ 38500) => ?_)
  refine ez_go (n := 1) (pc' := 60) (L' := [(0, .inr (.inr (some (770)))), (1, .inl (p))]) (st' := [.inl (p), .inl (qz_I h 770 10), .inr (.inr (some ((po h))))]) rfl ?_
  have n5 : 1024 ≤ qz_N h ((po h)) ∧ qz_N h ((po h)) ≤ 77100 := ez_len hB t1 tq_17 rfl
  refine ez_as hB t1 rfl tq_17 rfl rfl (by omega) (by omega) (ez_vdI rfl rfl (by omega) (by omega)) (fun hB3 w4 => ?_)
  refine ez_go (n := 2) (pc' := 63) (L' := [(0, .inr (.inr (some (770)))), (1, .inl (p))]) (st' := [.inr (.inr (some (770))), .inr (.inr (some (770)))]) rfl ?_
  refine ez_gI hB3 t770 rfl rfl tq_75 rfl rfl (fun (b6 : 0 ≤ qz_I (dz_put h ((po h)) (qz_I h 770 10).toNat (ez_v (.inl (p)))) 770 10) (b6' : qz_I (dz_put h ((po h)) (qz_I h 770 10).toNat (ez_v (.inl (p)))) 770 10 ≤ 38500) => ?_)
  have hc9 : qz_I (dz_put h ((po h)) (qz_I h 770 10).toNat (ez_v (.inl (p)))) 770 10 = qz_I h 770 10 := ez_put_I (fun w => npo w.1.symm)
  refine ez_go (n := 2) (pc' := 68) (L' := [(0, .inr (.inr (some (770)))), (1, .inl (p))]) (st' := [.inl ((qz_I (dz_put h ((po h)) (qz_I h 770 10).toNat (ez_v (.inl (p)))) 770 10) + (1)), .inr (.inr (some (770)))]) rfl ?_
  refine ez_pf hB3 t770 rfl rfl tq_75 rfl rfl rfl rfl (ez_vdI rfl rfl (by omega) (by omega)) (fun hB7 w8 => ?_)
  have ho : po (dz_put (dz_put h ((po h)) (qz_I h 770 10).toNat (ez_v (.inl (p)))) 770 10 (ez_v (.inl ((qz_I (dz_put h ((po h)) (qz_I h 770 10).toNat (ez_v (.inl (p)))) 770 10) + (1))))) = po h := by show qz_P (dz_put (dz_put h ((po h)) (qz_I h 770 10).toNat (ez_v (.inl (p)))) 770 10 (ez_v (.inl ((qz_I (dz_put h ((po h)) (qz_I h 770 10).toNat (ez_v (.inl (p)))) 770 10) + (1))))) 770 9 = po h; rw [ez_put_P (by omega), ez_put_P (fun w => npo w.1.symm)]; rfl
  refine ez_ret0 rfl rfl (kx _ hB7 ⟨(((ez_fr.refl (nz_PL (po h)) h).put (by unfold nz_PL; rw [Nat.beq_refl, Bool.or_true]) _ _).put (by unfold nz_PL; rfl) _ _).1, (((ez_fr.refl (nz_PL (po h)) h).put (by unfold nz_PL; rw [Nat.beq_refl, Bool.or_true]) _ _).put (by unfold nz_PL; rfl) _ _).2.1, (((ez_fr.refl (nz_PL (po h)) h).put (by unfold nz_PL; rw [Nat.beq_refl, Bool.or_true]) _ _).put (by unfold nz_PL; rfl) _ _).2.2⟩ ho (fun j hj => by rw [ez_put_I (fun w => hj w.2), ez_put_I (fun w => npo w.1.symm)]) (by unfold pn; rw [w8, rz_rd ⟨by omega, by omega⟩, hc9]) (fun j j0 j1 => ?_) ?_ (by rw [ez_put_N, ez_put_N]))
  · unfold pl; rw [ho, ez_put_I (fun w => npo w.1), ez_put_I (by unfold pn at j1; omega)]
  · unfold pl pn; rw [ho, ez_put_I (fun w => npo w.1), w4, rz_rd ⟨by omega, by omega⟩]

theorem rd_keep {p : Int} (hB : ez_B τ h) (t770 : τ 770 = 75) (p0 : -2147483648 ≤ p) (p1 : p ≤ 2147483647) (hn : pn h ≤ qz_N h (po h)) (hm : pn h < 38500) (hr1 : h.1 + 1 ≤ 600192) (hr2 : h.2.1 + 77000 ≤ 7302232) (kx : ∀ g τ1, ez_B τ1 g → kp τ h τ1 g p → Q (.inl none, g)) : ez_W d cm_270 0 [(0, .inr (.inr (some (770)))), (1, .inl (p))] [] h Q := by
  have b9 : 1 ≤ qz_I h 770 9 ∧ qz_I h 770 9 ≤ 1000000 := ez_fB (cl := 11) hB t770 tq_75 rfl rfl (by decide)
  have tpo : τ (po h) = 17 := (ez_old (cl := 11) (k := 9) hB t770 tq_75 rfl rfl (by decide) (show qz_I h 770 9 = (po h : Int) + 1 by unfold po qz_P; omega)).1
  have npo : po h ≠ 770 := fun e => by rw [e, t770] at tpo; cases tpo
  have hm' : qz_I h 770 10 < 38500 := hm
  have hn' : qz_I h 770 10 ≤ qz_N h (po h) := hn
  have lpo : 1024 ≤ qz_N h (po h) ∧ qz_N h (po h) ≤ 77100 := ez_len hB tpo tq_17 rfl
  refine ez_go (n := 1) (pc' := 1) (L' := [(0, .inr (.inr (some (770)))), (1, .inl (p))]) (st' := [.inr (.inr (some (770)))]) rfl ?_
  refine ez_gI hB t770 rfl rfl tq_75 rfl rfl (fun (b1 : 0 ≤ qz_I h 770 10) (b1' : qz_I h 770 10 ≤ 38500) => ?_)
  refine ez_go (n := 1) (pc' := 5) (L' := [(0, .inr (.inr (some (770)))), (1, .inl (p))]) (st' := [.inr (.inr (some (770))), .inl (qz_I h 770 10)]) rfl ?_
  refine ez_gR hB t770 rfl rfl tq_75 rfl rfl (fun (t2 : _ = 17) (t2' : 1 ≤ qz_I h 770 9) => ?_)
  rw [show qz_P h 770 9 = po h from rfl] at *
  refine ez_al hB t2 rfl tq_17 rfl (fun (b3 : 1024 ≤ qz_N h ((po h))) (b3' : qz_N h ((po h)) ≤ 77100) => ?_)
  refine ez_icmp rfl rfl ⟨by first | omega | exact (sz_i32 _).1, by first | omega | exact (sz_i32 _).2⟩ ⟨by first | omega | exact (sz_i32 _).1, by first | omega | exact (sz_i32 _).2⟩ (fun (c4 : (qz_I h 770 10) ≠ (qz_N h ((po h)))) => ?_) (fun (c4 : ¬((qz_I h 770 10) ≠ (qz_N h ((po h))))) => ?_)
  · skip
    refine ez_less [(0, .inr (.inr (some (770)))), (1, .inl (p))] rfl ⟨rfl, rfl, trivial⟩ ?_
    refine rd_keep_e hB t770 npo p0 p1 (by unfold pn; omega) hm (fun g hBg f ho hj hn2 hl hp hN => kx g τ hBg ⟨fun q hq => ⟨rfl, fun q1 q2 => f.2.2 q (by unfold nz_PL; rw [dz_beq_ne q1, dz_beq_ne q2]; rfl)⟩, fun q h1 h2 => absurd h1 h2, by rw [ho]; exact tpo, fun j j9 j10 => hj j j10, hn2, hl, hp, ⟨by rw [ho, hN, hn2]; unfold pn; omega, by rw [ho, hN]; exact Int.le_refl _⟩, ⟨by rw [ho, hN, f.2.1]; omega, by rw [ho, hN, f.1]; omega⟩, ⟨by rw [f.1]; exact Nat.le_refl _, by rw [f.2.1]; exact Nat.le_refl _⟩, Or.inl ho⟩)
  · skip
    refine ez_go (n := 2) (pc' := 14) (L' := [(0, .inr (.inr (some (770)))), (1, .inl (p))]) (st' := [.inr (.inr (some (770))), .inl (2)]) rfl ?_
    refine ez_gI hB t770 rfl rfl tq_75 rfl rfl (fun (b5 : 0 ≤ qz_I h 770 10) (b5' : qz_I h 770 10 ≤ 38500) => ?_)
    refine ez_go (n := 1) (pc' := 18) (L' := [(0, .inr (.inr (some (770)))), (1, .inl (p))]) (st' := [.inl ((2) * (qz_I h 770 10))]) rfl ?_
    refine ez_nA' (t := 17) hB rfl rfl rfl tq_17 rfl rfl (by omega) (by show (1024 : Int) ≤ _; omega) (by show _ ≤ (77100 : Int); omega) (by omega) (by omega) (by omega) (fun g6 τ6 p6 hB6 x6 o6 t6 z6 e6 N6 y6 => ?_)
    have c6 := x6.2
    have t770n6 := (x6.1 _ (by rw [t770]; decide)).1.trans t770
    have t2n6 := (x6.1 _ (by rw [t2]; decide)).1.trans t2
    have t2n6 := (x6.1 _ (by rw [t2]; decide)).1.trans t2
    have hq770 : 770 ≠ p6 := fun e => by rw [← e, t770] at z6; cases z6
    have hqpo : po h ≠ p6 := fun e => by rw [← e, tpo] at z6; cases z6
    have f9 : ∀ j, qz_I g6 770 j = qz_I h 770 j := fun j => x6.I (by rw [t770]; decide) j
    have epo : po g6 = po h := by unfold po qz_P; rw [f9]
    have epn : pn g6 = pn h := f9 10
    have epl : ∀ j, pl g6 j = pl h j := fun j => by unfold pl; rw [epo]; exact x6.I (by rw [tpo]; decide) _
    have eN : qz_N g6 (po h) = qz_N h (po h) := x6.N (by rw [tpo]; decide)
    refine ez_go (n := 3) (pc' := 23) (L' := [(3, .inl (0)), (2, .inr (.inr (some (p6)))), (0, .inr (.inr (some (770)))), (1, .inl (p))]) (st' := []) rfl ?_
    refine ez_less [(3, .inl (0)), (2, .inr (.inr (some (p6)))), (0, .inr (.inr (some (770)))), (1, .inl (p))] rfl ⟨rfl, rfl, rfl, rfl, trivial⟩ ?_
    have hcN : pn h = qz_N h (po h) := by unfold pn; omega
    refine rd_keep_l (h := g6) t770n6 t6 (by rw [epo]; exact (x6.1 _ (by rw [tpo]; decide)).1.trans tpo) hq770 (by rw [epo]; exact hqpo) (by rw [epn, N6]; unfold pn; omega) (by rw [epn, epo, eN]; omega) (fun g2 hB2 f2 n2 c2 => ?_) _ 0 g6 rfl (by omega) (by rw [epn]; unfold pn; omega) hB6 (ez_fr.refl _ _) rfl (fun j j0 j1 => by omega)
    refine ez_go (n := 2) (pc' := 48) (L' := [(2, .inr (.inr (some (p6)))), (0, .inr (.inr (some (770)))), (1, .inl (p))]) (st' := [.inr (.inr (some (p6))), .inr (.inr (some (770)))]) rfl ?_
    refine ez_pf hB2 t770n6 rfl rfl tq_75 rfl rfl rfl rfl (ez_vdR rfl t6 (by omega) (by omega)) (fun hB7 w8 => ?_)
    refine ez_less [(0, .inr (.inr (some (770)))), (1, .inl (p))] rfl ⟨rfl, rfl, trivial⟩ ?_
    have hpo3 : po (dz_put g2 770 9 (ez_v (.inr (.inr (some (p6)))))) = p6 := by unfold po qz_P; rw [w8]; show ((p6 : Int) + 1 - 1).toNat = p6; omega
    have h3j : ∀ j, j ≠ 9 → qz_I (dz_put g2 770 9 (ez_v (.inr (.inr (some (p6)))))) 770 j = qz_I h 770 j := fun j hj => by rw [ez_put_I (fun w => hj w.2), f2.I (dz_beq_ne hq770)]; exact f9 j
    have hpn3 : pn (dz_put g2 770 9 (ez_v (.inr (.inr (some (p6)))))) = pn h := h3j 10 (by decide)
    have hN3 : qz_N (dz_put g2 770 9 (ez_v (.inr (.inr (some (p6)))))) p6 = 2 * pn h := by rw [ez_put_N, n2, N6]; rfl
    have hpl3 : ∀ j, 0 ≤ j → j < pn h → pl (dz_put g2 770 9 (ez_v (.inr (.inr (some (p6)))))) j = pl h j := fun j j0 j1 => by unfold pl; rw [hpo3, ez_put_I (fun w => hq770 w.1.symm), c2 j j0 (by rw [epn]; exact j1), epl]; rfl
    have fr3 : ∀ q, q ≠ 770 → q ≠ p6 → ((dz_put g2 770 9 (ez_v (.inr (.inr (some (p6))))))).2.2 q = g6.2.2 q := fun q h1 h2 => by rw [qz_put_at _ _ _ _ h1, f2.2.2 q (dz_beq_ne h2)]
    have c31 : ((dz_put g2 770 9 (ez_v (.inr (.inr (some (p6))))))).1 = g6.1 := f2.1
    have c32 : ((dz_put g2 770 9 (ez_v (.inr (.inr (some (p6))))))).2.1 = g6.2.1 := f2.2.1
    have hB3 := hB7
    generalize (dz_put g2 770 9 (ez_v (.inr (.inr (some (p6)))))) = g3 at *
    refine rd_keep_e hB3 t770n6 (by rw [hpo3]; exact hq770.symm) p0 p1 (by rw [hpn3, hpo3, hN3]; unfold pn at *; omega) (by rw [hpn3]; exact hm) (fun g4 hB4 f4 ho4 hj4 hn4 hl4 hp4 hN4 => ?_)
    rw [hpo3] at f4 ho4 hN4
    rw [hpn3] at hn4 hl4 hp4
    have cx := x6.2
    refine kx g4 τ6 hB4 ⟨fun q hq => ⟨(x6.1 q hq).1, fun q1 q2 => ?_⟩, fun q h1 h2 => ?_, by rw [ho4]; exact t6, fun j j9 j10 => (hj4 j j10).trans (h3j j j9), hn4, fun j j0 j1 => (hl4 j j0 j1).trans (hpl3 j j0 j1), hp4, ⟨by rw [ho4, hN4, hN3, hn4]; unfold pn at *; omega, by rw [ho4, hN4, hN3]; omega⟩, ⟨by rw [ho4, hN4, hN3, f4.2.1, c32]; unfold pn at *; omega, by rw [ho4, hN4, hN3, f4.1, c31]; unfold pn at *; omega⟩, ⟨by rw [f4.1, c31]; omega, by rw [f4.2.1, c32]; omega⟩, Or.inr (by rw [ho4]; exact z6)⟩
    · have hqp : q ≠ p6 := fun e => by rw [e, z6] at hq; exact hq rfl
      rw [f4.2.2 q (by unfold nz_PL; rw [dz_beq_ne q1, dz_beq_ne hqp]; rfl), fr3 q q1 hqp, (x6.1 q hq).2]
    · by_cases e : q = p6
      · rw [e]; exact t6
      · rw [o6 q e] at h2; exact absurd h1 h2

end EzKp
/-! The model: row. (Written by wip/p2/py/pv56.py.) -/
/-- numbers more in the pool; the place of reading may have changed, and the cells of X -/
def kl (X : Nat → Bool) (τ : Nat → Nat) (h : cz_H) (τ1 : Nat → Nat) (g : cz_H) (A : List Int) : Prop :=
  (∀ q, τ q ≠ 0 → τ1 q = τ q ∧ (q ≠ 770 → q ≠ po h → X q = false → g.2.2 q = h.2.2 q)) ∧ (∀ q, τ q = 0 → τ1 q ≠ 0 → τ1 q = 17) ∧ τ1 (po g) = 17 ∧
  (∀ j, j ≠ 9 → j ≠ 10 → j ≠ 17 → qz_I g 770 j = qz_I h 770 j) ∧ pn g = pn h + (A.length : Int) ∧ (∀ j, 0 ≤ j → j < pn h → pl g j = pl h j) ∧ (∀ (j : Nat) v, A[j]? = some v → pl g (pn h + (j : Int)) = v) ∧
  (pn g ≤ qz_N g (po g) ∧ qz_N h (po h) ≤ qz_N g (po g)) ∧ ((g.2.1 : Int) - h.2.1 ≤ 2 * (qz_N g (po g) - qz_N h (po h)) ∧ 1024 * ((g.1 : Int) - h.1) ≤ qz_N g (po g) - qz_N h (po h)) ∧ (h.1 ≤ g.1 ∧ h.2.1 ≤ g.2.1) ∧ (po g = po h ∨ τ (po g) = 0)
theorem kl.nil {X : Nat → Bool} {τ : Nat → Nat} {h : cz_H} (tpo : τ (po h) = 17) (hn : pn h ≤ qz_N h (po h)) : kl X τ h τ h [] :=
  ⟨fun _ _ => ⟨rfl, fun _ _ _ => rfl⟩, fun _ h1 h2 => absurd h1 h2, tpo, fun _ _ _ _ => rfl, by simp, fun _ _ _ => rfl, fun j v hj => (by cases hj), ⟨hn, Int.le_refl _⟩, ⟨by omega, by omega⟩, ⟨Nat.le_refl _, Nat.le_refl _⟩, Or.inl rfl⟩
theorem kl.mz {X : Nat → Bool} {τ τ1 : Nat → Nat} {h g g2 : cz_H} {A : List Int} (a : kl X τ h τ1 g A) (m : mz g g2) (t770 : τ1 770 = 75) : kl X τ h τ1 g2 A := by
  obtain ⟨a1, a2, a3, a4, a5, a6, a7, a8, a9, a10, a11⟩ := a
  have np : po g ≠ 770 := fun e => by rw [e, t770] at a3; cases a3
  have ep : po g2 = po g := by unfold po qz_P; rw [m.2 9 (by decide)]
  have en : pn g2 = pn g := m.2 10 (by decide)
  have el : ∀ j, pl g2 j = pl g j := fun j => by unfold pl; rw [ep]; exact m.I np _
  have eN : qz_N g2 (po g) = qz_N g (po g) := m.N np
  refine ⟨fun q hq => ⟨(a1 q hq).1, fun q1 q2 q3 => (m.1.2.2 q (dz_beq_ne q1)).trans ((a1 q hq).2 q1 q2 q3)⟩, a2, by rw [ep]; exact a3, fun j j1 j2 j3 => (m.2 j j3).trans (a4 j j1 j2 j3), by rw [en]; exact a5, fun j j0 j1 => (el j).trans (a6 j j0 j1), fun j v hj => (el _).trans (a7 j v hj), by rw [ep, en, eN]; exact a8, by rw [ep, eN, m.1.1, m.1.2.1]; exact a9, by rw [m.1.1, m.1.2.1]; exact a10, by rw [ep]; exact a11⟩
theorem kl.keep {X : Nat → Bool} {τ τ1 τ2 : Nat → Nat} {h g g2 : cz_H} {A : List Int} {v : Int} (a : kl X τ h τ1 g A) (b : kp τ1 g τ2 g2 v) (h0 : 0 ≤ pn h) : kl X τ h τ2 g2 (A ++ [v]) := by
  obtain ⟨a1, a2, a3, a4, a5, a6, a7, a8, a9, a10, a11⟩ := a
  obtain ⟨b1, b2, b3, b4, b5, b6, b7, b8, b9, b10, b11⟩ := b
  have t17 : ∀ q, τ q ≠ 0 → q ≠ po h → q ≠ po g := fun q hq h1 e => by
    rcases a11 with w | w
    · exact h1 (e.trans w)
    · rw [← e] at w; exact hq w
  refine ⟨fun q hq => ⟨(b1 q (by rw [(a1 q hq).1]; exact hq)).1.trans (a1 q hq).1, fun q1 q2 q3 => ((b1 q (by rw [(a1 q hq).1]; exact hq)).2 q1 (t17 q hq q2)).trans ((a1 q hq).2 q1 q2 q3)⟩, fun q h1 h2 => ?_, b3, fun j j1 j2 j3 => (b4 j j1 j2).trans (a4 j j1 j2 j3), by rw [b5, a5, List.length_append, List.length_singleton]; omega, fun j j0 j1 => (b6 j j0 (by omega)).trans (a6 j j0 j1), fun j w hj => ?_, ⟨b8.1, by omega⟩, ⟨by omega, by omega⟩, ⟨by omega, by omega⟩, ?_⟩
  · by_cases e : τ1 q = 0
    · exact b2 q e h2
    · have := a2 q h1 e
      rw [(b1 q e).1]; exact this
  · by_cases e : j < A.length
    · rw [List.getElem?_append_left e] at hj
      exact (b6 _ (by omega) (by omega)).trans (a7 j w hj)
    · rw [List.getElem?_append_right (by omega)] at hj
      have e10 : j = A.length := by have := (List.getElem?_eq_some_iff.mp hj).1; simp only [List.length_singleton] at this; omega
      subst e10
      rw [Nat.sub_self] at hj
      cases hj
      rw [← a5]; exact b7
  · rcases b11 with w | w
    · rw [w]; exact a11
    · by_cases e : τ (po g2) = 0
      · exact Or.inr e
      · rw [(a1 _ e).1] at w; exact absurd w e
theorem kl.put {X : Nat → Bool} {τ τ1 : Nat → Nat} {h g : cz_H} {A : List Int} {r i : Nat} {v : cz_V} (a : kl X τ h τ1 g A) (hX : X r = true) (hr : r ≠ 770) (hp : r ≠ po g) : kl X τ h τ1 (dz_put g r i v) A := by
  obtain ⟨a1, a2, a3, a4, a5, a6, a7, a8, a9, a10, a11⟩ := a
  have e0 : ∀ j, qz_I (dz_put g r i v) 770 j = qz_I g 770 j := fun j => ez_put_I (fun w => hr w.1.symm)
  have ep : po (dz_put g r i v) = po g := by show qz_P (dz_put g r i v) 770 9 = _; unfold qz_P; rw [e0]; rfl
  have en : pn (dz_put g r i v) = pn g := e0 10
  have el : ∀ j, pl (dz_put g r i v) j = pl g j := fun j => by unfold pl; rw [ep]; exact ez_put_I (fun w => hp w.1.symm)
  refine ⟨fun q hq => ⟨(a1 q hq).1, fun q1 q2 q3 => (qz_put_at _ _ _ _ (fun e => by rw [e, hX] at q3; cases q3)).trans ((a1 q hq).2 q1 q2 q3)⟩, a2, by rw [ep]; exact a3, fun j j1 j2 j3 => (e0 j).trans (a4 j j1 j2 j3), by rw [en]; exact a5, fun j j0 j1 => (el j).trans (a6 j j0 j1), fun j v hj => (el _).trans (a7 j v hj), by rw [ep, en, ez_put_N]; exact a8, by rw [ep, ez_put_N]; exact a9, a10, by rw [ep]; exact a11⟩
/-- a row, token by token -/
theorem row_step {b : Int → Int} {s t a X : Int} (hat : a < t) (hs : a = s ∨ (s < a ∧ bk (b (a - 1)))) (ha : ¬ bk (b a)) (hX : X = rz_tok b (t - a).toNat a) : rz_row b (rz_ct b s (t - a).toNat a) a t = if rz_code b a X = -1 then none else (rz_row b (rz_ct b s (t - X).toNat X) X t).map (fun l => rz_code b a X :: l) := by
  rw [ct_one hat hs ha hX, Nat.add_comm, rz_row, skip_id ha, ← hX]
theorem row_skip {b : Int → Int} {s t X a : Int} (hXt : X ≤ t) (ha : a = rz_skip b (t - X).toNat X) : rz_row b (rz_ct b s (t - X).toNat X) X t = rz_row b (rz_ct b s (t - a).toNat a) a t := by
  have hl := rz_skip_le b (t - X).toNat X
  rw [ct_skip b s (t - X).toNat X, ← ha]
  rw [show (t - X).toNat - (a - X).toNat = (t - a).toNat by omega]
  cases hc : rz_ct b s (t - a).toNat a with
  | zero => rfl
  | succ m =>
    have ha2 : rz_skip b (t - a).toNat a = a := by
      by_cases e : a < t
      · exact skip_id (by have := skip_stop b (t - X).toNat X (by rw [← ha]; omega); rw [← ha] at this; exact this)
      · rw [show (t - a).toNat = 0 by omega]; rfl
    rw [rz_row, rz_row, ← ha, ha2]
theorem row_fin {b : Int → Int} {s t a v mo : Int} {A : List Int} (hat : a < t) (hts : a = s ∨ (s < a ∧ bk (b (a - 1)))) (hnb : ¬ bk (b a)) (hX : rz_tok b (t - a).toNat a = t) (hv : rz_code b a t = v) (v1 : v ≠ -1) (hct : rz_ct b s (t - s).toNat s = A.length + rz_ct b s (t - a).toNat a) (hrow : rz_row b (rz_ct b s (t - s).toNat s) s t = (rz_row b (rz_ct b s (t - a).toNat a) a t).map (fun z => A ++ z)) (hm : (A.length : Int) < mo) : rz_rw b mo s t = some (A ++ [v]) := by
  have q1 := ct_one (b := b) (s := s) (t := t) (a := a) hat hts hnb rfl
  rw [hX, show (t - t).toNat = 0 by omega] at q1
  have q2 : rz_ct b s 0 t = 0 := rfl
  unfold rz_rw
  rw [if_pos (by omega), hrow, row_step hat hts hnb rfl, hX, hv, if_neg v1, show (t - t).toNat = 0 by omega, q2]
  rfl
theorem row_next {b : Int → Int} {s t a v E a2 : Int} {A : List Int} (hat : a < t) (hts : a = s ∨ (s < a ∧ bk (b (a - 1)))) (hnb : ¬ bk (b a)) (hX : rz_tok b (t - a).toNat a = E) (hEt : E < t) (hbE : bk (b E)) (ha2 : a2 = rz_skip b (t - E).toNat E) (htr : ¬ bk (b (t - 1))) (hv : rz_code b a E = v) (v1 : v ≠ -1) (hct : rz_ct b s (t - s).toNat s = A.length + rz_ct b s (t - a).toNat a) (hrow : rz_row b (rz_ct b s (t - s).toNat s) s t = (rz_row b (rz_ct b s (t - a).toNat a) a t).map (fun z => A ++ z)) : (E < a2 ∧ a2 < t) ∧ ¬ bk (b a2) ∧ bk (b (a2 - 1)) ∧ rz_ct b s (t - s).toNat s = (A ++ [v]).length + rz_ct b s (t - a2).toNat a2 ∧ rz_row b (rz_ct b s (t - s).toNat s) s t = (rz_row b (rz_ct b s (t - a2).toNat a2) a2 t).map (fun z => (A ++ [v]) ++ z) := by
  have hsl := rz_skip_le b (t - E).toNat E
  rw [← ha2] at hsl
  have hlt4 : a2 < t := by
    by_cases e9 : a2 < t
    · exact e9
    · exact absurd (skip_bk b (t - E).toNat E (t - 1) (by omega) (by omega)) htr
  have hgt4 : E < a2 := by
    rw [ha2, show (t - E).toNat = (t - (E + 1)).toNat + 1 by omega, rz_skip, if_pos hbE]
    have := rz_skip_le b (t - (E + 1)).toNat (E + 1); omega
  have hnb4 : ¬ bk (b a2) := by rw [ha2]; exact skip_stop b (t - E).toNat E (by omega)
  have hpb4 : bk (b (a2 - 1)) := skip_bk b (t - E).toNat E (a2 - 1) (by omega) (by omega)
  have q1 := ct_one (b := b) (s := s) (t := t) (a := a) hat hts hnb rfl
  have q2 := row_step (b := b) (s := s) (t := t) (a := a) hat hts hnb rfl
  rw [hX] at q1 q2
  have q3 := ct_skip b s (t - E).toNat E
  have q4 := row_skip (b := b) (s := s) (X := E) (t := t) (by omega) ha2
  rw [← ha2, show (t - E).toNat - (a2 - E).toNat = (t - a2).toNat by omega] at q3
  refine ⟨⟨hgt4, hlt4⟩, hnb4, hpb4, by rw [List.length_append, List.length_singleton]; omega, ?_⟩
  rw [hrow, q2, hv, if_neg v1, q4, Option.map_map]
  congr 1
  funext z
  simp
section EzRw
variable {d : Nat} {h : cz_H} {τ : Nat → Nat} {Q : cz_F → Prop} {l : Nat}
theorem rd_row_b {X : Nat → Bool} {k mo E : Int} {A : List Int} {g2 : cz_H} {τ2 : Nat → Nat} (hB2 : ez_B τ2 g2) (u2 : τ2 770 = 75) (l2 : τ2 l = 13) (c2 : τ2 (qz_P h l 8) = 16) (n770 : l ≠ 770) (nc7 : qz_P h l 8 ≠ 770) (hXc : X (qz_P h l 8) = true) (hmb : ∀ g τ1 A, kl X τ h τ1 g A → mb g = mb h) (k0' : 0 ≤ k) (k1' : k < 3) (hr1 : g2.1 + 1 ≤ 600192) (hr2 : g2.2.1 + 6 ≤ 7302232) (hA1 : 1 ≤ A.length) (hA2 : A.length ≤ 18) (hk2 : kl X τ h τ2 g2 A) (hlc2 : g2.2.2 l = h.2.2 l) (hac2 : (∀ j, qz_I g2 (qz_P h l 8) j = if j = k.toNat then (A.length : Int) - 1 else qz_I h (qz_P h l 8) j)) (a17 : qz_I g2 770 17 = E) (e182 : qz_I g2 770 18 = qz_I h 770 18) (hE0 : 0 ≤ E) (hE1 : E ≤ qz_I h 770 18) (kR : E = qz_I h 770 18 → ∀ g3, ez_B τ2 g3 → kl X τ h τ2 g3 A → qz_I g3 770 17 = E → g3.2.2 l = h.2.2 l → (∀ j, qz_I g3 (qz_P h l 8) j = if j = k.toNat then (A.length : Int) else qz_I h (qz_P h l 8) j) → Q (.inl none, g3)) (kB : E < qz_I h 770 18 → ¬ bk (mb h E) → ∀ g3, ez_B τ2 g3 → kl X τ h τ2 g3 A → g3.2.2 l = h.2.2 l → (∀ j, qz_I g3 (qz_P h l 8) j = if j = k.toNat then (A.length : Int) else qz_I h (qz_P h l 8) j) → Q (.inr g3.1, xc g3 1)) (kL : E < qz_I h 770 18 → bk (mb h E) → ∀ g4, ez_B τ2 g4 → kl X τ h τ2 g4 A → qz_I g4 770 17 = rz_skip (mb h) (qz_I h 770 18 - E).toNat E → g4.2.2 l = h.2.2 l → (∀ j, qz_I g4 (qz_P h l 8) j = if j = k.toNat then (A.length : Int) else qz_I h (qz_P h l 8) j) → ez_W (d + 8) cm_297 10 [(0, .inr (.inr (some (770)))), (1, .inr (.inr (some (l)))), (2, .inl (k)), (3, .inl (mo))] [] g4 Q) : ez_W (d + 8) cm_297 37 [(0, .inr (.inr (some (770)))), (1, .inr (.inr (some (l)))), (2, .inl (k)), (3, .inl (mo))] [] g2 Q := by
  refine ez_go (n := 1) (pc' := 38) (L' := [(0, .inr (.inr (some (770)))), (1, .inr (.inr (some (l)))), (2, .inl (k)), (3, .inl (mo))]) (st' := [.inr (.inr (some (l)))]) rfl ?_
  refine ez_gR hB2 l2 rfl rfl tq_13 rfl rfl (fun (t1 : _ = 16) (t1' : 1 ≤ qz_I g2 l 8) => ?_)
  have ec2 : qz_P g2 l 8 = qz_P h l 8 := by unfold qz_P qz_I; rw [hlc2]
  rw [ec2] at t1 ⊢
  refine ez_go (n := 2) (pc' := 43) (L' := [(0, .inr (.inr (some (770)))), (1, .inr (.inr (some (l)))), (2, .inl (k)), (3, .inl (mo))]) (st' := [.inl (k), .inr (.inr (some ((qz_P h l 8)))), .inl (k), .inr (.inr (some ((qz_P h l 8))))]) rfl ?_
  have n4 : 3 ≤ qz_N g2 ((qz_P h l 8)) ∧ qz_N g2 ((qz_P h l 8)) ≤ 3 := ez_len hB2 t1 tq_16 rfl
  refine ez_aI hB2 t1 rfl tq_16 rfl rfl (by omega) (by omega) (fun (b3 : 0 ≤ qz_I g2 ((qz_P h l 8)) (k).toNat) (b3' : qz_I g2 ((qz_P h l 8)) (k).toNat ≤ 18) => ?_)
  have hck2 := hac2 k.toNat
  rw [if_pos rfl] at hck2
  refine ez_go (n := 2) (pc' := 46) (L' := [(0, .inr (.inr (some (770)))), (1, .inr (.inr (some (l)))), (2, .inl (k)), (3, .inl (mo))]) (st' := [.inl ((qz_I g2 ((qz_P h l 8)) (k).toNat) + (1)), .inl (k), .inr (.inr (some ((qz_P h l 8))))]) rfl ?_
  have n7 : 3 ≤ qz_N g2 ((qz_P h l 8)) ∧ qz_N g2 ((qz_P h l 8)) ≤ 3 := ez_len hB2 t1 tq_16 rfl
  refine ez_as hB2 t1 rfl tq_16 rfl rfl (by omega) (by omega) (ez_vdI rfl rfl (by omega) (by omega)) (fun hB5 w6 => ?_)
  have hk3 : kl X τ h τ2 (dz_put g2 ((qz_P h l 8)) (k).toNat (ez_v (.inl ((qz_I g2 ((qz_P h l 8)) (k).toNat) + (1))))) A := hk2.put hXc nc7 (fun e => by rw [e, hk2.2.2.1] at c2; cases c2)
  have ncl : qz_P h l 8 ≠ l := fun e => by rw [e, l2] at c2; cases c2
  have hlc3 : ((dz_put g2 ((qz_P h l 8)) (k).toNat (ez_v (.inl ((qz_I g2 ((qz_P h l 8)) (k).toNat) + (1)))))).2.2 l = h.2.2 l := (qz_put_at _ _ _ _ (Ne.symm ncl)).trans hlc2
  have hac3 : ∀ j, qz_I (dz_put g2 ((qz_P h l 8)) (k).toNat (ez_v (.inl ((qz_I g2 ((qz_P h l 8)) (k).toNat) + (1))))) (qz_P h l 8) j = if j = k.toNat then (A.length : Int) else qz_I h (qz_P h l 8) j := fun j => by
    by_cases e : j = k.toNat
    · rw [if_pos e, e, w6, rz_rd ⟨by omega, by omega⟩, hac2, if_pos rfl]; omega
    · rw [if_neg e, ez_put_I (fun w => e w.2), hac2 j, if_neg e]
  have a173 : qz_I (dz_put g2 ((qz_P h l 8)) (k).toNat (ez_v (.inl ((qz_I g2 ((qz_P h l 8)) (k).toNat) + (1))))) 770 17 = E := (ez_put_I (fun w => nc7 w.1.symm)).trans a17
  have e183 : qz_I (dz_put g2 ((qz_P h l 8)) (k).toNat (ez_v (.inl ((qz_I g2 ((qz_P h l 8)) (k).toNat) + (1))))) 770 18 = qz_I h 770 18 := (ez_put_I (fun w => nc7 w.1.symm)).trans e182
  have hB3 := hB5
  have c3a : ((dz_put g2 ((qz_P h l 8)) (k).toNat (ez_v (.inl ((qz_I g2 ((qz_P h l 8)) (k).toNat) + (1)))))).1 = g2.1 := rfl
  have c3b : ((dz_put g2 ((qz_P h l 8)) (k).toNat (ez_v (.inl ((qz_I g2 ((qz_P h l 8)) (k).toNat) + (1)))))).2.1 = g2.2.1 := rfl
  generalize (dz_put g2 ((qz_P h l 8)) (k).toNat (ez_v (.inl ((qz_I g2 ((qz_P h l 8)) (k).toNat) + (1))))) = g3 at *
  refine ez_go (n := 1) (pc' := 48) (L' := [(0, .inr (.inr (some (770)))), (1, .inr (.inr (some (l)))), (2, .inl (k)), (3, .inl (mo))]) (st' := [.inr (.inr (some (770)))]) rfl ?_
  refine ez_gI hB3 u2 rfl rfl tq_75 rfl rfl (fun (b8 : 0 ≤ qz_I g3 770 17) (b8' : qz_I g3 770 17 ≤ 4200) => ?_)
  refine ez_go (n := 1) (pc' := 52) (L' := [(0, .inr (.inr (some (770)))), (1, .inr (.inr (some (l)))), (2, .inl (k)), (3, .inl (mo))]) (st' := [.inr (.inr (some (770))), .inl (qz_I g3 770 17)]) rfl ?_
  refine ez_gI hB3 u2 rfl rfl tq_75 rfl rfl (fun (b9 : 0 ≤ qz_I g3 770 18) (b9' : qz_I g3 770 18 ≤ 4096) => ?_)
  refine ez_icmp rfl rfl ⟨by first | omega | exact (sz_i32 _).1, by first | omega | exact (sz_i32 _).2⟩ ⟨by first | omega | exact (sz_i32 _).1, by first | omega | exact (sz_i32 _).2⟩ (fun (c10 : (qz_I g3 770 17) ≠ (qz_I g3 770 18)) => ?_) (fun (c10 : ¬((qz_I g3 770 17) ≠ (qz_I g3 770 18))) => ?_)
  · skip
    refine ez_go (n := 3) (pc' := 62) (L' := [(0, .inr (.inr (some (770)))), (1, .inr (.inr (some (l)))), (2, .inl (k)), (3, .inl (mo))]) (st' := [.inr (.inr (some (770))), .inr (.inr (some (770))), .inr (.inr (some (770)))]) rfl ?_
    refine ez_cv hB3 u2 rfl rfl rfl tq_75 rfl rfl rfl (rd_peek hB3 u2 (fun p1 p2 => ez_K1 ?_))
    have hmk : mk (mb g3) (qz_I g3 770 17) (qz_I g3 770 18) = mb h E := by unfold mk; rw [if_pos (by omega), a173, hmb g3 τ2 _ hk3]
    rw [hmk] at p1 p2 ⊢
    refine ez_cv hB3 u2 rfl rfl rfl tq_75 rfl rfl rfl (rd_mblank p1 p2 (fun e => ez_K1 ?_) (fun e => ez_K1 ?_))
    · skip
      refine ez_cv hB3 u2 rfl rfl rfl tq_75 rfl rfl rfl (rd_can1 (by omega) (by omega) (ez_K0 ?_))
      refine ez_go (n := 1) (pc' := 72) (L' := [(0, .inr (.inr (some (770)))), (1, .inr (.inr (some (l)))), (2, .inl (k)), (3, .inl (mo))]) (st' := [.inr (.inr (some (770)))]) rfl ?_
      refine ez_cv hB3 u2 rfl rfl rfl tq_75 rfl rfl rfl (rd_blanks hB3 u2 (by omega) (fun g4 hB4 m4 a4 => ez_K0 ?_))
      rw [hmb g3 τ2 _ hk3, a173, e183] at a4
      refine ez_go (n := 1) (pc' := 10) (L' := [(0, .inr (.inr (some (770)))), (1, .inr (.inr (some (l)))), (2, .inl (k)), (3, .inl (mo))]) (st' := []) rfl ?_
      refine ez_less [(0, .inr (.inr (some (770)))), (1, .inr (.inr (some (l)))), (2, .inl (k)), (3, .inl (mo))] rfl ⟨rfl, rfl, rfl, rfl, trivial⟩ ?_
      exact kL (by omega) e g4 hB4 (hk3.mz m4 u2) a4 (by rw [m4.1.2.2 l (dz_beq_ne n770)]; exact hlc3) (fun j => by rw [m4.I nc7]; exact hac3 j)
    · skip
      refine ez_cv hB3 u2 rfl rfl rfl tq_75 rfl rfl rfl (rd_can0 (by omega) (by omega) (ez_Kp (xc_exc hB3 rfl) rfl (kB (by omega) e g3 hB3 hk3 hlc3 hac3)))
  · skip
    exact ez_ret0 rfl rfl (kR (by omega) g3 hB3 hk3 a173 hlc3 hac3)

theorem rd_row_a {X : Nat → Bool} {k mo : Int} {g : cz_H} {τ1 : Nat → Nat} {A : List Int} (u770 : τ 770 = 75) (ul : τ l = 13) (ucp : τ (qz_P h l 8) = 16) (n770 : l ≠ 770) (hmb : ∀ g τ1 A, kl X τ h τ1 g A → mb g = mb h) (k0' : 0 ≤ k) (k1' : k < 3) (h0 : 0 ≤ pn h) (hpm : pn h + mo ≤ 38400) (hNh : 1024 ≤ qz_N h (po h)) (hmo0 : 0 ≤ mo) (hmo : mo ≤ 18) (hr1 : h.1 + 100 ≤ 600192) (hr2 : h.2.1 + 240000 ≤ 7302232) (hs18 : qz_I h 770 18 ≤ 4096) (hB : ez_B τ1 g) (hk : kl X τ h τ1 g A) (hlc : g.2.2 l = h.2.2 l) (ha0 : 0 ≤ qz_I g 770 17) (ha1 : qz_I g 770 17 < qz_I h 770 18) (hac : (∀ j, qz_I g (qz_P h l 8) j = if j = k.toNat then (A.length : Int) else qz_I h (qz_P h l 8) j)) (kT1 : mo ≤ (A.length : Int) → Q (.inr g.1, xc g 1)) (kT2 : rz_code (mb h) (qz_I g 770 17) (me (mb h) (qz_I h 770 18 - qz_I g 770 17).toNat (qz_I g 770 17)) = -1 → ∀ g1, ez_B τ1 g1 → kl X τ h τ1 g1 A → g1.2.2 l = h.2.2 l → (∀ j, qz_I g1 (qz_P h l 8) j = if j = k.toNat then (A.length : Int) else qz_I h (qz_P h l 8) j) → Q (.inr g1.1, xc g1 1)) (kN : rz_code (mb h) (qz_I g 770 17) (me (mb h) (qz_I h 770 18 - qz_I g 770 17).toNat (qz_I g 770 17)) ≠ -1 → (A.length : Int) < mo → ∀ g2 τ2, ez_B τ2 g2 → kl X τ h τ2 g2 (A ++ [rz_code (mb h) (qz_I g 770 17) (me (mb h) (qz_I h 770 18 - qz_I g 770 17).toNat (qz_I g 770 17))]) → g2.2.2 l = h.2.2 l → (∀ j, qz_I g2 (qz_P h l 8) j = if j = k.toNat then (A.length : Int) else qz_I h (qz_P h l 8) j) → qz_I g2 770 17 = me (mb h) (qz_I h 770 18 - qz_I g 770 17).toNat (qz_I g 770 17) → qz_I g2 770 18 = qz_I h 770 18 → ez_W (d + 8) cm_297 37 [(0, .inr (.inr (some (770)))), (1, .inr (.inr (some (l)))), (2, .inl (k)), (3, .inl (mo))] [] g2 Q) : ez_W (d + 8) cm_297 10 [(0, .inr (.inr (some (770)))), (1, .inr (.inr (some (l)))), (2, .inl (k)), (3, .inl (mo))] [] g Q := by
  have t770 : τ1 770 = 75 := (hk.1 770 (by rw [u770]; decide)).1.trans u770
  have tl : τ1 l = 13 := (hk.1 l (by rw [ul]; decide)).1.trans ul
  have tcp : τ1 (qz_P h l 8) = 16 := (hk.1 _ (by rw [ucp]; decide)).1.trans ucp
  have e18 : qz_I g 770 18 = qz_I h 770 18 := hk.2.2.2.1 18 (by decide) (by decide) (by decide)
  have npc : qz_P h l 8 ≠ po g := fun e => by rw [e] at tcp; rw [hk.2.2.1] at tcp; cases tcp
  have nc7 : qz_P h l 8 ≠ 770 := fun e => by rw [e, t770] at tcp; cases tcp
  have hN9 := hk.2.2.2.2.2.2.2.1
  have hP9 := hk.2.2.2.2.2.2.2.2.1
  have hpn := hk.2.2.2.2.1
  have hc9 := hk.2.2.2.2.2.2.2.2.2.1
  have hL9 : qz_N g (po g) ≤ 77100 := (ez_len hB hk.2.2.1 tq_17 rfl).2
  refine ez_go (n := 2) (pc' := 12) (L' := [(0, .inr (.inr (some (770)))), (1, .inr (.inr (some (l)))), (2, .inl (k)), (3, .inl (mo))]) (st' := [.inr (.inr (some (l))), .inr (.inr (some (770)))]) rfl ?_
  refine ez_gR hB tl rfl rfl tq_13 rfl rfl (fun (t1 : _ = 16) (t1' : 1 ≤ qz_I g l 8) => ?_)
  have ec2 : qz_P g l 8 = qz_P h l 8 := by unfold qz_P qz_I; rw [hlc]
  rw [ec2] at t1 ⊢
  refine ez_go (n := 1) (pc' := 16) (L' := [(0, .inr (.inr (some (770)))), (1, .inr (.inr (some (l)))), (2, .inl (k)), (3, .inl (mo))]) (st' := [.inl (k), .inr (.inr (some ((qz_P h l 8)))), .inr (.inr (some (770)))]) rfl ?_
  have n4 : 3 ≤ qz_N g ((qz_P h l 8)) ∧ qz_N g ((qz_P h l 8)) ≤ 3 := ez_len hB t1 tq_16 rfl
  refine ez_aI hB t1 rfl tq_16 rfl rfl (by omega) (by omega) (fun (b3 : 0 ≤ qz_I g ((qz_P h l 8)) (k).toNat) (b3' : qz_I g ((qz_P h l 8)) (k).toNat ≤ 18) => ?_)
  have hck := hac k.toNat
  rw [if_pos rfl] at hck
  refine ez_go (n := 1) (pc' := 18) (L' := [(0, .inr (.inr (some (770)))), (1, .inr (.inr (some (l)))), (2, .inl (k)), (3, .inl (mo))]) (st' := [.inl (mo), .inl (qz_I g ((qz_P h l 8)) (k).toNat), .inr (.inr (some (770)))]) rfl ?_
  refine ez_icmp rfl rfl ⟨by first | omega | exact (sz_i32 _).1, by first | omega | exact (sz_i32 _).2⟩ ⟨by first | omega | exact (sz_i32 _).1, by first | omega | exact (sz_i32 _).2⟩ (fun (c5 : (mo) ≤ (qz_I g ((qz_P h l 8)) (k).toNat)) => ?_) (fun (c5 : ¬((mo) ≤ (qz_I g ((qz_P h l 8)) (k).toNat))) => ?_)
  · skip
    refine ez_go (n := 1) (pc' := 26) (L' := [(0, .inr (.inr (some (770)))), (1, .inr (.inr (some (l)))), (2, .inl (k)), (3, .inl (mo))]) (st' := [.inl (0), .inr (.inr (some (770)))]) rfl ?_
    refine ez_cv hB t770 rfl rfl rfl tq_75 rfl rfl rfl (rd_can0 (by omega) (by omega) (ez_Kp (xc_exc hB rfl) rfl (kT1 (by omega))))
  · skip
    refine ez_go (n := 2) (pc' := 26) (L' := [(0, .inr (.inr (some (770)))), (1, .inr (.inr (some (l)))), (2, .inl (k)), (3, .inl (mo))]) (st' := [.inl (1), .inr (.inr (some (770)))]) rfl ?_
    refine ez_cv hB t770 rfl rfl rfl tq_75 rfl rfl rfl (rd_can1 (by omega) (by omega) (ez_K0 ?_))
    refine ez_go (n := 2) (pc' := 31) (L' := [(0, .inr (.inr (some (770)))), (1, .inr (.inr (some (l)))), (2, .inl (k)), (3, .inl (mo))]) (st' := [.inr (.inr (some (770))), .inr (.inr (some (770)))]) rfl ?_
    have hbg : mb g = mb h := hmb g τ1 A hk
    refine ez_cv hB t770 rfl rfl rfl tq_75 rfl rfl rfl (rd_code hB t770 (by omega) (by omega) (by omega) (by omega) (fun g1 hB1 m1 a1 v1 => ez_K1 ?_) (fun hno g1 hB1 m1 => ez_Kp (xc_exc hB1 rfl) rfl (kT2 (by rw [hbg, e18] at hno; exact hno) g1 hB1 (hk.mz m1 t770) (by rw [m1.1.2.2 l (dz_beq_ne n770)]; exact hlc) (fun j => by rw [m1.I nc7]; exact hac j))))
    rw [hbg, e18] at a1 v1 ⊢
    have hk1 := hk.mz m1 t770
    have e18b : qz_I g1 770 18 = qz_I h 770 18 := (m1.2 18 (by decide)).trans e18
    have cb := rz_code_bd (mb h) (qz_I g 770 17) (me (mb h) (qz_I h 770 18 - qz_I g 770 17).toNat (qz_I g 770 17))
    have hpn1 : pn g1 = pn g := m1.2 10 (by decide)
    have hpo1 : po g1 = po g := by unfold po qz_P; rw [m1.2 9 (by decide)]
    have hm1 := m1.1.1
    have hm2 := m1.1.2.1
    refine ez_cv hB1 t770 rfl rfl rfl tq_75 rfl rfl rfl (rd_keep hB1 t770 (by omega) (by omega) (hk1.2.2.2.2.2.2.2.1).1 (by omega) (by omega) (by omega) (fun g2 τ2 hB2 hkp => ez_K0 ?_))
    have hk2 := hk1.keep hkp h0
    have nlp : l ≠ po g1 := fun e => by rw [hpo1] at e; rw [e, hk.2.2.1] at tl; cases tl
    have hlc2 : g2.2.2 l = h.2.2 l := ((hkp.1 l (by rw [tl]; decide)).2 n770 nlp).trans ((m1.1.2.2 l (dz_beq_ne n770)).trans hlc)
    have hac2 : ∀ j, qz_I g2 (qz_P h l 8) j = if j = k.toNat then (A.length : Int) else qz_I h (qz_P h l 8) j := fun j => by have : qz_I g2 (qz_P h l 8) j = qz_I g (qz_P h l 8) j := (by unfold qz_I; rw [(hkp.1 _ (by rw [tcp]; decide)).2 nc7 (by rw [hpo1]; exact npc), m1.1.2.2 _ (dz_beq_ne nc7)]); rw [this]; exact hac j
    have a17 := (hkp.2.2.2.1 17 (by decide) (by decide)).trans a1
    have e182 : qz_I g2 770 18 = qz_I h 770 18 := (hkp.2.2.2.1 18 (by decide) (by decide)).trans e18b
    refine ez_less [(0, .inr (.inr (some (770)))), (1, .inr (.inr (some (l)))), (2, .inl (k)), (3, .inl (mo))] rfl ⟨rfl, rfl, rfl, rfl, trivial⟩ ?_
    exact kN v1 (by omega) g2 τ2 hB2 hk2 hlc2 hac2 a17 e182

theorem rd_row_l {X : Nat → Bool} {k mo s : Int} (u770 : τ 770 = 75) (ul : τ l = 13) (ucp : τ (qz_P h l 8) = 16) (n770 : l ≠ 770) (hXc : X (qz_P h l 8) = true) (hmb : ∀ g τ1 A, kl X τ h τ1 g A → mb g = mb h) (k0' : 0 ≤ k) (k1' : k < 3) (h0 : 0 ≤ pn h) (hpm : pn h + mo ≤ 38400) (hNh : 1024 ≤ qz_N h (po h)) (hmo0 : 0 ≤ mo) (hmo : mo ≤ 18) (hr1 : h.1 + 100 ≤ 600192) (hr2 : h.2.1 + 240000 ≤ 7302232) (hs0 : 0 ≤ s) (hs18 : qz_I h 770 18 ≤ 4096) (htr : ¬ bk (mb h (qz_I h 770 18 - 1))) (k1 : ∀ A, rz_rw (mb h) mo s (qz_I h 770 18) = some A → ∀ g τ1, ez_B τ1 g → kl X τ h τ1 g A → qz_I g 770 17 = qz_I h 770 18 → g.2.2 l = h.2.2 l → (∀ j, qz_I g (qz_P h l 8) j = if j = k.toNat then (A.length : Int) else qz_I h (qz_P h l 8) j) → Q (.inl none, g)) (k0 : rz_rw (mb h) mo s (qz_I h 770 18) = none → ∀ g τ1 A, ez_B τ1 g → kl X τ h τ1 g A → g.2.2 l = h.2.2 l → (∀ j, qz_I g (qz_P h l 8) j = if j = k.toNat then (A.length : Int) else qz_I h (qz_P h l 8) j) → Q (.inr g.1, xc g 1)) : ∀ (m : Nat) (g : cz_H) (τ1 : Nat → Nat) (A : List Int), (qz_I h 770 18 - qz_I g 770 17).toNat ≤ m → ez_B τ1 g → kl X τ h τ1 g A → g.2.2 l = h.2.2 l → s ≤ qz_I g 770 17 → qz_I g 770 17 < qz_I h 770 18 → (∀ j, qz_I g (qz_P h l 8) j = if j = k.toNat then (A.length : Int) else qz_I h (qz_P h l 8) j) → ¬ bk (mb h (qz_I g 770 17)) → (qz_I g 770 17 = s ∨ (s < qz_I g 770 17 ∧ bk (mb h (qz_I g 770 17 - 1)))) → rz_ct (mb h) s (qz_I h 770 18 - s).toNat s = A.length + rz_ct (mb h) s (qz_I h 770 18 - qz_I g 770 17).toNat (qz_I g 770 17) → rz_row (mb h) (rz_ct (mb h) s (qz_I h 770 18 - s).toNat s) s (qz_I h 770 18) = (rz_row (mb h) (rz_ct (mb h) s (qz_I h 770 18 - qz_I g 770 17).toNat (qz_I g 770 17)) (qz_I g 770 17) (qz_I h 770 18)).map (fun z => A ++ z) → ez_W (d + 8) cm_297 10 [(0, .inr (.inr (some (770)))), (1, .inr (.inr (some (l)))), (2, .inl (k)), (3, .inl (mo))] [] g Q := by
  intro m
  induction m with
  | zero => intro g τ1 A hm hB hk hlc ha0 ha1; exfalso; omega
  | succ m ih =>
    intro g τ1 A hm hB hk hlc ha0 ha1 hac hnb hts hct hrow
    have cE := tok_me (b := mb h) (a := qz_I g 770 17) (t := qz_I h 770 18) (by omega) rfl rfl
    have hEl := me_le (mb h) (qz_I h 770 18 - qz_I g 770 17).toNat (qz_I g 770 17)
    refine rd_row_a u770 ul ucp n770 hmb k0' k1' h0 hpm hNh hmo0 hmo hr1 hr2 hs18 hB hk hlc (by omega) ha1 hac (fun hm1 => k0 ?_ g τ1 A hB hk hlc hac) (fun hno g1 hB1 hk1 hlc1 hac1 => k0 ?_ g1 τ1 A hB1 hk1 hlc1 hac1) (fun v1 hA1 g2 τ2 hB2 hk2 hlc2 hac2 a17 e182 => ?_)
    · have q1 := ct_one (b := mb h) (s := s) (t := qz_I h 770 18) (a := qz_I g 770 17) (by omega) hts hnb rfl
      unfold rz_rw; rw [if_neg (by omega)]
    · unfold rz_rw; split; (· rw [hrow, row_step (by omega) hts hnb rfl, if_pos (cE.2.1 (Or.inl hno))]; rfl); (· rfl)
    generalize hE : me (mb h) (qz_I h 770 18 - qz_I g 770 17).toNat (qz_I g 770 17) = E at *
    generalize hv : rz_code (mb h) (qz_I g 770 17) E = v at *
    have hlen : (((A ++ [v]).length : Nat) : Int) = (A.length : Int) + 1 := by rw [List.length_append, List.length_singleton]; omega
    have hlen2 : (A ++ [v]).length = A.length + 1 := by omega
    have u2 : τ2 770 = 75 := (hk2.1 770 (by rw [u770]; decide)).1.trans u770
    have l2 : τ2 l = 13 := (hk2.1 l (by rw [ul]; decide)).1.trans ul
    have c2 : τ2 (qz_P h l 8) = 16 := (hk2.1 _ (by rw [ucp]; decide)).1.trans ucp
    have nc7 : qz_P h l 8 ≠ 770 := fun e => by rw [e, u770] at ucp; cases ucp
    have hP3 := hk2.2.2.2.2.2.2.2.2.1
    have hL3 : qz_N g2 (po g2) ≤ 77100 := (ez_len hB2 hk2.2.2.1 tq_17 rfl).2
    refine rd_row_b hB2 u2 l2 c2 n770 nc7 hXc hmb k0' k1' (by omega) (by omega) (by omega) (by omega) hk2 hlc2 (fun j => by rw [hac2 j, hlen]; by_cases e : j = k.toNat; (· rw [if_pos e, if_pos e]; omega); (· rw [if_neg e, if_neg e])) a17 e182 (by omega) (by omega) (fun hEt g3 hB3 hk3 a173 hlc3 hac3 => ?_) (fun hlt hnb3 g3 hB3 hk3 hlc3 hac3 => ?_) (fun hlt hb3 g4 hB4 hk4 a4 hlc4 hac4 => ?_)
    · have hX9 := cE.2.2 (Or.inl hEt)
      rw [hEt] at hX9 hv
      exact k1 _ (row_fin ha1 hts hnb hX9 hv v1 hct hrow hA1) g3 τ2 hB3 hk3 (a173.trans hEt) hlc3 hac3
    · exact k0 (by unfold rz_rw; split; (· rw [hrow, row_step ha1 hts hnb rfl, if_pos (cE.2.1 (Or.inr ⟨hlt, hnb3⟩))]; rfl); (· rfl)) g3 τ2 (A ++ [v]) hB3 hk3 hlc3 hac3
    · obtain ⟨⟨n1, n2⟩, n3, n4, n5, n6⟩ := row_next ha1 hts hnb (cE.2.2 (Or.inr hb3)) hlt hb3 a4 htr hv v1 hct hrow
      exact ih g4 τ2 (A ++ [v]) (by omega) hB4 hk4 hlc4 (by omega) n2 hac4 n3 (Or.inr ⟨by omega, n4⟩) n5 n6
end EzRw
