/-! The class: line, seal. (Written by wip/p2/py/pv38.py.) -/
/-- what is thrown lies in a cell of its own, without a tag -/
def xc (h : cz_H) (k : Nat) : cz_H := cz_push h 6 (.inr (.inr k))
theorem xc_at {h : cz_H} {k q : Nat} (hq : q ≠ h.1) : (xc h k).2.2 q = h.2.2 q := by
  unfold xc
  show (if q = h.1 then _ else _) = _
  rw [if_neg hq]
theorem xc_exc {τ : Nat → Nat} {h : cz_H} {k : Nat} (hB : ez_B τ h) (hk : Nat.blt k 5 = true) : cz_exc (xc h k) h.1 = some k := by
  have h1 : (xc h k).2.2 h.1 = .inr (.inr k) := by
    unfold xc
    show (if h.1 = h.1 then _ else _) = _
    rw [if_pos rfl]
  have h2 : cz_hereB (xc h k) h.1 = true := by
    unfold cz_hereB
    rw [Bool.and_eq_true, Bool.or_eq_true]
    refine ⟨Nat.blt_eq.mpr (show h.1 < h.1 + 1 by omega), Or.inl (Nat.ble_eq.mpr hB.2.2)⟩
  unfold cz_exc
  rw [h2, h1]
  show (bif k.blt 5 then some k else none) = _
  rw [hk]
  rfl
theorem xc_B {τ : Nat → Nat} {h : cz_H} {k : Nat} (hB : ez_B τ h) (h1 : h.1 + 1 ≤ 600192) (h2 : h.2.1 + 6 ≤ 7302232) : ez_B τ (xc h k) := by
  refine ⟨fun q hq => ?_, (ez_roomp h1 h2).2, Nat.le_succ_of_le hB.2.2⟩
  obtain ⟨a1, ti, a2, a3, a4, a5⟩ := hB.1 q hq
  have hne : q ≠ h.1 := fun e => by have := dz_here_lt a1; omega
  have e := xc_at (k := k) hne
  refine ⟨?_, ti, a2, by rw [e]; exact a3, a4, fun i v hv => a5 i v (by rw [e] at hv; exact hv)⟩
  unfold cz_hereB at a1 ⊢
  rw [Bool.and_eq_true] at a1 ⊢
  exact ⟨Nat.blt_eq.mpr (Nat.lt_succ_of_lt (Nat.blt_eq.mp a1.1)), a1.2⟩
theorem xc_t {τ : Nat → Nat} {h : cz_H} {k : Nat} (hB : ez_B τ h) {q : Nat} (hq : τ q ≠ 0) : (xc h k).2.2 q = h.2.2 q := xc_at (fun e => by have := dz_here_lt (hB.1 q hq).1; omega)
theorem xc_xt {τ : Nat → Nat} {h : cz_H} {k : Nat} (hB : ez_B τ h) : ez_xt τ h τ (xc h k) 1 6 := ⟨fun q hq => ⟨rfl, xc_t hB hq⟩, ⟨Nat.le_succ _, Nat.le_refl _⟩, Nat.le_add_right _ _, Nat.le_refl _⟩
theorem jz_xc {τ : Nat → Nat} {h : cz_H} {k : Nat} {F : rz_W} {E : Int → Prop} (hI : jz_I τ h F E) (h1 : h.1 + 1 ≤ 600192) (h2 : h.2.1 + 6 ≤ 7302232) : jz_I τ (xc h k) F E := by
  have x := xc_xt (k := k) hI.1
  exact jz_no hI (xc_B hI.1 h1 h2) (fz_xt x) (fun j => x.I (by rw [hI.2.1 202 (by decide)]; decide) j) (x.1 203 (by rw [hI.2.1 203 (by decide)]; decide)).2 (x.1 205 (by rw [hI.2.1 205 (by decide)]; decide)).2 (fun q hq => (x.1 q (by rw [hq]; decide)).2)
/-- the same behind a write that is none of its business -/
theorem jz_put {τ : Nat → Nat} {h : cz_H} {r i : Nat} {v : cz_V} {F : rz_W} {E : Int → Prop} (hI : jz_I τ h F E) (hB : ez_B τ (dz_put h r i v)) (hr : r ≠ 202) (h3 : r ≠ 203) (h5 : r ≠ 205) (ht : τ r ≠ 3 ∧ τ r ≠ 4 ∧ τ r ≠ 5 ∧ τ r ≠ 27 ∧ τ r ≠ 28) : jz_I τ (dz_put h r i v) F E := by
  obtain ⟨i1, i2, ⟨i3, i4⟩, i5, i6, i7, i8, Xs, i9, i10⟩ := hI
  have t202 : τ 202 = 48 := i2 202 (by decide)
  have t203 : τ 203 = 49 := i2 203 (by decide)
  have fr : ∀ q, q ≠ r → (dz_put h r i v).2.2 q = h.2.2 q := fun q hq => qz_put_at h r i v hq
  have n : ∀ {q t}, τ q = t → t = 3 ∨ t = 4 ∨ t = 5 ∨ t = 27 ∨ t = 28 → q ≠ r := fun {q t} hq hh e => by rw [e] at hq; omega
  have e202 : ∀ j, qz_I (dz_put h r i v) 202 j = qz_I h 202 j := fun j => by unfold qz_I; rw [fr 202 (Ne.symm hr)]
  have e4 : ∀ q, τ q = 4 → (dz_put h r i v).2.2 q = h.2.2 q := fun q hq => fr q (n hq (by omega))
  obtain ⟨o1, o2⟩ := sz_pe_ok i1 t203 t202 (e202 1) (fr 203 (Ne.symm h3)) e4 i3 i4
  refine ⟨hB, i2, ⟨o1, o2⟩, fun j hj => ?_, by rw [e202, e202]; exact i6, fun s l hl => ?_, ?_, Xs, by rw [e202]; exact i9, i10⟩
  · rw [e202] at hj; unfold qz_I; rw [fr 205 (Ne.symm h5)]; exact i5 j hj
  · obtain ⟨y1, y2, y3⟩ := i7 s l hl
    obtain ⟨z1, z2⟩ := nz_hz i1 i2 s l hl
    have e1 := fr s (n z1 (by omega))
    have e2 := fr _ (n z2 (by omega))
    have e3 : qz_P (dz_put h r i v) s 0 = qz_P h s 0 := by unfold qz_P qz_I; rw [e1]
    refine ⟨?_, y2, by rw [e3]; exact y3⟩
    unfold nz_S at *
    rw [e3]
    unfold qz_N qz_I at *
    rw [e2]
    exact y1
  · refine sz_D_tr i1 t202 t203 i8 (e202 1) (fr 203 (Ne.symm h3)) e4 (fun q hq => ?_) (fun p hp => ⟨hp, fr p (n hp (by omega))⟩)
    unfold qz_I; rw [fr q (n hq (by omega))]; exact ⟨rfl, rfl, rfl, rfl⟩
section EzLn
variable {d : Nat} {h : cz_H} {τ : Nat → Nat} {Q : cz_F → Prop} {F : rz_W} {E : Int → Prop}
theorem rd_reqRange {v lo hi : Int} (v0 : ez_rg v) (l0 : ez_rg lo) (h0 : ez_rg hi) (hr1 : h.1 + 1 ≤ 600192) (hr2 : h.2.1 + 6 ≤ 7302232) (k1 : lo ≤ v → v ≤ hi → Q (.inl none, h)) (k0 : v < lo ∨ hi < v → Q (.inr h.1, xc h 1)) : ez_W (d + 6) cm_32 0 [(0, .inl (v)), (1, .inl (lo)), (2, .inl (hi))] [] h Q := by
  have v1 := v0.1
  have v2 := v0.2
  have l1 := l0.1
  have l2 := l0.2
  have h1 := h0.1
  have h2 := h0.2
  refine ez_go (n := 2) (pc' := 2) (L' := [(0, .inl (v)), (1, .inl (lo)), (2, .inl (hi))]) (st' := [.inl (lo), .inl (v)]) rfl ?_
  refine ez_icmp rfl rfl ⟨by first | omega | exact (sz_i32 _).1, by first | omega | exact (sz_i32 _).2⟩ ⟨by first | omega | exact (sz_i32 _).1, by first | omega | exact (sz_i32 _).2⟩ (fun (c1 : (v) < (lo)) => ?_) (fun (c1 : ¬((v) < (lo))) => ?_)
  · skip
    exact ez_th rfl rfl (by omega) (by omega) (by omega) rfl (k0 (by omega))
  · skip
    refine ez_go (n := 2) (pc' := 7) (L' := [(0, .inl (v)), (1, .inl (lo)), (2, .inl (hi))]) (st' := [.inl (hi), .inl (v)]) rfl ?_
    refine ez_icmp rfl rfl ⟨by first | omega | exact (sz_i32 _).1, by first | omega | exact (sz_i32 _).2⟩ ⟨by first | omega | exact (sz_i32 _).1, by first | omega | exact (sz_i32 _).2⟩ (fun (c2 : (v) ≤ (hi)) => ?_) (fun (c2 : ¬((v) ≤ (hi))) => ?_)
    · skip
      exact ez_ret0 rfl rfl (k1 (by omega) (by omega))
    · skip
      exact ez_th rfl rfl (by omega) (by omega) (by omega) rfl (k0 (by omega))

theorem rd_reqOpen (hB : ez_B τ h) (t192 : τ 192 = 44) (hr1 : h.1 + 1 ≤ 600192) (hr2 : h.2.1 + 6 ≤ 7302232) (k1 : qz_I h 202 6 = 0 → Q (.inl none, h)) (k0 : qz_I h 202 6 ≠ 0 → Q (.inr h.1, xc h 2)) : ez_W (d + 6) cm_30 0 [(0, .inr (.inr (some (192))))] [] h Q := by
  refine ez_go (n := 1) (pc' := 1) (L' := [(0, .inr (.inr (some (192))))]) (st' := [.inr (.inr (some (192)))]) rfl ?_
  refine ez_gC (p := 202) (tg := 48) hB t192 rfl rfl tq_44 rfl rfl (fun (t202 : _ = 48) => ?_)
  refine ez_gI hB t202 rfl rfl tq_48 rfl rfl (fun (b1 : 0 ≤ qz_I h 202 6) (b1' : qz_I h 202 6 ≤ 1) => ?_)
  refine ez_if rfl rfl ⟨by first | omega | exact (sz_i32 _).1, by first | omega | exact (sz_i32 _).2⟩ (fun (c2 : (qz_I h 202 6) = (0)) => ?_) (fun (c2 : ¬((qz_I h 202 6) = (0))) => ?_)
  · skip
    exact ez_ret0 rfl rfl (k1 (by omega))
  · skip
    exact ez_th rfl rfl (by omega) (by omega) (by omega) rfl (k0 (by omega))

theorem rd_line0 (hI : jz_I τ h F E) (hl : qz_I h 192 1 = 0 ∨ qz_I h 202 5 ≤ 255) (hr1 : h.1 + 5 ≤ 600192) (hr2 : h.2.1 + 65 ≤ 7302232) (kS : qz_I h 202 6 ≠ 0 → Q (.inr h.1, xc h 2)) (kC : qz_I h 202 6 = 0 → ∀ g τ1 F2 E2, jz_I τ1 g F2 E2 → fz τ (dz_put h 192 1 (ez_v (.inl 0))) τ1 g 5 65 → rz_step (rz_b h) (qz_I h 192 1) 0 F E F2 E2 → qz_I g 192 1 = 0 → (∀ j, j ≠ 1 → qz_I g 192 j = qz_I h 192 j) → (qz_I g 202 5 = qz_I h 202 5 ∨ (qz_I g 202 5 = qz_I h 202 5 + 1 ∧ 0 < qz_I h 192 1)) → (∀ j, j ≠ 1 → j ≠ 4 → j ≠ 5 → qz_I g 202 j = qz_I h 202 j) → ∀ o, ((∃ v, o = .inl (some (ez_v (.inl v)))) ∨ (∃ r, o = .inr r ∧ cz_exc g r = some 3)) → Q (o, g)) : ez_W (d + 9) cm_21 0 [(0, .inr (.inr (some (192)))), (1, .inl (0))] [] h Q := by
  have t192 : τ 192 = 44 := hI.2.1 192 (by decide)
  refine ez_go (n := 3) (pc' := 3) (L' := [(0, .inr (.inr (some (192)))), (1, .inl (0))]) (st' := [.inl (4), .inl (0), .inl (0)]) rfl ?_
  refine ez_cs hI.1.2.1 rfl rfl rfl rfl rfl (rd_reqRange ⟨by decide, by decide⟩ ⟨by decide, by decide⟩ ⟨by decide, by decide⟩ (by omega) (by omega) (fun _ _ => ez_K0 ?_) (fun w => by omega))
  refine ez_go (n := 1) (pc' := 7) (L' := [(0, .inr (.inr (some (192)))), (1, .inl (0))]) (st' := [.inr (.inr (some (192)))]) rfl ?_
  refine ez_cv hI.1 t192 rfl rfl rfl tq_44 rfl rfl rfl (rd_reqOpen hI.1 t192 (by omega) (by omega) (fun ho => ez_K0 ?_) (fun ho => ez_Kp (xc_exc hI.1 rfl) rfl (kS ho)))
  refine ez_go (n := 1) (pc' := 11) (L' := [(0, .inr (.inr (some (192)))), (1, .inl (0))]) (st' := [.inr (.inr (some (192)))]) rfl ?_
  refine ez_gI hI.1 t192 rfl rfl tq_44 rfl rfl (fun (b1 : 0 ≤ qz_I h 192 1) (b1' : qz_I h 192 1 ≤ 4096) => ?_)
  refine ez_go (n := 3) (pc' := 17) (L' := [(2, .inl (qz_I h 192 1)), (0, .inr (.inr (some (192)))), (1, .inl (0))]) (st' := [.inl (0), .inr (.inr (some (192)))]) rfl ?_
  refine ez_pf hI.1 t192 rfl rfl tq_44 rfl rfl rfl rfl (ez_vdI rfl rfl (by omega) (by omega)) (fun hB2 w3 => ?_)
  refine ez_go (n := 1) (pc' := 21) (L' := [(2, .inl (qz_I h 192 1)), (0, .inr (.inr (some (192)))), (1, .inl (0))]) (st' := [.inr (.inr (some (192)))]) rfl ?_
  refine ez_gC (p := 720) (tg := 52) hB2 t192 rfl rfl tq_44 rfl rfl (fun (t720 : _ = 52) => ?_)
  refine ez_go (n := 2) (pc' := 26) (L' := [(2, .inl (qz_I h 192 1)), (0, .inr (.inr (some (192)))), (1, .inl (0))]) (st' := [.inl (qz_I h 192 1), .inl (0), .inr (.inr (some (720)))]) rfl ?_
  have hI1 : jz_I τ (dz_put h 192 1 (ez_v (.inl (0)))) F E := jz_put hI hB2 (by decide) (by decide) (by decide) (by rw [t192]; decide)
  have q202 : ∀ j, qz_I (dz_put h 192 1 (ez_v (.inl (0)))) 202 j = qz_I h 202 j := fun j => ez_put_I (by omega)
  have b1 : rz_b (dz_put h 192 1 (ez_v (.inl (0)))) = rz_b h := funext fun i => ez_put_I (by omega)
  have z1 : qz_I (dz_put h 192 1 (ez_v (.inl (0)))) 192 1 = 0 := by rw [w3]; rfl
  have zj : ∀ j, j ≠ 1 → qz_I (dz_put h 192 1 (ez_v (.inl (0)))) 192 j = qz_I h 192 j := fun j hj => ez_put_I (fun w => hj w.2)
  have c1 : ((dz_put h 192 1 (ez_v (.inl (0))))).1 = h.1 := rfl
  have c2 : ((dz_put h 192 1 (ez_v (.inl (0))))).2.1 = h.2.1 := rfl
  have kk := kC ho
  generalize (dz_put h 192 1 (ez_v (.inl (0)))) = h1 at *
  refine ez_cv hI1.1 t720 rfl rfl rfl tq_52 rfl rfl rfl (rd_take0 hI1 (by omega) (by omega) (by rw [q202]; exact hl) (by omega) (by omega) (fun g τ1 F2 E2 v hI2 x st hv ho2 => ez_K1 ?_))
  rw [b1] at st
  have u192 : τ1 192 = 44 := hI2.2.1 192 (by decide)
  have xc2 := x.2
  have q5 := q202 5
  have a192 : ∀ j, qz_I g 192 j = qz_I h1 192 j := fun j => by unfold qz_I; rw [(x.1 192 (by rw [t192]; decide)).2 (by rw [t192]; rfl)]
  refine ez_go (n := 3) (pc' := 32) (L' := [(3, .inl (v)), (2, .inl (qz_I h 192 1)), (0, .inr (.inr (some (192)))), (1, .inl (0))]) (st' := [.inl (-1), .inl (v)]) rfl ?_
  refine ez_icmp rfl rfl ⟨by first | omega | exact (sz_i32 _).1, by first | omega | exact (sz_i32 _).2⟩ ⟨by first | omega | exact (sz_i32 _).1, by first | omega | exact (sz_i32 _).2⟩ (fun (c4 : (v) ≠ (-1)) => ?_) (fun (c4 : ¬((v) ≠ (-1))) => ?_)
  · skip
    refine ez_go (n := 1) (pc' := 44) (L' := [(3, .inl (v)), (2, .inl (qz_I h 192 1)), (0, .inr (.inr (some (192)))), (1, .inl (0))]) (st' := [.inl (v)]) rfl ?_
    exact ez_retI rfl rfl (kk g τ1 F2 E2 hI2 (x.mono (by omega) (by omega)) st ((a192 1).trans z1) (fun j hj => (a192 j).trans (zj j hj)) (by omega) (fun j j1 j4 j5 => by rw [ho2 j j1 j4 j5, q202]) _ (Or.inl ⟨v, rfl⟩))
  · skip
    refine ez_th rfl rfl (by omega) (by omega) (by omega) rfl ?_
    exact kk (xc g 3) τ1 F2 E2 (jz_xc hI2 (by omega) (by omega)) ((x.trans (fz_xt (xc_xt hI2.1))).mono (by omega) (by omega)) st ((xc_xt hI2.1).I (by rw [u192]; decide) 1 |>.trans ((a192 1).trans z1)) (fun j hj => ((xc_xt hI2.1).I (by rw [u192]; decide) j).trans ((a192 j).trans (zj j hj))) (Or.inl (by rw [(xc_xt hI2.1).I (by rw [hI2.2.1 202 (by decide)]; decide)]; omega)) (fun j j1 j4 j5 => by rw [(xc_xt hI2.1).I (by rw [hI2.2.1 202 (by decide)]; decide), ho2 j j1 j4 j5, q202]) _ (Or.inr ⟨g.1, rfl, xc_exc hI2.1 rfl⟩)

theorem rd_line1 (hI : jz_I τ h F E) (hl : qz_I h 192 1 = 0 ∨ qz_I h 202 5 ≤ 255) (hr1 : h.1 + 5 ≤ 600192) (hr2 : h.2.1 + 65 ≤ 7302232) (kS : qz_I h 202 6 ≠ 0 → Q (.inr h.1, xc h 2)) (kC : qz_I h 202 6 = 0 → ∀ g τ1 F2 E2, jz_I τ1 g F2 E2 → fz τ (dz_put h 192 1 (ez_v (.inl 0))) τ1 g 5 65 → rz_step (rz_b h) (qz_I h 192 1) 1 F E F2 E2 → qz_I g 192 1 = 0 → (∀ j, j ≠ 1 → qz_I g 192 j = qz_I h 192 j) → (qz_I g 202 5 = qz_I h 202 5 ∨ (qz_I g 202 5 = qz_I h 202 5 + 1 ∧ 0 < qz_I h 192 1)) → (∀ j, j ≠ 1 → j ≠ 4 → j ≠ 5 → qz_I g 202 j = qz_I h 202 j) → ∀ o, ((∃ v, o = .inl (some (ez_v (.inl v)))) ∨ (∃ r, o = .inr r ∧ cz_exc g r = some 3)) → Q (o, g)) : ez_W (d + 9) cm_21 0 [(0, .inr (.inr (some (192)))), (1, .inl (1))] [] h Q := by
  have t192 : τ 192 = 44 := hI.2.1 192 (by decide)
  refine ez_go (n := 3) (pc' := 3) (L' := [(0, .inr (.inr (some (192)))), (1, .inl (1))]) (st' := [.inl (4), .inl (0), .inl (1)]) rfl ?_
  refine ez_cs hI.1.2.1 rfl rfl rfl rfl rfl (rd_reqRange ⟨by decide, by decide⟩ ⟨by decide, by decide⟩ ⟨by decide, by decide⟩ (by omega) (by omega) (fun _ _ => ez_K0 ?_) (fun w => by omega))
  refine ez_go (n := 1) (pc' := 7) (L' := [(0, .inr (.inr (some (192)))), (1, .inl (1))]) (st' := [.inr (.inr (some (192)))]) rfl ?_
  refine ez_cv hI.1 t192 rfl rfl rfl tq_44 rfl rfl rfl (rd_reqOpen hI.1 t192 (by omega) (by omega) (fun ho => ez_K0 ?_) (fun ho => ez_Kp (xc_exc hI.1 rfl) rfl (kS ho)))
  refine ez_go (n := 1) (pc' := 11) (L' := [(0, .inr (.inr (some (192)))), (1, .inl (1))]) (st' := [.inr (.inr (some (192)))]) rfl ?_
  refine ez_gI hI.1 t192 rfl rfl tq_44 rfl rfl (fun (b1 : 0 ≤ qz_I h 192 1) (b1' : qz_I h 192 1 ≤ 4096) => ?_)
  refine ez_go (n := 3) (pc' := 17) (L' := [(2, .inl (qz_I h 192 1)), (0, .inr (.inr (some (192)))), (1, .inl (1))]) (st' := [.inl (0), .inr (.inr (some (192)))]) rfl ?_
  refine ez_pf hI.1 t192 rfl rfl tq_44 rfl rfl rfl rfl (ez_vdI rfl rfl (by omega) (by omega)) (fun hB2 w3 => ?_)
  refine ez_go (n := 1) (pc' := 21) (L' := [(2, .inl (qz_I h 192 1)), (0, .inr (.inr (some (192)))), (1, .inl (1))]) (st' := [.inr (.inr (some (192)))]) rfl ?_
  refine ez_gC (p := 720) (tg := 52) hB2 t192 rfl rfl tq_44 rfl rfl (fun (t720 : _ = 52) => ?_)
  refine ez_go (n := 2) (pc' := 26) (L' := [(2, .inl (qz_I h 192 1)), (0, .inr (.inr (some (192)))), (1, .inl (1))]) (st' := [.inl (qz_I h 192 1), .inl (1), .inr (.inr (some (720)))]) rfl ?_
  have hI1 : jz_I τ (dz_put h 192 1 (ez_v (.inl (0)))) F E := jz_put hI hB2 (by decide) (by decide) (by decide) (by rw [t192]; decide)
  have q202 : ∀ j, qz_I (dz_put h 192 1 (ez_v (.inl (0)))) 202 j = qz_I h 202 j := fun j => ez_put_I (by omega)
  have b1 : rz_b (dz_put h 192 1 (ez_v (.inl (0)))) = rz_b h := funext fun i => ez_put_I (by omega)
  have z1 : qz_I (dz_put h 192 1 (ez_v (.inl (0)))) 192 1 = 0 := by rw [w3]; rfl
  have zj : ∀ j, j ≠ 1 → qz_I (dz_put h 192 1 (ez_v (.inl (0)))) 192 j = qz_I h 192 j := fun j hj => ez_put_I (fun w => hj w.2)
  have c1 : ((dz_put h 192 1 (ez_v (.inl (0))))).1 = h.1 := rfl
  have c2 : ((dz_put h 192 1 (ez_v (.inl (0))))).2.1 = h.2.1 := rfl
  have kk := kC ho
  generalize (dz_put h 192 1 (ez_v (.inl (0)))) = h1 at *
  refine ez_cv hI1.1 t720 rfl rfl rfl tq_52 rfl rfl rfl (rd_take1 hI1 (by omega) (by omega) (by rw [q202]; exact hl) (by omega) (by omega) (fun g τ1 F2 E2 v hI2 x st hv ho2 => ez_K1 ?_))
  rw [b1] at st
  have u192 : τ1 192 = 44 := hI2.2.1 192 (by decide)
  have xc2 := x.2
  have q5 := q202 5
  have a192 : ∀ j, qz_I g 192 j = qz_I h1 192 j := fun j => by unfold qz_I; rw [(x.1 192 (by rw [t192]; decide)).2 (by rw [t192]; rfl)]
  refine ez_go (n := 3) (pc' := 32) (L' := [(3, .inl (v)), (2, .inl (qz_I h 192 1)), (0, .inr (.inr (some (192)))), (1, .inl (1))]) (st' := [.inl (-1), .inl (v)]) rfl ?_
  refine ez_icmp rfl rfl ⟨by first | omega | exact (sz_i32 _).1, by first | omega | exact (sz_i32 _).2⟩ ⟨by first | omega | exact (sz_i32 _).1, by first | omega | exact (sz_i32 _).2⟩ (fun (c4 : (v) ≠ (-1)) => ?_) (fun (c4 : ¬((v) ≠ (-1))) => ?_)
  · skip
    refine ez_go (n := 1) (pc' := 44) (L' := [(3, .inl (v)), (2, .inl (qz_I h 192 1)), (0, .inr (.inr (some (192)))), (1, .inl (1))]) (st' := [.inl (v)]) rfl ?_
    exact ez_retI rfl rfl (kk g τ1 F2 E2 hI2 (x.mono (by omega) (by omega)) st ((a192 1).trans z1) (fun j hj => (a192 j).trans (zj j hj)) (by omega) (fun j j1 j4 j5 => by rw [ho2 j j1 j4 j5, q202]) _ (Or.inl ⟨v, rfl⟩))
  · skip
    refine ez_th rfl rfl (by omega) (by omega) (by omega) rfl ?_
    exact kk (xc g 3) τ1 F2 E2 (jz_xc hI2 (by omega) (by omega)) ((x.trans (fz_xt (xc_xt hI2.1))).mono (by omega) (by omega)) st ((xc_xt hI2.1).I (by rw [u192]; decide) 1 |>.trans ((a192 1).trans z1)) (fun j hj => ((xc_xt hI2.1).I (by rw [u192]; decide) j).trans ((a192 j).trans (zj j hj))) (Or.inl (by rw [(xc_xt hI2.1).I (by rw [hI2.2.1 202 (by decide)]; decide)]; omega)) (fun j j1 j4 j5 => by rw [(xc_xt hI2.1).I (by rw [hI2.2.1 202 (by decide)]; decide), ho2 j j1 j4 j5, q202]) _ (Or.inr ⟨g.1, rfl, xc_exc hI2.1 rfl⟩)

theorem rd_line2 (hI : jz_I τ h F E) (hl : qz_I h 192 1 = 0 ∨ qz_I h 202 5 ≤ 255) (hr1 : h.1 + 5 ≤ 600192) (hr2 : h.2.1 + 65 ≤ 7302232) (kS : qz_I h 202 6 ≠ 0 → Q (.inr h.1, xc h 2)) (kC : qz_I h 202 6 = 0 → ∀ g τ1 F2 E2, jz_I τ1 g F2 E2 → fz τ (dz_put h 192 1 (ez_v (.inl 0))) τ1 g 5 65 → rz_step (rz_b h) (qz_I h 192 1) 2 F E F2 E2 → qz_I g 192 1 = 0 → (∀ j, j ≠ 1 → qz_I g 192 j = qz_I h 192 j) → (qz_I g 202 5 = qz_I h 202 5 ∨ (qz_I g 202 5 = qz_I h 202 5 + 1 ∧ 0 < qz_I h 192 1)) → (∀ j, j ≠ 1 → j ≠ 4 → j ≠ 5 → qz_I g 202 j = qz_I h 202 j) → ∀ o, ((∃ v, o = .inl (some (ez_v (.inl v)))) ∨ (∃ r, o = .inr r ∧ cz_exc g r = some 3)) → Q (o, g)) : ez_W (d + 9) cm_21 0 [(0, .inr (.inr (some (192)))), (1, .inl (2))] [] h Q := by
  have t192 : τ 192 = 44 := hI.2.1 192 (by decide)
  refine ez_go (n := 3) (pc' := 3) (L' := [(0, .inr (.inr (some (192)))), (1, .inl (2))]) (st' := [.inl (4), .inl (0), .inl (2)]) rfl ?_
  refine ez_cs hI.1.2.1 rfl rfl rfl rfl rfl (rd_reqRange ⟨by decide, by decide⟩ ⟨by decide, by decide⟩ ⟨by decide, by decide⟩ (by omega) (by omega) (fun _ _ => ez_K0 ?_) (fun w => by omega))
  refine ez_go (n := 1) (pc' := 7) (L' := [(0, .inr (.inr (some (192)))), (1, .inl (2))]) (st' := [.inr (.inr (some (192)))]) rfl ?_
  refine ez_cv hI.1 t192 rfl rfl rfl tq_44 rfl rfl rfl (rd_reqOpen hI.1 t192 (by omega) (by omega) (fun ho => ez_K0 ?_) (fun ho => ez_Kp (xc_exc hI.1 rfl) rfl (kS ho)))
  refine ez_go (n := 1) (pc' := 11) (L' := [(0, .inr (.inr (some (192)))), (1, .inl (2))]) (st' := [.inr (.inr (some (192)))]) rfl ?_
  refine ez_gI hI.1 t192 rfl rfl tq_44 rfl rfl (fun (b1 : 0 ≤ qz_I h 192 1) (b1' : qz_I h 192 1 ≤ 4096) => ?_)
  refine ez_go (n := 3) (pc' := 17) (L' := [(2, .inl (qz_I h 192 1)), (0, .inr (.inr (some (192)))), (1, .inl (2))]) (st' := [.inl (0), .inr (.inr (some (192)))]) rfl ?_
  refine ez_pf hI.1 t192 rfl rfl tq_44 rfl rfl rfl rfl (ez_vdI rfl rfl (by omega) (by omega)) (fun hB2 w3 => ?_)
  refine ez_go (n := 1) (pc' := 21) (L' := [(2, .inl (qz_I h 192 1)), (0, .inr (.inr (some (192)))), (1, .inl (2))]) (st' := [.inr (.inr (some (192)))]) rfl ?_
  refine ez_gC (p := 720) (tg := 52) hB2 t192 rfl rfl tq_44 rfl rfl (fun (t720 : _ = 52) => ?_)
  refine ez_go (n := 2) (pc' := 26) (L' := [(2, .inl (qz_I h 192 1)), (0, .inr (.inr (some (192)))), (1, .inl (2))]) (st' := [.inl (qz_I h 192 1), .inl (2), .inr (.inr (some (720)))]) rfl ?_
  have hI1 : jz_I τ (dz_put h 192 1 (ez_v (.inl (0)))) F E := jz_put hI hB2 (by decide) (by decide) (by decide) (by rw [t192]; decide)
  have q202 : ∀ j, qz_I (dz_put h 192 1 (ez_v (.inl (0)))) 202 j = qz_I h 202 j := fun j => ez_put_I (by omega)
  have b1 : rz_b (dz_put h 192 1 (ez_v (.inl (0)))) = rz_b h := funext fun i => ez_put_I (by omega)
  have z1 : qz_I (dz_put h 192 1 (ez_v (.inl (0)))) 192 1 = 0 := by rw [w3]; rfl
  have zj : ∀ j, j ≠ 1 → qz_I (dz_put h 192 1 (ez_v (.inl (0)))) 192 j = qz_I h 192 j := fun j hj => ez_put_I (fun w => hj w.2)
  have c1 : ((dz_put h 192 1 (ez_v (.inl (0))))).1 = h.1 := rfl
  have c2 : ((dz_put h 192 1 (ez_v (.inl (0))))).2.1 = h.2.1 := rfl
  have kk := kC ho
  generalize (dz_put h 192 1 (ez_v (.inl (0)))) = h1 at *
  refine ez_cv hI1.1 t720 rfl rfl rfl tq_52 rfl rfl rfl (rd_take2 hI1 (by omega) (by omega) (by rw [q202]; exact hl) (by omega) (by omega) (fun g τ1 F2 E2 v hI2 x st hv ho2 => ez_K1 ?_))
  rw [b1] at st
  have u192 : τ1 192 = 44 := hI2.2.1 192 (by decide)
  have xc2 := x.2
  have q5 := q202 5
  have a192 : ∀ j, qz_I g 192 j = qz_I h1 192 j := fun j => by unfold qz_I; rw [(x.1 192 (by rw [t192]; decide)).2 (by rw [t192]; rfl)]
  refine ez_go (n := 3) (pc' := 32) (L' := [(3, .inl (v)), (2, .inl (qz_I h 192 1)), (0, .inr (.inr (some (192)))), (1, .inl (2))]) (st' := [.inl (-1), .inl (v)]) rfl ?_
  refine ez_icmp rfl rfl ⟨by first | omega | exact (sz_i32 _).1, by first | omega | exact (sz_i32 _).2⟩ ⟨by first | omega | exact (sz_i32 _).1, by first | omega | exact (sz_i32 _).2⟩ (fun (c4 : (v) ≠ (-1)) => ?_) (fun (c4 : ¬((v) ≠ (-1))) => ?_)
  · skip
    refine ez_go (n := 1) (pc' := 44) (L' := [(3, .inl (v)), (2, .inl (qz_I h 192 1)), (0, .inr (.inr (some (192)))), (1, .inl (2))]) (st' := [.inl (v)]) rfl ?_
    exact ez_retI rfl rfl (kk g τ1 F2 E2 hI2 (x.mono (by omega) (by omega)) st ((a192 1).trans z1) (fun j hj => (a192 j).trans (zj j hj)) (by omega) (fun j j1 j4 j5 => by rw [ho2 j j1 j4 j5, q202]) _ (Or.inl ⟨v, rfl⟩))
  · skip
    refine ez_th rfl rfl (by omega) (by omega) (by omega) rfl ?_
    exact kk (xc g 3) τ1 F2 E2 (jz_xc hI2 (by omega) (by omega)) ((x.trans (fz_xt (xc_xt hI2.1))).mono (by omega) (by omega)) st ((xc_xt hI2.1).I (by rw [u192]; decide) 1 |>.trans ((a192 1).trans z1)) (fun j hj => ((xc_xt hI2.1).I (by rw [u192]; decide) j).trans ((a192 j).trans (zj j hj))) (Or.inl (by rw [(xc_xt hI2.1).I (by rw [hI2.2.1 202 (by decide)]; decide)]; omega)) (fun j j1 j4 j5 => by rw [(xc_xt hI2.1).I (by rw [hI2.2.1 202 (by decide)]; decide), ho2 j j1 j4 j5, q202]) _ (Or.inr ⟨g.1, rfl, xc_exc hI2.1 rfl⟩)

theorem rd_line3 (hI : jz_I τ h F E) (hl : qz_I h 192 1 = 0 ∨ qz_I h 202 5 ≤ 255) (hr1 : h.1 + 5 ≤ 600192) (hr2 : h.2.1 + 65 ≤ 7302232) (kS : qz_I h 202 6 ≠ 0 → Q (.inr h.1, xc h 2)) (kC : qz_I h 202 6 = 0 → ∀ g τ1 F2 E2, jz_I τ1 g F2 E2 → fz τ (dz_put h 192 1 (ez_v (.inl 0))) τ1 g 5 65 → rz_step (rz_b h) (qz_I h 192 1) 3 F E F2 E2 → qz_I g 192 1 = 0 → (∀ j, j ≠ 1 → qz_I g 192 j = qz_I h 192 j) → (qz_I g 202 5 = qz_I h 202 5 ∨ (qz_I g 202 5 = qz_I h 202 5 + 1 ∧ 0 < qz_I h 192 1)) → (∀ j, j ≠ 1 → j ≠ 4 → j ≠ 5 → qz_I g 202 j = qz_I h 202 j) → ∀ o, ((∃ v, o = .inl (some (ez_v (.inl v)))) ∨ (∃ r, o = .inr r ∧ cz_exc g r = some 3)) → Q (o, g)) : ez_W (d + 9) cm_21 0 [(0, .inr (.inr (some (192)))), (1, .inl (3))] [] h Q := by
  have t192 : τ 192 = 44 := hI.2.1 192 (by decide)
  refine ez_go (n := 3) (pc' := 3) (L' := [(0, .inr (.inr (some (192)))), (1, .inl (3))]) (st' := [.inl (4), .inl (0), .inl (3)]) rfl ?_
  refine ez_cs hI.1.2.1 rfl rfl rfl rfl rfl (rd_reqRange ⟨by decide, by decide⟩ ⟨by decide, by decide⟩ ⟨by decide, by decide⟩ (by omega) (by omega) (fun _ _ => ez_K0 ?_) (fun w => by omega))
  refine ez_go (n := 1) (pc' := 7) (L' := [(0, .inr (.inr (some (192)))), (1, .inl (3))]) (st' := [.inr (.inr (some (192)))]) rfl ?_
  refine ez_cv hI.1 t192 rfl rfl rfl tq_44 rfl rfl rfl (rd_reqOpen hI.1 t192 (by omega) (by omega) (fun ho => ez_K0 ?_) (fun ho => ez_Kp (xc_exc hI.1 rfl) rfl (kS ho)))
  refine ez_go (n := 1) (pc' := 11) (L' := [(0, .inr (.inr (some (192)))), (1, .inl (3))]) (st' := [.inr (.inr (some (192)))]) rfl ?_
  refine ez_gI hI.1 t192 rfl rfl tq_44 rfl rfl (fun (b1 : 0 ≤ qz_I h 192 1) (b1' : qz_I h 192 1 ≤ 4096) => ?_)
  refine ez_go (n := 3) (pc' := 17) (L' := [(2, .inl (qz_I h 192 1)), (0, .inr (.inr (some (192)))), (1, .inl (3))]) (st' := [.inl (0), .inr (.inr (some (192)))]) rfl ?_
  refine ez_pf hI.1 t192 rfl rfl tq_44 rfl rfl rfl rfl (ez_vdI rfl rfl (by omega) (by omega)) (fun hB2 w3 => ?_)
  refine ez_go (n := 1) (pc' := 21) (L' := [(2, .inl (qz_I h 192 1)), (0, .inr (.inr (some (192)))), (1, .inl (3))]) (st' := [.inr (.inr (some (192)))]) rfl ?_
  refine ez_gC (p := 720) (tg := 52) hB2 t192 rfl rfl tq_44 rfl rfl (fun (t720 : _ = 52) => ?_)
  refine ez_go (n := 2) (pc' := 26) (L' := [(2, .inl (qz_I h 192 1)), (0, .inr (.inr (some (192)))), (1, .inl (3))]) (st' := [.inl (qz_I h 192 1), .inl (3), .inr (.inr (some (720)))]) rfl ?_
  have hI1 : jz_I τ (dz_put h 192 1 (ez_v (.inl (0)))) F E := jz_put hI hB2 (by decide) (by decide) (by decide) (by rw [t192]; decide)
  have q202 : ∀ j, qz_I (dz_put h 192 1 (ez_v (.inl (0)))) 202 j = qz_I h 202 j := fun j => ez_put_I (by omega)
  have b1 : rz_b (dz_put h 192 1 (ez_v (.inl (0)))) = rz_b h := funext fun i => ez_put_I (by omega)
  have z1 : qz_I (dz_put h 192 1 (ez_v (.inl (0)))) 192 1 = 0 := by rw [w3]; rfl
  have zj : ∀ j, j ≠ 1 → qz_I (dz_put h 192 1 (ez_v (.inl (0)))) 192 j = qz_I h 192 j := fun j hj => ez_put_I (fun w => hj w.2)
  have c1 : ((dz_put h 192 1 (ez_v (.inl (0))))).1 = h.1 := rfl
  have c2 : ((dz_put h 192 1 (ez_v (.inl (0))))).2.1 = h.2.1 := rfl
  have kk := kC ho
  generalize (dz_put h 192 1 (ez_v (.inl (0)))) = h1 at *
  refine ez_cv hI1.1 t720 rfl rfl rfl tq_52 rfl rfl rfl (rd_take3 hI1 (by omega) (by omega) (by rw [q202]; exact hl) (by omega) (by omega) (fun g τ1 F2 E2 v hI2 x st hv ho2 => ez_K1 ?_))
  rw [b1] at st
  have u192 : τ1 192 = 44 := hI2.2.1 192 (by decide)
  have xc2 := x.2
  have q5 := q202 5
  have a192 : ∀ j, qz_I g 192 j = qz_I h1 192 j := fun j => by unfold qz_I; rw [(x.1 192 (by rw [t192]; decide)).2 (by rw [t192]; rfl)]
  refine ez_go (n := 3) (pc' := 32) (L' := [(3, .inl (v)), (2, .inl (qz_I h 192 1)), (0, .inr (.inr (some (192)))), (1, .inl (3))]) (st' := [.inl (-1), .inl (v)]) rfl ?_
  refine ez_icmp rfl rfl ⟨by first | omega | exact (sz_i32 _).1, by first | omega | exact (sz_i32 _).2⟩ ⟨by first | omega | exact (sz_i32 _).1, by first | omega | exact (sz_i32 _).2⟩ (fun (c4 : (v) ≠ (-1)) => ?_) (fun (c4 : ¬((v) ≠ (-1))) => ?_)
  · skip
    refine ez_go (n := 1) (pc' := 44) (L' := [(3, .inl (v)), (2, .inl (qz_I h 192 1)), (0, .inr (.inr (some (192)))), (1, .inl (3))]) (st' := [.inl (v)]) rfl ?_
    exact ez_retI rfl rfl (kk g τ1 F2 E2 hI2 (x.mono (by omega) (by omega)) st ((a192 1).trans z1) (fun j hj => (a192 j).trans (zj j hj)) (by omega) (fun j j1 j4 j5 => by rw [ho2 j j1 j4 j5, q202]) _ (Or.inl ⟨v, rfl⟩))
  · skip
    refine ez_th rfl rfl (by omega) (by omega) (by omega) rfl ?_
    exact kk (xc g 3) τ1 F2 E2 (jz_xc hI2 (by omega) (by omega)) ((x.trans (fz_xt (xc_xt hI2.1))).mono (by omega) (by omega)) st ((xc_xt hI2.1).I (by rw [u192]; decide) 1 |>.trans ((a192 1).trans z1)) (fun j hj => ((xc_xt hI2.1).I (by rw [u192]; decide) j).trans ((a192 j).trans (zj j hj))) (Or.inl (by rw [(xc_xt hI2.1).I (by rw [hI2.2.1 202 (by decide)]; decide)]; omega)) (fun j j1 j4 j5 => by rw [(xc_xt hI2.1).I (by rw [hI2.2.1 202 (by decide)]; decide), ho2 j j1 j4 j5, q202]) _ (Or.inr ⟨g.1, rfl, xc_exc hI2.1 rfl⟩)

theorem rd_line4 (hI : jz_I τ h F E) (hl : qz_I h 192 1 = 0 ∨ qz_I h 202 5 ≤ 255) (hr1 : h.1 + 5 ≤ 600192) (hr2 : h.2.1 + 65 ≤ 7302232) (kS : qz_I h 202 6 ≠ 0 → Q (.inr h.1, xc h 2)) (kC : qz_I h 202 6 = 0 → ∀ g τ1 F2 E2, jz_I τ1 g F2 E2 → fz τ (dz_put h 192 1 (ez_v (.inl 0))) τ1 g 5 65 → rz_step (rz_b h) (qz_I h 192 1) 4 F E F2 E2 → qz_I g 192 1 = 0 → (∀ j, j ≠ 1 → qz_I g 192 j = qz_I h 192 j) → (qz_I g 202 5 = qz_I h 202 5 ∨ (qz_I g 202 5 = qz_I h 202 5 + 1 ∧ 0 < qz_I h 192 1)) → (∀ j, j ≠ 1 → j ≠ 4 → j ≠ 5 → qz_I g 202 j = qz_I h 202 j) → ∀ o, ((∃ v, o = .inl (some (ez_v (.inl v)))) ∨ (∃ r, o = .inr r ∧ cz_exc g r = some 3)) → Q (o, g)) : ez_W (d + 9) cm_21 0 [(0, .inr (.inr (some (192)))), (1, .inl (4))] [] h Q := by
  have t192 : τ 192 = 44 := hI.2.1 192 (by decide)
  refine ez_go (n := 3) (pc' := 3) (L' := [(0, .inr (.inr (some (192)))), (1, .inl (4))]) (st' := [.inl (4), .inl (0), .inl (4)]) rfl ?_
  refine ez_cs hI.1.2.1 rfl rfl rfl rfl rfl (rd_reqRange ⟨by decide, by decide⟩ ⟨by decide, by decide⟩ ⟨by decide, by decide⟩ (by omega) (by omega) (fun _ _ => ez_K0 ?_) (fun w => by omega))
  refine ez_go (n := 1) (pc' := 7) (L' := [(0, .inr (.inr (some (192)))), (1, .inl (4))]) (st' := [.inr (.inr (some (192)))]) rfl ?_
  refine ez_cv hI.1 t192 rfl rfl rfl tq_44 rfl rfl rfl (rd_reqOpen hI.1 t192 (by omega) (by omega) (fun ho => ez_K0 ?_) (fun ho => ez_Kp (xc_exc hI.1 rfl) rfl (kS ho)))
  refine ez_go (n := 1) (pc' := 11) (L' := [(0, .inr (.inr (some (192)))), (1, .inl (4))]) (st' := [.inr (.inr (some (192)))]) rfl ?_
  refine ez_gI hI.1 t192 rfl rfl tq_44 rfl rfl (fun (b1 : 0 ≤ qz_I h 192 1) (b1' : qz_I h 192 1 ≤ 4096) => ?_)
  refine ez_go (n := 3) (pc' := 17) (L' := [(2, .inl (qz_I h 192 1)), (0, .inr (.inr (some (192)))), (1, .inl (4))]) (st' := [.inl (0), .inr (.inr (some (192)))]) rfl ?_
  refine ez_pf hI.1 t192 rfl rfl tq_44 rfl rfl rfl rfl (ez_vdI rfl rfl (by omega) (by omega)) (fun hB2 w3 => ?_)
  refine ez_go (n := 1) (pc' := 21) (L' := [(2, .inl (qz_I h 192 1)), (0, .inr (.inr (some (192)))), (1, .inl (4))]) (st' := [.inr (.inr (some (192)))]) rfl ?_
  refine ez_gC (p := 720) (tg := 52) hB2 t192 rfl rfl tq_44 rfl rfl (fun (t720 : _ = 52) => ?_)
  refine ez_go (n := 2) (pc' := 26) (L' := [(2, .inl (qz_I h 192 1)), (0, .inr (.inr (some (192)))), (1, .inl (4))]) (st' := [.inl (qz_I h 192 1), .inl (4), .inr (.inr (some (720)))]) rfl ?_
  have hI1 : jz_I τ (dz_put h 192 1 (ez_v (.inl (0)))) F E := jz_put hI hB2 (by decide) (by decide) (by decide) (by rw [t192]; decide)
  have q202 : ∀ j, qz_I (dz_put h 192 1 (ez_v (.inl (0)))) 202 j = qz_I h 202 j := fun j => ez_put_I (by omega)
  have b1 : rz_b (dz_put h 192 1 (ez_v (.inl (0)))) = rz_b h := funext fun i => ez_put_I (by omega)
  have z1 : qz_I (dz_put h 192 1 (ez_v (.inl (0)))) 192 1 = 0 := by rw [w3]; rfl
  have zj : ∀ j, j ≠ 1 → qz_I (dz_put h 192 1 (ez_v (.inl (0)))) 192 j = qz_I h 192 j := fun j hj => ez_put_I (fun w => hj w.2)
  have c1 : ((dz_put h 192 1 (ez_v (.inl (0))))).1 = h.1 := rfl
  have c2 : ((dz_put h 192 1 (ez_v (.inl (0))))).2.1 = h.2.1 := rfl
  have kk := kC ho
  generalize (dz_put h 192 1 (ez_v (.inl (0)))) = h1 at *
  refine ez_cv hI1.1 t720 rfl rfl rfl tq_52 rfl rfl rfl (rd_take4 hI1 (by omega) (by omega) (by rw [q202]; exact hl) (by omega) (by omega) (fun g τ1 F2 E2 v hI2 x st hv ho2 => ez_K1 ?_))
  rw [b1] at st
  have u192 : τ1 192 = 44 := hI2.2.1 192 (by decide)
  have xc2 := x.2
  have q5 := q202 5
  have a192 : ∀ j, qz_I g 192 j = qz_I h1 192 j := fun j => by unfold qz_I; rw [(x.1 192 (by rw [t192]; decide)).2 (by rw [t192]; rfl)]
  refine ez_go (n := 3) (pc' := 32) (L' := [(3, .inl (v)), (2, .inl (qz_I h 192 1)), (0, .inr (.inr (some (192)))), (1, .inl (4))]) (st' := [.inl (-1), .inl (v)]) rfl ?_
  refine ez_icmp rfl rfl ⟨by first | omega | exact (sz_i32 _).1, by first | omega | exact (sz_i32 _).2⟩ ⟨by first | omega | exact (sz_i32 _).1, by first | omega | exact (sz_i32 _).2⟩ (fun (c4 : (v) ≠ (-1)) => ?_) (fun (c4 : ¬((v) ≠ (-1))) => ?_)
  · skip
    refine ez_go (n := 1) (pc' := 44) (L' := [(3, .inl (v)), (2, .inl (qz_I h 192 1)), (0, .inr (.inr (some (192)))), (1, .inl (4))]) (st' := [.inl (v)]) rfl ?_
    exact ez_retI rfl rfl (kk g τ1 F2 E2 hI2 (x.mono (by omega) (by omega)) st ((a192 1).trans z1) (fun j hj => (a192 j).trans (zj j hj)) (by omega) (fun j j1 j4 j5 => by rw [ho2 j j1 j4 j5, q202]) _ (Or.inl ⟨v, rfl⟩))
  · skip
    refine ez_th rfl rfl (by omega) (by omega) (by omega) rfl ?_
    exact kk (xc g 3) τ1 F2 E2 (jz_xc hI2 (by omega) (by omega)) ((x.trans (fz_xt (xc_xt hI2.1))).mono (by omega) (by omega)) st ((xc_xt hI2.1).I (by rw [u192]; decide) 1 |>.trans ((a192 1).trans z1)) (fun j hj => ((xc_xt hI2.1).I (by rw [u192]; decide) j).trans ((a192 j).trans (zj j hj))) (Or.inl (by rw [(xc_xt hI2.1).I (by rw [hI2.2.1 202 (by decide)]; decide)]; omega)) (fun j j1 j4 j5 => by rw [(xc_xt hI2.1).I (by rw [hI2.2.1 202 (by decide)]; decide), ho2 j j1 j4 j5, q202]) _ (Or.inr ⟨g.1, rfl, xc_exc hI2.1 rfl⟩)

theorem rd_lineX {kind : Int} (hB : ez_B τ h) (hv : ez_rg kind) (ho : kind < 0 ∨ 4 < kind) (hr1 : h.1 + 1 ≤ 600192) (hr2 : h.2.1 + 6 ≤ 7302232) (k : Q (.inr h.1, xc h 1)) : ez_W (d + 9) cm_21 0 [(0, .inr (.inr (some (192)))), (1, .inl (kind))] [] h Q := by
  refine ez_go (n := 3) (pc' := 3) (L' := [(0, .inr (.inr (some (192)))), (1, .inl (kind))]) (st' := [.inl (4), .inl (0), .inl (kind)]) rfl ?_
  refine ez_cs hB.2.1 rfl rfl rfl rfl rfl (rd_reqRange hv ⟨by decide, by decide⟩ ⟨by decide, by decide⟩ (by omega) (by omega) (fun _ _ => by omega) (fun w => ez_Kp (xc_exc hB rfl) rfl k))

end EzLn
/-! The class: seal, reset. (Written by wip/p2/py/pv39.py.) -/
theorem jz_pz {τ : Nat → Nat} {h g : cz_H} {F : rz_W} {E : Int → Prop} (hI : jz_I τ h F E) (hB : ez_B τ g) (x : pz τ h g) : jz_I τ g F E := by
  obtain ⟨i1, i2, ⟨i3, i4⟩, i5, i6, i7, i8, Xs, i9, i10⟩ := hI
  have t202 : τ 202 = 48 := i2 202 (by decide)
  have t203 : τ 203 = 49 := i2 203 (by decide)
  have fr : ∀ q t, τ q = t → t ≠ 3 → (t < 55 ∨ 60 < t) → g.2.2 q = h.2.2 q := fun q t hq h3 ht => x.2.1 q (by rw [hq]; exact h3) (by
    by_cases e : 723 ≤ q ∧ q ≤ 728
    · exfalso
      have : q = 723 ∨ q = 724 ∨ q = 725 ∨ q = 726 ∨ q = 727 ∨ q = 728 := by omega
      rcases this with rfl | rfl | rfl | rfl | rfl | rfl <;> (rw [i2 _ (by decide)] at hq; have hq := hq; revert ht; rw [← hq]; decide)
    · omega)
  have e202 : ∀ j, qz_I g 202 j = qz_I h 202 j := fun j => by unfold qz_I; rw [fr 202 48 t202 (by decide) (by decide)]
  have e203 := fr 203 49 t203 (by decide) (by decide)
  have e4 : ∀ q, τ q = 4 → g.2.2 q = h.2.2 q := fun q hq => fr q 4 hq (by decide) (by decide)
  obtain ⟨o1, o2⟩ := sz_pe_ok i1 t203 t202 (e202 1) e203 e4 i3 i4
  refine ⟨hB, i2, ⟨o1, o2⟩, fun j hj => ?_, by rw [e202, e202]; exact i6, fun s l hl => ?_, ?_, Xs, by rw [e202]; exact i9, i10⟩
  · rw [e202] at hj; unfold qz_I; rw [fr 205 51 (i2 205 (by decide)) (by decide) (by decide)]; exact i5 j hj
  · obtain ⟨y1, y2, y3⟩ := i7 s l hl
    obtain ⟨z1, z2⟩ := nz_hz i1 i2 s l hl
    have e1 := fr s 27 z1 (by decide) (by decide)
    have e2 := fr _ 28 z2 (by decide) (by decide)
    have e3 : qz_P g s 0 = qz_P h s 0 := by unfold qz_P qz_I; rw [e1]
    refine ⟨?_, y2, by rw [e3]; exact y3⟩
    unfold nz_S at *
    rw [e3]
    unfold qz_N qz_I at *
    rw [e2]
    exact y1
  · refine sz_D_tr i1 t202 t203 i8 (e202 1) e203 e4 (fun q hq => ⟨x.2.2 q hq 0 (by decide), x.2.2 q hq 2 (by decide), x.2.2 q hq 3 (by decide), x.2.2 q hq 4 (by decide)⟩) (fun p hp => ⟨hp, fr p 5 hp (by decide) (by decide)⟩)
/-- what lies in the pool ends in the pool -/
def sq (g : cz_H) : Prop := ∀ k, 0 ≤ k → k < qz_I g 202 1 → 1 ≤ qz_I g (sz_fp g k) 3 → qz_I g (sz_fp g k) 9 + qz_I g (sz_fp g k) 10 ≤ 20480 ∧ qz_I g (sz_fp g k) 11 + qz_I g (sz_fp g k) 12 ≤ 20480
theorem sq_of {τ : Nat → Nat} {T : Int → Nat} {F : rz_W} {E : Int → Prop} {Xs : List Int} {g : cz_H} (hw : uz_wf F) (hx : xy τ T F E Xs g) (hall : ∀ x, (F x).2 ≠ none → qz_I g (T x) 8 = 2) : sq g := by
  intro k k0 k1 h3
  have t723 : τ 723 = 55 := hx.1.2.1 723 (by decide)
  have b2 : 0 ≤ qz_I g 723 2 ∧ qz_I g 723 2 ≤ 20480 := ez_fB (cl := 6) hx.1.1 t723 tq_55 rfl rfl (by decide)
  obtain ⟨at1, x0, x1⟩ := sz_first hx.1.2.2.1 k0 k1
  have e1 := (hx.1.2.2.2.1 _ k x0 x1 at1).1
  have eT : sz_fp g k = T (sz_f g k) := by unfold sz_fp qz_P; omega
  rw [eT] at h3 ⊢
  have hn : (F (sz_f g k)).2 ≠ none := fun w => by have := (hx.1.2.2.2.2 _ x0 x1).2.2.1 w; omega
  obtain ⟨-, h2⟩ := hx.2.1 _ x0 x1 hn (hall _ hn)
  obtain ⟨l, -, ⟨a1, a2, a3, -⟩, -⟩ := h2 false
  obtain ⟨l', -, ⟨c1, c2, c3, -⟩, -⟩ := h2 true
  have a1 : qz_I g (T (sz_f g k)) 10 = _ := a1
  have a3 : qz_I g (T (sz_f g k)) 9 + _ ≤ _ := a3
  have c1 : qz_I g (T (sz_f g k)) 12 = _ := c1
  have c3 : qz_I g (T (sz_f g k)) 11 + _ ≤ _ := c3
  exact ⟨by omega, by omega⟩
section EzSe
variable {d : Nat} {h : cz_H} {τ : Nat → Nat} {Q : cz_F → Prop} {F : rz_W} {E : Int → Prop}
theorem rd_seal (hI : jz_I τ h F E) (hw : uz_wf F) (hr1 : h.1 + 1 ≤ 600192) (hr2 : h.2.1 + 6 ≤ 7302232) (kS : qz_I h 202 6 ≠ 0 → Q (.inr h.1, xc h 2)) (k1 : qz_I h 202 6 = 0 → uz_S F E → ∀ g1 g v, pz τ h g1 → jz_I τ g1 F E → sq g1 → ez_B τ g → ez_fr (ez_one 202) g1 g → (∀ j, j ≠ 6 → qz_I g 202 j = qz_I g1 202 j) → qz_I g 202 6 = 1 → Q (.inl (some (ez_v (.inl v))), g)) (k0 : qz_I h 202 6 = 0 → ¬ uz_S F E → ∀ g, jz_I τ g F E → pz τ h g → Q (.inr g.1, xc g 4)) : ez_W (d + 8) cm_37 0 [(0, .inr (.inr (some (192))))] [] h Q := by
  have t192 : τ 192 = 44 := hI.2.1 192 (by decide)
  have t202 : τ 202 = 48 := hI.2.1 202 (by decide)
  refine ez_go (n := 1) (pc' := 1) (L' := [(0, .inr (.inr (some (192))))]) (st' := [.inr (.inr (some (192)))]) rfl ?_
  refine ez_cv hI.1 t192 rfl rfl rfl tq_44 rfl rfl rfl (rd_reqOpen hI.1 t192 (by omega) (by omega) (fun ho => ez_K0 ?_) (fun ho => ez_Kp (xc_exc hI.1 rfl) rfl (kS ho)))
  refine ez_go (n := 1) (pc' := 5) (L' := [(0, .inr (.inr (some (192))))]) (st' := [.inr (.inr (some (192)))]) rfl ?_
  refine ez_gC (p := 723) (tg := 55) hI.1 t192 rfl rfl tq_44 rfl rfl (fun (t723 : _ = 55) => ?_)
  obtain ⟨T, hC⟩ := pz_C_of hI
  obtain ⟨Xs0, hX1, hX2⟩ := hI.2.2.2.2.2.2.2
  have b5 : 0 ≤ qz_I h 202 5 ∧ qz_I h 202 5 ≤ 256 := ez_fB (cl := 2) hI.1 t202 tq_48 rfl rfl (by decide)
  obtain ⟨Xs, hXe⟩ : ∃ Xs, Xs = Xs0.filter (fun x => decide (0 ≤ x ∧ x ≤ 1114111)) := ⟨_, rfl⟩
  have hXl : Xs.length ≤ 256 := by have := List.length_filter_le (fun x => decide (0 ≤ x ∧ x ≤ 1114111)) Xs0; rw [hXe]; omega
  have hXr : ∀ x ∈ Xs, 0 ≤ x ∧ x ≤ 1114111 := fun x hx => by rw [hXe, List.mem_filter] at hx; exact of_decide_eq_true hx.2
  have hXs : ∀ x, (F x).2 ≠ none → x ∈ Xs := fun x hx => by
    obtain ⟨q, hq⟩ : ∃ q, (F x).2 = some q := by cases hq : (F x).2 with | none => exact absurd hq hx | some q => exact ⟨q, rfl⟩
    rw [hXe, List.mem_filter]; exact ⟨hX2 x hx, decide_eq_true ((hw x).2 q.1 q.2 hq).2.2.2⟩
  refine ez_cv hI.1 t723 rfl rfl rfl tq_55 rfl rfl rfl (rd_prepare hw hXr hXs hXl hC (fun hSS g hx hp hall => ez_K1 ?_) (fun hSS g hB hp => ez_K1 ?_))
  · skip
    have hB := hx.1.1
    have hI2 := jz_pz hI hB hp
    have cc := hp.1
    refine ez_if rfl rfl ⟨by decide, by decide⟩ (fun _ => ?_) (fun (c1 : ¬((1 : Int) ≠ (0))) => absurd c1 (by decide))
    refine ez_go (n := 1) (pc' := 23) (L' := [(0, .inr (.inr (some (192))))]) (st' := [.inr (.inr (some (192)))]) rfl ?_
    refine ez_gC (p := 202) (tg := 48) hI2.1 t192 rfl rfl tq_44 rfl rfl (fun (t202 : _ = 48) => ?_)
    refine ez_go (n := 1) (pc' := 27) (L' := [(0, .inr (.inr (some (192))))]) (st' := [.inl (1), .inr (.inr (some (202)))]) rfl ?_
    refine ez_pf hI2.1 t202 rfl rfl tq_48 rfl rfl rfl rfl (ez_vdI rfl rfl (by omega) (by omega)) (fun hB2 w3 => ?_)
    refine ez_go (n := 1) (pc' := 31) (L' := [(0, .inr (.inr (some (192))))]) (st' := [.inr (.inr (some (192)))]) rfl ?_
    refine ez_gC (p := 723) (tg := 55) hB2 t192 rfl rfl tq_44 rfl rfl (fun (t723 : _ = 55) => ?_)
    refine ez_gI hB2 t723 rfl rfl tq_55 rfl rfl (fun (b4 : 0 ≤ qz_I (dz_put g 202 6 (ez_v (.inl (1)))) 723 8) (b4' : qz_I (dz_put g 202 6 (ez_v (.inl (1)))) 723 8 ≤ 256) => ?_)
    have sq1 := sq_of hw hx hall
    have e6 : qz_I (dz_put g 202 6 (ez_v (.inl (1)))) 202 6 = 1 := by rw [w3]; rfl
    have ej : ∀ j, j ≠ 6 → qz_I (dz_put g 202 6 (ez_v (.inl (1)))) 202 j = qz_I g 202 j := fun j hj => ez_put_I (fun w => hj w.2)
    exact ez_retI rfl rfl (k1 ho hSS g _ _ hp hI2 sq1 hB2 ((ez_fr.refl (ez_one 202) g).put (show Nat.beq 202 202 = true from rfl) _ _) ej e6)
  · skip
    have hI2 := jz_pz hI hB hp
    have cc := hp.1
    refine ez_if rfl rfl ⟨by decide, by decide⟩ (fun (c5 : (0 : Int) ≠ (0)) => absurd c5 (by decide)) (fun _ => ?_)
    refine ez_th rfl rfl (by omega) (by omega) (by omega) rfl ?_
    exact k0 ho hSS g hI2 hp

end EzSe
/-! The class: reset. (Written by wip/p2/py/pv40.py.) -/
section EzRs
variable {d : Nat} {h : cz_H} {τ : Nat → Nat} {Q : cz_F → Prop} {F : rz_W} {E : Int → Prop}
theorem rd_untold {z : Nat} (hB : ez_B τ h) (tz : τ z = 4) (t206 : τ 206 = 3) (k : ∀ g, ez_B τ g → ez_fr (ez_one z) h g → qz_I g z 0 = 0 → qz_I g z 1 = 207 → qz_I g z 2 = 0 → Q (.inl none, g)) : ez_W d cm_182 0 [(0, .inr (.inr (some (z)))), (1, .inr (.inr (some (206))))] [] h Q := by
  refine ez_go (n := 2) (pc' := 2) (L' := [(0, .inr (.inr (some (z)))), (1, .inr (.inr (some (206))))]) (st' := [.inl (0), .inr (.inr (some (z)))]) rfl ?_
  refine ez_pf hB tz rfl rfl tq_4 rfl rfl rfl rfl (ez_vdI rfl rfl (by omega) (by omega)) (fun hB1 w2 => ?_)
  refine ez_go (n := 2) (pc' := 7) (L' := [(0, .inr (.inr (some (z)))), (1, .inr (.inr (some (206))))]) (st' := [.inr (.inr (some (206))), .inr (.inr (some (z)))]) rfl ?_
  refine ez_pf hB1 tz rfl rfl tq_4 rfl rfl rfl rfl (ez_vdR rfl t206 (by omega) (by omega)) (fun hB3 w4 => ?_)
  refine ez_go (n := 2) (pc' := 12) (L' := [(0, .inr (.inr (some (z)))), (1, .inr (.inr (some (206))))]) (st' := [.inl (0), .inr (.inr (some (z)))]) rfl ?_
  refine ez_pf hB3 tz rfl rfl tq_4 rfl rfl rfl rfl (ez_vdI rfl rfl (by omega) (by omega)) (fun hB5 w6 => ?_)
  refine ez_go (n := 2) (pc' := 17) (L' := [(0, .inr (.inr (some (z)))), (1, .inr (.inr (some (206))))]) (st' := [.inl (0), .inr (.inr (some (z)))]) rfl ?_
  refine ez_pf hB5 tz rfl rfl tq_4 rfl rfl rfl rfl (ez_vdI rfl rfl (by omega) (by omega)) (fun hB7 w8 => ?_)
  refine ez_go (n := 2) (pc' := 22) (L' := [(0, .inr (.inr (some (z)))), (1, .inr (.inr (some (206))))]) (st' := [.inl (0), .inr (.inr (some (z)))]) rfl ?_
  refine ez_pf hB7 tz rfl rfl tq_4 rfl rfl rfl rfl (ez_vdI rfl rfl (by omega) (by omega)) (fun hB9 w10 => ?_)
  refine ez_go (n := 2) (pc' := 27) (L' := [(0, .inr (.inr (some (z)))), (1, .inr (.inr (some (206))))]) (st' := [.inr (.inr none), .inr (.inr (some (z)))]) rfl ?_
  refine ez_pf hB9 tz rfl rfl tq_4 rfl rfl rfl rfl (ez_vdN rfl) (fun hB11 w12 => ?_)
  refine ez_go (n := 2) (pc' := 32) (L' := [(0, .inr (.inr (some (z)))), (1, .inr (.inr (some (206))))]) (st' := [.inr (.inr none), .inr (.inr (some (z)))]) rfl ?_
  refine ez_pf hB11 tz rfl rfl tq_4 rfl rfl rfl rfl (ez_vdN rfl) (fun hB13 w14 => ?_)
  refine ez_go (n := 2) (pc' := 37) (L' := [(0, .inr (.inr (some (z)))), (1, .inr (.inr (some (206))))]) (st' := [.inr (.inr none), .inr (.inr (some (z)))]) rfl ?_
  refine ez_pf hB13 tz rfl rfl tq_4 rfl rfl rfl rfl (ez_vdN rfl) (fun hB15 w16 => ?_)
  refine ez_go (n := 2) (pc' := 42) (L' := [(0, .inr (.inr (some (z)))), (1, .inr (.inr (some (206))))]) (st' := [.inr (.inr none), .inr (.inr (some (z)))]) rfl ?_
  refine ez_pf hB15 tz rfl rfl tq_4 rfl rfl rfl rfl (ez_vdN rfl) (fun hB17 w18 => ?_)
  refine ez_ret0 rfl rfl (k _ hB17 ((((((((((ez_fr.refl (ez_one z) h).put (show Nat.beq z z = true from Nat.beq_refl z) _ _).put (show Nat.beq z z = true from Nat.beq_refl z) _ _).put (show Nat.beq z z = true from Nat.beq_refl z) _ _).put (show Nat.beq z z = true from Nat.beq_refl z) _ _).put (show Nat.beq z z = true from Nat.beq_refl z) _ _).put (show Nat.beq z z = true from Nat.beq_refl z) _ _).put (show Nat.beq z z = true from Nat.beq_refl z) _ _).put (show Nat.beq z z = true from Nat.beq_refl z) _ _).put (show Nat.beq z z = true from Nat.beq_refl z) _ _) ?_ ?_ ?_)
  · rw [ez_put_I (by omega), ez_put_I (by omega), ez_put_I (by omega), ez_put_I (by omega), ez_put_I (by omega), ez_put_I (by omega), ez_put_I (by omega), ez_put_I (by omega), w2]; rfl
  · rw [ez_put_I (by omega), ez_put_I (by omega), ez_put_I (by omega), ez_put_I (by omega), ez_put_I (by omega), ez_put_I (by omega), ez_put_I (by omega), w4]; rfl
  · rw [ez_put_I (by omega), ez_put_I (by omega), ez_put_I (by omega), ez_put_I (by omega), ez_put_I (by omega), ez_put_I (by omega), w6]; rfl

theorem rd_clear (hB : ez_B τ h) (t202 : τ 202 = 48) (t203 : τ 203 = 49) (t206 : τ 206 = 3) (k : ∀ g1 g, ez_B τ g1 → ez_fr (ez_one (sz_p h 0)) h g1 → qz_I g1 (sz_p h 0) 0 = 0 → qz_I g1 (sz_p h 0) 1 = 207 → qz_I g1 (sz_p h 0) 2 = 0 → ez_B τ g → ez_fr (ez_one 202) g1 g → qz_I g 202 1 = 1 → qz_I g 202 4 = 0 → qz_I g 202 5 = 0 → qz_I g 202 6 = 0 → Q (.inl none, g)) : ez_W (d + 1) cm_96 0 [(0, .inr (.inr (some (202))))] [] h Q := by
  refine ez_go (n := 1) (pc' := 1) (L' := [(0, .inr (.inr (some (202))))]) (st' := [.inr (.inr (some (202)))]) rfl ?_
  refine ez_gC (p := 203) (tg := 49) hB t202 rfl rfl tq_48 rfl rfl (fun (t203 : _ = 49) => ?_)
  refine ez_go (n := 1) (pc' := 5) (L' := [(0, .inr (.inr (some (202))))]) (st' := [.inl (0), .inr (.inr (some (203)))]) rfl ?_
  have n2 : 513 ≤ qz_N h 203 ∧ qz_N h 203 ≤ 513 := ez_len hB t203 tq_49 rfl
  have y3 : 1 ≤ qz_I h 203 (0 : Int).toNat ∧ qz_I h 203 (0 : Int).toNat ≤ 1000000 := ez_aB hB t203 tq_49 rfl rfl (by decide) (by omega) (by omega)
  have y3' : ((qz_P h 203 (0 : Int).toNat : Nat) : Int) + 1 = qz_I h 203 (0 : Int).toNat := by unfold qz_P; omega
  refine ez_aR hB t203 rfl tq_49 rfl rfl (by omega) (by omega) (by omega) (fun (t1 : _ = 4) => ?_)
  refine ez_go (n := 1) (pc' := 7) (L' := [(0, .inr (.inr (some (202))))]) (st' := [.inr (.inr (some (202))), .inr (.inr (some (qz_P h 203 (0 : Int).toNat)))]) rfl ?_
  refine ez_gC (p := 206) (tg := 3) hB t202 rfl rfl tq_48 rfl rfl (fun (t206 : _ = 3) => ?_)
  have hzp : qz_P h 203 (0 : Int).toNat = sz_p h 0 := rfl
  have tz : τ (sz_p h 0) = 4 := t1
  refine ez_cv hB t1 rfl rfl rfl tq_4 rfl rfl rfl (rd_untold hB t1 t206 (fun g1 hB1 f1 v0 v1 v2 => ez_K0 ?_))
  rw [hzp] at f1 v0 v1 v2
  have n202 : sz_p h 0 ≠ 202 := fun e => by rw [e, t202] at tz; cases tz
  have n203 : sz_p h 0 ≠ 203 := fun e => by rw [e, t203] at tz; cases tz
  refine ez_go (n := 2) (pc' := 15) (L' := [(0, .inr (.inr (some (202))))]) (st' := [.inl (1), .inr (.inr (some (202)))]) rfl ?_
  refine ez_pf hB1 t202 rfl rfl tq_48 rfl rfl rfl rfl (ez_vdI rfl rfl (by omega) (by omega)) (fun hB4 w5 => ?_)
  refine ez_go (n := 2) (pc' := 20) (L' := [(0, .inr (.inr (some (202))))]) (st' := [.inl (0), .inr (.inr (some (202)))]) rfl ?_
  refine ez_pf hB4 t202 rfl rfl tq_48 rfl rfl rfl rfl (ez_vdI rfl rfl (by omega) (by omega)) (fun hB6 w7 => ?_)
  refine ez_go (n := 2) (pc' := 25) (L' := [(0, .inr (.inr (some (202))))]) (st' := [.inl (0), .inr (.inr (some (202)))]) rfl ?_
  refine ez_pf hB6 t202 rfl rfl tq_48 rfl rfl rfl rfl (ez_vdI rfl rfl (by omega) (by omega)) (fun hB8 w9 => ?_)
  refine ez_go (n := 2) (pc' := 30) (L' := [(0, .inr (.inr (some (202))))]) (st' := [.inl (0), .inr (.inr (some (202)))]) rfl ?_
  refine ez_pf hB8 t202 rfl rfl tq_48 rfl rfl rfl rfl (ez_vdI rfl rfl (by omega) (by omega)) (fun hB10 w11 => ?_)
  refine ez_ret0 rfl rfl (k g1 _ hB1 f1 v0 v1 v2 hB10 (((((ez_fr.refl (ez_one 202) g1).put (show Nat.beq 202 202 = true from rfl) _ _).put (show Nat.beq 202 202 = true from rfl) _ _).put (show Nat.beq 202 202 = true from rfl) _ _).put (show Nat.beq 202 202 = true from rfl) _ _) ?_ ?_ ?_ ?_)
  · rw [ez_put_I (by omega), ez_put_I (by omega), ez_put_I (by omega), w5]; rfl
  · rw [ez_put_I (by omega), ez_put_I (by omega), w7]; rfl
  · rw [ez_put_I (by omega), w9]; rfl
  · rw [w11]; rfl

/-- nothing is told -/
theorem jz_clear {g1 g : cz_H} (hI : jz_I τ h F E) (hu2 : qz_I h 206 2 = 0) (hu3 : qz_I h 206 3 = 0) (f1 : ez_fr (ez_one (sz_p h 0)) h g1) (v0 : qz_I g1 (sz_p h 0) 0 = 0) (v1 : qz_I g1 (sz_p h 0) 1 = 207) (v2 : qz_I g1 (sz_p h 0) 2 = 0) (hB : ez_B τ g) (f2 : ez_fr (ez_one 202) g1 g) (e1 : qz_I g 202 1 = 1) (e4 : qz_I g 202 4 = 0) (e5 : qz_I g 202 5 = 0) : jz_I τ g (fun _ => (0, none)) (fun _ => False) := by
  obtain ⟨i1, i2, ⟨i3, i4⟩, i5, i6, i7, i8, i9⟩ := hI
  have t202 : τ 202 = 48 := i2 202 (by decide)
  have t203 : τ 203 = 49 := i2 203 (by decide)
  have tz : τ (sz_p h 0) = 4 := sz_tag i1 t203 (Int.le_refl 0) (by omega)
  have fr : ∀ q, q ≠ sz_p h 0 → q ≠ 202 → g.2.2 q = h.2.2 q := fun q h1 h2 => (f2.2.2 q (dz_beq_ne h2)).trans (f1.2.2 q (dz_beq_ne h1))
  have n : ∀ {q t}, τ q = t → t ≠ 4 → q ≠ sz_p h 0 := fun {q t} hq hh e => by rw [e, tz] at hq; exact hh hq.symm
  have e203 := fr 203 (n t203 (by decide)) (by decide)
  have hp : ∀ k, sz_p g k = sz_p h k := fun k => by unfold sz_p qz_P qz_I; rw [e203]
  have n2 : sz_p h 0 ≠ 202 := fun e => by rw [e, t202] at tz; cases tz
  have z : ∀ j, qz_I g (sz_p h 0) j = qz_I g1 (sz_p h 0) j := fun j => f2.I (dz_beq_ne n2) j
  have e206 : ∀ j, qz_I g 206 j = qz_I h 206 j := fun j => by unfold qz_I; rw [fr 206 (n (i2 206 (by decide)) (by decide)) (by decide)]
  refine ⟨hB, i2, ⟨⟨?_, fun i j i0 ij jn => by omega⟩, fun i j a b c dd e => i4 i j a b c dd (by rw [hp, hp] at e; exact e)⟩, fun i hi => by omega, by omega, fun s l hl => ?_, fun x k x0 x1 hk => ?_, [], by rw [e5]; exact Int.le_refl _, fun x hx => absurd rfl hx⟩
  · unfold sz_f; rw [hp, z]; exact v0
  · obtain ⟨y1, y2, y3⟩ := i7 s l hl
    obtain ⟨z1, z2⟩ := nz_hz i1 i2 s l hl
    have q1 := fr s (n z1 (by decide)) (by omega)
    have q2 := fr _ (n z2 (by decide)) (by omega)
    have q3 : qz_P g s 0 = qz_P h s 0 := by unfold qz_P qz_I; rw [q1]
    refine ⟨?_, y2, by rw [q3]; exact y3⟩
    unfold nz_S at *
    rw [q3]
    unfold qz_N qz_I at *
    rw [q2]
    exact y1
  · have k0 : k = 0 := by have := hk.1; have := hk.2.1; omega
    subst k0
    have hfp : sz_fp g 0 = 206 := by unfold sz_fp qz_P; rw [hp, z, v1]; rfl
    rw [hfp]
    refine ⟨⟨(e206 2).trans hu2, (e206 3).trans hu3, fun w => absurd rfl w⟩, ?_⟩
    rw [hp, z, v2]
    exact ⟨fun w => absurd rfl w, fun w => w.elim⟩
def sz_P1 (τ : Nat → Nat) (z : Nat) : Bool := Nat.beq (τ z) 1
theorem rd_reset_l {bf : Int} (t192 : τ 192 = 44) (k : ∀ g, jz_I τ g F E → ez_fr (sz_P1 τ) h g → Q (.inl (some (ez_v (.inl bf))), g)) : ∀ (m : Nat) (t : Int) (g : cz_H), m = (8 - t).toNat → 0 ≤ t → t ≤ 8 → jz_I τ g F E → ez_fr (sz_P1 τ) h g → ez_W d cm_36 25 [(2, .inl (t)), (1, .inl (bf)), (0, .inr (.inr (some (192))))] [] g Q := by
  intro m
  induction m with
  | zero =>
    intro t g hm a1 a2 hI hf
    refine ez_go (n := 2) (pc' := 28) (L' := [(2, .inl (t)), (1, .inl (bf)), (0, .inr (.inr (some (192))))]) (st' := [.inl (8), .inl (t)]) rfl ?_
    refine ez_icmp rfl rfl ⟨by first | omega | exact (sz_i32 _).1, by first | omega | exact (sz_i32 _).2⟩ ⟨by first | omega | exact (sz_i32 _).1, by first | omega | exact (sz_i32 _).2⟩ (fun (c1 : (8) ≤ (t)) => ?_) (fun (c1 : ¬((8) ≤ (t))) => ?_)
    · skip
      refine ez_go (n := 1) (pc' := 48) (L' := [(2, .inl (t)), (1, .inl (bf)), (0, .inr (.inr (some (192))))]) (st' := [.inl (bf)]) rfl ?_
      exact ez_retI rfl rfl (k g hI hf)
    · exfalso; omega
  | succ m ih =>
    intro t g hm a1 a2 hI hf
    refine ez_go (n := 2) (pc' := 28) (L' := [(2, .inl (t)), (1, .inl (bf)), (0, .inr (.inr (some (192))))]) (st' := [.inl (8), .inl (t)]) rfl ?_
    refine ez_icmp rfl rfl ⟨by first | omega | exact (sz_i32 _).1, by first | omega | exact (sz_i32 _).2⟩ ⟨by first | omega | exact (sz_i32 _).1, by first | omega | exact (sz_i32 _).2⟩ (fun (c1 : (8) ≤ (t)) => ?_) (fun (c1 : ¬((8) ≤ (t))) => ?_)
    · exfalso; omega
    · skip
      refine ez_go (n := 1) (pc' := 32) (L' := [(2, .inl (t)), (1, .inl (bf)), (0, .inr (.inr (some (192))))]) (st' := [.inr (.inr (some (192)))]) rfl ?_
      refine ez_gC (p := 195) (tg := 47) hI.1 t192 rfl rfl tq_44 rfl rfl (fun (t195 : _ = 47) => ?_)
      refine ez_go (n := 1) (pc' := 36) (L' := [(2, .inl (t)), (1, .inl (bf)), (0, .inr (.inr (some (192))))]) (st' := [.inl (t), .inr (.inr (some (195)))]) rfl ?_
      have n3 : 8 ≤ qz_N g 195 ∧ qz_N g 195 ≤ 8 := ez_len hI.1 t195 tq_47 rfl
      have y4 : 1 ≤ qz_I g 195 (t).toNat ∧ qz_I g 195 (t).toNat ≤ 1000000 := ez_aB hI.1 t195 tq_47 rfl rfl (by decide) (by omega) (by omega)
      have y4' : ((qz_P g 195 (t).toNat : Nat) : Int) + 1 = qz_I g 195 (t).toNat := by unfold qz_P; omega
      refine ez_aR hI.1 t195 rfl tq_47 rfl rfl (by omega) (by omega) (by omega) (fun (t2 : _ = 1) => ?_)
      refine ez_go (n := 1) (pc' := 38) (L' := [(2, .inl (t)), (1, .inl (bf)), (0, .inr (.inr (some (192))))]) (st' := [.inl (0), .inr (.inr (some (qz_P g 195 (t).toNat)))]) rfl ?_
      refine ez_pf hI.1 t2 rfl rfl tq_1 rfl rfl rfl rfl (ez_vdI rfl rfl (by omega) (by omega)) (fun hB5 w6 => ?_)
      refine ez_go (n := 2) (pc' := 25) (L' := [(2, .inl (t + 1)), (1, .inl (bf)), (0, .inr (.inr (some (192))))]) (st' := []) rfl ?_
      refine ez_less [(2, .inl (t + 1)), (1, .inl (bf)), (0, .inr (.inr (some (192))))] rfl ⟨rfl, rfl, rfl, trivial⟩ ?_
      have tz1 : τ (qz_P g 195 (t).toNat) = 1 := t2
      refine ih _ _ (by omega) (by omega) (by omega) (jz_put hI hB5 (fun e => by rw [e, hI.2.1 202 (by decide)] at tz1; cases tz1) (fun e => by rw [e, hI.2.1 203 (by decide)] at tz1; cases tz1) (fun e => by rw [e, hI.2.1 205 (by decide)] at tz1; cases tz1) (by rw [tz1]; decide)) (hf.put (show Nat.beq (τ (qz_P g 195 (t).toNat)) 1 = true by rw [tz1]; rfl) _ _)
theorem rd_reset (hI : jz_I τ h F E) (hu2 : qz_I h 206 2 = 0) (hu3 : qz_I h 206 3 = 0) (k : ∀ bf g1 g2 g, ez_fr (ez_one (sz_p h 0)) h g1 → ez_fr (ez_one 202) g1 g2 → jz_I τ g (fun _ => (0, none)) (fun _ => False) → ez_fr (sz_P1 τ) g2 g → qz_I g2 202 1 = 1 → qz_I g2 202 4 = 0 → qz_I g2 202 5 = 0 → qz_I g2 202 6 = 0 → Q (.inl (some (ez_v (.inl bf))), g)) : ez_W (d + 2) cm_36 0 [(0, .inr (.inr (some (192))))] [] h Q := by
  have t192 : τ 192 = 44 := hI.2.1 192 (by decide)
  refine ez_go (n := 1) (pc' := 1) (L' := [(0, .inr (.inr (some (192))))]) (st' := [.inr (.inr (some (192)))]) rfl ?_
  refine ez_gC (p := 202) (tg := 48) hI.1 t192 rfl rfl tq_44 rfl rfl (fun (t202 : _ = 48) => ?_)
  refine ez_gI hI.1 t202 rfl rfl tq_48 rfl rfl (fun (b1 : 0 ≤ qz_I h 202 6) (b1' : qz_I h 202 6 ≤ 1) => ?_)
  refine ez_if rfl rfl ⟨by first | omega | exact (sz_i32 _).1, by first | omega | exact (sz_i32 _).2⟩ (fun (c2 : (qz_I h 202 6) = (0)) => ?_) (fun (c2 : ¬((qz_I h 202 6) = (0))) => ?_)
  · skip
    refine ez_go (n := 3) (pc' := 17) (L' := [(1, .inl (0)), (0, .inr (.inr (some (192))))]) (st' := [.inr (.inr (some (192)))]) rfl ?_
    refine ez_gC (p := 202) (tg := 48) hI.1 t192 rfl rfl tq_44 rfl rfl (fun (t202 : _ = 48) => ?_)
    refine ez_cv hI.1 t202 rfl rfl rfl tq_48 rfl rfl rfl (rd_clear hI.1 t202 (hI.2.1 203 (by decide)) (hI.2.1 206 (by decide)) (fun g1 g hB1 f1 v0 v1 v2 hB2 f2 e1 e4 e5 e6 => ez_K0 ?_))
    have hI2 := jz_clear hI hu2 hu3 f1 v0 v1 v2 hB2 f2 e1 e4 e5
    refine ez_go (n := 2) (pc' := 25) (L' := [(2, .inl (0)), (1, .inl (0)), (0, .inr (.inr (some (192))))]) (st' := []) rfl ?_
    refine ez_less [(2, .inl (0)), (1, .inl (0)), (0, .inr (.inr (some (192))))] rfl ⟨rfl, rfl, rfl, trivial⟩ ?_
    exact rd_reset_l (h := g) t192 (fun g3 hI3 f3 => k _ g1 g g3 f1 f2 hI3 f3 e1 e4 e5 e6) _ 0 g rfl (by omega) (by omega) hI2 (ez_fr.refl _ _)
  · skip
    refine ez_go (n := 4) (pc' := 17) (L' := [(1, .inl (1)), (0, .inr (.inr (some (192))))]) (st' := [.inr (.inr (some (192)))]) rfl ?_
    refine ez_gC (p := 202) (tg := 48) hI.1 t192 rfl rfl tq_44 rfl rfl (fun (t202 : _ = 48) => ?_)
    refine ez_cv hI.1 t202 rfl rfl rfl tq_48 rfl rfl rfl (rd_clear hI.1 t202 (hI.2.1 203 (by decide)) (hI.2.1 206 (by decide)) (fun g1 g hB1 f1 v0 v1 v2 hB2 f2 e1 e4 e5 e6 => ez_K0 ?_))
    have hI2 := jz_clear hI hu2 hu3 f1 v0 v1 v2 hB2 f2 e1 e4 e5
    refine ez_go (n := 2) (pc' := 25) (L' := [(2, .inl (0)), (1, .inl (1)), (0, .inr (.inr (some (192))))]) (st' := []) rfl ?_
    refine ez_less [(2, .inl (0)), (1, .inl (1)), (0, .inr (.inr (some (192))))] rfl ⟨rfl, rfl, rfl, trivial⟩ ?_
    exact rd_reset_l (h := g) t192 (fun g3 hI3 f3 => k _ g1 g g3 f1 f2 hI3 f3 e1 e4 e5 e6) _ 0 g rfl (by omega) (by omega) hI2 (ez_fr.refl _ _)

end EzRs
