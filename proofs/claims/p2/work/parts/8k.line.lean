/-! The class: line, seal. (Written by wip/p2/py/pv38.py.) -/
/-- what is thrown lies in a cell of its own, without a tag -/
def xc (h : cz_H) (k : Nat) : cz_H := cz_push h 6 (.inr (.inr k))
theorem xc_at {h : cz_H} {k q : Nat} (hq : q ≠ h.1) : (xc h k).2.2 q = h.2.2 q := by
  unfold xc
  show (if q = h.1 then _ else _) = _
  rw [if_neg hq]
theorem xc_exc {τ : Nat → Nat} {h : cz_H} {k : Nat} (hB : ez_B τ h) (hk : Nat.blt k 5 = true) : cz_exc (xc h k) h.1 = some k := by
  have h1 : (xc h k).2.2 h.1 = .inr (.inr k) := by
    unfold xc
    show (if h.1 = h.1 then _ else _) = _
    rw [if_pos rfl]
  have h2 : cz_hereB (xc h k) h.1 = true := by
    unfold cz_hereB
    rw [Bool.and_eq_true, Bool.or_eq_true]
    refine ⟨Nat.blt_eq.mpr (show h.1 < h.1 + 1 by omega), Or.inl (Nat.ble_eq.mpr hB.2.2)⟩
  unfold cz_exc
  rw [h2, h1]
  show (bif k.blt 5 then some k else none) = _
  rw [hk]
  rfl
theorem xc_B {τ : Nat → Nat} {h : cz_H} {k : Nat} (hB : ez_B τ h) (h1 : h.1 + 1 ≤ 600192) (h2 : h.2.1 + 6 ≤ 7302232) : ez_B τ (xc h k) := by
  refine ⟨fun q hq => ?_, (ez_roomp h1 h2).2, Nat.le_succ_of_le hB.2.2⟩
  obtain ⟨a1, ti, a2, a3, a4, a5⟩ := hB.1 q hq
  have hne : q ≠ h.1 := fun e => by have := dz_here_lt a1; omega
  have e := xc_at (k := k) hne
  refine ⟨?_, ti, a2, by rw [e]; exact a3, a4, fun i v hv => a5 i v (by rw [e] at hv; exact hv)⟩
  unfold cz_hereB at a1 ⊢
  rw [Bool.and_eq_true] at a1 ⊢
  exact ⟨Nat.blt_eq.mpr (Nat.lt_succ_of_lt (Nat.blt_eq.mp a1.1)), a1.2⟩
theorem xc_t {τ : Nat → Nat} {h : cz_H} {k : Nat} (hB : ez_B τ h) {q : Nat} (hq : τ q ≠ 0) : (xc h k).2.2 q = h.2.2 q := xc_at (fun e => by have := dz_here_lt (hB.1 q hq).1; omega)
theorem xc_xt {τ : Nat → Nat} {h : cz_H} {k : Nat} (hB : ez_B τ h) : ez_xt τ h τ (xc h k) 1 6 := ⟨fun q hq => ⟨rfl, xc_t hB hq⟩, ⟨Nat.le_succ _, Nat.le_refl _⟩, Nat.le_add_right _ _, Nat.le_refl _⟩
theorem jz_xc {τ : Nat → Nat} {h : cz_H} {k : Nat} {F : rz_W} {E : Int → Prop} (hI : jz_I τ h F E) (h1 : h.1 + 1 ≤ 600192) (h2 : h.2.1 + 6 ≤ 7302232) : jz_I τ (xc h k) F E := by
  have x := xc_xt (k := k) hI.1
  exact jz_no hI (xc_B hI.1 h1 h2) (fz_xt x) (fun j => x.I (by rw [hI.2.1 202 (by decide)]; decide) j) (x.1 203 (by rw [hI.2.1 203 (by decide)]; decide)).2 (x.1 205 (by rw [hI.2.1 205 (by decide)]; decide)).2 (fun q hq => (x.1 q (by rw [hq]; decide)).2)
/-- the same behind a write that is none of its business -/
theorem jz_put {τ : Nat → Nat} {h : cz_H} {r i : Nat} {v : cz_V} {F : rz_W} {E : Int → Prop} (hI : jz_I τ h F E) (hB : ez_B τ (dz_put h r i v)) (hr : r ≠ 202) (h3 : r ≠ 203) (h5 : r ≠ 205) (ht : τ r ≠ 3 ∧ τ r ≠ 4 ∧ τ r ≠ 5 ∧ τ r ≠ 27 ∧ τ r ≠ 28) : jz_I τ (dz_put h r i v) F E := by
  obtain ⟨i1, i2, ⟨i3, i4⟩, i5, i6, i7, i8, Xs, i9, i10⟩ := hI
  have t202 : τ 202 = 48 := i2 202 (by decide)
  have t203 : τ 203 = 49 := i2 203 (by decide)
  have fr : ∀ q, q ≠ r → (dz_put h r i v).2.2 q = h.2.2 q := fun q hq => qz_put_at h r i v hq
  have n : ∀ {q t}, τ q = t → t = 3 ∨ t = 4 ∨ t = 5 ∨ t = 27 ∨ t = 28 → q ≠ r := fun {q t} hq hh e => by rw [e] at hq; omega
  have e202 : ∀ j, qz_I (dz_put h r i v) 202 j = qz_I h 202 j := fun j => by unfold qz_I; rw [fr 202 (Ne.symm hr)]
  have e4 : ∀ q, τ q = 4 → (dz_put h r i v).2.2 q = h.2.2 q := fun q hq => fr q (n hq (by omega))
  obtain ⟨o1, o2⟩ := sz_pe_ok i1 t203 t202 (e202 1) (fr 203 (Ne.symm h3)) e4 i3 i4
  refine ⟨hB, i2, ⟨o1, o2⟩, fun j hj => ?_, by rw [e202, e202]; exact i6, fun s l hl => ?_, ?_, Xs, by rw [e202]; exact i9, i10⟩
  · rw [e202] at hj; unfold qz_I; rw [fr 205 (Ne.symm h5)]; exact i5 j hj
  · obtain ⟨y1, y2, y3⟩ := i7 s l hl
    obtain ⟨z1, z2⟩ := nz_hz i1 i2 s l hl
    have e1 := fr s (n z1 (by omega))
    have e2 := fr _ (n z2 (by omega))
    have e3 : qz_P (dz_put h r i v) s 0 = qz_P h s 0 := by unfold qz_P qz_I; rw [e1]
    refine ⟨?_, y2, by rw [e3]; exact y3⟩
    unfold nz_S at *
    rw [e3]
    unfold qz_N qz_I at *
    rw [e2]
    exact y1
  · refine sz_D_tr i1 t202 t203 i8 (e202 1) (fr 203 (Ne.symm h3)) e4 (fun q hq => ?_) (fun p hp => ⟨hp, fr p (n hp (by omega))⟩)
    unfold qz_I; rw [fr q (n hq (by omega))]; exact ⟨rfl, rfl, rfl, rfl⟩
section EzLn
variable {d : Nat} {h : cz_H} {τ : Nat → Nat} {Q : cz_F → Prop} {F : rz_W} {E : Int → Prop}
theorem rd_reqRange {v lo hi : Int} (v0 : ez_rg v) (l0 : ez_rg lo) (h0 : ez_rg hi) (hr1 : h.1 + 1 ≤ 600192) (hr2 : h.2.1 + 6 ≤ 7302232) (k1 : lo ≤ v → v ≤ hi → Q (.inl none, h)) (k0 : v < lo ∨ hi < v → Q (.inr h.1, xc h 1)) : ez_W (d + 6) cm_32 0 [(0, .inl (v)), (1, .inl (lo)), (2, .inl (hi))] [] h Q := by
  have v1 := v0.1
  have v2 := v0.2
  have l1 := l0.1
  have l2 := l0.2
  have h1 := h0.1
  have h2 := h0.2
  refine ez_go (n := 2) (pc' := 2) (L' := [(0, .inl (v)), (1, .inl (lo)), (2, .inl (hi))]) (st' := [.inl (lo), .inl (v)]) rfl ?_
  refine ez_icmp rfl rfl ⟨by first | omega | exact (sz_i32 _).1, by first | omega | exact (sz_i32 _).2⟩ ⟨by first | omega | exact (sz_i32 _).1, by first | omega | exact (sz_i32 _).2⟩ (fun (c1 : (v) < (lo)) => ?_) (fun (c1 : ¬((v) < (lo))) => ?_)
  · skip
    exact ez_th rfl rfl (by omega) (by omega) (by omega) rfl (k0 (by omega))
  · skip
    refine ez_go (n := 2) (pc' := 7) (L' := [(0, .inl (v)), (1, .inl (lo)), (2, .inl (hi))]) (st' := [.inl (hi), .inl (v)]) rfl ?_
    refine ez_icmp rfl rfl ⟨by first | omega | exact (sz_i32 _).1, by first | omega | exact (sz_i32 _).2⟩ ⟨by first | omega | exact (sz_i32 _).1, by first | omega | exact (sz_i32 _).2⟩ (fun (c2 : (v) ≤ (hi)) => ?_) (fun (c2 : ¬((v) ≤ (hi))) => ?_)
    · skip
      exact ez_ret0 rfl rfl (k1 (by omega) (by omega))
    · skip
      exact ez_th rfl rfl (by omega) (by omega) (by omega) rfl (k0 (by omega))

theorem rd_reqOpen (hB : ez_B τ h) (t192 : τ 192 = 44) (hr1 : h.1 + 1 ≤ 600192) (hr2 : h.2.1 + 6 ≤ 7302232) (k1 : qz_I h 202 6 = 0 → Q (.inl none, h)) (k0 : qz_I h 202 6 ≠ 0 → Q (.inr h.1, xc h 2)) : ez_W (d + 6) cm_30 0 [(0, .inr (.inr (some (192))))] [] h Q := by
  refine ez_go (n := 1) (pc' := 1) (L' := [(0, .inr (.inr (some (192))))]) (st' := [.inr (.inr (some (192)))]) rfl ?_
  refine ez_gC (p := 202) (tg := 48) hB t192 rfl rfl tq_44 rfl rfl (fun (t202 : _ = 48) => ?_)
  refine ez_gI hB t202 rfl rfl tq_48 rfl rfl (fun (b1 : 0 ≤ qz_I h 202 6) (b1' : qz_I h 202 6 ≤ 1) => ?_)
  refine ez_if rfl rfl ⟨by first | omega | exact (sz_i32 _).1, by first | omega | exact (sz_i32 _).2⟩ (fun (c2 : (qz_I h 202 6) = (0)) => ?_) (fun (c2 : ¬((qz_I h 202 6) = (0))) => ?_)
  · skip
    exact ez_ret0 rfl rfl (k1 (by omega))
  · skip
    exact ez_th rfl rfl (by omega) (by omega) (by omega) rfl (k0 (by omega))

theorem rd_line0 (hI : jz_I τ h F E) (hl : qz_I h 192 1 = 0 ∨ qz_I h 202 5 ≤ 255) (hr1 : h.1 + 5 ≤ 600192) (hr2 : h.2.1 + 65 ≤ 7302232) (kS : qz_I h 202 6 ≠ 0 → Q (.inr h.1, xc h 2)) (kC : qz_I h 202 6 = 0 → ∀ g τ1 F2 E2, jz_I τ1 g F2 E2 → fz τ (dz_put h 192 1 (ez_v (.inl 0))) τ1 g 5 65 → rz_step (rz_b h) (qz_I h 192 1) 0 F E F2 E2 → qz_I g 192 1 = 0 → (∀ j, j ≠ 1 → qz_I g 192 j = qz_I h 192 j) → (qz_I g 202 5 = qz_I h 202 5 ∨ (qz_I g 202 5 = qz_I h 202 5 + 1 ∧ 0 < qz_I h 192 1)) → (∀ j, j ≠ 1 → j ≠ 4 → j ≠ 5 → qz_I g 202 j = qz_I h 202 j) → ∀ o, ((∃ v, o = .inl (some (ez_v (.inl v)))) ∨ (∃ r, o = .inr r ∧ cz_exc g r = some 3)) → Q (o, g)) : ez_W (d + 9) cm_21 0 [(0, .inr (.inr (some (192)))), (1, .inl (0))] [] h Q := by
  have t192 : τ 192 = 44 := hI.2.1 192 (by decide)
  refine ez_go (n := 3) (pc' := 3) (L' := [(0, .inr (.inr (some (192)))), (1, .inl (0))]) (st' := [.inl (4), .inl (0), .inl (0)]) rfl ?_
  refine ez_cs hI.1.2.1 rfl rfl rfl rfl rfl (rd_reqRange ⟨by decide, by decide⟩ ⟨by decide, by decide⟩ ⟨by decide, by decide⟩ (by omega) (by omega) (fun _ _ => ez_K0 ?_) (fun w => by omega))
  refine ez_go (n := 1) (pc' := 7) (L' := [(0, .inr (.inr (some (192)))), (1, .inl (0))]) (st' := [.inr (.inr (some (192)))]) rfl ?_
  refine ez_cv hI.1 t192 rfl rfl rfl tq_44 rfl rfl rfl (rd_reqOpen hI.1 t192 (by omega) (by omega) (fun ho => ez_K0 ?_) (fun ho => ez_Kp (xc_exc hI.1 rfl) rfl (kS ho)))
  refine ez_go (n := 1) (pc' := 11) (L' := [(0, .inr (.inr (some (192)))), (1, .inl (0))]) (st' := [.inr (.inr (some (192)))]) rfl ?_
  refine ez_gI hI.1 t192 rfl rfl tq_44 rfl rfl (fun (b1 : 0 ≤ qz_I h 192 1) (b1' : qz_I h 192 1 ≤ 4096) => ?_)
  refine ez_go (n := 3) (pc' := 17) (L' := [(2, .inl (qz_I h 192 1)), (0, .inr (.inr (some (192)))), (1, .inl (0))]) (st' := [.inl (0), .inr (.inr (some (192)))]) rfl ?_
  refine ez_pf hI.1 t192 rfl rfl tq_44 rfl rfl rfl rfl (ez_vdI rfl rfl (by omega) (by omega)) (fun hB2 w3 => ?_)
  refine ez_go (n := 1) (pc' := 21) (L' := [(2, .inl (qz_I h 192 1)), (0, .inr (.inr (some (192)))), (1, .inl (0))]) (st' := [.inr (.inr (some (192)))]) rfl ?_
  refine ez_gC (p := 720) (tg := 52) hB2 t192 rfl rfl tq_44 rfl rfl (fun (t720 : _ = 52) => ?_)
  refine ez_go (n := 2) (pc' := 26) (L' := [(2, .inl (qz_I h 192 1)), (0, .inr (.inr (some (192)))), (1, .inl (0))]) (st' := [.inl (qz_I h 192 1), .inl (0), .inr (.inr (some (720)))]) rfl ?_
  have hI1 : jz_I τ (dz_put h 192 1 (ez_v (.inl (0)))) F E := jz_put hI hB2 (by decide) (by decide) (by decide) (by rw [t192]; decide)
  have q202 : ∀ j, qz_I (dz_put h 192 1 (ez_v (.inl (0)))) 202 j = qz_I h 202 j := fun j => ez_put_I (by omega)
  have b1 : rz_b (dz_put h 192 1 (ez_v (.inl (0)))) = rz_b h := funext fun i => ez_put_I (by omega)
  have z1 : qz_I (dz_put h 192 1 (ez_v (.inl (0)))) 192 1 = 0 := by rw [w3]; rfl
  have zj : ∀ j, j ≠ 1 → qz_I (dz_put h 192 1 (ez_v (.inl (0)))) 192 j = qz_I h 192 j := fun j hj => ez_put_I (fun w => hj w.2)
  have c1 : ((dz_put h 192 1 (ez_v (.inl (0))))).1 = h.1 := rfl
  have c2 : ((dz_put h 192 1 (ez_v (.inl (0))))).2.1 = h.2.1 := rfl
  have kk := kC ho
  generalize (dz_put h 192 1 (ez_v (.inl (0)))) = h1 at *
  refine ez_cv hI1.1 t720 rfl rfl rfl tq_52 rfl rfl rfl (rd_take0 hI1 (by omega) (by omega) (by rw [q202]; exact hl) (by omega) (by omega) (fun g τ1 F2 E2 v hI2 x st hv ho2 => ez_K1 ?_))
  rw [b1] at st
  have u192 : τ1 192 = 44 := hI2.2.1 192 (by decide)
  have xc2 := x.2
  have q5 := q202 5
  have a192 : ∀ j, qz_I g 192 j = qz_I h1 192 j := fun j => by unfold qz_I; rw [(x.1 192 (by rw [t192]; decide)).2 (by rw [t192]; rfl)]
  refine ez_go (n := 3) (pc' := 32) (L' := [(3, .inl (v)), (2, .inl (qz_I h 192 1)), (0, .inr (.inr (some (192)))), (1, .inl (0))]) (st' := [.inl (-1), .inl (v)]) rfl ?_
  refine ez_icmp rfl rfl ⟨by first | omega | exact (sz_i32 _).1, by first | omega | exact (sz_i32 _).2⟩ ⟨by first | omega | exact (sz_i32 _).1, by first | omega | exact (sz_i32 _).2⟩ (fun (c4 : (v) ≠ (-1)) => ?_) (fun (c4 : ¬((v) ≠ (-1))) => ?_)
  · skip
    refine ez_go (n := 1) (pc' := 44) (L' := [(3, .inl (v)), (2, .inl (qz_I h 192 1)), (0, .inr (.inr (some (192)))), (1, .inl (0))]) (st' := [.inl (v)]) rfl ?_
    exact ez_retI rfl rfl (kk g τ1 F2 E2 hI2 (x.mono (by omega) (by omega)) st ((a192 1).trans z1) (fun j hj => (a192 j).trans (zj j hj)) (by omega) (fun j j1 j4 j5 => by rw [ho2 j j1 j4 j5, q202]) _ (Or.inl ⟨v, rfl⟩))
  · skip
    refine ez_th rfl rfl (by omega) (by omega) (by omega) rfl ?_
    exact kk (xc g 3) τ1 F2 E2 (jz_xc hI2 (by omega) (by omega)) ((x.trans (fz_xt (xc_xt hI2.1))).mono (by omega) (by omega)) st ((xc_xt hI2.1).I (by rw [u192]; decide) 1 |>.trans ((a192 1).trans z1)) (fun j hj => ((xc_xt hI2.1).I (by rw [u192]; decide) j).trans ((a192 j).trans (zj j hj))) (Or.inl (by rw [(xc_xt hI2.1).I (by rw [hI2.2.1 202 (by decide)]; decide)]; omega)) (fun j j1 j4 j5 => by rw [(xc_xt hI2.1).I (by rw [hI2.2.1 202 (by decide)]; decide), ho2 j j1 j4 j5, q202]) _ (Or.inr ⟨g.1, rfl, xc_exc hI2.1 rfl⟩)

theorem rd_line1 (hI : jz_I τ h F E) (hl : qz_I h 192 1 = 0 ∨ qz_I h 202 5 ≤ 255) (hr1 : h.1 + 5 ≤ 600192) (hr2 : h.2.1 + 65 ≤ 7302232) (kS : qz_I h 202 6 ≠ 0 → Q (.inr h.1, xc h 2)) (kC : qz_I h 202 6 = 0 → ∀ g τ1 F2 E2, jz_I τ1 g F2 E2 → fz τ (dz_put h 192 1 (ez_v (.inl 0))) τ1 g 5 65 → rz_step (rz_b h) (qz_I h 192 1) 1 F E F2 E2 → qz_I g 192 1 = 0 → (∀ j, j ≠ 1 → qz_I g 192 j = qz_I h 192 j) → (qz_I g 202 5 = qz_I h 202 5 ∨ (qz_I g 202 5 = qz_I h 202 5 + 1 ∧ 0 < qz_I h 192 1)) → (∀ j, j ≠ 1 → j ≠ 4 → j ≠ 5 → qz_I g 202 j = qz_I h 202 j) → ∀ o, ((∃ v, o = .inl (some (ez_v (.inl v)))) ∨ (∃ r, o = .inr r ∧ cz_exc g r = some 3)) → Q (o, g)) : ez_W (d + 9) cm_21 0 [(0, .inr (.inr (some (192)))), (1, .inl (1))] [] h Q := by
  have t192 : τ 192 = 44 := hI.2.1 192 (by decide)
  refine ez_go (n := 3) (pc' := 3) (L' := [(0, .inr (.inr (some (192)))), (1, .inl (1))]) (st' := [.inl (4), .inl (0), .inl (1)]) rfl ?_
  refine ez_cs hI.1.2.1 rfl rfl rfl rfl rfl (rd_reqRange ⟨by decide, by decide⟩ ⟨by decide, by decide⟩ ⟨by decide, by decide⟩ (by omega) (by omega) (fun _ _ => ez_K0 ?_) (fun w => by omega))
  refine ez_go (n := 1) (pc' := 7) (L' := [(0, .inr (.inr (some (192)))), (1, .inl (1))]) (st' := [.inr (.inr (some (192)))]) rfl ?_
  refine ez_cv hI.1 t192 rfl rfl rfl tq_44 rfl rfl rfl (rd_reqOpen hI.1 t192 (by omega) (by omega) (fun ho => ez_K0 ?_) (fun ho => ez_Kp (xc_exc hI.1 rfl) rfl (kS ho)))
  refine ez_go (n := 1) (pc' := 11) (L' := [(0, .inr (.inr (some (192)))), (1, .inl (1))]) (st' := [.inr (.inr (some (192)))]) rfl ?_
  refine ez_gI hI.1 t192 rfl rfl tq_44 rfl rfl (fun (b1 : 0 ≤ qz_I h 192 1) (b1' : qz_I h 192 1 ≤ 4096) => ?_)
  refine ez_go (n := 3) (pc' := 17) (L' := [(2, .inl (qz_I h 192 1)), (0, .inr (.inr (some (192)))), (1, .inl (1))]) (st' := [.inl (0), .inr (.inr (some (192)))]) rfl ?_
  refine ez_pf hI.1 t192 rfl rfl tq_44 rfl rfl rfl rfl (ez_vdI rfl rfl (by omega) (by omega)) (fun hB2 w3 => ?_)
  refine ez_go (n := 1) (pc' := 21) (L' := [(2, .inl (qz_I h 192 1)), (0, .inr (.inr (some (192)))), (1, .inl (1))]) (st' := [.inr (.inr (some (192)))]) rfl ?_
  refine ez_gC (p := 720) (tg := 52) hB2 t192 rfl rfl tq_44 rfl rfl (fun (t720 : _ = 52) => ?_)
  refine ez_go (n := 2) (pc' := 26) (L' := [(2, .inl (qz_I h 192 1)), (0, .inr (.inr (some (192)))), (1, .inl (1))]) (st' := [.inl (qz_I h 192 1), .inl (1), .inr (.inr (some (720)))]) rfl ?_
  have hI1 : jz_I τ (dz_put h 192 1 (ez_v (.inl (0)))) F E := jz_put hI hB2 (by decide) (by decide) (by decide) (by rw [t192]; decide)
  have q202 : ∀ j, qz_I (dz_put h 192 1 (ez_v (.inl (0)))) 202 j = qz_I h 202 j := fun j => ez_put_I (by omega)
  have b1 : rz_b (dz_put h 192 1 (ez_v (.inl (0)))) = rz_b h := funext fun i => ez_put_I (by omega)
  have z1 : qz_I (dz_put h 192 1 (ez_v (.inl (0)))) 192 1 = 0 := by rw [w3]; rfl
  have zj : ∀ j, j ≠ 1 → qz_I (dz_put h 192 1 (ez_v (.inl (0)))) 192 j = qz_I h 192 j := fun j hj => ez_put_I (fun w => hj w.2)
  have c1 : ((dz_put h 192 1 (ez_v (.inl (0))))).1 = h.1 := rfl
  have c2 : ((dz_put h 192 1 (ez_v (.inl (0))))).2.1 = h.2.1 := rfl
  have kk := kC ho
  generalize (dz_put h 192 1 (ez_v (.inl (0)))) = h1 at *
  refine ez_cv hI1.1 t720 rfl rfl rfl tq_52 rfl rfl rfl (rd_take1 hI1 (by omega) (by omega) (by rw [q202]; exact hl) (by omega) (by omega) (fun g τ1 F2 E2 v hI2 x st hv ho2 => ez_K1 ?_))
  rw [b1] at st
  have u192 : τ1 192 = 44 := hI2.2.1 192 (by decide)
  have xc2 := x.2
  have q5 := q202 5
  have a192 : ∀ j, qz_I g 192 j = qz_I h1 192 j := fun j => by unfold qz_I; rw [(x.1 192 (by rw [t192]; decide)).2 (by rw [t192]; rfl)]
  refine ez_go (n := 3) (pc' := 32) (L' := [(3, .inl (v)), (2, .inl (qz_I h 192 1)), (0, .inr (.inr (some (192)))), (1, .inl (1))]) (st' := [.inl (-1), .inl (v)]) rfl ?_
  refine ez_icmp rfl rfl ⟨by first | omega | exact (sz_i32 _).1, by first | omega | exact (sz_i32 _).2⟩ ⟨by first | omega | exact (sz_i32 _).1, by first | omega | exact (sz_i32 _).2⟩ (fun (c4 : (v) ≠ (-1)) => ?_) (fun (c4 : ¬((v) ≠ (-1))) => ?_)
  · skip
    refine ez_go (n := 1) (pc' := 44) (L' := [(3, .inl (v)), (2, .inl (qz_I h 192 1)), (0, .inr (.inr (some (192)))), (1, .inl (1))]) (st' := [.inl (v)]) rfl ?_
    exact ez_retI rfl rfl (kk g τ1 F2 E2 hI2 (x.mono (by omega) (by omega)) st ((a192 1).trans z1) (fun j hj => (a192 j).trans (zj j hj)) (by omega) (fun j j1 j4 j5 => by rw [ho2 j j1 j4 j5, q202]) _ (Or.inl ⟨v, rfl⟩))
  · skip
    refine ez_th rfl rfl (by omega) (by omega) (by omega) rfl ?_
    exact kk (xc g 3) τ1 F2 E2 (jz_xc hI2 (by omega) (by omega)) ((x.trans (fz_xt (xc_xt hI2.1))).mono (by omega) (by omega)) st ((xc_xt hI2.1).I (by rw [u192]; decide) 1 |>.trans ((a192 1).trans z1)) (fun j hj => ((xc_xt hI2.1).I (by rw [u192]; decide) j).trans ((a192 j).trans (zj j hj))) (Or.inl (by rw [(xc_xt hI2.1).I (by rw [hI2.2.1 202 (by decide)]; decide)]; omega)) (fun j j1 j4 j5 => by rw [(xc_xt hI2.1).I (by rw [hI2.2.1 202 (by decide)]; decide), ho2 j j1 j4 j5, q202]) _ (Or.inr ⟨g.1, rfl, xc_exc hI2.1 rfl⟩)

theorem rd_line2 (hI : jz_I τ h F E) (hl : qz_I h 192 1 = 0 ∨ qz_I h 202 5 ≤ 255) (hr1 : h.1 + 5 ≤ 600192) (hr2 : h.2.1 + 65 ≤ 7302232) (kS : qz_I h 202 6 ≠ 0 → Q (.inr h.1, xc h 2)) (kC : qz_I h 202 6 = 0 → ∀ g τ1 F2 E2, jz_I τ1 g F2 E2 → fz τ (dz_put h 192 1 (ez_v (.inl 0))) τ1 g 5 65 → rz_step (rz_b h) (qz_I h 192 1) 2 F E F2 E2 → qz_I g 192 1 = 0 → (∀ j, j ≠ 1 → qz_I g 192 j = qz_I h 192 j) → (qz_I g 202 5 = qz_I h 202 5 ∨ (qz_I g 202 5 = qz_I h 202 5 + 1 ∧ 0 < qz_I h 192 1)) → (∀ j, j ≠ 1 → j ≠ 4 → j ≠ 5 → qz_I g 202 j = qz_I h 202 j) → ∀ o, ((∃ v, o = .inl (some (ez_v (.inl v)))) ∨ (∃ r, o = .inr r ∧ cz_exc g r = some 3)) → Q (o, g)) : ez_W (d + 9) cm_21 0 [(0, .inr (.inr (some (192)))), (1, .inl (2))] [] h Q := by
  have t192 : τ 192 = 44 := hI.2.1 192 (by decide)
  refine ez_go (n := 3) (pc' := 3) (L' := [(0, .inr (.inr (some (192)))), (1, .inl (2))]) (st' := [.inl (4), .inl (0), .inl (2)]) rfl ?_
  refine ez_cs hI.1.2.1 rfl rfl rfl rfl rfl (rd_reqRange ⟨by decide, by decide⟩ ⟨by decide, by decide⟩ ⟨by decide, by decide⟩ (by omega) (by omega) (fun _ _ => ez_K0 ?_) (fun w => by omega))
  refine ez_go (n := 1) (pc' := 7) (L' := [(0, .inr (.inr (some (192)))), (1, .inl (2))]) (st' := [.inr (.inr (some (192)))]) rfl ?_
  refine ez_cv hI.1 t192 rfl rfl rfl tq_44 rfl rfl rfl (rd_reqOpen hI.1 t192 (by omega) (by omega) (fun ho => ez_K0 ?_) (fun ho => ez_Kp (xc_exc hI.1 rfl) rfl (kS ho)))
  refine ez_go (n := 1) (pc' := 11) (L' := [(0, .inr (.inr (some (192)))), (1, .inl (2))]) (st' := [.inr (.inr (some (192)))]) rfl ?_
  refine ez_gI hI.1 t192 rfl rfl tq_44 rfl rfl (fun (b1 : 0 ≤ qz_I h 192 1) (b1' : qz_I h 192 1 ≤ 4096) => ?_)
  refine ez_go (n := 3) (pc' := 17) (L' := [(2, .inl (qz_I h 192 1)), (0, .inr (.inr (some (192)))), (1, .inl (2))]) (st' := [.inl (0), .inr (.inr (some (192)))]) rfl ?_
  refine ez_pf hI.1 t192 rfl rfl tq_44 rfl rfl rfl rfl (ez_vdI rfl rfl (by omega) (by omega)) (fun hB2 w3 => ?_)
  refine ez_go (n := 1) (pc' := 21) (L' := [(2, .inl (qz_I h 192 1)), (0, .inr (.inr (some (192)))), (1, .inl (2))]) (st' := [.inr (.inr (some (192)))]) rfl ?_
  refine ez_gC (p := 720) (tg := 52) hB2 t192 rfl rfl tq_44 rfl rfl (fun (t720 : _ = 52) => ?_)
  refine ez_go (n := 2) (pc' := 26) (L' := [(2, .inl (qz_I h 192 1)), (0, .inr (.inr (some (192)))), (1, .inl (2))]) (st' := [.inl (qz_I h 192 1), .inl (2), .inr (.inr (some (720)))]) rfl ?_
  have hI1 : jz_I τ (dz_put h 192 1 (ez_v (.inl (0)))) F E := jz_put hI hB2 (by decide) (by decide) (by decide) (by rw [t192]; decide)
  have q202 : ∀ j, qz_I (dz_put h 192 1 (ez_v (.inl (0)))) 202 j = qz_I h 202 j := fun j => ez_put_I (by omega)
  have b1 : rz_b (dz_put h 192 1 (ez_v (.inl (0)))) = rz_b h := funext fun i => ez_put_I (by omega)
  have z1 : qz_I (dz_put h 192 1 (ez_v (.inl (0)))) 192 1 = 0 := by rw [w3]; rfl
  have zj : ∀ j, j ≠ 1 → qz_I (dz_put h 192 1 (ez_v (.inl (0)))) 192 j = qz_I h 192 j := fun j hj => ez_put_I (fun w => hj w.2)
  have c1 : ((dz_put h 192 1 (ez_v (.inl (0))))).1 = h.1 := rfl
  have c2 : ((dz_put h 192 1 (ez_v (.inl (0))))).2.1 = h.2.1 := rfl
  have kk := kC ho
  generalize (dz_put h 192 1 (ez_v (.inl (0)))) = h1 at *
  refine ez_cv hI1.1 t720 rfl rfl rfl tq_52 rfl rfl rfl (rd_take2 hI1 (by omega) (by omega) (by rw [q202]; exact hl) (by omega) (by omega) (fun g τ1 F2 E2 v hI2 x st hv ho2 => ez_K1 ?_))
  rw [b1] at st
  have u192 : τ1 192 = 44 := hI2.2.1 192 (by decide)
  have xc2 := x.2
  have q5 := q202 5
  have a192 : ∀ j, qz_I g 192 j = qz_I h1 192 j := fun j => by unfold qz_I; rw [(x.1 192 (by rw [t192]; decide)).2 (by rw [t192]; rfl)]
  refine ez_go (n := 3) (pc' := 32) (L' := [(3, .inl (v)), (2, .inl (qz_I h 192 1)), (0, .inr (.inr (some (192)))), (1, .inl (2))]) (st' := [.inl (-1), .inl (v)]) rfl ?_
  refine ez_icmp rfl rfl ⟨by first | omega | exact (sz_i32 _).1, by first | omega | exact (sz_i32 _).2⟩ ⟨by first | omega | exact (sz_i32 _).1, by first | omega | exact (sz_i32 _).2⟩ (fun (c4 : (v) ≠ (-1)) => ?_) (fun (c4 : ¬((v) ≠ (-1))) => ?_)
  · skip
    refine ez_go (n := 1) (pc' := 44) (L' := [(3, .inl (v)), (2, .inl (qz_I h 192 1)), (0, .inr (.inr (some (192)))), (1, .inl (2))]) (st' := [.inl (v)]) rfl ?_
    exact ez_retI rfl rfl (kk g τ1 F2 E2 hI2 (x.mono (by omega) (by omega)) st ((a192 1).trans z1) (fun j hj => (a192 j).trans (zj j hj)) (by omega) (fun j j1 j4 j5 => by rw [ho2 j j1 j4 j5, q202]) _ (Or.inl ⟨v, rfl⟩))
  · skip
    refine ez_th rfl rfl (by omega) (by omega) (by omega) rfl ?_
    exact kk (xc g 3) τ1 F2 E2 (jz_xc hI2 (by omega) (by omega)) ((x.trans (fz_xt (xc_xt hI2.1))).mono (by omega) (by omega)) st ((xc_xt hI2.1).I (by rw [u192]; decide) 1 |>.trans ((a192 1).trans z1)) (fun j hj => ((xc_xt hI2.1).I (by rw [u192]; decide) j).trans ((a192 j).trans (zj j hj))) (Or.inl (by rw [(xc_xt hI2.1).I (by rw [hI2.2.1 202 (by decide)]; decide)]; omega)) (fun j j1 j4 j5 => by rw [(xc_xt hI2.1).I (by rw [hI2.2.1 202 (by decide)]; decide), ho2 j j1 j4 j5, q202]) _ (Or.inr ⟨g.1, rfl, xc_exc hI2.1 rfl⟩)

theorem rd_line3 (hI : jz_I τ h F E) (hl : qz_I h 192 1 = 0 ∨ qz_I h 202 5 ≤ 255) (hr1 : h.1 + 5 ≤ 600192) (hr2 : h.2.1 + 65 ≤ 7302232) (kS : qz_I h 202 6 ≠ 0 → Q (.inr h.1, xc h 2)) (kC : qz_I h 202 6 = 0 → ∀ g τ1 F2 E2, jz_I τ1 g F2 E2 → fz τ (dz_put h 192 1 (ez_v (.inl 0))) τ1 g 5 65 → rz_step (rz_b h) (qz_I h 192 1) 3 F E F2 E2 → qz_I g 192 1 = 0 → (∀ j, j ≠ 1 → qz_I g 192 j = qz_I h 192 j) → (qz_I g 202 5 = qz_I h 202 5 ∨ (qz_I g 202 5 = qz_I h 202 5 + 1 ∧ 0 < qz_I h 192 1)) → (∀ j, j ≠ 1 → j ≠ 4 → j ≠ 5 → qz_I g 202 j = qz_I h 202 j) → ∀ o, ((∃ v, o = .inl (some (ez_v (.inl v)))) ∨ (∃ r, o = .inr r ∧ cz_exc g r = some 3)) → Q (o, g)) : ez_W (d + 9) cm_21 0 [(0, .inr (.inr (some (192)))), (1, .inl (3))] [] h Q := by
  have t192 : τ 192 = 44 := hI.2.1 192 (by decide)
  refine ez_go (n := 3) (pc' := 3) (L' := [(0, .inr (.inr (some (192)))), (1, .inl (3))]) (st' := [.inl (4), .inl (0), .inl (3)]) rfl ?_
  refine ez_cs hI.1.2.1 rfl rfl rfl rfl rfl (rd_reqRange ⟨by decide, by decide⟩ ⟨by decide, by decide⟩ ⟨by decide, by decide⟩ (by omega) (by omega) (fun _ _ => ez_K0 ?_) (fun w => by omega))
  refine ez_go (n := 1) (pc' := 7) (L' := [(0, .inr (.inr (some (192)))), (1, .inl (3))]) (st' := [.inr (.inr (some (192)))]) rfl ?_
  refine ez_cv hI.1 t192 rfl rfl rfl tq_44 rfl rfl rfl (rd_reqOpen hI.1 t192 (by omega) (by omega) (fun ho => ez_K0 ?_) (fun ho => ez_Kp (xc_exc hI.1 rfl) rfl (kS ho)))
  refine ez_go (n := 1) (pc' := 11) (L' := [(0, .inr (.inr (some (192)))), (1, .inl (3))]) (st' := [.inr (.inr (some (192)))]) rfl ?_
  refine ez_gI hI.1 t192 rfl rfl tq_44 rfl rfl (fun (b1 : 0 ≤ qz_I h 192 1) (b1' : qz_I h 192 1 ≤ 4096) => ?_)
  refine ez_go (n := 3) (pc' := 17) (L' := [(2, .inl (qz_I h 192 1)), (0, .inr (.inr (some (192)))), (1, .inl (3))]) (st' := [.inl (0), .inr (.inr (some (192)))]) rfl ?_
  refine ez_pf hI.1 t192 rfl rfl tq_44 rfl rfl rfl rfl (ez_vdI rfl rfl (by omega) (by omega)) (fun hB2 w3 => ?_)
  refine ez_go (n := 1) (pc' := 21) (L' := [(2, .inl (qz_I h 192 1)), (0, .inr (.inr (some (192)))), (1, .inl (3))]) (st' := [.inr (.inr (some (192)))]) rfl ?_
  refine ez_gC (p := 720) (tg := 52) hB2 t192 rfl rfl tq_44 rfl rfl (fun (t720 : _ = 52) => ?_)
  refine ez_go (n := 2) (pc' := 26) (L' := [(2, .inl (qz_I h 192 1)), (0, .inr (.inr (some (192)))), (1, .inl (3))]) (st' := [.inl (qz_I h 192 1), .inl (3), .inr (.inr (some (720)))]) rfl ?_
  have hI1 : jz_I τ (dz_put h 192 1 (ez_v (.inl (0)))) F E := jz_put hI hB2 (by decide) (by decide) (by decide) (by rw [t192]; decide)
  have q202 : ∀ j, qz_I (dz_put h 192 1 (ez_v (.inl (0)))) 202 j = qz_I h 202 j := fun j => ez_put_I (by omega)
  have b1 : rz_b (dz_put h 192 1 (ez_v (.inl (0)))) = rz_b h := funext fun i => ez_put_I (by omega)
  have z1 : qz_I (dz_put h 192 1 (ez_v (.inl (0)))) 192 1 = 0 := by rw [w3]; rfl
  have zj : ∀ j, j ≠ 1 → qz_I (dz_put h 192 1 (ez_v (.inl (0)))) 192 j = qz_I h 192 j := fun j hj => ez_put_I (fun w => hj w.2)
  have c1 : ((dz_put h 192 1 (ez_v (.inl (0))))).1 = h.1 := rfl
  have c2 : ((dz_put h 192 1 (ez_v (.inl (0))))).2.1 = h.2.1 := rfl
  have kk := kC ho
  generalize (dz_put h 192 1 (ez_v (.inl (0)))) = h1 at *
  refine ez_cv hI1.1 t720 rfl rfl rfl tq_52 rfl rfl rfl (rd_take3 hI1 (by omega) (by omega) (by rw [q202]; exact hl) (by omega) (by omega) (fun g τ1 F2 E2 v hI2 x st hv ho2 => ez_K1 ?_))
  rw [b1] at st
  have u192 : τ1 192 = 44 := hI2.2.1 192 (by decide)
  have xc2 := x.2
  have q5 := q202 5
  have a192 : ∀ j, qz_I g 192 j = qz_I h1 192 j := fun j => by unfold qz_I; rw [(x.1 192 (by rw [t192]; decide)).2 (by rw [t192]; rfl)]
  refine ez_go (n := 3) (pc' := 32) (L' := [(3, .inl (v)), (2, .inl (qz_I h 192 1)), (0, .inr (.inr (some (192)))), (1, .inl (3))]) (st' := [.inl (-1), .inl (v)]) rfl ?_
  refine ez_icmp rfl rfl ⟨by first | omega | exact (sz_i32 _).1, by first | omega | exact (sz_i32 _).2⟩ ⟨by first | omega | exact (sz_i32 _).1, by first | omega | exact (sz_i32 _).2⟩ (fun (c4 : (v) ≠ (-1)) => ?_) (fun (c4 : ¬((v) ≠ (-1))) => ?_)
  · skip
    refine ez_go (n := 1) (pc' := 44) (L' := [(3, .inl (v)), (2, .inl (qz_I h 192 1)), (0, .inr (.inr (some (192)))), (1, .inl (3))]) (st' := [.inl (v)]) rfl ?_
    exact ez_retI rfl rfl (kk g τ1 F2 E2 hI2 (x.mono (by omega) (by omega)) st ((a192 1).trans z1) (fun j hj => (a192 j).trans (zj j hj)) (by omega) (fun j j1 j4 j5 => by rw [ho2 j j1 j4 j5, q202]) _ (Or.inl ⟨v, rfl⟩))
  · skip
    refine ez_th rfl rfl (by omega) (by omega) (by omega) rfl ?_
    exact kk (xc g 3) τ1 F2 E2 (jz_xc hI2 (by omega) (by omega)) ((x.trans (fz_xt (xc_xt hI2.1))).mono (by omega) (by omega)) st ((xc_xt hI2.1).I (by rw [u192]; decide) 1 |>.trans ((a192 1).trans z1)) (fun j hj => ((xc_xt hI2.1).I (by rw [u192]; decide) j).trans ((a192 j).trans (zj j hj))) (Or.inl (by rw [(xc_xt hI2.1).I (by rw [hI2.2.1 202 (by decide)]; decide)]; omega)) (fun j j1 j4 j5 => by rw [(xc_xt hI2.1).I (by rw [hI2.2.1 202 (by decide)]; decide), ho2 j j1 j4 j5, q202]) _ (Or.inr ⟨g.1, rfl, xc_exc hI2.1 rfl⟩)

theorem rd_line4 (hI : jz_I τ h F E) (hl : qz_I h 192 1 = 0 ∨ qz_I h 202 5 ≤ 255) (hr1 : h.1 + 5 ≤ 600192) (hr2 : h.2.1 + 65 ≤ 7302232) (kS : qz_I h 202 6 ≠ 0 → Q (.inr h.1, xc h 2)) (kC : qz_I h 202 6 = 0 → ∀ g τ1 F2 E2, jz_I τ1 g F2 E2 → fz τ (dz_put h 192 1 (ez_v (.inl 0))) τ1 g 5 65 → rz_step (rz_b h) (qz_I h 192 1) 4 F E F2 E2 → qz_I g 192 1 = 0 → (∀ j, j ≠ 1 → qz_I g 192 j = qz_I h 192 j) → (qz_I g 202 5 = qz_I h 202 5 ∨ (qz_I g 202 5 = qz_I h 202 5 + 1 ∧ 0 < qz_I h 192 1)) → (∀ j, j ≠ 1 → j ≠ 4 → j ≠ 5 → qz_I g 202 j = qz_I h 202 j) → ∀ o, ((∃ v, o = .inl (some (ez_v (.inl v)))) ∨ (∃ r, o = .inr r ∧ cz_exc g r = some 3)) → Q (o, g)) : ez_W (d + 9) cm_21 0 [(0, .inr (.inr (some (192)))), (1, .inl (4))] [] h Q := by
  have t192 : τ 192 = 44 := hI.2.1 192 (by decide)
  refine ez_go (n := 3) (pc' := 3) (L' := [(0, .inr (.inr (some (192)))), (1, .inl (4))]) (st' := [.inl (4), .inl (0), .inl (4)]) rfl ?_
  refine ez_cs hI.1.2.1 rfl rfl rfl rfl rfl (rd_reqRange ⟨by decide, by decide⟩ ⟨by decide, by decide⟩ ⟨by decide, by decide⟩ (by omega) (by omega) (fun _ _ => ez_K0 ?_) (fun w => by omega))
  refine ez_go (n := 1) (pc' := 7) (L' := [(0, .inr (.inr (some (192)))), (1, .inl (4))]) (st' := [.inr (.inr (some (192)))]) rfl ?_
  refine ez_cv hI.1 t192 rfl rfl rfl tq_44 rfl rfl rfl (rd_reqOpen hI.1 t192 (by omega) (by omega) (fun ho => ez_K0 ?_) (fun ho => ez_Kp (xc_exc hI.1 rfl) rfl (kS ho)))
  refine ez_go (n := 1) (pc' := 11) (L' := [(0, .inr (.inr (some (192)))), (1, .inl (4))]) (st' := [.inr (.inr (some (192)))]) rfl ?_
  refine ez_gI hI.1 t192 rfl rfl tq_44 rfl rfl (fun (b1 : 0 ≤ qz_I h 192 1) (b1' : qz_I h 192 1 ≤ 4096) => ?_)
  refine ez_go (n := 3) (pc' := 17) (L' := [(2, .inl (qz_I h 192 1)), (0, .inr (.inr (some (192)))), (1, .inl (4))]) (st' := [.inl (0), .inr (.inr (some (192)))]) rfl ?_
  refine ez_pf hI.1 t192 rfl rfl tq_44 rfl rfl rfl rfl (ez_vdI rfl rfl (by omega) (by omega)) (fun hB2 w3 => ?_)
  refine ez_go (n := 1) (pc' := 21) (L' := [(2, .inl (qz_I h 192 1)), (0, .inr (.inr (some (192)))), (1, .inl (4))]) (st' := [.inr (.inr (some (192)))]) rfl ?_
  refine ez_gC (p := 720) (tg := 52) hB2 t192 rfl rfl tq_44 rfl rfl (fun (t720 : _ = 52) => ?_)
  refine ez_go (n := 2) (pc' := 26) (L' := [(2, .inl (qz_I h 192 1)), (0, .inr (.inr (some (192)))), (1, .inl (4))]) (st' := [.inl (qz_I h 192 1), .inl (4), .inr (.inr (some (720)))]) rfl ?_
  have hI1 : jz_I τ (dz_put h 192 1 (ez_v (.inl (0)))) F E := jz_put hI hB2 (by decide) (by decide) (by decide) (by rw [t192]; decide)
  have q202 : ∀ j, qz_I (dz_put h 192 1 (ez_v (.inl (0)))) 202 j = qz_I h 202 j := fun j => ez_put_I (by omega)
  have b1 : rz_b (dz_put h 192 1 (ez_v (.inl (0)))) = rz_b h := funext fun i => ez_put_I (by omega)
  have z1 : qz_I (dz_put h 192 1 (ez_v (.inl (0)))) 192 1 = 0 := by rw [w3]; rfl
  have zj : ∀ j, j ≠ 1 → qz_I (dz_put h 192 1 (ez_v (.inl (0)))) 192 j = qz_I h 192 j := fun j hj => ez_put_I (fun w => hj w.2)
  have c1 : ((dz_put h 192 1 (ez_v (.inl (0))))).1 = h.1 := rfl
  have c2 : ((dz_put h 192 1 (ez_v (.inl (0))))).2.1 = h.2.1 := rfl
  have kk := kC ho
  generalize (dz_put h 192 1 (ez_v (.inl (0)))) = h1 at *
  refine ez_cv hI1.1 t720 rfl rfl rfl tq_52 rfl rfl rfl (rd_take4 hI1 (by omega) (by omega) (by rw [q202]; exact hl) (by omega) (by omega) (fun g τ1 F2 E2 v hI2 x st hv ho2 => ez_K1 ?_))
  rw [b1] at st
  have u192 : τ1 192 = 44 := hI2.2.1 192 (by decide)
  have xc2 := x.2
  have q5 := q202 5
  have a192 : ∀ j, qz_I g 192 j = qz_I h1 192 j := fun j => by unfold qz_I; rw [(x.1 192 (by rw [t192]; decide)).2 (by rw [t192]; rfl)]
  refine ez_go (n := 3) (pc' := 32) (L' := [(3, .inl (v)), (2, .inl (qz_I h 192 1)), (0, .inr (.inr (some (192)))), (1, .inl (4))]) (st' := [.inl (-1), .inl (v)]) rfl ?_
  refine ez_icmp rfl rfl ⟨by first | omega | exact (sz_i32 _).1, by first | omega | exact (sz_i32 _).2⟩ ⟨by first | omega | exact (sz_i32 _).1, by first | omega | exact (sz_i32 _).2⟩ (fun (c4 : (v) ≠ (-1)) => ?_) (fun (c4 : ¬((v) ≠ (-1))) => ?_)
  · skip
    refine ez_go (n := 1) (pc' := 44) (L' := [(3, .inl (v)), (2, .inl (qz_I h 192 1)), (0, .inr (.inr (some (192)))), (1, .inl (4))]) (st' := [.inl (v)]) rfl ?_
    exact ez_retI rfl rfl (kk g τ1 F2 E2 hI2 (x.mono (by omega) (by omega)) st ((a192 1).trans z1) (fun j hj => (a192 j).trans (zj j hj)) (by omega) (fun j j1 j4 j5 => by rw [ho2 j j1 j4 j5, q202]) _ (Or.inl ⟨v, rfl⟩))
  · skip
    refine ez_th rfl rfl (by omega) (by omega) (by omega) rfl ?_
    exact kk (xc g 3) τ1 F2 E2 (jz_xc hI2 (by omega) (by omega)) ((x.trans (fz_xt (xc_xt hI2.1))).mono (by omega) (by omega)) st ((xc_xt hI2.1).I (by rw [u192]; decide) 1 |>.trans ((a192 1).trans z1)) (fun j hj => ((xc_xt hI2.1).I (by rw [u192]; decide) j).trans ((a192 j).trans (zj j hj))) (Or.inl (by rw [(xc_xt hI2.1).I (by rw [hI2.2.1 202 (by decide)]; decide)]; omega)) (fun j j1 j4 j5 => by rw [(xc_xt hI2.1).I (by rw [hI2.2.1 202 (by decide)]; decide), ho2 j j1 j4 j5, q202]) _ (Or.inr ⟨g.1, rfl, xc_exc hI2.1 rfl⟩)

theorem rd_lineX {kind : Int} (hB : ez_B τ h) (hv : ez_rg kind) (ho : kind < 0 ∨ 4 < kind) (hr1 : h.1 + 1 ≤ 600192) (hr2 : h.2.1 + 6 ≤ 7302232) (k : Q (.inr h.1, xc h 1)) : ez_W (d + 9) cm_21 0 [(0, .inr (.inr (some (192)))), (1, .inl (kind))] [] h Q := by
  refine ez_go (n := 3) (pc' := 3) (L' := [(0, .inr (.inr (some (192)))), (1, .inl (kind))]) (st' := [.inl (4), .inl (0), .inl (kind)]) rfl ?_
  refine ez_cs hB.2.1 rfl rfl rfl rfl rfl (rd_reqRange hv ⟨by decide, by decide⟩ ⟨by decide, by decide⟩ (by omega) (by omega) (fun _ _ => by omega) (fun w => ez_Kp (xc_exc hB rfl) rfl k))

end EzLn
