/-! The class: the calls that make texts. (Written by wip/p2/py/pvt10.py.) -/
section EzCt
variable {d : Nat} {h : cz_H} {τ : Nat → Nat} {Q : cz_F → Prop} {T : Int → Nat} {F : rz_W} {E : Int → Prop} {X : Nat → List Int} {l : List Int}
/-- the texts of the class -/
def txs (h : cz_H) (X : Nat → List Int) : Prop := ∀ t, t < 8 → tx h (754 + 2 * t) (X t) ∧ ptl (X t) ∧ (X t).length ≤ 2000
theorem txs.k {g : cz_H} (m : txs h X) (e : ∀ q, (754 ≤ q ∧ q ≤ 769) → g.2.2 q = h.2.2 q) : txs g X := fun t ht => by
  obtain ⟨a, c⟩ := m t ht
  exact ⟨tx_c a (e _ (by omega)) (e _ (by omega)), c⟩
theorem rd_reqRoom1 (k : Q (.inl none, h)) : ez_W (d + 6) cm_33 0 [(0, .inl (1))] [] h Q := by
  refine ez_go (n := 1) (pc' := 1) (L' := [(0, .inl (1))]) (st' := [.inl (1)]) rfl ?_
  refine ez_if rfl rfl ⟨by decide, by decide⟩ (fun _ => ?_) (fun (c1 : ¬((1 : Int) ≠ (0))) => absurd c1 (by decide))
  exact ez_ret0 rfl rfl k

theorem rd_reqRoom0 (hr1 : h.1 + 1 ≤ 600192) (hr2 : h.2.1 + 6 ≤ 7302232) (k : Q (.inr h.1, xc h 0)) : ez_W (d + 6) cm_33 0 [(0, .inl (0))] [] h Q := by
  refine ez_go (n := 1) (pc' := 1) (L' := [(0, .inl (0))]) (st' := [.inl (0)]) rfl ?_
  refine ez_if rfl rfl ⟨by decide, by decide⟩ (fun (c1 : (0 : Int) ≠ (0)) => absurd c1 (by decide)) (fun _ => ?_)
  exact ez_th rfl rfl (by omega) (by omega) (by omega) rfl (k)

theorem rd_reqSealed (hB : ez_B τ h) (t192 : τ 192 = 44) (hr1 : h.1 + 1 ≤ 600192) (hr2 : h.2.1 + 6 ≤ 7302232) (k1 : qz_I h 202 6 ≠ 0 → Q (.inl none, h)) (k0 : qz_I h 202 6 = 0 → Q (.inr h.1, xc h 2)) : ez_W (d + 6) cm_34 0 [(0, .inr (.inr (some (192))))] [] h Q := by
  refine ez_go (n := 1) (pc' := 1) (L' := [(0, .inr (.inr (some (192))))]) (st' := [.inr (.inr (some (192)))]) rfl ?_
  refine ez_gC (p := 202) (tg := 48) hB t192 rfl rfl tq_44 rfl rfl (fun (t202 : _ = 48) => ?_)
  refine ez_gI hB t202 rfl rfl tq_48 rfl rfl (fun (b1 : 0 ≤ qz_I h 202 6) (b1' : qz_I h 202 6 ≤ 1) => ?_)
  refine ez_if rfl rfl ⟨by first | omega | exact (sz_i32 _).1, by first | omega | exact (sz_i32 _).2⟩ (fun (c2 : (qz_I h 202 6) ≠ (0)) => ?_) (fun (c2 : ¬((qz_I h 202 6) ≠ (0))) => ?_)
  · skip
    exact ez_ret0 rfl rfl (k1 (by omega))
  · skip
    exact ez_th rfl rfl (by omega) (by omega) (by omega) rfl (k0 (by omega))

theorem rd_reqSlot {t : Int} (hB : ez_B τ h) (tr : ez_rg t) (hr1 : h.1 + 1 ≤ 600192) (hr2 : h.2.1 + 6 ≤ 7302232) (k1 : 0 ≤ t → t ≤ 7 → Q (.inl none, h)) (k0 : t < 0 ∨ 7 < t → Q (.inr h.1, xc h 1)) : ez_W (d + 7) cm_35 0 [(0, .inl (t))] [] h Q := by
  refine ez_go (n := 3) (pc' := 4) (L' := [(0, .inl (t))]) (st' := [.inl (7), .inl (0), .inl (t)]) rfl ?_
  refine ez_cs hB.2.1 rfl rfl rfl rfl rfl (rd_reqRange tr ⟨by decide, by decide⟩ ⟨by decide, by decide⟩ hr1 hr2 (fun w0 w1 => ez_K0 ?_) (fun w => ez_Kp (xc_exc hB rfl) rfl (k0 w)))
  exact ez_ret0 rfl rfl (k1 w0 w1)

theorem rd_keepMade {t : Int} (hB : ez_B τ h) (hX : jz_X τ) (sl : slt h) (a : tx h 196 l) (t0 : 0 ≤ t) (t7 : t ≤ 7) (k : ∀ g, ez_B τ g → ez_fr (tx_P (754 + 2 * t.toNat)) h g → tx g (754 + 2 * t.toNat) l → Q (.inl (some (ez_v (.inl (l.length : Int)))), g)) : ez_W (d + 2) cm_18 0 [(0, .inr (.inr (some (192)))), (1, .inl (t))] [] h Q := by
  have t192 : τ 192 = 44 := hX 192 (by decide)
  refine ez_go (n := 1) (pc' := 1) (L' := [(0, .inr (.inr (some (192)))), (1, .inl (t))]) (st' := [.inr (.inr (some (192)))]) rfl ?_
  refine ez_gC (p := 195) (tg := 47) hB t192 rfl rfl tq_44 rfl rfl (fun (t195 : _ = 47) => ?_)
  refine ez_go (n := 1) (pc' := 5) (L' := [(0, .inr (.inr (some (192)))), (1, .inl (t))]) (st' := [.inl (t), .inr (.inr (some (195)))]) rfl ?_
  have n2 : 8 ≤ qz_N h 195 ∧ qz_N h 195 ≤ 8 := ez_len hB t195 tq_47 rfl
  have y3 : 1 ≤ qz_I h 195 (t).toNat ∧ qz_I h 195 (t).toNat ≤ 1000000 := ez_aB hB t195 tq_47 rfl rfl (by decide) (by omega) (by omega)
  have y3' : ((qz_P h 195 (t).toNat : Nat) : Int) + 1 = qz_I h 195 (t).toNat := by unfold qz_P; omega
  refine ez_aR hB t195 rfl tq_47 rfl rfl (by omega) (by omega) (by omega) (fun (t1 : _ = 88) => ?_)
  rw [show qz_P h 195 (t).toNat = 754 + 2 * (t).toNat by unfold qz_P; have := (sl (t).toNat (by omega)).1; omega]
  refine ez_go (n := 1) (pc' := 7) (L' := [(0, .inr (.inr (some (192)))), (1, .inl (t))]) (st' := [.inr (.inr (some (192))), .inr (.inr (some (754 + 2 * (t).toNat)))]) rfl ?_
  refine ez_gC (p := 196) (tg := 1) hB t192 rfl rfl tq_44 rfl rfl (fun (t196 : _ = 1) => ?_)
  refine ez_go (n := 2) (pc' := 12) (L' := [(0, .inr (.inr (some (192)))), (1, .inl (t))]) (st' := [.inr (.inr (some (192))), .inl (0), .inr (.inr (some (196))), .inr (.inr (some (754 + 2 * (t).toNat)))]) rfl ?_
  refine ez_gC (p := 196) (tg := 1) hB t192 rfl rfl tq_44 rfl rfl (fun (t196 : _ = 1) => ?_)
  refine ez_gI hB t196 rfl rfl tq_1 rfl rfl (fun (b4 : 0 ≤ qz_I h 196 1) (b4' : qz_I h 196 1 ≤ 2000) => ?_)
  rw [show qz_I h 196 1 = (l.length : Int) from a.1]
  refine ez_cv hB (mx_tag hX (show (t).toNat < 8 by omega)).2.1 rfl rfl rfl tq_88 rfl rfl rfl (rd_takePart hB (mx_tag hX (show (t).toNat < 8 by omega)).2.1 (hX 196 (by decide)) a (by omega) (by omega) (by omega) (fun g hBg fg ag => ez_K0 ?_))
  rw [pt_all] at ag
  have c95 : ∀ j, qz_I g 195 j = qz_I h 195 j := fun j => fg.I (tx_Pn (by omega) (by omega)) j
  refine ez_go (n := 1) (pc' := 22) (L' := [(0, .inr (.inr (some (192)))), (1, .inl (t))]) (st' := [.inr (.inr (some (192)))]) rfl ?_
  refine ez_gC (p := 195) (tg := 47) hBg t192 rfl rfl tq_44 rfl rfl (fun (t195 : _ = 47) => ?_)
  refine ez_go (n := 1) (pc' := 26) (L' := [(0, .inr (.inr (some (192)))), (1, .inl (t))]) (st' := [.inl (t), .inr (.inr (some (195)))]) rfl ?_
  have n6 : 8 ≤ qz_N g 195 ∧ qz_N g 195 ≤ 8 := ez_len hBg t195 tq_47 rfl
  have y7 : 1 ≤ qz_I g 195 (t).toNat ∧ qz_I g 195 (t).toNat ≤ 1000000 := ez_aB hBg t195 tq_47 rfl rfl (by decide) (by omega) (by omega)
  have y7' : ((qz_P g 195 (t).toNat : Nat) : Int) + 1 = qz_I g 195 (t).toNat := by unfold qz_P; omega
  refine ez_aR hBg t195 rfl tq_47 rfl rfl (by omega) (by omega) (by omega) (fun (t5 : _ = 88) => ?_)
  rw [show qz_P g 195 (t).toNat = 754 + 2 * (t).toNat by unfold qz_P; have := (sl (t).toNat (by omega)).1; rw [show qz_I g 195 (t).toNat = qz_I h 195 (t).toNat from c95 _]; omega]
  refine ez_gI hBg (mx_tag hX (show (t).toNat < 8 by omega)).2.1 rfl rfl tq_88 rfl rfl (fun (b8 : 0 ≤ qz_I g (754 + 2 * (t).toNat) 1) (b8' : qz_I g (754 + 2 * (t).toNat) 1 ≤ 2000) => ?_)
  rw [show qz_I g (754 + 2 * (t).toNat) 1 = (l.length : Int) from ag.1]
  exact ez_retI rfl rfl (k g hBg fg ag)

theorem rd_cnormal {t u fm : Int} (hC : pz_C τ h T F E) (hw : uz_wf F) (hsl : qz_I h 202 6 ≠ 0 → fD h T F ∧ cP h F E) (sl : slt h) (txh : txs h X) (tr : ez_rg t) (ur : ez_rg u) (fmr : ez_rg fm) (hr1 : h.1 + 1 ≤ 600192) (hr2 : h.2.1 + 6 ≤ 7302232) (kA : (t < 0 ∨ 7 < t ∨ u < 0 ∨ 7 < u ∨ fm < 0 ∨ 3 < fm) → Q (.inr h.1, xc h 1)) (kS : ((0 ≤ t ∧ t ≤ 7) ∧ (0 ≤ u ∧ u ≤ 7) ∧ 0 ≤ fm ∧ fm ≤ 3) → qz_I h 202 6 = 0 → Q (.inr h.1, xc h 2)) (kX : ((0 ≤ t ∧ t ≤ 7) ∧ (0 ≤ u ∧ u ≤ 7) ∧ 0 ≤ fm ∧ fm ≤ 3) → qz_I h 202 6 ≠ 0 → ∀ m, uz_FL F (decide (fm = 1 ∨ fm = 3)) (X u.toNat) m → 2000 < m.length → ∀ g, ez_B τ g → ez_fr (co_P 196) h g → Q (.inr g.1, xc g 0)) (k1 : ((0 ≤ t ∧ t ≤ 7) ∧ (0 ≤ u ∧ u ≤ 7) ∧ 0 ≤ fm ∧ fm ≤ 3) → qz_I h 202 6 ≠ 0 → ∀ m res, uz_FL F (decide (fm = 1 ∨ fm = 3)) (X u.toNat) m → m.length ≤ 2000 → nfR F E fm m res → ptl res → ∀ g2, ez_B τ g2 → ez_fr (co_P 196) h g2 → ∀ g, ez_B τ g → ez_fr (tx_P (754 + 2 * t.toNat)) g2 g → tx g (754 + 2 * t.toNat) res → Q (.inl (some (ez_v (.inl (res.length : Int)))), g)) : ez_W (d + 8) cm_24 0 [(0, .inr (.inr (some (192)))), (1, .inl (t)), (2, .inl (u)), (3, .inl (fm))] [] h Q := by
  have hB := hC.1
  have hX := hC.2.1
  have t192 : τ 192 = 44 := hX 192 (by decide)
  obtain ⟨tr1, tr2⟩ := id tr
  obtain ⟨ur1, ur2⟩ := id ur
  obtain ⟨fmr1, fmr2⟩ := id fmr
  refine ez_go (n := 1) (pc' := 1) (L' := [(0, .inr (.inr (some (192)))), (1, .inl (t)), (2, .inl (u)), (3, .inl (fm))]) (st' := [.inl (t)]) rfl ?_
  refine ez_cs hB.2.1 rfl rfl rfl rfl rfl (rd_reqSlot hB (show ez_rg (t) by assumption) (by omega) (by omega) (fun a1 b1 => ez_K0 ?_) (fun w => ez_Kp (xc_exc hB rfl) rfl (kA (by omega))))
  refine ez_go (n := 1) (pc' := 5) (L' := [(0, .inr (.inr (some (192)))), (1, .inl (t)), (2, .inl (u)), (3, .inl (fm))]) (st' := [.inl (u)]) rfl ?_
  refine ez_cs hB.2.1 rfl rfl rfl rfl rfl (rd_reqSlot hB (show ez_rg (u) by assumption) (by omega) (by omega) (fun a2 b2 => ez_K0 ?_) (fun w => ez_Kp (xc_exc hB rfl) rfl (kA (by omega))))
  refine ez_go (n := 3) (pc' := 11) (L' := [(0, .inr (.inr (some (192)))), (1, .inl (t)), (2, .inl (u)), (3, .inl (fm))]) (st' := [.inl (3), .inl (0), .inl (fm)]) rfl ?_
  refine ez_cs hB.2.1 rfl rfl rfl rfl rfl (rd_reqRange ⟨by omega, by omega⟩ ⟨by omega, by omega⟩ ⟨by omega, by omega⟩ (by omega) (by omega) (fun a3 b3 => ez_K0 ?_) (fun w => ez_Kp (xc_exc hB rfl) rfl (kA (by omega))))
  refine ez_go (n := 1) (pc' := 15) (L' := [(0, .inr (.inr (some (192)))), (1, .inl (t)), (2, .inl (u)), (3, .inl (fm))]) (st' := [.inr (.inr (some (192)))]) rfl ?_
  refine ez_cv hB t192 rfl rfl rfl tq_44 rfl rfl rfl (rd_reqSealed hB t192 (by omega) (by omega) (fun hsd => ez_K0 ?_) (fun w => ez_Kp (xc_exc hB rfl) rfl (kS (by omega) w)))
  refine ez_go (n := 1) (pc' := 19) (L' := [(0, .inr (.inr (some (192)))), (1, .inl (t)), (2, .inl (u)), (3, .inl (fm))]) (st' := [.inr (.inr (some (192)))]) rfl ?_
  refine ez_gC (p := 729) (tg := 61) hB t192 rfl rfl tq_44 rfl rfl (fun (t729 : _ = 61) => ?_)
  refine ez_go (n := 1) (pc' := 23) (L' := [(0, .inr (.inr (some (192)))), (1, .inl (t)), (2, .inl (u)), (3, .inl (fm))]) (st' := [.inr (.inr (some (192))), .inr (.inr (some (729)))]) rfl ?_
  refine ez_gC (p := 195) (tg := 47) hB t192 rfl rfl tq_44 rfl rfl (fun (t195 : _ = 47) => ?_)
  refine ez_go (n := 1) (pc' := 27) (L' := [(0, .inr (.inr (some (192)))), (1, .inl (t)), (2, .inl (u)), (3, .inl (fm))]) (st' := [.inl (u), .inr (.inr (some (195))), .inr (.inr (some (729)))]) rfl ?_
  have n2 : 8 ≤ qz_N h 195 ∧ qz_N h 195 ≤ 8 := ez_len hB t195 tq_47 rfl
  have y3 : 1 ≤ qz_I h 195 (u).toNat ∧ qz_I h 195 (u).toNat ≤ 1000000 := ez_aB hB t195 tq_47 rfl rfl (by decide) (by omega) (by omega)
  have y3' : ((qz_P h 195 (u).toNat : Nat) : Int) + 1 = qz_I h 195 (u).toNat := by unfold qz_P; omega
  refine ez_aR hB t195 rfl tq_47 rfl rfl (by omega) (by omega) (by omega) (fun (t1 : _ = 88) => ?_)
  rw [show qz_P h 195 (u).toNat = 754 + 2 * (u).toNat by unfold qz_P; have := (sl (u).toNat (by omega)).1; omega]
  refine ez_go (n := 1) (pc' := 29) (L' := [(0, .inr (.inr (some (192)))), (1, .inl (t)), (2, .inl (u)), (3, .inl (fm))]) (st' := [.inr (.inr (some (192))), .inr (.inr (some (754 + 2 * (u).toNat))), .inr (.inr (some (729)))]) rfl ?_
  refine ez_gC (p := 196) (tg := 1) hB t192 rfl rfl tq_44 rfl rfl (fun (t196 : _ = 1) => ?_)
  refine ez_go (n := 1) (pc' := 33) (L' := [(0, .inr (.inr (some (192)))), (1, .inl (t)), (2, .inl (u)), (3, .inl (fm))]) (st' := [.inl (fm), .inr (.inr (some (196))), .inr (.inr (some (754 + 2 * (u).toNat))), .inr (.inr (some (729)))]) rfl ?_
  have tu := txh (u).toNat (by omega)
  refine ez_cv hB t729 rfl rfl rfl tq_61 rfl rfl rfl (rd_convs hC (hsl hsd).1 hw (hsl hsd).2 (hX 196 (by decide)) (Or.inl (by decide)) (mx_tag hX (show (u).toNat < 8 by omega)).2.1 (by omega) tu.1 tu.2.1 ⟨by omega, by omega⟩ (fun m res um lt nf pr g2 hB2 f2 t2 => ez_K1 ?_) (fun m um lt g2 hB2 f2 => ez_K1 ?_))
  · have rm1 := f2.1; have rm2 := f2.2.1
    refine ez_cs hB2.2.1 rfl rfl rfl rfl rfl (rd_reqRoom1 (ez_K0 ?_))
    refine ez_go (n := 2) (pc' := 41) (L' := [(0, .inr (.inr (some (192)))), (1, .inl (t)), (2, .inl (u)), (3, .inl (fm))]) (st' := [.inl (t), .inr (.inr (some (192)))]) rfl ?_
    have sl2 : slt g2 := sl.k (f2.2.2 195 (co_Pn (by decide) (by decide) (by decide))) (f2.2.2 773 (co_Pn (by decide) (by decide) (by decide)))
    refine ez_cv hB2 t192 rfl rfl rfl tq_44 rfl rfl rfl (rd_keepMade hB2 hX sl2 t2 (by omega) (by omega) (fun g3 hB3 f3 t3 => ez_K1 ?_))
    exact ez_retI rfl rfl (k1 (by omega) hsd m res um lt nf pr g2 hB2 f2 g3 hB3 f3 t3)
  · have rm1 := f2.1; have rm2 := f2.2.1
    exact ez_cs hB2.2.1 rfl rfl rfl rfl rfl (rd_reqRoom0 (by omega) (by omega) (ez_Kp (xc_exc hB2 rfl) rfl (kX (by omega) hsd m um lt g2 hB2 f2)))

theorem rd_cjoin {t u v fm : Int} (hC : pz_C τ h T F E) (hw : uz_wf F) (hsl : qz_I h 202 6 ≠ 0 → fD h T F ∧ cP h F E) (sl : slt h) (txh : txs h X) (tr : ez_rg t) (ur : ez_rg u) (vr : ez_rg v) (fmr : ez_rg fm) (hr1 : h.1 + 1 ≤ 600192) (hr2 : h.2.1 + 6 ≤ 7302232) (kA : (t < 0 ∨ 7 < t ∨ u < 0 ∨ 7 < u ∨ v < 0 ∨ 7 < v ∨ fm < 0 ∨ 3 < fm) → Q (.inr h.1, xc h 1)) (kS : ((0 ≤ t ∧ t ≤ 7) ∧ (0 ≤ u ∧ u ≤ 7) ∧ (0 ≤ v ∧ v ≤ 7) ∧ 0 ≤ fm ∧ fm ≤ 3) → qz_I h 202 6 = 0 → Q (.inr h.1, xc h 2)) (kX : ((0 ≤ t ∧ t ≤ 7) ∧ (0 ≤ u ∧ u ≤ 7) ∧ (0 ≤ v ∧ v ≤ 7) ∧ 0 ≤ fm ∧ fm ≤ 3) → qz_I h 202 6 ≠ 0 → ∀ m, uz_FL F (decide (fm = 1 ∨ fm = 3)) (X u.toNat ++ X v.toNat) m → 2000 < m.length → ∀ g, ez_B τ g → ez_fr (co_P 196) h g → Q (.inr g.1, xc g 0)) (k1 : ((0 ≤ t ∧ t ≤ 7) ∧ (0 ≤ u ∧ u ≤ 7) ∧ (0 ≤ v ∧ v ≤ 7) ∧ 0 ≤ fm ∧ fm ≤ 3) → qz_I h 202 6 ≠ 0 → ∀ m res, uz_FL F (decide (fm = 1 ∨ fm = 3)) (X u.toNat ++ X v.toNat) m → m.length ≤ 2000 → nfR F E fm m res → ptl res → ∀ g2, ez_B τ g2 → ez_fr (co_P 196) h g2 → ∀ g, ez_B τ g → ez_fr (tx_P (754 + 2 * t.toNat)) g2 g → tx g (754 + 2 * t.toNat) res → Q (.inl (some (ez_v (.inl (res.length : Int)))), g)) : ez_W (d + 8) cm_17 0 [(0, .inr (.inr (some (192)))), (1, .inl (t)), (2, .inl (u)), (3, .inl (v)), (4, .inl (fm))] [] h Q := by
  have hB := hC.1
  have hX := hC.2.1
  have t192 : τ 192 = 44 := hX 192 (by decide)
  obtain ⟨tr1, tr2⟩ := id tr
  obtain ⟨ur1, ur2⟩ := id ur
  obtain ⟨vr1, vr2⟩ := id vr
  obtain ⟨fmr1, fmr2⟩ := id fmr
  refine ez_go (n := 1) (pc' := 1) (L' := [(0, .inr (.inr (some (192)))), (1, .inl (t)), (2, .inl (u)), (3, .inl (v)), (4, .inl (fm))]) (st' := [.inl (t)]) rfl ?_
  refine ez_cs hB.2.1 rfl rfl rfl rfl rfl (rd_reqSlot hB (show ez_rg (t) by assumption) (by omega) (by omega) (fun a4 b4 => ez_K0 ?_) (fun w => ez_Kp (xc_exc hB rfl) rfl (kA (by omega))))
  refine ez_go (n := 1) (pc' := 5) (L' := [(0, .inr (.inr (some (192)))), (1, .inl (t)), (2, .inl (u)), (3, .inl (v)), (4, .inl (fm))]) (st' := [.inl (u)]) rfl ?_
  refine ez_cs hB.2.1 rfl rfl rfl rfl rfl (rd_reqSlot hB (show ez_rg (u) by assumption) (by omega) (by omega) (fun a5 b5 => ez_K0 ?_) (fun w => ez_Kp (xc_exc hB rfl) rfl (kA (by omega))))
  refine ez_go (n := 1) (pc' := 9) (L' := [(0, .inr (.inr (some (192)))), (1, .inl (t)), (2, .inl (u)), (3, .inl (v)), (4, .inl (fm))]) (st' := [.inl (v)]) rfl ?_
  refine ez_cs hB.2.1 rfl rfl rfl rfl rfl (rd_reqSlot hB (show ez_rg (v) by assumption) (by omega) (by omega) (fun a6 b6 => ez_K0 ?_) (fun w => ez_Kp (xc_exc hB rfl) rfl (kA (by omega))))
  refine ez_go (n := 3) (pc' := 16) (L' := [(0, .inr (.inr (some (192)))), (1, .inl (t)), (2, .inl (u)), (3, .inl (v)), (4, .inl (fm))]) (st' := [.inl (3), .inl (0), .inl (fm)]) rfl ?_
  refine ez_cs hB.2.1 rfl rfl rfl rfl rfl (rd_reqRange ⟨by omega, by omega⟩ ⟨by omega, by omega⟩ ⟨by omega, by omega⟩ (by omega) (by omega) (fun a7 b7 => ez_K0 ?_) (fun w => ez_Kp (xc_exc hB rfl) rfl (kA (by omega))))
  refine ez_go (n := 1) (pc' := 20) (L' := [(0, .inr (.inr (some (192)))), (1, .inl (t)), (2, .inl (u)), (3, .inl (v)), (4, .inl (fm))]) (st' := [.inr (.inr (some (192)))]) rfl ?_
  refine ez_cv hB t192 rfl rfl rfl tq_44 rfl rfl rfl (rd_reqSealed hB t192 (by omega) (by omega) (fun hsd => ez_K0 ?_) (fun w => ez_Kp (xc_exc hB rfl) rfl (kS (by omega) w)))
  refine ez_go (n := 1) (pc' := 24) (L' := [(0, .inr (.inr (some (192)))), (1, .inl (t)), (2, .inl (u)), (3, .inl (v)), (4, .inl (fm))]) (st' := [.inr (.inr (some (192)))]) rfl ?_
  refine ez_gC (p := 729) (tg := 61) hB t192 rfl rfl tq_44 rfl rfl (fun (t729 : _ = 61) => ?_)
  refine ez_go (n := 1) (pc' := 28) (L' := [(0, .inr (.inr (some (192)))), (1, .inl (t)), (2, .inl (u)), (3, .inl (v)), (4, .inl (fm))]) (st' := [.inr (.inr (some (192))), .inr (.inr (some (729)))]) rfl ?_
  refine ez_gC (p := 195) (tg := 47) hB t192 rfl rfl tq_44 rfl rfl (fun (t195 : _ = 47) => ?_)
  refine ez_go (n := 1) (pc' := 32) (L' := [(0, .inr (.inr (some (192)))), (1, .inl (t)), (2, .inl (u)), (3, .inl (v)), (4, .inl (fm))]) (st' := [.inl (u), .inr (.inr (some (195))), .inr (.inr (some (729)))]) rfl ?_
  have n2 : 8 ≤ qz_N h 195 ∧ qz_N h 195 ≤ 8 := ez_len hB t195 tq_47 rfl
  have y3 : 1 ≤ qz_I h 195 (u).toNat ∧ qz_I h 195 (u).toNat ≤ 1000000 := ez_aB hB t195 tq_47 rfl rfl (by decide) (by omega) (by omega)
  have y3' : ((qz_P h 195 (u).toNat : Nat) : Int) + 1 = qz_I h 195 (u).toNat := by unfold qz_P; omega
  refine ez_aR hB t195 rfl tq_47 rfl rfl (by omega) (by omega) (by omega) (fun (t1 : _ = 88) => ?_)
  rw [show qz_P h 195 (u).toNat = 754 + 2 * (u).toNat by unfold qz_P; have := (sl (u).toNat (by omega)).1; omega]
  refine ez_go (n := 1) (pc' := 34) (L' := [(0, .inr (.inr (some (192)))), (1, .inl (t)), (2, .inl (u)), (3, .inl (v)), (4, .inl (fm))]) (st' := [.inr (.inr (some (192))), .inr (.inr (some (754 + 2 * (u).toNat))), .inr (.inr (some (729)))]) rfl ?_
  refine ez_gC (p := 195) (tg := 47) hB t192 rfl rfl tq_44 rfl rfl (fun (t195 : _ = 47) => ?_)
  refine ez_go (n := 1) (pc' := 38) (L' := [(0, .inr (.inr (some (192)))), (1, .inl (t)), (2, .inl (u)), (3, .inl (v)), (4, .inl (fm))]) (st' := [.inl (v), .inr (.inr (some (195))), .inr (.inr (some (754 + 2 * (u).toNat))), .inr (.inr (some (729)))]) rfl ?_
  have n5 : 8 ≤ qz_N h 195 ∧ qz_N h 195 ≤ 8 := ez_len hB t195 tq_47 rfl
  have y6 : 1 ≤ qz_I h 195 (v).toNat ∧ qz_I h 195 (v).toNat ≤ 1000000 := ez_aB hB t195 tq_47 rfl rfl (by decide) (by omega) (by omega)
  have y6' : ((qz_P h 195 (v).toNat : Nat) : Int) + 1 = qz_I h 195 (v).toNat := by unfold qz_P; omega
  refine ez_aR hB t195 rfl tq_47 rfl rfl (by omega) (by omega) (by omega) (fun (t4 : _ = 88) => ?_)
  rw [show qz_P h 195 (v).toNat = 754 + 2 * (v).toNat by unfold qz_P; have := (sl (v).toNat (by omega)).1; omega]
  refine ez_go (n := 1) (pc' := 40) (L' := [(0, .inr (.inr (some (192)))), (1, .inl (t)), (2, .inl (u)), (3, .inl (v)), (4, .inl (fm))]) (st' := [.inr (.inr (some (192))), .inr (.inr (some (754 + 2 * (v).toNat))), .inr (.inr (some (754 + 2 * (u).toNat))), .inr (.inr (some (729)))]) rfl ?_
  refine ez_gC (p := 196) (tg := 1) hB t192 rfl rfl tq_44 rfl rfl (fun (t196 : _ = 1) => ?_)
  refine ez_go (n := 1) (pc' := 45) (L' := [(0, .inr (.inr (some (192)))), (1, .inl (t)), (2, .inl (u)), (3, .inl (v)), (4, .inl (fm))]) (st' := [.inl (fm), .inr (.inr (some (196))), .inr (.inr (some (754 + 2 * (v).toNat))), .inr (.inr (some (754 + 2 * (u).toNat))), .inr (.inr (some (729)))]) rfl ?_
  have tu := txh (u).toNat (by omega)
  have tv := txh (v).toNat (by omega)
  refine ez_cv hB t729 rfl rfl rfl tq_61 rfl rfl rfl (rd_conv2s hC (hsl hsd).1 hw (hsl hsd).2 (hX 196 (by decide)) (Or.inl (by decide)) (mx_tag hX (show (u).toNat < 8 by omega)).2.1 (by omega) tu.1 tu.2.1 (mx_tag hX (show (v).toNat < 8 by omega)).2.1 (by omega) tv.1 tv.2.1 ⟨by omega, by omega⟩ (fun m res um lt nf pr g2 hB2 f2 t2 => ez_K1 ?_) (fun m um lt g2 hB2 f2 => ez_K1 ?_))
  · have rm1 := f2.1; have rm2 := f2.2.1
    refine ez_cs hB2.2.1 rfl rfl rfl rfl rfl (rd_reqRoom1 (ez_K0 ?_))
    refine ez_go (n := 2) (pc' := 53) (L' := [(0, .inr (.inr (some (192)))), (1, .inl (t)), (2, .inl (u)), (3, .inl (v)), (4, .inl (fm))]) (st' := [.inl (t), .inr (.inr (some (192)))]) rfl ?_
    have sl2 : slt g2 := sl.k (f2.2.2 195 (co_Pn (by decide) (by decide) (by decide))) (f2.2.2 773 (co_Pn (by decide) (by decide) (by decide)))
    refine ez_cv hB2 t192 rfl rfl rfl tq_44 rfl rfl rfl (rd_keepMade hB2 hX sl2 t2 (by omega) (by omega) (fun g3 hB3 f3 t3 => ez_K1 ?_))
    exact ez_retI rfl rfl (k1 (by omega) hsd m res um lt nf pr g2 hB2 f2 g3 hB3 f3 t3)
  · have rm1 := f2.1; have rm2 := f2.2.1
    exact ez_cs hB2.2.1 rfl rfl rfl rfl rfl (rd_reqRoom0 (by omega) (by omega) (ez_Kp (xc_exc hB2 rfl) rfl (kX (by omega) hsd m um lt g2 hB2 f2)))

theorem rd_cpart {t u i j : Int} (hB : ez_B τ h) (hX : jz_X τ) (sl : slt h) (txh : txs h X) (tr : ez_rg t) (ur : ez_rg u) (ir : ez_rg i) (jr : ez_rg j) (hr1 : h.1 + 1 ≤ 600192) (hr2 : h.2.1 + 6 ≤ 7302232) (kA : (t < 0 ∨ 7 < t ∨ u < 0 ∨ 7 < u ∨ i < 0 ∨ j < i ∨ ((X u.toNat).length : Int) < j) → Q (.inr h.1, xc h 1)) (k1 : ((0 ≤ t ∧ t ≤ 7) ∧ (0 ≤ u ∧ u ≤ 7) ∧ 0 ≤ i ∧ i ≤ j ∧ j ≤ ((X u.toNat).length : Int)) → ∀ g, ez_B τ g → ez_fr (tx_P (754 + 2 * t.toNat)) h g → tx g (754 + 2 * t.toNat) (pt (X u.toNat) i j) → Q (.inl (some (ez_v (.inl ((pt (X u.toNat) i j).length : Int)))), g)) : ez_W (d + 8) cm_25 0 [(0, .inr (.inr (some (192)))), (1, .inl (t)), (2, .inl (u)), (3, .inl (i)), (4, .inl (j))] [] h Q := by
  have t192 : τ 192 = 44 := hX 192 (by decide)
  obtain ⟨tr1, tr2⟩ := id tr
  obtain ⟨ur1, ur2⟩ := id ur
  obtain ⟨ir1, ir2⟩ := id ir
  obtain ⟨jr1, jr2⟩ := id jr
  refine ez_go (n := 1) (pc' := 1) (L' := [(0, .inr (.inr (some (192)))), (1, .inl (t)), (2, .inl (u)), (3, .inl (i)), (4, .inl (j))]) (st' := [.inl (t)]) rfl ?_
  refine ez_cs hB.2.1 rfl rfl rfl rfl rfl (rd_reqSlot hB (show ez_rg (t) by assumption) (by omega) (by omega) (fun a8 b8 => ez_K0 ?_) (fun w => ez_Kp (xc_exc hB rfl) rfl (kA (by omega))))
  refine ez_go (n := 1) (pc' := 5) (L' := [(0, .inr (.inr (some (192)))), (1, .inl (t)), (2, .inl (u)), (3, .inl (i)), (4, .inl (j))]) (st' := [.inl (u)]) rfl ?_
  refine ez_cs hB.2.1 rfl rfl rfl rfl rfl (rd_reqSlot hB (show ez_rg (u) by assumption) (by omega) (by omega) (fun a9 b9 => ez_K0 ?_) (fun w => ez_Kp (xc_exc hB rfl) rfl (kA (by omega))))
  refine ez_go (n := 3) (pc' := 12) (L' := [(0, .inr (.inr (some (192)))), (1, .inl (t)), (2, .inl (u)), (3, .inl (i)), (4, .inl (j))]) (st' := [.inr (.inr (some (192))), .inl (0), .inl (j)]) rfl ?_
  refine ez_gC (p := 195) (tg := 47) hB t192 rfl rfl tq_44 rfl rfl (fun (t195 : _ = 47) => ?_)
  refine ez_go (n := 1) (pc' := 16) (L' := [(0, .inr (.inr (some (192)))), (1, .inl (t)), (2, .inl (u)), (3, .inl (i)), (4, .inl (j))]) (st' := [.inl (u), .inr (.inr (some (195))), .inl (0), .inl (j)]) rfl ?_
  have n2 : 8 ≤ qz_N h 195 ∧ qz_N h 195 ≤ 8 := ez_len hB t195 tq_47 rfl
  have y3 : 1 ≤ qz_I h 195 (u).toNat ∧ qz_I h 195 (u).toNat ≤ 1000000 := ez_aB hB t195 tq_47 rfl rfl (by decide) (by omega) (by omega)
  have y3' : ((qz_P h 195 (u).toNat : Nat) : Int) + 1 = qz_I h 195 (u).toNat := by unfold qz_P; omega
  refine ez_aR hB t195 rfl tq_47 rfl rfl (by omega) (by omega) (by omega) (fun (t1 : _ = 88) => ?_)
  rw [show qz_P h 195 (u).toNat = 754 + 2 * (u).toNat by unfold qz_P; have := (sl (u).toNat (by omega)).1; omega]
  refine ez_gI hB (mx_tag hX (show (u).toNat < 8 by omega)).2.1 rfl rfl tq_88 rfl rfl (fun (b4 : 0 ≤ qz_I h (754 + 2 * (u).toNat) 1) (b4' : qz_I h (754 + 2 * (u).toNat) 1 ≤ 2000) => ?_)
  have tu := txh (u).toNat (by omega)
  have tul := tu.2.2
  rw [show qz_I h (754 + 2 * (u).toNat) 1 = ((X (u).toNat).length : Int) from tu.1.1]
  refine ez_cs hB.2.1 rfl rfl rfl rfl rfl (rd_reqRange ⟨by omega, by omega⟩ ⟨by omega, by omega⟩ ⟨by omega, by omega⟩ (by omega) (by omega) (fun a10 b10 => ez_K0 ?_) (fun w => ez_Kp (xc_exc hB rfl) rfl (kA (by omega))))
  refine ez_go (n := 3) (pc' := 27) (L' := [(0, .inr (.inr (some (192)))), (1, .inl (t)), (2, .inl (u)), (3, .inl (i)), (4, .inl (j))]) (st' := [.inl (j), .inl (0), .inl (i)]) rfl ?_
  refine ez_cs hB.2.1 rfl rfl rfl rfl rfl (rd_reqRange ⟨by omega, by omega⟩ ⟨by omega, by omega⟩ ⟨by omega, by omega⟩ (by omega) (by omega) (fun a11 b11 => ez_K0 ?_) (fun w => ez_Kp (xc_exc hB rfl) rfl (kA (by omega))))
  refine ez_go (n := 1) (pc' := 31) (L' := [(0, .inr (.inr (some (192)))), (1, .inl (t)), (2, .inl (u)), (3, .inl (i)), (4, .inl (j))]) (st' := [.inr (.inr (some (192)))]) rfl ?_
  refine ez_gC (p := 195) (tg := 47) hB t192 rfl rfl tq_44 rfl rfl (fun (t195 : _ = 47) => ?_)
  refine ez_go (n := 1) (pc' := 35) (L' := [(0, .inr (.inr (some (192)))), (1, .inl (t)), (2, .inl (u)), (3, .inl (i)), (4, .inl (j))]) (st' := [.inl (t), .inr (.inr (some (195)))]) rfl ?_
  have n6 : 8 ≤ qz_N h 195 ∧ qz_N h 195 ≤ 8 := ez_len hB t195 tq_47 rfl
  have y7 : 1 ≤ qz_I h 195 (t).toNat ∧ qz_I h 195 (t).toNat ≤ 1000000 := ez_aB hB t195 tq_47 rfl rfl (by decide) (by omega) (by omega)
  have y7' : ((qz_P h 195 (t).toNat : Nat) : Int) + 1 = qz_I h 195 (t).toNat := by unfold qz_P; omega
  refine ez_aR hB t195 rfl tq_47 rfl rfl (by omega) (by omega) (by omega) (fun (t5 : _ = 88) => ?_)
  rw [show qz_P h 195 (t).toNat = 754 + 2 * (t).toNat by unfold qz_P; have := (sl (t).toNat (by omega)).1; omega]
  refine ez_go (n := 1) (pc' := 37) (L' := [(0, .inr (.inr (some (192)))), (1, .inl (t)), (2, .inl (u)), (3, .inl (i)), (4, .inl (j))]) (st' := [.inr (.inr (some (192))), .inr (.inr (some (754 + 2 * (t).toNat)))]) rfl ?_
  refine ez_gC (p := 195) (tg := 47) hB t192 rfl rfl tq_44 rfl rfl (fun (t195 : _ = 47) => ?_)
  refine ez_go (n := 1) (pc' := 41) (L' := [(0, .inr (.inr (some (192)))), (1, .inl (t)), (2, .inl (u)), (3, .inl (i)), (4, .inl (j))]) (st' := [.inl (u), .inr (.inr (some (195))), .inr (.inr (some (754 + 2 * (t).toNat)))]) rfl ?_
  have n9 : 8 ≤ qz_N h 195 ∧ qz_N h 195 ≤ 8 := ez_len hB t195 tq_47 rfl
  have y10 : 1 ≤ qz_I h 195 (u).toNat ∧ qz_I h 195 (u).toNat ≤ 1000000 := ez_aB hB t195 tq_47 rfl rfl (by decide) (by omega) (by omega)
  have y10' : ((qz_P h 195 (u).toNat : Nat) : Int) + 1 = qz_I h 195 (u).toNat := by unfold qz_P; omega
  refine ez_aR hB t195 rfl tq_47 rfl rfl (by omega) (by omega) (by omega) (fun (t8 : _ = 88) => ?_)
  rw [show qz_P h 195 (u).toNat = 754 + 2 * (u).toNat by unfold qz_P; have := (sl (u).toNat (by omega)).1; omega]
  refine ez_go (n := 2) (pc' := 45) (L' := [(0, .inr (.inr (some (192)))), (1, .inl (t)), (2, .inl (u)), (3, .inl (i)), (4, .inl (j))]) (st' := [.inl (j), .inl (i), .inr (.inr (some (754 + 2 * (u).toNat))), .inr (.inr (some (754 + 2 * (t).toNat)))]) rfl ?_
  refine ez_cv hB (mx_tag hX (show (t).toNat < 8 by omega)).2.1 rfl rfl rfl tq_88 rfl rfl rfl (rd_takePart_s hB (mx_tag hX (show (t).toNat < 8 by omega)).2.1 (mx_tag hX (show (u).toNat < 8 by omega)).2.1 tu.1 (by omega) (by omega) (by omega) (fun g hBg fg ag => ez_K0 ?_))
  have c95 : ∀ j, qz_I g 195 j = qz_I h 195 j := fun j => fg.I (tx_Pn (by omega) (by omega)) j
  refine ez_go (n := 1) (pc' := 49) (L' := [(0, .inr (.inr (some (192)))), (1, .inl (t)), (2, .inl (u)), (3, .inl (i)), (4, .inl (j))]) (st' := [.inr (.inr (some (192)))]) rfl ?_
  refine ez_gC (p := 195) (tg := 47) hBg t192 rfl rfl tq_44 rfl rfl (fun (t195 : _ = 47) => ?_)
  refine ez_go (n := 1) (pc' := 53) (L' := [(0, .inr (.inr (some (192)))), (1, .inl (t)), (2, .inl (u)), (3, .inl (i)), (4, .inl (j))]) (st' := [.inl (t), .inr (.inr (some (195)))]) rfl ?_
  have n12 : 8 ≤ qz_N g 195 ∧ qz_N g 195 ≤ 8 := ez_len hBg t195 tq_47 rfl
  have y13 : 1 ≤ qz_I g 195 (t).toNat ∧ qz_I g 195 (t).toNat ≤ 1000000 := ez_aB hBg t195 tq_47 rfl rfl (by decide) (by omega) (by omega)
  have y13' : ((qz_P g 195 (t).toNat : Nat) : Int) + 1 = qz_I g 195 (t).toNat := by unfold qz_P; omega
  refine ez_aR hBg t195 rfl tq_47 rfl rfl (by omega) (by omega) (by omega) (fun (t11 : _ = 88) => ?_)
  rw [show qz_P g 195 (t).toNat = 754 + 2 * (t).toNat by unfold qz_P; have := (sl (t).toNat (by omega)).1; rw [show qz_I g 195 (t).toNat = qz_I h 195 (t).toNat from c95 _]; omega]
  refine ez_gI hBg (mx_tag hX (show (t).toNat < 8 by omega)).2.1 rfl rfl tq_88 rfl rfl (fun (b14 : 0 ≤ qz_I g (754 + 2 * (t).toNat) 1) (b14' : qz_I g (754 + 2 * (t).toNat) 1 ≤ 2000) => ?_)
  rw [show qz_I g (754 + 2 * (t).toNat) 1 = ((pt (X u.toNat) i j).length : Int) from ag.1]
  exact ez_retI rfl rfl (k1 ⟨by omega, by omega, by omega, by omega, by omega⟩ g hBg fg ag)

theorem rd_cadd {t p : Int} (hB : ez_B τ h) (hX : jz_X τ) (sl : slt h) (txh : txs h X) (tr : ez_rg t) (pr : ez_rg p) (hr1 : h.1 + 1 ≤ 600192) (hr2 : h.2.1 + 6 ≤ 7302232) (kA : (t < 0 ∨ 7 < t ∨ p < 0 ∨ 1114111 < p) → Q (.inr h.1, xc h 1)) (kB : ((0 ≤ t ∧ t ≤ 7) ∧ 0 ≤ p ∧ p ≤ 1114111) → (X t.toNat).length = 2000 → Q (.inr h.1, xc h 0)) (k1 : ((0 ≤ t ∧ t ≤ 7) ∧ 0 ≤ p ∧ p ≤ 1114111) → (X t.toNat).length < 2000 → ∀ g, ez_B τ g → ez_fr (tx_P (754 + 2 * t.toNat)) h g → tx g (754 + 2 * t.toNat) (X t.toNat ++ [p]) → Q (.inl (some (ez_v (.inl (((X t.toNat).length : Int) + 1)))), g)) : ez_W (d + 8) cm_3 0 [(0, .inr (.inr (some (192)))), (1, .inl (t)), (2, .inl (p))] [] h Q := by
  have t192 : τ 192 = 44 := hX 192 (by decide)
  obtain ⟨tr1, tr2⟩ := id tr
  obtain ⟨pr1, pr2⟩ := id pr
  refine ez_go (n := 1) (pc' := 1) (L' := [(0, .inr (.inr (some (192)))), (1, .inl (t)), (2, .inl (p))]) (st' := [.inl (t)]) rfl ?_
  refine ez_cs hB.2.1 rfl rfl rfl rfl rfl (rd_reqSlot hB (show ez_rg (t) by assumption) (by omega) (by omega) (fun a12 b12 => ez_K0 ?_) (fun w => ez_Kp (xc_exc hB rfl) rfl (kA (by omega))))
  refine ez_go (n := 2) (pc' := 6) (L' := [(0, .inr (.inr (some (192)))), (1, .inl (t)), (2, .inl (p))]) (st' := [.inl (0), .inl (p)]) rfl ?_
  refine ez_ldc (1114111) rfl rfl rfl ?_
  refine ez_cs hB.2.1 rfl rfl rfl rfl rfl (rd_reqRange ⟨by omega, by omega⟩ ⟨by omega, by omega⟩ ⟨by omega, by omega⟩ (by omega) (by omega) (fun a13 b13 => ez_K0 ?_) (fun w => ez_Kp (xc_exc hB rfl) rfl (kA (by omega))))
  refine ez_go (n := 1) (pc' := 12) (L' := [(0, .inr (.inr (some (192)))), (1, .inl (t)), (2, .inl (p))]) (st' := [.inr (.inr (some (192)))]) rfl ?_
  refine ez_gC (p := 195) (tg := 47) hB t192 rfl rfl tq_44 rfl rfl (fun (t195 : _ = 47) => ?_)
  refine ez_go (n := 1) (pc' := 16) (L' := [(0, .inr (.inr (some (192)))), (1, .inl (t)), (2, .inl (p))]) (st' := [.inl (t), .inr (.inr (some (195)))]) rfl ?_
  have n2 : 8 ≤ qz_N h 195 ∧ qz_N h 195 ≤ 8 := ez_len hB t195 tq_47 rfl
  have y3 : 1 ≤ qz_I h 195 (t).toNat ∧ qz_I h 195 (t).toNat ≤ 1000000 := ez_aB hB t195 tq_47 rfl rfl (by decide) (by omega) (by omega)
  have y3' : ((qz_P h 195 (t).toNat : Nat) : Int) + 1 = qz_I h 195 (t).toNat := by unfold qz_P; omega
  refine ez_aR hB t195 rfl tq_47 rfl rfl (by omega) (by omega) (by omega) (fun (t1 : _ = 88) => ?_)
  rw [show qz_P h 195 (t).toNat = 754 + 2 * (t).toNat by unfold qz_P; have := (sl (t).toNat (by omega)).1; omega]
  refine ez_go (n := 1) (pc' := 18) (L' := [(0, .inr (.inr (some (192)))), (1, .inl (t)), (2, .inl (p))]) (st' := [.inl (p), .inr (.inr (some (754 + 2 * (t).toNat)))]) rfl ?_
  have tt := txh (t).toNat (by omega)
  refine ez_cv hB (mx_tag hX (show (t).toNat < 8 by omega)).2.1 rfl rfl rfl tq_88 rfl rfl rfl (rd_txa_s hB (mx_tag hX (show (t).toNat < 8 by omega)).2.1 tt.1 ⟨by omega, by omega⟩ (fun lt g hBg fg ag => ez_K1 ?_) (fun lt => ez_K1 ?_))
  · have c95 : ∀ j, qz_I g 195 j = qz_I h 195 j := fun j => fg.I (tx_Pn (by omega) (by omega)) j
    refine ez_cs hBg.2.1 rfl rfl rfl rfl rfl (rd_reqRoom1 (ez_K0 ?_))
    refine ez_go (n := 1) (pc' := 25) (L' := [(0, .inr (.inr (some (192)))), (1, .inl (t)), (2, .inl (p))]) (st' := [.inr (.inr (some (192)))]) rfl ?_
    refine ez_gC (p := 195) (tg := 47) hBg t192 rfl rfl tq_44 rfl rfl (fun (t195 : _ = 47) => ?_)
    refine ez_go (n := 1) (pc' := 29) (L' := [(0, .inr (.inr (some (192)))), (1, .inl (t)), (2, .inl (p))]) (st' := [.inl (t), .inr (.inr (some (195)))]) rfl ?_
    have n5 : 8 ≤ qz_N g 195 ∧ qz_N g 195 ≤ 8 := ez_len hBg t195 tq_47 rfl
    have y6 : 1 ≤ qz_I g 195 (t).toNat ∧ qz_I g 195 (t).toNat ≤ 1000000 := ez_aB hBg t195 tq_47 rfl rfl (by decide) (by omega) (by omega)
    have y6' : ((qz_P g 195 (t).toNat : Nat) : Int) + 1 = qz_I g 195 (t).toNat := by unfold qz_P; omega
    refine ez_aR hBg t195 rfl tq_47 rfl rfl (by omega) (by omega) (by omega) (fun (t4 : _ = 88) => ?_)
    rw [show qz_P g 195 (t).toNat = 754 + 2 * (t).toNat by unfold qz_P; have := (sl (t).toNat (by omega)).1; rw [show qz_I g 195 (t).toNat = qz_I h 195 (t).toNat from c95 _]; omega]
    refine ez_gI hBg (mx_tag hX (show (t).toNat < 8 by omega)).2.1 rfl rfl tq_88 rfl rfl (fun (b7 : 0 ≤ qz_I g (754 + 2 * (t).toNat) 1) (b7' : qz_I g (754 + 2 * (t).toNat) 1 ≤ 2000) => ?_)
    rw [show qz_I g (754 + 2 * (t).toNat) 1 = ((X (t).toNat).length : Int) + 1 from ag.1.trans (by rw [List.length_append]; rfl)]
    exact ez_retI rfl rfl (k1 (by omega) lt g hBg fg ag)
  · skip
    exact ez_cs hB.2.1 rfl rfl rfl rfl rfl (rd_reqRoom0 (by omega) (by omega) (ez_Kp (xc_exc hB rfl) rfl (kB (by omega) (by have := tt.2.2; omega))))

end EzCt
