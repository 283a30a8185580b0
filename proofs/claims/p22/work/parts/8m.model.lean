/-! The model: row, optional. (Written by wip/p2/py/pv57.py.) -/
def rX (sp cp q : Nat) : Bool := Nat.beq q sp || Nat.beq q cp
theorem kl.base {τ τ1 : Nat → Nat} {h h1 g : cz_H} {A : List Int} {sp cp : Nat} (a : kl (ez_one cp) τ h1 τ1 g A) (hf : ez_fr (ez_one sp) h h1) (n7 : sp ≠ 770) (np : sp ≠ po h) : kl (rX sp cp) τ h τ1 g A := by
  obtain ⟨a1, a2, a3, a4, a5, a6, a7, a8, a9, a10, a11⟩ := a
  have e0 : ∀ j, qz_I h1 770 j = qz_I h 770 j := fun j => hf.I (dz_beq_ne (Ne.symm n7)) j
  have ep : po h1 = po h := by unfold po qz_P; rw [e0]
  have en : pn h1 = pn h := e0 10
  have el : ∀ j, pl h1 j = pl h j := fun j => by unfold pl; rw [ep]; exact hf.I (dz_beq_ne (Ne.symm np)) _
  have eN : qz_N h1 (po h) = qz_N h (po h) := hf.N (dz_beq_ne (Ne.symm np))
  rw [ep] at a1 a8 a9 a11
  rw [en] at a5 a6 a7
  rw [eN] at a8 a9
  rw [hf.1] at a9 a10
  rw [hf.2.1] at a9 a10
  refine ⟨fun q hq => ⟨(a1 q hq).1, fun q1 q2 q3 => ?_⟩, a2, a3, fun j j1 j2 j3 => (a4 j j1 j2 j3).trans (e0 j), a5, fun j j0 j1 => (a6 j j0 j1).trans (el j), a7, a8, a9, a10, a11⟩
  unfold rX at q3
  obtain ⟨w1, w2⟩ := Bool.or_eq_false_iff.mp q3
  rw [(a1 q hq).2 q1 q2 w2, hf.2.2 q w1]
theorem rX_sp (sp cp : Nat) : rX sp cp sp = true := by unfold rX; rw [Nat.beq_refl]; rfl
theorem kl_mb {X : Nat → Bool} {τ τ1 : Nat → Nat} {h g : cz_H} {A : List Int} (a : kl X τ h τ1 g A) (t771 : τ 771 = 76) (tpo : τ (po h) = 17) (hX : X 771 = false) : mb g = mb h := funext fun i => by unfold mb qz_I; rw [(a.1 771 (by rw [t771]; decide)).2 (by decide) (fun e => by rw [← e, t771] at tpo; cases tpo) hX]
section EzRo
variable {d : Nat} {h : cz_H} {τ : Nat → Nat} {Q : cz_F → Prop} {l : Nat}
theorem rd_row_z {k mo : Int} (t770 : τ 770 = 75) (tl : τ l = 13) (tcp : τ (qz_P h l 8) = 16) (n770 : l ≠ 770) (he : qz_I h 770 17 = qz_I h 770 18) (hs18 : qz_I h 770 18 ≤ 4096) (hc0 : qz_I h (qz_P h l 8) k.toNat = 0) (k0' : 0 ≤ k) (k1' : k < 3) (hmo : 0 < mo ∧ mo ≤ 18) (hr1 : h.1 + 1 ≤ 600192) (hr2 : h.2.1 + 6 ≤ 7302232) (hB : ez_B τ h) (kz : ∀ g, ez_B τ g → mz h g → Q (.inr g.1, xc g 1)) : ez_W (d + 8) cm_297 10 [(0, .inr (.inr (some (770)))), (1, .inr (.inr (some (l)))), (2, .inl (k)), (3, .inl (mo))] [] h Q := by
  refine ez_go (n := 2) (pc' := 12) (L' := [(0, .inr (.inr (some (770)))), (1, .inr (.inr (some (l)))), (2, .inl (k)), (3, .inl (mo))]) (st' := [.inr (.inr (some (l))), .inr (.inr (some (770)))]) rfl ?_
  refine ez_gR hB tl rfl rfl tq_13 rfl rfl (fun (t1 : _ = 16) (t1' : 1 ≤ qz_I h l 8) => ?_)
  refine ez_go (n := 1) (pc' := 16) (L' := [(0, .inr (.inr (some (770)))), (1, .inr (.inr (some (l)))), (2, .inl (k)), (3, .inl (mo))]) (st' := [.inl (k), .inr (.inr (some (qz_P h l 8))), .inr (.inr (some (770)))]) rfl ?_
  have n3 : 3 ≤ qz_N h (qz_P h l 8) ∧ qz_N h (qz_P h l 8) ≤ 3 := ez_len hB t1 tq_16 rfl
  refine ez_aI hB t1 rfl tq_16 rfl rfl (by omega) (by omega) (fun (b2 : 0 ≤ qz_I h (qz_P h l 8) (k).toNat) (b2' : qz_I h (qz_P h l 8) (k).toNat ≤ 18) => ?_)
  have hc9 : qz_I h (qz_P h l 8) (k).toNat = 0 := hc0
  refine ez_go (n := 1) (pc' := 18) (L' := [(0, .inr (.inr (some (770)))), (1, .inr (.inr (some (l)))), (2, .inl (k)), (3, .inl (mo))]) (st' := [.inl (mo), .inl (qz_I h (qz_P h l 8) (k).toNat), .inr (.inr (some (770)))]) rfl ?_
  refine ez_icmp rfl rfl ⟨by first | omega | exact (sz_i32 _).1, by first | omega | exact (sz_i32 _).2⟩ ⟨by first | omega | exact (sz_i32 _).1, by first | omega | exact (sz_i32 _).2⟩ (fun (c4 : (mo) ≤ (qz_I h (qz_P h l 8) (k).toNat)) => ?_) (fun (c4 : ¬((mo) ≤ (qz_I h (qz_P h l 8) (k).toNat))) => ?_)
  · skip
    refine ez_go (n := 1) (pc' := 26) (L' := [(0, .inr (.inr (some (770)))), (1, .inr (.inr (some (l)))), (2, .inl (k)), (3, .inl (mo))]) (st' := [.inl (0), .inr (.inr (some (770)))]) rfl ?_
    exfalso; omega
  · skip
    refine ez_go (n := 2) (pc' := 26) (L' := [(0, .inr (.inr (some (770)))), (1, .inr (.inr (some (l)))), (2, .inl (k)), (3, .inl (mo))]) (st' := [.inl (1), .inr (.inr (some (770)))]) rfl ?_
    refine ez_cv hB t770 rfl rfl rfl tq_75 rfl rfl rfl (rd_can1 (by omega) (by omega) (ez_K0 ?_))
    refine ez_go (n := 2) (pc' := 31) (L' := [(0, .inr (.inr (some (770)))), (1, .inr (.inr (some (l)))), (2, .inl (k)), (3, .inl (mo))]) (st' := [.inr (.inr (some (770))), .inr (.inr (some (770)))]) rfl ?_
    have hz : rz_code (mb h) (qz_I h 770 17) (me (mb h) (qz_I h 770 18 - qz_I h 770 17).toNat (qz_I h 770 17)) = -1 := by rw [show (qz_I h 770 18 - qz_I h 770 17).toNat = 0 by omega, me]; unfold rz_code; rw [if_pos (by omega)]
    refine ez_cv hB t770 rfl rfl rfl tq_75 rfl rfl rfl (rd_code hB t770 (by omega) (by omega) (by omega) hs18 (fun g1 hB1 m1 a1 v1 => absurd hz v1) (fun hno g1 hB1 m1 => ez_Kp (xc_exc hB1 rfl) rfl (kz g1 hB1 m1)))

theorem rd_row {k mo s : Int} (hB : ez_B τ h) (u770 : τ 770 = 75) (t771 : τ 771 = 76) (ul : τ l = 13) (ucp : τ (qz_P h l 8) = 16) (tpo : τ (po h) = 17) (n770 : l ≠ 770) (k0' : 0 ≤ k) (k1' : k < 3) (h0 : 0 ≤ pn h) (hn : pn h ≤ qz_N h (po h)) (hpm : pn h + mo ≤ 38400) (hNh : 1024 ≤ qz_N h (po h)) (hmo0 : 0 ≤ mo) (hmo1 : 1 ≤ mo) (hmo : mo ≤ 18) (hr1 : h.1 + 100 ≤ 600192) (hr2 : h.2.1 + 240000 ≤ 7302232) (hs0 : 0 ≤ s) (hst0 : s ≤ qz_I h 770 18) (hs18 : qz_I h 770 18 ≤ 4096) (hsk : qz_I h 770 17 = rz_skip (mb h) (qz_I h 770 18 - s).toNat s) (htr : qz_I h 770 17 < qz_I h 770 18 → ¬ bk (mb h (qz_I h 770 18 - 1))) (hc0 : qz_I h (qz_P h l 8) k.toNat = 0) (k1 : ∀ A, rz_rw (mb h) mo s (qz_I h 770 18) = some A → ∀ g τ1, ez_B τ1 g → kl (rX (qz_P h l 7) (qz_P h l 8)) τ h τ1 g A → qz_I g 770 17 = qz_I h 770 18 → g.2.2 l = h.2.2 l → (∀ j, qz_I g (qz_P h l 7) j = if j = k.toNat then pn h else qz_I h (qz_P h l 7) j) → (∀ j, qz_I g (qz_P h l 8) j = if j = k.toNat then (A.length : Int) else qz_I h (qz_P h l 8) j) → Q (.inl none, g)) (k0 : rz_rw (mb h) mo s (qz_I h 770 18) = none → ∀ g τ1 A, ez_B τ1 g → kl (rX (qz_P h l 7) (qz_P h l 8)) τ h τ1 g A → g.2.2 l = h.2.2 l → (∀ j, qz_I g (qz_P h l 7) j = if j = k.toNat then pn h else qz_I h (qz_P h l 7) j) → (∀ j, qz_I g (qz_P h l 8) j = if j = k.toNat then (A.length : Int) else qz_I h (qz_P h l 8) j) → Q (.inr g.1, xc g 1)) : ez_W (d + 8) cm_297 0 [(0, .inr (.inr (some (770)))), (1, .inr (.inr (some (l)))), (2, .inl (k)), (3, .inl (mo))] [] h Q := by
  refine ez_go (n := 1) (pc' := 1) (L' := [(0, .inr (.inr (some (770)))), (1, .inr (.inr (some (l)))), (2, .inl (k)), (3, .inl (mo))]) (st' := [.inr (.inr (some (l)))]) rfl ?_
  refine ez_gR hB ul rfl rfl tq_13 rfl rfl (fun (t1 : _ = 15) (t1' : 1 ≤ qz_I h l 7) => ?_)
  refine ez_go (n := 2) (pc' := 6) (L' := [(0, .inr (.inr (some (770)))), (1, .inr (.inr (some (l)))), (2, .inl (k)), (3, .inl (mo))]) (st' := [.inr (.inr (some (770))), .inl (k), .inr (.inr (some (qz_P h l 7)))]) rfl ?_
  refine ez_gI hB u770 rfl rfl tq_75 rfl rfl (fun (b2 : 0 ≤ qz_I h 770 10) (b2' : qz_I h 770 10 ≤ 38500) => ?_)
  have n5 : 3 ≤ qz_N h (qz_P h l 7) ∧ qz_N h (qz_P h l 7) ≤ 3 := ez_len hB t1 tq_15 rfl
  refine ez_as hB t1 rfl tq_15 rfl rfl (by omega) (by omega) (ez_vdI rfl rfl (by omega) (by omega)) (fun hB3 w4 => ?_)
  refine ez_less [(0, .inr (.inr (some (770)))), (1, .inr (.inr (some (l)))), (2, .inl (k)), (3, .inl (mo))] rfl ⟨rfl, rfl, rfl, rfl, trivial⟩ ?_
  have tsp : τ (qz_P h l 7) = 15 := t1
  have nsl : qz_P h l 7 ≠ l := fun e => by rw [e, ul] at tsp; cases tsp
  have ns7 : qz_P h l 7 ≠ 770 := fun e => by rw [e, u770] at tsp; cases tsp
  have nsp : qz_P h l 7 ≠ po h := fun e => by rw [e, tpo] at tsp; cases tsp
  have nsc : qz_P h l 7 ≠ qz_P h l 8 := fun e => by rw [e, ucp] at tsp; cases tsp
  have n71 : 771 ≠ qz_P h l 7 := fun e => by rw [← e, t771] at tsp; cases tsp
  have n72 : 771 ≠ qz_P h l 8 := fun e => by rw [← e, t771] at ucp; cases ucp
  have f1 : ez_fr (ez_one (qz_P h l 7)) h (dz_put h (qz_P h l 7) (k).toNat (ez_v (.inl (qz_I h 770 10)))) := (ez_fr.refl (ez_one (qz_P h l 7)) h).put (show Nat.beq _ _ = true from Nat.beq_refl _) _ _
  have v1 : qz_I (dz_put h (qz_P h l 7) (k).toNat (ez_v (.inl (qz_I h 770 10)))) (qz_P h l 7) k.toNat = pn h := by rw [w4, rz_rd ⟨by omega, by omega⟩]; rfl
  have vj : ∀ j, j ≠ k.toNat → qz_I (dz_put h (qz_P h l 7) (k).toNat (ez_v (.inl (qz_I h 770 10)))) (qz_P h l 7) j = qz_I h (qz_P h l 7) j := fun j hj => ez_put_I (fun w => hj w.2)
  have hB1 := hB3
  generalize (dz_put h (qz_P h l 7) (k).toNat (ez_v (.inl (qz_I h 770 10)))) = h1 at *
  have e0 : ∀ j, qz_I h1 770 j = qz_I h 770 j := fun j => f1.I (dz_beq_ne (Ne.symm ns7)) j
  have el : h1.2.2 l = h.2.2 l := f1.2.2 l (dz_beq_ne (Ne.symm nsl))
  have ep : po h1 = po h := by unfold po qz_P; rw [e0]
  have en : pn h1 = pn h := e0 10
  have eN : qz_N h1 (po h) = qz_N h (po h) := f1.N (dz_beq_ne (Ne.symm nsp))
  have em : mb h1 = mb h := funext fun i => f1.I (dz_beq_ne n71) _
  have ec : qz_P h1 l 8 = qz_P h l 8 := by unfold qz_P qz_I; rw [el]
  have ecj : ∀ j, qz_I h1 (qz_P h l 8) j = qz_I h (qz_P h l 8) j := fun j => f1.I (dz_beq_ne (Ne.symm nsc)) j
  have hkn : kl (ez_one (qz_P h l 8)) τ h1 τ h1 [] := kl.nil (by rw [ep]; exact tpo) (by rw [en, ep, eN]; exact hn)
  have hmb : ∀ g τ1 A, kl (ez_one (qz_P h l 8)) τ h1 τ1 g A → mb g = mb h1 := fun g τ1 A hk => kl_mb hk t771 (by rw [ep]; exact tpo) (dz_beq_ne n72)
  have hst : ∀ {g τ1 A}, kl (ez_one (qz_P h l 8)) τ h1 τ1 g A → ∀ j, qz_I g (qz_P h l 7) j = if j = k.toNat then pn h else qz_I h (qz_P h l 7) j := fun {g τ1 A} hk j => by
    have q : qz_I g (qz_P h l 7) j = qz_I h1 (qz_P h l 7) j := by unfold qz_I; rw [(hk.1 _ (by rw [tsp]; decide)).2 ns7 (by rw [ep]; exact nsp) (dz_beq_ne nsc)]
    rw [q]; by_cases e : j = k.toNat; (· rw [if_pos e, e]; exact v1); (· rw [if_neg e]; exact vj j e)
  have hkz : rz_ct (mb h) s (qz_I h 770 18 - s).toNat s = rz_ct (mb h) s (qz_I h 770 18 - qz_I h 770 17).toNat (qz_I h 770 17) := by have q3 := ct_skip (mb h) s (qz_I h 770 18 - s).toNat s; have hl := rz_skip_le (mb h) (qz_I h 770 18 - s).toNat s; rw [← hsk] at q3 hl; rw [q3, show (qz_I h 770 18 - s).toNat - (qz_I h 770 17 - s).toNat = (qz_I h 770 18 - qz_I h 770 17).toNat by omega]
  have hsl := rz_skip_le (mb h) (qz_I h 770 18 - s).toNat s
  rw [← hsk] at hsl
  by_cases hlt : qz_I h 770 17 < qz_I h 770 18
  · have hnb : ¬ bk (mb h (qz_I h 770 17)) := by rw [hsk]; exact skip_stop (mb h) (qz_I h 770 18 - s).toNat s (by rw [← hsk]; omega)
    refine rd_row_l (h := h1) (X := ez_one (qz_P h l 8)) (s := s) u770 ul (by rw [ec]; exact ucp) n770 (by rw [ec]; exact Nat.beq_refl _) hmb k0' k1' (by rw [en]; exact h0) (by rw [en]; exact hpm) (by rw [ep, eN]; exact hNh) hmo0 hmo (by rw [f1.1]; exact hr1) (by rw [f1.2.1]; exact hr2) hs0 (by rw [e0]; exact hs18) (by rw [em, e0]; exact htr hlt) (fun A hA g τ1 hBg hk a17 hlc hac => ?_) (fun hA g τ1 A hBg hk hlc hac => ?_) _ h1 τ [] (Nat.le_refl _) hB1 hkn rfl (by rw [e0]; omega) (by rw [e0, e0]; exact hlt) (fun j => ?_) (by rw [em, e0]; exact hnb) ?_ ?_ ?_
    · rw [em, e0] at hA; rw [ec] at hac; exact k1 A hA g τ1 hBg (hk.base f1 ns7 nsp) (by rw [a17, e0]) (hlc.trans el) (hst hk) (fun j => by rw [hac j, ecj])
    · rw [em, e0] at hA; rw [ec] at hac; exact k0 hA g τ1 A hBg (hk.base f1 ns7 nsp) (hlc.trans el) (hst hk) (fun j => by rw [hac j, ecj])
    · rw [ec]; by_cases e : j = k.toNat; (· rw [if_pos e, e, ecj, hc0]; rfl); (· rw [if_neg e])
    · rw [em, e0]; by_cases e : qz_I h 770 17 = s; (· exact Or.inl e); (· exact Or.inr ⟨by omega, skip_bk (mb h) (qz_I h 770 18 - s).toNat s _ (by omega) (by rw [← hsk]; omega)⟩)
    · rw [em, e0, e0, hkz]; simp
    · rw [em, e0, e0]
      have q4 := row_skip (b := mb h) (s := s) (X := s) (t := qz_I h 770 18) (by omega) hsk
      rw [q4]; simp
  · have hrn : rz_rw (mb h) mo s (qz_I h 770 18) = none := by unfold rz_rw; rw [hkz, show (qz_I h 770 18 - qz_I h 770 17).toNat = 0 by omega]; rfl
    refine rd_row_z (h := h1) u770 ul (by rw [ec]; exact ucp) n770 (by rw [e0, e0]; omega) (by rw [e0]; exact hs18) (by rw [ec, ecj]; exact hc0) k0' k1' (by omega) (by rw [f1.1]; omega) (by rw [f1.2.1]; omega) hB1 (fun g hBg m => k0 hrn g τ [] hBg ((hkn.mz m u770).base f1 ns7 nsp) ((m.1.2.2 l (dz_beq_ne n770)).trans el) (hst (hkn.mz m u770)) (fun j => ?_))
    rw [m.I (fun e => by rw [e, u770] at ucp; cases ucp), ecj]; by_cases e : j = k.toNat; (· rw [if_pos e, e, hc0]; rfl); (· rw [if_neg e])

theorem rd_optional {k : Int} (hB : ez_B τ h) (t770 : τ 770 = 75) (k0' : 0 ≤ k) (k1' : k < 8) (hr1 : h.1 + 1 ≤ 600192) (hr2 : h.2.1 + 6 ≤ 7302232) (hft : mf h k ≤ mt h k) (ht1 : mt h k ≤ 4096) (hf0 : 0 ≤ mf h k) (k1 : ∀ v, ((mf h k = mt h k ∧ v = -1) ∨ (mf h k ≠ mt h k ∧ v = rz_code (mb h) (mf h k) (mt h k) ∧ v ≠ -1)) → ∀ g, ez_B τ g → ms h g → Q (.inl (some (ez_v (.inl v))), g)) (k0 : mf h k ≠ mt h k → rz_code (mb h) (mf h k) (mt h k) = -1 → ∀ g, ez_B τ g → ms h g → Q (.inr g.1, xc g 1)) : ez_W (d + 8) cm_284 0 [(0, .inr (.inr (some (770)))), (1, .inl (k))] [] h Q := by
  refine ez_go (n := 2) (pc' := 2) (L' := [(0, .inr (.inr (some (770)))), (1, .inl (k))]) (st' := [.inl (k), .inr (.inr (some (770)))]) rfl ?_
  refine ez_cv hB t770 rfl rfl rfl tq_75 rfl rfl rfl (rd_field hB t770 k0' (by omega) (fun g1 hB1 m1 a1 s1 => ez_K0 ?_))
  have c1 := m1.1.1
  have c2 := m1.1.2.1
  refine ez_go (n := 1) (pc' := 6) (L' := [(0, .inr (.inr (some (770)))), (1, .inl (k))]) (st' := [.inr (.inr (some (770)))]) rfl ?_
  refine ez_gI hB1 t770 rfl rfl tq_75 rfl rfl (fun (b1 : 0 ≤ qz_I g1 770 17) (b1' : qz_I g1 770 17 ≤ 4200) => ?_)
  refine ez_go (n := 1) (pc' := 10) (L' := [(0, .inr (.inr (some (770)))), (1, .inl (k))]) (st' := [.inr (.inr (some (770))), .inl (qz_I g1 770 17)]) rfl ?_
  refine ez_gI hB1 t770 rfl rfl tq_75 rfl rfl (fun (b2 : 0 ≤ qz_I g1 770 18) (b2' : qz_I g1 770 18 ≤ 4096) => ?_)
  refine ez_icmp rfl rfl ⟨by first | omega | exact (sz_i32 _).1, by first | omega | exact (sz_i32 _).2⟩ ⟨by first | omega | exact (sz_i32 _).1, by first | omega | exact (sz_i32 _).2⟩ (fun (c3 : (qz_I g1 770 17) ≠ (qz_I g1 770 18)) => ?_) (fun (c3 : ¬((qz_I g1 770 17) ≠ (qz_I g1 770 18))) => ?_)
  · skip
    refine ez_go (n := 1) (pc' := 19) (L' := [(0, .inr (.inr (some (770)))), (1, .inl (k))]) (st' := [.inr (.inr (some (770)))]) rfl ?_
    have hne : mf h k ≠ mt h k := by omega
    have cE := me_le (mb h) (mt h k - mf h k).toNat (mf h k)
    have cno : me (mb h) (mt h k - mf h k).toNat (mf h k) < mt h k → rz_code (mb h) (mf h k) (mt h k) = -1 := fun w => rz_code_no (t := mt h k) (mt h k - mf h k).toNat (Nat.le_refl _) w (by omega) (by omega)
    refine ez_cv hB1 t770 rfl rfl rfl tq_75 rfl rfl rfl (rd_code hB1 t770 (by omega) (by omega) (by omega) (by omega) (fun g2 hB2 m2 a2 v2 => ez_K1 ?_) (fun hno g2 hB2 m2 => ez_Kp (xc_exc hB2 rfl) rfl (k0 hne ?_ g2 hB2 (m1.trans m2.ms))))
    · rw [m1.b, a1, s1] at a2 v2 ⊢
      have c3 := m2.1.1
      have c4 := m2.1.2.1
      have s2 : qz_I g2 770 18 = mt h k := (m2.2 18 (by decide)).trans s1
      refine ez_go (n := 2) (pc' := 24) (L' := [(2, .inl (rz_code (mb h) (mf h k) (me (mb h) (mt h k - mf h k).toNat (mf h k)))), (0, .inr (.inr (some (770)))), (1, .inl (k))]) (st' := [.inr (.inr (some (770)))]) rfl ?_
      refine ez_cv hB2 t770 rfl rfl rfl tq_75 rfl rfl rfl (rd_mend hB2 t770 (by omega) (by omega) (fun e9 => ez_K0 ?_) (fun e9 => ez_Kp (xc_exc hB2 rfl) rfl (k0 hne (cno (by omega)) g2 hB2 (m1.trans m2.ms))))
      refine ez_go (n := 1) (pc' := 28) (L' := [(2, .inl (rz_code (mb h) (mf h k) (me (mb h) (mt h k - mf h k).toNat (mf h k)))), (0, .inr (.inr (some (770)))), (1, .inl (k))]) (st' := [.inl (rz_code (mb h) (mf h k) (me (mb h) (mt h k - mf h k).toNat (mf h k)))]) rfl ?_
      have hEt : me (mb h) (mt h k - mf h k).toNat (mf h k) = mt h k := by omega
      rw [hEt] at v2 ⊢
      exact ez_retI rfl rfl (k1 _ (Or.inr ⟨hne, rfl, v2⟩) g2 hB2 (m1.trans m2.ms))
    · rw [m1.b, a1, s1] at hno
      by_cases e : me (mb h) (mt h k - mf h k).toNat (mf h k) < mt h k
      · exact cno e
      · rw [show me (mb h) (mt h k - mf h k).toNat (mf h k) = mt h k by omega] at hno; exact hno
  · skip
    refine ez_go (n := 1) (pc' := 17) (L' := [(0, .inr (.inr (some (770)))), (1, .inl (k))]) (st' := [.inl (-1)]) rfl ?_
    exact ez_retI rfl rfl (k1 (-1) (Or.inl ⟨by omega, rfl⟩) g1 hB1 m1)

end EzRo
/-! The model: points, I: codes, category, class. (Written by wip/p2/py/pv58.py.) -/
/-- the place of reading, where it stops, and a line -/
def mw (h g : cz_H) (l : Nat) : Prop := ez_fr (nz_PL l) h g ∧ ∀ j, j ≠ 17 → j ≠ 18 → qz_I g 770 j = qz_I h 770 j
theorem mw.refl (h : cz_H) (l : Nat) : mw h h l := ⟨ez_fr.refl _ _, fun _ _ _ => rfl⟩
theorem mw.trans {h g k : cz_H} {l : Nat} (a : mw h g l) (b : mw g k l) : mw h k l := ⟨a.1.trans b.1, fun j h1 h2 => (b.2 j h1 h2).trans (a.2 j h1 h2)⟩
theorem ml.mw {h g : cz_H} {l : Nat} (a : ml h g l) : mw h g l := ⟨a.1, fun j h1 _ => a.2 j h1⟩
theorem mz.mw {h g : cz_H} {l : Nat} (a : mz h g) : mw h g l := a.ml.mw
theorem ms.mw {h g : cz_H} {l : Nat} (a : ms h g) : mw h g l := ⟨⟨a.1.1, a.1.2.1, fun q hq => a.1.2.2 q (by unfold nz_PL at hq; exact (Bool.or_eq_false_iff.mp hq).1)⟩, a.2⟩
theorem mw.q {h g : cz_H} {l q : Nat} (a : mw h g l) (h1 : q ≠ 770) (h2 : q ≠ l) : g.2.2 q = h.2.2 q := a.1.2.2 q (by unfold nz_PL; rw [dz_beq_ne h1, dz_beq_ne h2]; rfl)
theorem mw.I {h g : cz_H} {l q : Nat} (a : mw h g l) (h1 : q ≠ 770) (h2 : q ≠ l) (j : Nat) : qz_I g q j = qz_I h q j := by unfold qz_I; rw [a.q h1 h2]
theorem mw.N {h g : cz_H} {l q : Nat} (a : mw h g l) (h1 : q ≠ 770) (h2 : q ≠ l) : qz_N g q = qz_N h q := by unfold qz_N; rw [a.q h1 h2]
theorem mw.b {h g : cz_H} {l : Nat} (a : mw h g l) (hl : l ≠ 771) : mb g = mb h := funext fun i => a.I (by decide) (Ne.symm hl) _
theorem mw.f {h g : cz_H} {l : Nat} (a : mw h g l) (hl : l ≠ 789) (k : Int) : mf g k = mf h k := a.I (by decide) (Ne.symm hl) _
theorem mw.t {h g : cz_H} {l : Nat} (a : mw h g l) (hl : l ≠ 790) (k : Int) : mt g k = mt h k := a.I (by decide) (Ne.symm hl) _
theorem ms.l {h g : cz_H} {l : Nat} (a : ms h g) (hl : l ≠ 770) (j : Nat) : qz_I g l j = qz_I h l j := a.1.I (dz_beq_ne hl) j
theorem mw_put {h : cz_H} {l i : Nat} {v : cz_V} (hl : l ≠ 770) : mw h (dz_put h l i v) l := (ml_put hl).mw
theorem mk_in {b : Int → Int} {a s : Int} (h : a < s) : mk b a s = b a := by unfold mk; rw [if_pos h]
theorem mk_out {b : Int → Int} {a s : Int} (h : ¬ a < s) : mk b a s = -1 := by unfold mk; rw [if_neg h]
/-- a line, and nothing else of what reading needs -/
def lz (l : Nat) : Prop := l ≠ 770 ∧ l ≠ 771 ∧ l ≠ 789 ∧ l ≠ 790
theorem ez_wr {d : Nat} {M : cz_M} {pc : Nat} {L : List (Nat × ez_V)} {st : List ez_V} {h : cz_H} {Q : cz_F → Prop} {n : Int} (k : ez_W d M pc L (.inl ((Int32.ofInt n).toInt) :: st) h Q) : ez_W d M pc L (.inl n :: st) h Q := by
  unfold ez_W at k ⊢
  have e : ez_v (.inl ((Int32.ofInt n).toInt)) = ez_v (.inl n) := by show Sum.inl (Int32.ofInt (Int32.ofInt n).toInt) = Sum.inl (Int32.ofInt n); rw [Int32.ofInt_toInt]
  rw [List.map_cons, e] at k
  exact k
section EzPa
variable {d : Nat} {h : cz_H} {τ : Nat → Nat} {Q : cz_F → Prop} {l : Nat}
theorem rd_points_a (hB : ez_B τ h) (t770 : τ 770 = 75) (tl : τ l = 13) (hl : lz l) (hr1 : h.1 + 1 ≤ 600192) (hr2 : h.2.1 + 6 ≤ 7302232) (hF : ∀ k, 0 ≤ k → k < 7 → (0 ≤ mf h k ∧ mf h k ≤ mt h k) ∧ mt h k ≤ 4096) (kx : ∀ g, ez_B τ g → mw h g l → qz_I g l 1 = rz_first (mb h) (mf h 0) (mt h 0) → qz_I g l 2 = rz_last (mb h) (mf h 0) (mt h 0) → rz_first (mb h) (mf h 0) (mt h 0) ≠ -1 → rz_first (mb h) (mf h 0) (mt h 0) ≤ rz_last (mb h) (mf h 0) (mt h 0) → rz_cat (mb h) (mf h 1) (mt h 1) → qz_I g l 3 = mb h (mf h 1) * 256 + mb h (mf h 1 + 1) → (∀ j, j ≠ 1 → j ≠ 2 → j ≠ 3 → qz_I g l j = qz_I h l j) → ez_W (d + 9) cm_291 93 [(0, .inr (.inr (some (770)))), (1, .inr (.inr (some (l))))] [] g Q) (k0 : ¬ ((rz_first (mb h) (mf h 0) (mt h 0) ≠ -1 ∧ rz_first (mb h) (mf h 0) (mt h 0) ≤ rz_last (mb h) (mf h 0) (mt h 0)) ∧ rz_cat (mb h) (mf h 1) (mt h 1)) → ∀ g, ez_B τ g → mw h g l → Q (.inr g.1, xc g 1)) : ez_W (d + 9) cm_291 0 [(0, .inr (.inr (some (770)))), (1, .inr (.inr (some (l))))] [] h Q := by
  refine ez_go (n := 2) (pc' := 2) (L' := [(0, .inr (.inr (some (770)))), (1, .inr (.inr (some (l))))]) (st' := [.inl (0), .inr (.inr (some (770)))]) rfl ?_
  have F0 := hF 0 (by omega) (by omega)
  have F1 := hF 1 (by omega) (by omega)
  refine ez_cv hB t770 rfl rfl rfl tq_75 rfl rfl rfl (rd_field hB t770 (by omega) (by omega) (fun g1 hB1 m1 a1 s1 => ez_K0 ?_))
  have u1a : (g1).1 = h.1 := m1.1.1
  have u1b : (g1).2.1 = h.2.1 := m1.1.2.1
  refine ez_go (n := 2) (pc' := 7) (L' := [(0, .inr (.inr (some (770)))), (1, .inr (.inr (some (l))))]) (st' := [.inr (.inr (some (l))), .inr (.inr (some (770)))]) rfl ?_
  refine ez_cv hB1 t770 rfl rfl rfl tq_75 rfl rfl rfl (rd_codes hB1 t770 tl (by omega) (by omega) (by omega) (by omega) (fun g2 hB2 m2 a2 e1 e2 v1 v2 J2 => ez_K0 ?_) (fun hno g2 hB2 m2 J2 => ez_Kp (xc_exc hB2 rfl) rfl (k0 (fun w => ?_) g2 hB2 (m1.mw.trans m2.mw))))
  · rw [a1, s1, m1.b] at e1 e2 v1 v2
    have M2 : mw h g2 l := m1.mw.trans m2.mw
    have u2a : (g2).1 = h.1 := M2.1.1
    have u2b : (g2).2.1 = h.2.1 := M2.1.2.1
    refine ez_go (n := 2) (pc' := 12) (L' := [(0, .inr (.inr (some (770)))), (1, .inr (.inr (some (l))))]) (st' := [.inl (1), .inr (.inr (some (770)))]) rfl ?_
    refine ez_cv hB2 t770 rfl rfl rfl tq_75 rfl rfl rfl (rd_field hB2 t770 (by omega) (by omega) (fun g3 hB3 m3 a3 s3 => ez_K0 ?_))
    rw [M2.f hl.2.2.1] at a3
    rw [M2.t hl.2.2.2] at s3
    have M3 : mw h g3 l := M2.trans m3.mw
    have u3a : (g3).1 = h.1 := M3.1.1
    have u3b : (g3).2.1 = h.2.1 := M3.1.2.1
    have J3 : ∀ j, qz_I g3 l j = qz_I g2 l j := fun j => m3.l hl.1 j
    refine ez_go (n := 1) (pc' := 16) (L' := [(0, .inr (.inr (some (770)))), (1, .inr (.inr (some (l))))]) (st' := [.inr (.inr (some (770)))]) rfl ?_
    refine ez_cv hB3 t770 rfl rfl rfl tq_75 rfl rfl rfl (rd_peek hB3 t770 (fun p1 p1' => ez_K1 ?_))
    rw [a3, s3, M3.b hl.2.1] at p1 p1' ⊢
    refine ez_go (n := 3) (pc' := 22) (L' := [(2, .inl ((mk (mb h) (mf h 1) (mt h 1)))), (0, .inr (.inr (some (770)))), (1, .inr (.inr (some (l))))]) (st' := [.inr (.inr (some (770))), .inr (.inr (some (770)))]) rfl ?_
    refine ez_gI hB3 t770 rfl rfl tq_75 rfl rfl (fun (b1 : 0 ≤ qz_I g3 770 17) (b1' : qz_I g3 770 17 ≤ 4200) => ?_)
    refine ez_go (n := 2) (pc' := 27) (L' := [(2, .inl ((mk (mb h) (mf h 1) (mt h 1)))), (0, .inr (.inr (some (770)))), (1, .inr (.inr (some (l))))]) (st' := [.inl ((qz_I g3 770 17) + (1)), .inr (.inr (some (770)))]) rfl ?_
    refine ez_pf hB3 t770 rfl rfl tq_75 rfl rfl rfl rfl (ez_vdI rfl rfl (by omega) (by omega)) (fun hB2 w3 => ?_)
    have a4 : qz_I (dz_put g3 770 17 (ez_v (.inl ((qz_I g3 770 17) + (1))))) 770 17 = mf h 1 + 1 := by rw [w3, rz_rd ⟨by omega, by omega⟩, a3]
    have M4 : mw h (dz_put g3 770 17 (ez_v (.inl ((qz_I g3 770 17) + (1))))) l := M3.trans mz_put.mw
    have s4 : qz_I (dz_put g3 770 17 (ez_v (.inl ((qz_I g3 770 17) + (1))))) 770 18 = qz_I g3 770 18 := ez_put_I (by omega)
    rw [s3] at s4
    have J4 : ∀ j, qz_I (dz_put g3 770 17 (ez_v (.inl ((qz_I g3 770 17) + (1))))) l j = qz_I g3 l j := fun j => mz_put.l hl.1 j
    have u4a : ((dz_put g3 770 17 (ez_v (.inl ((qz_I g3 770 17) + (1)))))).1 = h.1 := M4.1.1
    have u4b : ((dz_put g3 770 17 (ez_v (.inl ((qz_I g3 770 17) + (1)))))).2.1 = h.2.1 := M4.1.2.1
    have hB4 := hB2
    generalize (dz_put g3 770 17 (ez_v (.inl ((qz_I g3 770 17) + (1))))) = g4 at *
    refine ez_go (n := 1) (pc' := 31) (L' := [(2, .inl ((mk (mb h) (mf h 1) (mt h 1)))), (0, .inr (.inr (some (770)))), (1, .inr (.inr (some (l))))]) (st' := [.inr (.inr (some (770)))]) rfl ?_
    refine ez_cv hB4 t770 rfl rfl rfl tq_75 rfl rfl rfl (rd_peek hB4 t770 (fun p2 p2' => ez_K1 ?_))
    rw [a4, s4, M4.b hl.2.1] at p2 p2' ⊢
    refine ez_go (n := 3) (pc' := 37) (L' := [(3, .inl ((mk (mb h) (mf h 1 + 1) (mt h 1)))), (2, .inl ((mk (mb h) (mf h 1) (mt h 1)))), (0, .inr (.inr (some (770)))), (1, .inr (.inr (some (l))))]) (st' := [.inr (.inr (some (770))), .inr (.inr (some (770)))]) rfl ?_
    refine ez_gI hB4 t770 rfl rfl tq_75 rfl rfl (fun (b4 : 0 ≤ qz_I g4 770 17) (b4' : qz_I g4 770 17 ≤ 4200) => ?_)
    refine ez_go (n := 2) (pc' := 42) (L' := [(3, .inl ((mk (mb h) (mf h 1 + 1) (mt h 1)))), (2, .inl ((mk (mb h) (mf h 1) (mt h 1)))), (0, .inr (.inr (some (770)))), (1, .inr (.inr (some (l))))]) (st' := [.inl ((qz_I g4 770 17) + (1)), .inr (.inr (some (770)))]) rfl ?_
    refine ez_pf hB4 t770 rfl rfl tq_75 rfl rfl rfl rfl (ez_vdI rfl rfl (by omega) (by omega)) (fun hB5 w6 => ?_)
    have a5 : qz_I (dz_put g4 770 17 (ez_v (.inl ((qz_I g4 770 17) + (1))))) 770 17 = mf h 1 + 1 + 1 := by rw [w6, rz_rd ⟨by omega, by omega⟩, a4]
    have M5 : mw h (dz_put g4 770 17 (ez_v (.inl ((qz_I g4 770 17) + (1))))) l := M4.trans mz_put.mw
    have s5 : qz_I (dz_put g4 770 17 (ez_v (.inl ((qz_I g4 770 17) + (1))))) 770 18 = qz_I g4 770 18 := ez_put_I (by omega)
    rw [s4] at s5
    have J5 : ∀ j, qz_I (dz_put g4 770 17 (ez_v (.inl ((qz_I g4 770 17) + (1))))) l j = qz_I g4 l j := fun j => mz_put.l hl.1 j
    have u5a : ((dz_put g4 770 17 (ez_v (.inl ((qz_I g4 770 17) + (1)))))).1 = h.1 := M5.1.1
    have u5b : ((dz_put g4 770 17 (ez_v (.inl ((qz_I g4 770 17) + (1)))))).2.1 = h.2.1 := M5.1.2.1
    have hB5 := hB5
    generalize (dz_put g4 770 17 (ez_v (.inl ((qz_I g4 770 17) + (1))))) = g5 at *
    refine ez_go (n := 3) (pc' := 49) (L' := [(3, .inl ((mk (mb h) (mf h 1 + 1) (mt h 1)))), (2, .inl ((mk (mb h) (mf h 1) (mt h 1)))), (0, .inr (.inr (some (770)))), (1, .inr (.inr (some (l))))]) (st' := [.inl (65), .inl ((mk (mb h) (mf h 1) (mt h 1))), .inr (.inr (some (770)))]) rfl ?_
    refine ez_icmp rfl rfl ⟨by first | omega | exact (sz_i32 _).1, by first | omega | exact (sz_i32 _).2⟩ ⟨by first | omega | exact (sz_i32 _).1, by first | omega | exact (sz_i32 _).2⟩ (fun (c7 : ((mk (mb h) (mf h 1) (mt h 1))) < (65)) => ?_) (fun (c7 : ¬(((mk (mb h) (mf h 1) (mt h 1))) < (65))) => ?_)
    · skip
      refine ez_go (n := 1) (pc' := 75) (L' := [(3, .inl ((mk (mb h) (mf h 1 + 1) (mt h 1)))), (2, .inl ((mk (mb h) (mf h 1) (mt h 1)))), (0, .inr (.inr (some (770)))), (1, .inr (.inr (some (l))))]) (st' := [.inl (0), .inr (.inr (some (770)))]) rfl ?_
      refine ez_cv hB5 t770 rfl rfl rfl tq_75 rfl rfl rfl (rd_can0 (by omega) (by omega) (ez_Kp (xc_exc hB5 rfl) rfl (k0 (fun w => ?_) g5 hB5 M5)))
      obtain ⟨-, q1, q2, q3⟩ := w
      have x1 := mk_in (b := mb h) (show mf h 1 < mt h 1 by omega); have x2 := mk_in (b := mb h) (show mf h 1 + 1 < mt h 1 by omega); omega
    · skip
      refine ez_go (n := 2) (pc' := 55) (L' := [(3, .inl ((mk (mb h) (mf h 1 + 1) (mt h 1)))), (2, .inl ((mk (mb h) (mf h 1) (mt h 1)))), (0, .inr (.inr (some (770)))), (1, .inr (.inr (some (l))))]) (st' := [.inl (90), .inl ((mk (mb h) (mf h 1) (mt h 1))), .inr (.inr (some (770)))]) rfl ?_
      refine ez_icmp rfl rfl ⟨by first | omega | exact (sz_i32 _).1, by first | omega | exact (sz_i32 _).2⟩ ⟨by first | omega | exact (sz_i32 _).1, by first | omega | exact (sz_i32 _).2⟩ (fun (c8 : (90) < ((mk (mb h) (mf h 1) (mt h 1)))) => ?_) (fun (c8 : ¬((90) < ((mk (mb h) (mf h 1) (mt h 1))))) => ?_)
      · skip
        refine ez_go (n := 1) (pc' := 75) (L' := [(3, .inl ((mk (mb h) (mf h 1 + 1) (mt h 1)))), (2, .inl ((mk (mb h) (mf h 1) (mt h 1)))), (0, .inr (.inr (some (770)))), (1, .inr (.inr (some (l))))]) (st' := [.inl (0), .inr (.inr (some (770)))]) rfl ?_
        refine ez_cv hB5 t770 rfl rfl rfl tq_75 rfl rfl rfl (rd_can0 (by omega) (by omega) (ez_Kp (xc_exc hB5 rfl) rfl (k0 (fun w => ?_) g5 hB5 M5)))
        obtain ⟨-, q1, q2, q3⟩ := w
        have x1 := mk_in (b := mb h) (show mf h 1 < mt h 1 by omega); have x2 := mk_in (b := mb h) (show mf h 1 + 1 < mt h 1 by omega); omega
      · skip
        refine ez_go (n := 2) (pc' := 61) (L' := [(3, .inl ((mk (mb h) (mf h 1 + 1) (mt h 1)))), (2, .inl ((mk (mb h) (mf h 1) (mt h 1)))), (0, .inr (.inr (some (770)))), (1, .inr (.inr (some (l))))]) (st' := [.inl (97), .inl ((mk (mb h) (mf h 1 + 1) (mt h 1))), .inr (.inr (some (770)))]) rfl ?_
        refine ez_icmp rfl rfl ⟨by first | omega | exact (sz_i32 _).1, by first | omega | exact (sz_i32 _).2⟩ ⟨by first | omega | exact (sz_i32 _).1, by first | omega | exact (sz_i32 _).2⟩ (fun (c9 : ((mk (mb h) (mf h 1 + 1) (mt h 1))) < (97)) => ?_) (fun (c9 : ¬(((mk (mb h) (mf h 1 + 1) (mt h 1))) < (97))) => ?_)
        · skip
          refine ez_go (n := 1) (pc' := 75) (L' := [(3, .inl ((mk (mb h) (mf h 1 + 1) (mt h 1)))), (2, .inl ((mk (mb h) (mf h 1) (mt h 1)))), (0, .inr (.inr (some (770)))), (1, .inr (.inr (some (l))))]) (st' := [.inl (0), .inr (.inr (some (770)))]) rfl ?_
          refine ez_cv hB5 t770 rfl rfl rfl tq_75 rfl rfl rfl (rd_can0 (by omega) (by omega) (ez_Kp (xc_exc hB5 rfl) rfl (k0 (fun w => ?_) g5 hB5 M5)))
          obtain ⟨-, q1, q2, q3⟩ := w
          have x1 := mk_in (b := mb h) (show mf h 1 < mt h 1 by omega); have x2 := mk_in (b := mb h) (show mf h 1 + 1 < mt h 1 by omega); omega
        · skip
          refine ez_go (n := 2) (pc' := 67) (L' := [(3, .inl ((mk (mb h) (mf h 1 + 1) (mt h 1)))), (2, .inl ((mk (mb h) (mf h 1) (mt h 1)))), (0, .inr (.inr (some (770)))), (1, .inr (.inr (some (l))))]) (st' := [.inl (122), .inl ((mk (mb h) (mf h 1 + 1) (mt h 1))), .inr (.inr (some (770)))]) rfl ?_
          refine ez_icmp rfl rfl ⟨by first | omega | exact (sz_i32 _).1, by first | omega | exact (sz_i32 _).2⟩ ⟨by first | omega | exact (sz_i32 _).1, by first | omega | exact (sz_i32 _).2⟩ (fun (c10 : (122) < ((mk (mb h) (mf h 1 + 1) (mt h 1)))) => ?_) (fun (c10 : ¬((122) < ((mk (mb h) (mf h 1 + 1) (mt h 1))))) => ?_)
          · skip
            refine ez_go (n := 1) (pc' := 75) (L' := [(3, .inl ((mk (mb h) (mf h 1 + 1) (mt h 1)))), (2, .inl ((mk (mb h) (mf h 1) (mt h 1)))), (0, .inr (.inr (some (770)))), (1, .inr (.inr (some (l))))]) (st' := [.inl (0), .inr (.inr (some (770)))]) rfl ?_
            refine ez_cv hB5 t770 rfl rfl rfl tq_75 rfl rfl rfl (rd_can0 (by omega) (by omega) (ez_Kp (xc_exc hB5 rfl) rfl (k0 (fun w => ?_) g5 hB5 M5)))
            obtain ⟨-, q1, q2, q3⟩ := w
            have x1 := mk_in (b := mb h) (show mf h 1 < mt h 1 by omega); have x2 := mk_in (b := mb h) (show mf h 1 + 1 < mt h 1 by omega); omega
          · skip
            refine ez_go (n := 2) (pc' := 75) (L' := [(3, .inl ((mk (mb h) (mf h 1 + 1) (mt h 1)))), (2, .inl ((mk (mb h) (mf h 1) (mt h 1)))), (0, .inr (.inr (some (770)))), (1, .inr (.inr (some (l))))]) (st' := [.inl (1), .inr (.inr (some (770)))]) rfl ?_
            refine ez_cv hB5 t770 rfl rfl rfl tq_75 rfl rfl rfl (rd_can1 (by omega) (by omega) (ez_K0 ?_))
            refine ez_go (n := 1) (pc' := 79) (L' := [(3, .inl ((mk (mb h) (mf h 1 + 1) (mt h 1)))), (2, .inl ((mk (mb h) (mf h 1) (mt h 1)))), (0, .inr (.inr (some (770)))), (1, .inr (.inr (some (l))))]) (st' := [.inr (.inr (some (770)))]) rfl ?_
            refine ez_cv hB5 t770 rfl rfl rfl tq_75 rfl rfl rfl (rd_mend hB5 t770 (by omega) (by omega) (fun e9 => ez_K0 ?_) (fun e9 => ez_Kp (xc_exc hB5 rfl) rfl (k0 (fun w => e9 (by have q1 := w.2.1; omega)) g5 hB5 M5)))
            refine ez_go (n := 6) (pc' := 90) (L' := [(3, .inl ((mk (mb h) (mf h 1 + 1) (mt h 1)))), (2, .inl ((mk (mb h) (mf h 1) (mt h 1)))), (0, .inr (.inr (some (770)))), (1, .inr (.inr (some (l))))]) (st' := [.inl (((256) * ((mk (mb h) (mf h 1) (mt h 1)))) + ((mk (mb h) (mf h 1 + 1) (mt h 1)))), .inr (.inr (some (l)))]) rfl ?_
            refine ez_pf hB5 tl rfl rfl tq_13 rfl rfl rfl rfl (ez_vdI rfl rfl (by omega) (by omega)) (fun hB11 w12 => ?_)
            refine ez_less [(0, .inr (.inr (some (770)))), (1, .inr (.inr (some (l))))] rfl ⟨rfl, rfl, trivial⟩ ?_
            have hca : rz_cat (mb h) (mf h 1) (mt h 1) := ⟨by omega, by rw [← mk_in (b := mb h) (show mf h 1 < mt h 1 by omega)]; omega, by rw [← mk_in (b := mb h) (show mf h 1 + 1 < mt h 1 by omega)]; omega⟩
            refine kx _ hB11 (M5.trans (mw_put hl.1)) (by rw [ez_put_I (by omega), J5, J4, J3]; exact e1) (by rw [ez_put_I (by omega), J5, J4, J3]; exact e2) v1 v2 hca (by rw [w12, rz_rd ⟨by omega, by omega⟩, mk_in (b := mb h) (show mf h 1 < mt h 1 by omega), mk_in (b := mb h) (show mf h 1 + 1 < mt h 1 by omega)]; omega) (fun j j1 j2 j3 => by rw [ez_put_I (fun w => j3 w.2), J5, J4, J3, J2 j j1 j2]; exact m1.l hl.1 j)
  · rw [a1, s1, m1.b] at hno; exact hno w.1

end EzPa
/-! The model: points, II: class. (Written by wip/p2/py/pv59.py.) -/
section EzPb
variable {d : Nat} {h : cz_H} {τ : Nat → Nat} {Q : cz_F → Prop} {l : Nat}
/-- digits so far: n of them, and what they say, if no more than 3 -/
def dk (b : Int → Int) (f n a v : Int) : Prop := n ≤ 3 → (∀ m : Nat, rz_dec b (n.toNat + m) f 0 = rz_dec b m a v) ∧ 0 ≤ v ∧ v ≤ 999 ∧ (n ≤ 2 → v ≤ 99) ∧ (n ≤ 1 → v ≤ 9) ∧ (n ≤ 0 → v = 0)
theorem dk_next {b : Int → Int} {f n a v c : Int} (h : dk b f n a v) (n0 : 0 ≤ n) (hc : c = b a) (c0 : 48 ≤ c) (c1 : c ≤ 57) : dk b f (n + 1) (a + 1) (Int32.ofInt (10 * v + c - 48)).toInt := by
  intro hn
  obtain ⟨q1, q2, q3, q4, q5, q6⟩ := h (by omega)
  have e4 := q4 (by omega)
  have e : (Int32.ofInt (10 * v + c - 48)).toInt = 10 * v + c - 48 := dz_toInt_i (by omega) (by omega)
  rw [e]
  refine ⟨fun m => ?_, by omega, by omega, fun w => by have := q5 (by omega); omega, fun w => by have := q6 (by omega); omega, fun w => by omega⟩
  have := q1 (m + 1)
  rw [show (n + 1).toNat + m = n.toNat + (m + 1) by omega, this]
  show (if 48 ≤ b a ∧ b a ≤ 57 then rz_dec b m (a + 1) (v * 10 + b a - 48) else -1) = _
  rw [if_pos (by omega)]
  congr 1
  rw [hc]; omega
theorem dk_no {b : Int → Int} {f n a v t : Int} (h : dk b f n a v) (n0 : 0 ≤ n) (hn : n = a - f) (ht : a < t) (h3 : t - f ≤ 3) (hd : ¬ (48 ≤ b a ∧ b a ≤ 57)) : rz_dec b (t - f).toNat f 0 = -1 := by
  obtain ⟨q1, -⟩ := h (by omega)
  have := q1 ((t - a - 1).toNat + 1)
  rw [show n.toNat + ((t - a - 1).toNat + 1) = (t - f).toNat by omega] at this
  rw [this]
  show (if 48 ≤ b a ∧ b a ≤ 57 then _ else (-1 : Int)) = -1
  rw [if_neg hd]
theorem rd_points_bl (t770 : τ 770 = 75) (tl : τ l = 13) (hl : lz l) (hr1 : h.1 + 1 ≤ 600192) (hr2 : h.2.1 + 6 ≤ 7302232) (F2 : (0 ≤ mf h 2 ∧ mf h 2 ≤ mt h 2) ∧ mt h 2 ≤ 4096) (kx : ∀ g cls, ez_B τ g → mw h g l → ((1 ≤ mt h 2 - mf h 2 ∧ mt h 2 - mf h 2 ≤ 3) ∧ (0 ≤ cls ∧ cls ≤ 254) ∧ cls = rz_dec (mb h) (mt h 2 - mf h 2).toNat (mf h 2) 0) → qz_I g l 4 = cls → (∀ j, j ≠ 4 → qz_I g l j = qz_I h l j) → ez_W (d + 9) cm_291 189 [(0, .inr (.inr (some (770)))), (1, .inr (.inr (some (l))))] [] g Q) (k0 : (∀ cls, ¬ ((1 ≤ mt h 2 - mf h 2 ∧ mt h 2 - mf h 2 ≤ 3) ∧ (0 ≤ cls ∧ cls ≤ 254) ∧ cls = rz_dec (mb h) (mt h 2 - mf h 2).toNat (mf h 2) 0)) → ∀ g, ez_B τ g → mw h g l → Q (.inr g.1, xc g 1)) : ∀ (m : Nat) (n : Int) (g : cz_H), m = (mt h 2 - qz_I g 770 17).toNat → ez_B τ g → mw h g l → (∀ j, j ≠ 4 → qz_I g l j = qz_I h l j) → qz_I g 770 18 = mt h 2 → n = qz_I g 770 17 - mf h 2 → 0 ≤ n → qz_I g 770 17 ≤ mt h 2 → dk (mb h) (mf h 2) n (qz_I g 770 17) (qz_I g l 4) → ez_W (d + 9) cm_291 101 [(4, .inl (n)), (0, .inr (.inr (some (770)))), (1, .inr (.inr (some (l))))] [] g Q := by
  intro m
  induction m with
  | zero =>
    intro n g hm hBg hM hJ hst hn n0 hat hk
    have c1 := hM.1.1; have c2 := hM.1.2.1
    refine ez_go (n := 1) (pc' := 102) (L' := [(4, .inl (n)), (0, .inr (.inr (some (770)))), (1, .inr (.inr (some (l))))]) (st' := [.inr (.inr (some (770)))]) rfl ?_
    refine ez_cv hBg t770 rfl rfl rfl tq_75 rfl rfl rfl (rd_peek hBg t770 (fun p1 p1' => ez_K1 ?_))
    rw [hst, hM.b hl.2.1] at p1 p1' ⊢
    refine ez_go (n := 1) (pc' := 107) (L' := [(4, .inl (n)), (0, .inr (.inr (some (770)))), (1, .inr (.inr (some (l))))]) (st' := [.inl (48), .inl ((mk (mb h) (qz_I g 770 17) (mt h 2)))]) rfl ?_
    refine ez_icmp rfl rfl ⟨by first | omega | exact (sz_i32 _).1, by first | omega | exact (sz_i32 _).2⟩ ⟨by first | omega | exact (sz_i32 _).1, by first | omega | exact (sz_i32 _).2⟩ (fun (c2 : ((mk (mb h) (qz_I g 770 17) (mt h 2))) < (48)) => ?_) (fun (c2 : ¬(((mk (mb h) (qz_I g 770 17) (mt h 2))) < (48))) => ?_)
    · skip
      refine ez_go (n := 3) (pc' := 158) (L' := [(4, .inl (n)), (0, .inr (.inr (some (770)))), (1, .inr (.inr (some (l))))]) (st' := [.inl (1), .inl (n), .inr (.inr (some (770)))]) rfl ?_
      refine ez_icmp rfl rfl ⟨by first | omega | exact (sz_i32 _).1, by first | omega | exact (sz_i32 _).2⟩ ⟨by first | omega | exact (sz_i32 _).1, by first | omega | exact (sz_i32 _).2⟩ (fun (c3 : (n) < (1)) => ?_) (fun (c3 : ¬((n) < (1))) => ?_)
      · skip
        refine ez_go (n := 1) (pc' := 182) (L' := [(4, .inl (n)), (0, .inr (.inr (some (770)))), (1, .inr (.inr (some (l))))]) (st' := [.inl (0), .inr (.inr (some (770)))]) rfl ?_
        refine ez_cv hBg t770 rfl rfl rfl tq_75 rfl rfl rfl (rd_can0 (by omega) (by omega) (ez_Kp (xc_exc hBg rfl) rfl (k0 (fun cls w => ?_) g hBg hM)))
        obtain ⟨q1, q2, q3⟩ := w
        by_cases e9 : qz_I g 770 17 < mt h 2
        · have x1 := mk_in (b := mb h) e9; rw [dk_no hk (by omega) (by omega) e9 (by omega) (by omega)] at q3; omega
        · have x2 := (hk (by omega)).1 0; rw [show n.toNat + 0 = (mt h 2 - mf h 2).toNat by omega, ← q3] at x2; have x3 : rz_dec (mb h) 0 (qz_I g 770 17) (qz_I g l 4) = qz_I g l 4 := rfl; omega
      · skip
        refine ez_go (n := 2) (pc' := 164) (L' := [(4, .inl (n)), (0, .inr (.inr (some (770)))), (1, .inr (.inr (some (l))))]) (st' := [.inl (3), .inl (n), .inr (.inr (some (770)))]) rfl ?_
        refine ez_icmp rfl rfl ⟨by first | omega | exact (sz_i32 _).1, by first | omega | exact (sz_i32 _).2⟩ ⟨by first | omega | exact (sz_i32 _).1, by first | omega | exact (sz_i32 _).2⟩ (fun (c4 : (3) < (n)) => ?_) (fun (c4 : ¬((3) < (n))) => ?_)
        · skip
          refine ez_go (n := 1) (pc' := 182) (L' := [(4, .inl (n)), (0, .inr (.inr (some (770)))), (1, .inr (.inr (some (l))))]) (st' := [.inl (0), .inr (.inr (some (770)))]) rfl ?_
          refine ez_cv hBg t770 rfl rfl rfl tq_75 rfl rfl rfl (rd_can0 (by omega) (by omega) (ez_Kp (xc_exc hBg rfl) rfl (k0 (fun cls w => ?_) g hBg hM)))
          obtain ⟨q1, q2, q3⟩ := w
          by_cases e9 : qz_I g 770 17 < mt h 2
          · have x1 := mk_in (b := mb h) e9; rw [dk_no hk (by omega) (by omega) e9 (by omega) (by omega)] at q3; omega
          · have x2 := (hk (by omega)).1 0; rw [show n.toNat + 0 = (mt h 2 - mf h 2).toNat by omega, ← q3] at x2; have x3 : rz_dec (mb h) 0 (qz_I g 770 17) (qz_I g l 4) = qz_I g l 4 := rfl; omega
        · skip
          refine ez_go (n := 1) (pc' := 168) (L' := [(4, .inl (n)), (0, .inr (.inr (some (770)))), (1, .inr (.inr (some (l))))]) (st' := [.inr (.inr (some (l))), .inr (.inr (some (770)))]) rfl ?_
          refine ez_gI hBg tl rfl rfl tq_13 rfl rfl (fun (b5 : -2147483648 ≤ qz_I g l 4) (b5' : qz_I g l 4 ≤ 2147483647) => ?_)
          refine ez_go (n := 1) (pc' := 174) (L' := [(4, .inl (n)), (0, .inr (.inr (some (770)))), (1, .inr (.inr (some (l))))]) (st' := [.inl (254), .inl (qz_I g l 4), .inr (.inr (some (770)))]) rfl ?_
          refine ez_icmp rfl rfl ⟨by first | omega | exact (sz_i32 _).1, by first | omega | exact (sz_i32 _).2⟩ ⟨by first | omega | exact (sz_i32 _).1, by first | omega | exact (sz_i32 _).2⟩ (fun (c6 : (254) < (qz_I g l 4)) => ?_) (fun (c6 : ¬((254) < (qz_I g l 4))) => ?_)
          · skip
            refine ez_go (n := 1) (pc' := 182) (L' := [(4, .inl (n)), (0, .inr (.inr (some (770)))), (1, .inr (.inr (some (l))))]) (st' := [.inl (0), .inr (.inr (some (770)))]) rfl ?_
            refine ez_cv hBg t770 rfl rfl rfl tq_75 rfl rfl rfl (rd_can0 (by omega) (by omega) (ez_Kp (xc_exc hBg rfl) rfl (k0 (fun cls w => ?_) g hBg hM)))
            obtain ⟨q1, q2, q3⟩ := w
            by_cases e9 : qz_I g 770 17 < mt h 2
            · have x1 := mk_in (b := mb h) e9; rw [dk_no hk (by omega) (by omega) e9 (by omega) (by omega)] at q3; omega
            · have x2 := (hk (by omega)).1 0; rw [show n.toNat + 0 = (mt h 2 - mf h 2).toNat by omega, ← q3] at x2; have x3 : rz_dec (mb h) 0 (qz_I g 770 17) (qz_I g l 4) = qz_I g l 4 := rfl; omega
          · skip
            refine ez_go (n := 2) (pc' := 182) (L' := [(4, .inl (n)), (0, .inr (.inr (some (770)))), (1, .inr (.inr (some (l))))]) (st' := [.inl (1), .inr (.inr (some (770)))]) rfl ?_
            refine ez_cv hBg t770 rfl rfl rfl tq_75 rfl rfl rfl (rd_can1 (by omega) (by omega) (ez_K0 ?_))
            refine ez_go (n := 1) (pc' := 186) (L' := [(4, .inl (n)), (0, .inr (.inr (some (770)))), (1, .inr (.inr (some (l))))]) (st' := [.inr (.inr (some (770)))]) rfl ?_
            refine ez_cv hBg t770 rfl rfl rfl tq_75 rfl rfl rfl (rd_mend hBg t770 (by omega) (by omega) (fun e9 => ez_K0 ?_) (fun e9 => ez_Kp (xc_exc hBg rfl) rfl (k0 (fun cls w => ?_) g hBg hM)))
            · skip
              refine ez_less [(0, .inr (.inr (some (770)))), (1, .inr (.inr (some (l))))] rfl ⟨rfl, rfl, trivial⟩ ?_
              have x2 := (hk (by omega)).1 0; rw [show n.toNat + 0 = (mt h 2 - mf h 2).toNat by omega] at x2; have x3 : rz_dec (mb h) 0 (qz_I g 770 17) (qz_I g l 4) = qz_I g l 4 := rfl
              have x4 := (hk (by omega)).2.1
              exact kx g (qz_I g l 4) hBg hM ⟨⟨by omega, by omega⟩, ⟨by omega, by omega⟩, by rw [x2]; exact x3.symm⟩ rfl hJ
            · skip
              obtain ⟨q1, q2, q3⟩ := w
              by_cases e9 : qz_I g 770 17 < mt h 2
              · have x1 := mk_in (b := mb h) e9; rw [dk_no hk (by omega) (by omega) e9 (by omega) (by omega)] at q3; omega
              · have x2 := (hk (by omega)).1 0; rw [show n.toNat + 0 = (mt h 2 - mf h 2).toNat by omega, ← q3] at x2; have x3 : rz_dec (mb h) 0 (qz_I g 770 17) (qz_I g l 4) = qz_I g l 4 := rfl; omega
    · skip
      refine ez_go (n := 1) (pc' := 111) (L' := [(4, .inl (n)), (0, .inr (.inr (some (770)))), (1, .inr (.inr (some (l))))]) (st' := [.inr (.inr (some (770)))]) rfl ?_
      refine ez_cv hBg t770 rfl rfl rfl tq_75 rfl rfl rfl (rd_peek hBg t770 (fun p7 p7' => ez_K1 ?_))
      rw [hst, hM.b hl.2.1] at p7 p7' ⊢
      refine ez_go (n := 1) (pc' := 116) (L' := [(4, .inl (n)), (0, .inr (.inr (some (770)))), (1, .inr (.inr (some (l))))]) (st' := [.inl (57), .inl ((mk (mb h) (qz_I g 770 17) (mt h 2)))]) rfl ?_
      refine ez_icmp rfl rfl ⟨by first | omega | exact (sz_i32 _).1, by first | omega | exact (sz_i32 _).2⟩ ⟨by first | omega | exact (sz_i32 _).1, by first | omega | exact (sz_i32 _).2⟩ (fun (c8 : (57) < ((mk (mb h) (qz_I g 770 17) (mt h 2)))) => ?_) (fun (c8 : ¬((57) < ((mk (mb h) (qz_I g 770 17) (mt h 2))))) => ?_)
      · skip
        refine ez_go (n := 3) (pc' := 158) (L' := [(4, .inl (n)), (0, .inr (.inr (some (770)))), (1, .inr (.inr (some (l))))]) (st' := [.inl (1), .inl (n), .inr (.inr (some (770)))]) rfl ?_
        refine ez_icmp rfl rfl ⟨by first | omega | exact (sz_i32 _).1, by first | omega | exact (sz_i32 _).2⟩ ⟨by first | omega | exact (sz_i32 _).1, by first | omega | exact (sz_i32 _).2⟩ (fun (c9 : (n) < (1)) => ?_) (fun (c9 : ¬((n) < (1))) => ?_)
        · skip
          refine ez_go (n := 1) (pc' := 182) (L' := [(4, .inl (n)), (0, .inr (.inr (some (770)))), (1, .inr (.inr (some (l))))]) (st' := [.inl (0), .inr (.inr (some (770)))]) rfl ?_
          refine ez_cv hBg t770 rfl rfl rfl tq_75 rfl rfl rfl (rd_can0 (by omega) (by omega) (ez_Kp (xc_exc hBg rfl) rfl (k0 (fun cls w => ?_) g hBg hM)))
          obtain ⟨q1, q2, q3⟩ := w
          by_cases e9 : qz_I g 770 17 < mt h 2
          · have x1 := mk_in (b := mb h) e9; rw [dk_no hk (by omega) (by omega) e9 (by omega) (by omega)] at q3; omega
          · have x2 := (hk (by omega)).1 0; rw [show n.toNat + 0 = (mt h 2 - mf h 2).toNat by omega, ← q3] at x2; have x3 : rz_dec (mb h) 0 (qz_I g 770 17) (qz_I g l 4) = qz_I g l 4 := rfl; omega
        · skip
          refine ez_go (n := 2) (pc' := 164) (L' := [(4, .inl (n)), (0, .inr (.inr (some (770)))), (1, .inr (.inr (some (l))))]) (st' := [.inl (3), .inl (n), .inr (.inr (some (770)))]) rfl ?_
          refine ez_icmp rfl rfl ⟨by first | omega | exact (sz_i32 _).1, by first | omega | exact (sz_i32 _).2⟩ ⟨by first | omega | exact (sz_i32 _).1, by first | omega | exact (sz_i32 _).2⟩ (fun (c10 : (3) < (n)) => ?_) (fun (c10 : ¬((3) < (n))) => ?_)
          · skip
            refine ez_go (n := 1) (pc' := 182) (L' := [(4, .inl (n)), (0, .inr (.inr (some (770)))), (1, .inr (.inr (some (l))))]) (st' := [.inl (0), .inr (.inr (some (770)))]) rfl ?_
            refine ez_cv hBg t770 rfl rfl rfl tq_75 rfl rfl rfl (rd_can0 (by omega) (by omega) (ez_Kp (xc_exc hBg rfl) rfl (k0 (fun cls w => ?_) g hBg hM)))
            obtain ⟨q1, q2, q3⟩ := w
            by_cases e9 : qz_I g 770 17 < mt h 2
            · have x1 := mk_in (b := mb h) e9; rw [dk_no hk (by omega) (by omega) e9 (by omega) (by omega)] at q3; omega
            · have x2 := (hk (by omega)).1 0; rw [show n.toNat + 0 = (mt h 2 - mf h 2).toNat by omega, ← q3] at x2; have x3 : rz_dec (mb h) 0 (qz_I g 770 17) (qz_I g l 4) = qz_I g l 4 := rfl; omega
          · skip
            refine ez_go (n := 1) (pc' := 168) (L' := [(4, .inl (n)), (0, .inr (.inr (some (770)))), (1, .inr (.inr (some (l))))]) (st' := [.inr (.inr (some (l))), .inr (.inr (some (770)))]) rfl ?_
            refine ez_gI hBg tl rfl rfl tq_13 rfl rfl (fun (b11 : -2147483648 ≤ qz_I g l 4) (b11' : qz_I g l 4 ≤ 2147483647) => ?_)
            refine ez_go (n := 1) (pc' := 174) (L' := [(4, .inl (n)), (0, .inr (.inr (some (770)))), (1, .inr (.inr (some (l))))]) (st' := [.inl (254), .inl (qz_I g l 4), .inr (.inr (some (770)))]) rfl ?_
            refine ez_icmp rfl rfl ⟨by first | omega | exact (sz_i32 _).1, by first | omega | exact (sz_i32 _).2⟩ ⟨by first | omega | exact (sz_i32 _).1, by first | omega | exact (sz_i32 _).2⟩ (fun (c12 : (254) < (qz_I g l 4)) => ?_) (fun (c12 : ¬((254) < (qz_I g l 4))) => ?_)
            · skip
              refine ez_go (n := 1) (pc' := 182) (L' := [(4, .inl (n)), (0, .inr (.inr (some (770)))), (1, .inr (.inr (some (l))))]) (st' := [.inl (0), .inr (.inr (some (770)))]) rfl ?_
              refine ez_cv hBg t770 rfl rfl rfl tq_75 rfl rfl rfl (rd_can0 (by omega) (by omega) (ez_Kp (xc_exc hBg rfl) rfl (k0 (fun cls w => ?_) g hBg hM)))
              obtain ⟨q1, q2, q3⟩ := w
              by_cases e9 : qz_I g 770 17 < mt h 2
              · have x1 := mk_in (b := mb h) e9; rw [dk_no hk (by omega) (by omega) e9 (by omega) (by omega)] at q3; omega
              · have x2 := (hk (by omega)).1 0; rw [show n.toNat + 0 = (mt h 2 - mf h 2).toNat by omega, ← q3] at x2; have x3 : rz_dec (mb h) 0 (qz_I g 770 17) (qz_I g l 4) = qz_I g l 4 := rfl; omega
            · skip
              refine ez_go (n := 2) (pc' := 182) (L' := [(4, .inl (n)), (0, .inr (.inr (some (770)))), (1, .inr (.inr (some (l))))]) (st' := [.inl (1), .inr (.inr (some (770)))]) rfl ?_
              refine ez_cv hBg t770 rfl rfl rfl tq_75 rfl rfl rfl (rd_can1 (by omega) (by omega) (ez_K0 ?_))
              refine ez_go (n := 1) (pc' := 186) (L' := [(4, .inl (n)), (0, .inr (.inr (some (770)))), (1, .inr (.inr (some (l))))]) (st' := [.inr (.inr (some (770)))]) rfl ?_
              refine ez_cv hBg t770 rfl rfl rfl tq_75 rfl rfl rfl (rd_mend hBg t770 (by omega) (by omega) (fun e9 => ez_K0 ?_) (fun e9 => ez_Kp (xc_exc hBg rfl) rfl (k0 (fun cls w => ?_) g hBg hM)))
              · skip
                refine ez_less [(0, .inr (.inr (some (770)))), (1, .inr (.inr (some (l))))] rfl ⟨rfl, rfl, trivial⟩ ?_
                have x2 := (hk (by omega)).1 0; rw [show n.toNat + 0 = (mt h 2 - mf h 2).toNat by omega] at x2; have x3 : rz_dec (mb h) 0 (qz_I g 770 17) (qz_I g l 4) = qz_I g l 4 := rfl
                have x4 := (hk (by omega)).2.1
                exact kx g (qz_I g l 4) hBg hM ⟨⟨by omega, by omega⟩, ⟨by omega, by omega⟩, by rw [x2]; exact x3.symm⟩ rfl hJ
              · skip
                obtain ⟨q1, q2, q3⟩ := w
                by_cases e9 : qz_I g 770 17 < mt h 2
                · have x1 := mk_in (b := mb h) e9; rw [dk_no hk (by omega) (by omega) e9 (by omega) (by omega)] at q3; omega
                · have x2 := (hk (by omega)).1 0; rw [show n.toNat + 0 = (mt h 2 - mf h 2).toNat by omega, ← q3] at x2; have x3 : rz_dec (mb h) 0 (qz_I g 770 17) (qz_I g l 4) = qz_I g l 4 := rfl; omega
      · skip
        refine ez_go (n := 3) (pc' := 123) (L' := [(4, .inl (n)), (0, .inr (.inr (some (770)))), (1, .inr (.inr (some (l))))]) (st' := [.inr (.inr (some (l))), .inl (10), .inr (.inr (some (l)))]) rfl ?_
        refine ez_gI hBg tl rfl rfl tq_13 rfl rfl (fun (b13 : -2147483648 ≤ qz_I g l 4) (b13' : qz_I g l 4 ≤ 2147483647) => ?_)
        refine ez_go (n := 2) (pc' := 128) (L' := [(4, .inl (n)), (0, .inr (.inr (some (770)))), (1, .inr (.inr (some (l))))]) (st' := [.inr (.inr (some (770))), .inl ((10) * (qz_I g l 4)), .inr (.inr (some (l)))]) rfl ?_
        refine ez_cv hBg t770 rfl rfl rfl tq_75 rfl rfl rfl (rd_peek hBg t770 (fun p14 p14' => ez_K1 ?_))
        rw [hst, hM.b hl.2.1] at p14 p14' ⊢
        refine ez_go (n := 3) (pc' := 135) (L' := [(4, .inl (n)), (0, .inr (.inr (some (770)))), (1, .inr (.inr (some (l))))]) (st' := [.inl ((((10) * (qz_I g l 4)) + ((mk (mb h) (qz_I g 770 17) (mt h 2)))) - (48)), .inr (.inr (some (l)))]) rfl ?_
        refine ez_wr ?_
        have wb := sz_i32 (Int32.ofInt ((((10) * (qz_I g l 4)) + ((mk (mb h) (qz_I g 770 17) (mt h 2)))) - (48)))
        refine ez_pf hBg tl rfl rfl tq_13 rfl rfl rfl rfl (ez_vdI rfl rfl (by omega) (by omega)) (fun hB15 w16 => ?_)
        have z17 : qz_I (dz_put g l 4 (ez_v (.inl ((Int32.ofInt ((((10) * (qz_I g l 4)) + ((mk (mb h) (qz_I g 770 17) (mt h 2)))) - (48))).toInt)))) 770 17 = qz_I g 770 17 := ez_put_I (fun w => hl.1 w.1.symm)
        refine ez_go (n := 2) (pc' := 140) (L' := [(4, .inl (n)), (0, .inr (.inr (some (770)))), (1, .inr (.inr (some (l))))]) (st' := [.inr (.inr (some (770))), .inr (.inr (some (770)))]) rfl ?_
        refine ez_gI hB15 t770 rfl rfl tq_75 rfl rfl (fun (b17 : 0 ≤ qz_I (dz_put g l 4 (ez_v (.inl ((Int32.ofInt ((((10) * (qz_I g l 4)) + ((mk (mb h) (qz_I g 770 17) (mt h 2)))) - (48))).toInt)))) 770 17) (b17' : qz_I (dz_put g l 4 (ez_v (.inl ((Int32.ofInt ((((10) * (qz_I g l 4)) + ((mk (mb h) (qz_I g 770 17) (mt h 2)))) - (48))).toInt)))) 770 17 ≤ 4200) => ?_)
        refine ez_go (n := 2) (pc' := 145) (L' := [(4, .inl (n)), (0, .inr (.inr (some (770)))), (1, .inr (.inr (some (l))))]) (st' := [.inl ((qz_I (dz_put g l 4 (ez_v (.inl ((Int32.ofInt ((((10) * (qz_I g l 4)) + ((mk (mb h) (qz_I g 770 17) (mt h 2)))) - (48))).toInt)))) 770 17) + (1)), .inr (.inr (some (770)))]) rfl ?_
        refine ez_pf hB15 t770 rfl rfl tq_75 rfl rfl rfl rfl (ez_vdI rfl rfl (by omega) (by omega)) (fun hB18 w19 => ?_)
        refine ez_go (n := 2) (pc' := 101) (L' := [(4, .inl (n + 1)), (0, .inr (.inr (some (770)))), (1, .inr (.inr (some (l))))]) (st' := []) rfl ?_
        exfalso; have x1 := mk_out (b := mb h) (show ¬ qz_I g 770 17 < mt h 2 by omega); omega
  | succ m ih =>
    intro n g hm hBg hM hJ hst hn n0 hat hk
    have c1 := hM.1.1; have c2 := hM.1.2.1
    refine ez_go (n := 1) (pc' := 102) (L' := [(4, .inl (n)), (0, .inr (.inr (some (770)))), (1, .inr (.inr (some (l))))]) (st' := [.inr (.inr (some (770)))]) rfl ?_
    refine ez_cv hBg t770 rfl rfl rfl tq_75 rfl rfl rfl (rd_peek hBg t770 (fun p1 p1' => ez_K1 ?_))
    rw [hst, hM.b hl.2.1] at p1 p1' ⊢
    refine ez_go (n := 1) (pc' := 107) (L' := [(4, .inl (n)), (0, .inr (.inr (some (770)))), (1, .inr (.inr (some (l))))]) (st' := [.inl (48), .inl ((mk (mb h) (qz_I g 770 17) (mt h 2)))]) rfl ?_
    refine ez_icmp rfl rfl ⟨by first | omega | exact (sz_i32 _).1, by first | omega | exact (sz_i32 _).2⟩ ⟨by first | omega | exact (sz_i32 _).1, by first | omega | exact (sz_i32 _).2⟩ (fun (c2 : ((mk (mb h) (qz_I g 770 17) (mt h 2))) < (48)) => ?_) (fun (c2 : ¬(((mk (mb h) (qz_I g 770 17) (mt h 2))) < (48))) => ?_)
    · skip
      refine ez_go (n := 3) (pc' := 158) (L' := [(4, .inl (n)), (0, .inr (.inr (some (770)))), (1, .inr (.inr (some (l))))]) (st' := [.inl (1), .inl (n), .inr (.inr (some (770)))]) rfl ?_
      refine ez_icmp rfl rfl ⟨by first | omega | exact (sz_i32 _).1, by first | omega | exact (sz_i32 _).2⟩ ⟨by first | omega | exact (sz_i32 _).1, by first | omega | exact (sz_i32 _).2⟩ (fun (c3 : (n) < (1)) => ?_) (fun (c3 : ¬((n) < (1))) => ?_)
      · skip
        refine ez_go (n := 1) (pc' := 182) (L' := [(4, .inl (n)), (0, .inr (.inr (some (770)))), (1, .inr (.inr (some (l))))]) (st' := [.inl (0), .inr (.inr (some (770)))]) rfl ?_
        refine ez_cv hBg t770 rfl rfl rfl tq_75 rfl rfl rfl (rd_can0 (by omega) (by omega) (ez_Kp (xc_exc hBg rfl) rfl (k0 (fun cls w => ?_) g hBg hM)))
        obtain ⟨q1, q2, q3⟩ := w
        by_cases e9 : qz_I g 770 17 < mt h 2
        · have x1 := mk_in (b := mb h) e9; rw [dk_no hk (by omega) (by omega) e9 (by omega) (by omega)] at q3; omega
        · have x2 := (hk (by omega)).1 0; rw [show n.toNat + 0 = (mt h 2 - mf h 2).toNat by omega, ← q3] at x2; have x3 : rz_dec (mb h) 0 (qz_I g 770 17) (qz_I g l 4) = qz_I g l 4 := rfl; omega
      · skip
        refine ez_go (n := 2) (pc' := 164) (L' := [(4, .inl (n)), (0, .inr (.inr (some (770)))), (1, .inr (.inr (some (l))))]) (st' := [.inl (3), .inl (n), .inr (.inr (some (770)))]) rfl ?_
        refine ez_icmp rfl rfl ⟨by first | omega | exact (sz_i32 _).1, by first | omega | exact (sz_i32 _).2⟩ ⟨by first | omega | exact (sz_i32 _).1, by first | omega | exact (sz_i32 _).2⟩ (fun (c4 : (3) < (n)) => ?_) (fun (c4 : ¬((3) < (n))) => ?_)
        · skip
          refine ez_go (n := 1) (pc' := 182) (L' := [(4, .inl (n)), (0, .inr (.inr (some (770)))), (1, .inr (.inr (some (l))))]) (st' := [.inl (0), .inr (.inr (some (770)))]) rfl ?_
          refine ez_cv hBg t770 rfl rfl rfl tq_75 rfl rfl rfl (rd_can0 (by omega) (by omega) (ez_Kp (xc_exc hBg rfl) rfl (k0 (fun cls w => ?_) g hBg hM)))
          obtain ⟨q1, q2, q3⟩ := w
          by_cases e9 : qz_I g 770 17 < mt h 2
          · have x1 := mk_in (b := mb h) e9; rw [dk_no hk (by omega) (by omega) e9 (by omega) (by omega)] at q3; omega
          · have x2 := (hk (by omega)).1 0; rw [show n.toNat + 0 = (mt h 2 - mf h 2).toNat by omega, ← q3] at x2; have x3 : rz_dec (mb h) 0 (qz_I g 770 17) (qz_I g l 4) = qz_I g l 4 := rfl; omega
        · skip
          refine ez_go (n := 1) (pc' := 168) (L' := [(4, .inl (n)), (0, .inr (.inr (some (770)))), (1, .inr (.inr (some (l))))]) (st' := [.inr (.inr (some (l))), .inr (.inr (some (770)))]) rfl ?_
          refine ez_gI hBg tl rfl rfl tq_13 rfl rfl (fun (b5 : -2147483648 ≤ qz_I g l 4) (b5' : qz_I g l 4 ≤ 2147483647) => ?_)
          refine ez_go (n := 1) (pc' := 174) (L' := [(4, .inl (n)), (0, .inr (.inr (some (770)))), (1, .inr (.inr (some (l))))]) (st' := [.inl (254), .inl (qz_I g l 4), .inr (.inr (some (770)))]) rfl ?_
          refine ez_icmp rfl rfl ⟨by first | omega | exact (sz_i32 _).1, by first | omega | exact (sz_i32 _).2⟩ ⟨by first | omega | exact (sz_i32 _).1, by first | omega | exact (sz_i32 _).2⟩ (fun (c6 : (254) < (qz_I g l 4)) => ?_) (fun (c6 : ¬((254) < (qz_I g l 4))) => ?_)
          · skip
            refine ez_go (n := 1) (pc' := 182) (L' := [(4, .inl (n)), (0, .inr (.inr (some (770)))), (1, .inr (.inr (some (l))))]) (st' := [.inl (0), .inr (.inr (some (770)))]) rfl ?_
            refine ez_cv hBg t770 rfl rfl rfl tq_75 rfl rfl rfl (rd_can0 (by omega) (by omega) (ez_Kp (xc_exc hBg rfl) rfl (k0 (fun cls w => ?_) g hBg hM)))
            obtain ⟨q1, q2, q3⟩ := w
            by_cases e9 : qz_I g 770 17 < mt h 2
            · have x1 := mk_in (b := mb h) e9; rw [dk_no hk (by omega) (by omega) e9 (by omega) (by omega)] at q3; omega
            · have x2 := (hk (by omega)).1 0; rw [show n.toNat + 0 = (mt h 2 - mf h 2).toNat by omega, ← q3] at x2; have x3 : rz_dec (mb h) 0 (qz_I g 770 17) (qz_I g l 4) = qz_I g l 4 := rfl; omega
          · skip
            refine ez_go (n := 2) (pc' := 182) (L' := [(4, .inl (n)), (0, .inr (.inr (some (770)))), (1, .inr (.inr (some (l))))]) (st' := [.inl (1), .inr (.inr (some (770)))]) rfl ?_
            refine ez_cv hBg t770 rfl rfl rfl tq_75 rfl rfl rfl (rd_can1 (by omega) (by omega) (ez_K0 ?_))
            refine ez_go (n := 1) (pc' := 186) (L' := [(4, .inl (n)), (0, .inr (.inr (some (770)))), (1, .inr (.inr (some (l))))]) (st' := [.inr (.inr (some (770)))]) rfl ?_
            refine ez_cv hBg t770 rfl rfl rfl tq_75 rfl rfl rfl (rd_mend hBg t770 (by omega) (by omega) (fun e9 => ez_K0 ?_) (fun e9 => ez_Kp (xc_exc hBg rfl) rfl (k0 (fun cls w => ?_) g hBg hM)))
            · skip
              refine ez_less [(0, .inr (.inr (some (770)))), (1, .inr (.inr (some (l))))] rfl ⟨rfl, rfl, trivial⟩ ?_
              have x2 := (hk (by omega)).1 0; rw [show n.toNat + 0 = (mt h 2 - mf h 2).toNat by omega] at x2; have x3 : rz_dec (mb h) 0 (qz_I g 770 17) (qz_I g l 4) = qz_I g l 4 := rfl
              have x4 := (hk (by omega)).2.1
              exact kx g (qz_I g l 4) hBg hM ⟨⟨by omega, by omega⟩, ⟨by omega, by omega⟩, by rw [x2]; exact x3.symm⟩ rfl hJ
            · skip
              obtain ⟨q1, q2, q3⟩ := w
              by_cases e9 : qz_I g 770 17 < mt h 2
              · have x1 := mk_in (b := mb h) e9; rw [dk_no hk (by omega) (by omega) e9 (by omega) (by omega)] at q3; omega
              · have x2 := (hk (by omega)).1 0; rw [show n.toNat + 0 = (mt h 2 - mf h 2).toNat by omega, ← q3] at x2; have x3 : rz_dec (mb h) 0 (qz_I g 770 17) (qz_I g l 4) = qz_I g l 4 := rfl; omega
    · skip
      refine ez_go (n := 1) (pc' := 111) (L' := [(4, .inl (n)), (0, .inr (.inr (some (770)))), (1, .inr (.inr (some (l))))]) (st' := [.inr (.inr (some (770)))]) rfl ?_
      refine ez_cv hBg t770 rfl rfl rfl tq_75 rfl rfl rfl (rd_peek hBg t770 (fun p7 p7' => ez_K1 ?_))
      rw [hst, hM.b hl.2.1] at p7 p7' ⊢
      refine ez_go (n := 1) (pc' := 116) (L' := [(4, .inl (n)), (0, .inr (.inr (some (770)))), (1, .inr (.inr (some (l))))]) (st' := [.inl (57), .inl ((mk (mb h) (qz_I g 770 17) (mt h 2)))]) rfl ?_
      refine ez_icmp rfl rfl ⟨by first | omega | exact (sz_i32 _).1, by first | omega | exact (sz_i32 _).2⟩ ⟨by first | omega | exact (sz_i32 _).1, by first | omega | exact (sz_i32 _).2⟩ (fun (c8 : (57) < ((mk (mb h) (qz_I g 770 17) (mt h 2)))) => ?_) (fun (c8 : ¬((57) < ((mk (mb h) (qz_I g 770 17) (mt h 2))))) => ?_)
      · skip
        refine ez_go (n := 3) (pc' := 158) (L' := [(4, .inl (n)), (0, .inr (.inr (some (770)))), (1, .inr (.inr (some (l))))]) (st' := [.inl (1), .inl (n), .inr (.inr (some (770)))]) rfl ?_
        refine ez_icmp rfl rfl ⟨by first | omega | exact (sz_i32 _).1, by first | omega | exact (sz_i32 _).2⟩ ⟨by first | omega | exact (sz_i32 _).1, by first | omega | exact (sz_i32 _).2⟩ (fun (c9 : (n) < (1)) => ?_) (fun (c9 : ¬((n) < (1))) => ?_)
        · skip
          refine ez_go (n := 1) (pc' := 182) (L' := [(4, .inl (n)), (0, .inr (.inr (some (770)))), (1, .inr (.inr (some (l))))]) (st' := [.inl (0), .inr (.inr (some (770)))]) rfl ?_
          refine ez_cv hBg t770 rfl rfl rfl tq_75 rfl rfl rfl (rd_can0 (by omega) (by omega) (ez_Kp (xc_exc hBg rfl) rfl (k0 (fun cls w => ?_) g hBg hM)))
          obtain ⟨q1, q2, q3⟩ := w
          by_cases e9 : qz_I g 770 17 < mt h 2
          · have x1 := mk_in (b := mb h) e9; rw [dk_no hk (by omega) (by omega) e9 (by omega) (by omega)] at q3; omega
          · have x2 := (hk (by omega)).1 0; rw [show n.toNat + 0 = (mt h 2 - mf h 2).toNat by omega, ← q3] at x2; have x3 : rz_dec (mb h) 0 (qz_I g 770 17) (qz_I g l 4) = qz_I g l 4 := rfl; omega
        · skip
          refine ez_go (n := 2) (pc' := 164) (L' := [(4, .inl (n)), (0, .inr (.inr (some (770)))), (1, .inr (.inr (some (l))))]) (st' := [.inl (3), .inl (n), .inr (.inr (some (770)))]) rfl ?_
          refine ez_icmp rfl rfl ⟨by first | omega | exact (sz_i32 _).1, by first | omega | exact (sz_i32 _).2⟩ ⟨by first | omega | exact (sz_i32 _).1, by first | omega | exact (sz_i32 _).2⟩ (fun (c10 : (3) < (n)) => ?_) (fun (c10 : ¬((3) < (n))) => ?_)
          · skip
            refine ez_go (n := 1) (pc' := 182) (L' := [(4, .inl (n)), (0, .inr (.inr (some (770)))), (1, .inr (.inr (some (l))))]) (st' := [.inl (0), .inr (.inr (some (770)))]) rfl ?_
            refine ez_cv hBg t770 rfl rfl rfl tq_75 rfl rfl rfl (rd_can0 (by omega) (by omega) (ez_Kp (xc_exc hBg rfl) rfl (k0 (fun cls w => ?_) g hBg hM)))
            obtain ⟨q1, q2, q3⟩ := w
            by_cases e9 : qz_I g 770 17 < mt h 2
            · have x1 := mk_in (b := mb h) e9; rw [dk_no hk (by omega) (by omega) e9 (by omega) (by omega)] at q3; omega
            · have x2 := (hk (by omega)).1 0; rw [show n.toNat + 0 = (mt h 2 - mf h 2).toNat by omega, ← q3] at x2; have x3 : rz_dec (mb h) 0 (qz_I g 770 17) (qz_I g l 4) = qz_I g l 4 := rfl; omega
          · skip
            refine ez_go (n := 1) (pc' := 168) (L' := [(4, .inl (n)), (0, .inr (.inr (some (770)))), (1, .inr (.inr (some (l))))]) (st' := [.inr (.inr (some (l))), .inr (.inr (some (770)))]) rfl ?_
            refine ez_gI hBg tl rfl rfl tq_13 rfl rfl (fun (b11 : -2147483648 ≤ qz_I g l 4) (b11' : qz_I g l 4 ≤ 2147483647) => ?_)
            refine ez_go (n := 1) (pc' := 174) (L' := [(4, .inl (n)), (0, .inr (.inr (some (770)))), (1, .inr (.inr (some (l))))]) (st' := [.inl (254), .inl (qz_I g l 4), .inr (.inr (some (770)))]) rfl ?_
            refine ez_icmp rfl rfl ⟨by first | omega | exact (sz_i32 _).1, by first | omega | exact (sz_i32 _).2⟩ ⟨by first | omega | exact (sz_i32 _).1, by first | omega | exact (sz_i32 _).2⟩ (fun (c12 : (254) < (qz_I g l 4)) => ?_) (fun (c12 : ¬((254) < (qz_I g l 4))) => ?_)
            · skip
              refine ez_go (n := 1) (pc' := 182) (L' := [(4, .inl (n)), (0, .inr (.inr (some (770)))), (1, .inr (.inr (some (l))))]) (st' := [.inl (0), .inr (.inr (some (770)))]) rfl ?_
              refine ez_cv hBg t770 rfl rfl rfl tq_75 rfl rfl rfl (rd_can0 (by omega) (by omega) (ez_Kp (xc_exc hBg rfl) rfl (k0 (fun cls w => ?_) g hBg hM)))
              obtain ⟨q1, q2, q3⟩ := w
              by_cases e9 : qz_I g 770 17 < mt h 2
              · have x1 := mk_in (b := mb h) e9; rw [dk_no hk (by omega) (by omega) e9 (by omega) (by omega)] at q3; omega
              · have x2 := (hk (by omega)).1 0; rw [show n.toNat + 0 = (mt h 2 - mf h 2).toNat by omega, ← q3] at x2; have x3 : rz_dec (mb h) 0 (qz_I g 770 17) (qz_I g l 4) = qz_I g l 4 := rfl; omega
            · skip
              refine ez_go (n := 2) (pc' := 182) (L' := [(4, .inl (n)), (0, .inr (.inr (some (770)))), (1, .inr (.inr (some (l))))]) (st' := [.inl (1), .inr (.inr (some (770)))]) rfl ?_
              refine ez_cv hBg t770 rfl rfl rfl tq_75 rfl rfl rfl (rd_can1 (by omega) (by omega) (ez_K0 ?_))
              refine ez_go (n := 1) (pc' := 186) (L' := [(4, .inl (n)), (0, .inr (.inr (some (770)))), (1, .inr (.inr (some (l))))]) (st' := [.inr (.inr (some (770)))]) rfl ?_
              refine ez_cv hBg t770 rfl rfl rfl tq_75 rfl rfl rfl (rd_mend hBg t770 (by omega) (by omega) (fun e9 => ez_K0 ?_) (fun e9 => ez_Kp (xc_exc hBg rfl) rfl (k0 (fun cls w => ?_) g hBg hM)))
              · skip
                refine ez_less [(0, .inr (.inr (some (770)))), (1, .inr (.inr (some (l))))] rfl ⟨rfl, rfl, trivial⟩ ?_
                have x2 := (hk (by omega)).1 0; rw [show n.toNat + 0 = (mt h 2 - mf h 2).toNat by omega] at x2; have x3 : rz_dec (mb h) 0 (qz_I g 770 17) (qz_I g l 4) = qz_I g l 4 := rfl
                have x4 := (hk (by omega)).2.1
                exact kx g (qz_I g l 4) hBg hM ⟨⟨by omega, by omega⟩, ⟨by omega, by omega⟩, by rw [x2]; exact x3.symm⟩ rfl hJ
              · skip
                obtain ⟨q1, q2, q3⟩ := w
                by_cases e9 : qz_I g 770 17 < mt h 2
                · have x1 := mk_in (b := mb h) e9; rw [dk_no hk (by omega) (by omega) e9 (by omega) (by omega)] at q3; omega
                · have x2 := (hk (by omega)).1 0; rw [show n.toNat + 0 = (mt h 2 - mf h 2).toNat by omega, ← q3] at x2; have x3 : rz_dec (mb h) 0 (qz_I g 770 17) (qz_I g l 4) = qz_I g l 4 := rfl; omega
      · skip
        refine ez_go (n := 3) (pc' := 123) (L' := [(4, .inl (n)), (0, .inr (.inr (some (770)))), (1, .inr (.inr (some (l))))]) (st' := [.inr (.inr (some (l))), .inl (10), .inr (.inr (some (l)))]) rfl ?_
        refine ez_gI hBg tl rfl rfl tq_13 rfl rfl (fun (b13 : -2147483648 ≤ qz_I g l 4) (b13' : qz_I g l 4 ≤ 2147483647) => ?_)
        refine ez_go (n := 2) (pc' := 128) (L' := [(4, .inl (n)), (0, .inr (.inr (some (770)))), (1, .inr (.inr (some (l))))]) (st' := [.inr (.inr (some (770))), .inl ((10) * (qz_I g l 4)), .inr (.inr (some (l)))]) rfl ?_
        refine ez_cv hBg t770 rfl rfl rfl tq_75 rfl rfl rfl (rd_peek hBg t770 (fun p14 p14' => ez_K1 ?_))
        rw [hst, hM.b hl.2.1] at p14 p14' ⊢
        refine ez_go (n := 3) (pc' := 135) (L' := [(4, .inl (n)), (0, .inr (.inr (some (770)))), (1, .inr (.inr (some (l))))]) (st' := [.inl ((((10) * (qz_I g l 4)) + ((mk (mb h) (qz_I g 770 17) (mt h 2)))) - (48)), .inr (.inr (some (l)))]) rfl ?_
        refine ez_wr ?_
        have wb := sz_i32 (Int32.ofInt ((((10) * (qz_I g l 4)) + ((mk (mb h) (qz_I g 770 17) (mt h 2)))) - (48)))
        refine ez_pf hBg tl rfl rfl tq_13 rfl rfl rfl rfl (ez_vdI rfl rfl (by omega) (by omega)) (fun hB15 w16 => ?_)
        have z17 : qz_I (dz_put g l 4 (ez_v (.inl ((Int32.ofInt ((((10) * (qz_I g l 4)) + ((mk (mb h) (qz_I g 770 17) (mt h 2)))) - (48))).toInt)))) 770 17 = qz_I g 770 17 := ez_put_I (fun w => hl.1 w.1.symm)
        refine ez_go (n := 2) (pc' := 140) (L' := [(4, .inl (n)), (0, .inr (.inr (some (770)))), (1, .inr (.inr (some (l))))]) (st' := [.inr (.inr (some (770))), .inr (.inr (some (770)))]) rfl ?_
        refine ez_gI hB15 t770 rfl rfl tq_75 rfl rfl (fun (b17 : 0 ≤ qz_I (dz_put g l 4 (ez_v (.inl ((Int32.ofInt ((((10) * (qz_I g l 4)) + ((mk (mb h) (qz_I g 770 17) (mt h 2)))) - (48))).toInt)))) 770 17) (b17' : qz_I (dz_put g l 4 (ez_v (.inl ((Int32.ofInt ((((10) * (qz_I g l 4)) + ((mk (mb h) (qz_I g 770 17) (mt h 2)))) - (48))).toInt)))) 770 17 ≤ 4200) => ?_)
        refine ez_go (n := 2) (pc' := 145) (L' := [(4, .inl (n)), (0, .inr (.inr (some (770)))), (1, .inr (.inr (some (l))))]) (st' := [.inl ((qz_I (dz_put g l 4 (ez_v (.inl ((Int32.ofInt ((((10) * (qz_I g l 4)) + ((mk (mb h) (qz_I g 770 17) (mt h 2)))) - (48))).toInt)))) 770 17) + (1)), .inr (.inr (some (770)))]) rfl ?_
        refine ez_pf hB15 t770 rfl rfl tq_75 rfl rfl rfl rfl (ez_vdI rfl rfl (by omega) (by omega)) (fun hB18 w19 => ?_)
        refine ez_go (n := 2) (pc' := 101) (L' := [(4, .inl (n + 1)), (0, .inr (.inr (some (770)))), (1, .inr (.inr (some (l))))]) (st' := []) rfl ?_
        refine ez_less [(4, .inl (n + 1)), (0, .inr (.inr (some (770)))), (1, .inr (.inr (some (l))))] rfl ⟨rfl, rfl, rfl, trivial⟩ ?_
        have hlt : qz_I g 770 17 < mt h 2 := by by_cases e9 : qz_I g 770 17 < mt h 2; (· exact e9); (· exfalso; have x1 := mk_out (b := mb h) e9; omega)
        have x1 := mk_in (b := mb h) hlt
        have e17 : qz_I (dz_put (dz_put g l 4 (ez_v (.inl ((Int32.ofInt ((((10) * (qz_I g l 4)) + ((mk (mb h) (qz_I g 770 17) (mt h 2)))) - (48))).toInt)))) 770 17 (ez_v (.inl ((qz_I (dz_put g l 4 (ez_v (.inl ((Int32.ofInt ((((10) * (qz_I g l 4)) + ((mk (mb h) (qz_I g 770 17) (mt h 2)))) - (48))).toInt)))) 770 17) + (1))))) 770 17 = qz_I g 770 17 + 1 := by rw [w19, rz_rd ⟨by omega, by omega⟩, ez_put_I (by omega)]
        have e18 : qz_I (dz_put (dz_put g l 4 (ez_v (.inl ((Int32.ofInt ((((10) * (qz_I g l 4)) + ((mk (mb h) (qz_I g 770 17) (mt h 2)))) - (48))).toInt)))) 770 17 (ez_v (.inl ((qz_I (dz_put g l 4 (ez_v (.inl ((Int32.ofInt ((((10) * (qz_I g l 4)) + ((mk (mb h) (qz_I g 770 17) (mt h 2)))) - (48))).toInt)))) 770 17) + (1))))) 770 18 = mt h 2 := by rw [ez_put_I (by omega), ez_put_I (by omega)]; exact hst
        have e4 : qz_I (dz_put (dz_put g l 4 (ez_v (.inl ((Int32.ofInt ((((10) * (qz_I g l 4)) + ((mk (mb h) (qz_I g 770 17) (mt h 2)))) - (48))).toInt)))) 770 17 (ez_v (.inl ((qz_I (dz_put g l 4 (ez_v (.inl ((Int32.ofInt ((((10) * (qz_I g l 4)) + ((mk (mb h) (qz_I g 770 17) (mt h 2)))) - (48))).toInt)))) 770 17) + (1))))) l 4 = (Int32.ofInt (10 * qz_I g l 4 + mk (mb h) (qz_I g 770 17) (mt h 2) - 48)).toInt := by rw [ez_put_I (fun w => hl.1 w.1), w16, rz_rd ⟨by omega, by omega⟩]
        refine ih _ _ (by rw [e17]; omega) hB18 ((hM.trans (mw_put hl.1)).trans mz_put.mw) (fun j hj => by rw [ez_put_I (fun w => hl.1 w.1), ez_put_I (fun w => hj w.2)]; exact hJ j hj) e18 (by rw [e17]; omega) (by omega) (by rw [e17]; omega) ?_
        rw [e17, e4]; exact dk_next hk (by omega) (by omega) (by omega) (by omega)

theorem rd_points_b (hB : ez_B τ h) (t770 : τ 770 = 75) (tl : τ l = 13) (hl : lz l) (hr1 : h.1 + 1 ≤ 600192) (hr2 : h.2.1 + 6 ≤ 7302232) (hF : ∀ k, 0 ≤ k → k < 7 → (0 ≤ mf h k ∧ mf h k ≤ mt h k) ∧ mt h k ≤ 4096) (h4 : qz_I h l 4 = 0) (kx : ∀ g cls, ez_B τ g → mw h g l → ((1 ≤ mt h 2 - mf h 2 ∧ mt h 2 - mf h 2 ≤ 3) ∧ (0 ≤ cls ∧ cls ≤ 254) ∧ cls = rz_dec (mb h) (mt h 2 - mf h 2).toNat (mf h 2) 0) → qz_I g l 4 = cls → (∀ j, j ≠ 4 → qz_I g l j = qz_I h l j) → ez_W (d + 9) cm_291 189 [(0, .inr (.inr (some (770)))), (1, .inr (.inr (some (l))))] [] g Q) (k0 : (∀ cls, ¬ ((1 ≤ mt h 2 - mf h 2 ∧ mt h 2 - mf h 2 ≤ 3) ∧ (0 ≤ cls ∧ cls ≤ 254) ∧ cls = rz_dec (mb h) (mt h 2 - mf h 2).toNat (mf h 2) 0)) → ∀ g, ez_B τ g → mw h g l → Q (.inr g.1, xc g 1)) : ez_W (d + 9) cm_291 93 [(0, .inr (.inr (some (770)))), (1, .inr (.inr (some (l))))] [] h Q := by
  refine ez_go (n := 2) (pc' := 95) (L' := [(0, .inr (.inr (some (770)))), (1, .inr (.inr (some (l))))]) (st' := [.inl (2), .inr (.inr (some (770)))]) rfl ?_
  have F2 := hF 2 (by omega) (by omega)
  refine ez_cv hB t770 rfl rfl rfl tq_75 rfl rfl rfl (rd_field hB t770 (by omega) (by omega) (fun g1 hB1 m1 a1 s1 => ez_K0 ?_))
  refine ez_go (n := 2) (pc' := 101) (L' := [(4, .inl (0)), (0, .inr (.inr (some (770)))), (1, .inr (.inr (some (l))))]) (st' := []) rfl ?_
  refine rd_points_bl t770 tl hl hr1 hr2 F2 kx k0 _ 0 g1 rfl hB1 m1.mw (fun j _ => m1.l hl.1 j) s1 (by rw [a1]; omega) (by omega) (by rw [a1]; omega) ?_
  rw [a1, m1.l hl.1 4, h4]; exact fun _ => ⟨fun m => by rw [show (0 : Int).toNat + m = m by omega], by omega, by omega, fun _ => by omega, fun _ => by omega, fun _ => rfl⟩

end EzPb
/-! The model: points, III: decomposition. (Written by wip/p2/py/pv60.py.) -/
/-- points put behind the pool, and cells X written -/
def pj (X : Nat → Bool) (τ : Nat → Nat) (h : cz_H) (τ1 : Nat → Nat) (g : cz_H) (A : List Int) : Prop :=
  (∀ q, τ q ≠ 0 → τ1 q = τ q ∧ (q ≠ 770 → q ≠ po h → X q = false → g.2.2 q = h.2.2 q)) ∧ (∀ q, τ q = 0 → τ1 q ≠ 0 → τ1 q = 17) ∧ τ1 (po g) = 17 ∧
  (∀ j, j ≠ 9 → j ≠ 10 → j ≠ 17 → j ≠ 18 → qz_I g 770 j = qz_I h 770 j) ∧ pn g = pn h + (A.length : Int) ∧ (∀ j, 0 ≤ j → j < pn h → pl g j = pl h j) ∧ (∀ (j : Nat) v, A[j]? = some v → pl g (pn h + (j : Int)) = v) ∧
  (pn g ≤ qz_N g (po g) ∧ qz_N h (po h) ≤ qz_N g (po g)) ∧ ((g.2.1 : Int) - h.2.1 ≤ 2 * (qz_N g (po g) - qz_N h (po h)) ∧ 1024 * ((g.1 : Int) - h.1) ≤ qz_N g (po g) - qz_N h (po h)) ∧ (h.1 ≤ g.1 ∧ h.2.1 ≤ g.2.1) ∧ (po g = po h ∨ τ (po g) = 0)
theorem kl.jp {X Y : Nat → Bool} {τ τ1 : Nat → Nat} {h g : cz_H} {A : List Int} (a : kl Y τ h τ1 g A) (hX : ∀ q, X q = false → Y q = false) : pj X τ h τ1 g A := by
  obtain ⟨a1, a2, a3, a4, a5⟩ := a
  exact ⟨fun q hq => ⟨(a1 q hq).1, fun q1 q2 q3 => (a1 q hq).2 q1 q2 (hX q q3)⟩, a2, a3, fun j j1 j2 j3 _ => a4 j j1 j2 j3, a5⟩
theorem mw.epo {h g : cz_H} {l : Nat} (a : mw h g l) : po g = po h := by unfold po qz_P; rw [a.2 9 (by decide) (by decide)]
theorem mw.epn {h g : cz_H} {l : Nat} (a : mw h g l) : pn g = pn h := a.2 10 (by decide) (by decide)
theorem mw.jp {X : Nat → Bool} {τ : Nat → Nat} {h g : cz_H} {l : Nat} (a : mw h g l) (hX : X l = true) (t770 : τ 770 = 75) (tl : τ l = 13) (tpo : τ (po h) = 17) (hn : pn h ≤ qz_N h (po h)) : pj X τ h τ g [] := by
  have n1 : po h ≠ 770 := fun e => by rw [e, t770] at tpo; cases tpo
  have n2 : po h ≠ l := fun e => by rw [e, tl] at tpo; cases tpo
  have eN : qz_N g (po h) = qz_N h (po h) := a.N n1 n2
  refine ⟨fun q hq => ⟨rfl, fun q1 q2 q3 => a.q q1 (fun e => by rw [e, hX] at q3; cases q3)⟩, fun q q1 q2 => absurd q1 q2, by rw [a.epo]; exact tpo, fun j _ _ j1 j2 => a.2 j j1 j2, by rw [a.epn]; simp, fun j _ _ => by unfold pl; rw [a.epo]; exact a.I n1 n2 _, fun j v hv => by simp at hv, by rw [a.epo, eN, a.epn]; exact ⟨hn, Int.le_refl _⟩, by rw [a.epo, eN, a.1.1, a.1.2.1]; omega, by rw [a.1.1, a.1.2.1]; omega, Or.inl a.epo⟩
theorem pj.trans {X : Nat → Bool} {τ τ1 τ2 : Nat → Nat} {h g k : cz_H} {A B : List Int} (a : pj X τ h τ1 g A) (b : pj X τ1 g τ2 k B) (h0 : 0 ≤ pn h) : pj X τ h τ2 k (A ++ B) := by
  obtain ⟨a1, a2, a3, a4, a5, a6, a7, a8, a9, a10, a11⟩ := a
  obtain ⟨b1, b2, b3, b4, b5, b6, b7, b8, b9, b10, b11⟩ := b
  have hne : ∀ q, τ q ≠ 0 → τ1 q ≠ 0 := fun q hq => by rw [(a1 q hq).1]; exact hq
  refine ⟨fun q hq => ⟨(b1 q (hne q hq)).1.trans (a1 q hq).1, fun q1 q2 q3 => ?_⟩, fun q q1 q2 => ?_, b3, fun j j1 j2 j3 j4 => (b4 j j1 j2 j3 j4).trans (a4 j j1 j2 j3 j4), ?_, fun j j0 j1 => ?_, fun j v hv => ?_, ?_, ?_, ?_, ?_⟩
  · have q4 : q ≠ po g := fun e => by
      rcases a11 with w | w
      · exact q2 (e.trans w)
      · rw [← e] at w; exact hq w
    rw [(b1 q (hne q hq)).2 q1 q4 q3, (a1 q hq).2 q1 q2 q3]
  · by_cases e : τ1 q = 0
    · exact b2 q e q2
    · rw [(b1 q e).1]; exact a2 q q1 e
  · rw [b5, a5, List.length_append]; omega
  · rw [b6 j j0 (by omega), a6 j j0 j1]
  · by_cases e : j < A.length
    · rw [List.getElem?_append_left e] at hv
      rw [b6 _ (by omega) (by omega)]; exact a7 j v hv
    · rw [List.getElem?_append_right (by omega)] at hv
      have := b7 _ v hv
      rw [a5] at this
      rw [show pn h + (j : Int) = pn h + (A.length : Int) + ((j - A.length : Nat) : Int) by omega]; exact this
  · omega
  · omega
  · omega
  · rcases b11 with w | w
    · rcases a11 with w2 | w2
      · exact Or.inl (w.trans w2)
      · exact Or.inr (by rw [w]; exact w2)
    · refine Or.inr ?_
      by_cases e : τ (po k) = 0
      · exact e
      · exact absurd w (hne _ e)
/-- the cells of a line -/
def lX (l sp cp q : Nat) : Bool := Nat.beq q l || (Nat.beq q sp || Nat.beq q cp)
theorem lX_l (l sp cp : Nat) : lX l sp cp l = true := by unfold lX; rw [Nat.beq_refl]; rfl
theorem lX_r {l sp cp q : Nat} (h : lX l sp cp q = false) : rX sp cp q = false := by unfold lX at h; exact (Bool.or_eq_false_iff.mp h).2
def dA : Option (Int × List Int) → List Int
  | none => []
  | some p => p.2
def dT : Option (Int × List Int) → Int
  | none => 0
  | some p => p.1 + 1
/-- the rows of a line lie in the pool -/
def lg (sp cp : Nat) (g : cz_H) : Prop := ∀ j, qz_I g sp j + qz_I g cp j ≤ qz_N g (po g)
theorem lg.mw {sp cp l : Nat} {τ : Nat → Nat} {h g : cz_H} (a : lg sp cp h) (m : mw h g l) (t770 : τ 770 = 75) (tl : τ l = 13) (tsp : τ sp = 15) (tcp : τ cp = 16) (tpo : τ (po h) = 17) : lg sp cp g := fun j => by
  have e : ∀ q t, τ q = t → (Nat.beq t 75 || Nat.beq t 13) = false → q ≠ 770 ∧ q ≠ l := fun q t q1 q2 => ⟨fun e => (by rw [e, t770] at q1; rw [← q1] at q2; cases q2), fun e => (by rw [e, tl] at q1; rw [← q1] at q2; cases q2)⟩
  rw [m.I (e sp _ tsp rfl).1 (e sp _ tsp rfl).2, m.I (e cp _ tcp rfl).1 (e cp _ tcp rfl).2, m.epo, m.N (e _ _ tpo rfl).1 (e _ _ tpo rfl).2]; exact a j
theorem lg.row {sp cp : Nat} {X : Nat → Bool} {τ τ1 : Nat → Nat} {h g : cz_H} {A : List Int} {k : Int} (a : lg sp cp h) (b : kl X τ h τ1 g A) (hs : ∀ j, qz_I g sp j = if j = k.toNat then pn h else qz_I h sp j) (hc : ∀ j, qz_I g cp j = if j = k.toNat then (A.length : Int) else qz_I h cp j) : lg sp cp g := fun j => by
  have b1 := b.2.2.2.2.1
  have b2 := b.2.2.2.2.2.2.2.1
  rw [hs, hc]
  by_cases e : j = k.toNat
  · rw [if_pos e, if_pos e]; omega
  · rw [if_neg e, if_neg e]; have := a j; omega
section EzPc
variable {d : Nat} {h : cz_H} {τ : Nat → Nat} {Q : cz_F → Prop} {l : Nat}
/-- and the elements of a LINE 4 -/
def l2 (sp cp : Nat) (g : cz_H) : Prop := lg sp cp g ∧ qz_I g sp 1 + 4 * qz_I g cp 1 ≤ qz_N g (po g)
theorem l2.mw {sp cp l : Nat} {τ : Nat → Nat} {h g : cz_H} (a : l2 sp cp h) (m : mw h g l) (t770 : τ 770 = 75) (tl : τ l = 13) (tsp : τ sp = 15) (tcp : τ cp = 16) (tpo : τ (po h) = 17) : l2 sp cp g := by
  refine ⟨a.1.mw m t770 tl tsp tcp tpo, ?_⟩
  have n7 : ∀ q t, τ q = t → (Nat.beq t 75 || Nat.beq t 13) = false → g.2.2 q = h.2.2 q := fun q t q1 q2 => m.1.2.2 q (by
    unfold nz_PL
    rw [dz_beq_ne (fun e => by rw [e, t770] at q1; rw [← q1] at q2; cases q2), dz_beq_ne (fun e => by rw [e, tl] at q1; rw [← q1] at q2; cases q2)]; rfl)
  have := a.2
  rw [m.epo]
  unfold qz_I qz_N at this ⊢
  rw [n7 _ _ tsp rfl, n7 _ _ tcp rfl, n7 _ _ tpo rfl]; exact this
theorem l2.row {sp cp : Nat} {X : Nat → Bool} {τ τ1 : Nat → Nat} {h g : cz_H} {A : List Int} (a : l2 sp cp h) (b : kl X τ h τ1 g A) (hs : ∀ j, qz_I g sp j = if j = (0 : Int).toNat then pn h else qz_I h sp j) (hc : ∀ j, qz_I g cp j = if j = (0 : Int).toNat then (A.length : Int) else qz_I h cp j) : l2 sp cp g := by
  refine ⟨a.1.row b hs hc, ?_⟩
  rw [hs 1, hc 1, if_neg (by decide), if_neg (by decide)]
  have := a.2
  have := b.2.2.2.2.2.2.2.1.2
  omega
theorem rd_points_r {g : cz_H} {cp bg : Int} (hB : ez_B τ h) (t770 : τ 770 = 75) (tl : τ l = 13) (hl : lz l) (usp : τ (qz_P h l 7) = 15) (ucp : τ (qz_P h l 8) = 16) (tpo : τ (po h) = 17) (h0 : 0 ≤ pn h) (hn : pn h ≤ qz_N h (po h)) (hpm : pn h + 18 ≤ 38400) (hNh : 1024 ≤ qz_N h (po h)) (hr1 : h.1 + 100 ≤ 600192) (hr2 : h.2.1 + 240000 ≤ 7302232) (hlg : l2 (qz_P h l 7) (qz_P h l 8) h) (hc0 : qz_I h (qz_P h l 8) 0 = 0) (F3 : (0 ≤ mf h 3 ∧ mf h 3 ≤ mt h 3) ∧ mt h 3 ≤ 4096) (T3 : mf h 3 < mt h 3 → ¬ bk (mb h (mf h 3)) ∧ ¬ bk (mb h (mt h 3 - 1))) (hBg : ez_B τ g) (hM : mw h g l) (hst : qz_I g 770 18 = mt h 3) (hne : mf h 3 ≠ mt h 3) (hdb : rz_db (mb h) (mf h 3) (mt h 3) = some (cp, bg)) (hb0 : 0 ≤ bg) (hb1 : bg ≤ mt h 3) (hat : qz_I g 770 17 = rz_skip (mb h) (mt h 3 - bg).toNat bg) (hJ : ∀ j, j ≠ 5 → qz_I g l j = qz_I h l j) (hty : qz_I g l 5 = cp + 1) (kx : ∀ g τ1 dec, ez_B τ1 g → ((mf h 3 = mt h 3 ∧ dec = none) ∨ (mf h 3 ≠ mt h 3 ∧ ∃ cp bg vs, rz_db (mb h) (mf h 3) (mt h 3) = some (cp, bg) ∧ rz_rw (mb h) 18 bg (mt h 3) = some vs ∧ dec = some (cp, vs))) → (pj (lX l (qz_P h l 7) (qz_P h l 8)) τ h τ1 g (dA dec) ∧ l2 (qz_P h l 7) (qz_P h l 8) g) → (∀ j, j ≠ 5 → qz_I g l j = qz_I h l j) → qz_I g l 5 = dT dec → (dec ≠ none → qz_I g (qz_P h l 7) 0 = pn h) → qz_I g (qz_P h l 8) 0 = ((dA dec).length : Int) → ez_W (d + 9) cm_291 334 [(0, .inr (.inr (some (770)))), (1, .inr (.inr (some (l))))] [] g Q) (k0 : (∀ dec, ¬ ((mf h 3 = mt h 3 ∧ dec = none) ∨ (mf h 3 ≠ mt h 3 ∧ ∃ cp bg vs, rz_db (mb h) (mf h 3) (mt h 3) = some (cp, bg) ∧ rz_rw (mb h) 18 bg (mt h 3) = some vs ∧ dec = some (cp, vs)))) → ∀ g τ1 A, ez_B τ1 g → (pj (lX l (qz_P h l 7) (qz_P h l 8)) τ h τ1 g A ∧ l2 (qz_P h l 7) (qz_P h l 8) g) → Q (.inr g.1, xc g 1)) : ez_W (d + 9) cm_291 326 [(0, .inr (.inr (some (770)))), (1, .inr (.inr (some (l))))] [] g Q := by
  refine ez_go (n := 4) (pc' := 331) (L' := [(0, .inr (.inr (some (770)))), (1, .inr (.inr (some (l))))]) (st' := [.inl (18), .inl (0), .inr (.inr (some (l))), .inr (.inr (some (770)))]) rfl ?_
  have e7 : qz_P g l 7 = qz_P h l 7 := by unfold qz_P; rw [hJ 7 (by decide)]
  have e8 : qz_P g l 8 = qz_P h l 8 := by unfold qz_P; rw [hJ 8 (by decide)]
  have n770 := hl.1
  have n771 := hl.2.1
  have np7 : po h ≠ 770 := fun e => by rw [e, t770] at tpo; cases tpo
  have npl : po h ≠ l := fun e => by rw [e, tl] at tpo; cases tpo
  have nc7 : qz_P h l 8 ≠ 770 := fun e => by rw [e, t770] at ucp; cases ucp
  have ncl : qz_P h l 8 ≠ l := fun e => by rw [e, tl] at ucp; cases ucp
  have c1 := hM.1.1
  have c2 := hM.1.2.1
  have eb := hM.b hl.2.1
  have eN : qz_N g (po h) = qz_N h (po h) := hM.N np7 npl
  have hp := hM.jp (lX_l l (qz_P h l 7) (qz_P h l 8)) t770 tl tpo hn
  refine ez_cv hBg t770 rfl rfl rfl tq_75 rfl rfl rfl (rd_row (s := bg) hBg t770 (ez_t771 hB t770) tl (by rw [e8]; exact ucp) (by rw [hM.epo]; exact tpo) n770 (by omega) (by omega) (by rw [hM.epn]; exact h0) (by rw [hM.epn, hM.epo, eN]; exact hn) (by rw [hM.epn]; exact hpm) (by rw [hM.epo, eN]; exact hNh) (by omega) (by omega) (by omega) (by omega) (by omega) hb0 (by rw [hst]; exact hb1) (by rw [hst]; omega) (by rw [hst, eb]; exact hat) (by rw [hst, eb]; exact fun w => (T3 (by omega)).2) (by rw [e8, hM.I nc7 ncl]; exact hc0) (fun A hA g2 τ2 hB2 hk2 a17 hlc hsp hcp => ez_K0 ?_) (fun hA g2 τ2 A hB2 hk2 hlc hsp hcp => ez_Kp (xc_exc hB2 rfl) rfl (k0 (fun dec w => ?_) g2 τ2 _ hB2 ⟨hp.trans (hk2.jp (fun q hq => ?_)) h0, l2.row (hlg.mw hM t770 tl usp ucp tpo) (by rw [e7, e8] at hk2; exact hk2) (by rw [e7] at hsp; exact hsp) (by rw [e8] at hcp; exact hcp)⟩)))
  · rw [e7, e8] at hk2; rw [e7] at hsp; rw [e8] at hcp; rw [hst, eb] at hA
    refine ez_less [(0, .inr (.inr (some (770)))), (1, .inr (.inr (some (l))))] rfl ⟨rfl, rfl, trivial⟩ ?_
    refine kx g2 τ2 (some (cp, A)) hB2 (Or.inr ⟨hne, cp, bg, A, hdb, hA, rfl⟩) ⟨by have := hp.trans (hk2.jp (fun q hq => lX_r hq)) h0; exact this, l2.row (hlg.mw hM t770 tl usp ucp tpo) hk2 hsp hcp⟩ (fun j hj => by unfold qz_I; rw [hlc]; exact hJ j hj) (by unfold qz_I; rw [hlc]; exact hty) (fun _ => by rw [hsp 0, if_pos (show 0 = (0 : Int).toNat from rfl)]; exact hM.epn) (by rw [hcp 0, if_pos (show 0 = (0 : Int).toNat from rfl)]; rfl)
  · rw [hst, eb] at hA
    rcases w with ⟨w1, -⟩ | ⟨w1, cp2, bg2, vs2, w2, w3, -⟩
    · exact hne w1
    · rw [hdb] at w2; cases w2; rw [hA] at w3; cases w3
  · rw [e7, e8]; exact lX_r hq

theorem rd_points_cl (hB : ez_B τ h) (t770 : τ 770 = 75) (tl : τ l = 13) (hl : lz l) (usp : τ (qz_P h l 7) = 15) (ucp : τ (qz_P h l 8) = 16) (tpo : τ (po h) = 17) (h0 : 0 ≤ pn h) (hn : pn h ≤ qz_N h (po h)) (hpm : pn h + 18 ≤ 38400) (hNh : 1024 ≤ qz_N h (po h)) (hr1 : h.1 + 100 ≤ 600192) (hr2 : h.2.1 + 240000 ≤ 7302232) (hlg : l2 (qz_P h l 7) (qz_P h l 8) h) (hc0 : qz_I h (qz_P h l 8) 0 = 0) (F3 : (0 ≤ mf h 3 ∧ mf h 3 ≤ mt h 3) ∧ mt h 3 ≤ 4096) (T3 : mf h 3 < mt h 3 → ¬ bk (mb h (mf h 3)) ∧ ¬ bk (mb h (mt h 3 - 1))) (h60 : mb h (mf h 3) = 60) (hlt3 : mf h 3 < mt h 3) (kx : ∀ g τ1 dec, ez_B τ1 g → ((mf h 3 = mt h 3 ∧ dec = none) ∨ (mf h 3 ≠ mt h 3 ∧ ∃ cp bg vs, rz_db (mb h) (mf h 3) (mt h 3) = some (cp, bg) ∧ rz_rw (mb h) 18 bg (mt h 3) = some vs ∧ dec = some (cp, vs))) → (pj (lX l (qz_P h l 7) (qz_P h l 8)) τ h τ1 g (dA dec) ∧ l2 (qz_P h l 7) (qz_P h l 8) g) → (∀ j, j ≠ 5 → qz_I g l j = qz_I h l j) → qz_I g l 5 = dT dec → (dec ≠ none → qz_I g (qz_P h l 7) 0 = pn h) → qz_I g (qz_P h l 8) 0 = ((dA dec).length : Int) → ez_W (d + 9) cm_291 334 [(0, .inr (.inr (some (770)))), (1, .inr (.inr (some (l))))] [] g Q) (k0 : (∀ dec, ¬ ((mf h 3 = mt h 3 ∧ dec = none) ∨ (mf h 3 ≠ mt h 3 ∧ ∃ cp bg vs, rz_db (mb h) (mf h 3) (mt h 3) = some (cp, bg) ∧ rz_rw (mb h) 18 bg (mt h 3) = some vs ∧ dec = some (cp, vs)))) → ∀ g τ1 A, ez_B τ1 g → (pj (lX l (qz_P h l 7) (qz_P h l 8)) τ h τ1 g A ∧ l2 (qz_P h l 7) (qz_P h l 8) g) → Q (.inr g.1, xc g 1)) : ∀ (m : Nat) (n : Int) (g : cz_H), m = (mt h 3 - qz_I g 770 17).toNat → ez_B τ g → mw h g l → qz_I g 770 18 = mt h 3 → (∀ j, j ≠ 5 → qz_I g l j = qz_I h l j) → qz_I g l 5 = 2 → n = qz_I g 770 17 - (mf h 3 + 1) → 0 ≤ n → qz_I g 770 17 ≤ mt h 3 → rz_lets (mb h) (mt h 3 - (mf h 3 + 1)).toNat (mf h 3 + 1) = rz_lets (mb h) (mt h 3 - qz_I g 770 17).toNat (qz_I g 770 17) → ez_W (d + 9) cm_291 237 [(5, .inl (n)), (0, .inr (.inr (some (770)))), (1, .inr (.inr (some (l))))] [] g Q := by
  intro m
  induction m with
  | zero =>
    intro n g hm hBg hM hst hJ hty hn5 n0 hat hE
    have c1 := hM.1.1; have c2 := hM.1.2.1
    refine ez_go (n := 1) (pc' := 238) (L' := [(5, .inl (n)), (0, .inr (.inr (some (770)))), (1, .inr (.inr (some (l))))]) (st' := [.inr (.inr (some (770)))]) rfl ?_
    refine ez_cv hBg t770 rfl rfl rfl tq_75 rfl rfl rfl (rd_peek hBg t770 (fun p1 p1' => ez_K1 ?_))
    rw [hst, hM.b hl.2.1] at p1 p1' ⊢
    refine ez_go (n := 1) (pc' := 243) (L' := [(5, .inl (n)), (0, .inr (.inr (some (770)))), (1, .inr (.inr (some (l))))]) (st' := [.inl (97), .inl ((mk (mb h) (qz_I g 770 17) (mt h 3)))]) rfl ?_
    refine ez_icmp rfl rfl ⟨by first | omega | exact (sz_i32 _).1, by first | omega | exact (sz_i32 _).2⟩ ⟨by first | omega | exact (sz_i32 _).1, by first | omega | exact (sz_i32 _).2⟩ (fun (c2 : ((mk (mb h) (qz_I g 770 17) (mt h 3))) < (97)) => ?_) (fun (c2 : ¬(((mk (mb h) (qz_I g 770 17) (mt h 3))) < (97))) => ?_)
    · skip
      refine ez_go (n := 1) (pc' := 256) (L' := [(5, .inl (n)), (0, .inr (.inr (some (770)))), (1, .inr (.inr (some (l))))]) (st' := [.inr (.inr (some (770)))]) rfl ?_
      refine ez_cv hBg t770 rfl rfl rfl tq_75 rfl rfl rfl (rd_peek hBg t770 (fun p3 p3' => ez_K1 ?_))
      rw [hst, hM.b hl.2.1] at p3 p3' ⊢
      refine ez_go (n := 1) (pc' := 261) (L' := [(5, .inl (n)), (0, .inr (.inr (some (770)))), (1, .inr (.inr (some (l))))]) (st' := [.inl (65), .inl ((mk (mb h) (qz_I g 770 17) (mt h 3)))]) rfl ?_
      refine ez_icmp rfl rfl ⟨by first | omega | exact (sz_i32 _).1, by first | omega | exact (sz_i32 _).2⟩ ⟨by first | omega | exact (sz_i32 _).1, by first | omega | exact (sz_i32 _).2⟩ (fun (c4 : ((mk (mb h) (qz_I g 770 17) (mt h 3))) < (65)) => ?_) (fun (c4 : ¬(((mk (mb h) (qz_I g 770 17) (mt h 3))) < (65))) => ?_)
      · skip
        have hEa : rz_lets (mb h) (mt h 3 - (mf h 3 + 1)).toNat (mf h 3 + 1) = qz_I g 770 17 := by
          rw [hE]
          by_cases e9 : qz_I g 770 17 < mt h 3
          · have x1 := mk_in (b := mb h) e9
            rw [show (mt h 3 - qz_I g 770 17).toNat = (mt h 3 - (qz_I g 770 17 + 1)).toNat + 1 by omega]
            show (if (65 ≤ mb h (qz_I g 770 17) ∧ mb h (qz_I g 770 17) ≤ 90) ∨ (97 ≤ mb h (qz_I g 770 17) ∧ mb h (qz_I g 770 17) ≤ 122) then _ else _) = _
            rw [if_neg (by omega)]
          · rw [show (mt h 3 - qz_I g 770 17).toNat = 0 by omega]; rfl
        refine ez_go (n := 2) (pc' := 292) (L' := [(5, .inl (n)), (0, .inr (.inr (some (770)))), (1, .inr (.inr (some (l))))]) (st' := [.inl (n), .inr (.inr (some (770)))]) rfl ?_
        refine ez_if rfl rfl ⟨by first | omega | exact (sz_i32 _).1, by first | omega | exact (sz_i32 _).2⟩ (fun (c5 : (n) ≤ (0)) => ?_) (fun (c5 : ¬((n) ≤ (0))) => ?_)
        · skip
          refine ez_go (n := 1) (pc' := 309) (L' := [(5, .inl (n)), (0, .inr (.inr (some (770)))), (1, .inr (.inr (some (l))))]) (st' := [.inl (0), .inr (.inr (some (770)))]) rfl ?_
          have hdb : rz_db (mb h) (mf h 3) (mt h 3) = none := by
            unfold rz_db; rw [if_pos h60, hEa, if_pos]
            by_cases e9 : qz_I g 770 17 < mt h 3
            · have x1 := mk_in (b := mb h) e9; omega
            · omega
          refine ez_cv hBg t770 rfl rfl rfl tq_75 rfl rfl rfl (rd_can0 (by omega) (by omega) (ez_Kp (xc_exc hBg rfl) rfl (k0 (fun dec w => ?_) g τ [] hBg ⟨hM.jp (lX_l _ _ _) t770 tl tpo hn, (hlg.mw hM t770 tl usp ucp tpo)⟩)))
          rcases w with ⟨w1, -⟩ | ⟨-, cp2, bg2, vs2, w2, -⟩; (· omega); (· rw [hdb] at w2; cases w2)
        · skip
          refine ez_go (n := 1) (pc' := 296) (L' := [(5, .inl (n)), (0, .inr (.inr (some (770)))), (1, .inr (.inr (some (l))))]) (st' := [.inr (.inr (some (770))), .inr (.inr (some (770)))]) rfl ?_
          refine ez_cv hBg t770 rfl rfl rfl tq_75 rfl rfl rfl (rd_peek hBg t770 (fun p6 p6' => ez_K1 ?_))
          rw [hst, hM.b hl.2.1] at p6 p6' ⊢
          refine ez_go (n := 1) (pc' := 301) (L' := [(5, .inl (n)), (0, .inr (.inr (some (770)))), (1, .inr (.inr (some (l))))]) (st' := [.inl (62), .inl ((mk (mb h) (qz_I g 770 17) (mt h 3))), .inr (.inr (some (770)))]) rfl ?_
          refine ez_icmp rfl rfl ⟨by first | omega | exact (sz_i32 _).1, by first | omega | exact (sz_i32 _).2⟩ ⟨by first | omega | exact (sz_i32 _).1, by first | omega | exact (sz_i32 _).2⟩ (fun (c7 : ((mk (mb h) (qz_I g 770 17) (mt h 3))) ≠ (62)) => ?_) (fun (c7 : ¬(((mk (mb h) (qz_I g 770 17) (mt h 3))) ≠ (62))) => ?_)
          · skip
            refine ez_go (n := 1) (pc' := 309) (L' := [(5, .inl (n)), (0, .inr (.inr (some (770)))), (1, .inr (.inr (some (l))))]) (st' := [.inl (0), .inr (.inr (some (770)))]) rfl ?_
            have hdb : rz_db (mb h) (mf h 3) (mt h 3) = none := by
              unfold rz_db; rw [if_pos h60, hEa, if_pos]
              by_cases e9 : qz_I g 770 17 < mt h 3
              · have x1 := mk_in (b := mb h) e9; omega
              · omega
            refine ez_cv hBg t770 rfl rfl rfl tq_75 rfl rfl rfl (rd_can0 (by omega) (by omega) (ez_Kp (xc_exc hBg rfl) rfl (k0 (fun dec w => ?_) g τ [] hBg ⟨hM.jp (lX_l _ _ _) t770 tl tpo hn, (hlg.mw hM t770 tl usp ucp tpo)⟩)))
            rcases w with ⟨w1, -⟩ | ⟨-, cp2, bg2, vs2, w2, -⟩; (· omega); (· rw [hdb] at w2; cases w2)
          · skip
            refine ez_go (n := 2) (pc' := 309) (L' := [(5, .inl (n)), (0, .inr (.inr (some (770)))), (1, .inr (.inr (some (l))))]) (st' := [.inl (1), .inr (.inr (some (770)))]) rfl ?_
            have hlt : qz_I g 770 17 < mt h 3 := by by_cases e9 : qz_I g 770 17 < mt h 3; (· exact e9); (· exfalso; have x1 := mk_out (b := mb h) e9; omega)
            have x1 := mk_in (b := mb h) hlt
            have hdb : rz_db (mb h) (mf h 3) (mt h 3) = some (1, qz_I g 770 17 + 1) := by unfold rz_db; rw [if_pos h60, hEa, if_neg (by omega)]
            refine ez_cv hBg t770 rfl rfl rfl tq_75 rfl rfl rfl (rd_can1 (by omega) (by omega) (ez_K0 ?_))
            refine ez_go (n := 2) (pc' := 314) (L' := [(5, .inl (n)), (0, .inr (.inr (some (770)))), (1, .inr (.inr (some (l))))]) (st' := [.inr (.inr (some (770))), .inr (.inr (some (770)))]) rfl ?_
            refine ez_gI hBg t770 rfl rfl tq_75 rfl rfl (fun (b8 : 0 ≤ qz_I g 770 17) (b8' : qz_I g 770 17 ≤ 4200) => ?_)
            refine ez_go (n := 2) (pc' := 319) (L' := [(5, .inl (n)), (0, .inr (.inr (some (770)))), (1, .inr (.inr (some (l))))]) (st' := [.inl ((qz_I g 770 17) + (1)), .inr (.inr (some (770)))]) rfl ?_
            refine ez_pf hBg t770 rfl rfl tq_75 rfl rfl rfl rfl (ez_vdI rfl rfl (by omega) (by omega)) (fun hB9 w10 => ?_)
            refine ez_go (n := 1) (pc' := 323) (L' := [(5, .inl (n)), (0, .inr (.inr (some (770)))), (1, .inr (.inr (some (l))))]) (st' := [.inr (.inr (some (770)))]) rfl ?_
            have e17 : qz_I (dz_put g 770 17 (ez_v (.inl ((qz_I g 770 17) + (1))))) 770 17 = qz_I g 770 17 + 1 := by rw [w10, rz_rd ⟨by omega, by omega⟩]
            have e18 : qz_I (dz_put g 770 17 (ez_v (.inl ((qz_I g 770 17) + (1))))) 770 18 = mt h 3 := by rw [ez_put_I (by omega)]; exact hst
            have M2 : mw h (dz_put g 770 17 (ez_v (.inl ((qz_I g 770 17) + (1))))) l := hM.trans mz_put.mw
            have J2 : ∀ j, qz_I (dz_put g 770 17 (ez_v (.inl ((qz_I g 770 17) + (1))))) l j = qz_I g l j := fun j => mz_put.l hl.1 j
            have hB2 := hB9
            generalize (dz_put g 770 17 (ez_v (.inl ((qz_I g 770 17) + (1))))) = g2 at *
            refine ez_cv hB2 t770 rfl rfl rfl tq_75 rfl rfl rfl (rd_blanks hB2 t770 (by rw [e17, e18]; omega) (fun g3 hB3 m3 a3 => ez_K0 ?_))
            rw [e17, e18, M2.b hl.2.1] at a3
            refine ez_less [(0, .inr (.inr (some (770)))), (1, .inr (.inr (some (l))))] rfl ⟨rfl, rfl, trivial⟩ ?_
            exact rd_points_r hB t770 tl hl usp ucp tpo h0 hn hpm hNh hr1 hr2 hlg hc0 F3 T3 hB3 (M2.trans m3.mw) ((m3.2 18 (by decide)).trans e18) (by omega) hdb (by omega) (by omega) a3 (fun j hj => by rw [m3.l hl.1, J2]; exact hJ j hj) (by rw [m3.l hl.1, J2]; exact hty) kx k0
      · skip
        refine ez_go (n := 1) (pc' := 265) (L' := [(5, .inl (n)), (0, .inr (.inr (some (770)))), (1, .inr (.inr (some (l))))]) (st' := [.inr (.inr (some (770)))]) rfl ?_
        refine ez_cv hBg t770 rfl rfl rfl tq_75 rfl rfl rfl (rd_peek hBg t770 (fun p11 p11' => ez_K1 ?_))
        rw [hst, hM.b hl.2.1] at p11 p11' ⊢
        refine ez_go (n := 1) (pc' := 270) (L' := [(5, .inl (n)), (0, .inr (.inr (some (770)))), (1, .inr (.inr (some (l))))]) (st' := [.inl (90), .inl ((mk (mb h) (qz_I g 770 17) (mt h 3)))]) rfl ?_
        refine ez_icmp rfl rfl ⟨by first | omega | exact (sz_i32 _).1, by first | omega | exact (sz_i32 _).2⟩ ⟨by first | omega | exact (sz_i32 _).1, by first | omega | exact (sz_i32 _).2⟩ (fun (c12 : (90) < ((mk (mb h) (qz_I g 770 17) (mt h 3)))) => ?_) (fun (c12 : ¬((90) < ((mk (mb h) (qz_I g 770 17) (mt h 3))))) => ?_)
        · skip
          have hEa : rz_lets (mb h) (mt h 3 - (mf h 3 + 1)).toNat (mf h 3 + 1) = qz_I g 770 17 := by
            rw [hE]
            by_cases e9 : qz_I g 770 17 < mt h 3
            · have x1 := mk_in (b := mb h) e9
              rw [show (mt h 3 - qz_I g 770 17).toNat = (mt h 3 - (qz_I g 770 17 + 1)).toNat + 1 by omega]
              show (if (65 ≤ mb h (qz_I g 770 17) ∧ mb h (qz_I g 770 17) ≤ 90) ∨ (97 ≤ mb h (qz_I g 770 17) ∧ mb h (qz_I g 770 17) ≤ 122) then _ else _) = _
              rw [if_neg (by omega)]
            · rw [show (mt h 3 - qz_I g 770 17).toNat = 0 by omega]; rfl
          refine ez_go (n := 2) (pc' := 292) (L' := [(5, .inl (n)), (0, .inr (.inr (some (770)))), (1, .inr (.inr (some (l))))]) (st' := [.inl (n), .inr (.inr (some (770)))]) rfl ?_
          refine ez_if rfl rfl ⟨by first | omega | exact (sz_i32 _).1, by first | omega | exact (sz_i32 _).2⟩ (fun (c13 : (n) ≤ (0)) => ?_) (fun (c13 : ¬((n) ≤ (0))) => ?_)
          · skip
            refine ez_go (n := 1) (pc' := 309) (L' := [(5, .inl (n)), (0, .inr (.inr (some (770)))), (1, .inr (.inr (some (l))))]) (st' := [.inl (0), .inr (.inr (some (770)))]) rfl ?_
            have hdb : rz_db (mb h) (mf h 3) (mt h 3) = none := by
              unfold rz_db; rw [if_pos h60, hEa, if_pos]
              by_cases e9 : qz_I g 770 17 < mt h 3
              · have x1 := mk_in (b := mb h) e9; omega
              · omega
            refine ez_cv hBg t770 rfl rfl rfl tq_75 rfl rfl rfl (rd_can0 (by omega) (by omega) (ez_Kp (xc_exc hBg rfl) rfl (k0 (fun dec w => ?_) g τ [] hBg ⟨hM.jp (lX_l _ _ _) t770 tl tpo hn, (hlg.mw hM t770 tl usp ucp tpo)⟩)))
            rcases w with ⟨w1, -⟩ | ⟨-, cp2, bg2, vs2, w2, -⟩; (· omega); (· rw [hdb] at w2; cases w2)
          · skip
            refine ez_go (n := 1) (pc' := 296) (L' := [(5, .inl (n)), (0, .inr (.inr (some (770)))), (1, .inr (.inr (some (l))))]) (st' := [.inr (.inr (some (770))), .inr (.inr (some (770)))]) rfl ?_
            refine ez_cv hBg t770 rfl rfl rfl tq_75 rfl rfl rfl (rd_peek hBg t770 (fun p14 p14' => ez_K1 ?_))
            rw [hst, hM.b hl.2.1] at p14 p14' ⊢
            refine ez_go (n := 1) (pc' := 301) (L' := [(5, .inl (n)), (0, .inr (.inr (some (770)))), (1, .inr (.inr (some (l))))]) (st' := [.inl (62), .inl ((mk (mb h) (qz_I g 770 17) (mt h 3))), .inr (.inr (some (770)))]) rfl ?_
            refine ez_icmp rfl rfl ⟨by first | omega | exact (sz_i32 _).1, by first | omega | exact (sz_i32 _).2⟩ ⟨by first | omega | exact (sz_i32 _).1, by first | omega | exact (sz_i32 _).2⟩ (fun (c15 : ((mk (mb h) (qz_I g 770 17) (mt h 3))) ≠ (62)) => ?_) (fun (c15 : ¬(((mk (mb h) (qz_I g 770 17) (mt h 3))) ≠ (62))) => ?_)
            · skip
              refine ez_go (n := 1) (pc' := 309) (L' := [(5, .inl (n)), (0, .inr (.inr (some (770)))), (1, .inr (.inr (some (l))))]) (st' := [.inl (0), .inr (.inr (some (770)))]) rfl ?_
              have hdb : rz_db (mb h) (mf h 3) (mt h 3) = none := by
                unfold rz_db; rw [if_pos h60, hEa, if_pos]
                by_cases e9 : qz_I g 770 17 < mt h 3
                · have x1 := mk_in (b := mb h) e9; omega
                · omega
              refine ez_cv hBg t770 rfl rfl rfl tq_75 rfl rfl rfl (rd_can0 (by omega) (by omega) (ez_Kp (xc_exc hBg rfl) rfl (k0 (fun dec w => ?_) g τ [] hBg ⟨hM.jp (lX_l _ _ _) t770 tl tpo hn, (hlg.mw hM t770 tl usp ucp tpo)⟩)))
              rcases w with ⟨w1, -⟩ | ⟨-, cp2, bg2, vs2, w2, -⟩; (· omega); (· rw [hdb] at w2; cases w2)
            · skip
              refine ez_go (n := 2) (pc' := 309) (L' := [(5, .inl (n)), (0, .inr (.inr (some (770)))), (1, .inr (.inr (some (l))))]) (st' := [.inl (1), .inr (.inr (some (770)))]) rfl ?_
              have hlt : qz_I g 770 17 < mt h 3 := by by_cases e9 : qz_I g 770 17 < mt h 3; (· exact e9); (· exfalso; have x1 := mk_out (b := mb h) e9; omega)
              have x1 := mk_in (b := mb h) hlt
              have hdb : rz_db (mb h) (mf h 3) (mt h 3) = some (1, qz_I g 770 17 + 1) := by unfold rz_db; rw [if_pos h60, hEa, if_neg (by omega)]
              refine ez_cv hBg t770 rfl rfl rfl tq_75 rfl rfl rfl (rd_can1 (by omega) (by omega) (ez_K0 ?_))
              refine ez_go (n := 2) (pc' := 314) (L' := [(5, .inl (n)), (0, .inr (.inr (some (770)))), (1, .inr (.inr (some (l))))]) (st' := [.inr (.inr (some (770))), .inr (.inr (some (770)))]) rfl ?_
              refine ez_gI hBg t770 rfl rfl tq_75 rfl rfl (fun (b16 : 0 ≤ qz_I g 770 17) (b16' : qz_I g 770 17 ≤ 4200) => ?_)
              refine ez_go (n := 2) (pc' := 319) (L' := [(5, .inl (n)), (0, .inr (.inr (some (770)))), (1, .inr (.inr (some (l))))]) (st' := [.inl ((qz_I g 770 17) + (1)), .inr (.inr (some (770)))]) rfl ?_
              refine ez_pf hBg t770 rfl rfl tq_75 rfl rfl rfl rfl (ez_vdI rfl rfl (by omega) (by omega)) (fun hB17 w18 => ?_)
              refine ez_go (n := 1) (pc' := 323) (L' := [(5, .inl (n)), (0, .inr (.inr (some (770)))), (1, .inr (.inr (some (l))))]) (st' := [.inr (.inr (some (770)))]) rfl ?_
              have e17 : qz_I (dz_put g 770 17 (ez_v (.inl ((qz_I g 770 17) + (1))))) 770 17 = qz_I g 770 17 + 1 := by rw [w18, rz_rd ⟨by omega, by omega⟩]
              have e18 : qz_I (dz_put g 770 17 (ez_v (.inl ((qz_I g 770 17) + (1))))) 770 18 = mt h 3 := by rw [ez_put_I (by omega)]; exact hst
              have M2 : mw h (dz_put g 770 17 (ez_v (.inl ((qz_I g 770 17) + (1))))) l := hM.trans mz_put.mw
              have J2 : ∀ j, qz_I (dz_put g 770 17 (ez_v (.inl ((qz_I g 770 17) + (1))))) l j = qz_I g l j := fun j => mz_put.l hl.1 j
              have hB2 := hB17
              generalize (dz_put g 770 17 (ez_v (.inl ((qz_I g 770 17) + (1))))) = g2 at *
              refine ez_cv hB2 t770 rfl rfl rfl tq_75 rfl rfl rfl (rd_blanks hB2 t770 (by rw [e17, e18]; omega) (fun g3 hB3 m3 a3 => ez_K0 ?_))
              rw [e17, e18, M2.b hl.2.1] at a3
              refine ez_less [(0, .inr (.inr (some (770)))), (1, .inr (.inr (some (l))))] rfl ⟨rfl, rfl, trivial⟩ ?_
              exact rd_points_r hB t770 tl hl usp ucp tpo h0 hn hpm hNh hr1 hr2 hlg hc0 F3 T3 hB3 (M2.trans m3.mw) ((m3.2 18 (by decide)).trans e18) (by omega) hdb (by omega) (by omega) a3 (fun j hj => by rw [m3.l hl.1, J2]; exact hJ j hj) (by rw [m3.l hl.1, J2]; exact hty) kx k0
        · skip
          refine ez_go (n := 2) (pc' := 275) (L' := [(5, .inl (n)), (0, .inr (.inr (some (770)))), (1, .inr (.inr (some (l))))]) (st' := [.inr (.inr (some (770))), .inr (.inr (some (770)))]) rfl ?_
          refine ez_gI hBg t770 rfl rfl tq_75 rfl rfl (fun (b19 : 0 ≤ qz_I g 770 17) (b19' : qz_I g 770 17 ≤ 4200) => ?_)
          refine ez_go (n := 2) (pc' := 280) (L' := [(5, .inl (n)), (0, .inr (.inr (some (770)))), (1, .inr (.inr (some (l))))]) (st' := [.inl ((qz_I g 770 17) + (1)), .inr (.inr (some (770)))]) rfl ?_
          refine ez_pf hBg t770 rfl rfl tq_75 rfl rfl rfl rfl (ez_vdI rfl rfl (by omega) (by omega)) (fun hB20 w21 => ?_)
          refine ez_go (n := 2) (pc' := 237) (L' := [(5, .inl (n + 1)), (0, .inr (.inr (some (770)))), (1, .inr (.inr (some (l))))]) (st' := []) rfl ?_
          exfalso; have x1 := mk_out (b := mb h) (show ¬ qz_I g 770 17 < mt h 3 by omega); omega
    · skip
      refine ez_go (n := 1) (pc' := 247) (L' := [(5, .inl (n)), (0, .inr (.inr (some (770)))), (1, .inr (.inr (some (l))))]) (st' := [.inr (.inr (some (770)))]) rfl ?_
      refine ez_cv hBg t770 rfl rfl rfl tq_75 rfl rfl rfl (rd_peek hBg t770 (fun p22 p22' => ez_K1 ?_))
      rw [hst, hM.b hl.2.1] at p22 p22' ⊢
      refine ez_go (n := 1) (pc' := 252) (L' := [(5, .inl (n)), (0, .inr (.inr (some (770)))), (1, .inr (.inr (some (l))))]) (st' := [.inl (122), .inl ((mk (mb h) (qz_I g 770 17) (mt h 3)))]) rfl ?_
      refine ez_icmp rfl rfl ⟨by first | omega | exact (sz_i32 _).1, by first | omega | exact (sz_i32 _).2⟩ ⟨by first | omega | exact (sz_i32 _).1, by first | omega | exact (sz_i32 _).2⟩ (fun (c23 : ((mk (mb h) (qz_I g 770 17) (mt h 3))) ≤ (122)) => ?_) (fun (c23 : ¬(((mk (mb h) (qz_I g 770 17) (mt h 3))) ≤ (122))) => ?_)
      · skip
        refine ez_go (n := 2) (pc' := 275) (L' := [(5, .inl (n)), (0, .inr (.inr (some (770)))), (1, .inr (.inr (some (l))))]) (st' := [.inr (.inr (some (770))), .inr (.inr (some (770)))]) rfl ?_
        refine ez_gI hBg t770 rfl rfl tq_75 rfl rfl (fun (b24 : 0 ≤ qz_I g 770 17) (b24' : qz_I g 770 17 ≤ 4200) => ?_)
        refine ez_go (n := 2) (pc' := 280) (L' := [(5, .inl (n)), (0, .inr (.inr (some (770)))), (1, .inr (.inr (some (l))))]) (st' := [.inl ((qz_I g 770 17) + (1)), .inr (.inr (some (770)))]) rfl ?_
        refine ez_pf hBg t770 rfl rfl tq_75 rfl rfl rfl rfl (ez_vdI rfl rfl (by omega) (by omega)) (fun hB25 w26 => ?_)
        refine ez_go (n := 2) (pc' := 237) (L' := [(5, .inl (n + 1)), (0, .inr (.inr (some (770)))), (1, .inr (.inr (some (l))))]) (st' := []) rfl ?_
        exfalso; have x1 := mk_out (b := mb h) (show ¬ qz_I g 770 17 < mt h 3 by omega); omega
      · skip
        refine ez_go (n := 1) (pc' := 256) (L' := [(5, .inl (n)), (0, .inr (.inr (some (770)))), (1, .inr (.inr (some (l))))]) (st' := [.inr (.inr (some (770)))]) rfl ?_
        refine ez_cv hBg t770 rfl rfl rfl tq_75 rfl rfl rfl (rd_peek hBg t770 (fun p27 p27' => ez_K1 ?_))
        rw [hst, hM.b hl.2.1] at p27 p27' ⊢
        refine ez_go (n := 1) (pc' := 261) (L' := [(5, .inl (n)), (0, .inr (.inr (some (770)))), (1, .inr (.inr (some (l))))]) (st' := [.inl (65), .inl ((mk (mb h) (qz_I g 770 17) (mt h 3)))]) rfl ?_
        refine ez_icmp rfl rfl ⟨by first | omega | exact (sz_i32 _).1, by first | omega | exact (sz_i32 _).2⟩ ⟨by first | omega | exact (sz_i32 _).1, by first | omega | exact (sz_i32 _).2⟩ (fun (c28 : ((mk (mb h) (qz_I g 770 17) (mt h 3))) < (65)) => ?_) (fun (c28 : ¬(((mk (mb h) (qz_I g 770 17) (mt h 3))) < (65))) => ?_)
        · skip
          have hEa : rz_lets (mb h) (mt h 3 - (mf h 3 + 1)).toNat (mf h 3 + 1) = qz_I g 770 17 := by
            rw [hE]
            by_cases e9 : qz_I g 770 17 < mt h 3
            · have x1 := mk_in (b := mb h) e9
              rw [show (mt h 3 - qz_I g 770 17).toNat = (mt h 3 - (qz_I g 770 17 + 1)).toNat + 1 by omega]
              show (if (65 ≤ mb h (qz_I g 770 17) ∧ mb h (qz_I g 770 17) ≤ 90) ∨ (97 ≤ mb h (qz_I g 770 17) ∧ mb h (qz_I g 770 17) ≤ 122) then _ else _) = _
              rw [if_neg (by omega)]
            · rw [show (mt h 3 - qz_I g 770 17).toNat = 0 by omega]; rfl
          refine ez_go (n := 2) (pc' := 292) (L' := [(5, .inl (n)), (0, .inr (.inr (some (770)))), (1, .inr (.inr (some (l))))]) (st' := [.inl (n), .inr (.inr (some (770)))]) rfl ?_
          refine ez_if rfl rfl ⟨by first | omega | exact (sz_i32 _).1, by first | omega | exact (sz_i32 _).2⟩ (fun (c29 : (n) ≤ (0)) => ?_) (fun (c29 : ¬((n) ≤ (0))) => ?_)
          · skip
            refine ez_go (n := 1) (pc' := 309) (L' := [(5, .inl (n)), (0, .inr (.inr (some (770)))), (1, .inr (.inr (some (l))))]) (st' := [.inl (0), .inr (.inr (some (770)))]) rfl ?_
            have hdb : rz_db (mb h) (mf h 3) (mt h 3) = none := by
              unfold rz_db; rw [if_pos h60, hEa, if_pos]
              by_cases e9 : qz_I g 770 17 < mt h 3
              · have x1 := mk_in (b := mb h) e9; omega
              · omega
            refine ez_cv hBg t770 rfl rfl rfl tq_75 rfl rfl rfl (rd_can0 (by omega) (by omega) (ez_Kp (xc_exc hBg rfl) rfl (k0 (fun dec w => ?_) g τ [] hBg ⟨hM.jp (lX_l _ _ _) t770 tl tpo hn, (hlg.mw hM t770 tl usp ucp tpo)⟩)))
            rcases w with ⟨w1, -⟩ | ⟨-, cp2, bg2, vs2, w2, -⟩; (· omega); (· rw [hdb] at w2; cases w2)
          · skip
            refine ez_go (n := 1) (pc' := 296) (L' := [(5, .inl (n)), (0, .inr (.inr (some (770)))), (1, .inr (.inr (some (l))))]) (st' := [.inr (.inr (some (770))), .inr (.inr (some (770)))]) rfl ?_
            refine ez_cv hBg t770 rfl rfl rfl tq_75 rfl rfl rfl (rd_peek hBg t770 (fun p30 p30' => ez_K1 ?_))
            rw [hst, hM.b hl.2.1] at p30 p30' ⊢
            refine ez_go (n := 1) (pc' := 301) (L' := [(5, .inl (n)), (0, .inr (.inr (some (770)))), (1, .inr (.inr (some (l))))]) (st' := [.inl (62), .inl ((mk (mb h) (qz_I g 770 17) (mt h 3))), .inr (.inr (some (770)))]) rfl ?_
            refine ez_icmp rfl rfl ⟨by first | omega | exact (sz_i32 _).1, by first | omega | exact (sz_i32 _).2⟩ ⟨by first | omega | exact (sz_i32 _).1, by first | omega | exact (sz_i32 _).2⟩ (fun (c31 : ((mk (mb h) (qz_I g 770 17) (mt h 3))) ≠ (62)) => ?_) (fun (c31 : ¬(((mk (mb h) (qz_I g 770 17) (mt h 3))) ≠ (62))) => ?_)
            · skip
              refine ez_go (n := 1) (pc' := 309) (L' := [(5, .inl (n)), (0, .inr (.inr (some (770)))), (1, .inr (.inr (some (l))))]) (st' := [.inl (0), .inr (.inr (some (770)))]) rfl ?_
              have hdb : rz_db (mb h) (mf h 3) (mt h 3) = none := by
                unfold rz_db; rw [if_pos h60, hEa, if_pos]
                by_cases e9 : qz_I g 770 17 < mt h 3
                · have x1 := mk_in (b := mb h) e9; omega
                · omega
              refine ez_cv hBg t770 rfl rfl rfl tq_75 rfl rfl rfl (rd_can0 (by omega) (by omega) (ez_Kp (xc_exc hBg rfl) rfl (k0 (fun dec w => ?_) g τ [] hBg ⟨hM.jp (lX_l _ _ _) t770 tl tpo hn, (hlg.mw hM t770 tl usp ucp tpo)⟩)))
              rcases w with ⟨w1, -⟩ | ⟨-, cp2, bg2, vs2, w2, -⟩; (· omega); (· rw [hdb] at w2; cases w2)
            · skip
              refine ez_go (n := 2) (pc' := 309) (L' := [(5, .inl (n)), (0, .inr (.inr (some (770)))), (1, .inr (.inr (some (l))))]) (st' := [.inl (1), .inr (.inr (some (770)))]) rfl ?_
              have hlt : qz_I g 770 17 < mt h 3 := by by_cases e9 : qz_I g 770 17 < mt h 3; (· exact e9); (· exfalso; have x1 := mk_out (b := mb h) e9; omega)
              have x1 := mk_in (b := mb h) hlt
              have hdb : rz_db (mb h) (mf h 3) (mt h 3) = some (1, qz_I g 770 17 + 1) := by unfold rz_db; rw [if_pos h60, hEa, if_neg (by omega)]
              refine ez_cv hBg t770 rfl rfl rfl tq_75 rfl rfl rfl (rd_can1 (by omega) (by omega) (ez_K0 ?_))
              refine ez_go (n := 2) (pc' := 314) (L' := [(5, .inl (n)), (0, .inr (.inr (some (770)))), (1, .inr (.inr (some (l))))]) (st' := [.inr (.inr (some (770))), .inr (.inr (some (770)))]) rfl ?_
              refine ez_gI hBg t770 rfl rfl tq_75 rfl rfl (fun (b32 : 0 ≤ qz_I g 770 17) (b32' : qz_I g 770 17 ≤ 4200) => ?_)
              refine ez_go (n := 2) (pc' := 319) (L' := [(5, .inl (n)), (0, .inr (.inr (some (770)))), (1, .inr (.inr (some (l))))]) (st' := [.inl ((qz_I g 770 17) + (1)), .inr (.inr (some (770)))]) rfl ?_
              refine ez_pf hBg t770 rfl rfl tq_75 rfl rfl rfl rfl (ez_vdI rfl rfl (by omega) (by omega)) (fun hB33 w34 => ?_)
              refine ez_go (n := 1) (pc' := 323) (L' := [(5, .inl (n)), (0, .inr (.inr (some (770)))), (1, .inr (.inr (some (l))))]) (st' := [.inr (.inr (some (770)))]) rfl ?_
              have e17 : qz_I (dz_put g 770 17 (ez_v (.inl ((qz_I g 770 17) + (1))))) 770 17 = qz_I g 770 17 + 1 := by rw [w34, rz_rd ⟨by omega, by omega⟩]
              have e18 : qz_I (dz_put g 770 17 (ez_v (.inl ((qz_I g 770 17) + (1))))) 770 18 = mt h 3 := by rw [ez_put_I (by omega)]; exact hst
              have M2 : mw h (dz_put g 770 17 (ez_v (.inl ((qz_I g 770 17) + (1))))) l := hM.trans mz_put.mw
              have J2 : ∀ j, qz_I (dz_put g 770 17 (ez_v (.inl ((qz_I g 770 17) + (1))))) l j = qz_I g l j := fun j => mz_put.l hl.1 j
              have hB2 := hB33
              generalize (dz_put g 770 17 (ez_v (.inl ((qz_I g 770 17) + (1))))) = g2 at *
              refine ez_cv hB2 t770 rfl rfl rfl tq_75 rfl rfl rfl (rd_blanks hB2 t770 (by rw [e17, e18]; omega) (fun g3 hB3 m3 a3 => ez_K0 ?_))
              rw [e17, e18, M2.b hl.2.1] at a3
              refine ez_less [(0, .inr (.inr (some (770)))), (1, .inr (.inr (some (l))))] rfl ⟨rfl, rfl, trivial⟩ ?_
              exact rd_points_r hB t770 tl hl usp ucp tpo h0 hn hpm hNh hr1 hr2 hlg hc0 F3 T3 hB3 (M2.trans m3.mw) ((m3.2 18 (by decide)).trans e18) (by omega) hdb (by omega) (by omega) a3 (fun j hj => by rw [m3.l hl.1, J2]; exact hJ j hj) (by rw [m3.l hl.1, J2]; exact hty) kx k0
        · skip
          refine ez_go (n := 1) (pc' := 265) (L' := [(5, .inl (n)), (0, .inr (.inr (some (770)))), (1, .inr (.inr (some (l))))]) (st' := [.inr (.inr (some (770)))]) rfl ?_
          refine ez_cv hBg t770 rfl rfl rfl tq_75 rfl rfl rfl (rd_peek hBg t770 (fun p35 p35' => ez_K1 ?_))
          rw [hst, hM.b hl.2.1] at p35 p35' ⊢
          refine ez_go (n := 1) (pc' := 270) (L' := [(5, .inl (n)), (0, .inr (.inr (some (770)))), (1, .inr (.inr (some (l))))]) (st' := [.inl (90), .inl ((mk (mb h) (qz_I g 770 17) (mt h 3)))]) rfl ?_
          refine ez_icmp rfl rfl ⟨by first | omega | exact (sz_i32 _).1, by first | omega | exact (sz_i32 _).2⟩ ⟨by first | omega | exact (sz_i32 _).1, by first | omega | exact (sz_i32 _).2⟩ (fun (c36 : (90) < ((mk (mb h) (qz_I g 770 17) (mt h 3)))) => ?_) (fun (c36 : ¬((90) < ((mk (mb h) (qz_I g 770 17) (mt h 3))))) => ?_)
          · skip
            have hEa : rz_lets (mb h) (mt h 3 - (mf h 3 + 1)).toNat (mf h 3 + 1) = qz_I g 770 17 := by
              rw [hE]
              by_cases e9 : qz_I g 770 17 < mt h 3
              · have x1 := mk_in (b := mb h) e9
                rw [show (mt h 3 - qz_I g 770 17).toNat = (mt h 3 - (qz_I g 770 17 + 1)).toNat + 1 by omega]
                show (if (65 ≤ mb h (qz_I g 770 17) ∧ mb h (qz_I g 770 17) ≤ 90) ∨ (97 ≤ mb h (qz_I g 770 17) ∧ mb h (qz_I g 770 17) ≤ 122) then _ else _) = _
                rw [if_neg (by omega)]
              · rw [show (mt h 3 - qz_I g 770 17).toNat = 0 by omega]; rfl
            refine ez_go (n := 2) (pc' := 292) (L' := [(5, .inl (n)), (0, .inr (.inr (some (770)))), (1, .inr (.inr (some (l))))]) (st' := [.inl (n), .inr (.inr (some (770)))]) rfl ?_
            refine ez_if rfl rfl ⟨by first | omega | exact (sz_i32 _).1, by first | omega | exact (sz_i32 _).2⟩ (fun (c37 : (n) ≤ (0)) => ?_) (fun (c37 : ¬((n) ≤ (0))) => ?_)
            · skip
              refine ez_go (n := 1) (pc' := 309) (L' := [(5, .inl (n)), (0, .inr (.inr (some (770)))), (1, .inr (.inr (some (l))))]) (st' := [.inl (0), .inr (.inr (some (770)))]) rfl ?_
              have hdb : rz_db (mb h) (mf h 3) (mt h 3) = none := by
                unfold rz_db; rw [if_pos h60, hEa, if_pos]
                by_cases e9 : qz_I g 770 17 < mt h 3
                · have x1 := mk_in (b := mb h) e9; omega
                · omega
              refine ez_cv hBg t770 rfl rfl rfl tq_75 rfl rfl rfl (rd_can0 (by omega) (by omega) (ez_Kp (xc_exc hBg rfl) rfl (k0 (fun dec w => ?_) g τ [] hBg ⟨hM.jp (lX_l _ _ _) t770 tl tpo hn, (hlg.mw hM t770 tl usp ucp tpo)⟩)))
              rcases w with ⟨w1, -⟩ | ⟨-, cp2, bg2, vs2, w2, -⟩; (· omega); (· rw [hdb] at w2; cases w2)
            · skip
              refine ez_go (n := 1) (pc' := 296) (L' := [(5, .inl (n)), (0, .inr (.inr (some (770)))), (1, .inr (.inr (some (l))))]) (st' := [.inr (.inr (some (770))), .inr (.inr (some (770)))]) rfl ?_
              refine ez_cv hBg t770 rfl rfl rfl tq_75 rfl rfl rfl (rd_peek hBg t770 (fun p38 p38' => ez_K1 ?_))
              rw [hst, hM.b hl.2.1] at p38 p38' ⊢
              refine ez_go (n := 1) (pc' := 301) (L' := [(5, .inl (n)), (0, .inr (.inr (some (770)))), (1, .inr (.inr (some (l))))]) (st' := [.inl (62), .inl ((mk (mb h) (qz_I g 770 17) (mt h 3))), .inr (.inr (some (770)))]) rfl ?_
              refine ez_icmp rfl rfl ⟨by first | omega | exact (sz_i32 _).1, by first | omega | exact (sz_i32 _).2⟩ ⟨by first | omega | exact (sz_i32 _).1, by first | omega | exact (sz_i32 _).2⟩ (fun (c39 : ((mk (mb h) (qz_I g 770 17) (mt h 3))) ≠ (62)) => ?_) (fun (c39 : ¬(((mk (mb h) (qz_I g 770 17) (mt h 3))) ≠ (62))) => ?_)
              · skip
                refine ez_go (n := 1) (pc' := 309) (L' := [(5, .inl (n)), (0, .inr (.inr (some (770)))), (1, .inr (.inr (some (l))))]) (st' := [.inl (0), .inr (.inr (some (770)))]) rfl ?_
                have hdb : rz_db (mb h) (mf h 3) (mt h 3) = none := by
                  unfold rz_db; rw [if_pos h60, hEa, if_pos]
                  by_cases e9 : qz_I g 770 17 < mt h 3
                  · have x1 := mk_in (b := mb h) e9; omega
                  · omega
                refine ez_cv hBg t770 rfl rfl rfl tq_75 rfl rfl rfl (rd_can0 (by omega) (by omega) (ez_Kp (xc_exc hBg rfl) rfl (k0 (fun dec w => ?_) g τ [] hBg ⟨hM.jp (lX_l _ _ _) t770 tl tpo hn, (hlg.mw hM t770 tl usp ucp tpo)⟩)))
                rcases w with ⟨w1, -⟩ | ⟨-, cp2, bg2, vs2, w2, -⟩; (· omega); (· rw [hdb] at w2; cases w2)
              · skip
                refine ez_go (n := 2) (pc' := 309) (L' := [(5, .inl (n)), (0, .inr (.inr (some (770)))), (1, .inr (.inr (some (l))))]) (st' := [.inl (1), .inr (.inr (some (770)))]) rfl ?_
                have hlt : qz_I g 770 17 < mt h 3 := by by_cases e9 : qz_I g 770 17 < mt h 3; (· exact e9); (· exfalso; have x1 := mk_out (b := mb h) e9; omega)
                have x1 := mk_in (b := mb h) hlt
                have hdb : rz_db (mb h) (mf h 3) (mt h 3) = some (1, qz_I g 770 17 + 1) := by unfold rz_db; rw [if_pos h60, hEa, if_neg (by omega)]
                refine ez_cv hBg t770 rfl rfl rfl tq_75 rfl rfl rfl (rd_can1 (by omega) (by omega) (ez_K0 ?_))
                refine ez_go (n := 2) (pc' := 314) (L' := [(5, .inl (n)), (0, .inr (.inr (some (770)))), (1, .inr (.inr (some (l))))]) (st' := [.inr (.inr (some (770))), .inr (.inr (some (770)))]) rfl ?_
                refine ez_gI hBg t770 rfl rfl tq_75 rfl rfl (fun (b40 : 0 ≤ qz_I g 770 17) (b40' : qz_I g 770 17 ≤ 4200) => ?_)
                refine ez_go (n := 2) (pc' := 319) (L' := [(5, .inl (n)), (0, .inr (.inr (some (770)))), (1, .inr (.inr (some (l))))]) (st' := [.inl ((qz_I g 770 17) + (1)), .inr (.inr (some (770)))]) rfl ?_
                refine ez_pf hBg t770 rfl rfl tq_75 rfl rfl rfl rfl (ez_vdI rfl rfl (by omega) (by omega)) (fun hB41 w42 => ?_)
                refine ez_go (n := 1) (pc' := 323) (L' := [(5, .inl (n)), (0, .inr (.inr (some (770)))), (1, .inr (.inr (some (l))))]) (st' := [.inr (.inr (some (770)))]) rfl ?_
                have e17 : qz_I (dz_put g 770 17 (ez_v (.inl ((qz_I g 770 17) + (1))))) 770 17 = qz_I g 770 17 + 1 := by rw [w42, rz_rd ⟨by omega, by omega⟩]
                have e18 : qz_I (dz_put g 770 17 (ez_v (.inl ((qz_I g 770 17) + (1))))) 770 18 = mt h 3 := by rw [ez_put_I (by omega)]; exact hst
                have M2 : mw h (dz_put g 770 17 (ez_v (.inl ((qz_I g 770 17) + (1))))) l := hM.trans mz_put.mw
                have J2 : ∀ j, qz_I (dz_put g 770 17 (ez_v (.inl ((qz_I g 770 17) + (1))))) l j = qz_I g l j := fun j => mz_put.l hl.1 j
                have hB2 := hB41
                generalize (dz_put g 770 17 (ez_v (.inl ((qz_I g 770 17) + (1))))) = g2 at *
                refine ez_cv hB2 t770 rfl rfl rfl tq_75 rfl rfl rfl (rd_blanks hB2 t770 (by rw [e17, e18]; omega) (fun g3 hB3 m3 a3 => ez_K0 ?_))
                rw [e17, e18, M2.b hl.2.1] at a3
                refine ez_less [(0, .inr (.inr (some (770)))), (1, .inr (.inr (some (l))))] rfl ⟨rfl, rfl, trivial⟩ ?_
                exact rd_points_r hB t770 tl hl usp ucp tpo h0 hn hpm hNh hr1 hr2 hlg hc0 F3 T3 hB3 (M2.trans m3.mw) ((m3.2 18 (by decide)).trans e18) (by omega) hdb (by omega) (by omega) a3 (fun j hj => by rw [m3.l hl.1, J2]; exact hJ j hj) (by rw [m3.l hl.1, J2]; exact hty) kx k0
          · skip
            refine ez_go (n := 2) (pc' := 275) (L' := [(5, .inl (n)), (0, .inr (.inr (some (770)))), (1, .inr (.inr (some (l))))]) (st' := [.inr (.inr (some (770))), .inr (.inr (some (770)))]) rfl ?_
            refine ez_gI hBg t770 rfl rfl tq_75 rfl rfl (fun (b43 : 0 ≤ qz_I g 770 17) (b43' : qz_I g 770 17 ≤ 4200) => ?_)
            refine ez_go (n := 2) (pc' := 280) (L' := [(5, .inl (n)), (0, .inr (.inr (some (770)))), (1, .inr (.inr (some (l))))]) (st' := [.inl ((qz_I g 770 17) + (1)), .inr (.inr (some (770)))]) rfl ?_
            refine ez_pf hBg t770 rfl rfl tq_75 rfl rfl rfl rfl (ez_vdI rfl rfl (by omega) (by omega)) (fun hB44 w45 => ?_)
            refine ez_go (n := 2) (pc' := 237) (L' := [(5, .inl (n + 1)), (0, .inr (.inr (some (770)))), (1, .inr (.inr (some (l))))]) (st' := []) rfl ?_
            exfalso; have x1 := mk_out (b := mb h) (show ¬ qz_I g 770 17 < mt h 3 by omega); omega
  | succ m ih =>
    intro n g hm hBg hM hst hJ hty hn5 n0 hat hE
    have c1 := hM.1.1; have c2 := hM.1.2.1
    refine ez_go (n := 1) (pc' := 238) (L' := [(5, .inl (n)), (0, .inr (.inr (some (770)))), (1, .inr (.inr (some (l))))]) (st' := [.inr (.inr (some (770)))]) rfl ?_
    refine ez_cv hBg t770 rfl rfl rfl tq_75 rfl rfl rfl (rd_peek hBg t770 (fun p1 p1' => ez_K1 ?_))
    rw [hst, hM.b hl.2.1] at p1 p1' ⊢
    refine ez_go (n := 1) (pc' := 243) (L' := [(5, .inl (n)), (0, .inr (.inr (some (770)))), (1, .inr (.inr (some (l))))]) (st' := [.inl (97), .inl ((mk (mb h) (qz_I g 770 17) (mt h 3)))]) rfl ?_
    refine ez_icmp rfl rfl ⟨by first | omega | exact (sz_i32 _).1, by first | omega | exact (sz_i32 _).2⟩ ⟨by first | omega | exact (sz_i32 _).1, by first | omega | exact (sz_i32 _).2⟩ (fun (c2 : ((mk (mb h) (qz_I g 770 17) (mt h 3))) < (97)) => ?_) (fun (c2 : ¬(((mk (mb h) (qz_I g 770 17) (mt h 3))) < (97))) => ?_)
    · skip
      refine ez_go (n := 1) (pc' := 256) (L' := [(5, .inl (n)), (0, .inr (.inr (some (770)))), (1, .inr (.inr (some (l))))]) (st' := [.inr (.inr (some (770)))]) rfl ?_
      refine ez_cv hBg t770 rfl rfl rfl tq_75 rfl rfl rfl (rd_peek hBg t770 (fun p3 p3' => ez_K1 ?_))
      rw [hst, hM.b hl.2.1] at p3 p3' ⊢
      refine ez_go (n := 1) (pc' := 261) (L' := [(5, .inl (n)), (0, .inr (.inr (some (770)))), (1, .inr (.inr (some (l))))]) (st' := [.inl (65), .inl ((mk (mb h) (qz_I g 770 17) (mt h 3)))]) rfl ?_
      refine ez_icmp rfl rfl ⟨by first | omega | exact (sz_i32 _).1, by first | omega | exact (sz_i32 _).2⟩ ⟨by first | omega | exact (sz_i32 _).1, by first | omega | exact (sz_i32 _).2⟩ (fun (c4 : ((mk (mb h) (qz_I g 770 17) (mt h 3))) < (65)) => ?_) (fun (c4 : ¬(((mk (mb h) (qz_I g 770 17) (mt h 3))) < (65))) => ?_)
      · skip
        have hEa : rz_lets (mb h) (mt h 3 - (mf h 3 + 1)).toNat (mf h 3 + 1) = qz_I g 770 17 := by
          rw [hE]
          by_cases e9 : qz_I g 770 17 < mt h 3
          · have x1 := mk_in (b := mb h) e9
            rw [show (mt h 3 - qz_I g 770 17).toNat = (mt h 3 - (qz_I g 770 17 + 1)).toNat + 1 by omega]
            show (if (65 ≤ mb h (qz_I g 770 17) ∧ mb h (qz_I g 770 17) ≤ 90) ∨ (97 ≤ mb h (qz_I g 770 17) ∧ mb h (qz_I g 770 17) ≤ 122) then _ else _) = _
            rw [if_neg (by omega)]
          · rw [show (mt h 3 - qz_I g 770 17).toNat = 0 by omega]; rfl
        refine ez_go (n := 2) (pc' := 292) (L' := [(5, .inl (n)), (0, .inr (.inr (some (770)))), (1, .inr (.inr (some (l))))]) (st' := [.inl (n), .inr (.inr (some (770)))]) rfl ?_
        refine ez_if rfl rfl ⟨by first | omega | exact (sz_i32 _).1, by first | omega | exact (sz_i32 _).2⟩ (fun (c5 : (n) ≤ (0)) => ?_) (fun (c5 : ¬((n) ≤ (0))) => ?_)
        · skip
          refine ez_go (n := 1) (pc' := 309) (L' := [(5, .inl (n)), (0, .inr (.inr (some (770)))), (1, .inr (.inr (some (l))))]) (st' := [.inl (0), .inr (.inr (some (770)))]) rfl ?_
          have hdb : rz_db (mb h) (mf h 3) (mt h 3) = none := by
            unfold rz_db; rw [if_pos h60, hEa, if_pos]
            by_cases e9 : qz_I g 770 17 < mt h 3
            · have x1 := mk_in (b := mb h) e9; omega
            · omega
          refine ez_cv hBg t770 rfl rfl rfl tq_75 rfl rfl rfl (rd_can0 (by omega) (by omega) (ez_Kp (xc_exc hBg rfl) rfl (k0 (fun dec w => ?_) g τ [] hBg ⟨hM.jp (lX_l _ _ _) t770 tl tpo hn, (hlg.mw hM t770 tl usp ucp tpo)⟩)))
          rcases w with ⟨w1, -⟩ | ⟨-, cp2, bg2, vs2, w2, -⟩; (· omega); (· rw [hdb] at w2; cases w2)
        · skip
          refine ez_go (n := 1) (pc' := 296) (L' := [(5, .inl (n)), (0, .inr (.inr (some (770)))), (1, .inr (.inr (some (l))))]) (st' := [.inr (.inr (some (770))), .inr (.inr (some (770)))]) rfl ?_
          refine ez_cv hBg t770 rfl rfl rfl tq_75 rfl rfl rfl (rd_peek hBg t770 (fun p6 p6' => ez_K1 ?_))
          rw [hst, hM.b hl.2.1] at p6 p6' ⊢
          refine ez_go (n := 1) (pc' := 301) (L' := [(5, .inl (n)), (0, .inr (.inr (some (770)))), (1, .inr (.inr (some (l))))]) (st' := [.inl (62), .inl ((mk (mb h) (qz_I g 770 17) (mt h 3))), .inr (.inr (some (770)))]) rfl ?_
          refine ez_icmp rfl rfl ⟨by first | omega | exact (sz_i32 _).1, by first | omega | exact (sz_i32 _).2⟩ ⟨by first | omega | exact (sz_i32 _).1, by first | omega | exact (sz_i32 _).2⟩ (fun (c7 : ((mk (mb h) (qz_I g 770 17) (mt h 3))) ≠ (62)) => ?_) (fun (c7 : ¬(((mk (mb h) (qz_I g 770 17) (mt h 3))) ≠ (62))) => ?_)
          · skip
            refine ez_go (n := 1) (pc' := 309) (L' := [(5, .inl (n)), (0, .inr (.inr (some (770)))), (1, .inr (.inr (some (l))))]) (st' := [.inl (0), .inr (.inr (some (770)))]) rfl ?_
            have hdb : rz_db (mb h) (mf h 3) (mt h 3) = none := by
              unfold rz_db; rw [if_pos h60, hEa, if_pos]
              by_cases e9 : qz_I g 770 17 < mt h 3
              · have x1 := mk_in (b := mb h) e9; omega
              · omega
            refine ez_cv hBg t770 rfl rfl rfl tq_75 rfl rfl rfl (rd_can0 (by omega) (by omega) (ez_Kp (xc_exc hBg rfl) rfl (k0 (fun dec w => ?_) g τ [] hBg ⟨hM.jp (lX_l _ _ _) t770 tl tpo hn, (hlg.mw hM t770 tl usp ucp tpo)⟩)))
            rcases w with ⟨w1, -⟩ | ⟨-, cp2, bg2, vs2, w2, -⟩; (· omega); (· rw [hdb] at w2; cases w2)
          · skip
            refine ez_go (n := 2) (pc' := 309) (L' := [(5, .inl (n)), (0, .inr (.inr (some (770)))), (1, .inr (.inr (some (l))))]) (st' := [.inl (1), .inr (.inr (some (770)))]) rfl ?_
            have hlt : qz_I g 770 17 < mt h 3 := by by_cases e9 : qz_I g 770 17 < mt h 3; (· exact e9); (· exfalso; have x1 := mk_out (b := mb h) e9; omega)
            have x1 := mk_in (b := mb h) hlt
            have hdb : rz_db (mb h) (mf h 3) (mt h 3) = some (1, qz_I g 770 17 + 1) := by unfold rz_db; rw [if_pos h60, hEa, if_neg (by omega)]
            refine ez_cv hBg t770 rfl rfl rfl tq_75 rfl rfl rfl (rd_can1 (by omega) (by omega) (ez_K0 ?_))
            refine ez_go (n := 2) (pc' := 314) (L' := [(5, .inl (n)), (0, .inr (.inr (some (770)))), (1, .inr (.inr (some (l))))]) (st' := [.inr (.inr (some (770))), .inr (.inr (some (770)))]) rfl ?_
            refine ez_gI hBg t770 rfl rfl tq_75 rfl rfl (fun (b8 : 0 ≤ qz_I g 770 17) (b8' : qz_I g 770 17 ≤ 4200) => ?_)
            refine ez_go (n := 2) (pc' := 319) (L' := [(5, .inl (n)), (0, .inr (.inr (some (770)))), (1, .inr (.inr (some (l))))]) (st' := [.inl ((qz_I g 770 17) + (1)), .inr (.inr (some (770)))]) rfl ?_
            refine ez_pf hBg t770 rfl rfl tq_75 rfl rfl rfl rfl (ez_vdI rfl rfl (by omega) (by omega)) (fun hB9 w10 => ?_)
            refine ez_go (n := 1) (pc' := 323) (L' := [(5, .inl (n)), (0, .inr (.inr (some (770)))), (1, .inr (.inr (some (l))))]) (st' := [.inr (.inr (some (770)))]) rfl ?_
            have e17 : qz_I (dz_put g 770 17 (ez_v (.inl ((qz_I g 770 17) + (1))))) 770 17 = qz_I g 770 17 + 1 := by rw [w10, rz_rd ⟨by omega, by omega⟩]
            have e18 : qz_I (dz_put g 770 17 (ez_v (.inl ((qz_I g 770 17) + (1))))) 770 18 = mt h 3 := by rw [ez_put_I (by omega)]; exact hst
            have M2 : mw h (dz_put g 770 17 (ez_v (.inl ((qz_I g 770 17) + (1))))) l := hM.trans mz_put.mw
            have J2 : ∀ j, qz_I (dz_put g 770 17 (ez_v (.inl ((qz_I g 770 17) + (1))))) l j = qz_I g l j := fun j => mz_put.l hl.1 j
            have hB2 := hB9
            generalize (dz_put g 770 17 (ez_v (.inl ((qz_I g 770 17) + (1))))) = g2 at *
            refine ez_cv hB2 t770 rfl rfl rfl tq_75 rfl rfl rfl (rd_blanks hB2 t770 (by rw [e17, e18]; omega) (fun g3 hB3 m3 a3 => ez_K0 ?_))
            rw [e17, e18, M2.b hl.2.1] at a3
            refine ez_less [(0, .inr (.inr (some (770)))), (1, .inr (.inr (some (l))))] rfl ⟨rfl, rfl, trivial⟩ ?_
            exact rd_points_r hB t770 tl hl usp ucp tpo h0 hn hpm hNh hr1 hr2 hlg hc0 F3 T3 hB3 (M2.trans m3.mw) ((m3.2 18 (by decide)).trans e18) (by omega) hdb (by omega) (by omega) a3 (fun j hj => by rw [m3.l hl.1, J2]; exact hJ j hj) (by rw [m3.l hl.1, J2]; exact hty) kx k0
      · skip
        refine ez_go (n := 1) (pc' := 265) (L' := [(5, .inl (n)), (0, .inr (.inr (some (770)))), (1, .inr (.inr (some (l))))]) (st' := [.inr (.inr (some (770)))]) rfl ?_
        refine ez_cv hBg t770 rfl rfl rfl tq_75 rfl rfl rfl (rd_peek hBg t770 (fun p11 p11' => ez_K1 ?_))
        rw [hst, hM.b hl.2.1] at p11 p11' ⊢
        refine ez_go (n := 1) (pc' := 270) (L' := [(5, .inl (n)), (0, .inr (.inr (some (770)))), (1, .inr (.inr (some (l))))]) (st' := [.inl (90), .inl ((mk (mb h) (qz_I g 770 17) (mt h 3)))]) rfl ?_
        refine ez_icmp rfl rfl ⟨by first | omega | exact (sz_i32 _).1, by first | omega | exact (sz_i32 _).2⟩ ⟨by first | omega | exact (sz_i32 _).1, by first | omega | exact (sz_i32 _).2⟩ (fun (c12 : (90) < ((mk (mb h) (qz_I g 770 17) (mt h 3)))) => ?_) (fun (c12 : ¬((90) < ((mk (mb h) (qz_I g 770 17) (mt h 3))))) => ?_)
        · skip
          have hEa : rz_lets (mb h) (mt h 3 - (mf h 3 + 1)).toNat (mf h 3 + 1) = qz_I g 770 17 := by
            rw [hE]
            by_cases e9 : qz_I g 770 17 < mt h 3
            · have x1 := mk_in (b := mb h) e9
              rw [show (mt h 3 - qz_I g 770 17).toNat = (mt h 3 - (qz_I g 770 17 + 1)).toNat + 1 by omega]
              show (if (65 ≤ mb h (qz_I g 770 17) ∧ mb h (qz_I g 770 17) ≤ 90) ∨ (97 ≤ mb h (qz_I g 770 17) ∧ mb h (qz_I g 770 17) ≤ 122) then _ else _) = _
              rw [if_neg (by omega)]
            · rw [show (mt h 3 - qz_I g 770 17).toNat = 0 by omega]; rfl
          refine ez_go (n := 2) (pc' := 292) (L' := [(5, .inl (n)), (0, .inr (.inr (some (770)))), (1, .inr (.inr (some (l))))]) (st' := [.inl (n), .inr (.inr (some (770)))]) rfl ?_
          refine ez_if rfl rfl ⟨by first | omega | exact (sz_i32 _).1, by first | omega | exact (sz_i32 _).2⟩ (fun (c13 : (n) ≤ (0)) => ?_) (fun (c13 : ¬((n) ≤ (0))) => ?_)
          · skip
            refine ez_go (n := 1) (pc' := 309) (L' := [(5, .inl (n)), (0, .inr (.inr (some (770)))), (1, .inr (.inr (some (l))))]) (st' := [.inl (0), .inr (.inr (some (770)))]) rfl ?_
            have hdb : rz_db (mb h) (mf h 3) (mt h 3) = none := by
              unfold rz_db; rw [if_pos h60, hEa, if_pos]
              by_cases e9 : qz_I g 770 17 < mt h 3
              · have x1 := mk_in (b := mb h) e9; omega
              · omega
            refine ez_cv hBg t770 rfl rfl rfl tq_75 rfl rfl rfl (rd_can0 (by omega) (by omega) (ez_Kp (xc_exc hBg rfl) rfl (k0 (fun dec w => ?_) g τ [] hBg ⟨hM.jp (lX_l _ _ _) t770 tl tpo hn, (hlg.mw hM t770 tl usp ucp tpo)⟩)))
            rcases w with ⟨w1, -⟩ | ⟨-, cp2, bg2, vs2, w2, -⟩; (· omega); (· rw [hdb] at w2; cases w2)
          · skip
            refine ez_go (n := 1) (pc' := 296) (L' := [(5, .inl (n)), (0, .inr (.inr (some (770)))), (1, .inr (.inr (some (l))))]) (st' := [.inr (.inr (some (770))), .inr (.inr (some (770)))]) rfl ?_
            refine ez_cv hBg t770 rfl rfl rfl tq_75 rfl rfl rfl (rd_peek hBg t770 (fun p14 p14' => ez_K1 ?_))
            rw [hst, hM.b hl.2.1] at p14 p14' ⊢
            refine ez_go (n := 1) (pc' := 301) (L' := [(5, .inl (n)), (0, .inr (.inr (some (770)))), (1, .inr (.inr (some (l))))]) (st' := [.inl (62), .inl ((mk (mb h) (qz_I g 770 17) (mt h 3))), .inr (.inr (some (770)))]) rfl ?_
            refine ez_icmp rfl rfl ⟨by first | omega | exact (sz_i32 _).1, by first | omega | exact (sz_i32 _).2⟩ ⟨by first | omega | exact (sz_i32 _).1, by first | omega | exact (sz_i32 _).2⟩ (fun (c15 : ((mk (mb h) (qz_I g 770 17) (mt h 3))) ≠ (62)) => ?_) (fun (c15 : ¬(((mk (mb h) (qz_I g 770 17) (mt h 3))) ≠ (62))) => ?_)
            · skip
              refine ez_go (n := 1) (pc' := 309) (L' := [(5, .inl (n)), (0, .inr (.inr (some (770)))), (1, .inr (.inr (some (l))))]) (st' := [.inl (0), .inr (.inr (some (770)))]) rfl ?_
              have hdb : rz_db (mb h) (mf h 3) (mt h 3) = none := by
                unfold rz_db; rw [if_pos h60, hEa, if_pos]
                by_cases e9 : qz_I g 770 17 < mt h 3
                · have x1 := mk_in (b := mb h) e9; omega
                · omega
              refine ez_cv hBg t770 rfl rfl rfl tq_75 rfl rfl rfl (rd_can0 (by omega) (by omega) (ez_Kp (xc_exc hBg rfl) rfl (k0 (fun dec w => ?_) g τ [] hBg ⟨hM.jp (lX_l _ _ _) t770 tl tpo hn, (hlg.mw hM t770 tl usp ucp tpo)⟩)))
              rcases w with ⟨w1, -⟩ | ⟨-, cp2, bg2, vs2, w2, -⟩; (· omega); (· rw [hdb] at w2; cases w2)
            · skip
              refine ez_go (n := 2) (pc' := 309) (L' := [(5, .inl (n)), (0, .inr (.inr (some (770)))), (1, .inr (.inr (some (l))))]) (st' := [.inl (1), .inr (.inr (some (770)))]) rfl ?_
              have hlt : qz_I g 770 17 < mt h 3 := by by_cases e9 : qz_I g 770 17 < mt h 3; (· exact e9); (· exfalso; have x1 := mk_out (b := mb h) e9; omega)
              have x1 := mk_in (b := mb h) hlt
              have hdb : rz_db (mb h) (mf h 3) (mt h 3) = some (1, qz_I g 770 17 + 1) := by unfold rz_db; rw [if_pos h60, hEa, if_neg (by omega)]
              refine ez_cv hBg t770 rfl rfl rfl tq_75 rfl rfl rfl (rd_can1 (by omega) (by omega) (ez_K0 ?_))
              refine ez_go (n := 2) (pc' := 314) (L' := [(5, .inl (n)), (0, .inr (.inr (some (770)))), (1, .inr (.inr (some (l))))]) (st' := [.inr (.inr (some (770))), .inr (.inr (some (770)))]) rfl ?_
              refine ez_gI hBg t770 rfl rfl tq_75 rfl rfl (fun (b16 : 0 ≤ qz_I g 770 17) (b16' : qz_I g 770 17 ≤ 4200) => ?_)
              refine ez_go (n := 2) (pc' := 319) (L' := [(5, .inl (n)), (0, .inr (.inr (some (770)))), (1, .inr (.inr (some (l))))]) (st' := [.inl ((qz_I g 770 17) + (1)), .inr (.inr (some (770)))]) rfl ?_
              refine ez_pf hBg t770 rfl rfl tq_75 rfl rfl rfl rfl (ez_vdI rfl rfl (by omega) (by omega)) (fun hB17 w18 => ?_)
              refine ez_go (n := 1) (pc' := 323) (L' := [(5, .inl (n)), (0, .inr (.inr (some (770)))), (1, .inr (.inr (some (l))))]) (st' := [.inr (.inr (some (770)))]) rfl ?_
              have e17 : qz_I (dz_put g 770 17 (ez_v (.inl ((qz_I g 770 17) + (1))))) 770 17 = qz_I g 770 17 + 1 := by rw [w18, rz_rd ⟨by omega, by omega⟩]
              have e18 : qz_I (dz_put g 770 17 (ez_v (.inl ((qz_I g 770 17) + (1))))) 770 18 = mt h 3 := by rw [ez_put_I (by omega)]; exact hst
              have M2 : mw h (dz_put g 770 17 (ez_v (.inl ((qz_I g 770 17) + (1))))) l := hM.trans mz_put.mw
              have J2 : ∀ j, qz_I (dz_put g 770 17 (ez_v (.inl ((qz_I g 770 17) + (1))))) l j = qz_I g l j := fun j => mz_put.l hl.1 j
              have hB2 := hB17
              generalize (dz_put g 770 17 (ez_v (.inl ((qz_I g 770 17) + (1))))) = g2 at *
              refine ez_cv hB2 t770 rfl rfl rfl tq_75 rfl rfl rfl (rd_blanks hB2 t770 (by rw [e17, e18]; omega) (fun g3 hB3 m3 a3 => ez_K0 ?_))
              rw [e17, e18, M2.b hl.2.1] at a3
              refine ez_less [(0, .inr (.inr (some (770)))), (1, .inr (.inr (some (l))))] rfl ⟨rfl, rfl, trivial⟩ ?_
              exact rd_points_r hB t770 tl hl usp ucp tpo h0 hn hpm hNh hr1 hr2 hlg hc0 F3 T3 hB3 (M2.trans m3.mw) ((m3.2 18 (by decide)).trans e18) (by omega) hdb (by omega) (by omega) a3 (fun j hj => by rw [m3.l hl.1, J2]; exact hJ j hj) (by rw [m3.l hl.1, J2]; exact hty) kx k0
        · skip
          refine ez_go (n := 2) (pc' := 275) (L' := [(5, .inl (n)), (0, .inr (.inr (some (770)))), (1, .inr (.inr (some (l))))]) (st' := [.inr (.inr (some (770))), .inr (.inr (some (770)))]) rfl ?_
          refine ez_gI hBg t770 rfl rfl tq_75 rfl rfl (fun (b19 : 0 ≤ qz_I g 770 17) (b19' : qz_I g 770 17 ≤ 4200) => ?_)
          refine ez_go (n := 2) (pc' := 280) (L' := [(5, .inl (n)), (0, .inr (.inr (some (770)))), (1, .inr (.inr (some (l))))]) (st' := [.inl ((qz_I g 770 17) + (1)), .inr (.inr (some (770)))]) rfl ?_
          refine ez_pf hBg t770 rfl rfl tq_75 rfl rfl rfl rfl (ez_vdI rfl rfl (by omega) (by omega)) (fun hB20 w21 => ?_)
          refine ez_go (n := 2) (pc' := 237) (L' := [(5, .inl (n + 1)), (0, .inr (.inr (some (770)))), (1, .inr (.inr (some (l))))]) (st' := []) rfl ?_
          refine ez_less [(5, .inl (n + 1)), (0, .inr (.inr (some (770)))), (1, .inr (.inr (some (l))))] rfl ⟨rfl, rfl, rfl, trivial⟩ ?_
          have hlt : qz_I g 770 17 < mt h 3 := by by_cases e9 : qz_I g 770 17 < mt h 3; (· exact e9); (· exfalso; have x1 := mk_out (b := mb h) e9; omega)
          have x1 := mk_in (b := mb h) hlt
          have e17 : qz_I (dz_put g 770 17 (ez_v (.inl ((qz_I g 770 17) + (1))))) 770 17 = qz_I g 770 17 + 1 := by rw [w21, rz_rd ⟨by omega, by omega⟩]
          refine ih _ _ (by rw [e17]; omega) hB20 (hM.trans mz_put.mw) (by rw [ez_put_I (by omega)]; exact hst) (fun j hj => by rw [mz_put.l hl.1]; exact hJ j hj) (by rw [mz_put.l hl.1]; exact hty) (by rw [e17]; omega) (by omega) (by rw [e17]; omega) ?_
          rw [e17, hE, show (mt h 3 - qz_I g 770 17).toNat = (mt h 3 - (qz_I g 770 17 + 1)).toNat + 1 by omega]
          show (if (65 ≤ mb h (qz_I g 770 17) ∧ mb h (qz_I g 770 17) ≤ 90) ∨ (97 ≤ mb h (qz_I g 770 17) ∧ mb h (qz_I g 770 17) ≤ 122) then _ else _) = _
          rw [if_pos (by omega)]
    · skip
      refine ez_go (n := 1) (pc' := 247) (L' := [(5, .inl (n)), (0, .inr (.inr (some (770)))), (1, .inr (.inr (some (l))))]) (st' := [.inr (.inr (some (770)))]) rfl ?_
      refine ez_cv hBg t770 rfl rfl rfl tq_75 rfl rfl rfl (rd_peek hBg t770 (fun p22 p22' => ez_K1 ?_))
      rw [hst, hM.b hl.2.1] at p22 p22' ⊢
      refine ez_go (n := 1) (pc' := 252) (L' := [(5, .inl (n)), (0, .inr (.inr (some (770)))), (1, .inr (.inr (some (l))))]) (st' := [.inl (122), .inl ((mk (mb h) (qz_I g 770 17) (mt h 3)))]) rfl ?_
      refine ez_icmp rfl rfl ⟨by first | omega | exact (sz_i32 _).1, by first | omega | exact (sz_i32 _).2⟩ ⟨by first | omega | exact (sz_i32 _).1, by first | omega | exact (sz_i32 _).2⟩ (fun (c23 : ((mk (mb h) (qz_I g 770 17) (mt h 3))) ≤ (122)) => ?_) (fun (c23 : ¬(((mk (mb h) (qz_I g 770 17) (mt h 3))) ≤ (122))) => ?_)
      · skip
        refine ez_go (n := 2) (pc' := 275) (L' := [(5, .inl (n)), (0, .inr (.inr (some (770)))), (1, .inr (.inr (some (l))))]) (st' := [.inr (.inr (some (770))), .inr (.inr (some (770)))]) rfl ?_
        refine ez_gI hBg t770 rfl rfl tq_75 rfl rfl (fun (b24 : 0 ≤ qz_I g 770 17) (b24' : qz_I g 770 17 ≤ 4200) => ?_)
        refine ez_go (n := 2) (pc' := 280) (L' := [(5, .inl (n)), (0, .inr (.inr (some (770)))), (1, .inr (.inr (some (l))))]) (st' := [.inl ((qz_I g 770 17) + (1)), .inr (.inr (some (770)))]) rfl ?_
        refine ez_pf hBg t770 rfl rfl tq_75 rfl rfl rfl rfl (ez_vdI rfl rfl (by omega) (by omega)) (fun hB25 w26 => ?_)
        refine ez_go (n := 2) (pc' := 237) (L' := [(5, .inl (n + 1)), (0, .inr (.inr (some (770)))), (1, .inr (.inr (some (l))))]) (st' := []) rfl ?_
        refine ez_less [(5, .inl (n + 1)), (0, .inr (.inr (some (770)))), (1, .inr (.inr (some (l))))] rfl ⟨rfl, rfl, rfl, trivial⟩ ?_
        have hlt : qz_I g 770 17 < mt h 3 := by by_cases e9 : qz_I g 770 17 < mt h 3; (· exact e9); (· exfalso; have x1 := mk_out (b := mb h) e9; omega)
        have x1 := mk_in (b := mb h) hlt
        have e17 : qz_I (dz_put g 770 17 (ez_v (.inl ((qz_I g 770 17) + (1))))) 770 17 = qz_I g 770 17 + 1 := by rw [w26, rz_rd ⟨by omega, by omega⟩]
        refine ih _ _ (by rw [e17]; omega) hB25 (hM.trans mz_put.mw) (by rw [ez_put_I (by omega)]; exact hst) (fun j hj => by rw [mz_put.l hl.1]; exact hJ j hj) (by rw [mz_put.l hl.1]; exact hty) (by rw [e17]; omega) (by omega) (by rw [e17]; omega) ?_
        rw [e17, hE, show (mt h 3 - qz_I g 770 17).toNat = (mt h 3 - (qz_I g 770 17 + 1)).toNat + 1 by omega]
        show (if (65 ≤ mb h (qz_I g 770 17) ∧ mb h (qz_I g 770 17) ≤ 90) ∨ (97 ≤ mb h (qz_I g 770 17) ∧ mb h (qz_I g 770 17) ≤ 122) then _ else _) = _
        rw [if_pos (by omega)]
      · skip
        refine ez_go (n := 1) (pc' := 256) (L' := [(5, .inl (n)), (0, .inr (.inr (some (770)))), (1, .inr (.inr (some (l))))]) (st' := [.inr (.inr (some (770)))]) rfl ?_
        refine ez_cv hBg t770 rfl rfl rfl tq_75 rfl rfl rfl (rd_peek hBg t770 (fun p27 p27' => ez_K1 ?_))
        rw [hst, hM.b hl.2.1] at p27 p27' ⊢
        refine ez_go (n := 1) (pc' := 261) (L' := [(5, .inl (n)), (0, .inr (.inr (some (770)))), (1, .inr (.inr (some (l))))]) (st' := [.inl (65), .inl ((mk (mb h) (qz_I g 770 17) (mt h 3)))]) rfl ?_
        refine ez_icmp rfl rfl ⟨by first | omega | exact (sz_i32 _).1, by first | omega | exact (sz_i32 _).2⟩ ⟨by first | omega | exact (sz_i32 _).1, by first | omega | exact (sz_i32 _).2⟩ (fun (c28 : ((mk (mb h) (qz_I g 770 17) (mt h 3))) < (65)) => ?_) (fun (c28 : ¬(((mk (mb h) (qz_I g 770 17) (mt h 3))) < (65))) => ?_)
        · skip
          have hEa : rz_lets (mb h) (mt h 3 - (mf h 3 + 1)).toNat (mf h 3 + 1) = qz_I g 770 17 := by
            rw [hE]
            by_cases e9 : qz_I g 770 17 < mt h 3
            · have x1 := mk_in (b := mb h) e9
              rw [show (mt h 3 - qz_I g 770 17).toNat = (mt h 3 - (qz_I g 770 17 + 1)).toNat + 1 by omega]
              show (if (65 ≤ mb h (qz_I g 770 17) ∧ mb h (qz_I g 770 17) ≤ 90) ∨ (97 ≤ mb h (qz_I g 770 17) ∧ mb h (qz_I g 770 17) ≤ 122) then _ else _) = _
              rw [if_neg (by omega)]
            · rw [show (mt h 3 - qz_I g 770 17).toNat = 0 by omega]; rfl
          refine ez_go (n := 2) (pc' := 292) (L' := [(5, .inl (n)), (0, .inr (.inr (some (770)))), (1, .inr (.inr (some (l))))]) (st' := [.inl (n), .inr (.inr (some (770)))]) rfl ?_
          refine ez_if rfl rfl ⟨by first | omega | exact (sz_i32 _).1, by first | omega | exact (sz_i32 _).2⟩ (fun (c29 : (n) ≤ (0)) => ?_) (fun (c29 : ¬((n) ≤ (0))) => ?_)
          · skip
            refine ez_go (n := 1) (pc' := 309) (L' := [(5, .inl (n)), (0, .inr (.inr (some (770)))), (1, .inr (.inr (some (l))))]) (st' := [.inl (0), .inr (.inr (some (770)))]) rfl ?_
            have hdb : rz_db (mb h) (mf h 3) (mt h 3) = none := by
              unfold rz_db; rw [if_pos h60, hEa, if_pos]
              by_cases e9 : qz_I g 770 17 < mt h 3
              · have x1 := mk_in (b := mb h) e9; omega
              · omega
            refine ez_cv hBg t770 rfl rfl rfl tq_75 rfl rfl rfl (rd_can0 (by omega) (by omega) (ez_Kp (xc_exc hBg rfl) rfl (k0 (fun dec w => ?_) g τ [] hBg ⟨hM.jp (lX_l _ _ _) t770 tl tpo hn, (hlg.mw hM t770 tl usp ucp tpo)⟩)))
            rcases w with ⟨w1, -⟩ | ⟨-, cp2, bg2, vs2, w2, -⟩; (· omega); (· rw [hdb] at w2; cases w2)
          · skip
            refine ez_go (n := 1) (pc' := 296) (L' := [(5, .inl (n)), (0, .inr (.inr (some (770)))), (1, .inr (.inr (some (l))))]) (st' := [.inr (.inr (some (770))), .inr (.inr (some (770)))]) rfl ?_
            refine ez_cv hBg t770 rfl rfl rfl tq_75 rfl rfl rfl (rd_peek hBg t770 (fun p30 p30' => ez_K1 ?_))
            rw [hst, hM.b hl.2.1] at p30 p30' ⊢
            refine ez_go (n := 1) (pc' := 301) (L' := [(5, .inl (n)), (0, .inr (.inr (some (770)))), (1, .inr (.inr (some (l))))]) (st' := [.inl (62), .inl ((mk (mb h) (qz_I g 770 17) (mt h 3))), .inr (.inr (some (770)))]) rfl ?_
            refine ez_icmp rfl rfl ⟨by first | omega | exact (sz_i32 _).1, by first | omega | exact (sz_i32 _).2⟩ ⟨by first | omega | exact (sz_i32 _).1, by first | omega | exact (sz_i32 _).2⟩ (fun (c31 : ((mk (mb h) (qz_I g 770 17) (mt h 3))) ≠ (62)) => ?_) (fun (c31 : ¬(((mk (mb h) (qz_I g 770 17) (mt h 3))) ≠ (62))) => ?_)
            · skip
              refine ez_go (n := 1) (pc' := 309) (L' := [(5, .inl (n)), (0, .inr (.inr (some (770)))), (1, .inr (.inr (some (l))))]) (st' := [.inl (0), .inr (.inr (some (770)))]) rfl ?_
              have hdb : rz_db (mb h) (mf h 3) (mt h 3) = none := by
                unfold rz_db; rw [if_pos h60, hEa, if_pos]
                by_cases e9 : qz_I g 770 17 < mt h 3
                · have x1 := mk_in (b := mb h) e9; omega
                · omega
              refine ez_cv hBg t770 rfl rfl rfl tq_75 rfl rfl rfl (rd_can0 (by omega) (by omega) (ez_Kp (xc_exc hBg rfl) rfl (k0 (fun dec w => ?_) g τ [] hBg ⟨hM.jp (lX_l _ _ _) t770 tl tpo hn, (hlg.mw hM t770 tl usp ucp tpo)⟩)))
              rcases w with ⟨w1, -⟩ | ⟨-, cp2, bg2, vs2, w2, -⟩; (· omega); (· rw [hdb] at w2; cases w2)
            · skip
              refine ez_go (n := 2) (pc' := 309) (L' := [(5, .inl (n)), (0, .inr (.inr (some (770)))), (1, .inr (.inr (some (l))))]) (st' := [.inl (1), .inr (.inr (some (770)))]) rfl ?_
              have hlt : qz_I g 770 17 < mt h 3 := by by_cases e9 : qz_I g 770 17 < mt h 3; (· exact e9); (· exfalso; have x1 := mk_out (b := mb h) e9; omega)
              have x1 := mk_in (b := mb h) hlt
              have hdb : rz_db (mb h) (mf h 3) (mt h 3) = some (1, qz_I g 770 17 + 1) := by unfold rz_db; rw [if_pos h60, hEa, if_neg (by omega)]
              refine ez_cv hBg t770 rfl rfl rfl tq_75 rfl rfl rfl (rd_can1 (by omega) (by omega) (ez_K0 ?_))
              refine ez_go (n := 2) (pc' := 314) (L' := [(5, .inl (n)), (0, .inr (.inr (some (770)))), (1, .inr (.inr (some (l))))]) (st' := [.inr (.inr (some (770))), .inr (.inr (some (770)))]) rfl ?_
              refine ez_gI hBg t770 rfl rfl tq_75 rfl rfl (fun (b32 : 0 ≤ qz_I g 770 17) (b32' : qz_I g 770 17 ≤ 4200) => ?_)
              refine ez_go (n := 2) (pc' := 319) (L' := [(5, .inl (n)), (0, .inr (.inr (some (770)))), (1, .inr (.inr (some (l))))]) (st' := [.inl ((qz_I g 770 17) + (1)), .inr (.inr (some (770)))]) rfl ?_
              refine ez_pf hBg t770 rfl rfl tq_75 rfl rfl rfl rfl (ez_vdI rfl rfl (by omega) (by omega)) (fun hB33 w34 => ?_)
              refine ez_go (n := 1) (pc' := 323) (L' := [(5, .inl (n)), (0, .inr (.inr (some (770)))), (1, .inr (.inr (some (l))))]) (st' := [.inr (.inr (some (770)))]) rfl ?_
              have e17 : qz_I (dz_put g 770 17 (ez_v (.inl ((qz_I g 770 17) + (1))))) 770 17 = qz_I g 770 17 + 1 := by rw [w34, rz_rd ⟨by omega, by omega⟩]
              have e18 : qz_I (dz_put g 770 17 (ez_v (.inl ((qz_I g 770 17) + (1))))) 770 18 = mt h 3 := by rw [ez_put_I (by omega)]; exact hst
              have M2 : mw h (dz_put g 770 17 (ez_v (.inl ((qz_I g 770 17) + (1))))) l := hM.trans mz_put.mw
              have J2 : ∀ j, qz_I (dz_put g 770 17 (ez_v (.inl ((qz_I g 770 17) + (1))))) l j = qz_I g l j := fun j => mz_put.l hl.1 j
              have hB2 := hB33
              generalize (dz_put g 770 17 (ez_v (.inl ((qz_I g 770 17) + (1))))) = g2 at *
              refine ez_cv hB2 t770 rfl rfl rfl tq_75 rfl rfl rfl (rd_blanks hB2 t770 (by rw [e17, e18]; omega) (fun g3 hB3 m3 a3 => ez_K0 ?_))
              rw [e17, e18, M2.b hl.2.1] at a3
              refine ez_less [(0, .inr (.inr (some (770)))), (1, .inr (.inr (some (l))))] rfl ⟨rfl, rfl, trivial⟩ ?_
              exact rd_points_r hB t770 tl hl usp ucp tpo h0 hn hpm hNh hr1 hr2 hlg hc0 F3 T3 hB3 (M2.trans m3.mw) ((m3.2 18 (by decide)).trans e18) (by omega) hdb (by omega) (by omega) a3 (fun j hj => by rw [m3.l hl.1, J2]; exact hJ j hj) (by rw [m3.l hl.1, J2]; exact hty) kx k0
        · skip
          refine ez_go (n := 1) (pc' := 265) (L' := [(5, .inl (n)), (0, .inr (.inr (some (770)))), (1, .inr (.inr (some (l))))]) (st' := [.inr (.inr (some (770)))]) rfl ?_
          refine ez_cv hBg t770 rfl rfl rfl tq_75 rfl rfl rfl (rd_peek hBg t770 (fun p35 p35' => ez_K1 ?_))
          rw [hst, hM.b hl.2.1] at p35 p35' ⊢
          refine ez_go (n := 1) (pc' := 270) (L' := [(5, .inl (n)), (0, .inr (.inr (some (770)))), (1, .inr (.inr (some (l))))]) (st' := [.inl (90), .inl ((mk (mb h) (qz_I g 770 17) (mt h 3)))]) rfl ?_
          refine ez_icmp rfl rfl ⟨by first | omega | exact (sz_i32 _).1, by first | omega | exact (sz_i32 _).2⟩ ⟨by first | omega | exact (sz_i32 _).1, by first | omega | exact (sz_i32 _).2⟩ (fun (c36 : (90) < ((mk (mb h) (qz_I g 770 17) (mt h 3)))) => ?_) (fun (c36 : ¬((90) < ((mk (mb h) (qz_I g 770 17) (mt h 3))))) => ?_)
          · skip
            have hEa : rz_lets (mb h) (mt h 3 - (mf h 3 + 1)).toNat (mf h 3 + 1) = qz_I g 770 17 := by
              rw [hE]
              by_cases e9 : qz_I g 770 17 < mt h 3
              · have x1 := mk_in (b := mb h) e9
                rw [show (mt h 3 - qz_I g 770 17).toNat = (mt h 3 - (qz_I g 770 17 + 1)).toNat + 1 by omega]
                show (if (65 ≤ mb h (qz_I g 770 17) ∧ mb h (qz_I g 770 17) ≤ 90) ∨ (97 ≤ mb h (qz_I g 770 17) ∧ mb h (qz_I g 770 17) ≤ 122) then _ else _) = _
                rw [if_neg (by omega)]
              · rw [show (mt h 3 - qz_I g 770 17).toNat = 0 by omega]; rfl
            refine ez_go (n := 2) (pc' := 292) (L' := [(5, .inl (n)), (0, .inr (.inr (some (770)))), (1, .inr (.inr (some (l))))]) (st' := [.inl (n), .inr (.inr (some (770)))]) rfl ?_
            refine ez_if rfl rfl ⟨by first | omega | exact (sz_i32 _).1, by first | omega | exact (sz_i32 _).2⟩ (fun (c37 : (n) ≤ (0)) => ?_) (fun (c37 : ¬((n) ≤ (0))) => ?_)
            · skip
              refine ez_go (n := 1) (pc' := 309) (L' := [(5, .inl (n)), (0, .inr (.inr (some (770)))), (1, .inr (.inr (some (l))))]) (st' := [.inl (0), .inr (.inr (some (770)))]) rfl ?_
              have hdb : rz_db (mb h) (mf h 3) (mt h 3) = none := by
                unfold rz_db; rw [if_pos h60, hEa, if_pos]
                by_cases e9 : qz_I g 770 17 < mt h 3
                · have x1 := mk_in (b := mb h) e9; omega
                · omega
              refine ez_cv hBg t770 rfl rfl rfl tq_75 rfl rfl rfl (rd_can0 (by omega) (by omega) (ez_Kp (xc_exc hBg rfl) rfl (k0 (fun dec w => ?_) g τ [] hBg ⟨hM.jp (lX_l _ _ _) t770 tl tpo hn, (hlg.mw hM t770 tl usp ucp tpo)⟩)))
              rcases w with ⟨w1, -⟩ | ⟨-, cp2, bg2, vs2, w2, -⟩; (· omega); (· rw [hdb] at w2; cases w2)
            · skip
              refine ez_go (n := 1) (pc' := 296) (L' := [(5, .inl (n)), (0, .inr (.inr (some (770)))), (1, .inr (.inr (some (l))))]) (st' := [.inr (.inr (some (770))), .inr (.inr (some (770)))]) rfl ?_
              refine ez_cv hBg t770 rfl rfl rfl tq_75 rfl rfl rfl (rd_peek hBg t770 (fun p38 p38' => ez_K1 ?_))
              rw [hst, hM.b hl.2.1] at p38 p38' ⊢
              refine ez_go (n := 1) (pc' := 301) (L' := [(5, .inl (n)), (0, .inr (.inr (some (770)))), (1, .inr (.inr (some (l))))]) (st' := [.inl (62), .inl ((mk (mb h) (qz_I g 770 17) (mt h 3))), .inr (.inr (some (770)))]) rfl ?_
              refine ez_icmp rfl rfl ⟨by first | omega | exact (sz_i32 _).1, by first | omega | exact (sz_i32 _).2⟩ ⟨by first | omega | exact (sz_i32 _).1, by first | omega | exact (sz_i32 _).2⟩ (fun (c39 : ((mk (mb h) (qz_I g 770 17) (mt h 3))) ≠ (62)) => ?_) (fun (c39 : ¬(((mk (mb h) (qz_I g 770 17) (mt h 3))) ≠ (62))) => ?_)
              · skip
                refine ez_go (n := 1) (pc' := 309) (L' := [(5, .inl (n)), (0, .inr (.inr (some (770)))), (1, .inr (.inr (some (l))))]) (st' := [.inl (0), .inr (.inr (some (770)))]) rfl ?_
                have hdb : rz_db (mb h) (mf h 3) (mt h 3) = none := by
                  unfold rz_db; rw [if_pos h60, hEa, if_pos]
                  by_cases e9 : qz_I g 770 17 < mt h 3
                  · have x1 := mk_in (b := mb h) e9; omega
                  · omega
                refine ez_cv hBg t770 rfl rfl rfl tq_75 rfl rfl rfl (rd_can0 (by omega) (by omega) (ez_Kp (xc_exc hBg rfl) rfl (k0 (fun dec w => ?_) g τ [] hBg ⟨hM.jp (lX_l _ _ _) t770 tl tpo hn, (hlg.mw hM t770 tl usp ucp tpo)⟩)))
                rcases w with ⟨w1, -⟩ | ⟨-, cp2, bg2, vs2, w2, -⟩; (· omega); (· rw [hdb] at w2; cases w2)
              · skip
                refine ez_go (n := 2) (pc' := 309) (L' := [(5, .inl (n)), (0, .inr (.inr (some (770)))), (1, .inr (.inr (some (l))))]) (st' := [.inl (1), .inr (.inr (some (770)))]) rfl ?_
                have hlt : qz_I g 770 17 < mt h 3 := by by_cases e9 : qz_I g 770 17 < mt h 3; (· exact e9); (· exfalso; have x1 := mk_out (b := mb h) e9; omega)
                have x1 := mk_in (b := mb h) hlt
                have hdb : rz_db (mb h) (mf h 3) (mt h 3) = some (1, qz_I g 770 17 + 1) := by unfold rz_db; rw [if_pos h60, hEa, if_neg (by omega)]
                refine ez_cv hBg t770 rfl rfl rfl tq_75 rfl rfl rfl (rd_can1 (by omega) (by omega) (ez_K0 ?_))
                refine ez_go (n := 2) (pc' := 314) (L' := [(5, .inl (n)), (0, .inr (.inr (some (770)))), (1, .inr (.inr (some (l))))]) (st' := [.inr (.inr (some (770))), .inr (.inr (some (770)))]) rfl ?_
                refine ez_gI hBg t770 rfl rfl tq_75 rfl rfl (fun (b40 : 0 ≤ qz_I g 770 17) (b40' : qz_I g 770 17 ≤ 4200) => ?_)
                refine ez_go (n := 2) (pc' := 319) (L' := [(5, .inl (n)), (0, .inr (.inr (some (770)))), (1, .inr (.inr (some (l))))]) (st' := [.inl ((qz_I g 770 17) + (1)), .inr (.inr (some (770)))]) rfl ?_
                refine ez_pf hBg t770 rfl rfl tq_75 rfl rfl rfl rfl (ez_vdI rfl rfl (by omega) (by omega)) (fun hB41 w42 => ?_)
                refine ez_go (n := 1) (pc' := 323) (L' := [(5, .inl (n)), (0, .inr (.inr (some (770)))), (1, .inr (.inr (some (l))))]) (st' := [.inr (.inr (some (770)))]) rfl ?_
                have e17 : qz_I (dz_put g 770 17 (ez_v (.inl ((qz_I g 770 17) + (1))))) 770 17 = qz_I g 770 17 + 1 := by rw [w42, rz_rd ⟨by omega, by omega⟩]
                have e18 : qz_I (dz_put g 770 17 (ez_v (.inl ((qz_I g 770 17) + (1))))) 770 18 = mt h 3 := by rw [ez_put_I (by omega)]; exact hst
                have M2 : mw h (dz_put g 770 17 (ez_v (.inl ((qz_I g 770 17) + (1))))) l := hM.trans mz_put.mw
                have J2 : ∀ j, qz_I (dz_put g 770 17 (ez_v (.inl ((qz_I g 770 17) + (1))))) l j = qz_I g l j := fun j => mz_put.l hl.1 j
                have hB2 := hB41
                generalize (dz_put g 770 17 (ez_v (.inl ((qz_I g 770 17) + (1))))) = g2 at *
                refine ez_cv hB2 t770 rfl rfl rfl tq_75 rfl rfl rfl (rd_blanks hB2 t770 (by rw [e17, e18]; omega) (fun g3 hB3 m3 a3 => ez_K0 ?_))
                rw [e17, e18, M2.b hl.2.1] at a3
                refine ez_less [(0, .inr (.inr (some (770)))), (1, .inr (.inr (some (l))))] rfl ⟨rfl, rfl, trivial⟩ ?_
                exact rd_points_r hB t770 tl hl usp ucp tpo h0 hn hpm hNh hr1 hr2 hlg hc0 F3 T3 hB3 (M2.trans m3.mw) ((m3.2 18 (by decide)).trans e18) (by omega) hdb (by omega) (by omega) a3 (fun j hj => by rw [m3.l hl.1, J2]; exact hJ j hj) (by rw [m3.l hl.1, J2]; exact hty) kx k0
          · skip
            refine ez_go (n := 2) (pc' := 275) (L' := [(5, .inl (n)), (0, .inr (.inr (some (770)))), (1, .inr (.inr (some (l))))]) (st' := [.inr (.inr (some (770))), .inr (.inr (some (770)))]) rfl ?_
            refine ez_gI hBg t770 rfl rfl tq_75 rfl rfl (fun (b43 : 0 ≤ qz_I g 770 17) (b43' : qz_I g 770 17 ≤ 4200) => ?_)
            refine ez_go (n := 2) (pc' := 280) (L' := [(5, .inl (n)), (0, .inr (.inr (some (770)))), (1, .inr (.inr (some (l))))]) (st' := [.inl ((qz_I g 770 17) + (1)), .inr (.inr (some (770)))]) rfl ?_
            refine ez_pf hBg t770 rfl rfl tq_75 rfl rfl rfl rfl (ez_vdI rfl rfl (by omega) (by omega)) (fun hB44 w45 => ?_)
            refine ez_go (n := 2) (pc' := 237) (L' := [(5, .inl (n + 1)), (0, .inr (.inr (some (770)))), (1, .inr (.inr (some (l))))]) (st' := []) rfl ?_
            refine ez_less [(5, .inl (n + 1)), (0, .inr (.inr (some (770)))), (1, .inr (.inr (some (l))))] rfl ⟨rfl, rfl, rfl, trivial⟩ ?_
            have hlt : qz_I g 770 17 < mt h 3 := by by_cases e9 : qz_I g 770 17 < mt h 3; (· exact e9); (· exfalso; have x1 := mk_out (b := mb h) e9; omega)
            have x1 := mk_in (b := mb h) hlt
            have e17 : qz_I (dz_put g 770 17 (ez_v (.inl ((qz_I g 770 17) + (1))))) 770 17 = qz_I g 770 17 + 1 := by rw [w45, rz_rd ⟨by omega, by omega⟩]
            refine ih _ _ (by rw [e17]; omega) hB44 (hM.trans mz_put.mw) (by rw [ez_put_I (by omega)]; exact hst) (fun j hj => by rw [mz_put.l hl.1]; exact hJ j hj) (by rw [mz_put.l hl.1]; exact hty) (by rw [e17]; omega) (by omega) (by rw [e17]; omega) ?_
            rw [e17, hE, show (mt h 3 - qz_I g 770 17).toNat = (mt h 3 - (qz_I g 770 17 + 1)).toNat + 1 by omega]
            show (if (65 ≤ mb h (qz_I g 770 17) ∧ mb h (qz_I g 770 17) ≤ 90) ∨ (97 ≤ mb h (qz_I g 770 17) ∧ mb h (qz_I g 770 17) ≤ 122) then _ else _) = _
            rw [if_pos (by omega)]

theorem rd_points_c (hB : ez_B τ h) (t770 : τ 770 = 75) (tl : τ l = 13) (hl : lz l) (usp : τ (qz_P h l 7) = 15) (ucp : τ (qz_P h l 8) = 16) (tpo : τ (po h) = 17) (h0 : 0 ≤ pn h) (hn : pn h ≤ qz_N h (po h)) (hpm : pn h + 18 ≤ 38400) (hNh : 1024 ≤ qz_N h (po h)) (hr1 : h.1 + 100 ≤ 600192) (hr2 : h.2.1 + 240000 ≤ 7302232) (hlg : l2 (qz_P h l 7) (qz_P h l 8) h) (hc0 : qz_I h (qz_P h l 8) 0 = 0) (F3 : (0 ≤ mf h 3 ∧ mf h 3 ≤ mt h 3) ∧ mt h 3 ≤ 4096) (T3 : mf h 3 < mt h 3 → ¬ bk (mb h (mf h 3)) ∧ ¬ bk (mb h (mt h 3 - 1))) (h5 : qz_I h l 5 = 0) (kx : ∀ g τ1 dec, ez_B τ1 g → ((mf h 3 = mt h 3 ∧ dec = none) ∨ (mf h 3 ≠ mt h 3 ∧ ∃ cp bg vs, rz_db (mb h) (mf h 3) (mt h 3) = some (cp, bg) ∧ rz_rw (mb h) 18 bg (mt h 3) = some vs ∧ dec = some (cp, vs))) → (pj (lX l (qz_P h l 7) (qz_P h l 8)) τ h τ1 g (dA dec) ∧ l2 (qz_P h l 7) (qz_P h l 8) g) → (∀ j, j ≠ 5 → qz_I g l j = qz_I h l j) → qz_I g l 5 = dT dec → (dec ≠ none → qz_I g (qz_P h l 7) 0 = pn h) → qz_I g (qz_P h l 8) 0 = ((dA dec).length : Int) → ez_W (d + 9) cm_291 334 [(0, .inr (.inr (some (770)))), (1, .inr (.inr (some (l))))] [] g Q) (k0 : (∀ dec, ¬ ((mf h 3 = mt h 3 ∧ dec = none) ∨ (mf h 3 ≠ mt h 3 ∧ ∃ cp bg vs, rz_db (mb h) (mf h 3) (mt h 3) = some (cp, bg) ∧ rz_rw (mb h) 18 bg (mt h 3) = some vs ∧ dec = some (cp, vs)))) → ∀ g τ1 A, ez_B τ1 g → (pj (lX l (qz_P h l 7) (qz_P h l 8)) τ h τ1 g A ∧ l2 (qz_P h l 7) (qz_P h l 8) g) → Q (.inr g.1, xc g 1)) : ez_W (d + 9) cm_291 189 [(0, .inr (.inr (some (770)))), (1, .inr (.inr (some (l))))] [] h Q := by
  refine ez_go (n := 2) (pc' := 191) (L' := [(0, .inr (.inr (some (770)))), (1, .inr (.inr (some (l))))]) (st' := [.inl (3), .inr (.inr (some (770)))]) rfl ?_
  refine ez_cv hB t770 rfl rfl rfl tq_75 rfl rfl rfl (rd_field hB t770 (by omega) (by omega) (fun g1 hB1 m1 a1 s1 => ez_K0 ?_))
  refine ez_go (n := 1) (pc' := 195) (L' := [(0, .inr (.inr (some (770)))), (1, .inr (.inr (some (l))))]) (st' := [.inr (.inr (some (770)))]) rfl ?_
  refine ez_gI hB1 t770 rfl rfl tq_75 rfl rfl (fun (b1 : 0 ≤ qz_I g1 770 17) (b1' : qz_I g1 770 17 ≤ 4200) => ?_)
  refine ez_go (n := 1) (pc' := 199) (L' := [(0, .inr (.inr (some (770)))), (1, .inr (.inr (some (l))))]) (st' := [.inr (.inr (some (770))), .inl (qz_I g1 770 17)]) rfl ?_
  refine ez_gI hB1 t770 rfl rfl tq_75 rfl rfl (fun (b2 : 0 ≤ qz_I g1 770 18) (b2' : qz_I g1 770 18 ≤ 4096) => ?_)
  refine ez_icmp rfl rfl ⟨by first | omega | exact (sz_i32 _).1, by first | omega | exact (sz_i32 _).2⟩ ⟨by first | omega | exact (sz_i32 _).1, by first | omega | exact (sz_i32 _).2⟩ (fun (c3 : (qz_I g1 770 18) ≤ (qz_I g1 770 17)) => ?_) (fun (c3 : ¬((qz_I g1 770 18) ≤ (qz_I g1 770 17))) => ?_)
  · skip
    refine ez_less [(0, .inr (.inr (some (770)))), (1, .inr (.inr (some (l))))] rfl ⟨rfl, rfl, trivial⟩ ?_
    refine kx g1 τ none hB1 (Or.inl ⟨by omega, rfl⟩) ⟨m1.mw.jp (lX_l _ _ _) t770 tl tpo hn, (hlg.mw m1.mw t770 tl usp ucp tpo)⟩ (fun j _ => m1.l hl.1 j) (by rw [m1.l hl.1]; exact h5) (fun w => absurd rfl w) ?_
    rw [m1.mw.I (l := l) (fun e => by rw [e, t770] at ucp; cases ucp) (fun e => by rw [e, tl] at ucp; cases ucp)]; exact hc0
  · skip
    refine ez_go (n := 2) (pc' := 207) (L' := [(0, .inr (.inr (some (770)))), (1, .inr (.inr (some (l))))]) (st' := [.inl (1), .inr (.inr (some (l)))]) rfl ?_
    refine ez_pf hB1 tl rfl rfl tq_13 rfl rfl rfl rfl (ez_vdI rfl rfl (by omega) (by omega)) (fun hB4 w5 => ?_)
    refine ez_go (n := 1) (pc' := 211) (L' := [(0, .inr (.inr (some (770)))), (1, .inr (.inr (some (l))))]) (st' := [.inr (.inr (some (770)))]) rfl ?_
    have hlt3 : mf h 3 < mt h 3 := by omega
    have M2 : mw h (dz_put g1 l 5 (ez_v (.inl (1)))) l := m1.mw.trans (mw_put hl.1)
    have a2 : qz_I (dz_put g1 l 5 (ez_v (.inl (1)))) 770 17 = mf h 3 := by rw [ez_put_I (fun w => hl.1 w.1.symm)]; exact a1
    have s2 : qz_I (dz_put g1 l 5 (ez_v (.inl (1)))) 770 18 = mt h 3 := by rw [ez_put_I (fun w => hl.1 w.1.symm)]; exact s1
    have J2 : ∀ j, j ≠ 5 → qz_I (dz_put g1 l 5 (ez_v (.inl (1)))) l j = qz_I h l j := fun j hj => by rw [ez_put_I (fun w => hj w.2)]; exact m1.l hl.1 j
    have y2 : qz_I (dz_put g1 l 5 (ez_v (.inl (1)))) l 5 = 1 := by rw [w5, rz_rd ⟨by omega, by omega⟩]
    have hB2 := hB4
    generalize (dz_put g1 l 5 (ez_v (.inl (1)))) = g2 at *
    refine ez_cv hB2 t770 rfl rfl rfl tq_75 rfl rfl rfl (rd_peek hB2 t770 (fun p1 p2 => ez_K1 ?_))
    rw [a2, s2, M2.b hl.2.1, mk_in hlt3] at p1 p2 ⊢
    refine ez_go (n := 1) (pc' := 216) (L' := [(0, .inr (.inr (some (770)))), (1, .inr (.inr (some (l))))]) (st' := [.inl (60), .inl ((mb h (mf h 3)))]) rfl ?_
    refine ez_icmp rfl rfl ⟨by first | omega | exact (sz_i32 _).1, by first | omega | exact (sz_i32 _).2⟩ ⟨by first | omega | exact (sz_i32 _).1, by first | omega | exact (sz_i32 _).2⟩ (fun (c6 : ((mb h (mf h 3))) ≠ (60)) => ?_) (fun (c6 : ¬(((mb h (mf h 3))) ≠ (60))) => ?_)
    · skip
      refine ez_less [(0, .inr (.inr (some (770)))), (1, .inr (.inr (some (l))))] rfl ⟨rfl, rfl, trivial⟩ ?_
      have hdb : rz_db (mb h) (mf h 3) (mt h 3) = some (0, mf h 3) := by unfold rz_db; rw [if_neg (by omega)]
      refine rd_points_r hB t770 tl hl usp ucp tpo h0 hn hpm hNh hr1 hr2 hlg hc0 F3 T3 hB2 M2 s2 (by omega) hdb (by omega) (by omega) ?_ J2 (by rw [y2]; rfl) kx k0
      rw [a2, show (mt h 3 - mf h 3).toNat = (mt h 3 - mf h 3 - 1).toNat + 1 by omega]
      unfold rz_skip; rw [if_neg (T3 hlt3).1]
    · skip
      refine ez_go (n := 2) (pc' := 221) (L' := [(0, .inr (.inr (some (770)))), (1, .inr (.inr (some (l))))]) (st' := [.inl (2), .inr (.inr (some (l)))]) rfl ?_
      refine ez_pf hB2 tl rfl rfl tq_13 rfl rfl rfl rfl (ez_vdI rfl rfl (by omega) (by omega)) (fun hB7 w8 => ?_)
      have a3 : qz_I (dz_put g2 l 5 (ez_v (.inl (2)))) 770 17 = mf h 3 := by rw [ez_put_I (fun w => hl.1 w.1.symm)]; exact a2
      refine ez_go (n := 2) (pc' := 226) (L' := [(0, .inr (.inr (some (770)))), (1, .inr (.inr (some (l))))]) (st' := [.inr (.inr (some (770))), .inr (.inr (some (770)))]) rfl ?_
      refine ez_gI hB7 t770 rfl rfl tq_75 rfl rfl (fun (b9 : 0 ≤ qz_I (dz_put g2 l 5 (ez_v (.inl (2)))) 770 17) (b9' : qz_I (dz_put g2 l 5 (ez_v (.inl (2)))) 770 17 ≤ 4200) => ?_)
      refine ez_go (n := 2) (pc' := 231) (L' := [(0, .inr (.inr (some (770)))), (1, .inr (.inr (some (l))))]) (st' := [.inl ((qz_I (dz_put g2 l 5 (ez_v (.inl (2)))) 770 17) + (1)), .inr (.inr (some (770)))]) rfl ?_
      refine ez_pf hB7 t770 rfl rfl tq_75 rfl rfl rfl rfl (ez_vdI rfl rfl (by omega) (by omega)) (fun hB10 w11 => ?_)
      refine ez_go (n := 2) (pc' := 237) (L' := [(5, .inl (0)), (0, .inr (.inr (some (770)))), (1, .inr (.inr (some (l))))]) (st' := []) rfl ?_
      refine ez_less [(5, .inl (0)), (0, .inr (.inr (some (770)))), (1, .inr (.inr (some (l))))] rfl ⟨rfl, rfl, rfl, trivial⟩ ?_
      have e17 : qz_I (dz_put (dz_put g2 l 5 (ez_v (.inl (2)))) 770 17 (ez_v (.inl ((qz_I (dz_put g2 l 5 (ez_v (.inl (2)))) 770 17) + (1))))) 770 17 = mf h 3 + 1 := by rw [w11, rz_rd ⟨by omega, by omega⟩, a3]
      refine rd_points_cl hB t770 tl hl usp ucp tpo h0 hn hpm hNh hr1 hr2 hlg hc0 F3 T3 (by omega) hlt3 kx k0 _ 0 _ rfl hB10 ((M2.trans (mw_put hl.1)).trans mz_put.mw) (by rw [ez_put_I (by omega), ez_put_I (fun w => hl.1 w.1.symm)]; exact s2) (fun j hj => by rw [mz_put.l hl.1, ez_put_I (fun w => hj w.2)]; exact J2 j hj) (by rw [mz_put.l hl.1, w8, rz_rd ⟨by omega, by omega⟩]) (by rw [e17]; omega) (by omega) (by rw [e17]; omega) (by rw [e17])

end EzPc
/-! The model: points, IV: the rest, and all of it. (Written by wip/p2/py/pv61.py.) -/
theorem rz_code_e0 {b : Int → Int} {s t : Int} (e : s = t) : rz_code b s t = -1 := by
  unfold rz_code
  rw [if_pos (Or.inl (by omega))]
section EzPd
variable {d : Nat} {h : cz_H} {τ : Nat → Nat} {Q : cz_F → Prop} {l : Nat}
theorem rd_points_d (hB : ez_B τ h) (t770 : τ 770 = 75) (tl : τ l = 13) (hl : lz l) (hr1 : h.1 + 1 ≤ 600192) (hr2 : h.2.1 + 6 ≤ 7302232) (hF : ∀ k, 0 ≤ k → k < 7 → (0 ≤ mf h k ∧ mf h k ≤ mt h k) ∧ mt h k ≤ 4096) (hfl : qz_I h l 1 ≤ qz_I h l 2) (h5 : qz_I h l 5 = 0 ↔ mf h 3 = mt h 3) (kx : ∀ g, ez_B τ g → mw h g l → (∀ j, j ≠ 9 → j ≠ 10 → j ≠ 11 → qz_I g l j = qz_I h l j) → ((∀ k, 4 ≤ k → k ≤ 6 → mf h k = mt h k ∨ rz_code (mb h) (mf h k) (mt h k) ≠ -1) ∧ (qz_I h l 1 < qz_I h l 2 → ∀ k, 3 ≤ k → k ≤ 6 → mf h k = mt h k)) → (qz_I g l 9 = rz_code (mb h) (mf h 4) (mt h 4) ∧ qz_I g l 10 = rz_code (mb h) (mf h 5) (mt h 5) ∧ qz_I g l 11 = rz_code (mb h) (mf h 6) (mt h 6)) → Q (.inl none, g)) (k0 : ¬ ((∀ k, 4 ≤ k → k ≤ 6 → mf h k = mt h k ∨ rz_code (mb h) (mf h k) (mt h k) ≠ -1) ∧ (qz_I h l 1 < qz_I h l 2 → ∀ k, 3 ≤ k → k ≤ 6 → mf h k = mt h k)) → ∀ g, ez_B τ g → mw h g l → Q (.inr g.1, xc g 1)) : ez_W (d + 9) cm_291 334 [(0, .inr (.inr (some (770)))), (1, .inr (.inr (some (l))))] [] h Q := by
  refine ez_go (n := 3) (pc' := 337) (L' := [(0, .inr (.inr (some (770)))), (1, .inr (.inr (some (l))))]) (st' := [.inl (4), .inr (.inr (some (770))), .inr (.inr (some (l)))]) rfl ?_
  have F4 := hF 4 (by omega) (by omega)
  have F5 := hF 5 (by omega) (by omega)
  have F6 := hF 6 (by omega) (by omega)
  have N0 := mw.refl h l
  refine ez_cv hB t770 rfl rfl rfl tq_75 rfl rfl rfl (rd_optional hB t770 (by omega) (by omega) (by omega) (by omega) (by rw [N0.f hl.2.2.1, N0.t hl.2.2.2]; omega) (by rw [N0.t hl.2.2.2]; omega) (by rw [N0.f hl.2.2.1]; omega) (fun v1 o1 g1 hB1 m1 => ez_K1 ?_) (fun w1 w2 g1 hB1 m1 => ez_Kp (xc_exc hB1 rfl) rfl (k0 (fun w => ?_) g1 hB1 (N0.trans m1.mw))))
  · rw [N0.f hl.2.2.1, N0.t hl.2.2.2, N0.b hl.2.1] at o1
    have vb1 := rz_code_bd (mb h) (mf h 4) (mt h 4)
    have Mq1 : mw h g1 l := N0.trans m1.mw
    have uq1a : (g1).1 = h.1 := Mq1.1.1
    have uq1b : (g1).2.1 = h.2.1 := Mq1.1.2.1
    refine ez_pf hB1 tl rfl rfl tq_13 rfl rfl rfl rfl (ez_vdI rfl rfl (by omega) (by omega)) (fun hB1 w2 => ?_)
    have N1 : mw h (dz_put g1 l 9 (ez_v (.inl (v1)))) l := Mq1.trans (mw_put hl.1)
    have j1 : ∀ j, j ≠ 9 → qz_I (dz_put g1 l 9 (ez_v (.inl (v1)))) l j = qz_I h l j := fun j hj => by rw [ez_put_I (fun w => hj w.2)]; exact m1.l hl.1 j
    have x1 : qz_I (dz_put g1 l 9 (ez_v (.inl (v1)))) l 9 = v1 := by rw [w2, rz_rd ⟨by omega, by omega⟩]
    have un1a : ((dz_put g1 l 9 (ez_v (.inl (v1))))).1 = h.1 := N1.1.1
    have un1b : ((dz_put g1 l 9 (ez_v (.inl (v1))))).2.1 = h.2.1 := N1.1.2.1
    have hG1 := hB1
    generalize (dz_put g1 l 9 (ez_v (.inl (v1)))) = G1 at *
    refine ez_go (n := 3) (pc' := 346) (L' := [(0, .inr (.inr (some (770)))), (1, .inr (.inr (some (l))))]) (st' := [.inl (5), .inr (.inr (some (770))), .inr (.inr (some (l)))]) rfl ?_
    refine ez_cv hG1 t770 rfl rfl rfl tq_75 rfl rfl rfl (rd_optional hG1 t770 (by omega) (by omega) (by omega) (by omega) (by rw [N1.f hl.2.2.1, N1.t hl.2.2.2]; omega) (by rw [N1.t hl.2.2.2]; omega) (by rw [N1.f hl.2.2.1]; omega) (fun v2 o2 g2 hB2 m2 => ez_K1 ?_) (fun w1 w2 g2 hB2 m2 => ez_Kp (xc_exc hB2 rfl) rfl (k0 (fun w => ?_) g2 hB2 (N1.trans m2.mw))))
    · rw [N1.f hl.2.2.1, N1.t hl.2.2.2, N1.b hl.2.1] at o2
      have vb2 := rz_code_bd (mb h) (mf h 5) (mt h 5)
      have Mq2 : mw h g2 l := N1.trans m2.mw
      have uq2a : (g2).1 = h.1 := Mq2.1.1
      have uq2b : (g2).2.1 = h.2.1 := Mq2.1.2.1
      refine ez_pf hB2 tl rfl rfl tq_13 rfl rfl rfl rfl (ez_vdI rfl rfl (by omega) (by omega)) (fun hB3 w4 => ?_)
      have N2 : mw h (dz_put g2 l 10 (ez_v (.inl (v2)))) l := Mq2.trans (mw_put hl.1)
      have j2 : ∀ j, j ≠ 10 → qz_I (dz_put g2 l 10 (ez_v (.inl (v2)))) l j = qz_I G1 l j := fun j hj => by rw [ez_put_I (fun w => hj w.2)]; exact m2.l hl.1 j
      have x2 : qz_I (dz_put g2 l 10 (ez_v (.inl (v2)))) l 10 = v2 := by rw [w4, rz_rd ⟨by omega, by omega⟩]
      have un2a : ((dz_put g2 l 10 (ez_v (.inl (v2))))).1 = h.1 := N2.1.1
      have un2b : ((dz_put g2 l 10 (ez_v (.inl (v2))))).2.1 = h.2.1 := N2.1.2.1
      have hG2 := hB3
      generalize (dz_put g2 l 10 (ez_v (.inl (v2)))) = G2 at *
      refine ez_go (n := 3) (pc' := 356) (L' := [(0, .inr (.inr (some (770)))), (1, .inr (.inr (some (l))))]) (st' := [.inl (6), .inr (.inr (some (770))), .inr (.inr (some (l)))]) rfl ?_
      refine ez_cv hG2 t770 rfl rfl rfl tq_75 rfl rfl rfl (rd_optional hG2 t770 (by omega) (by omega) (by omega) (by omega) (by rw [N2.f hl.2.2.1, N2.t hl.2.2.2]; omega) (by rw [N2.t hl.2.2.2]; omega) (by rw [N2.f hl.2.2.1]; omega) (fun v3 o3 g3 hB3 m3 => ez_K1 ?_) (fun w1 w2 g3 hB3 m3 => ez_Kp (xc_exc hB3 rfl) rfl (k0 (fun w => ?_) g3 hB3 (N2.trans m3.mw))))
      · rw [N2.f hl.2.2.1, N2.t hl.2.2.2, N2.b hl.2.1] at o3
        have vb3 := rz_code_bd (mb h) (mf h 6) (mt h 6)
        have Mq3 : mw h g3 l := N2.trans m3.mw
        have uq3a : (g3).1 = h.1 := Mq3.1.1
        have uq3b : (g3).2.1 = h.2.1 := Mq3.1.2.1
        refine ez_pf hB3 tl rfl rfl tq_13 rfl rfl rfl rfl (ez_vdI rfl rfl (by omega) (by omega)) (fun hB5 w6 => ?_)
        have N3 : mw h (dz_put g3 l 11 (ez_v (.inl (v3)))) l := Mq3.trans (mw_put hl.1)
        have j3 : ∀ j, j ≠ 11 → qz_I (dz_put g3 l 11 (ez_v (.inl (v3)))) l j = qz_I G2 l j := fun j hj => by rw [ez_put_I (fun w => hj w.2)]; exact m3.l hl.1 j
        have x3 : qz_I (dz_put g3 l 11 (ez_v (.inl (v3)))) l 11 = v3 := by rw [w6, rz_rd ⟨by omega, by omega⟩]
        have un3a : ((dz_put g3 l 11 (ez_v (.inl (v3))))).1 = h.1 := N3.1.1
        have un3b : ((dz_put g3 l 11 (ez_v (.inl (v3))))).2.1 = h.2.1 := N3.1.2.1
        have hG3 := hB5
        generalize (dz_put g3 l 11 (ez_v (.inl (v3)))) = G3 at *
        have y1 : qz_I G3 l 1 = qz_I h l 1 := by rw [j3 _ (by decide), j2 _ (by decide), j1 _ (by decide)]
        have y2 : qz_I G3 l 2 = qz_I h l 2 := by rw [j3 _ (by decide), j2 _ (by decide), j1 _ (by decide)]
        have y5 : qz_I G3 l 5 = qz_I h l 5 := by rw [j3 _ (by decide), j2 _ (by decide), j1 _ (by decide)]
        have y9 : qz_I G3 l 9 = v1 := by rw [j3 _ (by decide), j2 _ (by decide)]; exact x1
        have y10 : qz_I G3 l 10 = v2 := by rw [j3 _ (by decide)]; exact x2
        refine ez_go (n := 2) (pc' := 364) (L' := [(0, .inr (.inr (some (770)))), (1, .inr (.inr (some (l))))]) (st' := [.inr (.inr (some (l))), .inr (.inr (some (770)))]) rfl ?_
        refine ez_gI hG3 tl rfl rfl tq_13 rfl rfl (fun (b7 : -2147483648 ≤ qz_I G3 l 1) (b7' : qz_I G3 l 1 ≤ 2147483647) => ?_)
        refine ez_go (n := 1) (pc' := 368) (L' := [(0, .inr (.inr (some (770)))), (1, .inr (.inr (some (l))))]) (st' := [.inr (.inr (some (l))), .inl (qz_I G3 l 1), .inr (.inr (some (770)))]) rfl ?_
        refine ez_gI hG3 tl rfl rfl tq_13 rfl rfl (fun (b8 : -2147483648 ≤ qz_I G3 l 2) (b8' : qz_I G3 l 2 ≤ 2147483647) => ?_)
        refine ez_icmp rfl rfl ⟨by first | omega | exact (sz_i32 _).1, by first | omega | exact (sz_i32 _).2⟩ ⟨by first | omega | exact (sz_i32 _).1, by first | omega | exact (sz_i32 _).2⟩ (fun (c9 : (qz_I G3 l 1) = (qz_I G3 l 2)) => ?_) (fun (c9 : ¬((qz_I G3 l 1) = (qz_I G3 l 2))) => ?_)
        · skip
          refine ez_go (n := 2) (pc' := 407) (L' := [(0, .inr (.inr (some (770)))), (1, .inr (.inr (some (l))))]) (st' := [.inl (1), .inr (.inr (some (770)))]) rfl ?_
          refine ez_cv hG3 t770 rfl rfl rfl tq_75 rfl rfl rfl (rd_can1 (by omega) (by omega) (ez_K0 ?_))
          refine ez_ret0 rfl rfl (kx G3 hG3 N3 (fun j q1 q2 q3 => by rw [j3 j q3, j2 j q2, j1 j q1]) ⟨fun k q1 q2 => ?_, fun q k q1 q2 => ?_⟩ ⟨?_, ?_, ?_⟩)
          · rcases (show k = 4 ∨ k = 5 ∨ k = 6 by omega) with e | e | e <;> rw [e] <;> omega
          · have z3 : mf h 3 = mt h 3 := h5.mp (by omega)
            rcases (show k = 3 ∨ k = 4 ∨ k = 5 ∨ k = 6 by omega) with e | e | e | e <;> rw [e] <;> omega
          · rw [y9]; rcases o1 with w | w; (· rw [w.2, rz_code_e0 w.1]); (· exact w.2.1)
          · rw [y10]; rcases o2 with w | w; (· rw [w.2, rz_code_e0 w.1]); (· exact w.2.1)
          · rw [x3]; rcases o3 with w | w; (· rw [w.2, rz_code_e0 w.1]); (· exact w.2.1)
        · skip
          refine ez_go (n := 1) (pc' := 375) (L' := [(0, .inr (.inr (some (770)))), (1, .inr (.inr (some (l))))]) (st' := [.inr (.inr (some (l))), .inr (.inr (some (770)))]) rfl ?_
          refine ez_gI hG3 tl rfl rfl tq_13 rfl rfl (fun (b10 : -2147483648 ≤ qz_I G3 l 5) (b10' : qz_I G3 l 5 ≤ 2147483647) => ?_)
          refine ez_if rfl rfl ⟨by first | omega | exact (sz_i32 _).1, by first | omega | exact (sz_i32 _).2⟩ (fun (c11 : (qz_I G3 l 5) ≠ (0)) => ?_) (fun (c11 : ¬((qz_I G3 l 5) ≠ (0))) => ?_)
          · skip
            refine ez_go (n := 1) (pc' := 407) (L' := [(0, .inr (.inr (some (770)))), (1, .inr (.inr (some (l))))]) (st' := [.inl (0), .inr (.inr (some (770)))]) rfl ?_
            refine ez_cv hG3 t770 rfl rfl rfl tq_75 rfl rfl rfl (rd_can0 (by omega) (by omega) (ez_Kp (xc_exc hG3 rfl) rfl (k0 (fun w => ?_) G3 hG3 N3)))
            have w2 := w.2 (by omega)
            have z3 := w2 3 (by omega) (by omega); have z4 := w2 4 (by omega) (by omega); have z5 := w2 5 (by omega) (by omega); have z6 := w2 6 (by omega) (by omega)
            have z7 := h5.mpr z3; omega
          · skip
            refine ez_go (n := 1) (pc' := 382) (L' := [(0, .inr (.inr (some (770)))), (1, .inr (.inr (some (l))))]) (st' := [.inr (.inr (some (l))), .inr (.inr (some (770)))]) rfl ?_
            refine ez_gI hG3 tl rfl rfl tq_13 rfl rfl (fun (b12 : -2147483648 ≤ qz_I G3 l 9) (b12' : qz_I G3 l 9 ≤ 2147483647) => ?_)
            refine ez_if rfl rfl ⟨by first | omega | exact (sz_i32 _).1, by first | omega | exact (sz_i32 _).2⟩ (fun (c13 : (0) ≤ (qz_I G3 l 9)) => ?_) (fun (c13 : ¬((0) ≤ (qz_I G3 l 9))) => ?_)
            · skip
              refine ez_go (n := 1) (pc' := 407) (L' := [(0, .inr (.inr (some (770)))), (1, .inr (.inr (some (l))))]) (st' := [.inl (0), .inr (.inr (some (770)))]) rfl ?_
              refine ez_cv hG3 t770 rfl rfl rfl tq_75 rfl rfl rfl (rd_can0 (by omega) (by omega) (ez_Kp (xc_exc hG3 rfl) rfl (k0 (fun w => ?_) G3 hG3 N3)))
              have w2 := w.2 (by omega)
              have z3 := w2 3 (by omega) (by omega); have z4 := w2 4 (by omega) (by omega); have z5 := w2 5 (by omega) (by omega); have z6 := w2 6 (by omega) (by omega)
              have z7 := h5.mpr z3; omega
            · skip
              refine ez_go (n := 1) (pc' := 389) (L' := [(0, .inr (.inr (some (770)))), (1, .inr (.inr (some (l))))]) (st' := [.inr (.inr (some (l))), .inr (.inr (some (770)))]) rfl ?_
              refine ez_gI hG3 tl rfl rfl tq_13 rfl rfl (fun (b14 : -2147483648 ≤ qz_I G3 l 10) (b14' : qz_I G3 l 10 ≤ 2147483647) => ?_)
              refine ez_if rfl rfl ⟨by first | omega | exact (sz_i32 _).1, by first | omega | exact (sz_i32 _).2⟩ (fun (c15 : (0) ≤ (qz_I G3 l 10)) => ?_) (fun (c15 : ¬((0) ≤ (qz_I G3 l 10))) => ?_)
              · skip
                refine ez_go (n := 1) (pc' := 407) (L' := [(0, .inr (.inr (some (770)))), (1, .inr (.inr (some (l))))]) (st' := [.inl (0), .inr (.inr (some (770)))]) rfl ?_
                refine ez_cv hG3 t770 rfl rfl rfl tq_75 rfl rfl rfl (rd_can0 (by omega) (by omega) (ez_Kp (xc_exc hG3 rfl) rfl (k0 (fun w => ?_) G3 hG3 N3)))
                have w2 := w.2 (by omega)
                have z3 := w2 3 (by omega) (by omega); have z4 := w2 4 (by omega) (by omega); have z5 := w2 5 (by omega) (by omega); have z6 := w2 6 (by omega) (by omega)
                have z7 := h5.mpr z3; omega
              · skip
                refine ez_go (n := 1) (pc' := 396) (L' := [(0, .inr (.inr (some (770)))), (1, .inr (.inr (some (l))))]) (st' := [.inr (.inr (some (l))), .inr (.inr (some (770)))]) rfl ?_
                refine ez_gI hG3 tl rfl rfl tq_13 rfl rfl (fun (b16 : -2147483648 ≤ qz_I G3 l 11) (b16' : qz_I G3 l 11 ≤ 2147483647) => ?_)
                refine ez_if rfl rfl ⟨by first | omega | exact (sz_i32 _).1, by first | omega | exact (sz_i32 _).2⟩ (fun (c17 : (0) ≤ (qz_I G3 l 11)) => ?_) (fun (c17 : ¬((0) ≤ (qz_I G3 l 11))) => ?_)
                · skip
                  refine ez_go (n := 1) (pc' := 407) (L' := [(0, .inr (.inr (some (770)))), (1, .inr (.inr (some (l))))]) (st' := [.inl (0), .inr (.inr (some (770)))]) rfl ?_
                  refine ez_cv hG3 t770 rfl rfl rfl tq_75 rfl rfl rfl (rd_can0 (by omega) (by omega) (ez_Kp (xc_exc hG3 rfl) rfl (k0 (fun w => ?_) G3 hG3 N3)))
                  have w2 := w.2 (by omega)
                  have z3 := w2 3 (by omega) (by omega); have z4 := w2 4 (by omega) (by omega); have z5 := w2 5 (by omega) (by omega); have z6 := w2 6 (by omega) (by omega)
                  have z7 := h5.mpr z3; omega
                · skip
                  refine ez_go (n := 2) (pc' := 407) (L' := [(0, .inr (.inr (some (770)))), (1, .inr (.inr (some (l))))]) (st' := [.inl (1), .inr (.inr (some (770)))]) rfl ?_
                  refine ez_cv hG3 t770 rfl rfl rfl tq_75 rfl rfl rfl (rd_can1 (by omega) (by omega) (ez_K0 ?_))
                  refine ez_ret0 rfl rfl (kx G3 hG3 N3 (fun j q1 q2 q3 => by rw [j3 j q3, j2 j q2, j1 j q1]) ⟨fun k q1 q2 => ?_, fun q k q1 q2 => ?_⟩ ⟨?_, ?_, ?_⟩)
                  · rcases (show k = 4 ∨ k = 5 ∨ k = 6 by omega) with e | e | e <;> rw [e] <;> omega
                  · have z3 : mf h 3 = mt h 3 := h5.mp (by omega)
                    rcases (show k = 3 ∨ k = 4 ∨ k = 5 ∨ k = 6 by omega) with e | e | e | e <;> rw [e] <;> omega
                  · rw [y9]; rcases o1 with w | w; (· rw [w.2, rz_code_e0 w.1]); (· exact w.2.1)
                  · rw [y10]; rcases o2 with w | w; (· rw [w.2, rz_code_e0 w.1]); (· exact w.2.1)
                  · rw [x3]; rcases o3 with w | w; (· rw [w.2, rz_code_e0 w.1]); (· exact w.2.1)
      · rw [N2.f hl.2.2.1, N2.t hl.2.2.2, N2.b hl.2.1] at w2; rw [N2.f hl.2.2.1, N2.t hl.2.2.2] at w1; have := w.1 6 (by omega) (by omega); omega
    · rw [N1.f hl.2.2.1, N1.t hl.2.2.2, N1.b hl.2.1] at w2; rw [N1.f hl.2.2.1, N1.t hl.2.2.2] at w1; have := w.1 5 (by omega) (by omega); omega
  · rw [N0.f hl.2.2.1, N0.t hl.2.2.2, N0.b hl.2.1] at w2; rw [N0.f hl.2.2.1, N0.t hl.2.2.2] at w1; have := w.1 4 (by omega) (by omega); omega

theorem pj.f {τ τ1 : Nat → Nat} {h g : cz_H} {sp cp : Nat} {A : List Int} (a : pj (lX l sp cp) τ h τ1 g A) (tpo : τ (po h) = 17) (tsp : τ sp = 15) (tcp : τ cp = 16) (tl : τ l = 13) {q t : Nat} (tq : τ q = t) (ht : (Nat.blt 17 t && Nat.ble t 82) = true) (h7 : q ≠ 770) : g.2.2 q = h.2.2 q := by
  have t17 : ∀ p, τ p ≤ 17 → q ≠ p := fun p hp e => by
    rw [Bool.and_eq_true] at ht
    have := Nat.le_of_ble_eq_true ht.1
    rw [← e, tq] at hp; omega
  refine (a.1 q (by rw [tq]; intro e; rw [e] at ht; cases ht)).2 h7 (t17 _ (by rw [tpo]; omega)) ?_
  unfold lX
  rw [dz_beq_ne (t17 l (by rw [tl]; omega)), dz_beq_ne (t17 sp (by rw [tsp]; omega)), dz_beq_ne (t17 cp (by rw [tcp]; omega))]; rfl
theorem ez_t789 (hB : ez_B τ h) (t770 : τ 770 = 75) : τ 789 = 80 := by
  have b : 790 ≤ qz_I h 770 19 ∧ qz_I h 770 19 ≤ 790 := ez_fB (cl := 11) hB t770 tq_75 rfl rfl (by decide)
  exact (ez_old (cl := 11) (k := 19) hB t770 tq_75 rfl rfl (by decide) (show qz_I h 770 19 = ((789 : Nat) : Int) + 1 by omega)).1
theorem ez_t790 (hB : ez_B τ h) (t770 : τ 770 = 75) : τ 790 = 81 := by
  have b : 791 ≤ qz_I h 770 20 ∧ qz_I h 770 20 ≤ 791 := ez_fB (cl := 11) hB t770 tq_75 rfl rfl (by decide)
  exact (ez_old (cl := 11) (k := 20) hB t770 tq_75 rfl rfl (by decide) (show qz_I h 770 20 = ((790 : Nat) : Int) + 1 by omega)).1
theorem pool_le {τ : Nat → Nat} {h : cz_H} (hB : ez_B τ h) (t : τ (po h) = 17) : qz_N h (po h) ≤ 77100 := (ez_len hB t tq_17 rfl).2
theorem rz_db_c2 {b : Int → Int} {s t cp bg : Int} (h : rz_db b s t = some (cp, bg)) : cp = 0 ∨ cp = 1 := by
  unfold rz_db at h
  split at h
  · split at h
    · cases h
    · cases h; exact Or.inr rfl
  · cases h; exact Or.inl rfl
theorem rd_points (hB : ez_B τ h) (t770 : τ 770 = 75) (tl : τ l = 13) (hl : lz l) (usp : τ (qz_P h l 7) = 15) (ucp : τ (qz_P h l 8) = 16) (tpo : τ (po h) = 17) (h0 : 0 ≤ pn h) (hn : pn h ≤ qz_N h (po h)) (hpm : pn h + 18 ≤ 38400) (hNh : 1024 ≤ qz_N h (po h)) (hr1 : h.1 + 100 ≤ 600192) (hr2 : h.2.1 + 240000 ≤ 7302232) (hlg : l2 (qz_P h l 7) (qz_P h l 8) h) (hc0 : qz_I h (qz_P h l 8) 0 = 0) (T3 : mf h 3 < mt h 3 → ¬ bk (mb h (mf h 3)) ∧ ¬ bk (mb h (mt h 3 - 1))) (hF : ∀ k, 0 ≤ k → k < 7 → (0 ≤ mf h k ∧ mf h k ≤ mt h k) ∧ mt h k ≤ 4096) (h4 : qz_I h l 4 = 0) (h5 : qz_I h l 5 = 0) (k1 : ∀ first last cls dec, rz_F (mb h) (mf h) (mt h) first last cls dec → ∀ g τ1, ez_B τ1 g → (pj (lX l (qz_P h l 7) (qz_P h l 8)) τ h τ1 g (dA dec) ∧ l2 (qz_P h l 7) (qz_P h l 8) g) → qz_I g l 1 = first → qz_I g l 2 = last → qz_I g l 4 = cls → qz_I g l 5 = dT dec → (dec ≠ none → qz_I g (qz_P h l 7) 0 = pn h) → qz_I g (qz_P h l 8) 0 = ((dA dec).length : Int) → (qz_I g l 3 = mb h (mf h 1) * 256 + mb h (mf h 1 + 1) ∧ qz_I g l 9 = rz_code (mb h) (mf h 4) (mt h 4) ∧ qz_I g l 10 = rz_code (mb h) (mf h 5) (mt h 5) ∧ qz_I g l 11 = rz_code (mb h) (mf h 6) (mt h 6)) → (∀ j, j ≠ 1 → j ≠ 2 → j ≠ 3 → j ≠ 4 → j ≠ 5 → j ≠ 9 → j ≠ 10 → j ≠ 11 → qz_I g l j = qz_I h l j) → Q (.inl none, g)) (k0 : (∀ first last cls dec, ¬ rz_F (mb h) (mf h) (mt h) first last cls dec) → ∀ g τ1 A, ez_B τ1 g → (pj (lX l (qz_P h l 7) (qz_P h l 8)) τ h τ1 g A ∧ l2 (qz_P h l 7) (qz_P h l 8) g) → Q (.inr g.1, xc g 1)) : ez_W (d + 9) cm_291 0 [(0, .inr (.inr (some (770)))), (1, .inr (.inr (some (l))))] [] h Q := by
  have n7 : po h ≠ 770 := fun e => by rw [e, t770] at tpo; cases tpo
  have nl : po h ≠ l := fun e => by rw [e, tl] at tpo; cases tpo
  have ns7 : qz_P h l 7 ≠ 770 := fun e => by rw [e, t770] at usp; cases usp
  have nsl : qz_P h l 7 ≠ l := fun e => by rw [e, tl] at usp; cases usp
  have nc7 : qz_P h l 8 ≠ 770 := fun e => by rw [e, t770] at ucp; cases ucp
  have ncl : qz_P h l 8 ≠ l := fun e => by rw [e, tl] at ucp; cases ucp
  refine rd_points_a hB t770 tl hl (by omega) (by omega) hF (fun g1 hB1 m1 x1 x2 x3 x4 hca x5 J1 => ?_) (fun hno g1 hB1 m1 => k0 (fun first last cls dec w => hno ⟨⟨by rw [← w.1.1]; exact w.1.2.2.1, by rw [← w.1.1, ← w.1.2.1]; exact w.1.2.2.2⟩, w.2.1⟩) g1 τ [] hB1 ⟨m1.jp (lX_l _ _ _) t770 tl tpo hn, hlg.mw m1 t770 tl usp ucp tpo⟩)
  have ef1 := m1.f hl.2.2.1; have et1 := m1.t hl.2.2.2; have eb1 := m1.b hl.2.1
  have c1a := m1.1.1; have c1b := m1.1.2.1
  refine rd_points_b hB1 t770 tl hl (by omega) (by omega) (by intro k q1 q2; rw [ef1, et1]; exact hF k q1 q2) (by rw [J1 4 (by decide) (by decide) (by decide)]; exact h4) (fun g2 cls hB2 m2 hcl y4 J2 => ?_) (fun hno g2 hB2 m2 => k0 (fun first last cls dec w => hno cls (by rw [ef1, et1, eb1]; exact w.2.2.1)) g2 τ [] hB2 ⟨(m1.trans m2).jp (lX_l _ _ _) t770 tl tpo hn, hlg.mw (m1.trans m2) t770 tl usp ucp tpo⟩)
  rw [ef1, et1, eb1] at hcl
  have M2 := m1.trans m2
  have ef2 := M2.f hl.2.2.1; have et2 := M2.t hl.2.2.2; have eb2 := M2.b hl.2.1
  have c2a := M2.1.1; have c2b := M2.1.2.1
  have j2 : ∀ j, j ≠ 1 → j ≠ 2 → j ≠ 3 → j ≠ 4 → qz_I g2 l j = qz_I h l j := fun j q1 q2 q3 q4 => by rw [J2 j q4, J1 j q1 q2 q3]
  have e7 : qz_P g2 l 7 = qz_P h l 7 := by unfold qz_P; rw [j2 7 (by decide) (by decide) (by decide) (by decide)]
  have e8 : qz_P g2 l 8 = qz_P h l 8 := by unfold qz_P; rw [j2 8 (by decide) (by decide) (by decide) (by decide)]
  have eN : qz_N g2 (po h) = qz_N h (po h) := M2.N n7 nl
  have F3 := hF 3 (by omega) (by omega)
  refine rd_points_c hB2 t770 tl hl (by rw [e7]; exact usp) (by rw [e8]; exact ucp) (by rw [M2.epo]; exact tpo) (by rw [M2.epn]; exact h0) (by rw [M2.epn, M2.epo, eN]; exact hn) (by rw [M2.epn]; exact hpm) (by rw [M2.epo, eN]; exact hNh) (by omega) (by omega) (by rw [e7, e8]; exact hlg.mw M2 t770 tl usp ucp tpo) (by rw [e8, M2.I nc7 ncl]; exact hc0) (by rw [ef2, et2]; exact F3) (by rw [ef2, et2, eb2]; exact T3) (by rw [j2 5 (by decide) (by decide) (by decide) (by decide)]; exact h5) (fun g3 τ3 dec hB3 hdec p3 J3 y5 s3 n3 => ?_) (fun hno g3 τ3 A hB3 p3 => k0 (fun first last cls dec w => hno dec (by rw [ef2, et2, eb2]; exact w.2.2.2.1)) g3 τ3 _ hB3 (by rw [e7, e8] at p3; exact ⟨(M2.jp (lX_l _ _ _) t770 tl tpo hn).trans p3.1 h0, p3.2⟩))
  rw [e7, e8] at p3
  obtain ⟨p3, q3⟩ := p3
  rw [e7] at s3
  rw [e8] at n3
  rw [ef2, et2, eb2] at hdec
  have P3 := (M2.jp (lX_l l (qz_P h l 7) (qz_P h l 8)) t770 tl tpo hn).trans p3 h0
  rw [List.nil_append] at P3
  have t3 : ∀ q t, τ q = t → t ≠ 0 → τ3 q = t := fun q t q1 q2 => by rw [(P3.1 q (by rw [q1]; exact q2)).1]; exact q1
  have u770 := t3 _ _ t770 (by decide)
  have u_l := t3 _ _ tl (by decide)
  have t771 := ez_t771 hB t770
  have t789 : τ 789 = 80 := ez_t789 hB t770
  have t790 : τ 790 = 81 := ez_t790 hB t770
  have g789 : g3.2.2 789 = h.2.2 789 := P3.f tpo usp ucp tl t789 rfl (by decide)
  have g790 : g3.2.2 790 = h.2.2 790 := P3.f tpo usp ucp tl t790 rfl (by decide)
  have g771 : g3.2.2 771 = h.2.2 771 := P3.f tpo usp ucp tl t771 rfl (by decide)
  have ef3 : ∀ k, mf g3 k = mf h k := fun k => by unfold mf qz_I; rw [g789]
  have et3 : ∀ k, mt g3 k = mt h k := fun k => by unfold mt qz_I; rw [g790]
  have eb3 : mb g3 = mb h := funext fun k => by unfold mb qz_I; rw [g771]
  have u_s := t3 _ _ usp (by decide)
  have u_c := t3 _ _ ucp (by decide)
  have r1 := P3.2.2.2.2.2.2.2.2.1
  have r2 := pool_le hB3 P3.2.2.1
  have z1 : qz_I g3 l 1 = rz_first (mb h) (mf h 0) (mt h 0) := by rw [J3 1 (by decide), J2 1 (by decide)]; exact x1
  have z2 : qz_I g3 l 2 = rz_last (mb h) (mf h 0) (mt h 0) := by rw [J3 2 (by decide), J2 2 (by decide)]; exact x2
  have z4 : qz_I g3 l 4 = cls := by rw [J3 4 (by decide)]; exact y4
  have z5 : qz_I g3 l 5 = 0 ↔ mf h 3 = mt h 3 := by
    rw [y5]
    rcases hdec with ⟨w1, w2⟩ | ⟨w1, cp, bg, vs, w2, w3, w4⟩
    · rw [w2]; exact ⟨fun _ => w1, fun _ => rfl⟩
    · rw [w4]
      have := rz_db_c2 w2
      show cp + 1 = 0 ↔ _
      exact ⟨fun q => by omega, fun q => absurd q w1⟩
  refine rd_points_d hB3 u770 u_l hl (by omega) (by omega) (by intro k q1 q2; rw [ef3, et3]; exact hF k q1 q2) (by rw [z1, z2]; exact x4) (by rw [ef3, et3]; exact z5) (fun g4 hB4 m4 J4 hok hul => ?_) (fun hno g4 hB4 m4 => k0 (fun first last cls' dec' w => hno ?_) g4 τ3 _ hB4 ⟨P3.trans (m4.jp (lX_l _ _ _) u770 u_l P3.2.2.1 P3.2.2.2.2.2.2.2.1.1) h0, q3.mw m4 u770 u_l u_s u_c P3.2.2.1⟩)
  · simp only [ef3, et3, eb3, z1, z2] at hok
    simp only [ef3, et3, eb3] at hul
    have P4 := P3.trans (m4.jp (lX_l l (qz_P h l 7) (qz_P h l 8)) u770 u_l P3.2.2.1 P3.2.2.2.2.2.2.2.1.1) h0
    rw [List.append_nil] at P4
    refine k1 _ _ cls dec ⟨⟨rfl, rfl, x3, x4⟩, hca, hcl, hdec, hok.1, hok.2⟩ g4 τ3 hB4 ⟨P4, q3.mw m4 u770 u_l u_s u_c P3.2.2.1⟩ ?_ ?_ ?_ ?_ ?_ ?_ ⟨?_, hul⟩ ?_
    · rw [J4 1 (by decide) (by decide) (by decide)]; exact z1
    · rw [J4 2 (by decide) (by decide) (by decide)]; exact z2
    · rw [J4 4 (by decide) (by decide) (by decide)]; exact z4
    · rw [J4 5 (by decide) (by decide) (by decide)]; exact y5
    · intro w; rw [m4.I (fun e => by rw [e, u770] at u_s; cases u_s) (fun e => by rw [e, u_l] at u_s; cases u_s)]; rw [s3 w]; exact M2.epn
    · rw [m4.I (fun e => by rw [e, u770] at u_c; cases u_c) (fun e => by rw [e, u_l] at u_c; cases u_c)]; exact n3
    · rw [J4 3 (by decide) (by decide) (by decide), J3 3 (by decide), J2 3 (by decide)]; exact x5
    · intro j q1 q2 q3 q4 q5 q9 q10 q11
      rw [J4 j q9 q10 q11, J3 j q5]; exact j2 j q1 q2 q3 q4
  · simp only [ef3, et3, eb3, z1, z2]
    exact ⟨w.2.2.2.2.1, fun q => w.2.2.2.2.2 (by rw [w.1.1, w.1.2.1]; exact q)⟩

end EzPd
/-! L3, part 8: bytes: put into arrays, copied, cloned. -/
theorem i8_fix {v : Int} (h0 : -128 ≤ v) (h1 : v ≤ 127) : (Int32.ofInt v).toInt8.toInt32 = Int32.ofInt v := by
  apply Int32.toInt_inj.mp
  have e : (Int32.ofInt v).toInt = v := dz_toInt_i (by omega) (by omega)
  rw [Int8.toInt_toInt32, Int32.toInt_toInt8, e]
  unfold Int.bmod
  simp only []
  split <;> omega
theorem i8_bd (x : Int32) : -128 ≤ x.toInt8.toInt32.toInt ∧ x.toInt8.toInt32.toInt ≤ 127 := by
  rw [Int8.toInt_toInt32]
  exact ⟨Int8.le_toInt _, Int8.toInt_le _⟩
section EzBy
variable {d : Nat} {M : cz_M} {pc : Nat} {L : List (Nat × ez_V)} {st : List ez_V} {h : cz_H} {Q : cz_F → Prop} {τ : Nat → Nat}
theorem ez_vd8 {r tg : Nat} {v : Int} (h0 : -128 ≤ v) (h1 : v ≤ 127) : dz_vd τ r (4, -128, 127, 0, 0) (ez_v (.inl v)) := by
  have e : (Int32.ofInt v).toInt = v := dz_toInt_i (by omega) (by omega)
  refine ⟨?_, Or.inr ?_, Or.inr (fun p hp => (by cases hp)), ez_m40⟩
  · show decide ((Int32.ofInt v).toInt8.toInt32 = Int32.ofInt v) = true
    rw [i8_fix h0 h1]; exact decide_eq_true rfl
  · show -128 ≤ (Int32.ofInt v).toInt ∧ (Int32.ofInt v).toInt ≤ 127
    rw [e]; exact ⟨h0, h1⟩
theorem ez_vdB {r tg : Nat} {lo hi v : Int} (h0 : -128 ≤ v) (h1 : v ≤ 127) (h2 : lo ≤ v) (h3 : v ≤ hi) : dz_vd τ r (4, lo, hi, tg, 0) (ez_v (.inl v)) := by
  have e : (Int32.ofInt v).toInt = v := dz_toInt_i (by omega) (by omega)
  refine ⟨?_, Or.inr ?_, Or.inr (fun p hp => (by cases hp)), ez_m40⟩
  · show decide ((Int32.ofInt v).toInt8.toInt32 = Int32.ofInt v) = true
    rw [i8_fix h0 h1]; exact decide_eq_true rfl
  · show lo ≤ (Int32.ofInt v).toInt ∧ (Int32.ofInt v).toInt ≤ hi
    rw [e]; exact ⟨h2, h3⟩
theorem ez_ab {r t : Nat} {ti : dz_I} {i v : Int} (hB : ez_B τ h) (hτ : τ r = t) (hc : cz_code M pc = some (.bastore, 1)) (hti : tz_T t = some ti) (hD : dz_nth ti.2.2.2.2 0 = some (4, -128, 127, 0, 0)) (hb : ((Nat.beq ti.1 1 && Nat.blt ti.2.1 11) && (Nat.beq ti.2.1 0 && (Nat.beq ti.2.2.1 1 && dz_ile ti.2.2.2.1.2 2147483647))) = true) (h0 : 0 ≤ i) (h1 : i < qz_N h r) (v0 : -128 ≤ v) (v1 : v ≤ 127) (kk : ez_B τ (dz_put h r i.toNat (ez_v (.inl v))) → qz_I (dz_put h r i.toNat (ez_v (.inl v))) r i.toNat = dz_n (ez_v (.inl v)) → ez_W d M (pc + 1) L st (dz_put h r i.toNat (ez_v (.inl v))) Q) : ez_W d M pc L (.inl v :: .inl i :: .inr (.inr (some r)) :: st) h Q := by
  rw [Bool.and_eq_true] at hb
  obtain ⟨b0, b1⟩ := hb
  simp only [Bool.and_eq_true] at b1
  obtain ⟨b1, b2, b3⟩ := b1
  have b3 := dz_ile_ok b3
  obtain ⟨n, f, o1, o2, o3, o4, o5, o6⟩ := ez_arr hB hτ hti b0 hD
  rw [o3] at h1 o4
  have hi : i.toNat < n := by omega
  obtain ⟨g1, g2⟩ := o6 _ hi
  have hr : 192 ≤ r := by
    rcases o5 with w | w
    · rw [w] at b2; cases b2
    · exact w
  have b0' := b0
  rw [Bool.and_eq_true] at b0'
  have e0 := Nat.eq_of_beq_eq_true b0'.1
  have hds : dz_ds ti i.toNat = some (4, -128, 127, 0, 0) := by unfold dz_ds; rw [e0]; exact hD
  obtain ⟨x1, x2⟩ := ez_ix h0 h1 (by omega)
  have kk := kk (ez_Bput hB (by rw [hτ]; exact hti) g1 hds (ez_vd8 (tg := 0) v0 v1)) (qz_put_I0 g1)
  refine dz_wp_hp (q := (pc + 1, st.map ez_v, dz_put h r i.toNat (ez_v (.inl v)))) hc rfl rfl rfl rfl rfl ?_ kk
  show (match cz_arr h r with
      | some c => bif Nat.beq c.1 0 then cz_astore pc (st.map ez_v) h (Int32.ofInt i) r (.inl (Int32.ofInt v).toInt8.toInt32) (fun t => Nat.beq t 0)
        else bif decide (Int32.ofInt v = 0) || decide (Int32.ofInt v = 1) then cz_astore pc (st.map ez_v) h (Int32.ofInt i) r (.inl (Int32.ofInt v)) (fun t => Nat.beq t 3) else none
      | none => none) = _
  rw [o1]
  simp only [b1, cond_true]
  rw [i8_fix v0 v1]
  unfold cz_astore
  simp only [o1, x1, b1, Nat.ble_eq.mpr hr, Bool.and_self, cond_true]
  show some (pc + 1, st.map ez_v, cz_setc h r (.inl (ti.2.1, n, fun j => if j = (Int32.ofInt i).toInt.toNat then ez_v (.inl v) else f j))) = some (pc + 1, st.map ez_v, cz_setc h r (dz_set (h.2.2 r) i.toNat (ez_v (.inl v))))
  rw [o2, x2]
  rfl
/-- n bytes of one array put into another, one by one -/
theorem cpy_B {r1 r2 n1 n2 : Nat} {f1 f2 : Nat → cz_V} (hB : ez_B τ h) (t1 : τ r1 = 31) (t2 : τ r2 = 31) (hne : r1 ≠ r2) (o1 : h.2.2 r1 = .inl (0, n1, f1)) (o2 : h.2.2 r2 = .inl (0, n2, f2)) : ∀ n, n ≤ n1 → n ≤ n2 → ez_B τ (cz_setc h r2 (.inl (0, n2, va_cpy f1 f2 0 0 n)))
  | 0, _, _ => by
    have e : cz_setc h r2 (.inl (0, n2, va_cpy f1 f2 0 0 0)) = h := by
      have : va_cpy f1 f2 0 0 0 = f2 := funext fun k => by unfold va_cpy; rw [if_neg (by omega)]
      rw [this]
      unfold cz_setc
      have : (fun q => if q = r2 then (Sum.inl (0, n2, f2) : cz_C) else h.2.2 q) = h.2.2 := funext fun q => by split; (· rename_i w; rw [w, o2]); (· rfl)
      rw [this]
    rw [e]; exact hB
  | n + 1, h1, h2 => by
    have ih := cpy_B hB t1 t2 hne o1 o2 n (by omega) (by omega)
    have e : cz_setc h r2 (.inl (0, n2, va_cpy f1 f2 0 0 (n + 1))) = dz_put (cz_setc h r2 (.inl (0, n2, va_cpy f1 f2 0 0 n))) r2 n (f1 n) := by
      unfold dz_put cz_setc dz_set
      simp only [if_true]
      congr 2
      funext q
      split
      · congr 3
        funext j
        unfold va_cpy
        by_cases e : j = n
        · rw [if_pos e, if_pos (by omega), e]; congr 1; omega
        · rw [if_neg e]
          by_cases e2 : j < n
          · rw [if_pos (by omega), if_pos (by omega)]
          · rw [if_neg (by omega), if_neg (by omega)]
      · rfl
    rw [e]
    have hg : dz_get ((cz_setc h r2 (.inl (0, n2, va_cpy f1 f2 0 0 n))).2.2 r2) n = some (va_cpy f1 f2 0 0 n n) := by
      show dz_get (if r2 = r2 then _ else _) n = _
      rw [if_pos rfl]
      show (if n < n2 then _ else _) = _
      rw [if_pos (by omega)]
    refine ez_Bput ih (by rw [t2]; exact tq_31) hg rfl ?_
    obtain ⟨m, g, q1, q2, q3, q4, q5, q6⟩ := ez_arr hB t1 tq_31 rfl rfl
    rw [o1] at q2
    cases q2
    have w := (q6 n (by omega)).2
    exact ⟨w.1, w.2.1, w.2.2.1, ez_m40⟩
theorem ez_cpy {r1 r2 x y1 y2 y3 : Nat} {n : Int} (hB : ez_B τ h) (t1 : τ r1 = 31) (t2 : τ r2 = 31) (hne : r1 ≠ r2) (hc : cz_code M pc = some (.invokestatic x, 3)) (hth : cz_throw M pc (.invokestatic x) = none) (hq : cz_lk M x = some (13, y1, y2, y3)) (hst : Nat.ble st.length 20 = true) (h0 : 0 ≤ n) (h1 : n ≤ qz_N h r1) (h2 : n ≤ qz_N h r2) (kk : ∀ g, ez_B τ g → ez_fr (ez_one r2) h g → qz_N g r2 = qz_N h r2 → (∀ j : Nat, (j : Int) < n → qz_I g r2 j = qz_I h r1 j) → (∀ j : Nat, n ≤ (j : Int) → qz_I g r2 j = qz_I h r2 j) → ez_W (d + 1) M (pc + 3) L st g Q) : ez_W (d + 1) M pc L (.inl n :: .inl 0 :: .inr (.inr (some r2)) :: .inl 0 :: .inr (.inr (some r1)) :: st) h Q := by
  obtain ⟨n1, f1, a1, a2, a3, a4, a5, a6⟩ := ez_arr hB t1 tq_31 rfl rfl
  obtain ⟨n2, f2, c1, c2, c3, c4, c5, c6⟩ := ez_arr hB t2 tq_31 rfl rfl
  have a2 : h.2.2 r1 = .inl (0, n1, f1) := a2
  have c2 : h.2.2 r2 = .inl (0, n2, f2) := c2
  have hr : 192 ≤ r2 := by
    rcases c5 with w | w
    · cases w
    · exact w
  rw [a3] at h1; rw [c3] at h2
  have a4' : (n1 : Int) ≤ 200000 := by rw [← a3]; exact a4.2
  have en : (Int32.ofInt n).toInt = n := dz_toInt_i (by omega) (by omega)
  have en2 : (Int32.ofInt n).toNatClampNeg = n.toNat := by unfold Int32.toNatClampNeg; rw [en]
  have z2 : (Int32.ofInt 0).toNatClampNeg = 0 := by decide
  have b := cpy_B hB t1 t2 hne a2 c2 n.toNat (by omega) (by omega)
  have gI : ∀ j, qz_I (cz_setc h r2 (.inl (0, n2, va_cpy f1 f2 0 0 n.toNat))) r2 j = if j < n2 then dz_n (va_cpy f1 f2 0 0 n.toNat j) else 0 := fun j => by
    have e0 : (cz_setc h r2 (.inl (0, n2, va_cpy f1 f2 0 0 n.toNat))).2.2 r2 = .inl (0, n2, va_cpy f1 f2 0 0 n.toNat) := if_pos rfl
    unfold qz_I
    rw [e0]
    unfold dz_get
    by_cases e : j < n2
    · simp only [if_pos e]
    · simp only [if_neg e]
  have hI : ∀ (r m : Nat) (f : Nat → cz_V) (j : Nat), h.2.2 r = .inl (0, m, f) → qz_I h r j = if j < m then dz_n (f j) else 0 := fun r m f j e => by
    unfold qz_I
    rw [e]
    unfold dz_get
    by_cases e : j < m
    · simp only [if_pos e]
    · simp only [if_neg e]
  have kk := kk _ b ⟨rfl, rfl, fun q hq => by show (if q = r2 then _ else _) = _; rw [if_neg (fun e => by rw [e] at hq; unfold ez_one at hq; rw [Nat.beq_refl] at hq; cases hq)]⟩ (by rw [c3]; unfold qz_N; rw [show (cz_setc h r2 (.inl (0, n2, va_cpy f1 f2 0 0 n.toNat))).2.2 r2 = .inl (0, n2, va_cpy f1 f2 0 0 n.toNat) from if_pos rfl]) (fun j hj => by
      rw [gI j, hI r1 n1 f1 j a2, if_pos (by omega), if_pos (by omega)]; unfold va_cpy; rw [if_pos (by omega)]; congr 2; omega) (fun j hj => by
      rw [gI j, hI r2 n2 f2 j c2]
      have e9 : va_cpy f1 f2 0 0 n.toNat j = f2 j := by unfold va_cpy; exact if_neg (by omega)
      rw [e9])
  have hall : (List.range n.toNat).all (fun i => cz_fitc 4 (f1 (0 + i))) = true := by
    rw [List.all_eq_true]
    intro i hi
    rw [List.mem_range] at hi
    rw [Nat.zero_add]
    exact (a6 i (by omega)).2.1
  refine dz_wp_hp (q := (pc + 3, st.map ez_v, cz_setc h r2 (.inl (0, n2, va_cpy f1 f2 0 0 n.toNat)))) hc rfl rfl rfl rfl hth ?_ kk
  have key : cz_hcpy M (d + 1) x pc (.inl (Int32.ofInt n) :: .inl (Int32.ofInt 0) :: .inr (.inr (some r2)) :: .inl (Int32.ofInt 0) :: .inr (.inr (some r1)) :: st.map ez_v) h = some (pc + 3, st.map ez_v, cz_setc h r2 (.inl (0, n2, va_cpy f1 f2 0 0 n.toNat))) := by
    unfold cz_hcpy
    simp only [hq, a1, c1]
    rw [en2, z2, en]
    have hcond : ((Nat.beq 13 13 && (Nat.blt 0 (d + 1) && Nat.ble (st.map ez_v).length 20))) = true := by
      rw [List.length_map, hst]; rfl
    rw [hcond]
    show (bif ((Nat.beq 0 0 && Nat.ble 0 1 && Nat.ble 192 r2) && (decide (0 ≤ n) && decide ((0 : Int) ≤ (Int32.ofInt 0).toInt) && decide ((0 : Int) ≤ (Int32.ofInt 0).toInt)) && (Nat.ble (0 + n.toNat) n1 && Nat.ble (0 + n.toNat) n2) && (List.range n.toNat).all (fun i => cz_fitc (bif Nat.beq 0 0 then 4 else 0) (f1 (0 + i)))) then _ else none) = _
    have h5 : (List.range n.toNat).all (fun i => cz_fitc (bif Nat.beq 0 0 then 4 else 0) (f1 (0 + i))) = true := hall
    rw [h5, Nat.ble_eq.mpr hr, decide_eq_true h0, Nat.ble_eq.mpr (show 0 + n.toNat ≤ n1 by omega), Nat.ble_eq.mpr (show 0 + n.toNat ≤ n2 by omega)]
    rfl
  show (match cz_hcpy M (d + 1) x pc (.inl (Int32.ofInt n) :: .inl (Int32.ofInt 0) :: .inr (.inr (some r2)) :: .inl (Int32.ofInt 0) :: .inr (.inr (some r1)) :: st.map ez_v) h with
      | some q => some q
      | none => cz_hci M (d + 1) x pc (.inl (Int32.ofInt n) :: .inl (Int32.ofInt 0) :: .inr (.inr (some r2)) :: .inl (Int32.ofInt 0) :: .inr (.inr (some r1)) :: st.map ez_v) h) = _
  rw [key]
/-- an array of bytes, cloned -/
theorem ez_cln {r x y1 y2 y3 : Nat} (hB : ez_B τ h) (t1 : τ r = 31) (hc : cz_code M pc = some (.invokevirtual x, 3)) (hq : cz_lk M x = some (19, y1, y2, y3)) (hst : Nat.ble st.length 20 = true) (h1 : h.1 + 1 ≤ 600192) (h2 : (h.2.1 : Int) + qz_N h r ≤ 7302232) (kk : ∀ g τ1 p, ez_B τ1 g → ez_xt τ h τ1 g 1 (qz_N h r).toNat → (∀ q, q ≠ p → τ1 q = τ q) → τ1 p = 31 → τ p = 0 → p = h.1 → qz_N g p = qz_N h r → (∀ j, qz_I g p j = qz_I h r j) → ez_W (d + 1) M (pc + 3) L (.inr (.inr (some p)) :: st) g Q) : ez_W (d + 1) M pc L (.inr (.inr (some r)) :: st) h Q := by
  obtain ⟨n, f, a1, a2, a3, a4, a5, a6⟩ := ez_arr hB t1 tq_31 rfl rfl
  have a2 : h.2.2 r = .inl (0, n, f) := a2
  have a4' : (n : Int) ≤ 200000 := by rw [← a3]; exact a4.2
  rw [a3] at h2
  have nb := ez_newB (h := h) (k := 0) (c := 4) (n := (n : Int)) hB tq_31 rfl rfl rfl rfl rfl (by omega) (by show (0 : Int) ≤ _; omega) (by show _ ≤ (200000 : Int); omega) h1 (by omega)
  obtain ⟨x1, x2, x3, r1⟩ := nb
  rw [show ((n : Int)).toNat = n by omega] at x1 x2 x3 r1
  have hrn : r ≠ h.1 := fun e => by have := ez_fresh hB; rw [← e, t1] at this; cases this
  have cell : (cz_setc (cz_push h n (.inl (0, n, fun _ => .inl 0))) h.1 (.inl (0, n, f))).2.2 h.1 = .inl (0, n, f) := if_pos rfl
  have cellp : (cz_push h n (.inl (0, n, fun _ => .inl 0))).2.2 h.1 = .inl (0, n, fun _ => .inl 0) := if_pos rfl
  have other : ∀ q, q ≠ h.1 → (cz_setc (cz_push h n (.inl (0, n, fun _ => .inl 0))) h.1 (.inl (0, n, f))).2.2 q = h.2.2 q := fun q hq => by
    show (if q = h.1 then _ else (if q = h.1 then _ else _)) = _
    rw [if_neg hq, if_neg hq]
  have hG : ez_B (dz_tn τ h.1 31) (cz_setc (cz_push h n (.inl (0, n, fun _ => .inl 0))) h.1 (.inl (0, n, f))) := by
    refine ⟨fun q hq => ?_, x1.2.1, x1.2.2⟩
    obtain ⟨h1, ti', h2, h3, h4, h5⟩ := x1.1 q hq
    refine ⟨h1, ti', h2, ?_, h4, ?_⟩
    · by_cases e : q = h.1
      · rw [e, cell]; rw [e] at h3
        exact dz_sh_al (c := (cz_push h n (.inl (0, n, fun _ => .inl 0))).2.2 h.1) (by rw [cellp]; rfl) h3
      · rw [other q e]
        have : (cz_push h n (.inl (0, n, fun _ => .inl 0))).2.2 q = h.2.2 q := if_neg e
        have h3 := h3
        rw [← this]; exact h3
    · intro j w hw
      by_cases e : q = h.1
      · rw [e, cell] at hw
        have hw : (if j < n then some (f j) else none) = some w := hw
        by_cases ej : j < n
        · rw [if_pos ej] at hw
          cases hw
          rw [e, ez_tn_eq] at h2
          rw [tq_31] at h2
          cases h2
          have v := (a6 j ej).2
          refine ⟨(4, -128, 127, 0, 0), rfl, v.1, v.2.1, Or.inr (fun p hp => ?_), ez_m40⟩
          rcases v.2.2.1 with u | u
          · cases u
          · exact absurd rfl (u p hp).2
        · rw [if_neg ej] at hw; cases hw
      · rw [other q e] at hw
        have e2 : (cz_push h n (.inl (0, n, fun _ => .inl 0))).2.2 q = h.2.2 q := if_neg e
        exact h5 j w (show dz_get ((cz_push h n (.inl (0, n, fun _ => .inl 0))).2.2 q) j = some w by rw [e2]; exact hw)
  have xt := (ez_tn_xt (h := h) (τ := τ) hB (t := 31) (n := n) (c := .inl (0, n, fun _ => .inl 0)))
  have kk := kk _ _ h.1 hG ⟨fun q hq => ⟨(xt.1.1 q hq).1, ?_⟩, by rw [a3]; exact xt.1.2⟩ xt.2.1 xt.2.2.1 (ez_fresh hB) rfl (by rw [a3]; unfold qz_N; rw [cell]) (fun j => by unfold qz_I; rw [cell, a2])
  · refine dz_wp_hp (q := (pc + 3, ez_v (.inr (.inr (some h.1))) :: st.map ez_v, cz_setc (cz_push h n (.inl (0, n, fun _ => .inl 0))) h.1 (.inl (0, n, f)))) hc rfl rfl rfl rfl rfl ?_ kk
    show cz_hcl M (d + 1) x pc (.inr (.inr (some r)) :: st.map ez_v) h = _
    unfold cz_hcl
    have hall : (List.range n).all (fun i => cz_fitc 4 (f i)) = true := by
      rw [List.all_eq_true]
      intro i hi
      rw [List.mem_range] at hi
      exact (a6 i hi).2.1
    simp only [hq, a1]
    have hcond : ((Nat.beq 19 19 && (Nat.blt 0 (d + 1) && Nat.ble (st.map ez_v).length 20))) = true := by
      rw [List.length_map, hst]; rfl
    have hroom : cz_room h 1 n = true := by unfold cz_room; rw [Nat.ble_eq.mpr (show h.1 + 1 ≤ 600192 by omega), Nat.ble_eq.mpr (show h.2.1 + n ≤ 7302232 by omega)]; rfl
    rw [hcond]
    have hr : Nat.ble 192 r = true := by
      rcases a5 with w | w
      · cases w
      · exact Nat.ble_eq.mpr w
    show (bif (Nat.beq 0 0 && Nat.ble 192 r) && cz_room h 1 n && (List.range n).all (fun i => cz_fitc 4 (f i)) then _ else none) = _
    rw [hroom, hall, hr]
    rfl
  · exact other q (fun e => by rw [e] at hq; exact hq (ez_fresh hB))
/-- a cast of it -/
theorem ez_cc {r x y1 y2 y3 : Nat} (hB : ez_B τ h) (t1 : τ r = 31) (hc : cz_code M pc = some (.checkcast x, 3)) (hq : cz_lk M x = some (17, y1, y2, y3)) (kk : ez_W d M (pc + 3) L (.inr (.inr (some r)) :: st) h Q) : ez_W d M pc L (.inr (.inr (some r)) :: st) h Q := by
  obtain ⟨n, f, a1, a2, a3, a4, a5, a6⟩ := ez_arr hB t1 tq_31 rfl rfl
  refine dz_wp_hp (q := (pc + 3, ez_v (.inr (.inr (some r))) :: st.map ez_v, h)) hc rfl rfl rfl rfl rfl ?_ kk
  have hr : Nat.ble 192 r = true := by
    rcases a5 with w | w
    · cases w
    · exact Nat.ble_eq.mpr w
  show cz_hcc M x pc (.inr (.inr (some r)) :: st.map ez_v) h = _
  unfold cz_hcc
  simp only [hq, a1, hr]
  rfl
end EzBy
section EzCu
variable {d : Nat} {M M' : cz_M} {pc x y n : Nat} {L : List (Nat × ez_V)} {stk ws rest : List ez_V} {h : cz_H} {Q : cz_F → Prop} {τ : Nat → Nat}
/-- a method of the class above -/
theorem ez_cu (hB : ez_B τ h) {r t c : Nat} {ti : dz_I} (hτ : τ r = t) (hc : cz_code M pc = some (.invokespecial x, 3)) (hq : cz_lk M x = some (20, y, n, c)) (ht : ez_take n stk = some (ws, .inr (.inr (some r)) :: rest)) (hti : tz_T t = some ti) (hk : (Nat.beq ti.1 0 && Nat.beq ti.2.1 c) = true) (hM : cz_pg.1[y]? = some M') (hb : (Nat.ble (ez_cat rest + (M'.2.1.2.1 + 11)) 100 && Nat.ble (ez_cat (.inr (.inr (some r)) :: ws.reverse)) M'.2.1.2.1) = true) (k : ez_W d M' 0 (ez_argl 0 (.inr (.inr (some r)) :: ws.reverse)) [] h (ez_K (d + 1) M pc L rest Q)) : ez_W (d + 1) M pc L stk h Q := by
  refine dz_wp_call (as := ((.inr (.inr (some r)) : ez_V) :: ws.reverse).map ez_v) (rest := rest.map ez_v) hc rfl rfl rfl rfl rfl ?_ ?_ hM (ez_cnd hB.2.1 hb) ?_
  · show cz_hobj M (d + 1) x pc (stk.map ez_v) h = none
    unfold cz_hobj
    split
    · rw [hq]; rfl
    · rfl
  · show (match cz_cI x M (stk.map ez_v) with
      | some v => some v
      | none => cz_cU x M (stk.map ez_v) h) = _
    have h1 : cz_cI x M (stk.map ez_v) = none := by
      unfold cz_cI
      simp only [hq]
      rfl
    have ho : ∃ vs, cz_obj h r = some (c, vs) := by
      subst hτ
      simp only [Bool.and_eq_true] at hk
      have e0 := Nat.eq_of_beq_eq_true hk.1
      have e1 := Nat.eq_of_beq_eq_true hk.2
      obtain ⟨vs, o1, -⟩ := dz_obj_at hB (ez_t0 hti (by rw [e0]; rfl)) hti hk.1
      rw [e1] at o1
      exact ⟨vs, o1⟩
    obtain ⟨vs, ho⟩ := ho
    rw [h1]
    unfold cz_cU
    simp only [hq, ez_take_eq ht, cond_true, show Nat.beq 20 20 = true from rfl, List.map_cons, ez_v, ho, Nat.beq_refl, List.map_reverse]
  · rw [ez_argl_eq]
    exact k
end EzCu
/-! The StringBuilder, I: capacity. (Written by wip/p2/py/pv62.py.) -/
theorem i8_id {v : Int} (h0 : -128 ≤ v) (h1 : v ≤ 127) : (Int32.ofInt v).toInt8.toInt32.toInt = v := by rw [i8_fix h0 h1]; exact dz_toInt_i (by omega) (by omega)
theorem nz_shl {n c : Int} (hc : c = 0) (h0 : 0 ≤ n) (h1 : n ≤ 2147483647) : (Int32.ofInt n <<< (Int32.ofInt c &&& 31)).toInt = n := by
  rw [hc, show (Int32.ofInt 0 &&& 31 : Int32) = 0 by decide]
  have : Int32.ofInt n <<< (0 : Int32) = Int32.ofInt n := Int32.shiftLeft_zero
  rw [this]; exact dz_toInt_i (by omega) (by omega)
section EzSb
variable {d : Nat} {h : cz_H} {τ : Nat → Nat} {Q : cz_F → Prop} {b : Nat}
theorem rd_max {a c : Int} (a0 : -2147483648 ≤ a) (a1 : a ≤ 2147483647) (c0 : -2147483648 ≤ c) (c1 : c ≤ 2147483647) (k : ∀ v, a ≤ v → c ≤ v → (v = a ∨ v = c) → Q (.inl (some (ez_v (.inl v))), h)) : ez_W d cm_321 0 [(0, .inl (a)), (1, .inl (c))] [] h Q := by
  refine ez_go (n := 2) (pc' := 2) (L' := [(0, .inl (a)), (1, .inl (c))]) (st' := [.inl (c), .inl (a)]) rfl ?_
  refine ez_icmp rfl rfl ⟨by first | omega | exact (sz_i32 _).1, by first | omega | exact (sz_i32 _).2⟩ ⟨by first | omega | exact (sz_i32 _).1, by first | omega | exact (sz_i32 _).2⟩ (fun (c1 : (a) < (c)) => ?_) (fun (c1 : ¬((a) < (c))) => ?_)
  · skip
    refine ez_go (n := 1) (pc' := 10) (L' := [(0, .inl (a)), (1, .inl (c))]) (st' := [.inl (c)]) rfl ?_
    exact ez_retI rfl rfl (k _ (by omega) (by omega) (by omega))
  · skip
    refine ez_go (n := 2) (pc' := 10) (L' := [(0, .inl (a)), (1, .inl (c))]) (st' := [.inl (a)]) rfl ?_
    exact ez_retI rfl rfl (k _ (by omega) (by omega) (by omega))

theorem rd_min {a c : Int} (a0 : -2147483648 ≤ a) (a1 : a ≤ 2147483647) (c0 : -2147483648 ≤ c) (c1 : c ≤ 2147483647) (k : ∀ v, v ≤ a → v ≤ c → (v = a ∨ v = c) → Q (.inl (some (ez_v (.inl v))), h)) : ez_W d cm_322 0 [(0, .inl (a)), (1, .inl (c))] [] h Q := by
  refine ez_go (n := 2) (pc' := 2) (L' := [(0, .inl (a)), (1, .inl (c))]) (st' := [.inl (c), .inl (a)]) rfl ?_
  refine ez_icmp rfl rfl ⟨by first | omega | exact (sz_i32 _).1, by first | omega | exact (sz_i32 _).2⟩ ⟨by first | omega | exact (sz_i32 _).1, by first | omega | exact (sz_i32 _).2⟩ (fun (c1 : (c) < (a)) => ?_) (fun (c1 : ¬((c) < (a))) => ?_)
  · skip
    refine ez_go (n := 1) (pc' := 10) (L' := [(0, .inl (a)), (1, .inl (c))]) (st' := [.inl (c)]) rfl ?_
    exact ez_retI rfl rfl (k _ (by omega) (by omega) (by omega))
  · skip
    refine ez_go (n := 2) (pc' := 10) (L' := [(0, .inl (a)), (1, .inl (c))]) (st' := [.inl (a)]) rfl ?_
    exact ez_retI rfl rfl (k _ (by omega) (by omega) (by omega))

theorem rd_newLength {o m p : Int} (hB : ez_B τ h) (o0 : 0 ≤ o) (o1 : o ≤ 300000) (m0 : 0 < m) (m1 : m ≤ p) (p1 : p ≤ 300002) (k : ∀ v, v = o + p → Q (.inl (some (ez_v (.inl v))), h)) : ez_W (d + 1) cm_339 0 [(0, .inl (o)), (1, .inl (m)), (2, .inl (p))] [] h Q := by
  refine ez_go (n := 3) (pc' := 3) (L' := [(0, .inl (o)), (1, .inl (m)), (2, .inl (p))]) (st' := [.inl (p), .inl (m), .inl (o)]) rfl ?_
  refine ez_cs hB.2.1 rfl rfl rfl rfl rfl (rd_max (by omega) (by omega) (by omega) (by omega) (fun v v1 v2 v3 => ez_K1 ?_))
  refine ez_go (n := 4) (pc' := 10) (L' := [(3, .inl ((o) + (v))), (0, .inl (o)), (1, .inl (m)), (2, .inl (p))]) (st' := [.inl ((o) + (v)), .inl (0)]) rfl ?_
  refine ez_icmp rfl rfl ⟨by first | omega | exact (sz_i32 _).1, by first | omega | exact (sz_i32 _).2⟩ ⟨by first | omega | exact (sz_i32 _).1, by first | omega | exact (sz_i32 _).2⟩ (fun (c1 : ((o) + (v)) ≤ (0)) => ?_) (fun (c1 : ¬(((o) + (v)) ≤ (0))) => ?_)
  · exfalso; omega
  · skip
    refine ez_go (n := 1) (pc' := 14) (L' := [(3, .inl ((o) + (v))), (0, .inl (o)), (1, .inl (m)), (2, .inl (p))]) (st' := [.inl ((o) + (v))]) rfl ?_
    refine ez_ldc (2147483639) rfl rfl rfl ?_
    refine ez_icmp rfl rfl ⟨by first | omega | exact (sz_i32 _).1, by first | omega | exact (sz_i32 _).2⟩ ⟨by first | omega | exact (sz_i32 _).1, by first | omega | exact (sz_i32 _).2⟩ (fun (c2 : (2147483639) < ((o) + (v))) => ?_) (fun (c2 : ¬((2147483639) < ((o) + (v)))) => ?_)
    · exfalso; omega
    · skip
      refine ez_go (n := 1) (pc' := 20) (L' := [(3, .inl ((o) + (v))), (0, .inl (o)), (1, .inl (m)), (2, .inl (p))]) (st' := [.inl ((o) + (v))]) rfl ?_
      exact ez_retI rfl rfl (k _ (by omega))

theorem rd_newCapacity {m : Int} (hB : ez_B τ h) (tb : τ b = 30) (hc : (qz_N h (qz_P h b 0)) ≤ 10000) (m0 : (qz_N h (qz_P h b 0)) < m) (m1 : m ≤ (qz_N h (qz_P h b 0)) + 2) (k : ∀ v, v = 2 * (qz_N h (qz_P h b 0)) + 2 → Q (.inl (some (ez_v (.inl v))), h)) : ez_W (d + 2) cm_320 0 [(0, .inr (.inr (some (b)))), (1, .inl (m))] [] h Q := by
  refine ez_go (n := 1) (pc' := 1) (L' := [(0, .inr (.inr (some (b)))), (1, .inl (m))]) (st' := [.inr (.inr (some (b)))]) rfl ?_
  refine ez_gR hB tb rfl rfl tq_30 rfl rfl (fun (t1 : _ = 31) (t1' : 1 ≤ qz_I h b 0) => ?_)
  refine ez_al hB t1 rfl tq_31 rfl (fun (b2 : 0 ≤ qz_N h (qz_P h b 0)) (b2' : qz_N h (qz_P h b 0) ≤ 200000) => ?_)
  refine ez_go (n := 3) (pc' := 8) (L' := [(2, .inl (qz_N h (qz_P h b 0))), (0, .inr (.inr (some (b)))), (1, .inl (m))]) (st' := [.inr (.inr (some (b))), .inl (m)]) rfl ?_
  refine ez_gI hB tb rfl rfl tq_30 rfl rfl (fun (b3 : 0 ≤ qz_I h b 1) (b3' : qz_I h b 1 ≤ 0) => ?_)
  rw [show qz_I h b 1 = 0 by omega]
  refine ez_go (n := 1) (pc' := 12) (L' := [(2, .inl (qz_N h (qz_P h b 0))), (0, .inr (.inr (some (b)))), (1, .inl (m))]) (st' := [.inl ((Int32.ofInt (m) <<< (Int32.ofInt (0) &&& 31)).toInt)]) rfl ?_
  rw [nz_shl rfl (by omega) (by omega)]
  refine ez_go (n := 10) (pc' := 24) (L' := [(4, .inl ((m) - (qz_N h (qz_P h b 0)))), (3, .inl (m)), (2, .inl (qz_N h (qz_P h b 0))), (0, .inr (.inr (some (b)))), (1, .inl (m))]) (st' := [.inr (.inr (some (b))), .inl (2), .inl (qz_N h (qz_P h b 0)), .inl ((m) - (qz_N h (qz_P h b 0))), .inl (qz_N h (qz_P h b 0))]) rfl ?_
  refine ez_gI hB tb rfl rfl tq_30 rfl rfl (fun (b4 : 0 ≤ qz_I h b 1) (b4' : qz_I h b 1 ≤ 0) => ?_)
  rw [show qz_I h b 1 = 0 by omega]
  refine ez_go (n := 1) (pc' := 28) (L' := [(4, .inl ((m) - (qz_N h (qz_P h b 0)))), (3, .inl (m)), (2, .inl (qz_N h (qz_P h b 0))), (0, .inr (.inr (some (b)))), (1, .inl (m))]) (st' := [.inl ((Int32.ofInt (2) <<< (Int32.ofInt (0) &&& 31)).toInt), .inl (qz_N h (qz_P h b 0)), .inl ((m) - (qz_N h (qz_P h b 0))), .inl (qz_N h (qz_P h b 0))]) rfl ?_
  rw [nz_shl rfl (by omega) (by omega)]
  refine ez_go (n := 1) (pc' := 29) (L' := [(4, .inl ((m) - (qz_N h (qz_P h b 0)))), (3, .inl (m)), (2, .inl (qz_N h (qz_P h b 0))), (0, .inr (.inr (some (b)))), (1, .inl (m))]) (st' := [.inl ((qz_N h (qz_P h b 0)) + (2)), .inl ((m) - (qz_N h (qz_P h b 0))), .inl (qz_N h (qz_P h b 0))]) rfl ?_
  refine ez_cs hB.2.1 rfl rfl rfl rfl rfl (rd_newLength hB (by omega) (by omega) (by omega) (by omega) (by omega) (fun v hv => ez_K1 ?_))
  refine ez_go (n := 2) (pc' := 36) (L' := [(5, .inl (v)), (4, .inl ((m) - (qz_N h (qz_P h b 0)))), (3, .inl (m)), (2, .inl (qz_N h (qz_P h b 0))), (0, .inr (.inr (some (b)))), (1, .inl (m))]) (st' := [.inl (v)]) rfl ?_
  refine ez_ldc (2147483647) rfl rfl rfl ?_
  refine ez_icmp rfl rfl ⟨by first | omega | exact (sz_i32 _).1, by first | omega | exact (sz_i32 _).2⟩ ⟨by first | omega | exact (sz_i32 _).1, by first | omega | exact (sz_i32 _).2⟩ (fun (c5 : (v) ≠ (2147483647)) => ?_) (fun (c5 : ¬((v) ≠ (2147483647))) => ?_)
  · skip
    refine ez_go (n := 2) (pc' := 54) (L' := [(5, .inl (v)), (4, .inl ((m) - (qz_N h (qz_P h b 0)))), (3, .inl (m)), (2, .inl (qz_N h (qz_P h b 0))), (0, .inr (.inr (some (b)))), (1, .inl (m))]) (st' := [.inr (.inr (some (b))), .inl (v)]) rfl ?_
    refine ez_gI hB tb rfl rfl tq_30 rfl rfl (fun (b6 : 0 ≤ qz_I h b 1) (b6' : qz_I h b 1 ≤ 0) => ?_)
    rw [show qz_I h b 1 = 0 by omega]
    refine ez_go (n := 1) (pc' := 58) (L' := [(5, .inl (v)), (4, .inl ((m) - (qz_N h (qz_P h b 0)))), (3, .inl (m)), (2, .inl (qz_N h (qz_P h b 0))), (0, .inr (.inr (some (b)))), (1, .inl (m))]) (st' := [.inl ((Int32.ofInt (v) >>> (Int32.ofInt (0) &&& 31)).toInt)]) rfl ?_
    rw [nz_sh rfl (by omega) (by omega)]
    exact ez_retI rfl rfl (k _ (by omega))
  · exfalso; omega

end EzSb
/-! The StringBuilder, II: copies, room for one more. (Written by wip/p2/py/pv63.py.) -/
section EzSc
variable {d : Nat} {h : cz_H} {τ : Nat → Nat} {Q : cz_F → Prop} {a b : Nat}
theorem rd_copyOf {n : Int} (hB : ez_B τ h) (ta : τ a = 31) (n0 : qz_N h a < n) (n1 : n ≤ 100000) (hr1 : h.1 + 1 ≤ 600192) (hr2 : (h.2.1 : Int) + n ≤ 7302232) (kx : ∀ g τ1 p, ez_B τ1 g → ez_xt τ h τ1 g 1 (n).toNat → (∀ q, q ≠ p → τ1 q = τ q) → τ1 p = 31 → τ p = 0 → p = h.1 → qz_N g p = n → (∀ j : Nat, (j : Int) < qz_N h a → qz_I g p j = qz_I h a j) → Q (.inl (some (.inr (.inr (some p)))), g)) : ez_W (d + 1) cm_336 0 [(0, .inr (.inr (some (a)))), (1, .inl (n))] [] h Q := by
  have na := ez_len hB ta tq_31 rfl
  have na0 : 0 ≤ qz_N h a := na.1
  refine ez_go (n := 2) (pc' := 2) (L' := [(0, .inr (.inr (some (a)))), (1, .inl (n))]) (st' := [.inr (.inr (some (a))), .inl (n)]) rfl ?_
  refine ez_al hB ta rfl tq_31 rfl (fun (b1 : 0 ≤ qz_N h a) (b1' : qz_N h a ≤ 200000) => ?_)
  refine ez_icmp rfl rfl ⟨by first | omega | exact (sz_i32 _).1, by first | omega | exact (sz_i32 _).2⟩ ⟨by first | omega | exact (sz_i32 _).1, by first | omega | exact (sz_i32 _).2⟩ (fun (c2 : (n) ≠ (qz_N h a)) => ?_) (fun (c2 : ¬((n) ≠ (qz_N h a))) => ?_)
  · skip
    refine ez_go (n := 1) (pc' := 15) (L' := [(0, .inr (.inr (some (a)))), (1, .inl (n))]) (st' := [.inl (n)]) rfl ?_
    refine ez_nA' (t := 31) hB rfl rfl rfl tq_31 rfl rfl (by omega) (by show (0 : Int) ≤ _; omega) (by show _ ≤ (200000 : Int); omega) (by omega) (by omega) (by omega) (fun g3 τ3 p3 hB3 x3 o3 t3 z3 e3 N3 y3 => ?_)
    have c3 := x3.2
    have tan3 := (x3.1 _ (by rw [ta]; decide)).1.trans ta
    have ea : g3.2.2 a = h.2.2 a := (x3.1 a (by rw [ta]; decide)).2
    have eN : qz_N g3 a = qz_N h a := by unfold qz_N; rw [ea]
    have npa : a ≠ p3 := fun e => by rw [← e, ta] at z3; cases z3
    refine ez_go (n := 6) (pc' := 23) (L' := [(2, .inr (.inr (some (p3)))), (0, .inr (.inr (some (a)))), (1, .inl (n))]) (st' := [.inr (.inr (some (a))), .inl (0), .inr (.inr (some (p3))), .inl (0), .inr (.inr (some (a)))]) rfl ?_
    refine ez_al hB3 tan3 rfl tq_31 rfl (fun (b4 : 0 ≤ qz_N g3 a) (b4' : qz_N g3 a ≤ 200000) => ?_)
    refine ez_go (n := 1) (pc' := 25) (L' := [(2, .inr (.inr (some (p3)))), (0, .inr (.inr (some (a)))), (1, .inl (n))]) (st' := [.inl (n), .inl (qz_N g3 a), .inl (0), .inr (.inr (some (p3))), .inl (0), .inr (.inr (some (a)))]) rfl ?_
    refine ez_cs hB3.2.1 rfl rfl rfl rfl rfl (rd_min (by omega) (by omega) (by omega) (by omega) (fun v v1 v2 v3 => ez_K1 ?_))
    refine ez_cpy hB3 tan3 t3 npa rfl rfl rfl rfl (by omega) (by omega) (by omega) (fun g hBg f2 N2 e1 e2 => ?_)
    refine ez_go (n := 1) (pc' := 32) (L' := [(2, .inr (.inr (some (p3)))), (0, .inr (.inr (some (a)))), (1, .inl (n))]) (st' := [.inr (.inr (some (p3)))]) rfl ?_
    have xt : ez_xt τ h τ3 g 1 (n).toNat := ⟨fun q hq => ⟨(x3.1 q hq).1, by rw [f2.2.2 q (dz_beq_ne (fun e => by rw [e] at hq; exact hq z3))]; exact (x3.1 q hq).2⟩, by rw [f2.1, f2.2.1]; exact x3.2⟩
    exact ez_retA rfl rfl rfl (kx g τ3 p3 hBg xt o3 t3 z3 e3 (by rw [N2]; exact N3) (fun j hj => by rw [e1 j (by omega)]; unfold qz_I; rw [ea]))
  · exfalso; omega

/-- what a builder holds -/
def sb (h : cz_H) (b : Nat) (l : List Int) : Prop := qz_I h b 3 = (l.length : Int) ∧ (l.length : Int) ≤ qz_N h (qz_P h b 0) ∧ ∀ (j : Nat) v, l[j]? = some v → qz_I h (qz_P h b 0) j = v ∧ 0 ≤ v ∧ v ≤ 127
/-- its capacity -/
def sc (h : cz_H) (b : Nat) : Int := qz_N h (qz_P h b 0)
/-- builders' cells alone are written; room by capacity -/
def sx (τ : Nat → Nat) (h : cz_H) (τ1 : Nat → Nat) (g : cz_H) (b : Nat) : Prop :=
  (∀ q, τ q ≠ 0 → τ1 q = τ q ∧ (τ q ≠ 30 → τ q ≠ 31 → g.2.2 q = h.2.2 q)) ∧ (∀ q, τ q = 0 → τ1 q ≠ 0 → τ1 q = 31) ∧ (h.1 ≤ g.1 ∧ h.2.1 ≤ g.2.1) ∧ ((g.2.1 : Int) - h.2.1 ≤ 2 * (sc g b - sc h b) ∧ 16 * ((g.1 : Int) - h.1) ≤ sc g b - sc h b)
theorem sx.refl (τ : Nat → Nat) (h : cz_H) (b : Nat) : sx τ h τ h b := ⟨fun q _ => ⟨rfl, fun _ _ => rfl⟩, fun q h1 h2 => absurd h1 h2, ⟨Nat.le_refl _, Nat.le_refl _⟩, by omega⟩
theorem sx.trans {τ τ1 τ2 : Nat → Nat} {h g k : cz_H} {b : Nat} (x : sx τ h τ1 g b) (y : sx τ1 g τ2 k b) : sx τ h τ2 k b := by
  obtain ⟨x1, x2, x3, x4⟩ := x
  obtain ⟨y1, y2, y3, y4⟩ := y
  have hne : ∀ q, τ q ≠ 0 → τ1 q ≠ 0 := fun q hq => by rw [(x1 q hq).1]; exact hq
  refine ⟨fun q hq => ⟨(y1 q (hne q hq)).1.trans (x1 q hq).1, fun q1 q2 => ?_⟩, fun q q1 q2 => ?_, by omega, by omega⟩
  · rw [(y1 q (hne q hq)).2 (by rw [(x1 q hq).1]; exact q1) (by rw [(x1 q hq).1]; exact q2)]; exact (x1 q hq).2 q1 q2
  · by_cases e : τ1 q = 0
    · exact y2 q e q2
    · rw [(y1 q e).1]; exact x2 q q1 e
theorem rd_ensure {l : List Int} {m : Int} (hB : ez_B τ h) (tb : τ b = 30) (hm : m = (l.length : Int) + 1) (hs : sb h b l) (c16 : 16 ≤ sc h b) (hc : sc h b ≤ 2 * (l.length : Int) + 16) (hl : l.length ≤ 4096) (hr1 : h.1 + 1 ≤ 600192) (hr2 : (h.2.1 : Int) + 20000 ≤ 7302232) (kx : ∀ g τ1, ez_B τ1 g → sx τ h τ1 g b → sb g b l → (l.length : Int) < sc g b → sc g b ≤ 2 * ((l.length : Int) + 1) + 16 → Q (.inl none, g)) : ez_W (d + 3) cm_316 0 [(0, .inr (.inr (some (b)))), (1, .inl (m))] [] h Q := by
  have s1 := hs.2.1
  have s2 : sc h b = (qz_N h (qz_P h b 0)) := rfl
  refine ez_go (n := 1) (pc' := 1) (L' := [(0, .inr (.inr (some (b)))), (1, .inl (m))]) (st' := [.inr (.inr (some (b)))]) rfl ?_
  refine ez_gR hB tb rfl rfl tq_30 rfl rfl (fun (t1 : _ = 31) (t1' : 1 ≤ qz_I h b 0) => ?_)
  refine ez_al hB t1 rfl tq_31 rfl (fun (b2 : 0 ≤ qz_N h (qz_P h b 0)) (b2' : qz_N h (qz_P h b 0) ≤ 200000) => ?_)
  refine ez_go (n := 1) (pc' := 6) (L' := [(0, .inr (.inr (some (b)))), (1, .inl (m))]) (st' := [.inr (.inr (some (b))), .inl (qz_N h (qz_P h b 0))]) rfl ?_
  refine ez_gI hB tb rfl rfl tq_30 rfl rfl (fun (b3 : 0 ≤ qz_I h b 1) (b3' : qz_I h b 1 ≤ 0) => ?_)
  rw [show qz_I h b 1 = 0 by omega]
  refine ez_go (n := 1) (pc' := 10) (L' := [(0, .inr (.inr (some (b)))), (1, .inl (m))]) (st' := [.inl ((Int32.ofInt (qz_N h (qz_P h b 0)) >>> (Int32.ofInt (0) &&& 31)).toInt)]) rfl ?_
  rw [nz_sh rfl (by omega) (by omega)]
  refine ez_go (n := 4) (pc' := 14) (L' := [(2, .inl (qz_N h (qz_P h b 0))), (0, .inr (.inr (some (b)))), (1, .inl (m))]) (st' := [.inl ((m) - (qz_N h (qz_P h b 0)))]) rfl ?_
  refine ez_if rfl rfl ⟨by first | omega | exact (sz_i32 _).1, by first | omega | exact (sz_i32 _).2⟩ (fun (c4 : ((m) - (qz_N h (qz_P h b 0))) ≤ (0)) => ?_) (fun (c4 : ¬(((m) - (qz_N h (qz_P h b 0))) ≤ (0))) => ?_)
  · skip
    exact ez_ret0 rfl rfl (kx h τ hB (sx.refl _ _ _) hs (by unfold sc; omega) (by unfold sc; omega))
  · skip
    refine ez_go (n := 2) (pc' := 19) (L' := [(2, .inl (qz_N h (qz_P h b 0))), (0, .inr (.inr (some (b)))), (1, .inl (m))]) (st' := [.inr (.inr (some (b))), .inr (.inr (some (b)))]) rfl ?_
    refine ez_gR hB tb rfl rfl tq_30 rfl rfl (fun (t5 : _ = 31) (t5' : 1 ≤ qz_I h b 0) => ?_)
    refine ez_go (n := 2) (pc' := 24) (L' := [(2, .inl (qz_N h (qz_P h b 0))), (0, .inr (.inr (some (b)))), (1, .inl (m))]) (st' := [.inl (m), .inr (.inr (some (b))), .inr (.inr (some (qz_P h b 0))), .inr (.inr (some (b)))]) rfl ?_
    refine ez_cv hB tb rfl rfl rfl tq_30 rfl rfl rfl (rd_newCapacity hB tb (by omega) (by omega) (by omega) (fun v hv => ez_K1 ?_))
    refine ez_go (n := 1) (pc' := 28) (L' := [(2, .inl (qz_N h (qz_P h b 0))), (0, .inr (.inr (some (b)))), (1, .inl (m))]) (st' := [.inr (.inr (some (b))), .inl (v), .inr (.inr (some (qz_P h b 0))), .inr (.inr (some (b)))]) rfl ?_
    refine ez_gI hB tb rfl rfl tq_30 rfl rfl (fun (b6 : 0 ≤ qz_I h b 1) (b6' : qz_I h b 1 ≤ 0) => ?_)
    rw [show qz_I h b 1 = 0 by omega]
    refine ez_go (n := 1) (pc' := 32) (L' := [(2, .inl (qz_N h (qz_P h b 0))), (0, .inr (.inr (some (b)))), (1, .inl (m))]) (st' := [.inl ((Int32.ofInt (v) <<< (Int32.ofInt (0) &&& 31)).toInt), .inr (.inr (some (qz_P h b 0))), .inr (.inr (some (b)))]) rfl ?_
    rw [nz_shl rfl (by omega) (by omega)]
    refine ez_cs hB.2.1 rfl rfl rfl rfl rfl (rd_copyOf hB t5 (by omega) (by omega) (by omega) (by omega) (fun g1 τ1 p hB1 x1 o1 t1 z1 e1 N1 c1 => ez_KA ?_))
    have tb1 := (x1.1 b (by rw [tb]; decide)).1.trans tb
    have eb : g1.2.2 b = h.2.2 b := (x1.1 b (by rw [tb]; decide)).2
    have npb : p ≠ b := fun e => by rw [e, tb] at z1; cases z1
    have k1 := x1.2
    refine ez_pf hB1 tb1 rfl rfl tq_30 rfl rfl rfl rfl (ez_vdR rfl t1 (by omega) (by omega)) (fun hB7 w8 => ?_)
    have eP : qz_P (dz_put g1 b 0 (ez_v (.inr (.inr (some (p)))))) b 0 = p := by unfold qz_P; rw [w8]; show ((p : Int) + 1 - 1).toNat = p; omega
    have eN : qz_N (dz_put g1 b 0 (ez_v (.inr (.inr (some (p)))))) p = v := by rw [ez_put_N]; exact N1
    have eI : ∀ j, qz_I (dz_put g1 b 0 (ez_v (.inr (.inr (some (p)))))) p j = qz_I g1 p j := fun j => ez_put_I (fun w => npb w.1)
    have e3 : qz_I (dz_put g1 b 0 (ez_v (.inr (.inr (some (p)))))) b 3 = qz_I h b 3 := by rw [ez_put_I (by omega)]; unfold qz_I; rw [eb]
    have hsc : sc (dz_put g1 b 0 (ez_v (.inr (.inr (some (p)))))) b = v := by unfold sc; rw [eP]; exact eN
    have hsh : sc h b = (qz_N h (qz_P h b 0)) := rfl
    refine ez_ret0 rfl rfl (kx _ τ1 hB7 ⟨fun q hq => ⟨(x1.1 q hq).1, fun q1 q2 => ?_⟩, fun q q1 q2 => ?_, ?_, ?_⟩ ⟨e3.trans hs.1, ?_, fun j v2 hj => ?_⟩ (by rw [hsc]; omega) (by rw [hsc]; omega))
    · rw [dz_put_at, if_neg (fun e => by rw [e, tb] at q1; exact q1 rfl)]; exact (x1.1 q hq).2
    · by_cases e : q = p; (· rw [e]; exact t1); (· rw [o1 q e] at q2; exact absurd q1 q2)
    · show h.1 ≤ g1.1 ∧ h.2.1 ≤ g1.2.1; omega
    · rw [hsc, hsh]; show ((g1.2.1 : Int)) - h.2.1 ≤ _ ∧ 16 * ((g1.1 : Int) - h.1) ≤ _; omega
    · rw [eP, eN]; omega
    · rw [eP, eI, c1 j (by have := (List.getElem?_eq_some_iff.mp hj).1; omega)]; exact hs.2.2 j v2 hj

end EzSc
/-! The StringBuilder, III: append. (Written by wip/p2/py/pv64.py.) -/
section EzSd
variable {d : Nat} {h : cz_H} {τ : Nat → Nat} {Q : cz_F → Prop} {a b : Nat}
theorem rd_sLat (hB : ez_B τ h) (tb : τ b = 30) (k : Q (.inl (some (ez_v (.inl 1))), h)) : ez_W d cm_318 0 [(0, .inr (.inr (some (b))))] [] h Q := by
  refine ez_gs (1) rfl rfl rfl ?_
  refine ez_if rfl rfl ⟨by decide, by decide⟩ (fun (c1 : (1 : Int) = (0)) => absurd c1 (by decide)) (fun _ => ?_)
  refine ez_go (n := 1) (pc' := 7) (L' := [(0, .inr (.inr (some (b))))]) (st' := [.inr (.inr (some (b)))]) rfl ?_
  refine ez_gI hB tb rfl rfl tq_30 rfl rfl (fun (b2 : 0 ≤ qz_I h b 1) (b2' : qz_I h b 1 ≤ 0) => ?_)
  rw [show qz_I h b 1 = 0 by omega]
  refine ez_if rfl rfl ⟨by decide, by decide⟩ (fun (c3 : (0 : Int) ≠ (0)) => absurd c3 (by decide)) (fun _ => ?_)
  refine ez_go (n := 2) (pc' := 18) (L' := [(0, .inr (.inr (some (b))))]) (st' := [.inl (1)]) rfl ?_
  exact ez_retZ rfl rfl (by decide) k

theorem rd_canEnc {c : Int} (c0 : 0 ≤ c) (c1 : c ≤ 127) (k : Q (.inl (some (ez_v (.inl 1))), h)) : ez_W d cm_333 0 [(0, .inl (c))] [] h Q := by
  refine ez_go (n := 2) (pc' := 4) (L' := [(0, .inl (c))]) (st' := [.inl (255), .inl (c)]) rfl ?_
  refine ez_icmp rfl rfl ⟨by first | omega | exact (sz_i32 _).1, by first | omega | exact (sz_i32 _).2⟩ ⟨by first | omega | exact (sz_i32 _).1, by first | omega | exact (sz_i32 _).2⟩ (fun (c1 : (255) < (c)) => ?_) (fun (c1 : ¬((255) < (c))) => ?_)
  · exfalso; omega
  · skip
    refine ez_go (n := 2) (pc' := 12) (L' := [(0, .inl (c))]) (st' := [.inl (1)]) rfl ?_
    exact ez_retZ rfl rfl (by decide) k

theorem rd_append0 {l : List Int} {c : Int} (hB : ez_B τ h) (tb : τ b = 30) (hs : sb h b l) (c16 : 16 ≤ sc h b) (hc : sc h b ≤ 2 * (l.length : Int) + 16) (hl : l.length ≤ 4096) (hr1 : h.1 + 1 ≤ 600192) (hr2 : (h.2.1 : Int) + 20000 ≤ 7302232) (c0 : 0 ≤ c) (c1 : c ≤ 127) (kx : ∀ g τ1, ez_B τ1 g → sx τ h τ1 g b → sb g b (l ++ [c]) → 16 ≤ sc g b → sc g b ≤ 2 * ((l ++ [c]).length : Int) + 16 → Q (.inl (some (.inr (.inr (some b)))), g)) : ez_W (d + 4) cm_315 0 [(0, .inr (.inr (some (b)))), (1, .inl (c))] [] h Q := by
  refine ez_go (n := 2) (pc' := 2) (L' := [(0, .inr (.inr (some (b)))), (1, .inl (c))]) (st' := [.inr (.inr (some (b))), .inr (.inr (some (b)))]) rfl ?_
  refine ez_gI hB tb rfl rfl tq_30 rfl rfl (fun (b1 : 0 ≤ qz_I h b 3) (b1' : qz_I h b 3 ≤ 70000) => ?_)
  refine ez_go (n := 2) (pc' := 7) (L' := [(0, .inr (.inr (some (b)))), (1, .inl (c))]) (st' := [.inl ((qz_I h b 3) + (1)), .inr (.inr (some (b)))]) rfl ?_
  refine ez_cv hB tb rfl rfl rfl tq_30 rfl rfl rfl (rd_ensure hB tb (by rw [hs.1]) hs c16 hc hl hr1 hr2 (fun g1 τ1 hB1 x1 s1 l1 u1 => ez_K0 ?_))
  have tb1 := (x1.1 b (by rw [tb]; decide)).1.trans tb
  have k3 := s1.1
  have k4 := x1.2.2.2
  have k6 := x1.2.2.1
  have k5 : sc g1 b = qz_N g1 (qz_P g1 b 0) := rfl
  refine ez_go (n := 1) (pc' := 11) (L' := [(0, .inr (.inr (some (b)))), (1, .inl (c))]) (st' := [.inr (.inr (some (b)))]) rfl ?_
  refine ez_cv hB1 tb1 rfl rfl rfl tq_30 rfl rfl rfl (rd_sLat hB1 tb1 (ez_K1 ?_))
  refine ez_if rfl rfl ⟨by decide, by decide⟩ (fun (c2 : (1 : Int) = (0)) => absurd c2 (by decide)) (fun _ => ?_)
  refine ez_go (n := 1) (pc' := 18) (L' := [(0, .inr (.inr (some (b)))), (1, .inl (c))]) (st' := [.inl (c)]) rfl ?_
  refine ez_cs hB1.2.1 rfl rfl rfl rfl rfl (rd_canEnc c0 c1 (ez_K1 ?_))
  refine ez_if rfl rfl ⟨by decide, by decide⟩ (fun (c3 : (1 : Int) = (0)) => absurd c3 (by decide)) (fun _ => ?_)
  refine ez_go (n := 1) (pc' := 25) (L' := [(0, .inr (.inr (some (b)))), (1, .inl (c))]) (st' := [.inr (.inr (some (b)))]) rfl ?_
  refine ez_gR hB1 tb1 rfl rfl tq_30 rfl rfl (fun (t4 : _ = 31) (t4' : 1 ≤ qz_I g1 b 0) => ?_)
  refine ez_go (n := 2) (pc' := 30) (L' := [(0, .inr (.inr (some (b)))), (1, .inl (c))]) (st' := [.inr (.inr (some (b))), .inr (.inr (some (b))), .inr (.inr (some (qz_P g1 b 0)))]) rfl ?_
  refine ez_gI hB1 tb1 rfl rfl tq_30 rfl rfl (fun (b5 : 0 ≤ qz_I g1 b 3) (b5' : qz_I g1 b 3 ≤ 70000) => ?_)
  refine ez_go (n := 3) (pc' := 36) (L' := [(0, .inr (.inr (some (b)))), (1, .inl (c))]) (st' := [.inl ((qz_I g1 b 3) + (1)), .inr (.inr (some (b))), .inl (qz_I g1 b 3), .inr (.inr (some (qz_P g1 b 0)))]) rfl ?_
  refine ez_pf hB1 tb1 rfl rfl tq_30 rfl rfl rfl rfl (ez_vdI rfl rfl (by omega) (by omega)) (fun hB6 w7 => ?_)
  refine ez_go (n := 2) (pc' := 41) (L' := [(0, .inr (.inr (some (b)))), (1, .inl (c))]) (st' := [.inl ((Int32.ofInt (c)).toInt8.toInt32.toInt), .inl (qz_I g1 b 3), .inr (.inr (some (qz_P g1 b 0)))]) rfl ?_
  rw [i8_id (by omega) (by omega)]
  have n10 : qz_N (dz_put g1 b 3 (ez_v (.inl ((qz_I g1 b 3) + (1))))) (qz_P g1 b 0) = qz_N g1 (qz_P g1 b 0) := ez_put_N _
  have n11 : 0 ≤ qz_N (dz_put g1 b 3 (ez_v (.inl ((qz_I g1 b 3) + (1))))) (qz_P g1 b 0) ∧ qz_N (dz_put g1 b 3 (ez_v (.inl ((qz_I g1 b 3) + (1))))) (qz_P g1 b 0) ≤ 200000 := ez_len hB6 t4 tq_31 rfl
  refine ez_ab hB6 t4 rfl tq_31 rfl rfl (by omega) (by omega) (by first | omega | exact (i8_bd _).1) (by first | omega | exact (i8_bd _).2) (fun hB8 w9 => ?_)
  refine ez_go (n := 2) (pc' := 76) (L' := [(0, .inr (.inr (some (b)))), (1, .inl (c))]) (st' := [.inr (.inr (some (b)))]) rfl ?_
  have npb : qz_P g1 b 0 ≠ b := fun e => by rw [e, tb1] at t4; cases t4
  have e0 : qz_I (dz_put (dz_put g1 b 3 (ez_v (.inl ((qz_I g1 b 3) + (1))))) (qz_P g1 b 0) (qz_I g1 b 3).toNat (ez_v (.inl (c)))) b 0 = qz_I g1 b 0 := by rw [ez_put_I (fun w => npb w.1.symm), ez_put_I (by omega)]
  have eP : qz_P (dz_put (dz_put g1 b 3 (ez_v (.inl ((qz_I g1 b 3) + (1))))) (qz_P g1 b 0) (qz_I g1 b 3).toNat (ez_v (.inl (c)))) b 0 = qz_P g1 b 0 := by show (qz_I _ b 0 - 1).toNat = (qz_I g1 b 0 - 1).toNat; rw [e0]
  have e3 : qz_I (dz_put (dz_put g1 b 3 (ez_v (.inl ((qz_I g1 b 3) + (1))))) (qz_P g1 b 0) (qz_I g1 b 3).toNat (ez_v (.inl (c)))) b 3 = qz_I g1 b 3 + 1 := by rw [ez_put_I (fun w => npb w.1.symm), w7, rz_rd ⟨by omega, by omega⟩]
  have eI : qz_I (dz_put (dz_put g1 b 3 (ez_v (.inl ((qz_I g1 b 3) + (1))))) (qz_P g1 b 0) (qz_I g1 b 3).toNat (ez_v (.inl (c)))) (qz_P g1 b 0) (qz_I g1 b 3).toNat = c := by rw [w9, rz_rd ⟨by omega, by omega⟩]
  have eJ : ∀ j, j ≠ (qz_I g1 b 3).toNat → qz_I (dz_put (dz_put g1 b 3 (ez_v (.inl ((qz_I g1 b 3) + (1))))) (qz_P g1 b 0) (qz_I g1 b 3).toNat (ez_v (.inl (c)))) (qz_P g1 b 0) j = qz_I g1 (qz_P g1 b 0) j := fun j hj => by rw [ez_put_I (fun w => hj w.2), ez_put_I (fun w => npb w.1)]
  have eN : qz_N (dz_put (dz_put g1 b 3 (ez_v (.inl ((qz_I g1 b 3) + (1))))) (qz_P g1 b 0) (qz_I g1 b 3).toNat (ez_v (.inl (c)))) (qz_P g1 b 0) = qz_N g1 (qz_P g1 b 0) := by rw [ez_put_N, ez_put_N]
  have hsc : sc (dz_put (dz_put g1 b 3 (ez_v (.inl ((qz_I g1 b 3) + (1))))) (qz_P g1 b 0) (qz_I g1 b 3).toNat (ez_v (.inl (c)))) b = sc g1 b := by unfold sc; rw [eP, eN]
  refine ez_retA rfl rfl rfl (kx _ τ1 hB8 (x1.trans ⟨fun q hq => ⟨rfl, fun q1 q2 => ?_⟩, fun q q1 q2 => absurd q1 q2, ⟨Nat.le_refl _, Nat.le_refl _⟩, ?_⟩) ⟨?_, ?_, fun j v hj => ?_⟩ (by rw [hsc]; omega) (by rw [hsc, List.length_append]; show _ ≤ 2 * ((l.length + 1 : Nat) : Int) + 16; omega))
  · rw [dz_put_at, if_neg (fun e => by rw [e, t4] at q2; exact q2 rfl), dz_put_at, if_neg (fun e => by rw [e, tb1] at q1; exact q1 rfl)]
  · rw [hsc]; show ((g1.2.1 : Int)) - g1.2.1 ≤ _ ∧ 16 * ((g1.1 : Int) - g1.1) ≤ _; omega
  · rw [e3, List.length_append, k3]; rfl
  · rw [eP, eN, List.length_append]; show ((l.length + 1 : Nat) : Int) ≤ _; omega
  · rw [eP]
    by_cases e : j < l.length
    · rw [List.getElem?_append_left e] at hj; rw [eJ j (by omega)]; exact s1.2.2 j v hj
    · rw [List.getElem?_append_right (by omega)] at hj
      have e5 : j = l.length := by have := (List.getElem?_eq_some_iff.mp hj).1; simp at this; omega
      rw [e5, Nat.sub_self] at hj
      cases hj
      rw [show j = (qz_I g1 b 3).toNat by omega, eI]; exact ⟨rfl, c0, c1⟩

theorem rd_append {l : List Int} {c : Int} (hB : ez_B τ h) (tb : τ b = 30) (hs : sb h b l) (c16 : 16 ≤ sc h b) (hc : sc h b ≤ 2 * (l.length : Int) + 16) (hl : l.length ≤ 4096) (hr1 : h.1 + 1 ≤ 600192) (hr2 : (h.2.1 : Int) + 20000 ≤ 7302232) (c0 : 0 ≤ c) (c1 : c ≤ 127) (kx : ∀ g τ1, ez_B τ1 g → sx τ h τ1 g b → sb g b (l ++ [c]) → 16 ≤ sc g b → sc g b ≤ 2 * ((l ++ [c]).length : Int) + 16 → Q (.inl (some (.inr (.inr (some b)))), g)) : ez_W (d + 5) cm_330 0 [(0, .inr (.inr (some (b)))), (1, .inl (c))] [] h Q := by
  refine ez_go (n := 2) (pc' := 2) (L' := [(0, .inr (.inr (some (b)))), (1, .inl (c))]) (st' := [.inl (c), .inr (.inr (some (b)))]) rfl ?_
  refine ez_cu hB tb rfl rfl rfl tq_30 rfl rfl rfl (rd_append0 hB tb hs c16 hc hl hr1 hr2 c0 c1 (fun g1 τ1 hB1 x1 s1 l1 u1 => ez_KA ?_))
  refine ez_go (n := 2) (pc' := 7) (L' := [(0, .inr (.inr (some (b)))), (1, .inl (c))]) (st' := [.inr (.inr (some (b)))]) rfl ?_
  exact ez_retA rfl rfl rfl (kx g1 τ1 hB1 x1 s1 l1 u1)

end EzSd
/-! The StringBuilder, IV: made; its String. (Written by wip/p2/py/pv65.py.) -/
section EzSe
variable {d : Nat} {h : cz_H} {τ : Nat → Nat} {Q : cz_F → Prop} {a b s : Nat}
theorem rd_sbi0 (hB : ez_B τ h) (tb : τ b = 29) (hr1 : h.1 + 1 ≤ 600192) (hr2 : h.2.1 + 16 ≤ 7302232) (kx : ∀ g τ1 p, ez_B τ1 g → (∀ q, τ q ≠ 0 → τ1 q = τ q ∧ (q ≠ b → g.2.2 q = h.2.2 q)) → (∀ q, q ≠ p → τ1 q = τ q) → τ1 p = 31 → τ p = 0 → p = h.1 → qz_I g b 0 = (p : Int) + 1 → qz_N g p = 16 → qz_I g b 3 = qz_I h b 3 → (g.1 ≤ h.1 + 1 ∧ h.1 ≤ g.1) → (g.2.1 ≤ h.2.1 + 16 ∧ h.2.1 ≤ g.2.1) → Q (.inl none, g)) : ez_W (d + 1) cm_314 0 [(0, .inr (.inr (some (b)))), (1, .inl (16))] [] h Q := by
  refine ez_go (n := 1) (pc' := 1) (L' := [(0, .inr (.inr (some (b)))), (1, .inl (16))]) (st' := [.inr (.inr (some (b)))]) rfl ?_
  refine ez_ob rfl rfl rfl ?_
  refine ez_gs (1) rfl rfl rfl ?_
  refine ez_if rfl rfl ⟨by decide, by decide⟩ (fun (c1 : (1 : Int) = (0)) => absurd c1 (by decide)) (fun _ => ?_)
  refine ez_go (n := 2) (pc' := 12) (L' := [(0, .inr (.inr (some (b)))), (1, .inl (16))]) (st' := [.inl (16), .inr (.inr (some (b)))]) rfl ?_
  refine ez_nA' (t := 31) hB rfl rfl rfl tq_31 rfl rfl (by omega) (by show (0 : Int) ≤ _; omega) (by show _ ≤ (200000 : Int); omega) (by omega) (by omega) (by omega) (fun g2 τ2 p2 hB2 x2 o2 t2 z2 e2 N2 y2 => ?_)
  have c2 := x2.2
  have tbn2 := (x2.1 _ (by rw [tb]; decide)).1.trans tb
  have npb : b ≠ p2 := fun e => by rw [← e, tb] at z2; cases z2
  have eb : g2.2.2 b = h.2.2 b := (x2.1 b (by rw [tb]; decide)).2
  refine ez_pf hB2 tbn2 rfl rfl tq_29 rfl rfl rfl rfl (ez_vdR rfl t2 (by omega) (by omega)) (fun hB3 w4 => ?_)
  refine ez_go (n := 2) (pc' := 19) (L' := [(0, .inr (.inr (some (b)))), (1, .inl (16))]) (st' := [.inl (0), .inr (.inr (some (b)))]) rfl ?_
  refine ez_pf hB3 tbn2 rfl rfl tq_29 rfl rfl rfl rfl (ez_vdB (by omega) (by omega) (by omega) (by omega)) (fun hB5 w6 => ?_)
  refine ez_go (n := 1) (pc' := 38) (L' := [(0, .inr (.inr (some (b)))), (1, .inl (16))]) (st' := []) rfl ?_
  refine ez_ret0 rfl rfl (kx _ τ2 p2 hB5 (fun q hq => ⟨(x2.1 q hq).1, fun q1 => ?_⟩) o2 t2 z2 e2 ?_ ?_ ?_ ?_ ?_)
  · rw [dz_put_at, if_neg q1, dz_put_at, if_neg q1]; exact (x2.1 q hq).2
  · rw [ez_put_I (by omega), w4]; rfl
  · rw [ez_put_N, ez_put_N]; exact N2
  · rw [ez_put_I (by omega), ez_put_I (by omega)]; unfold qz_I; rw [eb]
  · show g2.1 ≤ h.1 + 1 ∧ h.1 ≤ g2.1; omega
  · show g2.2.1 ≤ h.2.1 + 16 ∧ h.2.1 ≤ g2.2.1; omega

theorem rd_sbi (hB : ez_B τ h) (tb : τ b = 29) (hr1 : h.1 + 1 ≤ 600192) (hr2 : h.2.1 + 16 ≤ 7302232) (kx : ∀ g τ1 p, ez_B τ1 g → (∀ q, τ q ≠ 0 → τ1 q = τ q ∧ (q ≠ b → g.2.2 q = h.2.2 q)) → (∀ q, q ≠ p → τ1 q = τ q) → τ1 p = 31 → τ p = 0 → p = h.1 → qz_I g b 0 = (p : Int) + 1 → qz_N g p = 16 → qz_I g b 3 = qz_I h b 3 → (g.1 ≤ h.1 + 1 ∧ h.1 ≤ g.1) → (g.2.1 ≤ h.2.1 + 16 ∧ h.2.1 ≤ g.2.1) → Q (.inl none, g)) : ez_W (d + 2) cm_329 0 [(0, .inr (.inr (some (b))))] [] h Q := by
  refine ez_go (n := 2) (pc' := 3) (L' := [(0, .inr (.inr (some (b))))]) (st' := [.inl (16), .inr (.inr (some (b)))]) rfl ?_
  refine ez_ci hB.2.1 rfl rfl rfl rfl rfl rfl (rd_sbi0 hB tb hr1 hr2 (fun g τ1 p a1 a2 a3 a4 a5 a6 a7 a8 a9 a10 a11 => ez_K0 ?_))
  exact ez_ret0 rfl rfl (kx g τ1 p a1 a2 a3 a4 a5 a6 a7 a8 a9 a10 a11)

theorem rd_getValue (hB : ez_B τ h) (tb : τ b = 30) (k : τ (qz_P h b 0) = 31 → Q (.inl (some (.inr (.inr (some (qz_P h b 0))))), h)) : ez_W d cm_317 0 [(0, .inr (.inr (some (b))))] [] h Q := by
  refine ez_go (n := 1) (pc' := 1) (L' := [(0, .inr (.inr (some (b))))]) (st' := [.inr (.inr (some (b)))]) rfl ?_
  refine ez_gR hB tb rfl rfl tq_30 rfl rfl (fun (t1 : _ = 31) (t1' : 1 ≤ qz_I h b 0) => ?_)
  exact ez_retA rfl rfl rfl (k t1)

theorem rd_slen1 (hB : ez_B τ h) (tb : τ b = 30) (k : Q (.inl (some (ez_v (.inl (qz_I h b 3)))), h)) : ez_W d cm_319 0 [(0, .inr (.inr (some (b))))] [] h Q := by
  refine ez_go (n := 1) (pc' := 1) (L' := [(0, .inr (.inr (some (b))))]) (st' := [.inr (.inr (some (b)))]) rfl ?_
  refine ez_gI hB tb rfl rfl tq_30 rfl rfl (fun (b1 : 0 ≤ qz_I h b 3) (b1' : qz_I h b 3 ≤ 70000) => ?_)
  exact ez_retI rfl rfl k

theorem rd_slen2 (hB : ez_B τ h) (tb : τ b = 30) (k : Q (.inl (some (ez_v (.inl (qz_I h b 3)))), h)) : ez_W (d + 1) cm_331 0 [(0, .inr (.inr (some (b))))] [] h Q := by
  refine ez_go (n := 1) (pc' := 1) (L' := [(0, .inr (.inr (some (b))))]) (st' := [.inr (.inr (some (b)))]) rfl ?_
  refine ez_cu hB tb rfl rfl rfl tq_30 rfl rfl rfl (rd_slen1 hB tb (ez_K1 ?_))
  exact ez_retI rfl rfl k

theorem rd_checkLength {n : Int} (n0 : 0 ≤ n) (n1 : n ≤ 200000) (k : Q (.inl none, h)) : ez_W d cm_335 0 [(0, .inl (0)), (1, .inl (n))] [] h Q := by
  refine ez_go (n := 2) (pc' := 2) (L' := [(0, .inl (0)), (1, .inl (n))]) (st' := [.inl (0), .inl (n)]) rfl ?_
  refine ez_icmp rfl rfl ⟨by first | omega | exact (sz_i32 _).1, by first | omega | exact (sz_i32 _).2⟩ ⟨by first | omega | exact (sz_i32 _).1, by first | omega | exact (sz_i32 _).2⟩ (fun (c1 : (0) ≤ (n)) => ?_) (fun (c1 : ¬((0) ≤ (n))) => ?_)
  · skip
    exact ez_ret0 rfl rfl k
  · exfalso; omega

theorem rd_copyB {n : Int} (hB : ez_B τ h) (ta : τ a = 31) (n0 : 0 ≤ n) (n1 : n ≤ qz_N h a) (hr1 : h.1 + 1 ≤ 600192) (hr2 : (h.2.1 : Int) + n ≤ 7302232) (kx : ∀ g τ1 p, ez_B τ1 g → ez_xt τ h τ1 g 1 (n).toNat → (∀ q, q ≠ p → τ1 q = τ q) → τ1 p = 31 → τ p = 0 → p = h.1 → qz_N g p = n → (∀ j : Nat, (j : Int) < n → qz_I g p j = qz_I h a j) → Q (.inl (some (.inr (.inr (some p)))), g)) : ez_W (d + 1) cm_338 0 [(0, .inr (.inr (some (a)))), (1, .inl (0)), (2, .inl (n))] [] h Q := by
  have na := ez_len hB ta tq_31 rfl
  have na0 : qz_N h a ≤ 200000 := na.2
  refine ez_go (n := 2) (pc' := 2) (L' := [(0, .inr (.inr (some (a)))), (1, .inl (0)), (2, .inl (n))]) (st' := [.inl (n), .inl (0)]) rfl ?_
  refine ez_cs hB.2.1 rfl rfl rfl rfl rfl (rd_checkLength n0 (by omega) (ez_K0 ?_))
  refine ez_go (n := 5) (pc' := 10) (L' := [(3, .inl ((n) - (0))), (0, .inr (.inr (some (a)))), (1, .inl (0)), (2, .inl (n))]) (st' := [.inl ((n) - (0))]) rfl ?_
  refine ez_nA' (t := 31) hB rfl rfl rfl tq_31 rfl rfl (by omega) (by show (0 : Int) ≤ _; omega) (by show _ ≤ (200000 : Int); omega) (by omega) (by omega) (by omega) (fun g1 τ1 p1 hB1 x1 o1 t1 z1 e1 N1 y1 => ?_)
  have c1 := x1.2
  have tan1 := (x1.1 _ (by rw [ta]; decide)).1.trans ta
  have ea : g1.2.2 a = h.2.2 a := (x1.1 a (by rw [ta]; decide)).2
  have eN : qz_N g1 a = qz_N h a := by unfold qz_N; rw [ea]
  have npa : a ≠ p1 := fun e => by rw [← e, ta] at z1; cases z1
  refine ez_go (n := 6) (pc' := 20) (L' := [(4, .inr (.inr (some (p1)))), (3, .inl ((n) - (0))), (0, .inr (.inr (some (a)))), (1, .inl (0)), (2, .inl (n))]) (st' := [.inr (.inr (some (a))), .inl (0), .inr (.inr (some (p1))), .inl (0), .inr (.inr (some (a)))]) rfl ?_
  refine ez_al hB1 tan1 rfl tq_31 rfl (fun (b2 : 0 ≤ qz_N g1 a) (b2' : qz_N g1 a ≤ 200000) => ?_)
  refine ez_go (n := 3) (pc' := 24) (L' := [(4, .inr (.inr (some (p1)))), (3, .inl ((n) - (0))), (0, .inr (.inr (some (a)))), (1, .inl (0)), (2, .inl (n))]) (st' := [.inl ((n) - (0)), .inl ((qz_N g1 a) - (0)), .inl (0), .inr (.inr (some (p1))), .inl (0), .inr (.inr (some (a)))]) rfl ?_
  refine ez_cs hB1.2.1 rfl rfl rfl rfl rfl (rd_min (by omega) (by omega) (by omega) (by omega) (fun v v1 v2 v3 => ez_K1 ?_))
  refine ez_cpy hB1 tan1 t1 npa rfl rfl rfl rfl (by omega) (by omega) (by omega) (fun g hBg f2 N2 cpA cpB => ?_)
  refine ez_go (n := 1) (pc' := 32) (L' := [(4, .inr (.inr (some (p1)))), (3, .inl ((n) - (0))), (0, .inr (.inr (some (a)))), (1, .inl (0)), (2, .inl (n))]) (st' := [.inr (.inr (some (p1)))]) rfl ?_
  have xt : ez_xt τ h τ1 g 1 (n).toNat := ⟨fun q hq => ⟨(x1.1 q hq).1, by rw [f2.2.2 q (dz_beq_ne (fun e => by rw [e] at hq; exact hq z1))]; exact (x1.1 q hq).2⟩, by rw [f2.1, f2.2.1]; have := x1.2; rw [show (n - 0).toNat = n.toNat by omega] at this; exact this⟩
  exact ez_retA rfl rfl rfl (kx g τ1 p1 hBg xt o1 t1 z1 e1 (by rw [N2, N1]; omega) (fun j hj => by rw [cpA j (by omega)]; unfold qz_I; rw [ea]))

theorem rd_copyR {n : Int} (hB : ez_B τ h) (ta : τ a = 31) (n0 : 0 ≤ n) (n1 : n ≤ qz_N h a) (hr1 : h.1 + 1 ≤ 600192) (hr2 : (h.2.1 : Int) + n ≤ 7302232) (kx : ∀ g τ1 p, ez_B τ1 g → ez_xt τ h τ1 g 1 (n).toNat → (∀ q, q ≠ p → τ1 q = τ q) → τ1 p = 31 → τ p = 0 → p = h.1 → qz_N g p = n → (∀ j : Nat, (j : Int) < n → qz_I g p j = qz_I h a j) → Q (.inl (some (.inr (.inr (some p)))), g)) : ez_W (d + 2) cm_337 0 [(0, .inr (.inr (some (a)))), (1, .inl (0)), (2, .inl (n))] [] h Q := by
  have na := ez_len hB ta tq_31 rfl
  have na0 : qz_N h a ≤ 200000 := na.2
  refine ez_go (n := 1) (pc' := 1) (L' := [(0, .inr (.inr (some (a)))), (1, .inl (0)), (2, .inl (n))]) (st' := [.inl (0)]) rfl ?_
  refine ez_if rfl rfl ⟨by decide, by decide⟩ (fun (c1 : (0 : Int) ≠ (0)) => absurd c1 (by decide)) (fun _ => ?_)
  refine ez_go (n := 2) (pc' := 6) (L' := [(0, .inr (.inr (some (a)))), (1, .inl (0)), (2, .inl (n))]) (st' := [.inr (.inr (some (a))), .inl (n)]) rfl ?_
  refine ez_al hB ta rfl tq_31 rfl (fun (b2 : 0 ≤ qz_N h a) (b2' : qz_N h a ≤ 200000) => ?_)
  refine ez_icmp rfl rfl ⟨by first | omega | exact (sz_i32 _).1, by first | omega | exact (sz_i32 _).2⟩ ⟨by first | omega | exact (sz_i32 _).1, by first | omega | exact (sz_i32 _).2⟩ (fun (c3 : (n) = (qz_N h a)) => ?_) (fun (c3 : ¬((n) = (qz_N h a))) => ?_)
  · skip
    refine ez_go (n := 1) (pc' := 18) (L' := [(0, .inr (.inr (some (a)))), (1, .inl (0)), (2, .inl (n))]) (st' := [.inr (.inr (some (a)))]) rfl ?_
    have en : n = qz_N h a := by omega
    refine ez_cln hB ta rfl rfl rfl hr1 (by rw [← en]; exact hr2) (fun g τ1 p a1 a2 a3 a4 a5 a6 a7 a8 => ?_)
    rw [← en] at a2 a7
    refine ez_cc a1 a4 rfl rfl ?_
    exact ez_retA rfl rfl rfl (kx g τ1 p a1 a2 a3 a4 a5 a6 a7 (fun j _ => a8 j))
  · skip
    refine ez_go (n := 3) (pc' := 13) (L' := [(0, .inr (.inr (some (a)))), (1, .inl (0)), (2, .inl (n))]) (st' := [.inl (n), .inl (0), .inr (.inr (some (a)))]) rfl ?_
    refine ez_cs hB.2.1 rfl rfl rfl rfl rfl (rd_copyB hB ta n0 n1 hr1 hr2 (fun g τ1 p a1 a2 a3 a4 a5 a6 a7 a8 => ez_KA ?_))
    exact ez_retA rfl rfl rfl (kx g τ1 p a1 a2 a3 a4 a5 a6 a7 a8)

end EzSe
/-! The StringBuilder, V: its String. (Written by wip/p2/py/pv66.py.) -/
section EzSf
variable {d : Nat} {h : cz_H} {τ : Nat → Nat} {Q : cz_F → Prop} {a b s : Nat} {l : List Int}
theorem rd_str0 (hB : ez_B τ h) (ts : τ s = 32) (tb : τ b = 30) (hs : sb h b l) (hr1 : h.1 + 1 ≤ 600192) (hr2 : h.2.1 + l.length ≤ 7302232) (kx : ∀ g τ1 p, ez_B τ1 g → (∀ q, τ q ≠ 0 → τ1 q = τ q ∧ (q ≠ s → g.2.2 q = h.2.2 q)) → (∀ q, τ q = 0 → τ1 q ≠ 0 → τ1 q = 31) → qz_I g s 0 = ((p : Nat) : Int) + 1 → nz_S g s l → (g.1 ≤ h.1 + 1 ∧ h.1 ≤ g.1) → (g.2.1 ≤ h.2.1 + l.length ∧ h.2.1 ≤ g.2.1) → Q (.inl none, g)) : ez_W (d + 3) cm_323 0 [(0, .inr (.inr (some (s)))), (1, .inr (.inr (some (b)))), (2, .inr (.inr none))] [] h Q := by
  have hs1 := hs.1
  have hs2 := hs.2.1
  refine ez_go (n := 1) (pc' := 1) (L' := [(0, .inr (.inr (some (s)))), (1, .inr (.inr (some (b)))), (2, .inr (.inr none))]) (st' := [.inr (.inr (some (s)))]) rfl ?_
  refine ez_ob rfl rfl rfl ?_
  refine ez_go (n := 1) (pc' := 5) (L' := [(0, .inr (.inr (some (s)))), (1, .inr (.inr (some (b)))), (2, .inr (.inr none))]) (st' := [.inr (.inr (some (b)))]) rfl ?_
  refine ez_cv hB tb rfl rfl rfl tq_30 rfl rfl rfl (rd_getValue hB tb (fun tv => ez_KA ?_))
  refine ez_go (n := 2) (pc' := 10) (L' := [(3, .inr (.inr (some (qz_P h b 0)))), (0, .inr (.inr (some (s)))), (1, .inr (.inr (some (b)))), (2, .inr (.inr none))]) (st' := [.inr (.inr (some (b)))]) rfl ?_
  refine ez_cv hB tb rfl rfl rfl tq_30 rfl rfl rfl (rd_slen2 hB tb (ez_K1 ?_))
  refine ez_go (n := 2) (pc' := 16) (L' := [(4, .inl (qz_I h b 3)), (3, .inr (.inr (some (qz_P h b 0)))), (0, .inr (.inr (some (s)))), (1, .inr (.inr (some (b)))), (2, .inr (.inr none))]) (st' := [.inr (.inr (some (b)))]) rfl ?_
  refine ez_cv hB tb rfl rfl rfl tq_30 rfl rfl rfl (rd_sLat hB tb (ez_K1 ?_))
  refine ez_if rfl rfl ⟨by decide, by decide⟩ (fun (c1 : (1 : Int) = (0)) => absurd c1 (by decide)) (fun _ => ?_)
  refine ez_go (n := 2) (pc' := 24) (L' := [(4, .inl (qz_I h b 3)), (3, .inr (.inr (some (qz_P h b 0)))), (0, .inr (.inr (some (s)))), (1, .inr (.inr (some (b)))), (2, .inr (.inr none))]) (st' := [.inl (0), .inr (.inr (some (s)))]) rfl ?_
  refine ez_pf hB ts rfl rfl tq_32 rfl rfl rfl rfl (ez_vdB (by omega) (by omega) (by omega) (by omega)) (fun hB2 w3 => ?_)
  refine ez_go (n := 4) (pc' := 32) (L' := [(4, .inl (qz_I h b 3)), (3, .inr (.inr (some (qz_P h b 0)))), (0, .inr (.inr (some (s)))), (1, .inr (.inr (some (b)))), (2, .inr (.inr none))]) (st' := [.inl (qz_I h b 3), .inl (0), .inr (.inr (some (qz_P h b 0))), .inr (.inr (some (s)))]) rfl ?_
  have nsv : qz_P h b 0 ≠ s := fun e => by rw [e, ts] at tv; cases tv
  have eN : qz_N (dz_put h s 1 (ez_v (.inl (0)))) (qz_P h b 0) = qz_N h (qz_P h b 0) := ez_put_N _
  have eI : ∀ j, qz_I (dz_put h s 1 (ez_v (.inl (0)))) (qz_P h b 0) j = qz_I h (qz_P h b 0) j := fun j => ez_put_I (fun w => nsv w.1)
  have f1 : ∀ q, q ≠ s → ((dz_put h s 1 (ez_v (.inl (0))))).2.2 q = h.2.2 q := fun q hq => by rw [dz_put_at, if_neg hq]
  have r1 : ((dz_put h s 1 (ez_v (.inl (0))))).1 = h.1 := rfl
  have r2 : ((dz_put h s 1 (ez_v (.inl (0))))).2.1 = h.2.1 := rfl
  have hB1 := hB2
  generalize (dz_put h s 1 (ez_v (.inl (0)))) = h1 at *
  refine ez_cs hB1.2.1 rfl rfl rfl rfl rfl (rd_copyR hB1 tv (by omega) (by omega) (by omega) (by omega) (fun g τ1 p a1 a2 a3 a4 a5 a6 a7 a8 => ez_KA ?_))
  have ts1 := (a2.1 s (by rw [ts]; decide)).1.trans ts
  have nps : p ≠ s := fun e => by rw [e, ts] at a5; cases a5
  have c1 := a2.2
  refine ez_pf a1 ts1 rfl rfl tq_32 rfl rfl rfl rfl (ez_vdR rfl a4 (by omega) (by omega)) (fun hB4 w5 => ?_)
  refine ez_go (n := 1) (pc' := 97) (L' := [(4, .inl (qz_I h b 3)), (3, .inr (.inr (some (qz_P h b 0)))), (0, .inr (.inr (some (s)))), (1, .inr (.inr (some (b)))), (2, .inr (.inr none))]) (st' := []) rfl ?_
  have e0 : qz_I (dz_put g s 0 (ez_v (.inr (.inr (some (p)))))) s 0 = (p : Int) + 1 := by rw [w5]; rfl
  have eP : qz_P (dz_put g s 0 (ez_v (.inr (.inr (some (p)))))) s 0 = p := by show (qz_I _ s 0 - 1).toNat = p; rw [e0]; omega
  refine ez_ret0 rfl rfl (kx _ τ1 p hB4 (fun q hq => ⟨(a2.1 q hq).1, fun q1 => ?_⟩) (fun q q1 q2 => ?_) e0 ⟨?_, fun j v hj => ?_⟩ ?_ ?_)
  · rw [dz_put_at, if_neg q1, (a2.1 q hq).2]; exact f1 q q1
  · by_cases e : q = p; (· rw [e]; exact a4); (· rw [a3 q e] at q2; exact absurd q1 q2)
  · rw [eP, ez_put_N, a7]; exact hs.1
  · rw [eP, ez_put_I (fun w => nps w.1), a8 j (by have := (List.getElem?_eq_some_iff.mp hj).1; omega), eI]; exact hs.2.2 j v hj
  · show g.1 ≤ h.1 + 1 ∧ h.1 ≤ g.1; omega
  · show g.2.1 ≤ h.2.1 + l.length ∧ h.2.1 ≤ g.2.1; omega

theorem rd_str1 (hB : ez_B τ h) (ts : τ s = 32) (tb : τ b = 30) (hs : sb h b l) (hr1 : h.1 + 1 ≤ 600192) (hr2 : h.2.1 + l.length ≤ 7302232) (kx : ∀ g τ1 p, ez_B τ1 g → (∀ q, τ q ≠ 0 → τ1 q = τ q ∧ (q ≠ s → g.2.2 q = h.2.2 q)) → (∀ q, τ q = 0 → τ1 q ≠ 0 → τ1 q = 31) → qz_I g s 0 = ((p : Nat) : Int) + 1 → nz_S g s l → (g.1 ≤ h.1 + 1 ∧ h.1 ≤ g.1) → (g.2.1 ≤ h.2.1 + l.length ∧ h.2.1 ≤ g.2.1) → Q (.inl none, g)) : ez_W (d + 4) cm_324 0 [(0, .inr (.inr (some (s)))), (1, .inr (.inr (some (b))))] [] h Q := by
  refine ez_go (n := 3) (pc' := 3) (L' := [(0, .inr (.inr (some (s)))), (1, .inr (.inr (some (b))))]) (st' := [.inr (.inr none), .inr (.inr (some (b))), .inr (.inr (some (s)))]) rfl ?_
  refine ez_ci hB.2.1 rfl rfl rfl rfl rfl rfl (rd_str0 hB ts tb hs hr1 hr2 (fun g τ1 p a1 a2 a3 a4 a5 a6 a7 => ez_K0 ?_))
  exact ez_ret0 rfl rfl (kx g τ1 p a1 a2 a3 a4 a5 a6 a7)

theorem rd_toString (hB : ez_B τ h) (tb : τ b = 30) (tv : τ (qz_P h b 0) = 31) (hs : sb h b l) (hr1 : h.1 + 2 ≤ 600192) (hr2 : h.2.1 + 4 + l.length ≤ 7302232) (kx : ∀ g τ1 s, ez_B τ1 g → (∀ q, τ q ≠ 0 → τ1 q = τ q ∧ g.2.2 q = h.2.2 q) → (∀ q, τ q = 0 → τ1 q ≠ 0 → (τ1 q = 31 ∨ τ1 q = 33)) → τ1 s = 33 → τ s = 0 → nz_S g s l → (g.1 ≤ h.1 + 2 ∧ h.1 ≤ g.1) → (g.2.1 ≤ h.2.1 + 4 + l.length ∧ h.2.1 ≤ g.2.1) → Q (.inl (some (.inr (.inr (some s)))), g)) : ez_W (d + 5) cm_332 0 [(0, .inr (.inr (some (b))))] [] h Q := by
  refine ez_nw' (t := 32) hB rfl rfl rfl tq_32 rfl rfl (by omega) (by show h.2.1 + 4 ≤ 7302232; omega) (fun g1 τ1 p1 hB1 x1 o1 t1 z1 e1 y1 => ?_)
  have x1 : ez_xt τ h τ1 g1 1 4 := x1
  have c1 := x1.2
  have tbn1 := (x1.1 _ (by rw [tb]; decide)).1.trans tb
  have eb : g1.2.2 b = h.2.2 b := (x1.1 b (by rw [tb]; decide)).2
  have ev : g1.2.2 (qz_P h b 0) = h.2.2 (qz_P h b 0) := (x1.1 _ (by rw [tv]; decide)).2
  have eP : qz_P g1 b 0 = qz_P h b 0 := by unfold qz_P qz_I; rw [eb]
  have hs1 : sb g1 b l := ⟨by unfold qz_I; rw [eb]; exact hs.1, by rw [eP]; unfold qz_N; rw [ev]; exact hs.2.1, fun j v hj => by rw [eP]; unfold qz_I; rw [ev]; exact hs.2.2 j v hj⟩
  refine ez_go (n := 2) (pc' := 5) (L' := [(0, .inr (.inr (some (b))))]) (st' := [.inr (.inr (some (b))), .inr (.inr (some (p1))), .inr (.inr (some (p1)))]) rfl ?_
  refine ez_ci hB1.2.1 rfl rfl rfl rfl rfl rfl (rd_str1 hB1 t1 tbn1 hs1 (by omega) (by omega) (fun g τ1 p a1 a2 a3 a4 a5 a6 a7 => ez_K0 ?_))
  have ts1 : τ1 p1 = 32 := (a2 p1 (by rw [t1]; decide)).1.trans t1
  refine ez_retA rfl rfl rfl (kx g (dz_tn τ1 p1 33) p1 (ez_rtStr a1 ts1 (by omega)) (fun q hq => ?_) (fun q q1 q2 => ?_) ez_tn_eq z1 a5 (by omega) (by omega))
  · have nq : q ≠ p1 := fun e => by rw [e] at hq; exact hq z1
    have q3 := x1.1 q hq
    have q4 := a2 q (by rw [q3.1]; exact hq)
    exact ⟨by rw [ez_tn_ne nq, q4.1]; exact q3.1, by rw [q4.2 nq]; exact q3.2⟩
  · by_cases e : q = p1
    · rw [e, ez_tn_eq]; exact Or.inr rfl
    · rw [ez_tn_ne e] at q2 ⊢; exact Or.inl (a3 q (by rw [o1 q e]; exact q1) q2)

end EzSf
/-! The model: word. (Written by wip/p2/py/pv67.py.) -/
theorem i2c_n : ∀ n : Fin 128, ((Int32.ofInt (n.1 : Int)).toUInt32 % 65536).toInt32.toInt = (n.1 : Int) := by decide
theorem i2c_id {v : Int} (h0 : 0 ≤ v) (h1 : v ≤ 127) : ((Int32.ofInt v).toUInt32 % 65536).toInt32.toInt = v := by
  have e := i2c_n ⟨v.toNat, by omega⟩
  have e2 : ((v.toNat : Nat) : Int) = v := by omega
  rw [show ((⟨v.toNat, by omega⟩ : Fin 128).1 : Int) = v from e2] at e
  exact e
/-- n bytes from a on -/
def wl (b : Int → Int) (a : Int) (n : Nat) : List Int := (List.range n).map (fun j : Nat => b (a + (j : Int)))
theorem wl_len (b : Int → Int) (a : Int) (n : Nat) : (wl b a n).length = n := by unfold wl; simp
theorem wl_snoc (b : Int → Int) (a : Int) (n : Nat) : wl b a (n + 1) = wl b a n ++ [b (a + (n : Int))] := by unfold wl; rw [List.range_succ, List.map_append]; rfl
/-- what word leaves as it was -/
def wx (τ : Nat → Nat) (h : cz_H) (τ1 : Nat → Nat) (g : cz_H) : Prop :=
  (∀ q, τ q ≠ 0 → τ1 q = τ q ∧ (q ≠ 770 → τ q ≠ 30 → τ q ≠ 31 → g.2.2 q = h.2.2 q)) ∧ (∀ q, τ q = 0 → τ1 q ≠ 0 → 30 ≤ τ1 q ∧ τ1 q ≤ 33) ∧ (∀ j, j ≠ 17 → qz_I g 770 j = qz_I h 770 j) ∧ (h.1 ≤ g.1 ∧ h.2.1 ≤ g.2.1)
theorem wx.trans {τ τ1 τ2 : Nat → Nat} {h g k : cz_H} (x : wx τ h τ1 g) (y : wx τ1 g τ2 k) : wx τ h τ2 k := by
  obtain ⟨x1, x2, x3, x4⟩ := x
  obtain ⟨y1, y2, y3, y4⟩ := y
  have hne : ∀ q, τ q ≠ 0 → τ1 q ≠ 0 := fun q hq => by rw [(x1 q hq).1]; exact hq
  refine ⟨fun q hq => ⟨(y1 q (hne q hq)).1.trans (x1 q hq).1, fun q0 q1 q2 => ?_⟩, fun q q1 q2 => ?_, fun j hj => (y3 j hj).trans (x3 j hj), by omega⟩
  · rw [(y1 q (hne q hq)).2 q0 (by rw [(x1 q hq).1]; exact q1) (by rw [(x1 q hq).1]; exact q2)]; exact (x1 q hq).2 q0 q1 q2
  · by_cases e : τ1 q = 0
    · exact y2 q e q2
    · rw [(y1 q e).1]; exact x2 q q1 e
theorem sx.wx {τ τ1 : Nat → Nat} {h g : cz_H} {b : Nat} (x : sx τ h τ1 g b) (t770 : τ 770 = 75) : wx τ h τ1 g :=
  ⟨fun q hq => ⟨(x.1 q hq).1, fun _ => (x.1 q hq).2⟩, fun q q1 q2 => by rw [x.2.1 q q1 q2]; decide, fun j _ => by unfold qz_I; rw [(x.1 770 (by rw [t770]; decide)).2 (by rw [t770]; decide) (by rw [t770]; decide)], x.2.2.1⟩
theorem mz.wx {τ : Nat → Nat} {h g : cz_H} (m : mz h g) : wx τ h τ g := ⟨fun q hq => ⟨rfl, fun q0 _ _ => m.1.2.2 q (dz_beq_ne q0)⟩, fun q q1 q2 => absurd q1 q2, m.2, by rw [m.1.1, m.1.2.1]; exact ⟨Nat.le_refl _, Nat.le_refl _⟩⟩
theorem wx.b {τ τ1 : Nat → Nat} {h g : cz_H} (x : wx τ h τ1 g) (t771 : τ 771 = 76) : mb g = mb h := funext fun i => by unfold mb qz_I; rw [(x.1 771 (by rw [t771]; decide)).2 (by decide) (by rw [t771]; decide) (by rw [t771]; decide)]
theorem sb_tv {τ : Nat → Nat} {h : cz_H} {b : Nat} (hB : ez_B τ h) (tb : τ b = 30) : τ (qz_P h b 0) = 31 := by
  have b1 : 1 ≤ qz_I h b 0 ∧ qz_I h b 0 ≤ 1000000 := ez_fB (cl := 16) hB tb tq_30 rfl rfl (by decide)
  exact (ez_old (cl := 16) (k := 0) hB tb tq_30 rfl rfl (by decide) (show qz_I h b 0 = ((qz_P h b 0 : Nat) : Int) + 1 by unfold qz_P; omega)).1
theorem sb_eq {τ : Nat → Nat} {h g : cz_H} {b : Nat} {l : List Int} (hs : sb h b l) (e1 : g.2.2 b = h.2.2 b) (e2 : g.2.2 (qz_P h b 0) = h.2.2 (qz_P h b 0)) : sb g b l ∧ sc g b = sc h b := by
  have eP : qz_P g b 0 = qz_P h b 0 := by unfold qz_P qz_I; rw [e1]
  refine ⟨⟨by unfold qz_I; rw [e1]; exact hs.1, by rw [eP]; unfold qz_N; rw [e2]; exact hs.2.1, fun j v hj => by rw [eP]; unfold qz_I; rw [e2]; exact hs.2.2 j v hj⟩, by unfold sc; rw [eP]; unfold qz_N; rw [e2]⟩
section EzWo
variable {d : Nat} {h : cz_H} {τ : Nat → Nat} {Q : cz_F → Prop} {b : Nat}
theorem rd_word_l (t771 : τ 771 = 76) (ha0 : 0 ≤ qz_I h 770 17) (hs18 : qz_I h 770 18 ≤ 4096) (hpl : ∀ j, qz_I h 770 17 ≤ j → j < qz_I h 770 18 → 0 ≤ mb h j ∧ mb h j ≤ 127) (hr1 : h.1 + 600 ≤ 600192) (hr2 : h.2.1 + 50000 ≤ 7302232) (kx : ∀ g τ1 s, ez_B τ1 g → wx τ h τ1 g → τ1 s = 33 → τ s = 0 → nz_S g s (wl (mb h) (qz_I h 770 17) (rz_tok (mb h) (qz_I h 770 18 - qz_I h 770 17).toNat (qz_I h 770 17) - qz_I h 770 17).toNat) → qz_I g 770 17 = rz_tok (mb h) (qz_I h 770 18 - qz_I h 770 17).toNat (qz_I h 770 17) → (g.2.1 : Int) ≤ h.2.1 + 5 * (rz_tok (mb h) (qz_I h 770 18 - qz_I h 770 17).toNat (qz_I h 770 17) - qz_I h 770 17) + 40 → 8 * (g.1 : Int) ≤ 8 * h.1 + (rz_tok (mb h) (qz_I h 770 18 - qz_I h 770 17).toNat (qz_I h 770 17) - qz_I h 770 17) + 40 → Q (.inl (some (.inr (.inr (some s)))), g)) : ∀ (m n : Nat) (g : cz_H) (τ1 : Nat → Nat), m = (qz_I h 770 18 - qz_I g 770 17).toNat → ez_B τ1 g → wx τ h τ1 g → τ1 770 = 75 → τ1 b = 30 → sb g b (wl (mb h) (qz_I h 770 17) n) → 16 ≤ sc g b → sc g b ≤ 2 * ((wl (mb h) (qz_I h 770 17) n).length : Int) + 16 → (g.2.1 : Int) - h.2.1 ≤ 4 + 2 * sc g b → 16 * ((g.1 : Int) - h.1 - 1) ≤ sc g b → (n : Int) = qz_I g 770 17 - qz_I h 770 17 → qz_I g 770 17 ≤ qz_I h 770 18 → rz_tok (mb h) (qz_I h 770 18 - qz_I h 770 17).toNat (qz_I h 770 17) = rz_tok (mb h) (qz_I h 770 18 - qz_I g 770 17).toNat (qz_I g 770 17) → τ b = 0 → ez_W (d + 6) cm_309 8 [(1, .inr (.inr (some (b)))), (0, .inr (.inr (some (770))))] [] g Q := by
  intro m
  induction m with
  | zero =>
    intro n g τ1 hm hBg hx u770 ub hs c16 hc rm1 rm2 hn hat hE hub
    have hst : qz_I g 770 18 = qz_I h 770 18 := hx.2.2.1 18 (by decide)
    have hmb := hx.b t771
    have hx4 := hx.2.2.2
    have hwl := wl_len (mb h) (qz_I h 770 17) n
    have hc9 := hc
    rw [wl_len] at hc9
    refine ez_go (n := 1) (pc' := 9) (L' := [(1, .inr (.inr (some (b)))), (0, .inr (.inr (some (770))))]) (st' := [.inr (.inr (some (770)))]) rfl ?_
    refine ez_gI hBg u770 rfl rfl tq_75 rfl rfl (fun (b1 : 0 ≤ qz_I g 770 17) (b1' : qz_I g 770 17 ≤ 4200) => ?_)
    refine ez_go (n := 1) (pc' := 13) (L' := [(1, .inr (.inr (some (b)))), (0, .inr (.inr (some (770))))]) (st' := [.inr (.inr (some (770))), .inl (qz_I g 770 17)]) rfl ?_
    refine ez_gI hBg u770 rfl rfl tq_75 rfl rfl (fun (b2 : 0 ≤ qz_I g 770 18) (b2' : qz_I g 770 18 ≤ 4096) => ?_)
    refine ez_icmp rfl rfl ⟨by first | omega | exact (sz_i32 _).1, by first | omega | exact (sz_i32 _).2⟩ ⟨by first | omega | exact (sz_i32 _).1, by first | omega | exact (sz_i32 _).2⟩ (fun (c3 : (qz_I g 770 18) ≤ (qz_I g 770 17)) => ?_) (fun (c3 : ¬((qz_I g 770 18) ≤ (qz_I g 770 17))) => ?_)
    · skip
      have hEa : rz_tok (mb h) (qz_I h 770 18 - qz_I h 770 17).toNat (qz_I h 770 17) = qz_I g 770 17 := by
        rw [hE]
        by_cases e9 : qz_I g 770 17 < qz_I h 770 18
        · rw [show (qz_I h 770 18 - qz_I g 770 17).toNat = (qz_I h 770 18 - (qz_I g 770 17 + 1)).toNat + 1 by omega]
          show (if mb h (qz_I g 770 17) = 9 ∨ mb h (qz_I g 770 17) = 32 then _ else _) = _
          rw [if_pos (by first | exact hbk | (exfalso; omega))]
        · rw [show (qz_I h 770 18 - qz_I g 770 17).toNat = 0 by omega]; rfl
      refine ez_go (n := 1) (pc' := 54) (L' := [(1, .inr (.inr (some (b)))), (0, .inr (.inr (some (770))))]) (st' := [.inr (.inr (some (b)))]) rfl ?_
      refine ez_cv hBg ub rfl rfl rfl tq_30 rfl rfl rfl (rd_toString hBg ub (sb_tv hBg ub) hs (by omega) (by rw [wl_len] at hc ⊢; omega) (fun g1 τ2 s b1 b2 b3 b4 b5 b6 b7 b8 => ez_KA ?_))
      have hn2 : (rz_tok (mb h) (qz_I h 770 18 - qz_I h 770 17).toNat (qz_I h 770 17) - qz_I h 770 17).toNat = n := by rw [hEa]; omega
      rw [wl_len] at hc b8
      have z770 : g1.2.2 770 = g.2.2 770 := (b2 770 (by rw [u770]; decide)).2
      refine ez_retA rfl rfl rfl (kx g1 τ2 s b1 (hx.trans ⟨fun q hq => ⟨(b2 q hq).1, fun _ _ _ => (b2 q hq).2⟩, fun q q1 q2 => ?_, fun j _ => by unfold qz_I; rw [z770], b7.2, b8.2⟩) b4 ?_ (by rw [hn2]; exact b6) (by rw [hEa]; unfold qz_I; rw [z770]) (by rw [hEa]; omega) (by rw [hEa]; omega))
      · rcases b3 q q1 q2 with e | e <;> rw [e] <;> decide
      · by_cases e : τ s = 0; (· exact e); (· have := (hx.1 s e).1; rw [b5] at this; exact absurd this.symm e)
    · skip
      have hlt : qz_I g 770 17 < qz_I h 770 18 := by omega
      refine ez_go (n := 2) (pc' := 21) (L' := [(1, .inr (.inr (some (b)))), (0, .inr (.inr (some (770))))]) (st' := [.inr (.inr (some (770))), .inr (.inr (some (770)))]) rfl ?_
      refine ez_cv hBg u770 rfl rfl rfl tq_75 rfl rfl rfl (rd_peek hBg u770 (fun p1 p1' => ez_K1 ?_))
      rw [hst, hmb, mk_in hlt] at p1 p1' ⊢
      refine ez_cv hBg u770 rfl rfl rfl tq_75 rfl rfl rfl (rd_mblank (by omega) (by omega) (fun hbk => ez_K1 ?_) (fun hbk => ez_K1 ?_))
      · skip
        refine ez_if rfl rfl ⟨by decide, by decide⟩ (fun _ => ?_) (fun (c4 : ¬((1 : Int) ≠ (0))) => absurd c4 (by decide))
        have hEa : rz_tok (mb h) (qz_I h 770 18 - qz_I h 770 17).toNat (qz_I h 770 17) = qz_I g 770 17 := by
          rw [hE]
          by_cases e9 : qz_I g 770 17 < qz_I h 770 18
          · rw [show (qz_I h 770 18 - qz_I g 770 17).toNat = (qz_I h 770 18 - (qz_I g 770 17 + 1)).toNat + 1 by omega]
            show (if mb h (qz_I g 770 17) = 9 ∨ mb h (qz_I g 770 17) = 32 then _ else _) = _
            rw [if_pos (by first | exact hbk | (exfalso; omega))]
          · rw [show (qz_I h 770 18 - qz_I g 770 17).toNat = 0 by omega]; rfl
        refine ez_go (n := 1) (pc' := 54) (L' := [(1, .inr (.inr (some (b)))), (0, .inr (.inr (some (770))))]) (st' := [.inr (.inr (some (b)))]) rfl ?_
        refine ez_cv hBg ub rfl rfl rfl tq_30 rfl rfl rfl (rd_toString hBg ub (sb_tv hBg ub) hs (by omega) (by rw [wl_len] at hc ⊢; omega) (fun g1 τ2 s b1 b2 b3 b4 b5 b6 b7 b8 => ez_KA ?_))
        have hn2 : (rz_tok (mb h) (qz_I h 770 18 - qz_I h 770 17).toNat (qz_I h 770 17) - qz_I h 770 17).toNat = n := by rw [hEa]; omega
        rw [wl_len] at hc b8
        have z770 : g1.2.2 770 = g.2.2 770 := (b2 770 (by rw [u770]; decide)).2
        refine ez_retA rfl rfl rfl (kx g1 τ2 s b1 (hx.trans ⟨fun q hq => ⟨(b2 q hq).1, fun _ _ _ => (b2 q hq).2⟩, fun q q1 q2 => ?_, fun j _ => by unfold qz_I; rw [z770], b7.2, b8.2⟩) b4 ?_ (by rw [hn2]; exact b6) (by rw [hEa]; unfold qz_I; rw [z770]) (by rw [hEa]; omega) (by rw [hEa]; omega))
        · rcases b3 q q1 q2 with e | e <;> rw [e] <;> decide
        · by_cases e : τ s = 0; (· exact e); (· have := (hx.1 s e).1; rw [b5] at this; exact absurd this.symm e)
      · skip
        refine ez_if rfl rfl ⟨by decide, by decide⟩ (fun (c5 : (0 : Int) ≠ (0)) => absurd c5 (by decide)) (fun _ => ?_)
        refine ez_go (n := 2) (pc' := 32) (L' := [(1, .inr (.inr (some (b)))), (0, .inr (.inr (some (770))))]) (st' := [.inr (.inr (some (770))), .inr (.inr (some (b)))]) rfl ?_
        refine ez_cv hBg u770 rfl rfl rfl tq_75 rfl rfl rfl (rd_peek hBg u770 (fun p2 p2' => ez_K1 ?_))
        rw [hst, hmb, mk_in hlt] at p2 p2' ⊢
        refine ez_go (n := 1) (pc' := 36) (L' := [(1, .inr (.inr (some (b)))), (0, .inr (.inr (some (770))))]) (st' := [.inl (((Int32.ofInt ((mb h (qz_I g 770 17)))).toUInt32 % 65536).toInt32.toInt), .inr (.inr (some (b)))]) rfl ?_
        have p0 := hpl (qz_I g 770 17) (by omega) hlt
        rw [i2c_id p0.1 p0.2]
        exfalso; omega
  | succ m ih =>
    intro n g τ1 hm hBg hx u770 ub hs c16 hc rm1 rm2 hn hat hE hub
    have hst : qz_I g 770 18 = qz_I h 770 18 := hx.2.2.1 18 (by decide)
    have hmb := hx.b t771
    have hx4 := hx.2.2.2
    have hwl := wl_len (mb h) (qz_I h 770 17) n
    have hc9 := hc
    rw [wl_len] at hc9
    refine ez_go (n := 1) (pc' := 9) (L' := [(1, .inr (.inr (some (b)))), (0, .inr (.inr (some (770))))]) (st' := [.inr (.inr (some (770)))]) rfl ?_
    refine ez_gI hBg u770 rfl rfl tq_75 rfl rfl (fun (b1 : 0 ≤ qz_I g 770 17) (b1' : qz_I g 770 17 ≤ 4200) => ?_)
    refine ez_go (n := 1) (pc' := 13) (L' := [(1, .inr (.inr (some (b)))), (0, .inr (.inr (some (770))))]) (st' := [.inr (.inr (some (770))), .inl (qz_I g 770 17)]) rfl ?_
    refine ez_gI hBg u770 rfl rfl tq_75 rfl rfl (fun (b2 : 0 ≤ qz_I g 770 18) (b2' : qz_I g 770 18 ≤ 4096) => ?_)
    refine ez_icmp rfl rfl ⟨by first | omega | exact (sz_i32 _).1, by first | omega | exact (sz_i32 _).2⟩ ⟨by first | omega | exact (sz_i32 _).1, by first | omega | exact (sz_i32 _).2⟩ (fun (c3 : (qz_I g 770 18) ≤ (qz_I g 770 17)) => ?_) (fun (c3 : ¬((qz_I g 770 18) ≤ (qz_I g 770 17))) => ?_)
    · skip
      have hEa : rz_tok (mb h) (qz_I h 770 18 - qz_I h 770 17).toNat (qz_I h 770 17) = qz_I g 770 17 := by
        rw [hE]
        by_cases e9 : qz_I g 770 17 < qz_I h 770 18
        · rw [show (qz_I h 770 18 - qz_I g 770 17).toNat = (qz_I h 770 18 - (qz_I g 770 17 + 1)).toNat + 1 by omega]
          show (if mb h (qz_I g 770 17) = 9 ∨ mb h (qz_I g 770 17) = 32 then _ else _) = _
          rw [if_pos (by first | exact hbk | (exfalso; omega))]
        · rw [show (qz_I h 770 18 - qz_I g 770 17).toNat = 0 by omega]; rfl
      refine ez_go (n := 1) (pc' := 54) (L' := [(1, .inr (.inr (some (b)))), (0, .inr (.inr (some (770))))]) (st' := [.inr (.inr (some (b)))]) rfl ?_
      refine ez_cv hBg ub rfl rfl rfl tq_30 rfl rfl rfl (rd_toString hBg ub (sb_tv hBg ub) hs (by omega) (by rw [wl_len] at hc ⊢; omega) (fun g1 τ2 s b1 b2 b3 b4 b5 b6 b7 b8 => ez_KA ?_))
      have hn2 : (rz_tok (mb h) (qz_I h 770 18 - qz_I h 770 17).toNat (qz_I h 770 17) - qz_I h 770 17).toNat = n := by rw [hEa]; omega
      rw [wl_len] at hc b8
      have z770 : g1.2.2 770 = g.2.2 770 := (b2 770 (by rw [u770]; decide)).2
      refine ez_retA rfl rfl rfl (kx g1 τ2 s b1 (hx.trans ⟨fun q hq => ⟨(b2 q hq).1, fun _ _ _ => (b2 q hq).2⟩, fun q q1 q2 => ?_, fun j _ => by unfold qz_I; rw [z770], b7.2, b8.2⟩) b4 ?_ (by rw [hn2]; exact b6) (by rw [hEa]; unfold qz_I; rw [z770]) (by rw [hEa]; omega) (by rw [hEa]; omega))
      · rcases b3 q q1 q2 with e | e <;> rw [e] <;> decide
      · by_cases e : τ s = 0; (· exact e); (· have := (hx.1 s e).1; rw [b5] at this; exact absurd this.symm e)
    · skip
      have hlt : qz_I g 770 17 < qz_I h 770 18 := by omega
      refine ez_go (n := 2) (pc' := 21) (L' := [(1, .inr (.inr (some (b)))), (0, .inr (.inr (some (770))))]) (st' := [.inr (.inr (some (770))), .inr (.inr (some (770)))]) rfl ?_
      refine ez_cv hBg u770 rfl rfl rfl tq_75 rfl rfl rfl (rd_peek hBg u770 (fun p1 p1' => ez_K1 ?_))
      rw [hst, hmb, mk_in hlt] at p1 p1' ⊢
      refine ez_cv hBg u770 rfl rfl rfl tq_75 rfl rfl rfl (rd_mblank (by omega) (by omega) (fun hbk => ez_K1 ?_) (fun hbk => ez_K1 ?_))
      · skip
        refine ez_if rfl rfl ⟨by decide, by decide⟩ (fun _ => ?_) (fun (c4 : ¬((1 : Int) ≠ (0))) => absurd c4 (by decide))
        have hEa : rz_tok (mb h) (qz_I h 770 18 - qz_I h 770 17).toNat (qz_I h 770 17) = qz_I g 770 17 := by
          rw [hE]
          by_cases e9 : qz_I g 770 17 < qz_I h 770 18
          · rw [show (qz_I h 770 18 - qz_I g 770 17).toNat = (qz_I h 770 18 - (qz_I g 770 17 + 1)).toNat + 1 by omega]
            show (if mb h (qz_I g 770 17) = 9 ∨ mb h (qz_I g 770 17) = 32 then _ else _) = _
            rw [if_pos (by first | exact hbk | (exfalso; omega))]
          · rw [show (qz_I h 770 18 - qz_I g 770 17).toNat = 0 by omega]; rfl
        refine ez_go (n := 1) (pc' := 54) (L' := [(1, .inr (.inr (some (b)))), (0, .inr (.inr (some (770))))]) (st' := [.inr (.inr (some (b)))]) rfl ?_
        refine ez_cv hBg ub rfl rfl rfl tq_30 rfl rfl rfl (rd_toString hBg ub (sb_tv hBg ub) hs (by omega) (by rw [wl_len] at hc ⊢; omega) (fun g1 τ2 s b1 b2 b3 b4 b5 b6 b7 b8 => ez_KA ?_))
        have hn2 : (rz_tok (mb h) (qz_I h 770 18 - qz_I h 770 17).toNat (qz_I h 770 17) - qz_I h 770 17).toNat = n := by rw [hEa]; omega
        rw [wl_len] at hc b8
        have z770 : g1.2.2 770 = g.2.2 770 := (b2 770 (by rw [u770]; decide)).2
        refine ez_retA rfl rfl rfl (kx g1 τ2 s b1 (hx.trans ⟨fun q hq => ⟨(b2 q hq).1, fun _ _ _ => (b2 q hq).2⟩, fun q q1 q2 => ?_, fun j _ => by unfold qz_I; rw [z770], b7.2, b8.2⟩) b4 ?_ (by rw [hn2]; exact b6) (by rw [hEa]; unfold qz_I; rw [z770]) (by rw [hEa]; omega) (by rw [hEa]; omega))
        · rcases b3 q q1 q2 with e | e <;> rw [e] <;> decide
        · by_cases e : τ s = 0; (· exact e); (· have := (hx.1 s e).1; rw [b5] at this; exact absurd this.symm e)
      · skip
        refine ez_if rfl rfl ⟨by decide, by decide⟩ (fun (c5 : (0 : Int) ≠ (0)) => absurd c5 (by decide)) (fun _ => ?_)
        refine ez_go (n := 2) (pc' := 32) (L' := [(1, .inr (.inr (some (b)))), (0, .inr (.inr (some (770))))]) (st' := [.inr (.inr (some (770))), .inr (.inr (some (b)))]) rfl ?_
        refine ez_cv hBg u770 rfl rfl rfl tq_75 rfl rfl rfl (rd_peek hBg u770 (fun p2 p2' => ez_K1 ?_))
        rw [hst, hmb, mk_in hlt] at p2 p2' ⊢
        refine ez_go (n := 1) (pc' := 36) (L' := [(1, .inr (.inr (some (b)))), (0, .inr (.inr (some (770))))]) (st' := [.inl (((Int32.ofInt ((mb h (qz_I g 770 17)))).toUInt32 % 65536).toInt32.toInt), .inr (.inr (some (b)))]) rfl ?_
        have p0 := hpl (qz_I g 770 17) (by omega) hlt
        rw [i2c_id p0.1 p0.2]
        refine ez_cv hBg ub rfl rfl rfl tq_30 rfl rfl rfl (rd_append hBg ub hs c16 hc (by rw [wl_len]; omega) (by omega) (by rw [wl_len] at hc; omega) p0.1 p0.2 (fun g1 τ2 hB1 x1 s1 l1 u1 => ez_KA ?_))
        have y1 := x1.wx u770
        have v770 : τ2 770 = 75 := (x1.1 770 (by rw [u770]; decide)).1.trans u770
        have ub1 : τ2 b = 30 := (x1.1 b (by rw [ub]; decide)).1.trans ub
        have x4 := x1.2.2.2
        have x3 := x1.2.2.1
        have e17 : qz_I g1 770 17 = qz_I g 770 17 := by unfold qz_I; rw [(x1.1 770 (by rw [u770]; decide)).2 (by rw [u770]; decide) (by rw [u770]; decide)]
        refine ez_go (n := 3) (pc' := 42) (L' := [(1, .inr (.inr (some (b)))), (0, .inr (.inr (some (770))))]) (st' := [.inr (.inr (some (770))), .inr (.inr (some (770)))]) rfl ?_
        refine ez_gI hB1 v770 rfl rfl tq_75 rfl rfl (fun (b6 : 0 ≤ qz_I g1 770 17) (b6' : qz_I g1 770 17 ≤ 4200) => ?_)
        refine ez_go (n := 2) (pc' := 47) (L' := [(1, .inr (.inr (some (b)))), (0, .inr (.inr (some (770))))]) (st' := [.inl ((qz_I g1 770 17) + (1)), .inr (.inr (some (770)))]) rfl ?_
        refine ez_pf hB1 v770 rfl rfl tq_75 rfl rfl rfl rfl (ez_vdI rfl rfl (by omega) (by omega)) (fun hB7 w8 => ?_)
        refine ez_go (n := 1) (pc' := 8) (L' := [(1, .inr (.inr (some (b)))), (0, .inr (.inr (some (770))))]) (st' := []) rfl ?_
        refine ez_less [(1, .inr (.inr (some (b)))), (0, .inr (.inr (some (770))))] rfl ⟨rfl, rfl, trivial⟩ ?_
        have f17 : qz_I (dz_put g1 770 17 (ez_v (.inl ((qz_I g1 770 17) + (1))))) 770 17 = qz_I g 770 17 + 1 := by rw [w8, rz_rd ⟨by omega, by omega⟩, e17]
        have nb : b ≠ 770 := fun e => by rw [e, u770] at ub; cases ub
        have nv : qz_P g1 b 0 ≠ 770 := fun e => by have := sb_tv hB1 ub1; rw [e, v770] at this; cases this
        obtain ⟨s2, c2⟩ := sb_eq (τ := τ) (g := (dz_put g1 770 17 (ez_v (.inl ((qz_I g1 770 17) + (1)))))) s1 (mz_put.1.2.2 _ (dz_beq_ne nb)) (mz_put.1.2.2 _ (dz_beq_ne nv))
        have r1 : ((dz_put g1 770 17 (ez_v (.inl ((qz_I g1 770 17) + (1)))))).1 = g1.1 := rfl
        have r2 : ((dz_put g1 770 17 (ez_v (.inl ((qz_I g1 770 17) + (1)))))).2.1 = g1.2.1 := rfl
        have el : wl (mb h) (qz_I h 770 17) n ++ [mb h (qz_I g 770 17)] = wl (mb h) (qz_I h 770 17) (n + 1) := by rw [wl_snoc, show qz_I h 770 17 + (n : Int) = qz_I g 770 17 by omega]
        rw [el] at s2 u1
        refine ih (n + 1) _ τ2 (by rw [f17]; omega) hB7 ((hx.trans y1).trans mz_put.wx) v770 ub1 s2 (by rw [c2]; exact l1) (by rw [c2]; exact u1) (by rw [c2, r2]; omega) (by rw [c2, r1]; omega) (by rw [f17]; omega) (by rw [f17]; omega) ?_ hub
        rw [f17, hE, show (qz_I h 770 18 - qz_I g 770 17).toNat = (qz_I h 770 18 - (qz_I g 770 17 + 1)).toNat + 1 by omega]
        show (if mb h (qz_I g 770 17) = 9 ∨ mb h (qz_I g 770 17) = 32 then _ else _) = _
        rw [if_neg hbk]

theorem rd_word (hB : ez_B τ h) (t770 : τ 770 = 75) (ha0 : 0 ≤ qz_I h 770 17) (hle : qz_I h 770 17 ≤ qz_I h 770 18) (hs18 : qz_I h 770 18 ≤ 4096) (hpl : ∀ j, qz_I h 770 17 ≤ j → j < qz_I h 770 18 → 0 ≤ mb h j ∧ mb h j ≤ 127) (hr1 : h.1 + 600 ≤ 600192) (hr2 : h.2.1 + 50000 ≤ 7302232) (kx : ∀ g τ1 s, ez_B τ1 g → wx τ h τ1 g → τ1 s = 33 → τ s = 0 → nz_S g s (wl (mb h) (qz_I h 770 17) (rz_tok (mb h) (qz_I h 770 18 - qz_I h 770 17).toNat (qz_I h 770 17) - qz_I h 770 17).toNat) → qz_I g 770 17 = rz_tok (mb h) (qz_I h 770 18 - qz_I h 770 17).toNat (qz_I h 770 17) → (g.2.1 : Int) ≤ h.2.1 + 5 * (rz_tok (mb h) (qz_I h 770 18 - qz_I h 770 17).toNat (qz_I h 770 17) - qz_I h 770 17) + 40 → 8 * (g.1 : Int) ≤ 8 * h.1 + (rz_tok (mb h) (qz_I h 770 18 - qz_I h 770 17).toNat (qz_I h 770 17) - qz_I h 770 17) + 40 → Q (.inl (some (.inr (.inr (some s)))), g)) : ez_W (d + 6) cm_309 0 [(0, .inr (.inr (some (770))))] [] h Q := by
  refine ez_nw' (t := 29) hB rfl rfl rfl tq_29 rfl rfl (by omega) (by show h.2.1 + 4 ≤ 7302232; omega) (fun g1 τ1 p1 hB1 x1 o1 t1 z1 e1 y1 => ?_)
  have x1 : ez_xt τ h τ1 g1 1 4 := x1
  have c1 := x1.2
  have t770n1 := (x1.1 _ (by rw [t770]; decide)).1.trans t770
  refine ez_go (n := 1) (pc' := 4) (L' := [(0, .inr (.inr (some (770))))]) (st' := [.inr (.inr (some (p1))), .inr (.inr (some (p1)))]) rfl ?_
  refine ez_ci hB1.2.1 rfl rfl rfl rfl rfl rfl (rd_sbi hB1 t1 (by omega) (by omega) (fun g τ1 p a1 a2 a3 a4 a5 a6 a7 a8 a9 a10 a11 => ez_K0 ?_))
  have eb : τ1 p1 = 29 := (a2 p1 (by rw [t1]; decide)).1.trans t1
  refine ez_go (n := 1) (pc' := 8) (L' := [(1, .inr (.inr (some (p1)))), (0, .inr (.inr (some (770))))]) (st' := []) rfl ?_
  refine ez_less [(1, .inr (.inr (some (p1)))), (0, .inr (.inr (some (770))))] rfl ⟨rfl, rfl, trivial⟩ ?_
  have npb : p ≠ p1 := fun e => by rw [e, t1] at a5; cases a5
  have eP : qz_P g p1 0 = p := by show (qz_I g _ 0 - 1).toNat = p; rw [a7]; omega
  have hsc : sc g p1 = 16 := by unfold sc; rw [eP]; exact a8
  have n7 : 770 ≠ p1 := fun e => by rw [← e, t770] at z1; cases z1
  have q770 : g.2.2 770 = h.2.2 770 := by have q1 := x1.1 770 (by rw [t770]; decide); rw [(a2 770 (by rw [q1.1, t770]; decide)).2 n7]; exact q1.2
  have e17 : ∀ j, qz_I g 770 j = qz_I h 770 j := fun j => by unfold qz_I; rw [q770]
  have hx : wx τ h (dz_tn τ1 p1 30) g := by
    refine ⟨fun q hq => ?_, fun q q1 q2 => ?_, fun j _ => e17 j, by omega⟩
    · have nq : q ≠ p1 := fun e => by rw [e] at hq; exact hq z1
      have q3 := x1.1 q hq
      have q4 := a2 q (by rw [q3.1]; exact hq)
      exact ⟨by rw [ez_tn_ne nq, q4.1]; exact q3.1, fun _ _ _ => by rw [q4.2 nq]; exact q3.2⟩
    · by_cases e : q = p1
      · rw [e, ez_tn_eq]; decide
      · rw [ez_tn_ne e] at q2 ⊢
        by_cases e2 : q = p
        · rw [e2, a4]; decide
        · rw [a3 q e2, o1 q e] at q2; exact absurd q1 q2
  have v770 : dz_tn τ1 p1 30 770 = 75 := by rw [ez_tn_ne n7, (a2 770 (by rw [(x1.1 770 (by rw [t770]; decide)).1, t770]; decide)).1, (x1.1 770 (by rw [t770]; decide)).1]; exact t770
  refine rd_word_l (b := p1) (ez_t771 hB t770) ha0 hs18 hpl hr1 hr2 kx _ 0 g _ rfl (ez_rtSB a1 eb (by omega)) hx v770 ez_tn_eq ⟨by rw [a9, y1, wl_len]; rfl, by rw [eP, a8, wl_len]; decide, fun j v hj => by simp [wl] at hj⟩ (by omega) (by rw [hsc, wl_len]; decide) (by omega) (by omega) (by rw [e17]; omega) (by rw [e17]; exact hle) (by rw [e17]) z1

end EzWo
/-! The model: begins, among. (Written by wip/p2/py/pv68.py.) -/
theorem ez_ldcW {d : Nat} {M : cz_M} {pc : Nat} {L : List (Nat × ez_V)} {st : List ez_V} {h : cz_H} {Q : cz_F → Prop} {x a b z : Nat} (hc : cz_code M pc = some (.ldc_w x, 3)) (hq : cz_lk M x = some (12, a, b, z)) (kk : ez_W d M (pc + 3) L (.inr (.inr (some a)) :: st) h Q) : ez_W d M pc L st h Q := by
  refine dz_wp_hp (q := (pc + 3, ez_v (.inr (.inr (some a))) :: st.map ez_v, h)) hc rfl rfl rfl rfl rfl ?_ kk
  show cz_hldc 3 M x pc (st.map ez_v) h = _
  unfold cz_hldc
  simp only [hq, show Nat.beq 12 11 = false from rfl, show Nat.beq 12 12 = true from rfl, cond_true, cond_false]
  rfl
section EzBg
variable {d : Nat} {h : cz_H} {τ : Nat → Nat} {Q : cz_F → Prop} {s w : Nat} {l m : List Int}
theorem rd_begins_l (hB : ez_B τ h) (t770 : τ 770 = 75) (ts : τ s = 33) (tw : τ w = 27) (hS : nz_S h s l) (hW : nz_S h w m) (hl : l.length ≤ 4096) (hm : m.length ≤ 4096) (hlen : m.length ≤ l.length) (k1 : m.length ≤ l.length → (∀ j : Nat, j < m.length → l[j]? = m[j]?) → Q (.inl (some (ez_v (.inl 1))), h)) (k0 : ¬ (m.length ≤ l.length ∧ (∀ j : Nat, j < m.length → l[j]? = m[j]?)) → Q (.inl (some (ez_v (.inl 0))), h)) : ∀ (n k : Nat), n = m.length - k → k ≤ m.length → (∀ j : Nat, j < k → l[j]? = m[j]?) → ez_W (d + 4) cm_221 15 [(3, .inl ((k : Int))), (0, .inr (.inr (some (770)))), (1, .inr (.inr (some (s)))), (2, .inr (.inr (some (w))))] [] h Q := by
  intro n
  induction n with
  | zero =>
    intro k hn hk hp
    refine ez_go (n := 2) (pc' := 17) (L' := [(3, .inl ((k : Int))), (0, .inr (.inr (some (770)))), (1, .inr (.inr (some (s)))), (2, .inr (.inr (some (w))))]) (st' := [.inr (.inr (some (w))), .inl ((k : Int))]) rfl ?_
    refine ez_cv hB tw rfl rfl rfl tq_27 rfl rfl rfl (rd_slen0 hB tw hW (ez_K1 ?_))
    refine ez_icmp rfl rfl ⟨by first | omega | exact (sz_i32 _).1, by first | omega | exact (sz_i32 _).2⟩ ⟨by first | omega | exact (sz_i32 _).1, by first | omega | exact (sz_i32 _).2⟩ (fun (c1 : (((m.length : Nat) : Int)) ≤ ((k : Int))) => ?_) (fun (c1 : ¬((((m.length : Nat) : Int)) ≤ ((k : Int)))) => ?_)
    · skip
      refine ez_go (n := 1) (pc' := 45) (L' := [(3, .inl ((k : Int))), (0, .inr (.inr (some (770)))), (1, .inr (.inr (some (s)))), (2, .inr (.inr (some (w))))]) (st' := [.inl (1)]) rfl ?_
      exact ez_retZ rfl rfl (by decide) (k1 hlen (fun j hj => hp j (by omega)))
    · skip
      refine ez_go (n := 2) (pc' := 25) (L' := [(3, .inl ((k : Int))), (0, .inr (.inr (some (770)))), (1, .inr (.inr (some (s)))), (2, .inr (.inr (some (w))))]) (st' := [.inl ((k : Int)), .inr (.inr (some (s)))]) rfl ?_
      refine ez_cv hB ts rfl rfl rfl tq_33 rfl rfl rfl (rd_charAtD hB ts hS (by omega) (by omega) (fun x x1 x2 x3 => ez_K1 ?_))
      refine ez_go (n := 2) (pc' := 30) (L' := [(3, .inl ((k : Int))), (0, .inr (.inr (some (770)))), (1, .inr (.inr (some (s)))), (2, .inr (.inr (some (w))))]) (st' := [.inl ((k : Int)), .inr (.inr (some (w))), .inl (x)]) rfl ?_
      refine ez_cv hB tw rfl rfl rfl tq_27 rfl rfl rfl (rd_charAt0 hB tw hW (by omega) (by omega) (fun y y1 y2 y3 => ez_K1 ?_))
      refine ez_icmp rfl rfl ⟨by first | omega | exact (sz_i32 _).1, by first | omega | exact (sz_i32 _).2⟩ ⟨by first | omega | exact (sz_i32 _).1, by first | omega | exact (sz_i32 _).2⟩ (fun (c2 : (x) = (y)) => ?_) (fun (c2 : ¬((x) = (y))) => ?_)
      · skip
        refine ez_go (n := 2) (pc' := 15) (L' := [(3, .inl ((k : Int) + 1)), (0, .inr (.inr (some (770)))), (1, .inr (.inr (some (s)))), (2, .inr (.inr (some (w))))]) (st' := []) rfl ?_
        exfalso; omega
      · skip
        refine ez_go (n := 1) (pc' := 37) (L' := [(3, .inl ((k : Int))), (0, .inr (.inr (some (770)))), (1, .inr (.inr (some (s)))), (2, .inr (.inr (some (w))))]) (st' := [.inl (0)]) rfl ?_
        exact ez_retZ rfl rfl (by decide) (k0 (fun q => by have q2 := q.2 k (by omega); rw [Int.toNat_natCast] at x1 y1; rw [x1, y1] at q2; cases q2; omega))
  | succ n ih =>
    intro k hn hk hp
    refine ez_go (n := 2) (pc' := 17) (L' := [(3, .inl ((k : Int))), (0, .inr (.inr (some (770)))), (1, .inr (.inr (some (s)))), (2, .inr (.inr (some (w))))]) (st' := [.inr (.inr (some (w))), .inl ((k : Int))]) rfl ?_
    refine ez_cv hB tw rfl rfl rfl tq_27 rfl rfl rfl (rd_slen0 hB tw hW (ez_K1 ?_))
    refine ez_icmp rfl rfl ⟨by first | omega | exact (sz_i32 _).1, by first | omega | exact (sz_i32 _).2⟩ ⟨by first | omega | exact (sz_i32 _).1, by first | omega | exact (sz_i32 _).2⟩ (fun (c1 : (((m.length : Nat) : Int)) ≤ ((k : Int))) => ?_) (fun (c1 : ¬((((m.length : Nat) : Int)) ≤ ((k : Int)))) => ?_)
    · skip
      refine ez_go (n := 1) (pc' := 45) (L' := [(3, .inl ((k : Int))), (0, .inr (.inr (some (770)))), (1, .inr (.inr (some (s)))), (2, .inr (.inr (some (w))))]) (st' := [.inl (1)]) rfl ?_
      exact ez_retZ rfl rfl (by decide) (k1 hlen (fun j hj => hp j (by omega)))
    · skip
      refine ez_go (n := 2) (pc' := 25) (L' := [(3, .inl ((k : Int))), (0, .inr (.inr (some (770)))), (1, .inr (.inr (some (s)))), (2, .inr (.inr (some (w))))]) (st' := [.inl ((k : Int)), .inr (.inr (some (s)))]) rfl ?_
      refine ez_cv hB ts rfl rfl rfl tq_33 rfl rfl rfl (rd_charAtD hB ts hS (by omega) (by omega) (fun x x1 x2 x3 => ez_K1 ?_))
      refine ez_go (n := 2) (pc' := 30) (L' := [(3, .inl ((k : Int))), (0, .inr (.inr (some (770)))), (1, .inr (.inr (some (s)))), (2, .inr (.inr (some (w))))]) (st' := [.inl ((k : Int)), .inr (.inr (some (w))), .inl (x)]) rfl ?_
      refine ez_cv hB tw rfl rfl rfl tq_27 rfl rfl rfl (rd_charAt0 hB tw hW (by omega) (by omega) (fun y y1 y2 y3 => ez_K1 ?_))
      refine ez_icmp rfl rfl ⟨by first | omega | exact (sz_i32 _).1, by first | omega | exact (sz_i32 _).2⟩ ⟨by first | omega | exact (sz_i32 _).1, by first | omega | exact (sz_i32 _).2⟩ (fun (c2 : (x) = (y)) => ?_) (fun (c2 : ¬((x) = (y))) => ?_)
      · skip
        refine ez_go (n := 2) (pc' := 15) (L' := [(3, .inl ((k : Int) + 1)), (0, .inr (.inr (some (770)))), (1, .inr (.inr (some (s)))), (2, .inr (.inr (some (w))))]) (st' := []) rfl ?_
        refine ez_less [(3, .inl ((k : Int) + 1)), (0, .inr (.inr (some (770)))), (1, .inr (.inr (some (s)))), (2, .inr (.inr (some (w))))] rfl ⟨rfl, rfl, rfl, rfl, trivial⟩ ?_
        refine ih (k + 1) (by omega) (by omega) (fun j hj => ?_)
        by_cases e : j = k; (· rw [e]; rw [Int.toNat_natCast] at x1 y1; rw [x1, y1]; congr 1); (· exact hp j (by omega))
      · skip
        refine ez_go (n := 1) (pc' := 37) (L' := [(3, .inl ((k : Int))), (0, .inr (.inr (some (770)))), (1, .inr (.inr (some (s)))), (2, .inr (.inr (some (w))))]) (st' := [.inl (0)]) rfl ?_
        exact ez_retZ rfl rfl (by decide) (k0 (fun q => by have q2 := q.2 k (by omega); rw [Int.toNat_natCast] at x1 y1; rw [x1, y1] at q2; cases q2; omega))

theorem rd_begins (hB : ez_B τ h) (t770 : τ 770 = 75) (ts : τ s = 33) (tw : τ w = 27) (hS : nz_S h s l) (hW : nz_S h w m) (hl : l.length ≤ 4096) (hm : m.length ≤ 4096) (k1 : m.length ≤ l.length → (∀ j : Nat, j < m.length → l[j]? = m[j]?) → Q (.inl (some (ez_v (.inl 1))), h)) (k0 : ¬ (m.length ≤ l.length ∧ (∀ j : Nat, j < m.length → l[j]? = m[j]?)) → Q (.inl (some (ez_v (.inl 0))), h)) : ez_W (d + 4) cm_221 0 [(0, .inr (.inr (some (770)))), (1, .inr (.inr (some (s)))), (2, .inr (.inr (some (w))))] [] h Q := by
  refine ez_go (n := 1) (pc' := 1) (L' := [(0, .inr (.inr (some (770)))), (1, .inr (.inr (some (s)))), (2, .inr (.inr (some (w))))]) (st' := [.inr (.inr (some (s)))]) rfl ?_
  refine ez_cv hB ts rfl rfl rfl tq_33 rfl rfl rfl (rd_slenD hB ts hS (ez_K1 ?_))
  refine ez_go (n := 1) (pc' := 5) (L' := [(0, .inr (.inr (some (770)))), (1, .inr (.inr (some (s)))), (2, .inr (.inr (some (w))))]) (st' := [.inr (.inr (some (w))), .inl (((l.length : Nat) : Int))]) rfl ?_
  refine ez_cv hB tw rfl rfl rfl tq_27 rfl rfl rfl (rd_slen0 hB tw hW (ez_K1 ?_))
  refine ez_icmp rfl rfl ⟨by first | omega | exact (sz_i32 _).1, by first | omega | exact (sz_i32 _).2⟩ ⟨by first | omega | exact (sz_i32 _).1, by first | omega | exact (sz_i32 _).2⟩ (fun (c1 : (((m.length : Nat) : Int)) ≤ (((l.length : Nat) : Int))) => ?_) (fun (c1 : ¬((((m.length : Nat) : Int)) ≤ (((l.length : Nat) : Int)))) => ?_)
  · skip
    refine ez_go (n := 2) (pc' := 15) (L' := [(3, .inl (0)), (0, .inr (.inr (some (770)))), (1, .inr (.inr (some (s)))), (2, .inr (.inr (some (w))))]) (st' := []) rfl ?_
    refine ez_less [(3, .inl (((0 : Nat) : Int))), (0, .inr (.inr (some (770)))), (1, .inr (.inr (some (s)))), (2, .inr (.inr (some (w))))] rfl ⟨rfl, rfl, rfl, rfl, trivial⟩ ?_
    exact rd_begins_l hB t770 ts tw hS hW hl hm (by omega) k1 k0 _ 0 rfl (by omega) (fun j hj => by omega)
  · skip
    refine ez_go (n := 1) (pc' := 12) (L' := [(0, .inr (.inr (some (770)))), (1, .inr (.inr (some (s)))), (2, .inr (.inr (some (w))))]) (st' := [.inl (0)]) rfl ?_
    exact ez_retZ rfl rfl (by decide) (k0 (fun q => by have := q.1; omega))

end EzBg
/-! The model: among. (Written by wip/p2/py/pv69.py.) -/
section EzAm
variable {d : Nat} {h : cz_H} {τ : Nat → Nat} {Q : cz_F → Prop} {s p : Nat} {l : List Int} {ct : Nat → List Int}
theorem am_eq {m l : List Int} {f : Nat} (e : m.length = l.length - f) (hf : f ≤ l.length) (hp : ∀ i : Nat, i < m.length → m[i]? = l[f + i]?) : m = l.drop f := by
  refine List.ext_getElem? (fun i => ?_)
  rw [List.getElem?_drop]
  by_cases hi : i < m.length
  · exact hp i hi
  · rw [List.getElem?_eq_none (by omega), List.getElem?_eq_none (by omega)]
theorem am_ne {m l : List Int} {f i : Nat} {x y : Int} (h1 : m[i]? = some x) (h2 : l[f + i]? = some y) (hne : x ≠ y) : m ≠ l.drop f := fun e => by
  rw [e, List.getElem?_drop, h2] at h1; cases h1; exact hne rfl
theorem am_len {m l : List Int} {f : Nat} (hf : f ≤ l.length) (hne : (m.length : Int) ≠ (l.length : Int) - f) : m ≠ l.drop f := fun e => by
  have : m.length = l.length - f := by rw [e, List.length_drop]
  omega
theorem rd_among_i {k : Nat} {f : Nat} (hB : ez_B τ h) (t770 : τ 770 = 75) (ts : τ s = 33) (tp : τ p = 26) (hS : nz_S h s l) (hl : l.length ≤ 4096) (hf : f ≤ l.length) (hC : ∀ k : Nat, (k : Int) < qz_N h p → nz_S h (qz_P h p k) (ct k) ∧ (ct k).length ≤ 200) (hkn : (k : Int) < qz_N h p) (hlen : (ct k).length = l.length - f) (kx1 : ct k = l.drop f → ez_W (d + 4) cm_219 86 [(5, .inl (1)), (4, .inl ((k : Int))), (0, .inr (.inr (some (770)))), (1, .inr (.inr (some (s)))), (2, .inl ((f : Int))), (3, .inr (.inr (some (p))))] [] h Q) (kx0 : ct k ≠ l.drop f → ez_W (d + 4) cm_219 86 [(5, .inl (0)), (4, .inl ((k : Int))), (0, .inr (.inr (some (770)))), (1, .inr (.inr (some (s)))), (2, .inl ((f : Int))), (3, .inr (.inr (some (p))))] [] h Q) : ∀ (n j : Nat), n = (ct k).length - j → j ≤ (ct k).length → (∀ i : Nat, i < j → (ct k)[i]? = l[f + i]?) → ez_W (d + 4) cm_219 36 [(6, .inl ((j : Int))), (5, .inl (1)), (4, .inl ((k : Int))), (0, .inr (.inr (some (770)))), (1, .inr (.inr (some (s)))), (2, .inl ((f : Int))), (3, .inr (.inr (some (p))))] [] h Q := by
  have np : 6 ≤ qz_N h p ∧ qz_N h p ≤ 19 := ez_len hB tp tq_26 rfl
  have hk200 := (hC k hkn).2
  intro n
  induction n with
  | zero =>
    intro j hn hj hp
    refine ez_go (n := 1) (pc' := 38) (L' := [(6, .inl ((j : Int))), (5, .inl (1)), (4, .inl ((k : Int))), (0, .inr (.inr (some (770)))), (1, .inr (.inr (some (s)))), (2, .inl ((f : Int))), (3, .inr (.inr (some (p))))]) (st' := [.inl (1)]) rfl ?_
    refine ez_if rfl rfl ⟨by decide, by decide⟩ (fun (c1 : (1 : Int) = (0)) => absurd c1 (by decide)) (fun _ => ?_)
    refine ez_go (n := 3) (pc' := 46) (L' := [(6, .inl ((j : Int))), (5, .inl (1)), (4, .inl ((k : Int))), (0, .inr (.inr (some (770)))), (1, .inr (.inr (some (s)))), (2, .inl ((f : Int))), (3, .inr (.inr (some (p))))]) (st' := [.inl ((k : Int)), .inr (.inr (some (p))), .inl ((j : Int))]) rfl ?_
    have n3 : 6 ≤ qz_N h p ∧ qz_N h p ≤ 19 := ez_len hB tp tq_26 rfl
    have y4 : 1 ≤ qz_I h p ((k : Int)).toNat ∧ qz_I h p ((k : Int)).toNat ≤ 1000000 := ez_aB hB tp tq_26 rfl rfl (by decide) (by omega) (by omega)
    have y4' : ((qz_P h p ((k : Int)).toNat : Nat) : Int) + 1 = qz_I h p ((k : Int)).toNat := by unfold qz_P; omega
    refine ez_aR hB tp rfl tq_26 rfl rfl (by omega) (by omega) (by omega) (fun (t2 : _ = 27) => ?_)
    refine ez_cv hB t2 rfl rfl rfl tq_27 rfl rfl rfl (rd_slen0 hB t2 (hC k hkn).1 (ez_K1 ?_))
    refine ez_icmp rfl rfl ⟨by first | omega | exact (sz_i32 _).1, by first | omega | exact (sz_i32 _).2⟩ ⟨by first | omega | exact (sz_i32 _).1, by first | omega | exact (sz_i32 _).2⟩ (fun (c5 : ((((ct k).length : Nat) : Int)) ≤ ((j : Int))) => ?_) (fun (c5 : ¬(((((ct k).length : Nat) : Int)) ≤ ((j : Int)))) => ?_)
    · skip
      refine ez_less [(5, .inl (1)), (4, .inl ((k : Int))), (0, .inr (.inr (some (770)))), (1, .inr (.inr (some (s)))), (2, .inl ((f : Int))), (3, .inr (.inr (some (p))))] rfl ⟨rfl, rfl, rfl, rfl, rfl, rfl, trivial⟩ ?_
      exact kx1 (am_eq hlen hf (fun i hi => hp i (by omega)))
    · skip
      refine ez_go (n := 2) (pc' := 56) (L' := [(6, .inl ((j : Int))), (5, .inl (1)), (4, .inl ((k : Int))), (0, .inr (.inr (some (770)))), (1, .inr (.inr (some (s)))), (2, .inl ((f : Int))), (3, .inr (.inr (some (p))))]) (st' := [.inl ((k : Int)), .inr (.inr (some (p)))]) rfl ?_
      have n7 : 6 ≤ qz_N h p ∧ qz_N h p ≤ 19 := ez_len hB tp tq_26 rfl
      have y8 : 1 ≤ qz_I h p ((k : Int)).toNat ∧ qz_I h p ((k : Int)).toNat ≤ 1000000 := ez_aB hB tp tq_26 rfl rfl (by decide) (by omega) (by omega)
      have y8' : ((qz_P h p ((k : Int)).toNat : Nat) : Int) + 1 = qz_I h p ((k : Int)).toNat := by unfold qz_P; omega
      refine ez_aR hB tp rfl tq_26 rfl rfl (by omega) (by omega) (by omega) (fun (t6 : _ = 27) => ?_)
      refine ez_go (n := 1) (pc' := 59) (L' := [(6, .inl ((j : Int))), (5, .inl (1)), (4, .inl ((k : Int))), (0, .inr (.inr (some (770)))), (1, .inr (.inr (some (s)))), (2, .inl ((f : Int))), (3, .inr (.inr (some (p))))]) (st' := [.inl ((j : Int)), .inr (.inr (some (qz_P h p ((k : Int)).toNat)))]) rfl ?_
      refine ez_cv hB t6 rfl rfl rfl tq_27 rfl rfl rfl (rd_charAt0 hB t6 (hC k hkn).1 (by omega) (by omega) (fun y y1 y2 y3 => ez_K1 ?_))
      refine ez_go (n := 4) (pc' := 67) (L' := [(6, .inl ((j : Int))), (5, .inl (1)), (4, .inl ((k : Int))), (0, .inr (.inr (some (770)))), (1, .inr (.inr (some (s)))), (2, .inl ((f : Int))), (3, .inr (.inr (some (p))))]) (st' := [.inl (((f : Int)) + ((j : Int))), .inr (.inr (some (s))), .inl (y)]) rfl ?_
      refine ez_cv hB ts rfl rfl rfl tq_33 rfl rfl rfl (rd_charAtD hB ts hS (by omega) (by omega) (fun x x1 x2 x3 => ez_K1 ?_))
      refine ez_icmp rfl rfl ⟨by first | omega | exact (sz_i32 _).1, by first | omega | exact (sz_i32 _).2⟩ ⟨by first | omega | exact (sz_i32 _).1, by first | omega | exact (sz_i32 _).2⟩ (fun (c9 : (y) ≠ (x)) => ?_) (fun (c9 : ¬((y) ≠ (x))) => ?_)
      · skip
        refine ez_go (n := 4) (pc' := 36) (L' := [(6, .inl ((j : Int) + 1)), (5, .inl (0)), (4, .inl ((k : Int))), (0, .inr (.inr (some (770)))), (1, .inr (.inr (some (s)))), (2, .inl ((f : Int))), (3, .inr (.inr (some (p))))]) (st' := []) rfl ?_
        exfalso; omega
      · skip
        refine ez_go (n := 5) (pc' := 36) (L' := [(6, .inl ((j : Int) + 1)), (5, .inl (1)), (4, .inl ((k : Int))), (0, .inr (.inr (some (770)))), (1, .inr (.inr (some (s)))), (2, .inl ((f : Int))), (3, .inr (.inr (some (p))))]) (st' := []) rfl ?_
        exfalso; omega
  | succ n ih =>
    intro j hn hj hp
    refine ez_go (n := 1) (pc' := 38) (L' := [(6, .inl ((j : Int))), (5, .inl (1)), (4, .inl ((k : Int))), (0, .inr (.inr (some (770)))), (1, .inr (.inr (some (s)))), (2, .inl ((f : Int))), (3, .inr (.inr (some (p))))]) (st' := [.inl (1)]) rfl ?_
    refine ez_if rfl rfl ⟨by decide, by decide⟩ (fun (c1 : (1 : Int) = (0)) => absurd c1 (by decide)) (fun _ => ?_)
    refine ez_go (n := 3) (pc' := 46) (L' := [(6, .inl ((j : Int))), (5, .inl (1)), (4, .inl ((k : Int))), (0, .inr (.inr (some (770)))), (1, .inr (.inr (some (s)))), (2, .inl ((f : Int))), (3, .inr (.inr (some (p))))]) (st' := [.inl ((k : Int)), .inr (.inr (some (p))), .inl ((j : Int))]) rfl ?_
    have n3 : 6 ≤ qz_N h p ∧ qz_N h p ≤ 19 := ez_len hB tp tq_26 rfl
    have y4 : 1 ≤ qz_I h p ((k : Int)).toNat ∧ qz_I h p ((k : Int)).toNat ≤ 1000000 := ez_aB hB tp tq_26 rfl rfl (by decide) (by omega) (by omega)
    have y4' : ((qz_P h p ((k : Int)).toNat : Nat) : Int) + 1 = qz_I h p ((k : Int)).toNat := by unfold qz_P; omega
    refine ez_aR hB tp rfl tq_26 rfl rfl (by omega) (by omega) (by omega) (fun (t2 : _ = 27) => ?_)
    refine ez_cv hB t2 rfl rfl rfl tq_27 rfl rfl rfl (rd_slen0 hB t2 (hC k hkn).1 (ez_K1 ?_))
    refine ez_icmp rfl rfl ⟨by first | omega | exact (sz_i32 _).1, by first | omega | exact (sz_i32 _).2⟩ ⟨by first | omega | exact (sz_i32 _).1, by first | omega | exact (sz_i32 _).2⟩ (fun (c5 : ((((ct k).length : Nat) : Int)) ≤ ((j : Int))) => ?_) (fun (c5 : ¬(((((ct k).length : Nat) : Int)) ≤ ((j : Int)))) => ?_)
    · skip
      refine ez_less [(5, .inl (1)), (4, .inl ((k : Int))), (0, .inr (.inr (some (770)))), (1, .inr (.inr (some (s)))), (2, .inl ((f : Int))), (3, .inr (.inr (some (p))))] rfl ⟨rfl, rfl, rfl, rfl, rfl, rfl, trivial⟩ ?_
      exact kx1 (am_eq hlen hf (fun i hi => hp i (by omega)))
    · skip
      refine ez_go (n := 2) (pc' := 56) (L' := [(6, .inl ((j : Int))), (5, .inl (1)), (4, .inl ((k : Int))), (0, .inr (.inr (some (770)))), (1, .inr (.inr (some (s)))), (2, .inl ((f : Int))), (3, .inr (.inr (some (p))))]) (st' := [.inl ((k : Int)), .inr (.inr (some (p)))]) rfl ?_
      have n7 : 6 ≤ qz_N h p ∧ qz_N h p ≤ 19 := ez_len hB tp tq_26 rfl
      have y8 : 1 ≤ qz_I h p ((k : Int)).toNat ∧ qz_I h p ((k : Int)).toNat ≤ 1000000 := ez_aB hB tp tq_26 rfl rfl (by decide) (by omega) (by omega)
      have y8' : ((qz_P h p ((k : Int)).toNat : Nat) : Int) + 1 = qz_I h p ((k : Int)).toNat := by unfold qz_P; omega
      refine ez_aR hB tp rfl tq_26 rfl rfl (by omega) (by omega) (by omega) (fun (t6 : _ = 27) => ?_)
      refine ez_go (n := 1) (pc' := 59) (L' := [(6, .inl ((j : Int))), (5, .inl (1)), (4, .inl ((k : Int))), (0, .inr (.inr (some (770)))), (1, .inr (.inr (some (s)))), (2, .inl ((f : Int))), (3, .inr (.inr (some (p))))]) (st' := [.inl ((j : Int)), .inr (.inr (some (qz_P h p ((k : Int)).toNat)))]) rfl ?_
      refine ez_cv hB t6 rfl rfl rfl tq_27 rfl rfl rfl (rd_charAt0 hB t6 (hC k hkn).1 (by omega) (by omega) (fun y y1 y2 y3 => ez_K1 ?_))
      refine ez_go (n := 4) (pc' := 67) (L' := [(6, .inl ((j : Int))), (5, .inl (1)), (4, .inl ((k : Int))), (0, .inr (.inr (some (770)))), (1, .inr (.inr (some (s)))), (2, .inl ((f : Int))), (3, .inr (.inr (some (p))))]) (st' := [.inl (((f : Int)) + ((j : Int))), .inr (.inr (some (s))), .inl (y)]) rfl ?_
      refine ez_cv hB ts rfl rfl rfl tq_33 rfl rfl rfl (rd_charAtD hB ts hS (by omega) (by omega) (fun x x1 x2 x3 => ez_K1 ?_))
      refine ez_icmp rfl rfl ⟨by first | omega | exact (sz_i32 _).1, by first | omega | exact (sz_i32 _).2⟩ ⟨by first | omega | exact (sz_i32 _).1, by first | omega | exact (sz_i32 _).2⟩ (fun (c9 : (y) ≠ (x)) => ?_) (fun (c9 : ¬((y) ≠ (x))) => ?_)
      · skip
        refine ez_go (n := 4) (pc' := 36) (L' := [(6, .inl ((j : Int) + 1)), (5, .inl (0)), (4, .inl ((k : Int))), (0, .inr (.inr (some (770)))), (1, .inr (.inr (some (s)))), (2, .inl ((f : Int))), (3, .inr (.inr (some (p))))]) (st' := []) rfl ?_
        refine ez_less [(6, .inl ((j : Int) + 1)), (5, .inl (0)), (4, .inl ((k : Int))), (0, .inr (.inr (some (770)))), (1, .inr (.inr (some (s)))), (2, .inl ((f : Int))), (3, .inr (.inr (some (p))))] rfl ⟨rfl, rfl, rfl, rfl, rfl, rfl, rfl, trivial⟩ ?_
        rw [show ((j : Int)).toNat = j by omega] at y1; rw [show ((f : Int) + (j : Int)).toNat = f + j by omega] at x1
        refine ez_go (n := 1) (pc' := 38) (L' := [(6, .inl ((j : Int) + 1)), (5, .inl (0)), (4, .inl ((k : Int))), (0, .inr (.inr (some (770)))), (1, .inr (.inr (some (s)))), (2, .inl ((f : Int))), (3, .inr (.inr (some (p))))]) (st' := [.inl (0)]) rfl ?_
        refine ez_if rfl rfl ⟨by decide, by decide⟩ (fun _ => ?_) (fun (c9 : ¬((0 : Int) = (0))) => absurd rfl c9)
        refine ez_less [(5, .inl (0)), (4, .inl ((k : Int))), (0, .inr (.inr (some (770)))), (1, .inr (.inr (some (s)))), (2, .inl ((f : Int))), (3, .inr (.inr (some (p))))] rfl ⟨rfl, rfl, rfl, rfl, rfl, rfl, trivial⟩ ?_
        exact kx0 (am_ne y1 x1 (by omega))
      · skip
        refine ez_go (n := 5) (pc' := 36) (L' := [(6, .inl ((j : Int) + 1)), (5, .inl (1)), (4, .inl ((k : Int))), (0, .inr (.inr (some (770)))), (1, .inr (.inr (some (s)))), (2, .inl ((f : Int))), (3, .inr (.inr (some (p))))]) (st' := []) rfl ?_
        refine ez_less [(6, .inl ((j : Int) + 1)), (5, .inl (1)), (4, .inl ((k : Int))), (0, .inr (.inr (some (770)))), (1, .inr (.inr (some (s)))), (2, .inl ((f : Int))), (3, .inr (.inr (some (p))))] rfl ⟨rfl, rfl, rfl, rfl, rfl, rfl, rfl, trivial⟩ ?_
        refine ih (j + 1) (by omega) (by omega) (fun i hi => ?_)
        by_cases e : i = j; (· rw [e]; rw [show ((j : Int)).toNat = j by omega] at y1; rw [show ((f : Int) + (j : Int)).toNat = f + j by omega] at x1; rw [x1, y1]; congr 1; omega); (· exact hp i (by omega))

theorem rd_among_l {f : Nat} (hB : ez_B τ h) (t770 : τ 770 = 75) (ts : τ s = 33) (tp : τ p = 26) (hS : nz_S h s l) (hl : l.length ≤ 4096) (hf : f ≤ l.length) (hC : ∀ k : Nat, (k : Int) < qz_N h p → nz_S h (qz_P h p k) (ct k) ∧ (ct k).length ≤ 200) (hr1 : h.1 + 1 ≤ 600192) (hr2 : h.2.1 + 6 ≤ 7302232) (k1 : ∀ k : Nat, (k : Int) < qz_N h p → ct k = l.drop f → (∀ i, i < k → ct i ≠ l.drop f) → Q (.inl (some (ez_v (.inl (k : Int)))), h)) (k0 : (∀ i : Nat, (i : Int) < qz_N h p → ct i ≠ l.drop f) → Q (.inr h.1, xc h 1)) : ∀ (n k : Nat), n = (qz_N h p).toNat - k → (k : Int) ≤ qz_N h p → (∀ i, i < k → ct i ≠ l.drop f) → ez_W (d + 6) cm_219 3 [(4, .inl ((k : Int))), (0, .inr (.inr (some (770)))), (1, .inr (.inr (some (s)))), (2, .inl ((f : Int))), (3, .inr (.inr (some (p))))] [] h Q := by
  have np : 6 ≤ qz_N h p ∧ qz_N h p ≤ 19 := ez_len hB tp tq_26 rfl
  intro n
  induction n with
  | zero =>
    intro k hn hk hno
    refine ez_go (n := 2) (pc' := 6) (L' := [(4, .inl ((k : Int))), (0, .inr (.inr (some (770)))), (1, .inr (.inr (some (s)))), (2, .inl ((f : Int))), (3, .inr (.inr (some (p))))]) (st' := [.inr (.inr (some (p))), .inl ((k : Int))]) rfl ?_
    refine ez_al hB tp rfl tq_26 rfl (fun (b1 : 6 ≤ qz_N h p) (b1' : qz_N h p ≤ 19) => ?_)
    refine ez_icmp rfl rfl ⟨by first | omega | exact (sz_i32 _).1, by first | omega | exact (sz_i32 _).2⟩ ⟨by first | omega | exact (sz_i32 _).1, by first | omega | exact (sz_i32 _).2⟩ (fun (c2 : (qz_N h p) ≤ ((k : Int))) => ?_) (fun (c2 : ¬((qz_N h p) ≤ ((k : Int)))) => ?_)
    · skip
      exact ez_th rfl rfl (by omega) (by omega) (by omega) rfl (k0 (fun i hi => hno i (by omega)))
    · skip
      have hkn : (k : Int) < qz_N h p := by omega
      refine ez_go (n := 2) (pc' := 13) (L' := [(4, .inl ((k : Int))), (0, .inr (.inr (some (770)))), (1, .inr (.inr (some (s)))), (2, .inl ((f : Int))), (3, .inr (.inr (some (p))))]) (st' := [.inl ((k : Int)), .inr (.inr (some (p)))]) rfl ?_
      have n4 : 6 ≤ qz_N h p ∧ qz_N h p ≤ 19 := ez_len hB tp tq_26 rfl
      have y5 : 1 ≤ qz_I h p ((k : Int)).toNat ∧ qz_I h p ((k : Int)).toNat ≤ 1000000 := ez_aB hB tp tq_26 rfl rfl (by decide) (by omega) (by omega)
      have y5' : ((qz_P h p ((k : Int)).toNat : Nat) : Int) + 1 = qz_I h p ((k : Int)).toNat := by unfold qz_P; omega
      refine ez_aR hB tp rfl tq_26 rfl rfl (by omega) (by omega) (by omega) (fun (t3 : _ = 27) => ?_)
      refine ez_cv hB t3 rfl rfl rfl tq_27 rfl rfl rfl (rd_slen0 hB t3 (hC k hkn).1 (ez_K1 ?_))
      refine ez_go (n := 1) (pc' := 18) (L' := [(4, .inl ((k : Int))), (0, .inr (.inr (some (770)))), (1, .inr (.inr (some (s)))), (2, .inl ((f : Int))), (3, .inr (.inr (some (p))))]) (st' := [.inr (.inr (some (s))), .inl ((((ct k).length : Nat) : Int))]) rfl ?_
      refine ez_cv hB ts rfl rfl rfl tq_33 rfl rfl rfl (rd_slenD hB ts hS (ez_K1 ?_))
      refine ez_go (n := 2) (pc' := 23) (L' := [(4, .inl ((k : Int))), (0, .inr (.inr (some (770)))), (1, .inr (.inr (some (s)))), (2, .inl ((f : Int))), (3, .inr (.inr (some (p))))]) (st' := [.inl ((((l.length : Nat) : Int)) - ((f : Int))), .inl ((((ct k).length : Nat) : Int))]) rfl ?_
      refine ez_icmp rfl rfl ⟨by first | omega | exact (sz_i32 _).1, by first | omega | exact (sz_i32 _).2⟩ ⟨by first | omega | exact (sz_i32 _).1, by first | omega | exact (sz_i32 _).2⟩ (fun (c6 : ((((ct k).length : Nat) : Int)) ≠ ((((l.length : Nat) : Int)) - ((f : Int)))) => ?_) (fun (c6 : ¬(((((ct k).length : Nat) : Int)) ≠ ((((l.length : Nat) : Int)) - ((f : Int))))) => ?_)
      · skip
        refine ez_go (n := 4) (pc' := 36) (L' := [(6, .inl (0)), (5, .inl (0)), (4, .inl ((k : Int))), (0, .inr (.inr (some (770)))), (1, .inr (.inr (some (s)))), (2, .inl ((f : Int))), (3, .inr (.inr (some (p))))]) (st' := []) rfl ?_
        have he := am_len hf (show ((ct k).length : Int) ≠ (l.length : Int) - f by omega)
        refine ez_less [(6, .inl (0)), (5, .inl (0)), (4, .inl ((k : Int))), (0, .inr (.inr (some (770)))), (1, .inr (.inr (some (s)))), (2, .inl ((f : Int))), (3, .inr (.inr (some (p))))] rfl ⟨rfl, rfl, rfl, rfl, rfl, rfl, rfl, trivial⟩ ?_
        refine ez_go (n := 1) (pc' := 38) (L' := [(6, .inl (0)), (5, .inl (0)), (4, .inl ((k : Int))), (0, .inr (.inr (some (770)))), (1, .inr (.inr (some (s)))), (2, .inl ((f : Int))), (3, .inr (.inr (some (p))))]) (st' := [.inl (0)]) rfl ?_
        refine ez_if rfl rfl ⟨by decide, by decide⟩ (fun _ => ?_) (fun (c9 : ¬((0 : Int) = (0))) => absurd rfl c9)
        refine ez_less [(5, .inl (0)), (4, .inl ((k : Int))), (0, .inr (.inr (some (770)))), (1, .inr (.inr (some (s)))), (2, .inl ((f : Int))), (3, .inr (.inr (some (p))))] rfl ⟨rfl, rfl, rfl, rfl, rfl, rfl, trivial⟩ ?_
        refine ez_go (n := 1) (pc' := 88) (L' := [(5, .inl (0)), (4, .inl ((k : Int))), (0, .inr (.inr (some (770)))), (1, .inr (.inr (some (s)))), (2, .inl ((f : Int))), (3, .inr (.inr (some (p))))]) (st' := [.inl (0)]) rfl ?_
        refine ez_if rfl rfl ⟨by decide, by decide⟩ (fun _ => ?_) (fun (c7 : ¬((0 : Int) = (0))) => absurd c7 (by decide))
        refine ez_go (n := 2) (pc' := 3) (L' := [(4, .inl ((k : Int) + 1)), (5, .inl (0)), (0, .inr (.inr (some (770)))), (1, .inr (.inr (some (s)))), (2, .inl ((f : Int))), (3, .inr (.inr (some (p))))]) (st' := []) rfl ?_
        refine ez_less [(4, .inl ((k : Int) + 1)), (0, .inr (.inr (some (770)))), (1, .inr (.inr (some (s)))), (2, .inl ((f : Int))), (3, .inr (.inr (some (p))))] rfl ⟨rfl, rfl, rfl, rfl, rfl, trivial⟩ ?_
        exfalso; omega
      · skip
        refine ez_go (n := 5) (pc' := 36) (L' := [(6, .inl (0)), (5, .inl (1)), (4, .inl ((k : Int))), (0, .inr (.inr (some (770)))), (1, .inr (.inr (some (s)))), (2, .inl ((f : Int))), (3, .inr (.inr (some (p))))]) (st' := []) rfl ?_
        refine ez_less [(6, .inl (((0 : Nat) : Int))), (5, .inl (1)), (4, .inl ((k : Int))), (0, .inr (.inr (some (770)))), (1, .inr (.inr (some (s)))), (2, .inl ((f : Int))), (3, .inr (.inr (some (p))))] rfl ⟨rfl, rfl, rfl, rfl, rfl, rfl, rfl, trivial⟩ ?_
        refine rd_among_i hB t770 ts tp hS hl hf hC hkn (by omega) (fun he => ?_) (fun he => ?_) _ 0 rfl (by omega) (fun i hi => by omega)
        · skip
          refine ez_go (n := 1) (pc' := 88) (L' := [(5, .inl (1)), (4, .inl ((k : Int))), (0, .inr (.inr (some (770)))), (1, .inr (.inr (some (s)))), (2, .inl ((f : Int))), (3, .inr (.inr (some (p))))]) (st' := [.inl (1)]) rfl ?_
          refine ez_if rfl rfl ⟨by decide, by decide⟩ (fun (c8 : (1 : Int) = (0)) => absurd c8 (by decide)) (fun _ => ?_)
          refine ez_go (n := 1) (pc' := 93) (L' := [(5, .inl (1)), (4, .inl ((k : Int))), (0, .inr (.inr (some (770)))), (1, .inr (.inr (some (s)))), (2, .inl ((f : Int))), (3, .inr (.inr (some (p))))]) (st' := [.inl ((k : Int))]) rfl ?_
          exact ez_retI rfl rfl (k1 k hkn he (fun i hi => hno i hi))
        · skip
          refine ez_go (n := 1) (pc' := 88) (L' := [(5, .inl (0)), (4, .inl ((k : Int))), (0, .inr (.inr (some (770)))), (1, .inr (.inr (some (s)))), (2, .inl ((f : Int))), (3, .inr (.inr (some (p))))]) (st' := [.inl (0)]) rfl ?_
          refine ez_if rfl rfl ⟨by decide, by decide⟩ (fun _ => ?_) (fun (c9 : ¬((0 : Int) = (0))) => absurd c9 (by decide))
          refine ez_go (n := 2) (pc' := 3) (L' := [(4, .inl ((k : Int) + 1)), (5, .inl (0)), (0, .inr (.inr (some (770)))), (1, .inr (.inr (some (s)))), (2, .inl ((f : Int))), (3, .inr (.inr (some (p))))]) (st' := []) rfl ?_
          refine ez_less [(4, .inl ((k : Int) + 1)), (0, .inr (.inr (some (770)))), (1, .inr (.inr (some (s)))), (2, .inl ((f : Int))), (3, .inr (.inr (some (p))))] rfl ⟨rfl, rfl, rfl, rfl, rfl, trivial⟩ ?_
          exfalso; omega
  | succ n ih =>
    intro k hn hk hno
    have hk200 := fun w => (hC k w).2
    refine ez_go (n := 2) (pc' := 6) (L' := [(4, .inl ((k : Int))), (0, .inr (.inr (some (770)))), (1, .inr (.inr (some (s)))), (2, .inl ((f : Int))), (3, .inr (.inr (some (p))))]) (st' := [.inr (.inr (some (p))), .inl ((k : Int))]) rfl ?_
    refine ez_al hB tp rfl tq_26 rfl (fun (b1 : 6 ≤ qz_N h p) (b1' : qz_N h p ≤ 19) => ?_)
    refine ez_icmp rfl rfl ⟨by first | omega | exact (sz_i32 _).1, by first | omega | exact (sz_i32 _).2⟩ ⟨by first | omega | exact (sz_i32 _).1, by first | omega | exact (sz_i32 _).2⟩ (fun (c2 : (qz_N h p) ≤ ((k : Int))) => ?_) (fun (c2 : ¬((qz_N h p) ≤ ((k : Int)))) => ?_)
    · skip
      exact ez_th rfl rfl (by omega) (by omega) (by omega) rfl (k0 (fun i hi => hno i (by omega)))
    · skip
      have hkn : (k : Int) < qz_N h p := by omega
      refine ez_go (n := 2) (pc' := 13) (L' := [(4, .inl ((k : Int))), (0, .inr (.inr (some (770)))), (1, .inr (.inr (some (s)))), (2, .inl ((f : Int))), (3, .inr (.inr (some (p))))]) (st' := [.inl ((k : Int)), .inr (.inr (some (p)))]) rfl ?_
      have n4 : 6 ≤ qz_N h p ∧ qz_N h p ≤ 19 := ez_len hB tp tq_26 rfl
      have y5 : 1 ≤ qz_I h p ((k : Int)).toNat ∧ qz_I h p ((k : Int)).toNat ≤ 1000000 := ez_aB hB tp tq_26 rfl rfl (by decide) (by omega) (by omega)
      have y5' : ((qz_P h p ((k : Int)).toNat : Nat) : Int) + 1 = qz_I h p ((k : Int)).toNat := by unfold qz_P; omega
      refine ez_aR hB tp rfl tq_26 rfl rfl (by omega) (by omega) (by omega) (fun (t3 : _ = 27) => ?_)
      refine ez_cv hB t3 rfl rfl rfl tq_27 rfl rfl rfl (rd_slen0 hB t3 (hC k hkn).1 (ez_K1 ?_))
      refine ez_go (n := 1) (pc' := 18) (L' := [(4, .inl ((k : Int))), (0, .inr (.inr (some (770)))), (1, .inr (.inr (some (s)))), (2, .inl ((f : Int))), (3, .inr (.inr (some (p))))]) (st' := [.inr (.inr (some (s))), .inl ((((ct k).length : Nat) : Int))]) rfl ?_
      refine ez_cv hB ts rfl rfl rfl tq_33 rfl rfl rfl (rd_slenD hB ts hS (ez_K1 ?_))
      refine ez_go (n := 2) (pc' := 23) (L' := [(4, .inl ((k : Int))), (0, .inr (.inr (some (770)))), (1, .inr (.inr (some (s)))), (2, .inl ((f : Int))), (3, .inr (.inr (some (p))))]) (st' := [.inl ((((l.length : Nat) : Int)) - ((f : Int))), .inl ((((ct k).length : Nat) : Int))]) rfl ?_
      refine ez_icmp rfl rfl ⟨by first | omega | exact (sz_i32 _).1, by first | omega | exact (sz_i32 _).2⟩ ⟨by first | omega | exact (sz_i32 _).1, by first | omega | exact (sz_i32 _).2⟩ (fun (c6 : ((((ct k).length : Nat) : Int)) ≠ ((((l.length : Nat) : Int)) - ((f : Int)))) => ?_) (fun (c6 : ¬(((((ct k).length : Nat) : Int)) ≠ ((((l.length : Nat) : Int)) - ((f : Int))))) => ?_)
      · skip
        refine ez_go (n := 4) (pc' := 36) (L' := [(6, .inl (0)), (5, .inl (0)), (4, .inl ((k : Int))), (0, .inr (.inr (some (770)))), (1, .inr (.inr (some (s)))), (2, .inl ((f : Int))), (3, .inr (.inr (some (p))))]) (st' := []) rfl ?_
        have he := am_len hf (show ((ct k).length : Int) ≠ (l.length : Int) - f by omega)
        refine ez_less [(6, .inl (0)), (5, .inl (0)), (4, .inl ((k : Int))), (0, .inr (.inr (some (770)))), (1, .inr (.inr (some (s)))), (2, .inl ((f : Int))), (3, .inr (.inr (some (p))))] rfl ⟨rfl, rfl, rfl, rfl, rfl, rfl, rfl, trivial⟩ ?_
        refine ez_go (n := 1) (pc' := 38) (L' := [(6, .inl (0)), (5, .inl (0)), (4, .inl ((k : Int))), (0, .inr (.inr (some (770)))), (1, .inr (.inr (some (s)))), (2, .inl ((f : Int))), (3, .inr (.inr (some (p))))]) (st' := [.inl (0)]) rfl ?_
        refine ez_if rfl rfl ⟨by decide, by decide⟩ (fun _ => ?_) (fun (c9 : ¬((0 : Int) = (0))) => absurd rfl c9)
        refine ez_less [(5, .inl (0)), (4, .inl ((k : Int))), (0, .inr (.inr (some (770)))), (1, .inr (.inr (some (s)))), (2, .inl ((f : Int))), (3, .inr (.inr (some (p))))] rfl ⟨rfl, rfl, rfl, rfl, rfl, rfl, trivial⟩ ?_
        refine ez_go (n := 1) (pc' := 88) (L' := [(5, .inl (0)), (4, .inl ((k : Int))), (0, .inr (.inr (some (770)))), (1, .inr (.inr (some (s)))), (2, .inl ((f : Int))), (3, .inr (.inr (some (p))))]) (st' := [.inl (0)]) rfl ?_
        refine ez_if rfl rfl ⟨by decide, by decide⟩ (fun _ => ?_) (fun (c7 : ¬((0 : Int) = (0))) => absurd c7 (by decide))
        refine ez_go (n := 2) (pc' := 3) (L' := [(4, .inl ((k : Int) + 1)), (5, .inl (0)), (0, .inr (.inr (some (770)))), (1, .inr (.inr (some (s)))), (2, .inl ((f : Int))), (3, .inr (.inr (some (p))))]) (st' := []) rfl ?_
        refine ez_less [(4, .inl ((k : Int) + 1)), (0, .inr (.inr (some (770)))), (1, .inr (.inr (some (s)))), (2, .inl ((f : Int))), (3, .inr (.inr (some (p))))] rfl ⟨rfl, rfl, rfl, rfl, rfl, trivial⟩ ?_
        exact ih (k + 1) (by omega) (by omega) (fun i hi => by by_cases e : i = k; (· rw [e]; exact he); (· exact hno i (by omega)))
      · skip
        refine ez_go (n := 5) (pc' := 36) (L' := [(6, .inl (0)), (5, .inl (1)), (4, .inl ((k : Int))), (0, .inr (.inr (some (770)))), (1, .inr (.inr (some (s)))), (2, .inl ((f : Int))), (3, .inr (.inr (some (p))))]) (st' := []) rfl ?_
        refine ez_less [(6, .inl (((0 : Nat) : Int))), (5, .inl (1)), (4, .inl ((k : Int))), (0, .inr (.inr (some (770)))), (1, .inr (.inr (some (s)))), (2, .inl ((f : Int))), (3, .inr (.inr (some (p))))] rfl ⟨rfl, rfl, rfl, rfl, rfl, rfl, rfl, trivial⟩ ?_
        refine rd_among_i hB t770 ts tp hS hl hf hC hkn (by omega) (fun he => ?_) (fun he => ?_) _ 0 rfl (by omega) (fun i hi => by omega)
        · skip
          refine ez_go (n := 1) (pc' := 88) (L' := [(5, .inl (1)), (4, .inl ((k : Int))), (0, .inr (.inr (some (770)))), (1, .inr (.inr (some (s)))), (2, .inl ((f : Int))), (3, .inr (.inr (some (p))))]) (st' := [.inl (1)]) rfl ?_
          refine ez_if rfl rfl ⟨by decide, by decide⟩ (fun (c8 : (1 : Int) = (0)) => absurd c8 (by decide)) (fun _ => ?_)
          refine ez_go (n := 1) (pc' := 93) (L' := [(5, .inl (1)), (4, .inl ((k : Int))), (0, .inr (.inr (some (770)))), (1, .inr (.inr (some (s)))), (2, .inl ((f : Int))), (3, .inr (.inr (some (p))))]) (st' := [.inl ((k : Int))]) rfl ?_
          exact ez_retI rfl rfl (k1 k hkn he (fun i hi => hno i hi))
        · skip
          refine ez_go (n := 1) (pc' := 88) (L' := [(5, .inl (0)), (4, .inl ((k : Int))), (0, .inr (.inr (some (770)))), (1, .inr (.inr (some (s)))), (2, .inl ((f : Int))), (3, .inr (.inr (some (p))))]) (st' := [.inl (0)]) rfl ?_
          refine ez_if rfl rfl ⟨by decide, by decide⟩ (fun _ => ?_) (fun (c9 : ¬((0 : Int) = (0))) => absurd c9 (by decide))
          refine ez_go (n := 2) (pc' := 3) (L' := [(4, .inl ((k : Int) + 1)), (5, .inl (0)), (0, .inr (.inr (some (770)))), (1, .inr (.inr (some (s)))), (2, .inl ((f : Int))), (3, .inr (.inr (some (p))))]) (st' := []) rfl ?_
          refine ez_less [(4, .inl ((k : Int) + 1)), (0, .inr (.inr (some (770)))), (1, .inr (.inr (some (s)))), (2, .inl ((f : Int))), (3, .inr (.inr (some (p))))] rfl ⟨rfl, rfl, rfl, rfl, rfl, trivial⟩ ?_
          exact ih (k + 1) (by omega) (by omega) (fun i hi => by by_cases e : i = k; (· rw [e]; exact he); (· exact hno i (by omega)))

theorem rd_among {f : Nat} (hB : ez_B τ h) (t770 : τ 770 = 75) (ts : τ s = 33) (tp : τ p = 26) (hS : nz_S h s l) (hl : l.length ≤ 4096) (hf : f ≤ l.length) (hC : ∀ k : Nat, (k : Int) < qz_N h p → nz_S h (qz_P h p k) (ct k) ∧ (ct k).length ≤ 200) (hr1 : h.1 + 1 ≤ 600192) (hr2 : h.2.1 + 6 ≤ 7302232) (k1 : ∀ k : Nat, (k : Int) < qz_N h p → ct k = l.drop f → (∀ i, i < k → ct i ≠ l.drop f) → Q (.inl (some (ez_v (.inl (k : Int)))), h)) (k0 : (∀ i : Nat, (i : Int) < qz_N h p → ct i ≠ l.drop f) → Q (.inr h.1, xc h 1)) : ez_W (d + 6) cm_219 0 [(0, .inr (.inr (some (770)))), (1, .inr (.inr (some (s)))), (2, .inl ((f : Int))), (3, .inr (.inr (some (p))))] [] h Q := by
  have np : 6 ≤ qz_N h p ∧ qz_N h p ≤ 19 := ez_len hB tp tq_26 rfl
  refine ez_go (n := 2) (pc' := 3) (L' := [(4, .inl (0)), (0, .inr (.inr (some (770)))), (1, .inr (.inr (some (s)))), (2, .inl ((f : Int))), (3, .inr (.inr (some (p))))]) (st' := []) rfl ?_
  refine ez_less [(4, .inl (((0 : Nat) : Int))), (0, .inr (.inr (some (770)))), (1, .inr (.inr (some (s)))), (2, .inl ((f : Int))), (3, .inr (.inr (some (p))))] rfl ⟨rfl, rfl, rfl, rfl, rfl, trivial⟩ ?_
  exact rd_among_l hB t770 ts tp hS hl hf hC hr1 hr2 k1 k0 _ 0 rfl (by omega) (fun i hi => by omega)

end EzAm
/-! The model: property. (Written by wip/p2/py/pv70.py.) -/
theorem wl_get (b : Int → Int) (a : Int) (n i : Nat) : (wl b a n)[i]? = if i < n then some (b (a + (i : Int))) else none := by
  unfold wl
  rw [List.getElem?_map]
  by_cases e : i < n
  · rw [List.getElem?_range e, if_pos e]; rfl
  · rw [List.getElem?_eq_none (by rw [List.length_range]; omega), if_neg e]; rfl
theorem ce_16 : nzs_16 = nzs_2.take 21 := by decide
theorem ce_wl {b : Int → Int} {f t : Int} (hft : f ≤ t) : rz_CE b f t ↔ wl b f (t - f).toNat = nzs_16 := by
  constructor
  · intro ⟨h1, h2⟩
    rw [ce_16]
    refine List.ext_getElem? (fun i => ?_)
    rw [wl_get, List.getElem?_take]
    by_cases e : i < 21
    · rw [if_pos (by omega), if_pos e]
      have := h2 (i : Int) (by omega) (by omega)
      rw [show (0 + (i : Int)).toNat = i by omega] at this
      exact this.symm
    · rw [if_neg (by omega), if_neg e]
  · intro h
    have hl : (t - f).toNat = 21 := by
      have := wl_len b f (t - f).toNat
      rw [h] at this; exact this.symm
    refine ⟨by omega, fun j j0 j1 => ?_⟩
    have := wl_get b f (t - f).toNat j.toNat
    rw [h, ce_16, List.getElem?_take, if_pos (by omega), if_pos (by omega), show f + ((j.toNat : Nat) : Int) = f + j by omega] at this
    rw [show (0 + j).toNat = j.toNat by omega]; exact this
theorem ce_nb : ∀ i : Fin 21, ∀ v, nzs_2[i.1]? = some v → ¬ bk v := by
  intro i v hv
  have h : ∀ i : Fin 21, (nzs_2[i.1]?).all (fun v => !(decide (v = 9) || decide (v = 32))) = true := by decide
  have := h i
  rw [hv] at this
  intro e
  rcases e with e | e <;> (rw [e] at this; cases this)
theorem ce_tok {b : Int → Int} {f t : Int} (hft : f ≤ t) (h : rz_CE b f t) : rz_tok b (t - f).toNat f = t := by
  have hle := rz_tok_le b (t - f).toNat f
  by_cases e : rz_tok b (t - f).toNat f < t
  · exfalso
    have h1 := tok_stop b (t - f).toNat f (by omega)
    have h2 := h.2 (rz_tok b (t - f).toNat f - f) (by omega) (by have := h.1; omega)
    rw [show f + (rz_tok b (t - f).toNat f - f) = rz_tok b (t - f).toNat f by omega] at h2
    exact ce_nb ⟨(0 + (rz_tok b (t - f).toNat f - f)).toNat, by have := h.1; omega⟩ _ h2 h1
  · omega
theorem str_tv {τ : Nat → Nat} {h : cz_H} {s : Nat} (hB : ez_B τ h) (ts : τ s = 27) : τ (qz_P h s 0) = 28 := by
  have b1 : 1 ≤ qz_I h s 0 ∧ qz_I h s 0 ≤ 1000000 := ez_fB (cl := 15) hB ts tq_27 rfl rfl (by decide)
  exact (ez_old (cl := 15) (k := 0) hB ts tq_27 rfl rfl (by decide) (show qz_I h s 0 = ((qz_P h s 0 : Nat) : Int) + 1 by unfold qz_P; omega)).1
theorem nz_S_tr {τ : Nat → Nat} {h g : cz_H} {s : Nat} {l : List Int} (hB : ez_B τ h) (x : ∀ q, (τ q = 27 ∨ τ q = 28) → g.2.2 q = h.2.2 q) (ts : τ s = 27) (hS : nz_S h s l) : nz_S g s l := by
  have e1 := x s (Or.inl ts)
  have e2 := x _ (Or.inr (str_tv hB ts))
  have eP : qz_P g s 0 = qz_P h s 0 := by unfold qz_P qz_I; rw [e1]
  exact ⟨by rw [eP]; unfold qz_N; rw [e2]; exact hS.1, fun j v hj => by rw [eP]; unfold qz_I; rw [e2]; exact hS.2 j v hj⟩
theorem nm_tag {τ : Nat → Nat} {h : cz_H} {p k : Nat} (hB : ez_B τ h) (tp : τ p = 26) (hk : (k : Int) < qz_N h p) : τ (qz_P h p k) = 27 := by
  obtain ⟨n, f, a1, a2, a3, a4, a5, a6⟩ := ez_arr hB tp tq_26 rfl rfl
  rw [a3] at hk
  obtain ⟨g1, g2⟩ := a6 k (by omega)
  have hI : qz_I h p k = dz_n (f k) := by unfold qz_I; rw [g1]
  have hb : 1 ≤ dz_n (f k) := (g2.2.1.resolve_left (by decide)).1
  have hc : cz_fitc 3 (f k) = true := g2.1
  have ht := g2.2.2.1.resolve_left (by decide)
  cases hv : f k with
  | inl v => rw [hv] at hc; cases hc
  | inr v =>
    cases v with
    | inl v => rw [hv] at hc; cases hc
    | inr v =>
      cases v with
      | none => rw [hv] at hb; exact absurd hb (by decide)
      | some r =>
        have e : qz_P h p k = r := by unfold qz_P; rw [hI, hv]; show ((r : Int) + 1 - 1).toNat = r; omega
        rw [e]; exact (ht r hv).1
/-- the model's names, one by one -/
def nmN (p : Nat) : List Nat := if p = 785 then [7, 8, 9, 10, 11, 12, 13, 14, 15] else if p = 786 then [16, 17, 18, 19, 20, 21] else if p = 787 then [22, 23, 24, 25, 26, 27, 28, 29, 30, 31, 32, 33, 34, 35] else [22, 23, 24, 36, 26, 27, 28, 37, 38, 39, 40, 41, 42, 43, 44, 45, 46, 47, 48]
def nmT (p : Nat) : List (List Int) := if p = 785 then nzN_1 else if p = 786 then nzN_2 else if p = 787 then nzN_4 else nzN_6
def nmx (h : cz_H) : Prop := ∀ p, 785 ≤ p → p ≤ 788 → qz_N h p = ((nmN p).length : Int) ∧ ∀ k : Nat, k < (nmN p).length → qz_P h p k = (nmN p).getD k 0
theorem nmx_c {h g : cz_H} (hx : nmx h) (e : ∀ p, 785 ≤ p → p ≤ 788 → g.2.2 p = h.2.2 p) : nmx g := fun p p0 p1 => by
  have := hx p p0 p1
  unfold qz_P qz_I at this ⊢
  unfold qz_N at this ⊢
  rw [e p p0 p1]; exact this
theorem nmT_N : ∀ i : Fin 4, (nmT (785 + i.val)).length = (nmN (785 + i.val)).length ∧ ∀ k, k < (nmN (785 + i.val)).length → (nzL ((nmN (785 + i.val)).getD k 0)).getD [] = (nmT (785 + i.val)).getD k [] := by decide +kernel
/-- the names of the model are literals -/
def nmz (h : cz_H) : Prop := (∀ p, 785 ≤ p → p ≤ 788 → ∀ k : Nat, (k : Int) < qz_N h p → ∃ l, nzL (qz_P h p k) = some l) ∧ qz_P h 786 0 = 16 ∧ nmx h
noncomputable def ctn (h : cz_H) (p k : Nat) : List Int := (nzL (qz_P h p k)).getD []
theorem ctn_S {τ : Nat → Nat} {h g : cz_H} {p : Nat} (hB : ez_B τ h) (hZ : nz_Z h) (hN : nmz h) (p0 : 785 ≤ p) (p1 : p ≤ 788) (tp : τ p = 26) (x : ∀ q, (τ q = 26 ∨ τ q = 27 ∨ τ q = 28) → g.2.2 q = h.2.2 q) (k : Nat) (hk : (k : Int) < qz_N g p) : nz_S g (qz_P g p k) (ctn h p k) ∧ (ctn h p k).length ≤ 200 := by
  have e := x p (Or.inl tp)
  have hk' : (k : Int) < qz_N h p := by unfold qz_N at hk ⊢; rw [← e]; exact hk
  have eP : qz_P g p k = qz_P h p k := by unfold qz_P qz_I; rw [e]
  obtain ⟨l, hl⟩ := hN.1 p p0 p1 k hk'
  have ec : ctn h p k = l := by unfold ctn; rw [hl]; rfl
  rw [eP, ec]
  exact ⟨nz_S_tr hB (fun q hq => x q (Or.inr hq)) (nm_tag hB tp hk') (hZ _ _ hl).1, by
    have q1 := (ez_len hB (str_tv hB (nm_tag hB tp hk')) tq_28 rfl).2
    have q1 : qz_N h (qz_P h (qz_P h p k) 0) ≤ 200 := q1
    have q2 := (hZ _ _ hl).1.1
    omega⟩
theorem ctn_x {h : cz_H} {p : Nat} (hx : nmx h) (p0 : 785 ≤ p) (p1 : p ≤ 788) : qz_N h p = ((nmT p).length : Int) ∧ ∀ k, k < (nmT p).length → (nmT p)[k]? = some (ctn h p k) := by
  obtain ⟨a1, a2⟩ := hx p p0 p1
  have t := nmT_N ⟨p - 785, by omega⟩
  rw [show 785 + (⟨p - 785, by omega⟩ : Fin 4).val = p from (by show 785 + (p - 785) = p; omega)] at t
  refine ⟨by rw [a1, t.1], fun k hk => ?_⟩
  rw [show ctn h p k = (nmT p).getD k [] by unfold ctn; rw [a2 k (by omega)]; exact t.2 k (by omega), List.getD_eq_getElem?_getD, List.getElem?_eq_getElem hk]
  rfl
theorem am_ix {h : cz_H} {p k : Nat} {w : List Int} (hx : nmx h) (p0 : 785 ≤ p) (p1 : p ≤ 788) (hk : (k : Int) < qz_N h p) (he : ctn h p k = w) (ho : ∀ i, i < k → ctn h p i ≠ w) : nz_ix (nmT p) w = (k : Int) := by
  obtain ⟨a1, a2⟩ := ctn_x hx p0 p1
  refine nz_ix_some (by rw [a2 k (by omega), he]) (fun i hi e => ?_)
  rw [a2 i (by omega)] at e
  exact ho i hi (Option.some.inj e)
theorem am_no {h : cz_H} {p : Nat} {w : List Int} (hx : nmx h) (p0 : 785 ≤ p) (p1 : p ≤ 788) (ho : ∀ i : Nat, (i : Int) < qz_N h p → ctn h p i ≠ w) : nz_ix (nmT p) w = -1 := by
  obtain ⟨a1, a2⟩ := ctn_x hx p0 p1
  refine nz_ix_none (fun k e => ?_)
  by_cases hk : k < (nmT p).length
  · rw [a2 k hk] at e
    exact ho k (by omega) (Option.some.inj e)
  · rw [List.getElem?_eq_none (by omega)] at e; cases e
theorem wl_drop (b : Int → Int) (a : Int) (n f : Nat) : (wl b a n).drop f = nz_w b (a + (f : Int)) (n - f) := by
  refine List.ext_getElem? (fun i => ?_)
  rw [List.getElem?_drop]
  by_cases e : i < n - f
  · rw [nz_w_get _ _ _ _ e, show (wl b a n)[f + i]? = some (b (a + ((f + i : Nat) : Int))) from nz_w_get b a n (f + i) (by omega)]
    congr 2; push_cast; omega
  · rw [List.getElem?_eq_none (by rw [wl_len]; omega), List.getElem?_eq_none (by rw [nz_w_len]; omega)]
theorem sw_wl {b : Int → Int} {s t : Int} {m : List Int} (hst : s ≤ t) : rz_sw b m s t ↔ (m.length ≤ (wl b s (t - s).toNat).length ∧ ∀ j : Nat, j < m.length → (wl b s (t - s).toNat)[j]? = m[j]?) := by
  rw [wl_len]
  refine ⟨fun w => ⟨by have := w.1; omega, fun j hj => ?_⟩, fun w => ⟨by have := w.1; omega, fun j j0 j1 => ?_⟩⟩
  · have := w.2 (j : Int) (by omega) (by omega)
    rw [show (0 + (j : Int)).toNat = j by omega] at this
    rw [this, show (wl b s (t - s).toNat)[j]? = some (b (s + (j : Int))) from nz_w_get b s _ j (by have := w.1; omega)]
  · have := w.2 j.toNat (by omega)
    rw [show (wl b s (t - s).toNat)[j.toNat]? = some (b (s + (j.toNat : Int))) from nz_w_get b s _ j.toNat (by omega)] at this
    rw [show (0 + j).toNat = j.toNat by omega, ← this]
    congr 2; omega
/-- names hold no blanks -/
theorem pkx_nb {b : Int → Int} {s t : Int} (hst : s ≤ t) (h : rz_PK b s t) : rz_tok b (t - s).toNat s = t := by
  have hle := rz_tok_le b (t - s).toNat s
  have key : ∀ j, s ≤ j → j < t → ¬ bk (b j) := by
    have nm : ∀ (NT : List (List Int)) (f : Int), (∀ x ∈ NT, ∀ c ∈ x, c ≠ 32 ∧ c ≠ 9) → nz_ix NT (nz_w b (s + f) (t - (s + f)).toNat) ≠ -1 → ∀ j, s + f ≤ j → j < t → ¬ bk (b j) := fun NT f hB hx j j0 j1 w => by
      have hm := nz_ix_mem hx
      have := hB _ hm (b j) (List.mem_iff_getElem?.mpr ⟨(j - (s + f)).toNat, by rw [nz_w_get _ _ _ _ (by omega)]; congr 2; omega⟩)
      unfold bk at w; omega
    have pre : ∀ (m : List Int), (∀ c ∈ m, c ≠ 32 ∧ c ≠ 9) → rz_sw b m s t → ∀ j, s ≤ j → j < s + (m.length : Int) → ¬ bk (b j) := fun m hm hw j j0 j1 w => by
      have := hw.2 (j - s) (by omega) (by omega)
      rw [show s + (j - s) = j by omega] at this
      have := hm (b j) (List.mem_iff_getElem?.mpr ⟨_, this⟩)
      unfold bk at w; omega
    rcases h with ⟨h1, h2⟩ | ⟨-, h1, h2⟩ | ⟨-, -, h2⟩
    · intro j j0 j1
      by_cases e : j < s + 4
      · exact pre nzs_3 (by decide) h1 j j0 e
      · exact nm nzN_4 4 nzB_4 h2 j (by omega) j1
    · intro j j0 j1
      by_cases e : j < s + 3
      · exact pre nzs_5 (by decide) h1 j j0 e
      · exact nm nzN_6 3 nzB_6 h2 j (by omega) j1
    · intro j j0 j1
      exact nm nzN_2 0 nzB_2 (by rw [Int.add_zero]; exact h2) j (by omega) j1
  by_cases e : rz_tok b (t - s).toNat s < t
  · exact absurd (tok_stop b (t - s).toNat s (by omega)) (key _ hle.1 e)
  · omega
/-- what property leaves as it was -/
def py (τ : Nat → Nat) (h : cz_H) (τ1 : Nat → Nat) (g : cz_H) (l : Nat) : Prop :=
  (∀ q, τ q ≠ 0 → τ1 q = τ q ∧ (q ≠ 770 → q ≠ l → τ q ≠ 30 → τ q ≠ 31 → g.2.2 q = h.2.2 q)) ∧ (∀ q, τ q = 0 → τ1 q ≠ 0 → 30 ≤ τ1 q ∧ τ1 q ≤ 33) ∧ (∀ j, j ≠ 17 → j ≠ 18 → qz_I g 770 j = qz_I h 770 j) ∧ (h.1 ≤ g.1 ∧ h.2.1 ≤ g.2.1)
theorem py.trans {τ τ1 τ2 : Nat → Nat} {h g k : cz_H} {l : Nat} (x : py τ h τ1 g l) (y : py τ1 g τ2 k l) : py τ h τ2 k l := by
  obtain ⟨x1, x2, x3, x4⟩ := x
  obtain ⟨y1, y2, y3, y4⟩ := y
  have hne : ∀ q, τ q ≠ 0 → τ1 q ≠ 0 := fun q hq => by rw [(x1 q hq).1]; exact hq
  refine ⟨fun q hq => ⟨(y1 q (hne q hq)).1.trans (x1 q hq).1, fun q0 ql q1 q2 => ?_⟩, fun q q1 q2 => ?_, fun j hj hk => (y3 j hj hk).trans (x3 j hj hk), by omega⟩
  · rw [(y1 q (hne q hq)).2 q0 ql (by rw [(x1 q hq).1]; exact q1) (by rw [(x1 q hq).1]; exact q2)]; exact (x1 q hq).2 q0 ql q1 q2
  · by_cases e : τ1 q = 0
    · exact y2 q e q2
    · rw [(y1 q e).1]; exact x2 q q1 e
theorem mw.py {τ : Nat → Nat} {h g : cz_H} {l : Nat} (m : mw h g l) : py τ h τ g l := ⟨fun q hq => ⟨rfl, fun q0 ql _ _ => m.q q0 ql⟩, fun q q1 q2 => absurd q1 q2, m.2, by rw [m.1.1, m.1.2.1]; exact ⟨Nat.le_refl _, Nat.le_refl _⟩⟩
theorem wx.py {τ τ1 : Nat → Nat} {h g : cz_H} {l : Nat} (x : wx τ h τ1 g) : py τ h τ1 g l := ⟨fun q hq => ⟨(x.1 q hq).1, fun q0 _ => (x.1 q hq).2 q0⟩, x.2.1, fun j hj _ => x.2.2.1 j hj, x.2.2.2⟩
section EzPr
variable {d : Nat} {h : cz_H} {τ : Nat → Nat} {Q : cz_F → Prop} {l : Nat}
theorem ez_tnm (hB : ez_B τ h) (t770 : τ 770 = 75) : τ 785 = 26 ∧ τ 786 = 26 ∧ τ 787 = 26 ∧ τ 788 = 26 := by
  have b1 : 786 ≤ qz_I h 770 13 ∧ qz_I h 770 13 ≤ 786 := ez_fB (cl := 11) hB t770 tq_75 rfl rfl (by decide)
  have b2 : 787 ≤ qz_I h 770 14 ∧ qz_I h 770 14 ≤ 787 := ez_fB (cl := 11) hB t770 tq_75 rfl rfl (by decide)
  have b3 : 788 ≤ qz_I h 770 15 ∧ qz_I h 770 15 ≤ 788 := ez_fB (cl := 11) hB t770 tq_75 rfl rfl (by decide)
  have b4 : 789 ≤ qz_I h 770 16 ∧ qz_I h 770 16 ≤ 789 := ez_fB (cl := 11) hB t770 tq_75 rfl rfl (by decide)
  exact ⟨(ez_old (cl := 11) (k := 13) hB t770 tq_75 rfl rfl (by decide) (show qz_I h 770 13 = ((785 : Nat) : Int) + 1 by omega)).1, (ez_old (cl := 11) (k := 14) hB t770 tq_75 rfl rfl (by decide) (show qz_I h 770 14 = ((786 : Nat) : Int) + 1 by omega)).1, (ez_old (cl := 11) (k := 15) hB t770 tq_75 rfl rfl (by decide) (show qz_I h 770 15 = ((787 : Nat) : Int) + 1 by omega)).1, (ez_old (cl := 11) (k := 16) hB t770 tq_75 rfl rfl (by decide) (show qz_I h 770 16 = ((788 : Nat) : Int) + 1 by omega)).1⟩
theorem strD_tv {τ : Nat → Nat} {h : cz_H} {s : Nat} (hB : ez_B τ h) (ts : τ s = 33) : τ (qz_P h s 0) = 31 := by
  have b1 : 1 ≤ qz_I h s 0 ∧ qz_I h s 0 ≤ 1000000 := ez_fB (cl := 15) hB ts tq_33 rfl rfl (by decide)
  exact (ez_old (cl := 15) (k := 0) hB ts tq_33 rfl rfl (by decide) (show qz_I h s 0 = ((qz_P h s 0 : Nat) : Int) + 1 by unfold qz_P; omega)).1
theorem rd_property_b {g : cz_H} {τ1 : Nat → Nat} {s : Nat} (hB : ez_B τ h) (t770 : τ 770 = 75) (tl : τ l = 13) (hl : lz l) (hZ : nz_Z h) (hN : nmz h) (hft : mf h 1 ≤ mt h 1) (ht1 : mt h 1 - mf h 1 ≤ 4096) (hBg : ez_B τ1 g) (u770 : τ1 770 = 75) (ull : τ1 l = 13) (us : τ1 s = 33) (ul49 : τ1 49 = 27) (ul50 : τ1 50 = 27) (hW : ∀ s l, nzL s = some l → nz_S g s l) (hS : nz_S g s (wl (mb h) (mf h 1) (mt h 1 - mf h 1).toNat)) (hok : (rz_first (mb h) (mf h 0) (mt h 0) ≠ -1 ∧ rz_first (mb h) (mf h 0) (mt h 0) ≤ rz_last (mb h) (mf h 0) (mt h 0))) (hx : py τ h τ1 g l) (v1 : qz_I g l 1 = rz_first (mb h) (mf h 0) (mt h 0)) (v2 : qz_I g l 2 = rz_last (mb h) (mf h 0) (mt h 0)) (vJ : ∀ j, j ≠ 1 → j ≠ 2 → j ≠ 5 → j ≠ 6 → qz_I g l j = qz_I h l j) (vr : (g.2.1 : Int) ≤ h.2.1 + 5 * (mt h 1 - mf h 1) + 40) (vc : 8 * (g.1 : Int) ≤ 8 * h.1 + (mt h 1 - mf h 1) + 40) (hr1 : g.1 + 10 ≤ 600192) (hr2 : g.2.1 + 100 ≤ 7302232) (k1 : (rz_first (mb h) (mf h 0) (mt h 0) ≠ -1 ∧ rz_first (mb h) (mf h 0) (mt h 0) ≤ rz_last (mb h) (mf h 0) (mt h 0)) → rz_PK (mb h) (mf h 1) (mt h 1) → ∀ g τ1, ez_B τ1 g → py τ h τ1 g l → qz_I g l 1 = rz_first (mb h) (mf h 0) (mt h 0) → qz_I g l 2 = rz_last (mb h) (mf h 0) (mt h 0) → (qz_I g l 5 = 0 ↔ rz_CE (mb h) (mf h 1) (mt h 1)) → (∃ gr nm, rz_PV (mb h) (mf h 1) (mt h 1) gr nm ∧ qz_I g l 5 = (if gr = 0 then 6 else if gr = 1 then 7 else nm) ∧ (gr ≠ 2 → qz_I g l 6 = nm)) → (∀ j, j ≠ 1 → j ≠ 2 → j ≠ 5 → j ≠ 6 → qz_I g l j = qz_I h l j) → (g.2.1 : Int) ≤ h.2.1 + 5 * (mt h 1 - mf h 1) + 40 → 8 * (g.1 : Int) ≤ 8 * h.1 + (mt h 1 - mf h 1) + 40 → Q (.inl none, g)) (k0 : ¬ ((rz_first (mb h) (mf h 0) (mt h 0) ≠ -1 ∧ rz_first (mb h) (mf h 0) (mt h 0) ≤ rz_last (mb h) (mf h 0) (mt h 0)) ∧ rz_CE (mb h) (mf h 1) (mt h 1)) → ¬ ((rz_first (mb h) (mf h 0) (mt h 0) ≠ -1 ∧ rz_first (mb h) (mf h 0) (mt h 0) ≤ rz_last (mb h) (mf h 0) (mt h 0)) ∧ rz_PK (mb h) (mf h 1) (mt h 1)) → ∀ g τ1, ez_B τ1 g → py τ h τ1 g l → (g.2.1 : Int) ≤ h.2.1 + 5 * (mt h 1 - mf h 1) + 40 → 8 * (g.1 : Int) ≤ 8 * h.1 + (mt h 1 - mf h 1) + 40 → Q (.inr g.1, xc g 1)) : ez_W (d + 7) cm_292 24 [(2, .inr (.inr (some (s)))), (0, .inr (.inr (some (770)))), (1, .inr (.inr (some (l))))] [] g Q := by
  refine ez_go (n := 2) (pc' := 26) (L' := [(2, .inr (.inr (some (s)))), (0, .inr (.inr (some (770)))), (1, .inr (.inr (some (l))))]) (st' := [.inr (.inr (some (s))), .inr (.inr (some (770)))]) rfl ?_
  refine ez_ldcW rfl rfl ?_
  refine ez_cv hBg u770 rfl rfl rfl tq_75 rfl rfl rfl (rd_begins hBg u770 us (ul49) hS (hW 49 _ rfl) (by rw [wl_len]; omega) (by decide) (fun q1 q2 => ez_K1 ?_) (fun q0 => ez_K1 ?_))
  · skip
    have sw3 : rz_sw (mb h) nzs_3 (mf h 1) (mt h 1) := (sw_wl hft).mpr ⟨q1, q2⟩
    have nce : ¬ rz_CE (mb h) (mf h 1) (mt h 1) := fun w => by rw [ce_wl hft] at w; have q3 := q2 0 (by decide); rw [w] at q3; exact absurd q3 (by decide)
    have len4 : 4 ≤ (wl (mb h) (mf h 1) (mt h 1 - mf h 1).toNat).length := q1
    refine ez_if rfl rfl ⟨by decide, by decide⟩ (fun (c1 : (1 : Int) = (0)) => absurd c1 (by decide)) (fun _ => ?_)
    refine ez_go (n := 2) (pc' := 38) (L' := [(2, .inr (.inr (some (s)))), (0, .inr (.inr (some (770)))), (1, .inr (.inr (some (l))))]) (st' := [.inl (6), .inr (.inr (some (l)))]) rfl ?_
    refine ez_pf hBg ull rfl rfl tq_13 rfl rfl rfl rfl (ez_vdI rfl rfl (by omega) (by omega)) (fun hB2 w3 => ?_)
    refine ez_go (n := 5) (pc' := 46) (L' := [(2, .inr (.inr (some (s)))), (0, .inr (.inr (some (770)))), (1, .inr (.inr (some (l))))]) (st' := [.inr (.inr (some (770))), .inl (4), .inr (.inr (some (s))), .inr (.inr (some (770))), .inr (.inr (some (l)))]) rfl ?_
    refine ez_gC (p := 787) (tg := 26) hB2 u770 rfl rfl tq_75 rfl rfl (fun (t787 : _ = 26) => ?_)
    have ec : ∀ q, q ≠ l → ((dz_put g l 5 (ez_v (.inl (6))))).2.2 q = g.2.2 q := fun q hq => by rw [dz_put_at, if_neg hq]
    have hx2 : py τ h τ1 (dz_put g l 5 (ez_v (.inl (6)))) l := hx.trans (mw_put hl.1).py
    have r1 : ((dz_put g l 5 (ez_v (.inl (6))))).1 = g.1 := rfl
    have r2 : ((dz_put g l 5 (ez_v (.inl (6))))).2.1 = g.2.1 := rfl
    have y5 : qz_I (dz_put g l 5 (ez_v (.inl (6)))) l 5 = 6 := by rw [w3, rz_rd ⟨by omega, by omega⟩]
    have yJ : ∀ j, j ≠ 5 → qz_I (dz_put g l 5 (ez_v (.inl (6)))) l j = qz_I g l j := fun j hj => ez_put_I (fun w => hj w.2)
    have hB2 := hB2
    generalize (dz_put g l 5 (ez_v (.inl (6)))) = g2 at *
    have nl : ∀ q, (τ q = 26 ∨ τ q = 27 ∨ τ q = 28) → q ≠ l := fun q hq e => by rw [e, tl] at hq; rcases hq with w | w | w <;> cases w
    have xq : ∀ q, (τ q = 26 ∨ τ q = 27 ∨ τ q = 28) → g2.2.2 q = h.2.2 q := fun q hq => by rw [ec q (nl q hq)]; exact (hx.1 q (by rcases hq with w | w | w <;> rw [w] <;> decide)).2 (fun e => by rw [e, t770] at hq; rcases hq with w | w | w <;> cases w) (nl q hq) (by rcases hq with w | w | w <;> rw [w] <;> decide) (by rcases hq with w | w | w <;> rw [w] <;> decide)
    have nsl : s ≠ l := fun e => by rw [e, ull] at us; cases us
    have nvl : qz_P g s 0 ≠ l := fun e => by have := strD_tv hBg us; rw [e, ull] at this; cases this
    have hS2 : nz_S g2 s (wl (mb h) (mf h 1) (mt h 1 - mf h 1).toNat) := by
      have eP : qz_P g2 s 0 = qz_P g s 0 := by unfold qz_P qz_I; rw [ec s nsl]
      exact ⟨by rw [eP]; unfold qz_N; rw [ec _ nvl]; exact hS.1, fun j v hj => by rw [eP]; unfold qz_I; rw [ec _ nvl]; exact hS.2 j v hj⟩
    have T := ez_tnm hB t770
    refine ez_cv hB2 u770 rfl rfl rfl tq_75 rfl rfl rfl (rd_among (f := 4) (ct := ctn h 787) hB2 u770 us (t787) hS2 (by rw [wl_len]; omega) (by omega) (ctn_S hB hZ hN (by decide) (by decide) T.2.2.1 xq) (by omega) (by omega) (fun k kn ke ko => ez_K1 ?_) (fun ko => ez_Kp (xc_exc hB2 rfl) rfl (k0 (fun w => ?_) (fun w => ?_) g2 τ1 hB2 hx2 (by omega) (by omega))))
    · skip
      have np : 6 ≤ qz_N g2 787 ∧ qz_N g2 787 ≤ 19 := ez_len hB2 t787 tq_26 rfl
      have enp : qz_N g2 787 = qz_N h 787 := by unfold qz_N; rw [xq 787 (Or.inl T.2.2.1)]
      have ewd : (wl (mb h) (mf h 1) (mt h 1 - mf h 1).toNat).drop 4 = (nz_w (mb h) (mf h 1 + 4) (mt h 1 - (mf h 1 + 4)).toNat) := (wl_drop _ _ _ _).trans (by congr 1; omega)
      have eix : nz_ix nzN_4 (nz_w (mb h) (mf h 1 + 4) (mt h 1 - (mf h 1 + 4)).toNat) = (k : Int) := am_ix (p := 787) hN.2.2 (by decide) (by decide) (by omega) (ke.trans ewd) (fun i hi => by rw [← ewd]; exact ko i hi)
      have wix : nz_ix nzN_4 (nz_w (mb h) (mf h 1 + 4) (mt h 1 - (mf h 1 + 4)).toNat) ≠ -1 := by rw [eix]; omega
      have hPV : rz_PV (mb h) (mf h 1) (mt h 1) 0 (k : Int) := Or.inl ⟨sw3, rfl, eix.symm⟩
      have hpk : rz_PK (mb h) (mf h 1) (mt h 1) := (Or.inl ⟨sw3, wix⟩)
      refine ez_pf hB2 ull rfl rfl tq_13 rfl rfl rfl rfl (ez_vdI rfl rfl (by omega) (by omega)) (fun hB4 w5 => ?_)
      refine ez_go (n := 1) (pc' := 106) (L' := [(2, .inr (.inr (some (s)))), (0, .inr (.inr (some (770)))), (1, .inr (.inr (some (l))))]) (st' := []) rfl ?_
      refine ez_ret0 rfl rfl (k1 hok hpk _ τ1 hB4 (hx2.trans (mw_put hl.1).py) (by rw [ez_put_I (by omega), yJ _ (by decide)]; exact v1) (by rw [ez_put_I (by omega), yJ _ (by decide)]; exact v2) ?_ ⟨_, _, hPV, (by rw [ez_put_I (by omega), y5]; exact (if_pos rfl).symm), fun _ => (by rw [w5, rz_rd ⟨by omega, by omega⟩])⟩ (fun j j1 j2 j5 j6 => by rw [ez_put_I (fun w => j6 w.2), yJ j j5]; exact vJ j j1 j2 j5 j6) (by show (g2.2.1 : Int) ≤ _; omega) (by show 8 * (g2.1 : Int) ≤ _; omega))
      rw [ez_put_I (by omega), y5]; exact ⟨fun w => absurd w (by decide), fun w => absurd w nce⟩
    · exact nce w.2
    · have enp : qz_N g2 787 = qz_N h 787 := by unfold qz_N; rw [xq 787 (Or.inl T.2.2.1)]
      have ewd : (wl (mb h) (mf h 1) (mt h 1 - mf h 1).toNat).drop 4 = (nz_w (mb h) (mf h 1 + 4) (mt h 1 - (mf h 1 + 4)).toNat) := (wl_drop _ _ _ _).trans (by congr 1; omega)
      have wno : nz_ix nzN_4 (nz_w (mb h) (mf h 1 + 4) (mt h 1 - (mf h 1 + 4)).toNat) = -1 := am_no (p := 787) hN.2.2 (by decide) (by decide) (fun i hi => by rw [← ewd]; exact ko i (by omega))
      rcases w.2 with ⟨a1, a2⟩ | ⟨a1, a2, a3⟩ | ⟨a1, a2, a3⟩
      · exact a2 wno
      · exact a1 sw3
      · exact a1 sw3
  · skip
    have sw3 : ¬ rz_sw (mb h) nzs_3 (mf h 1) (mt h 1) := fun w => q0 ((sw_wl hft).mp w)
    refine ez_if rfl rfl ⟨by decide, by decide⟩ (fun _ => ?_) (fun (c6 : ¬((0 : Int) = (0))) => absurd c6 (by decide))
    refine ez_go (n := 2) (pc' := 60) (L' := [(2, .inr (.inr (some (s)))), (0, .inr (.inr (some (770)))), (1, .inr (.inr (some (l))))]) (st' := [.inr (.inr (some (s))), .inr (.inr (some (770)))]) rfl ?_
    refine ez_ldcW rfl rfl ?_
    refine ez_cv hBg u770 rfl rfl rfl tq_75 rfl rfl rfl (rd_begins hBg u770 us (ul50) hS (hW 50 _ rfl) (by rw [wl_len]; omega) (by decide) (fun q1 q2 => ez_K1 ?_) (fun q0 => ez_K1 ?_))
    · skip
      have sw5 : rz_sw (mb h) nzs_5 (mf h 1) (mt h 1) := (sw_wl hft).mpr ⟨q1, q2⟩
      have nce : ¬ rz_CE (mb h) (mf h 1) (mt h 1) := fun w => by rw [ce_wl hft] at w; have q3 := q2 0 (by decide); rw [w] at q3; exact absurd q3 (by decide)
      have len3 : 3 ≤ (wl (mb h) (mf h 1) (mt h 1 - mf h 1).toNat).length := q1
      refine ez_if rfl rfl ⟨by decide, by decide⟩ (fun (c7 : (1 : Int) = (0)) => absurd c7 (by decide)) (fun _ => ?_)
      refine ez_go (n := 2) (pc' := 72) (L' := [(2, .inr (.inr (some (s)))), (0, .inr (.inr (some (770)))), (1, .inr (.inr (some (l))))]) (st' := [.inl (7), .inr (.inr (some (l)))]) rfl ?_
      refine ez_pf hBg ull rfl rfl tq_13 rfl rfl rfl rfl (ez_vdI rfl rfl (by omega) (by omega)) (fun hB8 w9 => ?_)
      refine ez_go (n := 5) (pc' := 80) (L' := [(2, .inr (.inr (some (s)))), (0, .inr (.inr (some (770)))), (1, .inr (.inr (some (l))))]) (st' := [.inr (.inr (some (770))), .inl (3), .inr (.inr (some (s))), .inr (.inr (some (770))), .inr (.inr (some (l)))]) rfl ?_
      refine ez_gC (p := 788) (tg := 26) hB8 u770 rfl rfl tq_75 rfl rfl (fun (t788 : _ = 26) => ?_)
      have ec : ∀ q, q ≠ l → ((dz_put g l 5 (ez_v (.inl (7))))).2.2 q = g.2.2 q := fun q hq => by rw [dz_put_at, if_neg hq]
      have hx2 : py τ h τ1 (dz_put g l 5 (ez_v (.inl (7)))) l := hx.trans (mw_put hl.1).py
      have r1 : ((dz_put g l 5 (ez_v (.inl (7))))).1 = g.1 := rfl
      have r2 : ((dz_put g l 5 (ez_v (.inl (7))))).2.1 = g.2.1 := rfl
      have y5 : qz_I (dz_put g l 5 (ez_v (.inl (7)))) l 5 = 7 := by rw [w9, rz_rd ⟨by omega, by omega⟩]
      have yJ : ∀ j, j ≠ 5 → qz_I (dz_put g l 5 (ez_v (.inl (7)))) l j = qz_I g l j := fun j hj => ez_put_I (fun w => hj w.2)
      have hB2 := hB8
      generalize (dz_put g l 5 (ez_v (.inl (7)))) = g2 at *
      have nl : ∀ q, (τ q = 26 ∨ τ q = 27 ∨ τ q = 28) → q ≠ l := fun q hq e => by rw [e, tl] at hq; rcases hq with w | w | w <;> cases w
      have xq : ∀ q, (τ q = 26 ∨ τ q = 27 ∨ τ q = 28) → g2.2.2 q = h.2.2 q := fun q hq => by rw [ec q (nl q hq)]; exact (hx.1 q (by rcases hq with w | w | w <;> rw [w] <;> decide)).2 (fun e => by rw [e, t770] at hq; rcases hq with w | w | w <;> cases w) (nl q hq) (by rcases hq with w | w | w <;> rw [w] <;> decide) (by rcases hq with w | w | w <;> rw [w] <;> decide)
      have nsl : s ≠ l := fun e => by rw [e, ull] at us; cases us
      have nvl : qz_P g s 0 ≠ l := fun e => by have := strD_tv hBg us; rw [e, ull] at this; cases this
      have hS2 : nz_S g2 s (wl (mb h) (mf h 1) (mt h 1 - mf h 1).toNat) := by
        have eP : qz_P g2 s 0 = qz_P g s 0 := by unfold qz_P qz_I; rw [ec s nsl]
        exact ⟨by rw [eP]; unfold qz_N; rw [ec _ nvl]; exact hS.1, fun j v hj => by rw [eP]; unfold qz_I; rw [ec _ nvl]; exact hS.2 j v hj⟩
      have T := ez_tnm hB t770
      refine ez_cv hB2 u770 rfl rfl rfl tq_75 rfl rfl rfl (rd_among (f := 3) (ct := ctn h 788) hB2 u770 us (t788) hS2 (by rw [wl_len]; omega) (by omega) (ctn_S hB hZ hN (by decide) (by decide) T.2.2.2 xq) (by omega) (by omega) (fun k kn ke ko => ez_K1 ?_) (fun ko => ez_Kp (xc_exc hB2 rfl) rfl (k0 (fun w => ?_) (fun w => ?_) g2 τ1 hB2 hx2 (by omega) (by omega))))
      · skip
        have np : 6 ≤ qz_N g2 788 ∧ qz_N g2 788 ≤ 19 := ez_len hB2 t788 tq_26 rfl
        have enp : qz_N g2 788 = qz_N h 788 := by unfold qz_N; rw [xq 788 (Or.inl T.2.2.2)]
        have ewd : (wl (mb h) (mf h 1) (mt h 1 - mf h 1).toNat).drop 3 = (nz_w (mb h) (mf h 1 + 3) (mt h 1 - (mf h 1 + 3)).toNat) := (wl_drop _ _ _ _).trans (by congr 1; omega)
        have eix : nz_ix nzN_6 (nz_w (mb h) (mf h 1 + 3) (mt h 1 - (mf h 1 + 3)).toNat) = (k : Int) := am_ix (p := 788) hN.2.2 (by decide) (by decide) (by omega) (ke.trans ewd) (fun i hi => by rw [← ewd]; exact ko i hi)
        have wix : nz_ix nzN_6 (nz_w (mb h) (mf h 1 + 3) (mt h 1 - (mf h 1 + 3)).toNat) ≠ -1 := by rw [eix]; omega
        have hPV : rz_PV (mb h) (mf h 1) (mt h 1) 1 (k : Int) := Or.inr (Or.inl ⟨sw3, sw5, rfl, eix.symm⟩)
        have hpk : rz_PK (mb h) (mf h 1) (mt h 1) := (Or.inr (Or.inl ⟨sw3, sw5, wix⟩))
        refine ez_pf hB2 ull rfl rfl tq_13 rfl rfl rfl rfl (ez_vdI rfl rfl (by omega) (by omega)) (fun hB10 w11 => ?_)
        refine ez_go (n := 1) (pc' := 106) (L' := [(2, .inr (.inr (some (s)))), (0, .inr (.inr (some (770)))), (1, .inr (.inr (some (l))))]) (st' := []) rfl ?_
        refine ez_ret0 rfl rfl (k1 hok hpk _ τ1 hB10 (hx2.trans (mw_put hl.1).py) (by rw [ez_put_I (by omega), yJ _ (by decide)]; exact v1) (by rw [ez_put_I (by omega), yJ _ (by decide)]; exact v2) ?_ ⟨_, _, hPV, (by rw [ez_put_I (by omega), y5]; exact ((if_neg (by decide)).trans (if_pos rfl)).symm), fun _ => (by rw [w11, rz_rd ⟨by omega, by omega⟩])⟩ (fun j j1 j2 j5 j6 => by rw [ez_put_I (fun w => j6 w.2), yJ j j5]; exact vJ j j1 j2 j5 j6) (by show (g2.2.1 : Int) ≤ _; omega) (by show 8 * (g2.1 : Int) ≤ _; omega))
        rw [ez_put_I (by omega), y5]; exact ⟨fun w => absurd w (by decide), fun w => absurd w nce⟩
      · exact nce w.2
      · have enp : qz_N g2 788 = qz_N h 788 := by unfold qz_N; rw [xq 788 (Or.inl T.2.2.2)]
        have ewd : (wl (mb h) (mf h 1) (mt h 1 - mf h 1).toNat).drop 3 = (nz_w (mb h) (mf h 1 + 3) (mt h 1 - (mf h 1 + 3)).toNat) := (wl_drop _ _ _ _).trans (by congr 1; omega)
        have wno : nz_ix nzN_6 (nz_w (mb h) (mf h 1 + 3) (mt h 1 - (mf h 1 + 3)).toNat) = -1 := am_no (p := 788) hN.2.2 (by decide) (by decide) (fun i hi => by rw [← ewd]; exact ko i (by omega))
        rcases w.2 with ⟨a1, a2⟩ | ⟨a1, a2, a3⟩ | ⟨a1, a2, a3⟩
        · exact sw3 a1
        · exact a3 wno
        · exact a2 sw5
    · skip
      have sw5 : ¬ rz_sw (mb h) nzs_5 (mf h 1) (mt h 1) := fun w => q0 ((sw_wl hft).mp w)
      refine ez_if rfl rfl ⟨by decide, by decide⟩ (fun _ => ?_) (fun (c12 : ¬((0 : Int) = (0))) => absurd c12 (by decide))
      refine ez_go (n := 5) (pc' := 97) (L' := [(2, .inr (.inr (some (s)))), (0, .inr (.inr (some (770)))), (1, .inr (.inr (some (l))))]) (st' := [.inr (.inr (some (770))), .inl (0), .inr (.inr (some (s))), .inr (.inr (some (770))), .inr (.inr (some (l)))]) rfl ?_
      refine ez_gC (p := 786) (tg := 26) hBg u770 rfl rfl tq_75 rfl rfl (fun (t786 : _ = 26) => ?_)
      have ec : ∀ q, q ≠ l → g.2.2 q = g.2.2 q := fun _ _ => rfl
      have nl : ∀ q, (τ q = 26 ∨ τ q = 27 ∨ τ q = 28) → q ≠ l := fun q hq e => by rw [e, tl] at hq; rcases hq with w | w | w <;> cases w
      have xq : ∀ q, (τ q = 26 ∨ τ q = 27 ∨ τ q = 28) → g.2.2 q = h.2.2 q := fun q hq => by rw [ec q (nl q hq)]; exact (hx.1 q (by rcases hq with w | w | w <;> rw [w] <;> decide)).2 (fun e => by rw [e, t770] at hq; rcases hq with w | w | w <;> cases w) (nl q hq) (by rcases hq with w | w | w <;> rw [w] <;> decide) (by rcases hq with w | w | w <;> rw [w] <;> decide)
      have nsl : s ≠ l := fun e => by rw [e, ull] at us; cases us
      have nvl : qz_P g s 0 ≠ l := fun e => by have := strD_tv hBg us; rw [e, ull] at this; cases this
      have hS2 : nz_S g s (wl (mb h) (mf h 1) (mt h 1 - mf h 1).toNat) := by
        have eP : qz_P g s 0 = qz_P g s 0 := by unfold qz_P qz_I; rw [ec s nsl]
        exact ⟨by rw [eP]; unfold qz_N; rw [ec _ nvl]; exact hS.1, fun j v hj => by rw [eP]; unfold qz_I; rw [ec _ nvl]; exact hS.2 j v hj⟩
      have T := ez_tnm hB t770
      refine ez_cv hBg u770 rfl rfl rfl tq_75 rfl rfl rfl (rd_among (f := 0) (ct := ctn h 786) hBg u770 us (t786) hS2 (by rw [wl_len]; omega) (by omega) (ctn_S hB hZ hN (by decide) (by decide) T.2.1 xq) (by omega) (by omega) (fun k kn ke ko => ez_K1 ?_) (fun ko => ez_Kp (xc_exc hBg rfl) rfl (k0 (fun w => ?_) (fun w => ?_) g τ1 hBg hx (by omega) (by omega))))
      · skip
        have np : 6 ≤ qz_N g 786 ∧ qz_N g 786 ≤ 19 := ez_len hBg t786 tq_26 rfl
        have enp : qz_N g 786 = qz_N h 786 := by unfold qz_N; rw [xq 786 (Or.inl T.2.1)]
        have ewd : (wl (mb h) (mf h 1) (mt h 1 - mf h 1).toNat).drop 0 = (nz_w (mb h) (mf h 1) (mt h 1 - mf h 1).toNat) := rfl
        have eix : nz_ix nzN_2 (nz_w (mb h) (mf h 1) (mt h 1 - mf h 1).toNat) = (k : Int) := am_ix (p := 786) hN.2.2 (by decide) (by decide) (by omega) (ke.trans ewd) (fun i hi => by rw [← ewd]; exact ko i hi)
        have wix : nz_ix nzN_2 (nz_w (mb h) (mf h 1) (mt h 1 - mf h 1).toNat) ≠ -1 := by rw [eix]; omega
        have hPV : rz_PV (mb h) (mf h 1) (mt h 1) 2 (k : Int) := Or.inr (Or.inr ⟨sw3, sw5, rfl, eix.symm⟩)
        have hpk : rz_PK (mb h) (mf h 1) (mt h 1) := (Or.inr (Or.inr ⟨sw3, sw5, wix⟩))
        refine ez_pf hBg ull rfl rfl tq_13 rfl rfl rfl rfl (ez_vdI rfl rfl (by omega) (by omega)) (fun hB13 w14 => ?_)
        refine ez_ret0 rfl rfl (k1 hok hpk _ τ1 hB13 (hx.trans (mw_put hl.1).py) (by rw [ez_put_I (by omega)]; exact v1) (by rw [ez_put_I (by omega)]; exact v2) ?_ ⟨_, _, hPV, (by rw [w14, rz_rd ⟨by omega, by omega⟩]; exact ((if_neg (by decide)).trans (if_neg (by decide))).symm), fun w => absurd rfl w⟩ (fun j j1 j2 j5 j6 => by rw [ez_put_I (fun w => j5 w.2)]; exact vJ j j1 j2 j5 j6) vr vc)
        rw [w14, rz_rd ⟨by omega, by omega⟩]
        have c0 : ctn h 786 0 = nzs_16 := by unfold ctn; rw [hN.2.1]; rfl
        rw [List.drop_zero] at ke
        refine ⟨fun e => ?_, fun w => ?_⟩
        · rw [ce_wl hft, ← ke, show k = 0 by omega]; exact c0
        · by_cases e : k = 0; (· rw [e]; rfl); (· exfalso; refine ko 0 (by omega) ?_; rw [List.drop_zero, (ce_wl hft).mp w]; exact c0)
      · refine ko 0 (by have := ez_len hBg t786 tq_26 rfl; have : 6 ≤ qz_N g 786 := this.1; omega) ?_
        rw [(ce_wl hft).mp w.2, List.drop_zero]; unfold ctn; rw [hN.2.1]; rfl
      · have enp : qz_N g 786 = qz_N h 786 := by unfold qz_N; rw [xq 786 (Or.inl T.2.1)]
        have ewd : (wl (mb h) (mf h 1) (mt h 1 - mf h 1).toNat).drop 0 = (nz_w (mb h) (mf h 1) (mt h 1 - mf h 1).toNat) := rfl
        have wno : nz_ix nzN_2 (nz_w (mb h) (mf h 1) (mt h 1 - mf h 1).toNat) = -1 := am_no (p := 786) hN.2.2 (by decide) (by decide) (fun i hi => by rw [← ewd]; exact ko i (by omega))
        rcases w.2 with ⟨a1, a2⟩ | ⟨a1, a2, a3⟩ | ⟨a1, a2, a3⟩
        · exact sw3 a1
        · exact sw5 a2
        · exact a3 wno

end EzPr
/-! The model: property, all of it. (Written by wip/p2/py/pv71.py.) -/
section EzPs
variable {d : Nat} {h : cz_H} {τ : Nat → Nat} {Q : cz_F → Prop} {l : Nat}
theorem rd_property (hB : ez_B τ h) (t770 : τ 770 = 75) (tl : τ l = 13) (hl : lz l) (hZ : nz_Z h) (hN : nmz h) (hT : ∀ s l, nzL s = some l → τ s = 27) (F0 : (0 ≤ mf h 0 ∧ mf h 0 ≤ mt h 0) ∧ mt h 0 ≤ 4096) (F1 : (0 ≤ mf h 1 ∧ mf h 1 ≤ mt h 1) ∧ mt h 1 ≤ 4096) (hpl : ∀ j, mf h 1 ≤ j → j < mt h 1 → 0 ≤ mb h j ∧ mb h j ≤ 127) (hr1 : h.1 + 1200 ≤ 600192) (hr2 : h.2.1 + 50000 ≤ 7302232) (k1 : (rz_first (mb h) (mf h 0) (mt h 0) ≠ -1 ∧ rz_first (mb h) (mf h 0) (mt h 0) ≤ rz_last (mb h) (mf h 0) (mt h 0)) → rz_PK (mb h) (mf h 1) (mt h 1) → ∀ g τ1, ez_B τ1 g → py τ h τ1 g l → qz_I g l 1 = rz_first (mb h) (mf h 0) (mt h 0) → qz_I g l 2 = rz_last (mb h) (mf h 0) (mt h 0) → (qz_I g l 5 = 0 ↔ rz_CE (mb h) (mf h 1) (mt h 1)) → (∃ gr nm, rz_PV (mb h) (mf h 1) (mt h 1) gr nm ∧ qz_I g l 5 = (if gr = 0 then 6 else if gr = 1 then 7 else nm) ∧ (gr ≠ 2 → qz_I g l 6 = nm)) → (∀ j, j ≠ 1 → j ≠ 2 → j ≠ 5 → j ≠ 6 → qz_I g l j = qz_I h l j) → (g.2.1 : Int) ≤ h.2.1 + 5 * (mt h 1 - mf h 1) + 40 → 8 * (g.1 : Int) ≤ 8 * h.1 + (mt h 1 - mf h 1) + 40 → Q (.inl none, g)) (k0 : ¬ ((rz_first (mb h) (mf h 0) (mt h 0) ≠ -1 ∧ rz_first (mb h) (mf h 0) (mt h 0) ≤ rz_last (mb h) (mf h 0) (mt h 0)) ∧ rz_CE (mb h) (mf h 1) (mt h 1)) → ¬ ((rz_first (mb h) (mf h 0) (mt h 0) ≠ -1 ∧ rz_first (mb h) (mf h 0) (mt h 0) ≤ rz_last (mb h) (mf h 0) (mt h 0)) ∧ rz_PK (mb h) (mf h 1) (mt h 1)) → ∀ g τ1, ez_B τ1 g → py τ h τ1 g l → (g.2.1 : Int) ≤ h.2.1 + 5 * (mt h 1 - mf h 1) + 40 → 8 * (g.1 : Int) ≤ 8 * h.1 + (mt h 1 - mf h 1) + 40 → Q (.inr g.1, xc g 1)) : ez_W (d + 9) cm_292 0 [(0, .inr (.inr (some (770)))), (1, .inr (.inr (some (l))))] [] h Q := by
  have t49 : τ 49 = 27 := hT 49 _ rfl
  have t50 : τ 50 = 27 := hT 50 _ rfl
  refine ez_go (n := 2) (pc' := 2) (L' := [(0, .inr (.inr (some (770)))), (1, .inr (.inr (some (l))))]) (st' := [.inl (0), .inr (.inr (some (770)))]) rfl ?_
  refine ez_cv hB t770 rfl rfl rfl tq_75 rfl rfl rfl (rd_field hB t770 (by omega) (by omega) (fun g1 hB1 m1 a1 s1 => ez_K0 ?_))
  have u1a : (g1).1 = h.1 := m1.1.1
  have u1b : (g1).2.1 = h.2.1 := m1.1.2.1
  refine ez_go (n := 2) (pc' := 7) (L' := [(0, .inr (.inr (some (770)))), (1, .inr (.inr (some (l))))]) (st' := [.inr (.inr (some (l))), .inr (.inr (some (770)))]) rfl ?_
  refine ez_cv hB1 t770 rfl rfl rfl tq_75 rfl rfl rfl (rd_codes hB1 t770 tl (by omega) (by omega) (by omega) (by omega) (fun g2 hB2 m2 a2 e1 e2 v1 v2 J2 => ez_K0 ?_) (fun hno g2 hB2 m2 J2 => ez_Kp (xc_exc hB2 rfl) rfl (k0 (fun w => ?_) (fun w => ?_) g2 τ hB2 (m1.mw.trans m2.mw).py ?_ ?_)))
  · rw [a1, s1, m1.b] at e1 e2 v1 v2
    have M2 : mw h g2 l := m1.mw.trans m2.mw
    have u2a : (g2).1 = h.1 := M2.1.1
    have u2b : (g2).2.1 = h.2.1 := M2.1.2.1
    refine ez_go (n := 2) (pc' := 12) (L' := [(0, .inr (.inr (some (770)))), (1, .inr (.inr (some (l))))]) (st' := [.inl (1), .inr (.inr (some (770)))]) rfl ?_
    refine ez_cv hB2 t770 rfl rfl rfl tq_75 rfl rfl rfl (rd_field hB2 t770 (by omega) (by omega) (fun g3 hB3 m3 a3 s3 => ez_K0 ?_))
    rw [M2.f hl.2.2.1] at a3
    rw [M2.t hl.2.2.2] at s3
    have M3 : mw h g3 l := M2.trans m3.mw
    have u3a : (g3).1 = h.1 := M3.1.1
    have u3b : (g3).2.1 = h.2.1 := M3.1.2.1
    have J3 : ∀ j, qz_I g3 l j = qz_I g2 l j := fun j => m3.l hl.1 j
    refine ez_go (n := 1) (pc' := 16) (L' := [(0, .inr (.inr (some (770)))), (1, .inr (.inr (some (l))))]) (st' := [.inr (.inr (some (770)))]) rfl ?_
    have eb3 := M3.b hl.2.1
    refine ez_cv hB3 t770 rfl rfl rfl tq_75 rfl rfl rfl (rd_word hB3 t770 (by omega) (by omega) (by omega) (by rw [a3, s3, eb3]; exact hpl) (by omega) (by omega) (fun g4 τ4 s hB4 x4 us zs hS4 a4 r4 c4 => ez_KA ?_))
    rw [a3, s3, eb3] at hS4 a4 r4 c4
    have hx : py τ h τ4 g4 l := M3.py.trans x4.py
    have tk := rz_tok_le (mb h) (mt h 1 - mf h 1).toNat (mf h 1)
    have u770 : τ4 770 = 75 := (hx.1 770 (by rw [t770]; decide)).1.trans t770
    have ull : τ4 l = 13 := (hx.1 l (by rw [tl]; decide)).1.trans tl
    have s4 : qz_I g4 770 18 = mt h 1 := (x4.2.2.1 18 (by decide)).trans s3
    have el : ∀ j, qz_I g4 l j = qz_I g3 l j := fun j => by unfold qz_I; rw [(x4.1 l (by rw [tl]; decide)).2 hl.1 (by rw [tl]; decide) (by rw [tl]; decide)]
    refine ez_go (n := 2) (pc' := 21) (L' := [(2, .inr (.inr (some (s)))), (0, .inr (.inr (some (770)))), (1, .inr (.inr (some (l))))]) (st' := [.inr (.inr (some (770)))]) rfl ?_
    refine ez_cv hB4 u770 rfl rfl rfl tq_75 rfl rfl rfl (rd_mend hB4 u770 (by omega) (by omega) (fun e9 => ez_K0 ?_) (fun e9 => ez_Kp (xc_exc hB4 rfl) rfl (k0 (fun w => e9 (by rw [a4, s4]; exact ce_tok F1.1.2 w.2)) (fun w => e9 (by rw [a4, s4]; exact pkx_nb F1.1.2 w.2)) g4 τ4 hB4 hx (by omega) (by omega))))
    refine ez_less [(2, .inr (.inr (some (s)))), (0, .inr (.inr (some (770)))), (1, .inr (.inr (some (l))))] rfl ⟨rfl, rfl, rfl, trivial⟩ ?_
    have eE : rz_tok (mb h) (mt h 1 - mf h 1).toNat (mf h 1) = mt h 1 := by omega
    rw [eE] at hS4 r4 c4
    refine rd_property_b hB t770 tl hl hZ hN F1.1.2 (by omega) hB4 u770 ull us ((hx.1 49 (by rw [t49]; decide)).1.trans t49) ((hx.1 50 (by rw [t50]; decide)).1.trans t50) (fun s2 l2 hl2 => ?_) hS4 ⟨v1, v2⟩ hx (by rw [el, J3]; exact e1) (by rw [el, J3]; exact e2) (fun j j1 j2 _ _ => by rw [el, J3, J2 j j1 j2]; exact m1.l hl.1 j) (by omega) (by omega) (by omega) (by omega) k1 k0
    have ts2 := hT s2 l2 hl2
    refine nz_S_tr hB (fun q hq => (hx.1 q (by rcases hq with w | w <;> rw [w] <;> decide)).2 (fun e => by rw [e, t770] at hq; rcases hq with w | w <;> cases w) (fun e => by rw [e, tl] at hq; rcases hq with w | w <;> cases w) (by rcases hq with w | w <;> rw [w] <;> decide) (by rcases hq with w | w <;> rw [w] <;> decide)) ts2 (hZ s2 l2 hl2).1
  · rw [a1, s1, m1.b] at hno; exact hno w.1
  · rw [a1, s1, m1.b] at hno; exact hno w.1
  · rw [m2.1.2.1, m1.1.2.1]; omega
  · rw [m2.1.1, m1.1.1]; omega

end EzPs
/-! The model: folding. (Written by wip/p2/py/pv72.py.) -/
theorem rz_hex_all (b : Int → Int) : ∀ (n : Nat) (i v : Int), rz_hex b n i v ≠ -1 → ∀ j, i ≤ j → j < i + (n : Int) → 0 ≤ mh (b j)
  | 0, i, v, _, j, h1, h2 => by omega
  | n + 1, i, v, h, j, h1, h2 => by
    rw [rz_hex_mh] at h
    by_cases e : 0 ≤ mh (b i)
    · rw [if_pos e] at h
      by_cases ej : j = i
      · rw [ej]; exact e
      · exact rz_hex_all b n (i + 1) _ h j (by omega) (by omega)
    · rw [if_neg e] at h; exact absurd rfl h
theorem rz_dots_at (b : Int → Int) : ∀ (n : Nat) (i : Int), rz_dots b n i < i + (n : Int) → b (rz_dots b n i) = 46
  | 0, i, h => by unfold rz_dots at h; omega
  | n + 1, i, h => by
    unfold rz_dots at h ⊢
    by_cases e : b i = 46
    · rw [if_pos e]; exact e
    · rw [if_neg e] at h ⊢; exact rz_dots_at b n (i + 1) (by omega)
theorem rz_code_len {b : Int → Int} {s t : Int} (h : rz_code b s t ≠ -1) : 4 ≤ t - s ∧ t - s ≤ 6 := by
  unfold rz_code at h
  split at h
  · exact absurd rfl h
  · omega
theorem rz_code_hex {b : Int → Int} {s t : Int} (h : rz_code b s t ≠ -1) : rz_hex b (t - s).toNat s 0 ≠ -1 := fun w => by
  unfold rz_code at h
  split at h
  · exact h rfl
  · rw [w] at h; exact h rfl
/-- CODES that are one CODE -/
theorem rz_one {b : Int → Int} {s t : Int} (hs : s ≤ t) : (rz_first b s t ≠ -1 ∧ rz_first b s t ≤ rz_last b s t ∧ rz_first b s t = rz_last b s t ∧ t - s ≤ 6) ↔ rz_code b s t ≠ -1 := by
  have dl := rz_dots_le b (t - s).toNat s
  constructor
  · rintro ⟨h1, h2, h3, h4⟩
    by_cases e : rz_dots b (t - s).toNat s < t
    · exfalso
      have l1 := rz_code_len (show rz_code b s (rz_dots b (t - s).toNat s) ≠ -1 from h1)
      have bd := rz_code_bd b s (rz_dots b (t - s).toNat s)
      unfold rz_last at h2
      rw [if_pos e] at h2
      have h1 : rz_code b s (rz_dots b (t - s).toNat s) ≠ -1 := h1
      have h2 : rz_code b s (rz_dots b (t - s).toNat s) ≤ _ := h2
      split at h2
      · have l2 := rz_code_len (show rz_code b (rz_dots b (t - s).toNat s + 2) t ≠ -1 by omega)
        omega
      · omega
    · have e2 : rz_dots b (t - s).toNat s = t := by omega
      have h1 : rz_code b s (rz_dots b (t - s).toNat s) ≠ -1 := h1
      rw [e2] at h1; exact h1
  · intro h
    have l := rz_code_len h
    have e2 : rz_dots b (t - s).toNat s = t := by
      by_cases e : rz_dots b (t - s).toNat s < t
      · have := rz_hex_all b _ _ _ (rz_code_hex h) (rz_dots b (t - s).toNat s) dl.1 (by omega)
        rw [rz_dots_at b _ _ (by omega)] at this
        exact absurd this (by decide)
      · omega
    have ef : rz_first b s t = rz_code b s t := by unfold rz_first; rw [e2]
    have el : rz_last b s t = rz_code b s t := by unfold rz_last; rw [if_neg (by omega), ef]
    rw [ef, el]
    exact ⟨h, Int.le_refl _, rfl, by omega⟩
/-- a row of a line, in the pool -/
def mrw (h : cz_H) (sp cp k : Nat) (L : List Int) : Prop := qz_I h cp k = (L.length : Int) ∧ 0 ≤ qz_I h sp k ∧ qz_I h sp k + (L.length : Int) ≤ pn h ∧ ∀ (j : Nat) v, L[j]? = some v → pl h (qz_I h sp k + (j : Int)) = v
theorem mrw_row {τ τ1 : Nat → Nat} {h g : cz_H} {X : Nat → Bool} {sp cp K : Nat} {A : List Int} (hk : kl X τ h τ1 g A) (hsp : ∀ j, qz_I g sp j = if j = K then pn h else qz_I h sp j) (hcp : ∀ j, qz_I g cp j = if j = K then (A.length : Int) else qz_I h cp j) (h0 : 0 ≤ pn h) : mrw g sp cp K A := by
  have s := hsp K
  rw [if_pos rfl] at s
  have c := hcp K
  rw [if_pos rfl] at c
  obtain ⟨-, -, -, -, a5, -, a7, -⟩ := hk
  exact ⟨c, by rw [s]; exact h0, by rw [s, a5]; exact Int.le_refl _, fun j v hj => by rw [s]; exact a7 j v hj⟩
theorem mrw.row {τ τ1 : Nat → Nat} {h g : cz_H} {X : Nat → Bool} {sp cp k K : Nat} {A L : List Int} (a : mrw h sp cp k L) (hk : kl X τ h τ1 g A) (hsp : ∀ j, qz_I g sp j = if j = K then pn h else qz_I h sp j) (hcp : ∀ j, qz_I g cp j = if j = K then (A.length : Int) else qz_I h cp j) (hne : k ≠ K) : mrw g sp cp k L := by
  have s := hsp k
  rw [if_neg hne] at s
  have c := hcp k
  rw [if_neg hne] at c
  obtain ⟨-, -, -, -, a5, a6, -⟩ := hk
  obtain ⟨b1, b2, b3, b4⟩ := a
  refine ⟨by rw [c]; exact b1, by rw [s]; exact b2, by rw [s, a5]; omega, fun j v hj => ?_⟩
  have hl : j < L.length := (List.getElem?_eq_some_iff.mp hj).1
  rw [s, a6 _ (by omega) (by omega)]
  exact b4 j v hj
theorem mrw.tr {h g : cz_H} {sp cp k : Nat} {L : List Int} (a : mrw h sp cp k L) (es : qz_I g sp k = qz_I h sp k) (ec : qz_I g cp k = qz_I h cp k) (hn : pn h ≤ pn g) (hp : ∀ j, 0 ≤ j → j < pn h → pl g j = pl h j) : mrw g sp cp k L := by
  obtain ⟨b1, b2, b3, b4⟩ := a
  refine ⟨by rw [ec]; exact b1, by rw [es]; exact b2, by rw [es]; omega, fun j v hj => ?_⟩
  have hl : j < L.length := (List.getElem?_eq_some_iff.mp hj).1
  rw [es, hp _ (by omega) (by omega)]
  exact b4 j v hj
theorem rz_one_e {b : Int → Int} {s t : Int} (hs : s ≤ t) (h : rz_code b s t ≠ -1) : rz_first b s t = rz_code b s t ∧ rz_last b s t = rz_code b s t := by
  have dl := rz_dots_le b (t - s).toNat s
  have l := rz_code_len h
  have e2 : rz_dots b (t - s).toNat s = t := by
    by_cases e : rz_dots b (t - s).toNat s < t
    · have := rz_hex_all b _ _ _ (rz_code_hex h) (rz_dots b (t - s).toNat s) dl.1 (by omega)
      rw [rz_dots_at b _ _ (by omega)] at this
      exact absurd this (by decide)
    · omega
  have ef : rz_first b s t = rz_code b s t := by unfold rz_first; rw [e2]
  exact ⟨ef, by unfold rz_last; rw [if_neg (by omega), ef]⟩
section EzFo
variable {d : Nat} {h : cz_H} {τ : Nat → Nat} {Q : cz_F → Prop} {l : Nat}
theorem rw_18 {b : Int → Int} {m s t : Int} {A : List Int} (h : rz_rw b m s t = some A) : (A.length : Int) ≤ m := by
  have e := rz_rw_len h
  unfold rz_rw at h
  split at h
  · rename_i w; rw [e]; exact w.2
  · cases h
theorem rd_folding (hB : ez_B τ h) (t770 : τ 770 = 75) (tl : τ l = 13) (hl : lz l) (usp : τ (qz_P h l 7) = 15) (ucp : τ (qz_P h l 8) = 16) (tpo : τ (po h) = 17) (h0 : 0 ≤ pn h) (hn : pn h ≤ qz_N h (po h)) (hpm : pn h + 75 ≤ 38400) (hNh : 1024 ≤ qz_N h (po h)) (hr1 : h.1 + 100 ≤ 600192) (hr2 : h.2.1 + 240000 ≤ 7302232) (hlg : lg (qz_P h l 7) (qz_P h l 8) h) (hc0 : ∀ j, qz_I h (qz_P h l 8) j = 0) (hF : ∀ k, 0 ≤ k → k < 3 → (0 ≤ mf h k ∧ mf h k ≤ mt h k) ∧ mt h k ≤ 4096) (hTr : ∀ k, 0 ≤ k → k < 3 → mf h k < mt h k → ¬ bk (mb h (mf h k)) ∧ ¬ bk (mb h (mt h k - 1))) (k1 : ∀ g τ1 A, ez_B τ1 g → (pj (lX l (qz_P h l 7) (qz_P h l 8)) τ h τ1 g A ∧ lg (qz_P h l 7) (qz_P h l 8) g) → A.length ≤ 75 → qz_I g l 0 = qz_I h l 0 → rz_G2 (mb h) (mf h) (mt h) → qz_I g l 1 = qz_I g l 2 → qz_I g l 1 = rz_code (mb h) (mf h 0) (mt h 0) → qz_I g l 5 = mb h (mf h 1) → (∃ vs, rz_rw (mb h) 18 (mf h 2) (mt h 2) = some vs ∧ mrw g (qz_P h l 7) (qz_P h l 8) 0 vs) → Q (.inl none, g)) (k0 : ∀ g τ1 A, ez_B τ1 g → (pj (lX l (qz_P h l 7) (qz_P h l 8)) τ h τ1 g A ∧ lg (qz_P h l 7) (qz_P h l 8) g) → qz_I g l 0 = qz_I h l 0 → ¬ rz_G2 (mb h) (mf h) (mt h) → Q (.inr g.1, xc g 1)) : ez_W (d + 9) cm_259 0 [(0, .inr (.inr (some (770)))), (1, .inr (.inr (some (l))))] [] h Q := by
  refine ez_go (n := 2) (pc' := 2) (L' := [(0, .inr (.inr (some (770)))), (1, .inr (.inr (some (l))))]) (st' := [.inl (0), .inr (.inr (some (770)))]) rfl ?_
  have F0 := hF 0 (by omega) (by omega)
  have F1 := hF 1 (by omega) (by omega)
  have F2 := hF 2 (by omega) (by omega)
  refine ez_cv hB t770 rfl rfl rfl tq_75 rfl rfl rfl (rd_field hB t770 (by omega) (by omega) (fun g1 hB1 m1 a1 s1 => ez_K0 ?_))
  have u1a : (g1).1 = h.1 := m1.1.1
  have u1b : (g1).2.1 = h.2.1 := m1.1.2.1
  refine ez_go (n := 2) (pc' := 7) (L' := [(0, .inr (.inr (some (770)))), (1, .inr (.inr (some (l))))]) (st' := [.inr (.inr (some (l))), .inr (.inr (some (770)))]) rfl ?_
  have eb1 : mb g1 = mb h := m1.mw.b hl.2.1
  refine ez_cv hB1 t770 rfl rfl rfl tq_75 rfl rfl rfl (rd_codes hB1 t770 tl (by omega) (by omega) (by omega) (by omega) (fun g2 hB2 m2 a2 e1 e2 v1 v2 J2 => ez_K0 ?_) (fun hno g2 hB2 m2 J2 => ez_Kp (xc_exc hB2 rfl) rfl (k0 g2 τ [] hB2 ⟨(m1.mw.trans m2.mw).jp (lX_l _ _ _) t770 tl tpo hn, hlg.mw (m1.mw.trans m2.mw) t770 tl usp ucp tpo⟩ (by rw [J2 0 (by decide) (by decide)]; exact m1.l hl.1 0) (fun w => hno (by rw [eb1, a1, s1]; have o9 := (rz_one F0.1.2).mpr w.1; exact ⟨o9.1, o9.2.1⟩)))))
  rw [eb1, a1, s1] at e1 e2 v1 v2
  have M2 : mw h g2 l := m1.mw.trans m2.mw
  have u2a : (g2).1 = h.1 := M2.1.1
  have u2b : (g2).2.1 = h.2.1 := M2.1.2.1
  have q789 : qz_I g2 789 (0 : Int).toNat = mf h 0 := M2.f hl.2.2.1 0
  have q790 : qz_I g2 790 (0 : Int).toNat = mt h 0 := M2.t hl.2.2.2 0
  have z2 : ∀ j, j ≠ 1 → j ≠ 2 → qz_I g2 l j = qz_I h l j := fun j j1 j2 => by rw [J2 j j1 j2]; exact m1.l hl.1 j
  refine ez_go (n := 2) (pc' := 12) (L' := [(0, .inr (.inr (some (770)))), (1, .inr (.inr (some (l))))]) (st' := [.inr (.inr (some (l))), .inr (.inr (some (770)))]) rfl ?_
  refine ez_gI hB2 tl rfl rfl tq_13 rfl rfl (fun (b1 : -2147483648 ≤ qz_I g2 l 1) (b1' : qz_I g2 l 1 ≤ 2147483647) => ?_)
  refine ez_go (n := 1) (pc' := 16) (L' := [(0, .inr (.inr (some (770)))), (1, .inr (.inr (some (l))))]) (st' := [.inr (.inr (some (l))), .inl (qz_I g2 l 1), .inr (.inr (some (770)))]) rfl ?_
  refine ez_gI hB2 tl rfl rfl tq_13 rfl rfl (fun (b2 : -2147483648 ≤ qz_I g2 l 2) (b2' : qz_I g2 l 2 ≤ 2147483647) => ?_)
  refine ez_icmp rfl rfl ⟨by first | omega | exact (sz_i32 _).1, by first | omega | exact (sz_i32 _).2⟩ ⟨by first | omega | exact (sz_i32 _).1, by first | omega | exact (sz_i32 _).2⟩ (fun (c3 : (qz_I g2 l 1) ≠ (qz_I g2 l 2)) => ?_) (fun (c3 : ¬((qz_I g2 l 1) ≠ (qz_I g2 l 2))) => ?_)
  · skip
    refine ez_go (n := 1) (pc' := 45) (L' := [(0, .inr (.inr (some (770)))), (1, .inr (.inr (some (l))))]) (st' := [.inl (0), .inr (.inr (some (770)))]) rfl ?_
    refine ez_cv hB2 t770 rfl rfl rfl tq_75 rfl rfl rfl (rd_can0 (by omega) (by omega) (ez_Kp (xc_exc hB2 rfl) rfl (k0 g2 τ [] hB2 ⟨M2.jp (lX_l _ _ _) t770 tl tpo hn, hlg.mw M2 t770 tl usp ucp tpo⟩ (z2 0 (by decide) (by decide)) (fun w => by have o9 := (rz_one F0.1.2).mpr w.1; omega))))
  · skip
    refine ez_go (n := 1) (pc' := 23) (L' := [(0, .inr (.inr (some (770)))), (1, .inr (.inr (some (l))))]) (st' := [.inr (.inr (some (770))), .inr (.inr (some (770)))]) rfl ?_
    refine ez_gC (p := 790) (tg := 81) hB2 t770 rfl rfl tq_75 rfl rfl (fun (t790 : _ = 81) => ?_)
    refine ez_go (n := 1) (pc' := 27) (L' := [(0, .inr (.inr (some (770)))), (1, .inr (.inr (some (l))))]) (st' := [.inl (0), .inr (.inr (some (790))), .inr (.inr (some (770)))]) rfl ?_
    have n5 : 8 ≤ qz_N g2 790 ∧ qz_N g2 790 ≤ 8 := ez_len hB2 t790 tq_81 rfl
    refine ez_aI hB2 t790 rfl tq_81 rfl rfl (by omega) (by omega) (fun (b4 : 0 ≤ qz_I g2 790 (0 : Int).toNat) (b4' : qz_I g2 790 (0 : Int).toNat ≤ 4096) => ?_)
    refine ez_go (n := 1) (pc' := 29) (L' := [(0, .inr (.inr (some (770)))), (1, .inr (.inr (some (l))))]) (st' := [.inr (.inr (some (770))), .inl (qz_I g2 790 (0 : Int).toNat), .inr (.inr (some (770)))]) rfl ?_
    refine ez_gC (p := 789) (tg := 80) hB2 t770 rfl rfl tq_75 rfl rfl (fun (t789 : _ = 80) => ?_)
    refine ez_go (n := 1) (pc' := 33) (L' := [(0, .inr (.inr (some (770)))), (1, .inr (.inr (some (l))))]) (st' := [.inl (0), .inr (.inr (some (789))), .inl (qz_I g2 790 (0 : Int).toNat), .inr (.inr (some (770)))]) rfl ?_
    have n7 : 8 ≤ qz_N g2 789 ∧ qz_N g2 789 ≤ 8 := ez_len hB2 t789 tq_80 rfl
    refine ez_aI hB2 t789 rfl tq_80 rfl rfl (by omega) (by omega) (fun (b6 : 0 ≤ qz_I g2 789 (0 : Int).toNat) (b6' : qz_I g2 789 (0 : Int).toNat ≤ 4096) => ?_)
    refine ez_go (n := 2) (pc' := 37) (L' := [(0, .inr (.inr (some (770)))), (1, .inr (.inr (some (l))))]) (st' := [.inl (6), .inl ((qz_I g2 790 (0 : Int).toNat) - (qz_I g2 789 (0 : Int).toNat)), .inr (.inr (some (770)))]) rfl ?_
    refine ez_icmp rfl rfl ⟨by first | omega | exact (sz_i32 _).1, by first | omega | exact (sz_i32 _).2⟩ ⟨by first | omega | exact (sz_i32 _).1, by first | omega | exact (sz_i32 _).2⟩ (fun (c8 : (6) < ((qz_I g2 790 (0 : Int).toNat) - (qz_I g2 789 (0 : Int).toNat))) => ?_) (fun (c8 : ¬((6) < ((qz_I g2 790 (0 : Int).toNat) - (qz_I g2 789 (0 : Int).toNat)))) => ?_)
    · skip
      refine ez_go (n := 1) (pc' := 45) (L' := [(0, .inr (.inr (some (770)))), (1, .inr (.inr (some (l))))]) (st' := [.inl (0), .inr (.inr (some (770)))]) rfl ?_
      refine ez_cv hB2 t770 rfl rfl rfl tq_75 rfl rfl rfl (rd_can0 (by omega) (by omega) (ez_Kp (xc_exc hB2 rfl) rfl (k0 g2 τ [] hB2 ⟨M2.jp (lX_l _ _ _) t770 tl tpo hn, hlg.mw M2 t770 tl usp ucp tpo⟩ (z2 0 (by decide) (by decide)) (fun w => by have o9 := (rz_one F0.1.2).mpr w.1; omega))))
    · skip
      refine ez_go (n := 2) (pc' := 45) (L' := [(0, .inr (.inr (some (770)))), (1, .inr (.inr (some (l))))]) (st' := [.inl (1), .inr (.inr (some (770)))]) rfl ?_
      refine ez_cv hB2 t770 rfl rfl rfl tq_75 rfl rfl rfl (rd_can1 (by omega) (by omega) (ez_K0 ?_))
      have o0 : rz_code (mb h) (mf h 0) (mt h 0) ≠ -1 := (rz_one F0.1.2).mp ⟨v1, v2, by omega, by omega⟩
      have o12 : qz_I g2 l 1 = qz_I g2 l 2 := by omega
      refine ez_go (n := 2) (pc' := 50) (L' := [(0, .inr (.inr (some (770)))), (1, .inr (.inr (some (l))))]) (st' := [.inl (1), .inr (.inr (some (770)))]) rfl ?_
      refine ez_cv hB2 t770 rfl rfl rfl tq_75 rfl rfl rfl (rd_field hB2 t770 (by omega) (by omega) (fun g3 hB3 m3 a3 s3 => ez_K0 ?_))
      rw [M2.f hl.2.2.1] at a3
      rw [M2.t hl.2.2.2] at s3
      have M3 : mw h g3 l := M2.trans m3.mw
      have u3a : (g3).1 = h.1 := M3.1.1
      have u3b : (g3).2.1 = h.2.1 := M3.1.2.1
      have J3 : ∀ j, qz_I g3 l j = qz_I g2 l j := fun j => m3.l hl.1 j
      refine ez_go (n := 2) (pc' := 55) (L' := [(0, .inr (.inr (some (770)))), (1, .inr (.inr (some (l))))]) (st' := [.inr (.inr (some (770))), .inr (.inr (some (l)))]) rfl ?_
      refine ez_cv hB3 t770 rfl rfl rfl tq_75 rfl rfl rfl (rd_peek hB3 t770 (fun p1 p2 => ez_K1 ?_))
      obtain ⟨pv, epv⟩ : ∃ pv, pv = mk (mb g3) (qz_I g3 770 17) (qz_I g3 770 18) := ⟨_, rfl⟩
      rw [← epv] at p1 p2 ⊢
      rw [M3.b hl.2.1, a3, s3] at epv
      refine ez_pf hB3 tl rfl rfl tq_13 rfl rfl rfl rfl (ez_vdI rfl rfl (by omega) (by omega)) (fun hB9 w10 => ?_)
      have a4 : qz_I (dz_put g3 l 5 (ez_v (.inl (pv)))) 770 17 = mf h 1 := by rw [ez_put_I (fun w => hl.1 w.1.symm)]; exact a3
      refine ez_go (n := 2) (pc' := 63) (L' := [(0, .inr (.inr (some (770)))), (1, .inr (.inr (some (l))))]) (st' := [.inr (.inr (some (770))), .inr (.inr (some (770)))]) rfl ?_
      refine ez_gI hB9 t770 rfl rfl tq_75 rfl rfl (fun (b11 : 0 ≤ qz_I (dz_put g3 l 5 (ez_v (.inl (pv)))) 770 17) (b11' : qz_I (dz_put g3 l 5 (ez_v (.inl (pv)))) 770 17 ≤ 4200) => ?_)
      refine ez_go (n := 2) (pc' := 68) (L' := [(0, .inr (.inr (some (770)))), (1, .inr (.inr (some (l))))]) (st' := [.inl ((qz_I (dz_put g3 l 5 (ez_v (.inl (pv)))) 770 17) + (1)), .inr (.inr (some (770)))]) rfl ?_
      refine ez_pf hB9 t770 rfl rfl tq_75 rfl rfl rfl rfl (ez_vdI rfl rfl (by omega) (by omega)) (fun hB12 w13 => ?_)
      have M5 : mw h (dz_put (dz_put g3 l 5 (ez_v (.inl (pv)))) 770 17 (ez_v (.inl ((qz_I (dz_put g3 l 5 (ez_v (.inl (pv)))) 770 17) + (1))))) l := (M3.trans (mw_put hl.1)).trans mz_put.mw
      have z5 : ∀ j, j ≠ 1 → j ≠ 2 → j ≠ 5 → qz_I (dz_put (dz_put g3 l 5 (ez_v (.inl (pv)))) 770 17 (ez_v (.inl ((qz_I (dz_put g3 l 5 (ez_v (.inl (pv)))) 770 17) + (1))))) l j = qz_I h l j := fun j j1 j2 j5 => by rw [mz_put.l hl.1, ez_put_I (fun w => j5 w.2), J3]; exact z2 j j1 j2
      have v5 : qz_I (dz_put (dz_put g3 l 5 (ez_v (.inl (pv)))) 770 17 (ez_v (.inl ((qz_I (dz_put g3 l 5 (ez_v (.inl (pv)))) 770 17) + (1))))) l 5 = pv := (mz_put.l hl.1 5).trans (w10.trans (rz_rd ⟨by omega, by omega⟩))
      have a5 : qz_I (dz_put (dz_put g3 l 5 (ez_v (.inl (pv)))) 770 17 (ez_v (.inl ((qz_I (dz_put g3 l 5 (ez_v (.inl (pv)))) 770 17) + (1))))) 770 17 = mf h 1 + 1 := by rw [w13, rz_rd ⟨by omega, by omega⟩, a4]
      have s5 : qz_I (dz_put (dz_put g3 l 5 (ez_v (.inl (pv)))) 770 17 (ez_v (.inl ((qz_I (dz_put g3 l 5 (ez_v (.inl (pv)))) 770 17) + (1))))) 770 18 = mt h 1 := by rw [ez_put_I (fun w => absurd w.2 (by decide)), ez_put_I (fun w => hl.1 w.1.symm)]; exact s3
      have l5 : qz_I (dz_put (dz_put g3 l 5 (ez_v (.inl (pv)))) 770 17 (ez_v (.inl ((qz_I (dz_put g3 l 5 (ez_v (.inl (pv)))) 770 17) + (1))))) l 1 = qz_I (dz_put (dz_put g3 l 5 (ez_v (.inl (pv)))) 770 17 (ez_v (.inl ((qz_I (dz_put g3 l 5 (ez_v (.inl (pv)))) 770 17) + (1))))) l 2 := by rw [mz_put.l hl.1, mz_put.l hl.1, ez_put_I (fun w => absurd w.2 (by decide)), ez_put_I (fun w => absurd w.2 (by decide)), J3, J3]; exact o12
      have e15 : qz_I (dz_put (dz_put g3 l 5 (ez_v (.inl (pv)))) 770 17 (ez_v (.inl ((qz_I (dz_put g3 l 5 (ez_v (.inl (pv)))) 770 17) + (1))))) l 1 = rz_first (mb h) (mf h 0) (mt h 0) := by rw [mz_put.l hl.1, ez_put_I (fun w => absurd w.2 (by decide)), J3]; exact e1
      have u5a : ((dz_put (dz_put g3 l 5 (ez_v (.inl (pv)))) 770 17 (ez_v (.inl ((qz_I (dz_put g3 l 5 (ez_v (.inl (pv)))) 770 17) + (1)))))).1 = h.1 := M5.1.1
      have u5b : ((dz_put (dz_put g3 l 5 (ez_v (.inl (pv)))) 770 17 (ez_v (.inl ((qz_I (dz_put g3 l 5 (ez_v (.inl (pv)))) 770 17) + (1)))))).2.1 = h.2.1 := M5.1.2.1
      have hB5 := hB12
      generalize (dz_put (dz_put g3 l 5 (ez_v (.inl (pv)))) 770 17 (ez_v (.inl ((qz_I (dz_put g3 l 5 (ez_v (.inl (pv)))) 770 17) + (1))))) = g5 at *
      refine ez_go (n := 2) (pc' := 73) (L' := [(0, .inr (.inr (some (770)))), (1, .inr (.inr (some (l))))]) (st' := [.inr (.inr (some (l))), .inr (.inr (some (770)))]) rfl ?_
      refine ez_gI hB5 tl rfl rfl tq_13 rfl rfl (fun (b14 : -2147483648 ≤ qz_I g5 l 5) (b14' : qz_I g5 l 5 ≤ 2147483647) => ?_)
      refine ez_go (n := 1) (pc' := 78) (L' := [(0, .inr (.inr (some (770)))), (1, .inr (.inr (some (l))))]) (st' := [.inl (67), .inl (qz_I g5 l 5), .inr (.inr (some (770)))]) rfl ?_
      refine ez_icmp rfl rfl ⟨by first | omega | exact (sz_i32 _).1, by first | omega | exact (sz_i32 _).2⟩ ⟨by first | omega | exact (sz_i32 _).1, by first | omega | exact (sz_i32 _).2⟩ (fun (c15 : (qz_I g5 l 5) = (67)) => ?_) (fun (c15 : ¬((qz_I g5 l 5) = (67))) => ?_)
      · skip
        refine ez_go (n := 2) (pc' := 113) (L' := [(0, .inr (.inr (some (770)))), (1, .inr (.inr (some (l))))]) (st' := [.inl (1), .inr (.inr (some (770)))]) rfl ?_
        refine ez_cv hB5 t770 rfl rfl rfl tq_75 rfl rfl rfl (rd_can1 (by omega) (by omega) (ez_K0 ?_))
        refine ez_go (n := 1) (pc' := 117) (L' := [(0, .inr (.inr (some (770)))), (1, .inr (.inr (some (l))))]) (st' := [.inr (.inr (some (770)))]) rfl ?_
        refine ez_cv hB5 t770 rfl rfl rfl tq_75 rfl rfl rfl (rd_mend hB5 t770 (by omega) (by omega) (fun e9 => ez_K0 ?_) (fun e9 => ez_Kp (xc_exc hB5 rfl) rfl (k0 g5 τ [] hB5 ⟨M5.jp (lX_l _ _ _) t770 tl tpo hn, hlg.mw M5 t770 tl usp ucp tpo⟩ (z5 0 (by decide) (by decide) (by decide)) (fun w => by have w3 := w.2.2.1; omega))))
        refine ez_go (n := 2) (pc' := 122) (L' := [(0, .inr (.inr (some (770)))), (1, .inr (.inr (some (l))))]) (st' := [.inl (2), .inr (.inr (some (770)))]) rfl ?_
        refine ez_cv hB5 t770 rfl rfl rfl tq_75 rfl rfl rfl (rd_field hB5 t770 (by omega) (by omega) (fun g6 hB6 m6 a6 s6 => ez_K0 ?_))
        rw [M5.f hl.2.2.1] at a6
        rw [M5.t hl.2.2.2] at s6
        have M6 : mw h g6 l := M5.trans m6.mw
        have u6a : (g6).1 = h.1 := M6.1.1
        have u6b : (g6).2.1 = h.2.1 := M6.1.2.1
        have J6 : ∀ j, qz_I g6 l j = qz_I g5 l j := fun j => m6.l hl.1 j
        have z6 : ∀ j, j ≠ 1 → j ≠ 2 → j ≠ 5 → qz_I g6 l j = qz_I h l j := fun j j1 j2 j5 => by rw [J6]; exact z5 j j1 j2 j5
        refine ez_go (n := 4) (pc' := 130) (L' := [(0, .inr (.inr (some (770)))), (1, .inr (.inr (some (l))))]) (st' := [.inl (18), .inl (0), .inr (.inr (some (l))), .inr (.inr (some (770)))]) rfl ?_
        have e7 : qz_P g6 l 7 = qz_P h l 7 := by unfold qz_P; rw [z6 7 (by decide) (by decide) (by decide)]
        have e8 : qz_P g6 l 8 = qz_P h l 8 := by unfold qz_P; rw [z6 8 (by decide) (by decide) (by decide)]
        have np7 : po h ≠ 770 := fun e => by rw [e, t770] at tpo; cases tpo
        have npl : po h ≠ l := fun e => by rw [e, tl] at tpo; cases tpo
        have nc7 : qz_P h l 8 ≠ 770 := fun e => by rw [e, t770] at ucp; cases ucp
        have ncl : qz_P h l 8 ≠ l := fun e => by rw [e, tl] at ucp; cases ucp
        have eb := M6.b hl.2.1
        have eN : qz_N g6 (po h) = qz_N h (po h) := M6.N np7 npl
        have hsk : mf h 2 = rz_skip (mb h) (mt h 2 - mf h 2).toNat (mf h 2) := by
          by_cases e : mf h 2 < mt h 2
          · exact (skip_id (hTr 2 (by omega) (by omega) e).1).symm
          · rw [show (mt h 2 - mf h 2).toNat = 0 by omega]; rfl
        refine ez_cv hB6 t770 rfl rfl rfl tq_75 rfl rfl rfl (rd_row (s := mf h 2) hB6 t770 (ez_t771 hB t770) tl (by rw [e8]; exact ucp) (by rw [M6.epo]; exact tpo) hl.1 (by omega) (by omega) (by rw [M6.epn]; exact h0) (by rw [M6.epn, M6.epo, eN]; exact hn) (by rw [M6.epn]; omega) (by rw [M6.epo, eN]; exact hNh) (by omega) (by omega) (by omega) (by omega) (by omega) (by omega) (by omega) (by omega) (by rw [a6, s6, eb]; exact hsk) (by rw [a6, s6, eb]; exact fun w => (hTr 2 (by omega) (by omega) w).2) (by rw [e8, M6.I nc7 ncl]; exact hc0 _) (fun A hA g8 τ8 hB8 hk8 a17 hlc hsp hcp => ez_K0 ?_) (fun hA g8 τ8 A hB8 hk8 hlc hsp hcp => ez_Kp (xc_exc hB8 rfl) rfl (k0 g8 τ8 _ hB8 ⟨(M6.jp (lX_l l (qz_P h l 7) (qz_P h l 8)) t770 tl tpo hn).trans (hk8.jp (fun q hq => by rw [e7, e8]; exact lX_r hq)) h0, lg.row (hlg.mw M6 t770 tl usp ucp tpo) (by rw [e7, e8] at hk8; exact hk8) (by rw [e7] at hsp; exact hsp) (by rw [e8] at hcp; exact hcp)⟩ (by unfold qz_I; rw [hlc]; exact z6 0 (by decide) (by decide) (by decide)) (fun w => w.2.1 (by rw [eb, s6] at hA; exact hA)))))
        rw [e7, e8] at hk8; rw [e7] at hsp; rw [e8] at hcp
        have h18 := rw_18 hA
        refine ez_ret0 rfl rfl (k1 g8 τ8 _ hB8 ⟨(M6.jp (lX_l l (qz_P h l 7) (qz_P h l 8)) t770 tl tpo hn).trans (hk8.jp (fun q hq => lX_r hq)) h0, lg.row (hlg.mw M6 t770 tl usp ucp tpo) hk8 hsp hcp⟩ (by rw [List.nil_append]; omega) (by unfold qz_I; rw [hlc]; exact z6 0 (by decide) (by decide) (by decide)) ⟨o0, (fun w => by rw [eb, s6, w] at hA; cases hA), by omega, by rw [mk_in (by omega)] at epv; omega⟩ (by unfold qz_I; rw [hlc]; show qz_I g6 l 1 = qz_I g6 l 2; rw [J6, J6]; exact l5) (by unfold qz_I; rw [hlc]; show qz_I g6 l 1 = _; rw [J6]; exact e15.trans (rz_one_e F0.1.2 o0).1) (by unfold qz_I; rw [hlc]; show qz_I g6 l 5 = _; rw [J6, v5, epv]; exact mk_in (by omega)) ⟨_, (by rw [eb, s6] at hA; exact hA), mrw_row hk8 hsp hcp (by rw [M6.epn]; exact h0)⟩)
      · skip
        refine ez_go (n := 1) (pc' := 82) (L' := [(0, .inr (.inr (some (770)))), (1, .inr (.inr (some (l))))]) (st' := [.inr (.inr (some (l))), .inr (.inr (some (770)))]) rfl ?_
        refine ez_gI hB5 tl rfl rfl tq_13 rfl rfl (fun (b16 : -2147483648 ≤ qz_I g5 l 5) (b16' : qz_I g5 l 5 ≤ 2147483647) => ?_)
        refine ez_go (n := 1) (pc' := 87) (L' := [(0, .inr (.inr (some (770)))), (1, .inr (.inr (some (l))))]) (st' := [.inl (70), .inl (qz_I g5 l 5), .inr (.inr (some (770)))]) rfl ?_
        refine ez_icmp rfl rfl ⟨by first | omega | exact (sz_i32 _).1, by first | omega | exact (sz_i32 _).2⟩ ⟨by first | omega | exact (sz_i32 _).1, by first | omega | exact (sz_i32 _).2⟩ (fun (c17 : (qz_I g5 l 5) = (70)) => ?_) (fun (c17 : ¬((qz_I g5 l 5) = (70))) => ?_)
        · skip
          refine ez_go (n := 2) (pc' := 113) (L' := [(0, .inr (.inr (some (770)))), (1, .inr (.inr (some (l))))]) (st' := [.inl (1), .inr (.inr (some (770)))]) rfl ?_
          refine ez_cv hB5 t770 rfl rfl rfl tq_75 rfl rfl rfl (rd_can1 (by omega) (by omega) (ez_K0 ?_))
          refine ez_go (n := 1) (pc' := 117) (L' := [(0, .inr (.inr (some (770)))), (1, .inr (.inr (some (l))))]) (st' := [.inr (.inr (some (770)))]) rfl ?_
          refine ez_cv hB5 t770 rfl rfl rfl tq_75 rfl rfl rfl (rd_mend hB5 t770 (by omega) (by omega) (fun e9 => ez_K0 ?_) (fun e9 => ez_Kp (xc_exc hB5 rfl) rfl (k0 g5 τ [] hB5 ⟨M5.jp (lX_l _ _ _) t770 tl tpo hn, hlg.mw M5 t770 tl usp ucp tpo⟩ (z5 0 (by decide) (by decide) (by decide)) (fun w => by have w3 := w.2.2.1; omega))))
          refine ez_go (n := 2) (pc' := 122) (L' := [(0, .inr (.inr (some (770)))), (1, .inr (.inr (some (l))))]) (st' := [.inl (2), .inr (.inr (some (770)))]) rfl ?_
          refine ez_cv hB5 t770 rfl rfl rfl tq_75 rfl rfl rfl (rd_field hB5 t770 (by omega) (by omega) (fun g6 hB6 m6 a6 s6 => ez_K0 ?_))
          rw [M5.f hl.2.2.1] at a6
          rw [M5.t hl.2.2.2] at s6
          have M6 : mw h g6 l := M5.trans m6.mw
          have u6a : (g6).1 = h.1 := M6.1.1
          have u6b : (g6).2.1 = h.2.1 := M6.1.2.1
          have J6 : ∀ j, qz_I g6 l j = qz_I g5 l j := fun j => m6.l hl.1 j
          have z6 : ∀ j, j ≠ 1 → j ≠ 2 → j ≠ 5 → qz_I g6 l j = qz_I h l j := fun j j1 j2 j5 => by rw [J6]; exact z5 j j1 j2 j5
          refine ez_go (n := 4) (pc' := 130) (L' := [(0, .inr (.inr (some (770)))), (1, .inr (.inr (some (l))))]) (st' := [.inl (18), .inl (0), .inr (.inr (some (l))), .inr (.inr (some (770)))]) rfl ?_
          have e7 : qz_P g6 l 7 = qz_P h l 7 := by unfold qz_P; rw [z6 7 (by decide) (by decide) (by decide)]
          have e8 : qz_P g6 l 8 = qz_P h l 8 := by unfold qz_P; rw [z6 8 (by decide) (by decide) (by decide)]
          have np7 : po h ≠ 770 := fun e => by rw [e, t770] at tpo; cases tpo
          have npl : po h ≠ l := fun e => by rw [e, tl] at tpo; cases tpo
          have nc7 : qz_P h l 8 ≠ 770 := fun e => by rw [e, t770] at ucp; cases ucp
          have ncl : qz_P h l 8 ≠ l := fun e => by rw [e, tl] at ucp; cases ucp
          have eb := M6.b hl.2.1
          have eN : qz_N g6 (po h) = qz_N h (po h) := M6.N np7 npl
          have hsk : mf h 2 = rz_skip (mb h) (mt h 2 - mf h 2).toNat (mf h 2) := by
            by_cases e : mf h 2 < mt h 2
            · exact (skip_id (hTr 2 (by omega) (by omega) e).1).symm
            · rw [show (mt h 2 - mf h 2).toNat = 0 by omega]; rfl
          refine ez_cv hB6 t770 rfl rfl rfl tq_75 rfl rfl rfl (rd_row (s := mf h 2) hB6 t770 (ez_t771 hB t770) tl (by rw [e8]; exact ucp) (by rw [M6.epo]; exact tpo) hl.1 (by omega) (by omega) (by rw [M6.epn]; exact h0) (by rw [M6.epn, M6.epo, eN]; exact hn) (by rw [M6.epn]; omega) (by rw [M6.epo, eN]; exact hNh) (by omega) (by omega) (by omega) (by omega) (by omega) (by omega) (by omega) (by omega) (by rw [a6, s6, eb]; exact hsk) (by rw [a6, s6, eb]; exact fun w => (hTr 2 (by omega) (by omega) w).2) (by rw [e8, M6.I nc7 ncl]; exact hc0 _) (fun A hA g8 τ8 hB8 hk8 a17 hlc hsp hcp => ez_K0 ?_) (fun hA g8 τ8 A hB8 hk8 hlc hsp hcp => ez_Kp (xc_exc hB8 rfl) rfl (k0 g8 τ8 _ hB8 ⟨(M6.jp (lX_l l (qz_P h l 7) (qz_P h l 8)) t770 tl tpo hn).trans (hk8.jp (fun q hq => by rw [e7, e8]; exact lX_r hq)) h0, lg.row (hlg.mw M6 t770 tl usp ucp tpo) (by rw [e7, e8] at hk8; exact hk8) (by rw [e7] at hsp; exact hsp) (by rw [e8] at hcp; exact hcp)⟩ (by unfold qz_I; rw [hlc]; exact z6 0 (by decide) (by decide) (by decide)) (fun w => w.2.1 (by rw [eb, s6] at hA; exact hA)))))
          rw [e7, e8] at hk8; rw [e7] at hsp; rw [e8] at hcp
          have h18 := rw_18 hA
          refine ez_ret0 rfl rfl (k1 g8 τ8 _ hB8 ⟨(M6.jp (lX_l l (qz_P h l 7) (qz_P h l 8)) t770 tl tpo hn).trans (hk8.jp (fun q hq => lX_r hq)) h0, lg.row (hlg.mw M6 t770 tl usp ucp tpo) hk8 hsp hcp⟩ (by rw [List.nil_append]; omega) (by unfold qz_I; rw [hlc]; exact z6 0 (by decide) (by decide) (by decide)) ⟨o0, (fun w => by rw [eb, s6, w] at hA; cases hA), by omega, by rw [mk_in (by omega)] at epv; omega⟩ (by unfold qz_I; rw [hlc]; show qz_I g6 l 1 = qz_I g6 l 2; rw [J6, J6]; exact l5) (by unfold qz_I; rw [hlc]; show qz_I g6 l 1 = _; rw [J6]; exact e15.trans (rz_one_e F0.1.2 o0).1) (by unfold qz_I; rw [hlc]; show qz_I g6 l 5 = _; rw [J6, v5, epv]; exact mk_in (by omega)) ⟨_, (by rw [eb, s6] at hA; exact hA), mrw_row hk8 hsp hcp (by rw [M6.epn]; exact h0)⟩)
        · skip
          refine ez_go (n := 1) (pc' := 91) (L' := [(0, .inr (.inr (some (770)))), (1, .inr (.inr (some (l))))]) (st' := [.inr (.inr (some (l))), .inr (.inr (some (770)))]) rfl ?_
          refine ez_gI hB5 tl rfl rfl tq_13 rfl rfl (fun (b18 : -2147483648 ≤ qz_I g5 l 5) (b18' : qz_I g5 l 5 ≤ 2147483647) => ?_)
          refine ez_go (n := 1) (pc' := 96) (L' := [(0, .inr (.inr (some (770)))), (1, .inr (.inr (some (l))))]) (st' := [.inl (83), .inl (qz_I g5 l 5), .inr (.inr (some (770)))]) rfl ?_
          refine ez_icmp rfl rfl ⟨by first | omega | exact (sz_i32 _).1, by first | omega | exact (sz_i32 _).2⟩ ⟨by first | omega | exact (sz_i32 _).1, by first | omega | exact (sz_i32 _).2⟩ (fun (c19 : (qz_I g5 l 5) = (83)) => ?_) (fun (c19 : ¬((qz_I g5 l 5) = (83))) => ?_)
          · skip
            refine ez_go (n := 2) (pc' := 113) (L' := [(0, .inr (.inr (some (770)))), (1, .inr (.inr (some (l))))]) (st' := [.inl (1), .inr (.inr (some (770)))]) rfl ?_
            refine ez_cv hB5 t770 rfl rfl rfl tq_75 rfl rfl rfl (rd_can1 (by omega) (by omega) (ez_K0 ?_))
            refine ez_go (n := 1) (pc' := 117) (L' := [(0, .inr (.inr (some (770)))), (1, .inr (.inr (some (l))))]) (st' := [.inr (.inr (some (770)))]) rfl ?_
            refine ez_cv hB5 t770 rfl rfl rfl tq_75 rfl rfl rfl (rd_mend hB5 t770 (by omega) (by omega) (fun e9 => ez_K0 ?_) (fun e9 => ez_Kp (xc_exc hB5 rfl) rfl (k0 g5 τ [] hB5 ⟨M5.jp (lX_l _ _ _) t770 tl tpo hn, hlg.mw M5 t770 tl usp ucp tpo⟩ (z5 0 (by decide) (by decide) (by decide)) (fun w => by have w3 := w.2.2.1; omega))))
            refine ez_go (n := 2) (pc' := 122) (L' := [(0, .inr (.inr (some (770)))), (1, .inr (.inr (some (l))))]) (st' := [.inl (2), .inr (.inr (some (770)))]) rfl ?_
            refine ez_cv hB5 t770 rfl rfl rfl tq_75 rfl rfl rfl (rd_field hB5 t770 (by omega) (by omega) (fun g6 hB6 m6 a6 s6 => ez_K0 ?_))
            rw [M5.f hl.2.2.1] at a6
            rw [M5.t hl.2.2.2] at s6
            have M6 : mw h g6 l := M5.trans m6.mw
            have u6a : (g6).1 = h.1 := M6.1.1
            have u6b : (g6).2.1 = h.2.1 := M6.1.2.1
            have J6 : ∀ j, qz_I g6 l j = qz_I g5 l j := fun j => m6.l hl.1 j
            have z6 : ∀ j, j ≠ 1 → j ≠ 2 → j ≠ 5 → qz_I g6 l j = qz_I h l j := fun j j1 j2 j5 => by rw [J6]; exact z5 j j1 j2 j5
            refine ez_go (n := 4) (pc' := 130) (L' := [(0, .inr (.inr (some (770)))), (1, .inr (.inr (some (l))))]) (st' := [.inl (18), .inl (0), .inr (.inr (some (l))), .inr (.inr (some (770)))]) rfl ?_
            have e7 : qz_P g6 l 7 = qz_P h l 7 := by unfold qz_P; rw [z6 7 (by decide) (by decide) (by decide)]
            have e8 : qz_P g6 l 8 = qz_P h l 8 := by unfold qz_P; rw [z6 8 (by decide) (by decide) (by decide)]
            have np7 : po h ≠ 770 := fun e => by rw [e, t770] at tpo; cases tpo
            have npl : po h ≠ l := fun e => by rw [e, tl] at tpo; cases tpo
            have nc7 : qz_P h l 8 ≠ 770 := fun e => by rw [e, t770] at ucp; cases ucp
            have ncl : qz_P h l 8 ≠ l := fun e => by rw [e, tl] at ucp; cases ucp
            have eb := M6.b hl.2.1
            have eN : qz_N g6 (po h) = qz_N h (po h) := M6.N np7 npl
            have hsk : mf h 2 = rz_skip (mb h) (mt h 2 - mf h 2).toNat (mf h 2) := by
              by_cases e : mf h 2 < mt h 2
              · exact (skip_id (hTr 2 (by omega) (by omega) e).1).symm
              · rw [show (mt h 2 - mf h 2).toNat = 0 by omega]; rfl
            refine ez_cv hB6 t770 rfl rfl rfl tq_75 rfl rfl rfl (rd_row (s := mf h 2) hB6 t770 (ez_t771 hB t770) tl (by rw [e8]; exact ucp) (by rw [M6.epo]; exact tpo) hl.1 (by omega) (by omega) (by rw [M6.epn]; exact h0) (by rw [M6.epn, M6.epo, eN]; exact hn) (by rw [M6.epn]; omega) (by rw [M6.epo, eN]; exact hNh) (by omega) (by omega) (by omega) (by omega) (by omega) (by omega) (by omega) (by omega) (by rw [a6, s6, eb]; exact hsk) (by rw [a6, s6, eb]; exact fun w => (hTr 2 (by omega) (by omega) w).2) (by rw [e8, M6.I nc7 ncl]; exact hc0 _) (fun A hA g8 τ8 hB8 hk8 a17 hlc hsp hcp => ez_K0 ?_) (fun hA g8 τ8 A hB8 hk8 hlc hsp hcp => ez_Kp (xc_exc hB8 rfl) rfl (k0 g8 τ8 _ hB8 ⟨(M6.jp (lX_l l (qz_P h l 7) (qz_P h l 8)) t770 tl tpo hn).trans (hk8.jp (fun q hq => by rw [e7, e8]; exact lX_r hq)) h0, lg.row (hlg.mw M6 t770 tl usp ucp tpo) (by rw [e7, e8] at hk8; exact hk8) (by rw [e7] at hsp; exact hsp) (by rw [e8] at hcp; exact hcp)⟩ (by unfold qz_I; rw [hlc]; exact z6 0 (by decide) (by decide) (by decide)) (fun w => w.2.1 (by rw [eb, s6] at hA; exact hA)))))
            rw [e7, e8] at hk8; rw [e7] at hsp; rw [e8] at hcp
            have h18 := rw_18 hA
            refine ez_ret0 rfl rfl (k1 g8 τ8 _ hB8 ⟨(M6.jp (lX_l l (qz_P h l 7) (qz_P h l 8)) t770 tl tpo hn).trans (hk8.jp (fun q hq => lX_r hq)) h0, lg.row (hlg.mw M6 t770 tl usp ucp tpo) hk8 hsp hcp⟩ (by rw [List.nil_append]; omega) (by unfold qz_I; rw [hlc]; exact z6 0 (by decide) (by decide) (by decide)) ⟨o0, (fun w => by rw [eb, s6, w] at hA; cases hA), by omega, by rw [mk_in (by omega)] at epv; omega⟩ (by unfold qz_I; rw [hlc]; show qz_I g6 l 1 = qz_I g6 l 2; rw [J6, J6]; exact l5) (by unfold qz_I; rw [hlc]; show qz_I g6 l 1 = _; rw [J6]; exact e15.trans (rz_one_e F0.1.2 o0).1) (by unfold qz_I; rw [hlc]; show qz_I g6 l 5 = _; rw [J6, v5, epv]; exact mk_in (by omega)) ⟨_, (by rw [eb, s6] at hA; exact hA), mrw_row hk8 hsp hcp (by rw [M6.epn]; exact h0)⟩)
          · skip
            refine ez_go (n := 1) (pc' := 100) (L' := [(0, .inr (.inr (some (770)))), (1, .inr (.inr (some (l))))]) (st' := [.inr (.inr (some (l))), .inr (.inr (some (770)))]) rfl ?_
            refine ez_gI hB5 tl rfl rfl tq_13 rfl rfl (fun (b20 : -2147483648 ≤ qz_I g5 l 5) (b20' : qz_I g5 l 5 ≤ 2147483647) => ?_)
            refine ez_go (n := 1) (pc' := 105) (L' := [(0, .inr (.inr (some (770)))), (1, .inr (.inr (some (l))))]) (st' := [.inl (84), .inl (qz_I g5 l 5), .inr (.inr (some (770)))]) rfl ?_
            refine ez_icmp rfl rfl ⟨by first | omega | exact (sz_i32 _).1, by first | omega | exact (sz_i32 _).2⟩ ⟨by first | omega | exact (sz_i32 _).1, by first | omega | exact (sz_i32 _).2⟩ (fun (c21 : (qz_I g5 l 5) ≠ (84)) => ?_) (fun (c21 : ¬((qz_I g5 l 5) ≠ (84))) => ?_)
            · skip
              refine ez_go (n := 1) (pc' := 113) (L' := [(0, .inr (.inr (some (770)))), (1, .inr (.inr (some (l))))]) (st' := [.inl (0), .inr (.inr (some (770)))]) rfl ?_
              refine ez_cv hB5 t770 rfl rfl rfl tq_75 rfl rfl rfl (rd_can0 (by omega) (by omega) (ez_Kp (xc_exc hB5 rfl) rfl (k0 g5 τ [] hB5 ⟨M5.jp (lX_l _ _ _) t770 tl tpo hn, hlg.mw M5 t770 tl usp ucp tpo⟩ (z5 0 (by decide) (by decide) (by decide)) (fun w => by have w3 := w.2.2.1; have w4 := w.2.2.2; rw [mk_in (by omega)] at epv; omega))))
            · skip
              refine ez_go (n := 2) (pc' := 113) (L' := [(0, .inr (.inr (some (770)))), (1, .inr (.inr (some (l))))]) (st' := [.inl (1), .inr (.inr (some (770)))]) rfl ?_
              refine ez_cv hB5 t770 rfl rfl rfl tq_75 rfl rfl rfl (rd_can1 (by omega) (by omega) (ez_K0 ?_))
              refine ez_go (n := 1) (pc' := 117) (L' := [(0, .inr (.inr (some (770)))), (1, .inr (.inr (some (l))))]) (st' := [.inr (.inr (some (770)))]) rfl ?_
              refine ez_cv hB5 t770 rfl rfl rfl tq_75 rfl rfl rfl (rd_mend hB5 t770 (by omega) (by omega) (fun e9 => ez_K0 ?_) (fun e9 => ez_Kp (xc_exc hB5 rfl) rfl (k0 g5 τ [] hB5 ⟨M5.jp (lX_l _ _ _) t770 tl tpo hn, hlg.mw M5 t770 tl usp ucp tpo⟩ (z5 0 (by decide) (by decide) (by decide)) (fun w => by have w3 := w.2.2.1; omega))))
              refine ez_go (n := 2) (pc' := 122) (L' := [(0, .inr (.inr (some (770)))), (1, .inr (.inr (some (l))))]) (st' := [.inl (2), .inr (.inr (some (770)))]) rfl ?_
              refine ez_cv hB5 t770 rfl rfl rfl tq_75 rfl rfl rfl (rd_field hB5 t770 (by omega) (by omega) (fun g6 hB6 m6 a6 s6 => ez_K0 ?_))
              rw [M5.f hl.2.2.1] at a6
              rw [M5.t hl.2.2.2] at s6
              have M6 : mw h g6 l := M5.trans m6.mw
              have u6a : (g6).1 = h.1 := M6.1.1
              have u6b : (g6).2.1 = h.2.1 := M6.1.2.1
              have J6 : ∀ j, qz_I g6 l j = qz_I g5 l j := fun j => m6.l hl.1 j
              have z6 : ∀ j, j ≠ 1 → j ≠ 2 → j ≠ 5 → qz_I g6 l j = qz_I h l j := fun j j1 j2 j5 => by rw [J6]; exact z5 j j1 j2 j5
              refine ez_go (n := 4) (pc' := 130) (L' := [(0, .inr (.inr (some (770)))), (1, .inr (.inr (some (l))))]) (st' := [.inl (18), .inl (0), .inr (.inr (some (l))), .inr (.inr (some (770)))]) rfl ?_
              have e7 : qz_P g6 l 7 = qz_P h l 7 := by unfold qz_P; rw [z6 7 (by decide) (by decide) (by decide)]
              have e8 : qz_P g6 l 8 = qz_P h l 8 := by unfold qz_P; rw [z6 8 (by decide) (by decide) (by decide)]
              have np7 : po h ≠ 770 := fun e => by rw [e, t770] at tpo; cases tpo
              have npl : po h ≠ l := fun e => by rw [e, tl] at tpo; cases tpo
              have nc7 : qz_P h l 8 ≠ 770 := fun e => by rw [e, t770] at ucp; cases ucp
              have ncl : qz_P h l 8 ≠ l := fun e => by rw [e, tl] at ucp; cases ucp
              have eb := M6.b hl.2.1
              have eN : qz_N g6 (po h) = qz_N h (po h) := M6.N np7 npl
              have hsk : mf h 2 = rz_skip (mb h) (mt h 2 - mf h 2).toNat (mf h 2) := by
                by_cases e : mf h 2 < mt h 2
                · exact (skip_id (hTr 2 (by omega) (by omega) e).1).symm
                · rw [show (mt h 2 - mf h 2).toNat = 0 by omega]; rfl
              refine ez_cv hB6 t770 rfl rfl rfl tq_75 rfl rfl rfl (rd_row (s := mf h 2) hB6 t770 (ez_t771 hB t770) tl (by rw [e8]; exact ucp) (by rw [M6.epo]; exact tpo) hl.1 (by omega) (by omega) (by rw [M6.epn]; exact h0) (by rw [M6.epn, M6.epo, eN]; exact hn) (by rw [M6.epn]; omega) (by rw [M6.epo, eN]; exact hNh) (by omega) (by omega) (by omega) (by omega) (by omega) (by omega) (by omega) (by omega) (by rw [a6, s6, eb]; exact hsk) (by rw [a6, s6, eb]; exact fun w => (hTr 2 (by omega) (by omega) w).2) (by rw [e8, M6.I nc7 ncl]; exact hc0 _) (fun A hA g8 τ8 hB8 hk8 a17 hlc hsp hcp => ez_K0 ?_) (fun hA g8 τ8 A hB8 hk8 hlc hsp hcp => ez_Kp (xc_exc hB8 rfl) rfl (k0 g8 τ8 _ hB8 ⟨(M6.jp (lX_l l (qz_P h l 7) (qz_P h l 8)) t770 tl tpo hn).trans (hk8.jp (fun q hq => by rw [e7, e8]; exact lX_r hq)) h0, lg.row (hlg.mw M6 t770 tl usp ucp tpo) (by rw [e7, e8] at hk8; exact hk8) (by rw [e7] at hsp; exact hsp) (by rw [e8] at hcp; exact hcp)⟩ (by unfold qz_I; rw [hlc]; exact z6 0 (by decide) (by decide) (by decide)) (fun w => w.2.1 (by rw [eb, s6] at hA; exact hA)))))
              rw [e7, e8] at hk8; rw [e7] at hsp; rw [e8] at hcp
              have h18 := rw_18 hA
              refine ez_ret0 rfl rfl (k1 g8 τ8 _ hB8 ⟨(M6.jp (lX_l l (qz_P h l 7) (qz_P h l 8)) t770 tl tpo hn).trans (hk8.jp (fun q hq => lX_r hq)) h0, lg.row (hlg.mw M6 t770 tl usp ucp tpo) hk8 hsp hcp⟩ (by rw [List.nil_append]; omega) (by unfold qz_I; rw [hlc]; exact z6 0 (by decide) (by decide) (by decide)) ⟨o0, (fun w => by rw [eb, s6, w] at hA; cases hA), by omega, by rw [mk_in (by omega)] at epv; omega⟩ (by unfold qz_I; rw [hlc]; show qz_I g6 l 1 = qz_I g6 l 2; rw [J6, J6]; exact l5) (by unfold qz_I; rw [hlc]; show qz_I g6 l 1 = _; rw [J6]; exact e15.trans (rz_one_e F0.1.2 o0).1) (by unfold qz_I; rw [hlc]; show qz_I g6 l 5 = _; rw [J6, v5, epv]; exact mk_in (by omega)) ⟨_, (by rw [eb, s6] at hA; exact hA), mrw_row hk8 hsp hcp (by rw [M6.epn]; exact h0)⟩)

end EzFo
/-! The model: cases, I: the rows. (Written by wip/p2/py/pv73.py.) -/
/-- a line read: pool, strings and the line's own cells alone are written -/
def lq (X : Nat → Bool) (τ : Nat → Nat) (h : cz_H) (τ1 : Nat → Nat) (g : cz_H) (A : List Int) (e : Int) : Prop :=
  (∀ q, τ q ≠ 0 → τ1 q = τ q ∧ (q ≠ 770 → q ≠ po h → X q = false → τ q ≠ 30 → τ q ≠ 31 → g.2.2 q = h.2.2 q)) ∧ (∀ q, τ q = 0 → τ1 q ≠ 0 → (τ1 q = 17 ∨ (30 ≤ τ1 q ∧ τ1 q ≤ 33))) ∧ τ1 (po g) = 17 ∧
  (∀ j, j ≠ 9 → j ≠ 10 → j ≠ 17 → j ≠ 18 → qz_I g 770 j = qz_I h 770 j) ∧ pn g = pn h + (A.length : Int) ∧ (∀ j, 0 ≤ j → j < pn h → pl g j = pl h j) ∧ (∀ (j : Nat) v, A[j]? = some v → pl g (pn h + (j : Int)) = v) ∧
  (pn g ≤ qz_N g (po g) ∧ qz_N h (po h) ≤ qz_N g (po g)) ∧ ((g.2.1 : Int) - h.2.1 ≤ 2 * (qz_N g (po g) - qz_N h (po h)) + e ∧ 1024 * ((g.1 : Int) - h.1) ≤ qz_N g (po g) - qz_N h (po h) + 128 * e) ∧ (h.1 ≤ g.1 ∧ h.2.1 ≤ g.2.1) ∧ (po g = po h ∨ τ (po g) = 0)
theorem pj.lq {X : Nat → Bool} {τ τ1 : Nat → Nat} {h g : cz_H} {A : List Int} (a : pj X τ h τ1 g A) : lq X τ h τ1 g A 0 := by
  obtain ⟨a1, a2, a3, a4, a5, a6, a7, a8, a9, a10⟩ := a
  exact ⟨fun q hq => ⟨(a1 q hq).1, fun q1 q2 q3 _ _ => (a1 q hq).2 q1 q2 q3⟩, fun q q1 q2 => Or.inl (a2 q q1 q2), a3, a4, a5, a6, a7, a8, by omega, a10⟩
theorem py.lq {X : Nat → Bool} {τ τ1 : Nat → Nat} {h g : cz_H} {l : Nat} {e : Int} (a : py τ h τ1 g l) (hX : X l = true) (t770 : τ 770 = 75) (tl : τ l = 13) (tpo : τ (po h) = 17) (hn : pn h ≤ qz_N h (po h)) (e1 : (g.2.1 : Int) - h.2.1 ≤ e) (e2 : 8 * ((g.1 : Int) - h.1) ≤ e) : lq X τ h τ1 g [] e := by
  obtain ⟨a1, a2, a3, a4⟩ := a
  have n1 : po h ≠ 770 := fun e => by rw [e, t770] at tpo; cases tpo
  have n2 : po h ≠ l := fun e => by rw [e, tl] at tpo; cases tpo
  have ep : po g = po h := by unfold po qz_P; rw [a3 9 (by decide) (by decide)]
  have en : pn g = pn h := a3 10 (by decide) (by decide)
  have ec : g.2.2 (po h) = h.2.2 (po h) := (a1 _ (by rw [tpo]; decide)).2 n1 n2 (by rw [tpo]; decide) (by rw [tpo]; decide)
  have eN : qz_N g (po h) = qz_N h (po h) := by unfold qz_N; rw [ec]
  refine ⟨fun q hq => ⟨(a1 q hq).1, fun q1 q2 q3 q4 q5 => (a1 q hq).2 q1 (fun e => by rw [e, hX] at q3; cases q3) q4 q5⟩, fun q q1 q2 => Or.inr (a2 q q1 q2), by rw [ep, (a1 _ (by rw [tpo]; decide)).1]; exact tpo, fun j _ _ j1 j2 => a3 j j1 j2, by rw [en]; simp, fun j _ _ => by unfold pl qz_I; rw [ep, ec], fun j v hv => by simp at hv, by rw [ep, eN, en]; exact ⟨hn, Int.le_refl _⟩, by rw [ep, eN]; omega, a4, Or.inl ep⟩
theorem lq.trans {X : Nat → Bool} {τ τ1 τ2 : Nat → Nat} {h g k : cz_H} {A B : List Int} {e f : Int} (a : lq X τ h τ1 g A e) (b : lq X τ1 g τ2 k B f) (h0 : 0 ≤ pn h) : lq X τ h τ2 k (A ++ B) (e + f) := by
  obtain ⟨a1, a2, a3, a4, a5, a6, a7, a8, a9, a10, a11⟩ := a
  obtain ⟨b1, b2, b3, b4, b5, b6, b7, b8, b9, b10, b11⟩ := b
  have hne : ∀ q, τ q ≠ 0 → τ1 q ≠ 0 := fun q hq => by rw [(a1 q hq).1]; exact hq
  refine ⟨fun q hq => ⟨(b1 q (hne q hq)).1.trans (a1 q hq).1, fun q1 q2 q3 q5 q6 => ?_⟩, fun q q1 q2 => ?_, b3, fun j j1 j2 j3 j4 => (b4 j j1 j2 j3 j4).trans (a4 j j1 j2 j3 j4), ?_, fun j j0 j1 => ?_, fun j v hv => ?_, ?_, ?_, ?_, ?_⟩
  · have q4 : q ≠ po g := fun e => by
      rcases a11 with w | w
      · exact q2 (e.trans w)
      · rw [← e] at w; exact hq w
    rw [(b1 q (hne q hq)).2 q1 q4 q3 (by rw [(a1 q hq).1]; exact q5) (by rw [(a1 q hq).1]; exact q6), (a1 q hq).2 q1 q2 q3 q5 q6]
  · by_cases e : τ1 q = 0
    · exact b2 q e q2
    · rw [(b1 q e).1]; exact a2 q q1 e
  · rw [b5, a5, List.length_append]; omega
  · rw [b6 j j0 (by omega), a6 j j0 j1]
  · by_cases e : j < A.length
    · rw [List.getElem?_append_left e] at hv
      rw [b6 _ (by omega) (by omega)]; exact a7 j v hv
    · rw [List.getElem?_append_right (by omega)] at hv
      have := b7 _ v hv
      rw [a5] at this
      rw [show pn h + (j : Int) = pn h + (A.length : Int) + ((j - A.length : Nat) : Int) by omega]; exact this
  · omega
  · omega
  · omega
  · rcases b11 with w | w
    · rcases a11 with w2 | w2
      · exact Or.inl (w.trans w2)
      · exact Or.inr (by rw [w]; exact w2)
    · refine Or.inr ?_
      by_cases e : τ (po k) = 0
      · exact e
      · exact absurd w (hne _ e)
/-! The model: cases, II: the loop of rows. (Written by wip/p2/py/pv74.py.) -/
theorem rz_G1_ro {b f t : Int → Int} (h : rz_G1 b f t) (k : Int) (k1 : 1 ≤ k) (k3 : k ≤ 3) : rz_ro b (f k) (t k) := by
  obtain ⟨-, a1, a2, a3, -⟩ := h
  have : k = 1 ∨ k = 2 ∨ k = 3 := by omega
  rcases this with e | e | e <;> subst e
  · exact a1
  · exact a2
  · exact a3
section EzCa
variable {d : Nat} {h : cz_H} {τ : Nat → Nat} {Q : cz_F → Prop} {l : Nat}
/-- between the rows of a line -/
def cs (τ : Nat → Nat) (h : cz_H) (τ1 : Nat → Nat) (g : cz_H) (l : Nat) (k : Int) (A : List Int) : Prop :=
  pj (lX l (qz_P h l 7) (qz_P h l 8)) τ h τ1 g A ∧ lg (qz_P h l 7) (qz_P h l 8) g ∧ (∀ j, j ≠ 1 → j ≠ 2 → qz_I g l j = qz_I h l j) ∧ (∀ j : Nat, k ≤ (j : Int) → qz_I g (qz_P h l 8) j = 0) ∧ (A.length : Int) ≤ 18 * k ∧ (∀ j, 1 ≤ j → j ≤ k → rz_ro (mb h) (mf h j) (mt h j)) ∧ (qz_I g l 1 = qz_I g l 2 ∧ qz_I g l 1 = rz_code (mb h) (mf h 0) (mt h 0)) ∧ (∀ i : Nat, (i : Int) < k → mrw g (qz_P h l 7) (qz_P h l 8) i (rz_rn (mb h) (mf h (1 + (i : Int))) (mt h (1 + (i : Int)))))
theorem rd_cases_k {k : Int} {g : cz_H} {τ1 : Nat → Nat} {A : List Int} (hB : ez_B τ h) (t770 : τ 770 = 75) (tl : τ l = 13) (hl : lz l) (usp : τ (qz_P h l 7) = 15) (ucp : τ (qz_P h l 8) = 16) (tpo : τ (po h) = 17) (h0 : 0 ≤ pn h) (hpm : pn h + 75 ≤ 38400) (hNh : 1024 ≤ qz_N h (po h)) (hr1 : h.1 + 300 ≤ 600192) (hr2 : h.2.1 + 500000 ≤ 7302232) (hF : ∀ k, 0 ≤ k → k < 5 → (0 ≤ mf h k ∧ mf h k ≤ mt h k) ∧ mt h k ≤ 4096) (hTr : ∀ k, 0 ≤ k → k < 5 → mf h k < mt h k → ¬ bk (mb h (mf h k)) ∧ ¬ bk (mb h (mt h k - 1))) (hBg : ez_B τ1 g) (hp : pj (lX l (qz_P h l 7) (qz_P h l 8)) τ h τ1 g A) (hg : lg (qz_P h l 7) (qz_P h l 8) g) (hJ : ∀ j, j ≠ 1 → j ≠ 2 → qz_I g l j = qz_I h l j) (hc : ∀ j : Nat, k ≤ (j : Int) → qz_I g (qz_P h l 8) j = 0) (hA : (A.length : Int) ≤ 18 * k) (hro : ∀ j, 1 ≤ j → j ≤ k → rz_ro (mb h) (mf h j) (mt h j)) (h12 : (qz_I g l 1 = qz_I g l 2 ∧ qz_I g l 1 = rz_code (mb h) (mf h 0) (mt h 0))) (hm : (∀ i : Nat, (i : Int) < k → mrw g (qz_P h l 7) (qz_P h l 8) i (rz_rn (mb h) (mf h (1 + (i : Int))) (mt h (1 + (i : Int)))))) (k0' : 0 ≤ k) (k1' : k < 3) (kb : ∀ g τ1 A, ez_B τ1 g → pj (lX l (qz_P h l 7) (qz_P h l 8)) τ h τ1 g A → lg (qz_P h l 7) (qz_P h l 8) g → (∀ j, j ≠ 1 → j ≠ 2 → qz_I g l j = qz_I h l j) → (∀ j : Nat, k + 1 ≤ (j : Int) → qz_I g (qz_P h l 8) j = 0) → (A.length : Int) ≤ 18 * (k + 1) → (∀ j, 1 ≤ j → j ≤ k + 1 → rz_ro (mb h) (mf h j) (mt h j)) → (qz_I g l 1 = qz_I g l 2 ∧ qz_I g l 1 = rz_code (mb h) (mf h 0) (mt h 0)) → (∀ i : Nat, (i : Int) < k + 1 → mrw g (qz_P h l 7) (qz_P h l 8) i (rz_rn (mb h) (mf h (1 + (i : Int))) (mt h (1 + (i : Int))))) → ez_W (d + 9) cm_229 91 [(2, .inl (k)), (0, .inr (.inr (some (770)))), (1, .inr (.inr (some (l))))] [] g Q) (k0 : ∀ g τ1 A, ez_B τ1 g → (pj (lX l (qz_P h l 7) (qz_P h l 8)) τ h τ1 g A ∧ lg (qz_P h l 7) (qz_P h l 8) g) → qz_I g l 0 = qz_I h l 0 → ¬ rz_G1 (mb h) (mf h) (mt h) → Q (.inr g.1, xc g 1)) : ez_W (d + 9) cm_229 55 [(2, .inl (k)), (0, .inr (.inr (some (770)))), (1, .inr (.inr (some (l))))] [] g Q := by
  have u770 : τ1 770 = 75 := (hp.1 770 (by rw [t770]; decide)).1.trans t770
  have ul : τ1 l = 13 := (hp.1 l (by rw [tl]; decide)).1.trans tl
  have g789 : g.2.2 789 = h.2.2 789 := hp.f tpo usp ucp tl (ez_t789 hB t770) rfl (by decide)
  have g790 : g.2.2 790 = h.2.2 790 := hp.f tpo usp ucp tl (ez_t790 hB t770) rfl (by decide)
  have g771 : g.2.2 771 = h.2.2 771 := hp.f tpo usp ucp tl (ez_t771 hB t770) rfl (by decide)
  have ef : ∀ k, mf g k = mf h k := fun k => by unfold mf qz_I; rw [g789]
  have et : ∀ k, mt g k = mt h k := fun k => by unfold mt qz_I; rw [g790]
  have eb : mb g = mb h := funext fun k => by unfold mb qz_I; rw [g771]
  have rr := hp.2.2.2.2.2.2.2.2.1
  have rp := pool_le hBg hp.2.2.1
  have hpn9 := hp.2.2.2.2.1
  have pm : pn g = qz_I g 770 10 := rfl
  refine ez_go (n := 4) (pc' := 59) (L' := [(2, .inl (k)), (0, .inr (.inr (some (770)))), (1, .inr (.inr (some (l))))]) (st' := [.inl ((1) + (k)), .inr (.inr (some (770)))]) rfl ?_
  have FK := hF (1 + k) (by omega) (by omega)
  refine ez_cv hBg u770 rfl rfl rfl tq_75 rfl rfl rfl (rd_field hBg u770 (by omega) (by omega) (fun g1 hB1 m1 a1 s1 => ez_K0 ?_))
  rw [ef] at a1; rw [et] at s1
  have j1 : ∀ j, qz_I g1 l j = qz_I g l j := fun j => m1.l hl.1 j
  have c1 := m1.1.1
  have c2 := m1.1.2.1
  have e7 : qz_P g1 l 7 = qz_P h l 7 := by unfold qz_P; rw [j1, hJ 7 (by decide) (by decide)]
  have e8 : qz_P g1 l 8 = qz_P h l 8 := by unfold qz_P; rw [j1, hJ 8 (by decide) (by decide)]
  have en1 : pn g1 = pn g := m1.2 10 (by decide) (by decide)
  refine ez_go (n := 1) (pc' := 63) (L' := [(2, .inl (k)), (0, .inr (.inr (some (770)))), (1, .inr (.inr (some (l))))]) (st' := [.inr (.inr (some (l)))]) rfl ?_
  refine ez_gR hB1 ul rfl rfl tq_13 rfl rfl (fun (t1 : _ = 15) (t1' : 1 ≤ qz_I g1 l 7) => ?_)
  refine ez_go (n := 2) (pc' := 68) (L' := [(2, .inl (k)), (0, .inr (.inr (some (770)))), (1, .inr (.inr (some (l))))]) (st' := [.inr (.inr (some (770))), .inl (k), .inr (.inr (some (qz_P g1 l 7)))]) rfl ?_
  refine ez_gI hB1 u770 rfl rfl tq_75 rfl rfl (fun (b2 : 0 ≤ qz_I g1 770 10) (b2' : qz_I g1 770 10 ≤ 38500) => ?_)
  have n5 : 3 ≤ qz_N g1 (qz_P g1 l 7) ∧ qz_N g1 (qz_P g1 l 7) ≤ 3 := ez_len hB1 t1 tq_15 rfl
  refine ez_as hB1 t1 rfl tq_15 rfl rfl (by omega) (by omega) (ez_vdI rfl rfl (by omega) (by omega)) (fun hB3 w4 => ?_)
  have f2 : ez_fr (ez_one (qz_P g1 l 7)) g1 (dz_put g1 (qz_P g1 l 7) (k).toNat (ez_v (.inl (qz_I g1 770 10)))) := (ez_fr.refl (ez_one (qz_P g1 l 7)) g1).put (show Nat.beq _ _ = true from Nat.beq_refl _) _ _
  have v2 : qz_I (dz_put g1 (qz_P g1 l 7) (k).toNat (ez_v (.inl (qz_I g1 770 10)))) (qz_P g1 l 7) k.toNat = pn g1 := by rw [w4, rz_rd ⟨by omega, by omega⟩]; rfl
  have w2 : ∀ j, j ≠ k.toNat → qz_I (dz_put g1 (qz_P g1 l 7) (k).toNat (ez_v (.inl (qz_I g1 770 10)))) (qz_P g1 l 7) j = qz_I g1 (qz_P g1 l 7) j := fun j hj => ez_put_I (fun w => hj w.2)
  have hB2 := hB3
  generalize (dz_put g1 (qz_P g1 l 7) (k).toNat (ez_v (.inl (qz_I g1 770 10)))) = g2 at *
  rw [e7] at f2 v2 w2
  have ns7 : qz_P h l 7 ≠ 770 := fun e => by rw [e, t770] at usp; cases usp
  have nsl : qz_P h l 7 ≠ l := fun e => by rw [e, tl] at usp; cases usp
  have nsc : qz_P h l 7 ≠ qz_P h l 8 := fun e => by rw [e, ucp] at usp; cases usp
  have nc7 : qz_P h l 8 ≠ 770 := fun e => by rw [e, t770] at ucp; cases ucp
  have ncl : qz_P h l 8 ≠ l := fun e => by rw [e, tl] at ucp; cases ucp
  have nsp : qz_P h l 7 ≠ po g := fun e => by have q := hp.2.2.1; rw [← e, (hp.1 _ (by rw [usp]; decide)).1, usp] at q; cases q
  have np7 : po g ≠ 770 := fun e => by have q := hp.2.2.1; rw [e, u770] at q; cases q
  have npl : po g ≠ l := fun e => by have q := hp.2.2.1; rw [e, ul] at q; cases q
  have i0 : ∀ j, j ≠ 17 → j ≠ 18 → qz_I g2 770 j = qz_I g 770 j := fun j q1 q2 => by rw [f2.I (dz_beq_ne (Ne.symm ns7))]; exact m1.2 j q1 q2
  have ep2 : po g2 = po g := by unfold po qz_P; rw [i0 9 (by decide) (by decide)]
  have en2 : pn g2 = pn g := i0 10 (by decide) (by decide)
  have oth : ∀ q, q ≠ 770 → q ≠ qz_P h l 7 → g2.2.2 q = g.2.2 q := fun q q1 q2 => by rw [f2.2.2 q (dz_beq_ne q2)]; exact m1.1.2.2 q (dz_beq_ne q1)
  have eN2 : qz_N g2 (po g) = qz_N g (po g) := by unfold qz_N; rw [oth _ np7 (Ne.symm nsp)]
  have J2 : ∀ j, qz_I g2 l j = qz_I g l j := fun j => by rw [f2.I (dz_beq_ne (Ne.symm nsl))]; exact j1 j
  have C2 : ∀ j, qz_I g2 (qz_P h l 8) j = qz_I g (qz_P h l 8) j := fun j => by unfold qz_I; rw [oth _ nc7 (Ne.symm nsc)]
  have S2 : ∀ j, j ≠ k.toNat → qz_I g2 (qz_P h l 7) j = qz_I g (qz_P h l 7) j := fun j hj => by rw [w2 j hj]; exact m1.1.I (dz_beq_ne ns7) j
  have r2 : g2.1 = g.1 ∧ g2.2.1 = g.2.1 := ⟨f2.1.trans m1.1.1, f2.2.1.trans m1.1.2.1⟩
  have p2 : pj (lX l (qz_P h l 7) (qz_P h l 8)) τ1 g τ1 g2 [] := by
    refine ⟨fun q hq => ⟨rfl, fun q1 q2 q3 => oth q q1 (fun e => by rw [e] at q3; unfold lX at q3; rw [Nat.beq_refl, Bool.true_or, Bool.or_true] at q3; cases q3)⟩, fun q q1 q2 => absurd q1 q2, by rw [ep2]; exact hp.2.2.1, fun j _ _ j1 j2 => i0 j j1 j2, by rw [en2]; simp, fun j _ _ => by unfold pl qz_I; rw [ep2, oth _ np7 (Ne.symm nsp)], fun j v hv => by simp at hv, by rw [ep2, eN2, en2]; exact ⟨hp.2.2.2.2.2.2.2.1.1, Int.le_refl _⟩, by rw [ep2, eN2, r2.1, r2.2]; omega, by rw [r2.1, r2.2]; omega, Or.inl ep2⟩
  have lg2 : lg (qz_P h l 7) (qz_P h l 8) g2 := fun j => by
    rw [C2, ep2, eN2]
    by_cases e : j = k.toNat
    · rw [e, v2, hc _ (by omega), en1]; have q := hp.2.2.2.2.2.2.2.1.1; omega
    · rw [S2 j e]; exact hg j
  have P2 := hp.trans p2 h0
  rw [List.append_nil] at P2
  have a2 : qz_I g2 770 17 = mf h (1 + k) := by rw [f2.I (dz_beq_ne (Ne.symm ns7))]; exact a1
  have s2 : qz_I g2 770 18 = mt h (1 + k) := by rw [f2.I (dz_beq_ne (Ne.symm ns7))]; exact s1
  have hm2 : ∀ i : Nat, (i : Int) < k → mrw g2 (qz_P h l 7) (qz_P h l 8) i (rz_rn (mb h) (mf h (1 + (i : Int))) (mt h (1 + (i : Int)))) := fun i hi => (hm i hi).tr (S2 i (by omega)) (C2 i) (by rw [en2]; exact Int.le_refl _) (fun j _ _ => by unfold pl qz_I; rw [ep2, oth _ np7 (Ne.symm nsp)])
  refine ez_go (n := 1) (pc' := 73) (L' := [(2, .inl (k)), (0, .inr (.inr (some (770)))), (1, .inr (.inr (some (l))))]) (st' := [.inr (.inr (some (770)))]) rfl ?_
  refine ez_gI hB2 u770 rfl rfl tq_75 rfl rfl (fun (b6 : 0 ≤ qz_I g2 770 17) (b6' : qz_I g2 770 17 ≤ 4200) => ?_)
  refine ez_go (n := 1) (pc' := 77) (L' := [(2, .inl (k)), (0, .inr (.inr (some (770)))), (1, .inr (.inr (some (l))))]) (st' := [.inr (.inr (some (770))), .inl (qz_I g2 770 17)]) rfl ?_
  refine ez_gI hB2 u770 rfl rfl tq_75 rfl rfl (fun (b7 : 0 ≤ qz_I g2 770 18) (b7' : qz_I g2 770 18 ≤ 4096) => ?_)
  refine ez_icmp rfl rfl ⟨by first | omega | exact (sz_i32 _).1, by first | omega | exact (sz_i32 _).2⟩ ⟨by first | omega | exact (sz_i32 _).1, by first | omega | exact (sz_i32 _).2⟩ (fun (c8 : (qz_I g2 770 18) ≤ (qz_I g2 770 17)) => ?_) (fun (c8 : ¬((qz_I g2 770 18) ≤ (qz_I g2 770 17))) => ?_)
  · skip
    refine ez_less [(2, .inl (k)), (0, .inr (.inr (some (770)))), (1, .inr (.inr (some (l))))] rfl ⟨rfl, rfl, rfl, trivial⟩ ?_
    refine kb g2 τ1 A hB2 P2 lg2 (fun j q1 q2 => by rw [J2]; exact hJ j q1 q2) (fun j hj => by rw [C2]; exact hc j (by omega)) (by omega) (fun j q1 q2 => by by_cases e9 : j = 1 + k; (· rw [e9]; exact Or.inl (by omega)); (· exact hro j q1 (by omega))) (by rw [J2, J2]; exact h12) (fun i hi => ?_)
    by_cases e9 : (i : Int) = k
    · rw [e9, show i = k.toNat by omega, rz_rn_n (by omega)]
      exact ⟨by rw [C2]; exact hc _ (by omega), by rw [v2, en1]; omega, by rw [v2, en1, en2]; exact Int.le_of_eq (by simp), fun j v hv => by cases hv⟩
    · exact hm2 i (by omega)
  · skip
    refine ez_go (n := 4) (pc' := 88) (L' := [(2, .inl (k)), (0, .inr (.inr (some (770)))), (1, .inr (.inr (some (l))))]) (st' := [.inl (18), .inl (k), .inr (.inr (some (l))), .inr (.inr (some (770)))]) rfl ?_
    have e7b : qz_P g2 l 7 = qz_P h l 7 := by unfold qz_P; rw [J2, hJ 7 (by decide) (by decide)]
    have e8b : qz_P g2 l 8 = qz_P h l 8 := by unfold qz_P; rw [J2, hJ 8 (by decide) (by decide)]
    have eb2 : mb g2 = mb h := by rw [← eb]; funext i; unfold mb qz_I; rw [oth 771 (by decide) (fun e => by rw [← e, ez_t771 hB t770] at usp; cases usp)]
    have hlt : mf h (1 + k) < mt h (1 + k) := by omega
    have hsk : mf h (1 + k) = rz_skip (mb h) (mt h (1 + k) - mf h (1 + k)).toNat (mf h (1 + k)) := (skip_id (hTr (1 + k) (by omega) (by omega) hlt).1).symm
    have hN2 := hp.2.2.2.2.2.2.2.1
    have hpn := hp.2.2.2.2.1
    refine ez_cv hB2 u770 rfl rfl rfl tq_75 rfl rfl rfl (rd_row (s := mf h (1 + k)) hB2 u770 (ez_t771 hB2 u770) ul (by rw [e8b]; exact (hp.1 _ (by rw [ucp]; decide)).1.trans ucp) (by rw [ep2]; exact hp.2.2.1) hl.1 k0' (by omega) (by rw [en2]; omega) (by rw [en2, ep2, eN2]; exact hN2.1) (by rw [en2]; omega) (by rw [ep2, eN2]; omega) (by omega) (by omega) (by omega) (by omega) (by omega) (by omega) (by omega) (by omega) (by rw [a2, s2, eb2]; exact hsk) (by rw [a2, s2, eb2]; exact fun w => (hTr (1 + k) (by omega) (by omega) w).2) (by rw [e8b, C2]; exact hc _ (by omega)) (fun A8 hA g8 τ8 hB8 hk8 a17 hlc hsp hcp => ez_K0 ?_) (fun hA g8 τ8 A8 hB8 hk8 hlc hsp hcp => ez_Kp (xc_exc hB8 rfl) rfl (k0 g8 τ8 _ hB8 ⟨P2.trans (hk8.jp (fun q hq => by rw [e7b, e8b]; exact lX_r hq)) h0, lg.row lg2 (by rw [e7b, e8b] at hk8; exact hk8) (by rw [e7b] at hsp; exact hsp) (by rw [e8b] at hcp; exact hcp)⟩ ((show qz_I g8 l 0 = qz_I g2 l 0 by unfold qz_I; rw [hlc]).trans ((J2 0).trans (hJ 0 (by decide) (by decide)))) (fun w => by rcases rz_G1_ro w (1 + k) (by omega) (by omega) with q | q; (· omega); (· exact q (by rw [eb2, s2] at hA; exact hA))))))
    rw [e7b, e8b] at hk8; rw [e7b] at hsp; rw [e8b] at hcp
    have h18 := rw_18 hA
    refine ez_less [(2, .inl (k)), (0, .inr (.inr (some (770)))), (1, .inr (.inr (some (l))))] rfl ⟨rfl, rfl, rfl, trivial⟩ ?_
    refine kb g8 τ8 _ hB8 (P2.trans (hk8.jp (fun q hq => lX_r hq)) h0) (lg.row lg2 hk8 hsp hcp) (fun j q1 q2 => (show qz_I g8 l j = qz_I g2 l j by unfold qz_I; rw [hlc]).trans ((J2 j).trans (hJ j q1 q2))) (fun j hj => ?_) (by rw [List.length_append]; push_cast; omega) (fun j q1 q2 => by by_cases e9 : j = 1 + k; (· rw [e9]; exact Or.inr (fun w => by rw [eb2, s2, w] at hA; cases hA)); (· exact hro j q1 (by omega))) (by rw [show qz_I g8 l 1 = qz_I g2 l 1 by unfold qz_I; rw [hlc], show qz_I g8 l 2 = qz_I g2 l 2 by unfold qz_I; rw [hlc], J2, J2]; exact h12) (fun i hi => ?_)
    · rw [hcp j, if_neg (by omega), C2]; exact hc j (by omega)
    by_cases e9 : (i : Int) = k
    · rw [e9, show i = k.toNat by omega, rz_rn_s (by omega) (show rz_rw (mb h) 18 (mf h (1 + k)) (mt h (1 + k)) = some A8 by rw [eb2, s2] at hA; exact hA)]
      exact mrw_row hk8 hsp hcp (by rw [en2]; omega)
    · exact (hm2 i (by omega)).row hk8 hsp hcp (by omega)

end EzCa
/-! The model: cases, III: its words. (Written by wip/p2/py/pv75.py.) -/
theorem lq.mono {X : Nat → Bool} {τ τ1 : Nat → Nat} {h g : cz_H} {A : List Int} {e f : Int} (a : lq X τ h τ1 g A e) (h1 : e ≤ f) : lq X τ h τ1 g A f := by
  obtain ⟨a1, a2, a3, a4, a5, a6, a7, a8, a9, a10⟩ := a
  exact ⟨a1, a2, a3, a4, a5, a6, a7, a8, by omega, a10⟩
theorem lq.f {τ τ1 : Nat → Nat} {h g : cz_H} {l sp cp : Nat} {A : List Int} {e : Int} (a : lq (lX l sp cp) τ h τ1 g A e) (tpo : τ (po h) = 17) (tsp : τ sp = 15) (tcp : τ cp = 16) (tl : τ l = 13) {q t : Nat} (tq : τ q = t) (ht : (Nat.blt 17 t && (Nat.ble t 82 && (!(Nat.beq t 30) && !(Nat.beq t 31)))) = true) (h7 : q ≠ 770) : g.2.2 q = h.2.2 q := by
  simp only [Bool.and_eq_true] at ht
  have t17 : ∀ p, τ p ≤ 17 → q ≠ p := fun p hp e => by
    have := Nat.le_of_ble_eq_true ht.1
    rw [← e, tq] at hp; omega
  refine (a.1 q (by rw [tq]; intro e; rw [e] at ht; cases ht.1)).2 h7 (t17 _ (by rw [tpo]; omega)) ?_ (by rw [tq]; intro e; rw [e] at ht; cases ht.2.2.1) (by rw [tq]; intro e; rw [e] at ht; cases ht.2.2.2)
  unfold lX
  rw [dz_beq_ne (t17 l (by rw [tl]; omega)), dz_beq_ne (t17 sp (by rw [tsp]; omega)), dz_beq_ne (t17 cp (by rw [tcp]; omega))]; rfl
theorem lg.py {sp cp l : Nat} {τ τ1 : Nat → Nat} {h g : cz_H} (a : lg sp cp h) (m : py τ h τ1 g l) (t770 : τ 770 = 75) (tl : τ l = 13) (tsp : τ sp = 15) (tcp : τ cp = 16) (tpo : τ (po h) = 17) : lg sp cp g := fun j => by
  have e : ∀ q t, τ q = t → (Nat.beq t 75 || (Nat.beq t 13 || (Nat.beq t 30 || (Nat.beq t 31 || Nat.beq t 0)))) = false → g.2.2 q = h.2.2 q := fun q t q1 q2 => by
    refine (m.1 q (fun e => by rw [e] at q1; rw [← q1] at q2; cases q2)).2 (fun e => by rw [e, t770] at q1; rw [← q1] at q2; cases q2) (fun e => by rw [e, tl] at q1; rw [← q1] at q2; cases q2) (fun e => by rw [e] at q1; rw [← q1] at q2; cases q2) (fun e => by rw [e] at q1; rw [← q1] at q2; cases q2)
  have ep : po g = po h := by unfold po qz_P; rw [m.2.2.1 9 (by decide) (by decide)]
  have e1 := e sp _ tsp rfl
  have e2 := e cp _ tcp rfl
  have e3 := e _ _ tpo rfl
  have := a j
  unfold qz_I at this ⊢
  unfold qz_N at this ⊢
  rw [ep, e1, e2, e3]; exact this
/-- rows and pool are as they were -/
def z9 (sp cp : Nat) (h g : cz_H) : Prop := (∀ j, qz_I g sp j = qz_I h sp j ∧ qz_I g cp j = qz_I h cp j) ∧ pn g = pn h ∧ ∀ j, pl g j = pl h j
theorem z9.refl (sp cp : Nat) (h : cz_H) : z9 sp cp h h := ⟨fun _ => ⟨rfl, rfl⟩, rfl, fun _ => rfl⟩
theorem z9.trans {sp cp : Nat} {h g k : cz_H} (a : z9 sp cp h g) (b : z9 sp cp g k) : z9 sp cp h k := ⟨fun j => ⟨(b.1 j).1.trans (a.1 j).1, (b.1 j).2.trans (a.1 j).2⟩, b.2.1.trans a.2.1, fun j => (b.2.2 j).trans (a.2.2 j)⟩
theorem z9.mw {sp cp l : Nat} {τ : Nat → Nat} {h g : cz_H} (m : mw h g l) (t770 : τ 770 = 75) (tl : τ l = 13) (tsp : τ sp = 15) (tcp : τ cp = 16) (tpo : τ (po h) = 17) : z9 sp cp h g := by
  have e : ∀ q t, τ q = t → (Nat.beq t 75 || Nat.beq t 13) = false → q ≠ 770 ∧ q ≠ l := fun q t q1 q2 => ⟨fun e => (by rw [e, t770] at q1; rw [← q1] at q2; cases q2), fun e => (by rw [e, tl] at q1; rw [← q1] at q2; cases q2)⟩
  refine ⟨fun j => ⟨m.I (e sp _ tsp rfl).1 (e sp _ tsp rfl).2 j, m.I (e cp _ tcp rfl).1 (e cp _ tcp rfl).2 j⟩, m.epn, fun j => ?_⟩
  unfold pl
  rw [m.epo]
  exact m.I (e _ _ tpo rfl).1 (e _ _ tpo rfl).2 _
theorem z9.py {sp cp l : Nat} {τ τ1 : Nat → Nat} {h g : cz_H} (m : py τ h τ1 g l) (t770 : τ 770 = 75) (tl : τ l = 13) (tsp : τ sp = 15) (tcp : τ cp = 16) (tpo : τ (po h) = 17) : z9 sp cp h g := by
  have e : ∀ q t, τ q = t → (Nat.beq t 75 || (Nat.beq t 13 || (Nat.beq t 30 || (Nat.beq t 31 || Nat.beq t 0)))) = false → g.2.2 q = h.2.2 q := fun q t q1 q2 => by
    refine (m.1 q (fun e => by rw [e] at q1; rw [← q1] at q2; cases q2)).2 (fun e => by rw [e, t770] at q1; rw [← q1] at q2; cases q2) (fun e => by rw [e, tl] at q1; rw [← q1] at q2; cases q2) (fun e => by rw [e] at q1; rw [← q1] at q2; cases q2) (fun e => by rw [e] at q1; rw [← q1] at q2; cases q2)
  have ep : po g = po h := by unfold po qz_P; rw [m.2.2.1 9 (by decide) (by decide)]
  have e1 := e sp _ tsp rfl
  have e2 := e cp _ tcp rfl
  have e3 := e _ _ tpo rfl
  refine ⟨fun j => ⟨by unfold qz_I; rw [e1], by unfold qz_I; rw [e2]⟩, m.2.2.1 10 (by decide) (by decide), fun j => ?_⟩
  unfold pl
  rw [ep]
  unfold qz_I
  rw [e3]
theorem mrw.z9 {sp cp k : Nat} {h g : cz_H} {L : List Int} (a : mrw h sp cp k L) (z : z9 sp cp h g) : mrw g sp cp k L := a.tr (z.1 k).1 (z.1 k).2 (Int.le_of_eq z.2.1.symm) (fun j _ _ => z.2.2 j)
theorem cd_step {b : Int → Int} {s t a c : Int} (hat : a < t) (hs : a = s ∨ (s < a ∧ bk (b (a - 1)))) (ha : ¬ bk (b a)) : nz_cd b t (rz_ct b s (t - a).toNat a) a c = if nz_ck b t a = -1 ∨ cbit c (nz_ck b t a) ≠ 0 then -1 else nz_cd b t (rz_ct b s (t - rz_skip b (t - rz_tok b (t - a).toNat a).toNat (rz_tok b (t - a).toNat a)).toNat (rz_skip b (t - rz_tok b (t - a).toNat a).toNat (rz_tok b (t - a).toNat a))) (rz_skip b (t - rz_tok b (t - a).toNat a).toNat (rz_tok b (t - a).toNat a)) (cset c (nz_ck b t a)) := by
  have e1 := ct_one hat hs ha rfl
  have tl := rz_tok_le b (t - a).toNat a
  have sl := rz_skip_le b (t - rz_tok b (t - a).toNat a).toNat (rz_tok b (t - a).toNat a)
  have e2 := ct_skip b s (t - rz_tok b (t - a).toNat a).toNat (rz_tok b (t - a).toNat a)
  rw [show (t - rz_tok b (t - a).toNat a).toNat - (rz_skip b (t - rz_tok b (t - a).toNat a).toNat (rz_tok b (t - a).toNat a) - rz_tok b (t - a).toNat a).toNat = (t - rz_skip b (t - rz_tok b (t - a).toNat a).toNat (rz_tok b (t - a).toNat a)).toNat by omega] at e2
  rw [e1, Nat.add_comm, e2]
  rfl
theorem skip_prev (b : Int → Int) : ∀ (n : Nat) (i : Int), i < rz_skip b n i → bk (b (rz_skip b n i - 1))
  | 0, i, h => by unfold rz_skip at h; omega
  | n + 1, i, h => by
    unfold rz_skip at h ⊢
    by_cases e : b i = 9 ∨ b i = 32
    · rw [if_pos e] at h ⊢
      by_cases e2 : i + 1 < rz_skip b n (i + 1)
      · exact skip_prev b n (i + 1) e2
      · have := rz_skip_le b n (i + 1)
        rw [show rz_skip b n (i + 1) - 1 = i by omega]; exact e
    · rw [if_neg e] at h; omega
theorem cbm0 : ∀ k : Fin 9, ∀ c : Fin 512, cbit (c.val : Int) (k.val : Int) = 0 ↔ (Int32.ofInt (c.val : Int) &&& Int32.ofInt ((Int32.ofInt 1 <<< (Int32.ofInt (k.val : Int) &&& 31)).toInt)).toInt = 0 := by unfold cbit; decide +kernel
theorem cbm {c k : Int} (c0 : 0 ≤ c) (c1 : c ≤ 511) (k0 : 0 ≤ k) (k1 : k < 9) : cbit c k = 0 ↔ (Int32.ofInt c &&& Int32.ofInt ((Int32.ofInt 1 <<< (Int32.ofInt k &&& 31)).toInt)).toInt = 0 := by
  have := cbm0 ⟨k.toNat, by omega⟩ ⟨c.toNat, by omega⟩
  rw [show (((⟨c.toNat, by omega⟩ : Fin 512).val : Nat) : Int) = c from Int.toNat_of_nonneg c0, show (((⟨k.toNat, by omega⟩ : Fin 9).val : Nat) : Int) = k from Int.toNat_of_nonneg k0] at this
  exact this
section EzCb
variable {d : Nat} {h g0 : cz_H} {τ : Nat → Nat} {Q : cz_F → Prop} {l : Nat}
theorem rd_cases_w (hB : ez_B τ h) (t770 : τ 770 = 75) (tl : τ l = 13) (hl : lz l) (usp : τ (qz_P h l 7) = 15) (ucp : τ (qz_P h l 8) = 16) (tpo : τ (po h) = 17) (h0 : 0 ≤ pn h) (hpm : pn h + 75 ≤ 38400) (hNh : 1024 ≤ qz_N h (po h)) (hr1 : h.1 + 24000 ≤ 600192) (hr2 : h.2.1 + 800000 ≤ 7302232) (hZ : nz_Z h) (hN : nmz h) (F4 : (0 ≤ mf h 4 ∧ mf h 4 ≤ mt h 4) ∧ mt h 4 ≤ 4096) (hpl : ∀ j, mf h 4 ≤ j → j < mt h 4 → 0 ≤ mb h j ∧ mb h j ≤ 127) (k1 : ∀ g τ1 A, ez_B τ1 g → (lq (lX l (qz_P h l 7) (qz_P h l 8)) τ h τ1 g A (45 * (mt h 4 - mf h 4)) ∧ lg (qz_P h l 7) (qz_P h l 8) g) → A.length ≤ 75 → qz_I g l 0 = qz_I h l 0 → rz_CD (mb h) (mf h 4) (mt h 4) → (qz_I g l 1 = qz_I g l 2 ∧ qz_I g l 1 = rz_code (mb h) (mf h 0) (mt h 0)) → qz_I g l 12 = nz_cd (mb h) (mt h 4) (rz_ct (mb h) (mf h 4) (mt h 4 - mf h 4).toNat (mf h 4)) (mf h 4) 0 → z9 (qz_P h l 7) (qz_P h l 8) g0 g → Q (.inl none, g)) (k0 : ∀ g τ1 A, ez_B τ1 g → (lq (lX l (qz_P h l 7) (qz_P h l 8)) τ h τ1 g A (45 * (mt h 4 - mf h 4)) ∧ lg (qz_P h l 7) (qz_P h l 8) g) → qz_I g l 0 = qz_I h l 0 → ¬ rz_CD (mb h) (mf h 4) (mt h 4) → Q (.inr g.1, xc g 1)) : ∀ (m : Nat) (g : cz_H) (τ1 : Nat → Nat) (A : List Int) (c : Int), (mt h 4 - qz_I g 770 17).toNat ≤ m → ez_B τ1 g → lq (lX l (qz_P h l 7) (qz_P h l 8)) τ h τ1 g A (45 * (qz_I g 770 17 - mf h 4)) → lg (qz_P h l 7) (qz_P h l 8) g → qz_I g l 0 = qz_I h l 0 → qz_I g 770 18 = mt h 4 → mf h 4 ≤ qz_I g 770 17 → qz_I g 770 17 ≤ mt h 4 → (qz_I g 770 17 < mt h 4 → ¬ bk (mb h (qz_I g 770 17))) → A.length ≤ 75 → (qz_I g 770 17 = mf h 4 ∨ (mf h 4 < qz_I g 770 17 ∧ bk (mb h (qz_I g 770 17 - 1))) ∨ qz_I g 770 17 = mt h 4) → qz_I g l 12 = c → 0 ≤ c → c ≤ 511 → nz_cd (mb h) (mt h 4) (rz_ct (mb h) (mf h 4) (mt h 4 - qz_I g 770 17).toNat (qz_I g 770 17)) (qz_I g 770 17) c = nz_cd (mb h) (mt h 4) (rz_ct (mb h) (mf h 4) (mt h 4 - mf h 4).toNat (mf h 4)) (mf h 4) 0 → (qz_I g l 1 = qz_I g l 2 ∧ qz_I g l 1 = rz_code (mb h) (mf h 0) (mt h 0)) → z9 (qz_P h l 7) (qz_P h l 8) g0 g → ez_W (d + 9) cm_229 102 [(0, .inr (.inr (some (770)))), (1, .inr (.inr (some (l))))] [] g Q := by
  intro m
  induction m with
  | zero =>
    intro g τ1 A c hm hBg hq hg hk0 hst hat0 hat hnb hA hps hc hc0 hc1 hT h12 hz9
    have u770 : τ1 770 = 75 := (hq.1 770 (by rw [t770]; decide)).1.trans t770
    have ul : τ1 l = 13 := (hq.1 l (by rw [tl]; decide)).1.trans tl
    have eb : mb g = mb h := funext fun k => by unfold mb qz_I; rw [hq.f tpo usp ucp tl (ez_t771 hB t770) rfl (by decide)]
    have rr := hq.2.2.2.2.2.2.2.2.1
    have rp := pool_le hBg hq.2.2.1
    refine ez_go (n := 1) (pc' := 103) (L' := [(0, .inr (.inr (some (770)))), (1, .inr (.inr (some (l))))]) (st' := [.inr (.inr (some (770)))]) rfl ?_
    refine ez_gI hBg u770 rfl rfl tq_75 rfl rfl (fun (b1 : 0 ≤ qz_I g 770 17) (b1' : qz_I g 770 17 ≤ 4200) => ?_)
    refine ez_go (n := 1) (pc' := 107) (L' := [(0, .inr (.inr (some (770)))), (1, .inr (.inr (some (l))))]) (st' := [.inr (.inr (some (770))), .inl (qz_I g 770 17)]) rfl ?_
    refine ez_gI hBg u770 rfl rfl tq_75 rfl rfl (fun (b2 : 0 ≤ qz_I g 770 18) (b2' : qz_I g 770 18 ≤ 4096) => ?_)
    refine ez_icmp rfl rfl ⟨by first | omega | exact (sz_i32 _).1, by first | omega | exact (sz_i32 _).2⟩ ⟨by first | omega | exact (sz_i32 _).1, by first | omega | exact (sz_i32 _).2⟩ (fun (c3 : (qz_I g 770 18) ≤ (qz_I g 770 17)) => ?_) (fun (c3 : ¬((qz_I g 770 18) ≤ (qz_I g 770 17))) => ?_)
    · skip
      exact ez_ret0 rfl rfl (k1 g τ1 A hBg ⟨hq.mono (by omega), hg⟩ hA hk0 (fun w => by rw [← hT, show (mt h 4 - qz_I g 770 17).toNat = 0 by omega] at w; have w : c = -1 := w; omega) h12 (hc.trans (by rw [← hT, show (mt h 4 - qz_I g 770 17).toNat = 0 by omega]; rfl)) hz9)
    · skip
      refine ez_go (n := 3) (pc' := 116) (L' := [(0, .inr (.inr (some (770)))), (1, .inr (.inr (some (l))))]) (st' := [.inr (.inr (some (770))), .inr (.inr (some (770))), .inl (1)]) rfl ?_
      exfalso; omega
  | succ m ih =>
    intro g τ1 A c hm hBg hq hg hk0 hst hat0 hat hnb hA hps hc hc0 hc1 hT h12 hz9
    have u770 : τ1 770 = 75 := (hq.1 770 (by rw [t770]; decide)).1.trans t770
    have ul : τ1 l = 13 := (hq.1 l (by rw [tl]; decide)).1.trans tl
    have eb : mb g = mb h := funext fun k => by unfold mb qz_I; rw [hq.f tpo usp ucp tl (ez_t771 hB t770) rfl (by decide)]
    have rr := hq.2.2.2.2.2.2.2.2.1
    have rp := pool_le hBg hq.2.2.1
    refine ez_go (n := 1) (pc' := 103) (L' := [(0, .inr (.inr (some (770)))), (1, .inr (.inr (some (l))))]) (st' := [.inr (.inr (some (770)))]) rfl ?_
    refine ez_gI hBg u770 rfl rfl tq_75 rfl rfl (fun (b1 : 0 ≤ qz_I g 770 17) (b1' : qz_I g 770 17 ≤ 4200) => ?_)
    refine ez_go (n := 1) (pc' := 107) (L' := [(0, .inr (.inr (some (770)))), (1, .inr (.inr (some (l))))]) (st' := [.inr (.inr (some (770))), .inl (qz_I g 770 17)]) rfl ?_
    refine ez_gI hBg u770 rfl rfl tq_75 rfl rfl (fun (b2 : 0 ≤ qz_I g 770 18) (b2' : qz_I g 770 18 ≤ 4096) => ?_)
    refine ez_icmp rfl rfl ⟨by first | omega | exact (sz_i32 _).1, by first | omega | exact (sz_i32 _).2⟩ ⟨by first | omega | exact (sz_i32 _).1, by first | omega | exact (sz_i32 _).2⟩ (fun (c3 : (qz_I g 770 18) ≤ (qz_I g 770 17)) => ?_) (fun (c3 : ¬((qz_I g 770 18) ≤ (qz_I g 770 17))) => ?_)
    · skip
      exact ez_ret0 rfl rfl (k1 g τ1 A hBg ⟨hq.mono (by omega), hg⟩ hA hk0 (fun w => by rw [← hT, show (mt h 4 - qz_I g 770 17).toNat = 0 by omega] at w; have w : c = -1 := w; omega) h12 (hc.trans (by rw [← hT, show (mt h 4 - qz_I g 770 17).toNat = 0 by omega]; rfl)) hz9)
    · skip
      refine ez_go (n := 3) (pc' := 116) (L' := [(0, .inr (.inr (some (770)))), (1, .inr (.inr (some (l))))]) (st' := [.inr (.inr (some (770))), .inr (.inr (some (770))), .inl (1)]) rfl ?_
      refine ez_cv hBg u770 rfl rfl rfl tq_75 rfl rfl rfl (rd_word hBg u770 (by omega) (by omega) (by omega) (by rw [hst, eb]; exact fun j q1 q2 => hpl j (by omega) q2) (by omega) (by omega) (fun g4 τ4 s hB4 x4 us zs hS4 a4 r4 c4 => ez_KA ?_))
      rw [hst, eb] at hS4 a4 r4 c4
      have tk := rz_tok_le (mb h) (mt h 4 - qz_I g 770 17).toNat (qz_I g 770 17)
      have tk1 : qz_I g 770 17 + 1 ≤ rz_tok (mb h) (mt h 4 - qz_I g 770 17).toNat (qz_I g 770 17) := by
        rw [show (mt h 4 - qz_I g 770 17).toNat = (mt h 4 - (qz_I g 770 17 + 1)).toNat + 1 by omega]
        unfold rz_tok; rw [if_neg (hnb (by omega))]; exact (rz_tok_le _ _ _).1
      obtain ⟨E, eE⟩ : ∃ E, E = rz_tok (mb h) (mt h 4 - qz_I g 770 17).toNat (qz_I g 770 17) := ⟨_, rfl⟩
      rw [← eE] at hS4 a4 r4 c4 tk tk1
      have st9 := cd_step (b := mb h) (s := mf h 4) (t := mt h 4) (c := c) (show qz_I g 770 17 < mt h 4 by omega) (by rcases hps with q | q | q; (· exact Or.inl q); (· exact Or.inr q); (· omega)) (hnb (by omega))
      rw [hT, ← eE] at st9
      have v770 : τ4 770 = 75 := (x4.1 770 (by rw [u770]; decide)).1.trans u770
      have vl : τ4 l = 13 := (x4.1 l (by rw [ul]; decide)).1.trans ul
      have s4 : qz_I g4 770 18 = mt h 4 := (x4.2.2.1 18 (by decide)).trans hst
      have el : ∀ j, qz_I g4 l j = qz_I g l j := fun j => by unfold qz_I; rw [(x4.1 l (by rw [ul]; decide)).2 hl.1 (by rw [ul]; decide) (by rw [ul]; decide)]
      have y4 : py τ1 g τ4 g4 l := x4.py
      have tpg := hq.2.2.1
      have usp1 : τ1 (qz_P h l 7) = 15 := (hq.1 _ (by rw [usp]; decide)).1.trans usp
      have ucp1 : τ1 (qz_P h l 8) = 16 := (hq.1 _ (by rw [ucp]; decide)).1.trans ucp
      have q4 : lq (lX l (qz_P h l 7) (qz_P h l 8)) τ h τ4 g4 A (45 * (E - mf h 4)) := by
        have := hq.trans (y4.lq (e := 5 * (E - qz_I g 770 17) + 40) (lX_l _ _ _) u770 ul tpg hq.2.2.2.2.2.2.2.1.1 (by omega) (by omega)) h0
        rw [List.append_nil] at this; exact this.mono (by omega)
      have g4l : lg (qz_P h l 7) (qz_P h l 8) g4 := hg.py y4 u770 ul usp1 ucp1 tpg
      refine ez_go (n := 2) (pc' := 121) (L' := [(0, .inr (.inr (some (770)))), (1, .inr (.inr (some (l))))]) (st' := [.inr (.inr (some (770))), .inl (0), .inr (.inr (some (s))), .inr (.inr (some (770))), .inl (1)]) rfl ?_
      refine ez_gC (p := 785) (tg := 26) hB4 v770 rfl rfl tq_75 rfl rfl (fun (t785 : _ = 26) => ?_)
      have T := ez_tnm hB t770
      have xq : ∀ q, (τ q = 26 ∨ τ q = 27 ∨ τ q = 28) → g4.2.2 q = h.2.2 q := fun q hq2 => by rcases hq2 with w | w | w <;> exact q4.f tpo usp ucp tl w rfl (fun e => by rw [e, t770] at w; cases w)
      refine ez_cv hB4 v770 rfl rfl rfl tq_75 rfl rfl rfl (rd_among (f := 0) (ct := ctn h 785) hB4 v770 us t785 hS4 (by rw [wl_len]; omega) (by omega) (ctn_S hB hZ hN (by decide) (by decide) T.1 xq) (by omega) (by omega) (fun k kn ke ko => ez_K1 ?_) (fun ko => ez_Kp (xc_exc hB4 rfl) rfl (k0 g4 τ4 _ hB4 ⟨q4.mono (by omega), g4l⟩ ((el 0).trans hk0) (fun w => w (by rw [st9, if_pos (Or.inl (by unfold nz_ck; rw [← eE]; exact am_no (p := 785) hN.2.2 (by decide) (by decide) (fun i hi => ko i (by rw [show qz_N g4 785 = qz_N h 785 by unfold qz_N; rw [xq 785 (Or.inl T.1)]]; exact hi))))])))))
      have ek : nz_ck (mb h) (mt h 4) (qz_I g 770 17) = (k : Int) := by unfold nz_ck; rw [← eE]; exact am_ix (p := 785) hN.2.2 (by decide) (by decide) (by rw [show qz_N h 785 = qz_N g4 785 by unfold qz_N; rw [xq 785 (Or.inl T.1)]]; exact kn) ke ko
      have k9 : (k : Int) < 9 := by rw [← ek]; exact (nz_ix_bd _ nzN_1).2
      rw [ek] at st9
      have lc4 : qz_I g4 l 12 = c := (el 12).trans hc
      refine ez_go (n := 4) (pc' := 131) (L' := [(2, .inl ((Int32.ofInt (1) <<< (Int32.ofInt ((k : Int)) &&& 31)).toInt)), (0, .inr (.inr (some (770)))), (1, .inr (.inr (some (l))))]) (st' := [.inr (.inr (some (l))), .inr (.inr (some (770)))]) rfl ?_
      refine ez_gI hB4 vl rfl rfl tq_13 rfl rfl (fun (b4 : -2147483648 ≤ qz_I g4 l 12) (b4' : qz_I g4 l 12 ≤ 2147483647) => ?_)
      refine ez_go (n := 2) (pc' := 136) (L' := [(2, .inl ((Int32.ofInt (1) <<< (Int32.ofInt ((k : Int)) &&& 31)).toInt)), (0, .inr (.inr (some (770)))), (1, .inr (.inr (some (l))))]) (st' := [.inl ((Int32.ofInt (qz_I g4 l 12) &&& Int32.ofInt ((Int32.ofInt (1) <<< (Int32.ofInt ((k : Int)) &&& 31)).toInt)).toInt), .inr (.inr (some (770)))]) rfl ?_
      refine ez_if rfl rfl ⟨by first | omega | exact (sz_i32 _).1, by first | omega | exact (sz_i32 _).2⟩ (fun (c5 : ((Int32.ofInt (qz_I g4 l 12) &&& Int32.ofInt ((Int32.ofInt (1) <<< (Int32.ofInt ((k : Int)) &&& 31)).toInt)).toInt) ≠ (0)) => ?_) (fun (c5 : ¬(((Int32.ofInt (qz_I g4 l 12) &&& Int32.ofInt ((Int32.ofInt (1) <<< (Int32.ofInt ((k : Int)) &&& 31)).toInt)).toInt) ≠ (0))) => ?_)
      · skip
        refine ez_go (n := 1) (pc' := 144) (L' := [(2, .inl ((Int32.ofInt (1) <<< (Int32.ofInt ((k : Int)) &&& 31)).toInt)), (0, .inr (.inr (some (770)))), (1, .inr (.inr (some (l))))]) (st' := [.inl (0), .inr (.inr (some (770)))]) rfl ?_
        refine ez_cv hB4 v770 rfl rfl rfl tq_75 rfl rfl rfl (rd_can0 (by omega) (by omega) (ez_Kp (xc_exc hB4 rfl) rfl (k0 g4 τ4 _ hB4 ⟨q4.mono (by omega), g4l⟩ ((el 0).trans hk0) (fun w => w (by rw [st9, if_pos (Or.inr (fun w9 => by have w8 := (cbm hc0 hc1 (by omega) k9).mp w9; rw [← lc4] at w8; first | exact absurd w8 (by assumption) | omega))])))))
      · skip
        refine ez_go (n := 2) (pc' := 144) (L' := [(2, .inl ((Int32.ofInt (1) <<< (Int32.ofInt ((k : Int)) &&& 31)).toInt)), (0, .inr (.inr (some (770)))), (1, .inr (.inr (some (l))))]) (st' := [.inl (1), .inr (.inr (some (770)))]) rfl ?_
        refine ez_cv hB4 v770 rfl rfl rfl tq_75 rfl rfl rfl (rd_can1 (by omega) (by omega) (ez_K0 ?_))
        have cb0 : cbit c (k : Int) = 0 := (cbm hc0 hc1 (by omega) k9).mpr (by rw [← lc4]; first | assumption | omega)
        rw [if_neg (fun w => by rcases w with w | w; (· omega); (· exact w cb0))] at st9
        refine ez_go (n := 2) (pc' := 149) (L' := [(2, .inl ((Int32.ofInt (1) <<< (Int32.ofInt ((k : Int)) &&& 31)).toInt)), (0, .inr (.inr (some (770)))), (1, .inr (.inr (some (l))))]) (st' := [.inr (.inr (some (l))), .inr (.inr (some (l)))]) rfl ?_
        refine ez_gI hB4 vl rfl rfl tq_13 rfl rfl (fun (b6 : -2147483648 ≤ qz_I g4 l 12) (b6' : qz_I g4 l 12 ≤ 2147483647) => ?_)
        refine ez_go (n := 2) (pc' := 154) (L' := [(2, .inl ((Int32.ofInt (1) <<< (Int32.ofInt ((k : Int)) &&& 31)).toInt)), (0, .inr (.inr (some (770)))), (1, .inr (.inr (some (l))))]) (st' := [.inl ((Int32.ofInt (qz_I g4 l 12) ||| Int32.ofInt ((Int32.ofInt (1) <<< (Int32.ofInt ((k : Int)) &&& 31)).toInt)).toInt), .inr (.inr (some (l)))]) rfl ?_
        have wb := sz_i32 (Int32.ofInt (qz_I g4 l 12) ||| Int32.ofInt ((Int32.ofInt (1) <<< (Int32.ofInt ((k : Int)) &&& 31)).toInt))
        refine ez_pf hB4 vl rfl rfl tq_13 rfl rfl rfl rfl (ez_vdI rfl rfl (by omega) (by omega)) (fun hB7 w8 => ?_)
        refine ez_go (n := 1) (pc' := 158) (L' := [(2, .inl ((Int32.ofInt (1) <<< (Int32.ofInt ((k : Int)) &&& 31)).toInt)), (0, .inr (.inr (some (770)))), (1, .inr (.inr (some (l))))]) (st' := [.inr (.inr (some (770)))]) rfl ?_
        have M5 : mw g4 (dz_put g4 l 12 (ez_v (.inl ((Int32.ofInt (qz_I g4 l 12) ||| Int32.ofInt ((Int32.ofInt (1) <<< (Int32.ofInt ((k : Int)) &&& 31)).toInt)).toInt)))) l := mw_put hl.1
        have a5 : qz_I (dz_put g4 l 12 (ez_v (.inl ((Int32.ofInt (qz_I g4 l 12) ||| Int32.ofInt ((Int32.ofInt (1) <<< (Int32.ofInt ((k : Int)) &&& 31)).toInt)).toInt)))) 770 17 = E := by rw [ez_put_I (fun w => hl.1 w.1.symm)]; exact a4
        have s5 : qz_I (dz_put g4 l 12 (ez_v (.inl ((Int32.ofInt (qz_I g4 l 12) ||| Int32.ofInt ((Int32.ofInt (1) <<< (Int32.ofInt ((k : Int)) &&& 31)).toInt)).toInt)))) 770 18 = mt h 4 := by rw [ez_put_I (fun w => hl.1 w.1.symm)]; exact s4
        have l5 : ∀ j, j ≠ 12 → qz_I (dz_put g4 l 12 (ez_v (.inl ((Int32.ofInt (qz_I g4 l 12) ||| Int32.ofInt ((Int32.ofInt (1) <<< (Int32.ofInt ((k : Int)) &&& 31)).toInt)).toInt)))) l j = qz_I g4 l j := fun j hj => ez_put_I (fun w => hj w.2)
        have c12 : qz_I (dz_put g4 l 12 (ez_v (.inl ((Int32.ofInt (qz_I g4 l 12) ||| Int32.ofInt ((Int32.ofInt (1) <<< (Int32.ofInt ((k : Int)) &&& 31)).toInt)).toInt)))) l 12 = cset c (k : Int) := by rw [w8, rz_rd ⟨by omega, by omega⟩, lc4]; rfl
        have hB5 := hB7
        generalize (dz_put g4 l 12 (ez_v (.inl ((Int32.ofInt (qz_I g4 l 12) ||| Int32.ofInt ((Int32.ofInt (1) <<< (Int32.ofInt ((k : Int)) &&& 31)).toInt)).toInt)))) = g5 at *
        have eb5 : mb g5 = mb h := by rw [M5.b hl.2.1, x4.b (ez_t771 hBg u770), eb]
        refine ez_cv hB5 v770 rfl rfl rfl tq_75 rfl rfl rfl (rd_blanks hB5 v770 (by rw [a5, s5]; omega) (fun g6 hB6 m6 a6 => ez_K0 ?_))
        rw [a5, s5, eb5] at a6
        have M6 : mw g4 g6 l := M5.trans m6.mw
        have tp4 : τ4 (po g4) = 17 := q4.2.2.1
        have q6 : lq (lX l (qz_P h l 7) (qz_P h l 8)) τ h τ4 g6 A (45 * (E - mf h 4)) := by
          have := q4.trans ((M6.jp (lX_l l (qz_P h l 7) (qz_P h l 8)) v770 vl tp4 q4.2.2.2.2.2.2.2.1.1).lq) h0
          rw [List.append_nil, Int.add_zero] at this; exact this
        have us4 : τ4 (qz_P h l 7) = 15 := (q4.1 _ (by rw [usp]; decide)).1.trans usp
        have uc4 : τ4 (qz_P h l 8) = 16 := (q4.1 _ (by rw [ucp]; decide)).1.trans ucp
        have g6l : lg (qz_P h l 7) (qz_P h l 8) g6 := g4l.mw M6 v770 vl us4 uc4 tp4
        have sl := rz_skip_le (mb h) (mt h 4 - E).toNat E
        have s6 : qz_I g6 770 18 = mt h 4 := (m6.2 18 (by decide)).trans s5
        refine ez_go (n := 1) (pc' := 102) (L' := [(2, .inl ((Int32.ofInt (1) <<< (Int32.ofInt ((k : Int)) &&& 31)).toInt)), (0, .inr (.inr (some (770)))), (1, .inr (.inr (some (l))))]) (st' := []) rfl ?_
        refine ez_less [(0, .inr (.inr (some (770)))), (1, .inr (.inr (some (l))))] rfl ⟨rfl, rfl, trivial⟩ ?_
        have cb9 := cset_bd hc0 hc1 (k := (k : Int)) (by omega) k9
        refine ih g6 τ4 A (cset c (k : Int)) (by rw [a6]; omega) hB6 (q6.mono (by rw [a6]; omega)) g6l ?_ s6 (by rw [a6]; omega) (by rw [a6]; omega) (fun w => by rw [a6] at w ⊢; exact skip_stop (mb h) (mt h 4 - E).toNat E (by omega)) hA ?_ (by rw [m6.l hl.1]; exact c12) cb9.1 cb9.2 (by rw [a6]; exact st9.symm) (by rw [m6.l hl.1, m6.l hl.1, l5 1 (by decide), l5 2 (by decide), el, el]; exact h12) (hz9.trans ((z9.py y4 u770 ul usp1 ucp1 tpg).trans (z9.mw M6 v770 vl us4 uc4 tp4)))
        · rw [m6.l hl.1, l5 0 (by decide), el]; exact hk0
        · rw [a6]
          by_cases e9 : E < rz_skip (mb h) (mt h 4 - E).toNat E
          · exact Or.inr (Or.inl ⟨by omega, skip_prev _ _ _ e9⟩)
          · have e8 : rz_skip (mb h) (mt h 4 - E).toNat E = E := by omega
            by_cases e7 : E < mt h 4
            · exfalso; have q1 := tok_stop (mb h) (mt h 4 - qz_I g 770 17).toNat (qz_I g 770 17) (by omega); rw [← eE] at q1; have q2 := skip_stop (mb h) (mt h 4 - E).toNat E (by omega); rw [e8] at q2; exact q2 q1
            · exact Or.inr (Or.inr (by omega))

end EzCb
/-! The model: cases, IV: all of it. (Written by wip/p2/py/pv76.py.) -/
section EzCc
variable {d : Nat} {h : cz_H} {τ : Nat → Nat} {Q : cz_F → Prop} {l : Nat}
theorem rd_cases_l (hB : ez_B τ h) (t770 : τ 770 = 75) (tl : τ l = 13) (hl : lz l) (usp : τ (qz_P h l 7) = 15) (ucp : τ (qz_P h l 8) = 16) (tpo : τ (po h) = 17) (h0 : 0 ≤ pn h) (hpm : pn h + 75 ≤ 38400) (hNh : 1024 ≤ qz_N h (po h)) (hr1 : h.1 + 300 ≤ 600192) (hr2 : h.2.1 + 500000 ≤ 7302232) (hF : ∀ k, 0 ≤ k → k < 5 → (0 ≤ mf h k ∧ mf h k ≤ mt h k) ∧ mt h k ≤ 4096) (hTr : ∀ k, 0 ≤ k → k < 5 → mf h k < mt h k → ¬ bk (mb h (mf h k)) ∧ ¬ bk (mb h (mt h k - 1))) (kx : ∀ g τ1 A, ez_B τ1 g → cs τ h τ1 g l 3 A → ez_W (d + 9) cm_229 97 [(0, .inr (.inr (some (770)))), (1, .inr (.inr (some (l))))] [] g Q) (k0 : ∀ g τ1 A, ez_B τ1 g → (pj (lX l (qz_P h l 7) (qz_P h l 8)) τ h τ1 g A ∧ lg (qz_P h l 7) (qz_P h l 8) g) → qz_I g l 0 = qz_I h l 0 → ¬ rz_G1 (mb h) (mf h) (mt h) → Q (.inr g.1, xc g 1)) : ∀ (n : Nat) (k : Int) (g : cz_H) (τ1 : Nat → Nat) (A : List Int), n = (3 - k).toNat → 0 ≤ k → k ≤ 3 → ez_B τ1 g → cs τ h τ1 g l k A → ez_W (d + 9) cm_229 50 [(2, .inl (k)), (0, .inr (.inr (some (770)))), (1, .inr (.inr (some (l))))] [] g Q := by
  intro n
  induction n with
  | zero =>
    intro k g τ1 A hn k0' k1' hBg hs
    refine ez_go (n := 2) (pc' := 52) (L' := [(2, .inl (k)), (0, .inr (.inr (some (770)))), (1, .inr (.inr (some (l))))]) (st' := [.inl (3), .inl (k)]) rfl ?_
    refine ez_icmp rfl rfl ⟨by first | omega | exact (sz_i32 _).1, by first | omega | exact (sz_i32 _).2⟩ ⟨by first | omega | exact (sz_i32 _).1, by first | omega | exact (sz_i32 _).2⟩ (fun (c1 : (3) ≤ (k)) => ?_) (fun (c1 : ¬((3) ≤ (k))) => ?_)
    · skip
      refine ez_less [(0, .inr (.inr (some (770)))), (1, .inr (.inr (some (l))))] rfl ⟨rfl, rfl, trivial⟩ ?_
      have ek : k = 3 := by omega
      rw [ek] at hs
      exact kx g τ1 A hBg hs
    · skip
      exfalso; omega
  | succ n ih =>
    intro k g τ1 A hn k0' k1' hBg hs
    refine ez_go (n := 2) (pc' := 52) (L' := [(2, .inl (k)), (0, .inr (.inr (some (770)))), (1, .inr (.inr (some (l))))]) (st' := [.inl (3), .inl (k)]) rfl ?_
    refine ez_icmp rfl rfl ⟨by first | omega | exact (sz_i32 _).1, by first | omega | exact (sz_i32 _).2⟩ ⟨by first | omega | exact (sz_i32 _).1, by first | omega | exact (sz_i32 _).2⟩ (fun (c1 : (3) ≤ (k)) => ?_) (fun (c1 : ¬((3) ≤ (k))) => ?_)
    · skip
      refine ez_less [(0, .inr (.inr (some (770)))), (1, .inr (.inr (some (l))))] rfl ⟨rfl, rfl, trivial⟩ ?_
      have ek : k = 3 := by omega
      rw [ek] at hs
      exact kx g τ1 A hBg hs
    · skip
      refine rd_cases_k hB t770 tl hl usp ucp tpo h0 hpm hNh hr1 hr2 hF hTr hBg hs.1 hs.2.1 hs.2.2.1 hs.2.2.2.1 hs.2.2.2.2.1 hs.2.2.2.2.2.1 hs.2.2.2.2.2.2.1 hs.2.2.2.2.2.2.2 k0' (by omega) (fun g2 τ2 A2 b1 b2 b3 b4 b5 b6 b7 b8 b9 => ?_) k0
      refine ez_go (n := 2) (pc' := 50) (L' := [(2, .inl (k + 1)), (0, .inr (.inr (some (770)))), (1, .inr (.inr (some (l))))]) (st' := []) rfl ?_
      refine ez_less [(2, .inl (k + 1)), (0, .inr (.inr (some (770)))), (1, .inr (.inr (some (l))))] rfl ⟨rfl, rfl, rfl, trivial⟩ ?_
      exact ih (k + 1) g2 τ2 A2 (by omega) (by omega) (by omega) b1 ⟨b2, b3, b4, b5, b6, b7, b8, b9⟩

theorem rd_cases_v {g : cz_H} {τ1 : Nat → Nat} {A : List Int} (hB : ez_B τ h) (t770 : τ 770 = 75) (tl : τ l = 13) (hl : lz l) (usp : τ (qz_P h l 7) = 15) (ucp : τ (qz_P h l 8) = 16) (tpo : τ (po h) = 17) (h0 : 0 ≤ pn h) (hpm : pn h + 75 ≤ 38400) (hNh : 1024 ≤ qz_N h (po h)) (hr1 : h.1 + 24000 ≤ 600192) (hr2 : h.2.1 + 800000 ≤ 7302232) (hF : ∀ k, 0 ≤ k → k < 5 → (0 ≤ mf h k ∧ mf h k ≤ mt h k) ∧ mt h k ≤ 4096) (hTr : ∀ k, 0 ≤ k → k < 5 → mf h k < mt h k → ¬ bk (mb h (mf h k)) ∧ ¬ bk (mb h (mt h k - 1))) (hl12 : qz_I h l 12 = 0) (hZ : nz_Z h) (hN : nmz h) (hpl : ∀ j, mf h 4 ≤ j → j < mt h 4 → 0 ≤ mb h j ∧ mb h j ≤ 127) (hBg : ez_B τ1 g) (hs : cs τ h τ1 g l 3 A) (k1 : ∀ gz τ1 A, ez_B τ1 gz → (lq (lX l (qz_P h l 7) (qz_P h l 8)) τ h τ1 gz A (45 * (mt h 4 - mf h 4)) ∧ lg (qz_P h l 7) (qz_P h l 8) gz) → A.length ≤ 75 → qz_I gz l 0 = qz_I h l 0 → rz_CD (mb h) (mf h 4) (mt h 4) → (qz_I gz l 1 = qz_I gz l 2 ∧ qz_I gz l 1 = rz_code (mb h) (mf h 0) (mt h 0)) → qz_I gz l 12 = nz_cd (mb h) (mt h 4) (rz_ct (mb h) (mf h 4) (mt h 4 - mf h 4).toNat (mf h 4)) (mf h 4) 0 → z9 (qz_P h l 7) (qz_P h l 8) g gz → Q (.inl none, gz)) (k0 : ∀ g τ1 A, ez_B τ1 g → (lq (lX l (qz_P h l 7) (qz_P h l 8)) τ h τ1 g A (45 * (mt h 4 - mf h 4)) ∧ lg (qz_P h l 7) (qz_P h l 8) g) → qz_I g l 0 = qz_I h l 0 → ¬ rz_CD (mb h) (mf h 4) (mt h 4) → Q (.inr g.1, xc g 1)) : ez_W (d + 9) cm_229 97 [(0, .inr (.inr (some (770)))), (1, .inr (.inr (some (l))))] [] g Q := by
  obtain ⟨hp, -⟩ := id hs
  have F4 := hF 4 (by omega) (by omega)
  have u770 : τ1 770 = 75 := (hp.1 770 (by rw [t770]; decide)).1.trans t770
  have ul : τ1 l = 13 := (hp.1 l (by rw [tl]; decide)).1.trans tl
  have g789 : g.2.2 789 = h.2.2 789 := hp.f tpo usp ucp tl (ez_t789 hB t770) rfl (by decide)
  have g790 : g.2.2 790 = h.2.2 790 := hp.f tpo usp ucp tl (ez_t790 hB t770) rfl (by decide)
  have ef : ∀ k, mf g k = mf h k := fun k => by unfold mf qz_I; rw [g789]
  have et : ∀ k, mt g k = mt h k := fun k => by unfold mt qz_I; rw [g790]
  refine ez_go (n := 2) (pc' := 99) (L' := [(0, .inr (.inr (some (770)))), (1, .inr (.inr (some (l))))]) (st' := [.inl (4), .inr (.inr (some (770)))]) rfl ?_
  refine ez_cv hBg u770 rfl rfl rfl tq_75 rfl rfl rfl (rd_field hBg u770 (by omega) (by omega) (fun g1 hB1 m1 a1 s1 => ez_K0 ?_))
  rw [ef] at a1; rw [et] at s1
  refine ez_less [(0, .inr (.inr (some (770)))), (1, .inr (.inr (some (l))))] rfl ⟨rfl, rfl, trivial⟩ ?_
  have M1 : mw g g1 l := m1.mw
  have tpg := hp.2.2.1
  have P1 := hp.trans (M1.jp (lX_l l (qz_P h l 7) (qz_P h l 8)) u770 ul tpg hp.2.2.2.2.2.2.2.1.1) h0
  rw [List.append_nil] at P1
  have us1 : τ1 (qz_P h l 7) = 15 := (hp.1 _ (by rw [usp]; decide)).1.trans usp
  have uc1 : τ1 (qz_P h l 8) = 16 := (hp.1 _ (by rw [ucp]; decide)).1.trans ucp
  have hA5 := hs.2.2.2.2.1
  exact rd_cases_w (g0 := g) hB t770 tl hl usp ucp tpo h0 hpm hNh hr1 hr2 hZ hN F4 hpl k1 k0 _ g1 τ1 A 0 (Nat.le_refl _) hB1 (P1.lq.mono (by rw [a1]; omega)) (hs.2.1.mw M1 u770 ul us1 uc1 tpg) (by rw [m1.l hl.1]; exact hs.2.2.1 0 (by decide) (by decide)) s1 (by rw [a1]; omega) (by rw [a1]; omega) (fun w => by rw [a1] at w ⊢; exact (hTr 4 (by omega) (by omega) w).1) (by omega) (Or.inl a1) (by rw [m1.l hl.1, hs.2.2.1 12 (by decide) (by decide)]; exact hl12) (by omega) (by omega) (by rw [a1]) (by rw [m1.l hl.1, m1.l hl.1]; exact hs.2.2.2.2.2.2.1) (z9.mw M1 u770 ul us1 uc1 tpg)

theorem rd_cases (hB : ez_B τ h) (t770 : τ 770 = 75) (tl : τ l = 13) (hl : lz l) (usp : τ (qz_P h l 7) = 15) (ucp : τ (qz_P h l 8) = 16) (tpo : τ (po h) = 17) (h0 : 0 ≤ pn h) (hpm : pn h + 75 ≤ 38400) (hNh : 1024 ≤ qz_N h (po h)) (hr1 : h.1 + 24000 ≤ 600192) (hr2 : h.2.1 + 800000 ≤ 7302232) (hn : pn h ≤ qz_N h (po h)) (hlg : lg (qz_P h l 7) (qz_P h l 8) h) (hc0 : ∀ j, qz_I h (qz_P h l 8) j = 0) (hF : ∀ k, 0 ≤ k → k < 5 → (0 ≤ mf h k ∧ mf h k ≤ mt h k) ∧ mt h k ≤ 4096) (hTr : ∀ k, 0 ≤ k → k < 5 → mf h k < mt h k → ¬ bk (mb h (mf h k)) ∧ ¬ bk (mb h (mt h k - 1))) (hl12 : qz_I h l 12 = 0) (hZ : nz_Z h) (hN : nmz h) (hpl : ∀ j, mf h 4 ≤ j → j < mt h 4 → 0 ≤ mb h j ∧ mb h j ≤ 127) (k1 : ∀ g τ1 A, ez_B τ1 g → (lq (lX l (qz_P h l 7) (qz_P h l 8)) τ h τ1 g A (45 * (mt h 4 - mf h 4)) ∧ lg (qz_P h l 7) (qz_P h l 8) g) → A.length ≤ 75 → qz_I g l 0 = qz_I h l 0 → rz_G1 (mb h) (mf h) (mt h) → (qz_I g l 1 = qz_I g l 2 ∧ qz_I g l 1 = rz_code (mb h) (mf h 0) (mt h 0)) → qz_I g l 12 = nz_cd (mb h) (mt h 4) (rz_ct (mb h) (mf h 4) (mt h 4 - mf h 4).toNat (mf h 4)) (mf h 4) 0 → (∀ i : Nat, (i : Int) < 3 → mrw g (qz_P h l 7) (qz_P h l 8) i (rz_rn (mb h) (mf h (1 + (i : Int))) (mt h (1 + (i : Int))))) → Q (.inl none, g)) (k0 : ∀ g τ1 A, ez_B τ1 g → (lq (lX l (qz_P h l 7) (qz_P h l 8)) τ h τ1 g A (45 * (mt h 4 - mf h 4)) ∧ lg (qz_P h l 7) (qz_P h l 8) g) → qz_I g l 0 = qz_I h l 0 → ¬ rz_G1 (mb h) (mf h) (mt h) → Q (.inr g.1, xc g 1)) : ez_W (d + 9) cm_229 0 [(0, .inr (.inr (some (770)))), (1, .inr (.inr (some (l))))] [] h Q := by
  refine ez_go (n := 2) (pc' := 2) (L' := [(0, .inr (.inr (some (770)))), (1, .inr (.inr (some (l))))]) (st' := [.inl (0), .inr (.inr (some (770)))]) rfl ?_
  have F0 := hF 0 (by omega) (by omega)
  have F4 := hF 4 (by omega) (by omega)
  refine ez_cv hB t770 rfl rfl rfl tq_75 rfl rfl rfl (rd_field hB t770 (by omega) (by omega) (fun g1 hB1 m1 a1 s1 => ez_K0 ?_))
  have u1a : (g1).1 = h.1 := m1.1.1
  have u1b : (g1).2.1 = h.2.1 := m1.1.2.1
  refine ez_go (n := 2) (pc' := 7) (L' := [(0, .inr (.inr (some (770)))), (1, .inr (.inr (some (l))))]) (st' := [.inr (.inr (some (l))), .inr (.inr (some (770)))]) rfl ?_
  have eb1 : mb g1 = mb h := m1.mw.b hl.2.1
  refine ez_cv hB1 t770 rfl rfl rfl tq_75 rfl rfl rfl (rd_codes hB1 t770 tl (by omega) (by omega) (by omega) (by omega) (fun g2 hB2 m2 a2 e1 e2 v1 v2 J2 => ez_K0 ?_) (fun hno g2 hB2 m2 J2 => ez_Kp (xc_exc hB2 rfl) rfl (k0 g2 τ [] hB2 ⟨((m1.mw.trans m2.mw).jp (lX_l _ _ _) t770 tl tpo hn).lq.mono (by omega), hlg.mw (m1.mw.trans m2.mw) t770 tl usp ucp tpo⟩ (by rw [J2 0 (by decide) (by decide)]; exact m1.l hl.1 0) (fun w => hno (by rw [eb1, a1, s1]; have o9 := (rz_one F0.1.2).mpr w.1; exact ⟨o9.1, o9.2.1⟩)))))
  rw [eb1, a1, s1] at e1 e2 v1 v2
  have M2 : mw h g2 l := m1.mw.trans m2.mw
  have u2a : (g2).1 = h.1 := M2.1.1
  have u2b : (g2).2.1 = h.2.1 := M2.1.2.1
  have q789 : qz_I g2 789 (0 : Int).toNat = mf h 0 := M2.f hl.2.2.1 0
  have q790 : qz_I g2 790 (0 : Int).toNat = mt h 0 := M2.t hl.2.2.2 0
  have z2 : ∀ j, j ≠ 1 → j ≠ 2 → qz_I g2 l j = qz_I h l j := fun j j1 j2 => by rw [J2 j j1 j2]; exact m1.l hl.1 j
  refine ez_go (n := 2) (pc' := 12) (L' := [(0, .inr (.inr (some (770)))), (1, .inr (.inr (some (l))))]) (st' := [.inr (.inr (some (l))), .inr (.inr (some (770)))]) rfl ?_
  refine ez_gI hB2 tl rfl rfl tq_13 rfl rfl (fun (b1 : -2147483648 ≤ qz_I g2 l 1) (b1' : qz_I g2 l 1 ≤ 2147483647) => ?_)
  refine ez_go (n := 1) (pc' := 16) (L' := [(0, .inr (.inr (some (770)))), (1, .inr (.inr (some (l))))]) (st' := [.inr (.inr (some (l))), .inl (qz_I g2 l 1), .inr (.inr (some (770)))]) rfl ?_
  refine ez_gI hB2 tl rfl rfl tq_13 rfl rfl (fun (b2 : -2147483648 ≤ qz_I g2 l 2) (b2' : qz_I g2 l 2 ≤ 2147483647) => ?_)
  refine ez_icmp rfl rfl ⟨by first | omega | exact (sz_i32 _).1, by first | omega | exact (sz_i32 _).2⟩ ⟨by first | omega | exact (sz_i32 _).1, by first | omega | exact (sz_i32 _).2⟩ (fun (c3 : (qz_I g2 l 1) ≠ (qz_I g2 l 2)) => ?_) (fun (c3 : ¬((qz_I g2 l 1) ≠ (qz_I g2 l 2))) => ?_)
  · skip
    refine ez_go (n := 1) (pc' := 45) (L' := [(0, .inr (.inr (some (770)))), (1, .inr (.inr (some (l))))]) (st' := [.inl (0), .inr (.inr (some (770)))]) rfl ?_
    refine ez_cv hB2 t770 rfl rfl rfl tq_75 rfl rfl rfl (rd_can0 (by omega) (by omega) (ez_Kp (xc_exc hB2 rfl) rfl (k0 g2 τ [] hB2 ⟨(M2.jp (lX_l _ _ _) t770 tl tpo hn).lq.mono (by omega), hlg.mw M2 t770 tl usp ucp tpo⟩ (z2 0 (by decide) (by decide)) (fun w => by have o9 := (rz_one F0.1.2).mpr w.1; omega))))
  · skip
    refine ez_go (n := 1) (pc' := 23) (L' := [(0, .inr (.inr (some (770)))), (1, .inr (.inr (some (l))))]) (st' := [.inr (.inr (some (770))), .inr (.inr (some (770)))]) rfl ?_
    refine ez_gC (p := 790) (tg := 81) hB2 t770 rfl rfl tq_75 rfl rfl (fun (t790 : _ = 81) => ?_)
    refine ez_go (n := 1) (pc' := 27) (L' := [(0, .inr (.inr (some (770)))), (1, .inr (.inr (some (l))))]) (st' := [.inl (0), .inr (.inr (some (790))), .inr (.inr (some (770)))]) rfl ?_
    have n5 : 8 ≤ qz_N g2 790 ∧ qz_N g2 790 ≤ 8 := ez_len hB2 t790 tq_81 rfl
    refine ez_aI hB2 t790 rfl tq_81 rfl rfl (by omega) (by omega) (fun (b4 : 0 ≤ qz_I g2 790 (0 : Int).toNat) (b4' : qz_I g2 790 (0 : Int).toNat ≤ 4096) => ?_)
    refine ez_go (n := 1) (pc' := 29) (L' := [(0, .inr (.inr (some (770)))), (1, .inr (.inr (some (l))))]) (st' := [.inr (.inr (some (770))), .inl (qz_I g2 790 (0 : Int).toNat), .inr (.inr (some (770)))]) rfl ?_
    refine ez_gC (p := 789) (tg := 80) hB2 t770 rfl rfl tq_75 rfl rfl (fun (t789 : _ = 80) => ?_)
    refine ez_go (n := 1) (pc' := 33) (L' := [(0, .inr (.inr (some (770)))), (1, .inr (.inr (some (l))))]) (st' := [.inl (0), .inr (.inr (some (789))), .inl (qz_I g2 790 (0 : Int).toNat), .inr (.inr (some (770)))]) rfl ?_
    have n7 : 8 ≤ qz_N g2 789 ∧ qz_N g2 789 ≤ 8 := ez_len hB2 t789 tq_80 rfl
    refine ez_aI hB2 t789 rfl tq_80 rfl rfl (by omega) (by omega) (fun (b6 : 0 ≤ qz_I g2 789 (0 : Int).toNat) (b6' : qz_I g2 789 (0 : Int).toNat ≤ 4096) => ?_)
    refine ez_go (n := 2) (pc' := 37) (L' := [(0, .inr (.inr (some (770)))), (1, .inr (.inr (some (l))))]) (st' := [.inl (6), .inl ((qz_I g2 790 (0 : Int).toNat) - (qz_I g2 789 (0 : Int).toNat)), .inr (.inr (some (770)))]) rfl ?_
    refine ez_icmp rfl rfl ⟨by first | omega | exact (sz_i32 _).1, by first | omega | exact (sz_i32 _).2⟩ ⟨by first | omega | exact (sz_i32 _).1, by first | omega | exact (sz_i32 _).2⟩ (fun (c8 : (6) < ((qz_I g2 790 (0 : Int).toNat) - (qz_I g2 789 (0 : Int).toNat))) => ?_) (fun (c8 : ¬((6) < ((qz_I g2 790 (0 : Int).toNat) - (qz_I g2 789 (0 : Int).toNat)))) => ?_)
    · skip
      refine ez_go (n := 1) (pc' := 45) (L' := [(0, .inr (.inr (some (770)))), (1, .inr (.inr (some (l))))]) (st' := [.inl (0), .inr (.inr (some (770)))]) rfl ?_
      refine ez_cv hB2 t770 rfl rfl rfl tq_75 rfl rfl rfl (rd_can0 (by omega) (by omega) (ez_Kp (xc_exc hB2 rfl) rfl (k0 g2 τ [] hB2 ⟨(M2.jp (lX_l _ _ _) t770 tl tpo hn).lq.mono (by omega), hlg.mw M2 t770 tl usp ucp tpo⟩ (z2 0 (by decide) (by decide)) (fun w => by have o9 := (rz_one F0.1.2).mpr w.1; omega))))
    · skip
      refine ez_go (n := 2) (pc' := 45) (L' := [(0, .inr (.inr (some (770)))), (1, .inr (.inr (some (l))))]) (st' := [.inl (1), .inr (.inr (some (770)))]) rfl ?_
      refine ez_cv hB2 t770 rfl rfl rfl tq_75 rfl rfl rfl (rd_can1 (by omega) (by omega) (ez_K0 ?_))
      have o0 : rz_code (mb h) (mf h 0) (mt h 0) ≠ -1 := (rz_one F0.1.2).mp ⟨v1, v2, by omega, by omega⟩
      have o12 : qz_I g2 l 1 = qz_I g2 l 2 ∧ qz_I g2 l 1 = rz_code (mb h) (mf h 0) (mt h 0) := ⟨by omega, e1.trans (rz_one_e F0.1.2 o0).1⟩
      refine ez_go (n := 2) (pc' := 50) (L' := [(2, .inl (0)), (0, .inr (.inr (some (770)))), (1, .inr (.inr (some (l))))]) (st' := []) rfl ?_
      refine ez_less [(2, .inl (0)), (0, .inr (.inr (some (770)))), (1, .inr (.inr (some (l))))] rfl ⟨rfl, rfl, rfl, trivial⟩ ?_
      have nc7 : qz_P h l 8 ≠ 770 := fun e => by rw [e, t770] at ucp; cases ucp
      have ncl : qz_P h l 8 ≠ l := fun e => by rw [e, tl] at ucp; cases ucp
      exact rd_cases_l hB t770 tl hl usp ucp tpo h0 hpm hNh (by omega) (by omega) hF hTr (fun g3 τ3 A3 b1 b2 => rd_cases_v hB t770 tl hl usp ucp tpo h0 hpm hNh hr1 hr2 hF hTr hl12 hZ hN hpl b1 b2 (fun g4 τ4 A4 d1 d2 d3 d4 d5 d6 d7 d8 => k1 g4 τ4 A4 d1 d2 d3 d4 ⟨o0, b2.2.2.2.2.2.1 1 (by omega) (by omega), b2.2.2.2.2.2.1 2 (by omega) (by omega), b2.2.2.2.2.2.1 3 (by omega) (by omega), d5⟩ d6 d7 (fun i hi => (b2.2.2.2.2.2.2.2 i hi).z9 d8)) (fun g4 τ4 A4 d1 d2 d3 d5 => k0 g4 τ4 A4 d1 d2 d3 (fun w => d5 w.2.2.2.2))) (fun g3 τ3 A3 b1 b2 b3 b4 => k0 g3 τ3 A3 b1 ⟨b2.1.lq.mono (by omega), b2.2⟩ b3 b4) _ 0 g2 τ [] rfl (by omega) (by omega) hB2 ⟨M2.jp (lX_l _ _ _) t770 tl tpo hn, hlg.mw M2 t770 tl usp ucp tpo, z2, fun j _ => by rw [M2.I nc7 ncl]; exact hc0 j, by simp, fun j q1 q2 => by omega, o12, fun i hi => by omega⟩

end EzCc
/-! The model: collation. (Written by wip/p2/py/pv77.py.) -/
/-- within a LINE 4: c elements read, x more points of the next -/
def co (τ : Nat → Nat) (h : cz_H) (τ1 : Nat → Nat) (g : cz_H) (l : Nat) (c x : Int) (A : List Int) : Prop :=
  pj (lX l (qz_P h l 7) (qz_P h l 8)) τ h τ1 g A ∧ lg (qz_P h l 7) (qz_P h l 8) g ∧ g.2.2 l = h.2.2 l ∧ qz_I g (qz_P h l 8) 1 = c ∧ qz_I g (qz_P h l 7) 1 + 4 * c + x ≤ pn g ∧ (A.length : Int) ≤ 3 + 4 * c + x
/-- the cells that must differ -/
def cd5 (τ : Nat → Nat) (h : cz_H) (l : Nat) : Prop := τ 770 = 75 ∧ τ l = 13 ∧ τ (qz_P h l 7) = 15 ∧ τ (qz_P h l 8) = 16
theorem co.put17 {τ τ1 : Nat → Nat} {h g g2 : cz_H} {l : Nat} {c x : Int} {A : List Int} (a : co τ h τ1 g l c x A) (d5 : cd5 τ h l) (m : mz g g2) (h0 : 0 ≤ pn h) : co τ h τ1 g2 l c x A := by
  obtain ⟨a1, a2, a3, a4, a5, a6⟩ := a
  obtain ⟨t770, tl, tsp, tcp⟩ := d5
  have u770 : τ1 770 = 75 := (a1.1 770 (by rw [t770]; decide)).1.trans t770
  have ul : τ1 l = 13 := (a1.1 l (by rw [tl]; decide)).1.trans tl
  have us : τ1 (qz_P h l 7) = 15 := (a1.1 _ (by rw [tsp]; decide)).1.trans tsp
  have uc : τ1 (qz_P h l 8) = 16 := (a1.1 _ (by rw [tcp]; decide)).1.trans tcp
  have nl : l ≠ 770 := fun e => by rw [e, u770] at ul; cases ul
  have ns : qz_P h l 7 ≠ 770 := fun e => by rw [e, u770] at us; cases us
  have nc : qz_P h l 8 ≠ 770 := fun e => by rw [e, u770] at uc; cases uc
  have M : mw g g2 l := m.mw
  have p := a1.trans (M.jp (lX_l l (qz_P h l 7) (qz_P h l 8)) u770 ul a1.2.2.1 a1.2.2.2.2.2.2.2.1.1) h0
  rw [List.append_nil] at p
  refine ⟨p, a2.mw M u770 ul us uc a1.2.2.1, ?_, ?_, ?_, a6⟩
  · rw [m.1.2.2 l (dz_beq_ne nl)]; exact a3
  · rw [m.I nc]; exact a4
  · rw [m.I ns, M.epn]; exact a5
theorem co.keep {τ τ1 τ2 : Nat → Nat} {h g g2 : cz_H} {l : Nat} {c x v : Int} {A : List Int} (a : co τ h τ1 g l c x A) (d5 : cd5 τ h l) (b : kp τ1 g τ2 g2 v) (h0 : 0 ≤ pn h) : co τ h τ2 g2 l c (x + 1) (A ++ [v]) := by
  obtain ⟨a1, a2, a3, a4, a5, a6⟩ := a
  obtain ⟨t770, tl, tsp, tcp⟩ := d5
  have u770 : τ1 770 = 75 := (a1.1 770 (by rw [t770]; decide)).1.trans t770
  have ul : τ1 l = 13 := (a1.1 l (by rw [tl]; decide)).1.trans tl
  have us : τ1 (qz_P h l 7) = 15 := (a1.1 _ (by rw [tsp]; decide)).1.trans tsp
  have uc : τ1 (qz_P h l 8) = 16 := (a1.1 _ (by rw [tcp]; decide)).1.trans tcp
  have up := a1.2.2.1
  have e : ∀ q t, τ1 q = t → (Nat.beq t 75 || (Nat.beq t 17 || Nat.beq t 0)) = false → g2.2.2 q = g.2.2 q := fun q t q1 q2 =>
    (b.1 q (fun e => by rw [e] at q1; rw [← q1] at q2; cases q2)).2 (fun e => by rw [e, u770] at q1; rw [← q1] at q2; cases q2) (fun e => by rw [e, up] at q1; rw [← q1] at q2; cases q2)
  have el := e l _ ul rfl
  have es := e _ _ us rfl
  have ec := e _ _ uc rfl
  have hn0 : 0 ≤ pn g := by have := a1.2.2.2.2.1; omega
  have k1 := ((kl.nil (X := lX l (qz_P h l 7) (qz_P h l 8)) up a1.2.2.2.2.2.2.2.1.1).keep b hn0).jp (X := lX l (qz_P h l 7) (qz_P h l 8)) (fun q hq => hq)
  rw [List.nil_append] at k1
  have b5 := b.2.2.2.2.1
  have b8 := b.2.2.2.2.2.2.2.1
  refine ⟨a1.trans k1 h0, fun j => ?_, el.trans a3, ?_, ?_, ?_⟩
  · have := a2 j
    have i1 : qz_I g2 (qz_P h l 7) j = qz_I g (qz_P h l 7) j := by unfold qz_I; rw [es]
    have i2 : qz_I g2 (qz_P h l 8) j = qz_I g (qz_P h l 8) j := by unfold qz_I; rw [ec]
    rw [i1, i2]; omega
  · unfold qz_I; rw [ec]; exact a4
  · have i1 : qz_I g2 (qz_P h l 7) 1 = qz_I g (qz_P h l 7) 1 := by unfold qz_I; rw [es]
    rw [i1]; omega
  · rw [List.length_append]; show ((A.length + 1 : Nat) : Int) ≤ _; omega
theorem rz_hex_ok (b : Int → Int) : ∀ (n : Nat) (i v : Int), 0 ≤ v → (∀ j, i ≤ j → j < i + (n : Int) → 0 ≤ mh (b j)) → rz_hex b n i v ≠ -1
  | 0, i, v, h0, _ => by show v ≠ -1; omega
  | n + 1, i, v, h0, h => by
    rw [rz_hex_mh, if_pos (h i (by omega) (by omega))]
    exact rz_hex_ok b n (i + 1) _ (by have := h i (by omega) (by omega); omega) (fun j h1 h2 => h j (by omega) (by omega))
/-- how many points the row has stays as it was -/
theorem co.z7 {τ τ1 : Nat → Nat} {h g g2 : cz_H} {l : Nat} {c x : Int} {A : List Int} (_ : co τ h τ1 g l c x A) (d5 : cd5 τ h l) (m : mz g g2) : qz_I g2 (qz_P h l 8) 0 = qz_I g (qz_P h l 8) 0 :=
  m.I (fun e => by have q := d5.2.2.2; rw [e, d5.1] at q; cases q) 0
theorem co.zk {τ τ1 τ2 : Nat → Nat} {h g g2 : cz_H} {l : Nat} {c x v : Int} {A : List Int} (a : co τ h τ1 g l c x A) (d5 : cd5 τ h l) (b : kp τ1 g τ2 g2 v) : qz_I g2 (qz_P h l 8) 0 = qz_I g (qz_P h l 8) 0 := by
  have uc : τ1 (qz_P h l 8) = 16 := (a.1.1 _ (by rw [d5.2.2.2]; decide)).1.trans d5.2.2.2
  have u770 : τ1 770 = 75 := (a.1.1 770 (by rw [d5.1]; decide)).1.trans d5.1
  unfold qz_I
  rw [(b.1 _ (by rw [uc]; decide)).2 (fun e => by rw [e, u770] at uc; cases uc) (fun e => by have q := a.1.2.2.1; rw [← e, uc] at q; cases q)]
/-- the octets are as they were -/
theorem co.oc {τ τ1 : Nat → Nat} {h g : cz_H} {l : Nat} {c x : Int} {A : List Int} (a : co τ h τ1 g l c x A) (d5 : cd5 τ h l) (tpo : τ (po h) = 17) (t771 : τ 771 = 76) : mb g = mb h := funext fun k => by
  unfold mb qz_I; rw [a.1.f tpo d5.2.2.1 d5.2.2.2 d5.2.1 t771 rfl (by decide)]
section EzCo
variable {d : Nat} {h : cz_H} {τ : Nat → Nat} {Q : cz_F → Prop} {l : Nat}
theorem rd_col_h {e p0 : Int} (u770 : τ 770 = 75) (hr1 : h.1 + 1 ≤ 600192) (hr2 : h.2.1 + 6 ≤ 7302232) (kx : ∀ g v, ez_B τ g → mz h g → 0 ≤ v → v ≤ 65535 → qz_I g 770 17 ≤ qz_I g 770 18 → qz_I g 770 17 = p0 + 4 → rz_hex (mb h) 4 p0 0 ≠ -1 → ez_W (d + 8) cm_236 214 [(3, .inl (v)), (2, .inl (e)), (0, .inr (.inr (some (770)))), (1, .inr (.inr (some (l))))] [] g Q) (k0 : ∀ g, ez_B τ g → mz h g → ¬ (p0 + 4 ≤ qz_I h 770 18 ∧ rz_hex (mb h) 4 p0 0 ≠ -1) → Q (.inr g.1, xc g 1)) : ∀ (n : Nat) (k v : Int) (g : cz_H), n = (4 - k).toNat → ez_B τ g → mz h g → 0 ≤ k → k ≤ 4 → 0 ≤ v → v < ((16 ^ k.toNat : Nat) : Int) → qz_I g 770 17 ≤ qz_I g 770 18 → qz_I g 770 17 = p0 + k → (∀ j, p0 ≤ j → j < p0 + k → 0 ≤ mh (mb h j)) → ez_W (d + 8) cm_236 166 [(4, .inl (k)), (3, .inl (v)), (2, .inl (e)), (0, .inr (.inr (some (770)))), (1, .inr (.inr (some (l))))] [] g Q := by
  intro n
  induction n with
  | zero =>
    intro k v g hn hBg hm k0' k4 v0 hv2 hat h17 hdg
    have h18 : qz_I g 770 18 = qz_I h 770 18 := hm.2 18 (by decide)
    have c1 := hm.1.1; have c2 := hm.1.2.1
    have s18 : qz_I g 770 18 ≤ 4096 := (ez_fB (cl := 11) (k := 18) hBg u770 tq_75 rfl rfl (by decide)).2
    refine ez_go (n := 2) (pc' := 169) (L' := [(4, .inl (k)), (3, .inl (v)), (2, .inl (e)), (0, .inr (.inr (some (770)))), (1, .inr (.inr (some (l))))]) (st' := [.inl (4), .inl (k)]) rfl ?_
    refine ez_icmp rfl rfl ⟨by first | omega | exact (sz_i32 _).1, by first | omega | exact (sz_i32 _).2⟩ ⟨by first | omega | exact (sz_i32 _).1, by first | omega | exact (sz_i32 _).2⟩ (fun (c1 : (4) ≤ (k)) => ?_) (fun (c1 : ¬((4) ≤ (k))) => ?_)
    · skip
      refine ez_less [(3, .inl (v)), (2, .inl (e)), (0, .inr (.inr (some (770)))), (1, .inr (.inr (some (l))))] rfl ⟨rfl, rfl, rfl, rfl, trivial⟩ ?_
      have ek : k = 4 := by omega
      rw [ek] at hv2
      exact kx g v hBg hm v0 (by have q : (16 ^ (4 : Int).toNat : Nat) = 65536 := (by decide); rw [q] at hv2; omega) hat (by omega) (rz_hex_ok _ 4 p0 0 (by omega) (fun j j1 j2 => hdg j j1 (by omega)))
    · skip
      refine ez_go (n := 2) (pc' := 174) (L' := [(4, .inl (k)), (3, .inl (v)), (2, .inl (e)), (0, .inr (.inr (some (770)))), (1, .inr (.inr (some (l))))]) (st' := [.inr (.inr (some (770))), .inr (.inr (some (770)))]) rfl ?_
      refine ez_cv hBg u770 rfl rfl rfl tq_75 rfl rfl rfl (rd_hex hBg u770 (ez_K1 ?_))
      have hb : -1 ≤ mh (mk (mb g) (qz_I g 770 17) (qz_I g 770 18)) ∧ mh (mk (mb g) (qz_I g 770 17) (qz_I g 770 18)) ≤ 15 := by unfold mh; split <;> (try split) <;> omega
      have hlt : 0 ≤ mh (mk (mb g) (qz_I g 770 17) (qz_I g 770 18)) → qz_I g 770 17 < qz_I g 770 18 := fun w => by by_cases e : qz_I g 770 17 < qz_I g 770 18; (· exact e); (· exfalso; rw [mk_out e] at w; exact absurd w (by decide))
      generalize ehv : mh (mk (mb g) (qz_I g 770 17) (qz_I g 770 18)) = hv at hb hlt ⊢
      refine ez_if rfl rfl ⟨by first | omega | exact (sz_i32 _).1, by first | omega | exact (sz_i32 _).2⟩ (fun (c2 : (hv) < (0)) => ?_) (fun (c2 : ¬((hv) < (0))) => ?_)
      · skip
        refine ez_go (n := 1) (pc' := 185) (L' := [(4, .inl (k)), (3, .inl (v)), (2, .inl (e)), (0, .inr (.inr (some (770)))), (1, .inr (.inr (some (l))))]) (st' := [.inl (0), .inr (.inr (some (770)))]) rfl ?_
        refine ez_cv hBg u770 rfl rfl rfl tq_75 rfl rfl rfl (rd_can0 (by omega) (by omega) (ez_Kp (xc_exc hBg rfl) rfl (k0 g hBg hm (fun w => by have q1 := rz_hex_all _ _ _ _ w.2 (p0 + k) (by omega) (by omega); rw [mk_in (by omega), hm.b, h17] at ehv; omega))))
      · skip
        refine ez_go (n := 2) (pc' := 185) (L' := [(4, .inl (k)), (3, .inl (v)), (2, .inl (e)), (0, .inr (.inr (some (770)))), (1, .inr (.inr (some (l))))]) (st' := [.inl (1), .inr (.inr (some (770)))]) rfl ?_
        refine ez_cv hBg u770 rfl rfl rfl tq_75 rfl rfl rfl (rd_can1 (by omega) (by omega) (ez_K0 ?_))
        refine ez_go (n := 4) (pc' := 193) (L' := [(4, .inl (k)), (3, .inl (v)), (2, .inl (e)), (0, .inr (.inr (some (770)))), (1, .inr (.inr (some (l))))]) (st' := [.inr (.inr (some (770))), .inl ((16) * (v))]) rfl ?_
        refine ez_cv hBg u770 rfl rfl rfl tq_75 rfl rfl rfl (rd_hex hBg u770 (ez_K1 ?_))
        rw [ehv]
        refine ez_go (n := 4) (pc' := 200) (L' := [(3, .inl (((16) * (v)) + (hv))), (4, .inl (k)), (2, .inl (e)), (0, .inr (.inr (some (770)))), (1, .inr (.inr (some (l))))]) (st' := [.inr (.inr (some (770))), .inr (.inr (some (770)))]) rfl ?_
        refine ez_gI hBg u770 rfl rfl tq_75 rfl rfl (fun (b3 : 0 ≤ qz_I g 770 17) (b3' : qz_I g 770 17 ≤ 4200) => ?_)
        refine ez_go (n := 2) (pc' := 205) (L' := [(3, .inl (((16) * (v)) + (hv))), (4, .inl (k)), (2, .inl (e)), (0, .inr (.inr (some (770)))), (1, .inr (.inr (some (l))))]) (st' := [.inl ((qz_I g 770 17) + (1)), .inr (.inr (some (770)))]) rfl ?_
        refine ez_pf hBg u770 rfl rfl tq_75 rfl rfl rfl rfl (ez_vdI rfl rfl (by omega) (by omega)) (fun hB4 w5 => ?_)
        refine ez_go (n := 2) (pc' := 166) (L' := [(4, .inl (k + 1)), (3, .inl (((16) * (v)) + (hv))), (2, .inl (e)), (0, .inr (.inr (some (770)))), (1, .inr (.inr (some (l))))]) (st' := []) rfl ?_
        exfalso; omega
  | succ n ih =>
    intro k v g hn hBg hm k0' k4 v0 hv2 hat h17 hdg
    have h18 : qz_I g 770 18 = qz_I h 770 18 := hm.2 18 (by decide)
    have c1 := hm.1.1; have c2 := hm.1.2.1
    have s18 : qz_I g 770 18 ≤ 4096 := (ez_fB (cl := 11) (k := 18) hBg u770 tq_75 rfl rfl (by decide)).2
    refine ez_go (n := 2) (pc' := 169) (L' := [(4, .inl (k)), (3, .inl (v)), (2, .inl (e)), (0, .inr (.inr (some (770)))), (1, .inr (.inr (some (l))))]) (st' := [.inl (4), .inl (k)]) rfl ?_
    refine ez_icmp rfl rfl ⟨by first | omega | exact (sz_i32 _).1, by first | omega | exact (sz_i32 _).2⟩ ⟨by first | omega | exact (sz_i32 _).1, by first | omega | exact (sz_i32 _).2⟩ (fun (c1 : (4) ≤ (k)) => ?_) (fun (c1 : ¬((4) ≤ (k))) => ?_)
    · skip
      refine ez_less [(3, .inl (v)), (2, .inl (e)), (0, .inr (.inr (some (770)))), (1, .inr (.inr (some (l))))] rfl ⟨rfl, rfl, rfl, rfl, trivial⟩ ?_
      have ek : k = 4 := by omega
      rw [ek] at hv2
      exact kx g v hBg hm v0 (by have q : (16 ^ (4 : Int).toNat : Nat) = 65536 := (by decide); rw [q] at hv2; omega) hat (by omega) (rz_hex_ok _ 4 p0 0 (by omega) (fun j j1 j2 => hdg j j1 (by omega)))
    · skip
      refine ez_go (n := 2) (pc' := 174) (L' := [(4, .inl (k)), (3, .inl (v)), (2, .inl (e)), (0, .inr (.inr (some (770)))), (1, .inr (.inr (some (l))))]) (st' := [.inr (.inr (some (770))), .inr (.inr (some (770)))]) rfl ?_
      refine ez_cv hBg u770 rfl rfl rfl tq_75 rfl rfl rfl (rd_hex hBg u770 (ez_K1 ?_))
      have hb : -1 ≤ mh (mk (mb g) (qz_I g 770 17) (qz_I g 770 18)) ∧ mh (mk (mb g) (qz_I g 770 17) (qz_I g 770 18)) ≤ 15 := by unfold mh; split <;> (try split) <;> omega
      have hlt : 0 ≤ mh (mk (mb g) (qz_I g 770 17) (qz_I g 770 18)) → qz_I g 770 17 < qz_I g 770 18 := fun w => by by_cases e : qz_I g 770 17 < qz_I g 770 18; (· exact e); (· exfalso; rw [mk_out e] at w; exact absurd w (by decide))
      generalize ehv : mh (mk (mb g) (qz_I g 770 17) (qz_I g 770 18)) = hv at hb hlt ⊢
      refine ez_if rfl rfl ⟨by first | omega | exact (sz_i32 _).1, by first | omega | exact (sz_i32 _).2⟩ (fun (c2 : (hv) < (0)) => ?_) (fun (c2 : ¬((hv) < (0))) => ?_)
      · skip
        refine ez_go (n := 1) (pc' := 185) (L' := [(4, .inl (k)), (3, .inl (v)), (2, .inl (e)), (0, .inr (.inr (some (770)))), (1, .inr (.inr (some (l))))]) (st' := [.inl (0), .inr (.inr (some (770)))]) rfl ?_
        refine ez_cv hBg u770 rfl rfl rfl tq_75 rfl rfl rfl (rd_can0 (by omega) (by omega) (ez_Kp (xc_exc hBg rfl) rfl (k0 g hBg hm (fun w => by have q1 := rz_hex_all _ _ _ _ w.2 (p0 + k) (by omega) (by omega); rw [mk_in (by omega), hm.b, h17] at ehv; omega))))
      · skip
        refine ez_go (n := 2) (pc' := 185) (L' := [(4, .inl (k)), (3, .inl (v)), (2, .inl (e)), (0, .inr (.inr (some (770)))), (1, .inr (.inr (some (l))))]) (st' := [.inl (1), .inr (.inr (some (770)))]) rfl ?_
        refine ez_cv hBg u770 rfl rfl rfl tq_75 rfl rfl rfl (rd_can1 (by omega) (by omega) (ez_K0 ?_))
        refine ez_go (n := 4) (pc' := 193) (L' := [(4, .inl (k)), (3, .inl (v)), (2, .inl (e)), (0, .inr (.inr (some (770)))), (1, .inr (.inr (some (l))))]) (st' := [.inr (.inr (some (770))), .inl ((16) * (v))]) rfl ?_
        refine ez_cv hBg u770 rfl rfl rfl tq_75 rfl rfl rfl (rd_hex hBg u770 (ez_K1 ?_))
        rw [ehv]
        refine ez_go (n := 4) (pc' := 200) (L' := [(3, .inl (((16) * (v)) + (hv))), (4, .inl (k)), (2, .inl (e)), (0, .inr (.inr (some (770)))), (1, .inr (.inr (some (l))))]) (st' := [.inr (.inr (some (770))), .inr (.inr (some (770)))]) rfl ?_
        refine ez_gI hBg u770 rfl rfl tq_75 rfl rfl (fun (b3 : 0 ≤ qz_I g 770 17) (b3' : qz_I g 770 17 ≤ 4200) => ?_)
        refine ez_go (n := 2) (pc' := 205) (L' := [(3, .inl (((16) * (v)) + (hv))), (4, .inl (k)), (2, .inl (e)), (0, .inr (.inr (some (770)))), (1, .inr (.inr (some (l))))]) (st' := [.inl ((qz_I g 770 17) + (1)), .inr (.inr (some (770)))]) rfl ?_
        refine ez_pf hBg u770 rfl rfl tq_75 rfl rfl rfl rfl (ez_vdI rfl rfl (by omega) (by omega)) (fun hB4 w5 => ?_)
        refine ez_go (n := 2) (pc' := 166) (L' := [(4, .inl (k + 1)), (3, .inl (((16) * (v)) + (hv))), (2, .inl (e)), (0, .inr (.inr (some (770)))), (1, .inr (.inr (some (l))))]) (st' := []) rfl ?_
        refine ez_less [(4, .inl (k + 1)), (3, .inl (16 * v + hv)), (2, .inl (e)), (0, .inr (.inr (some (770)))), (1, .inr (.inr (some (l))))] rfl ⟨rfl, rfl, rfl, rfl, rfl, trivial⟩ ?_
        have e17 : qz_I (dz_put g 770 17 (ez_v (.inl ((qz_I g 770 17) + (1))))) 770 17 = qz_I g 770 17 + 1 := by rw [w5, rz_rd ⟨by omega, by omega⟩]
        have e18 : qz_I (dz_put g 770 17 (ez_v (.inl ((qz_I g 770 17) + (1))))) 770 18 = qz_I g 770 18 := ez_put_I (by omega)
        refine ih (k + 1) (16 * v + hv) _ (by omega) hB4 (hm.trans mz_put) (by omega) (by omega) (by omega) (by rw [show (k + 1).toNat = k.toNat + 1 by omega, Nat.pow_succ]; generalize (16 ^ k.toNat : Nat) = P at hv2 ⊢; omega) (by rw [e17, e18]; omega) (by rw [e17]; omega) (fun j j1 j2 => by by_cases ej : j = p0 + k; (· rw [ej]; rw [mk_in (hlt (by omega)), hm.b, h17] at ehv; omega); (· exact hdg j j1 (by omega)))

end EzCo
