/-! The class: texts made by FORMS, by parts, by points. (Written by wip/p2/py/pvt5.py.) -/
section EzNf
variable {d : Nat} {h : cz_H} {τ : Nat → Nat} {Q : cz_F → Prop} {T : Int → Nat} {F : rz_W} {E : Int → Prop} {r : Nat} {l : List Int}
theorem co_keep {g : cz_H} (hC : pz_C τ h T F E) (tr : τ r = 1) (f : ez_fr (co_P r) h g) {q : Nat} (q1 : τ q ≠ 1) (q2 : τ q ≠ 2) (q6 : τ q < 62 ∨ 64 < τ q) : g.2.2 q = h.2.2 q := f.2.2 q (co_Pn (fun e => q1 (by rw [e]; exact tr)) (fun e => q2 (by rw [e]; exact tx_p1 hC.1 tr)) (by
  by_cases e : 730 ≤ q ∧ q ≤ 732
  · have : q = 730 ∨ q = 731 ∨ q = 732 := by omega
    have t0 : τ 730 = 62 := hC.2.1 730 (by decide)
    have t1 : τ 731 = 63 := hC.2.1 731 (by decide)
    have t2 : τ 732 = 64 := hC.2.1 732 (by decide)
    rcases this with e | e | e <;> (subst e; omega)
  · omega))
theorem co_kD {g : cz_H} (hC : pz_C τ h T F E) (tr : τ r = 1) (f : ez_fr (co_P r) h g) : ∀ q, kD (τ q) = true → g.2.2 q = h.2.2 q := fun q hq => co_keep hC tr f (fun e => by rw [e] at hq; cases hq) (fun e => by rw [e] at hq; cases hq) (by
  by_cases e : 62 ≤ τ q ∧ τ q ≤ 64
  · have : τ q = 62 ∨ τ q = 63 ∨ τ q = 64 := by omega
    rcases this with e | e | e <;> (rw [e] at hq; cases hq)
  · omega)
theorem tx_co {z : Nat} (h : tx_P r z = true) : co_P r z = true := by
  unfold tx_P at h
  rcases Bool.or_eq_true_iff.mp h with w | w
  · rw [Nat.eq_of_beq_eq_true w]; exact co_Pr r
  · rw [Nat.eq_of_beq_eq_true w]; exact co_Ps (so_Pp (r + 1))
theorem kok_ptl {K : List (Int × Int)} (h : kok F K) : ptl (K.map Prod.fst) := fun v hv => by
  obtain ⟨z, z1, z2⟩ := List.mem_map.mp hv
  rw [← z2]; exact (h z z1).1
theorem prs_tx {g : cz_H} {K : List (Int × Int)} (hp : prs g (r + 1) K) (hl : qz_I g r 1 = (K.length : Int)) : tx g r (K.map Prod.fst) := ⟨by rw [hl, List.length_map], fun j v hv => by
  rw [List.getElem?_map] at hv
  obtain ⟨z, z1, z2⟩ := Option.map_eq_some_iff.mp hv
  rw [← z2]; exact (hp j z z1).1⟩
theorem rd_finish_l {fm : Int} (hC : pz_C τ h T F E) (hw : uz_wf F) (cp : cP h F E) (tr : τ r = 1) (nr : r < 730 ∨ 732 < r) (a : tx h r l) (pl : ptl l) (fr : 0 ≤ fm ∧ fm ≤ 3) (kx : ∀ g, ez_B τ g → ez_fr (ez_one 730) h g → (∀ (j : Nat) v, l[j]? = some v → qz_I g 730 j = (F v).1) → ez_W (d + 4) cm_140 35 [(0, .inr (.inr (some (729)))), (1, .inr (.inr (some (r)))), (2, .inl (fm))] [] g Q) : ∀ (m : Nat) (i : Int) (g : cz_H), m = ((l.length : Int) - i).toNat → 0 ≤ i → i ≤ (l.length : Int) → ez_B τ g → ez_fr (ez_one 730) h g → (∀ (j : Nat) v, (j : Int) < i → l[j]? = some v → qz_I g 730 j = (F v).1) → ez_W (d + 4) cm_140 2 [(3, .inl (i)), (0, .inr (.inr (some (729)))), (1, .inr (.inr (some (r)))), (2, .inl (fm))] [] g Q := by
  have t729 : τ 729 = 61 := hC.2.1 729 (by decide)
  have t730 : τ 730 = 62 := hC.2.1 730 (by decide)
  have t731 : τ 731 = 63 := hC.2.1 731 (by decide)
  have t732 : τ 732 = 64 := hC.2.1 732 (by decide)
  have t202 : τ 202 = 48 := hC.2.1 202 (by decide)
  have tp := tx_p1 hC.1 tr
  have np0 : r + 1 ≠ 730 := fun e => by rw [e, t730] at tp; cases tp
  have np1 : r ≠ 730 := fun e => by rw [e, t730] at tr; cases tr
  have hb := tx_l1 hC.1 tr
  have al := a.1
  intro m
  induction m with
  | zero =>
    intro i g hm i0 i1 hBg hf he
    have cr : ∀ j, qz_I g r j = qz_I h r j := fun j => hf.I (dz_beq_ne np1) j
    have cr1 := cr 1
    have cp1 : ∀ j, qz_I g (r + 1) j = qz_I h (r + 1) j := fun j => hf.I (dz_beq_ne np0) j
    refine ez_go (n := 2) (pc' := 4) (L' := [(3, .inl (i)), (0, .inr (.inr (some (729)))), (1, .inr (.inr (some (r)))), (2, .inl (fm))]) (st' := [.inr (.inr (some (r))), .inl (i)]) rfl ?_
    refine ez_gI hBg tr rfl rfl tq_1 rfl rfl (fun (b1 : 0 ≤ qz_I g r 1) (b1' : qz_I g r 1 ≤ 2000) => ?_)
    refine ez_icmp rfl rfl ⟨by first | omega | exact (sz_i32 _).1, by first | omega | exact (sz_i32 _).2⟩ ⟨by first | omega | exact (sz_i32 _).1, by first | omega | exact (sz_i32 _).2⟩ (fun (c2 : (qz_I g r 1) ≤ (i)) => ?_) (fun (c2 : ¬((qz_I g r 1) ≤ (i))) => ?_)
    · skip
      refine ez_less [(0, .inr (.inr (some (729)))), (1, .inr (.inr (some (r)))), (2, .inl (fm))] rfl ⟨rfl, rfl, rfl, trivial⟩ ?_
      exact kx g hBg hf (fun j v hv => he j v (by have := (List.getElem?_eq_some_iff.mp hv).1; omega) hv)
    · exfalso; omega
  | succ m ih =>
    intro i g hm i0 i1 hBg hf he
    have cr : ∀ j, qz_I g r j = qz_I h r j := fun j => hf.I (dz_beq_ne np1) j
    have cr1 := cr 1
    have cp1 : ∀ j, qz_I g (r + 1) j = qz_I h (r + 1) j := fun j => hf.I (dz_beq_ne np0) j
    refine ez_go (n := 2) (pc' := 4) (L' := [(3, .inl (i)), (0, .inr (.inr (some (729)))), (1, .inr (.inr (some (r)))), (2, .inl (fm))]) (st' := [.inr (.inr (some (r))), .inl (i)]) rfl ?_
    refine ez_gI hBg tr rfl rfl tq_1 rfl rfl (fun (b1 : 0 ≤ qz_I g r 1) (b1' : qz_I g r 1 ≤ 2000) => ?_)
    refine ez_icmp rfl rfl ⟨by first | omega | exact (sz_i32 _).1, by first | omega | exact (sz_i32 _).2⟩ ⟨by first | omega | exact (sz_i32 _).1, by first | omega | exact (sz_i32 _).2⟩ (fun (c2 : (qz_I g r 1) ≤ (i)) => ?_) (fun (c2 : ¬((qz_I g r 1) ≤ (i))) => ?_)
    · exfalso; omega
    · skip
      refine ez_go (n := 1) (pc' := 11) (L' := [(3, .inl (i)), (0, .inr (.inr (some (729)))), (1, .inr (.inr (some (r)))), (2, .inl (fm))]) (st' := [.inr (.inr (some (729)))]) rfl ?_
      refine ez_gC (p := 730) (tg := 62) hBg t729 rfl rfl tq_61 rfl rfl (fun (t730 : _ = 62) => ?_)
      refine ez_go (n := 2) (pc' := 16) (L' := [(3, .inl (i)), (0, .inr (.inr (some (729)))), (1, .inr (.inr (some (r)))), (2, .inl (fm))]) (st' := [.inr (.inr (some (729))), .inl (i), .inr (.inr (some (730)))]) rfl ?_
      refine ez_gC (p := 202) (tg := 48) hBg t729 rfl rfl tq_61 rfl rfl (fun (t202 : _ = 48) => ?_)
      refine ez_go (n := 1) (pc' := 20) (L' := [(3, .inl (i)), (0, .inr (.inr (some (729)))), (1, .inr (.inr (some (r)))), (2, .inl (fm))]) (st' := [.inr (.inr (some (r))), .inr (.inr (some (202))), .inl (i), .inr (.inr (some (730)))]) rfl ?_
      refine ez_g3 hBg tr rfl rfl tq_1 rfl rfl (fun (t3 : _ = 2) => ?_)
      refine ez_go (n := 1) (pc' := 24) (L' := [(3, .inl (i)), (0, .inr (.inr (some (729)))), (1, .inr (.inr (some (r)))), (2, .inl (fm))]) (st' := [.inl (i), .inr (.inr (some (r + 1))), .inr (.inr (some (202))), .inl (i), .inr (.inr (some (730)))]) rfl ?_
      have n5 : 2000 ≤ qz_N g (r + 1) ∧ qz_N g (r + 1) ≤ 2000 := ez_len hBg t3 tq_2 rfl
      refine ez_aI hBg t3 rfl tq_2 rfl rfl (by omega) (by omega) (fun (b4 : -2147483648 ≤ qz_I g (r + 1) (i).toNat) (b4' : qz_I g (r + 1) (i).toNat ≤ 2147483647) => ?_)
      have l9 : i.toNat < l.length := by omega
      have ev := a.2 _ _ (List.getElem?_eq_getElem l9)
      have vb := ptl_at pl (List.getElem?_eq_getElem l9)
      have hCg : pz_C τ g T F E := hC.keep hBg (fun q hq => hf.2.2 q (dz_beq_ne (fun e => by rw [e, t730] at hq; cases hq)))
      rw [show qz_I g (r + 1) (i).toNat = l[i.toNat] from (cp1 _).trans ev]
      have vr := pz_rg hC vb.1 vb.2
      obtain ⟨vr1, vr2⟩ := id vr
      refine ez_cv hBg t202 rfl rfl rfl tq_48 rfl rfl rfl (rd_classOf hCg vb.1 vb.2 (ez_K1 ?_))
      have n8 : 2000 ≤ qz_N g 730 ∧ qz_N g 730 ≤ 2000 := ez_len hBg t730 tq_62 rfl
      refine ez_as hBg t730 rfl tq_62 rfl rfl (by omega) (by omega) (ez_vdI rfl rfl (by omega) (by omega)) (fun hB6 w7 => ?_)
      refine ez_go (n := 2) (pc' := 2) (L' := [(3, .inl (i + 1)), (0, .inr (.inr (some (729)))), (1, .inr (.inr (some (r)))), (2, .inl (fm))]) (st' := []) rfl ?_
      refine ez_less [(3, .inl (i + 1)), (0, .inr (.inr (some (729)))), (1, .inr (.inr (some (r)))), (2, .inl (fm))] rfl ⟨rfl, rfl, rfl, rfl, trivial⟩ ?_
      refine ih (i + 1) _ (by omega) (by omega) (by omega) hB6 (hf.put (show Nat.beq 730 730 = true from rfl) _ _) (fun j v hj hv => ?_)
      by_cases ej : (j : Int) = i
      · have e9 : j = i.toNat := by omega
        subst e9
        rw [List.getElem?_eq_getElem l9] at hv
        cases hv
        rw [w7]; exact ez_rg.v vr
      · rw [ez_put_I (fun w => by omega)]; exact he j v (by omega) hv
theorem rd_finish_e {fm : Int} (hC : pz_C τ h T F E) (hw : uz_wf F) (cp : cP h F E) (tr : τ r = 1) (nr : r < 730 ∨ 732 < r) (a : tx h r l) (pl : ptl l) (fr : 0 ≤ fm ∧ fm ≤ 3) {g : cz_H} (hBg : ez_B τ g) (hf : ez_fr (ez_one 730) h g) (he : ∀ (j : Nat) v, l[j]? = some v → qz_I g 730 j = (F v).1) (k : ∀ g res, ez_B τ g → ez_fr (co_P r) h g → nfR F E fm l res → ptl res → tx g r res → Q (.inl (some (ez_v (.inl 1))), g)) : ez_W (d + 4) cm_140 35 [(0, .inr (.inr (some (729)))), (1, .inr (.inr (some (r)))), (2, .inl (fm))] [] g Q := by
  have t729 : τ 729 = 61 := hC.2.1 729 (by decide)
  have t730 : τ 730 = 62 := hC.2.1 730 (by decide)
  have t731 : τ 731 = 63 := hC.2.1 731 (by decide)
  have t732 : τ 732 = 64 := hC.2.1 732 (by decide)
  have t202 : τ 202 = 48 := hC.2.1 202 (by decide)
  have tp := tx_p1 hC.1 tr
  have np0 : r + 1 ≠ 730 := fun e => by rw [e, t730] at tp; cases tp
  have np1 : r ≠ 730 := fun e => by rw [e, t730] at tr; cases tr
  have hb := tx_l1 hC.1 tr
  have al := a.1
  have t723 : τ 723 = 55 := hC.2.1 723 (by decide)
  have t727 : τ 727 = 59 := hC.2.1 727 (by decide)
  have t728 : τ 728 = 60 := hC.2.1 728 (by decide)
  refine ez_go (n := 2) (pc' := 37) (L' := [(0, .inr (.inr (some (729)))), (1, .inr (.inr (some (r)))), (2, .inl (fm))]) (st' := [.inr (.inr (some (r))), .inr (.inr (some (729)))]) rfl ?_
  have cr1 : qz_I g r 1 = qz_I h r 1 := hf.I (dz_beq_ne np1) 1
  have zll := zl_len F l
  have okz := kok_zl (F := F) pl
  have hp : prs g (r + 1) (zl F l) := fun j z hz => by obtain ⟨z1, z2⟩ := zl_at hz; exact ⟨(hf.I (dz_beq_ne np0) j).trans (a.2 j _ z1), by rw [z2]; exact he j _ z1⟩
  refine ez_cv hBg t729 rfl rfl rfl tq_61 rfl rfl rfl (rd_putInOrder (L := zl F l) (h := g) t729 t730 t731 t732 tr nr (by omega) (fun z hz => ⟨⟨by have := (okz z hz).1; omega, by have := (okz z hz).1; omega⟩, by have q := okz z hz; rw [q.2]; exact pz_rg hC q.1.1 q.1.2⟩) (fun z hz => by rw [(okz z hz).2]; exact (hw _).1) (by omega) hBg hp (fun g2 hB2 f2 p2 => ez_K0 ?_))
  have f3 : ez_fr (co_P r) h g2 := (ez_fr_mono hf (fun z hz => by unfold ez_one at hz; rw [Nat.eq_of_beq_eq_true hz]; exact co_Ps (so_Po (by decide)))).trans (ez_fr_mono f2 (fun z hz => co_Ps hz))
  have l2 : qz_I g2 r 1 = ((os_srt (zl F l)).length : Int) := by rw [os_srt_len, zll, ← al, ← cr1]; exact f2.I (so_Pn (by omega) nr) 1
  have ok2 := kok_srt okz
  refine ez_go (n := 2) (pc' := 42) (L' := [(0, .inr (.inr (some (729)))), (1, .inr (.inr (some (r)))), (2, .inl (fm))]) (st' := [.inl (2), .inl (fm)]) rfl ?_
  refine ez_icmp rfl rfl ⟨by first | omega | exact (sz_i32 _).1, by first | omega | exact (sz_i32 _).2⟩ ⟨by first | omega | exact (sz_i32 _).1, by first | omega | exact (sz_i32 _).2⟩ (fun (c1 : (fm) = (2)) => ?_) (fun (c1 : ¬((fm) = (2))) => ?_)
  · skip
    refine ez_go (n := 2) (pc' := 52) (L' := [(0, .inr (.inr (some (729)))), (1, .inr (.inr (some (r)))), (2, .inl (fm))]) (st' := [.inr (.inr (some (r))), .inr (.inr (some (729)))]) rfl ?_
    refine ez_cv hB2 t729 rfl rfl rfl tq_61 rfl rfl rfl (rd_compose (L := os_srt (zl F l)) (h := g2) (hC.keep hB2 (co_kD hC tr f3)) hw (cp.keep (co_keep hC tr f3 (by rw [t723]; decide) (by rw [t723]; decide) (by rw [t723]; decide)) (co_keep hC tr f3 (by rw [t727]; decide) (by rw [t727]; decide) (by rw [t727]; decide)) (co_keep hC tr f3 (by rw [t728]; decide) (by rw [t728]; decide) (by rw [t728]; decide))) tr nr l2 ok2 p2 (fun g4 K hB4 f4 kc okK tK => ez_K0 ?_))
    refine ez_go (n := 1) (pc' := 56) (L' := [(0, .inr (.inr (some (729)))), (1, .inr (.inr (some (r)))), (2, .inl (fm))]) (st' := [.inl (1)]) rfl ?_
    exact ez_retZ rfl rfl (by decide) (k g4 _ hB4 (f3.trans f4) ⟨K, by rw [if_pos (by omega)]; exact kc, rfl⟩ (kok_ptl okK) tK)
  · skip
    refine ez_go (n := 2) (pc' := 47) (L' := [(0, .inr (.inr (some (729)))), (1, .inr (.inr (some (r)))), (2, .inl (fm))]) (st' := [.inl (3), .inl (fm)]) rfl ?_
    refine ez_icmp rfl rfl ⟨by first | omega | exact (sz_i32 _).1, by first | omega | exact (sz_i32 _).2⟩ ⟨by first | omega | exact (sz_i32 _).1, by first | omega | exact (sz_i32 _).2⟩ (fun (c2 : (fm) ≠ (3)) => ?_) (fun (c2 : ¬((fm) ≠ (3))) => ?_)
    · skip
      refine ez_go (n := 1) (pc' := 56) (L' := [(0, .inr (.inr (some (729)))), (1, .inr (.inr (some (r)))), (2, .inl (fm))]) (st' := [.inl (1)]) rfl ?_
      exact ez_retZ rfl rfl (by decide) (k g2 _ hB2 f3 ⟨os_srt (zl F l), by rw [if_neg (by omega)], rfl⟩ (kok_ptl ok2) (prs_tx p2 l2))
    · skip
      refine ez_go (n := 2) (pc' := 52) (L' := [(0, .inr (.inr (some (729)))), (1, .inr (.inr (some (r)))), (2, .inl (fm))]) (st' := [.inr (.inr (some (r))), .inr (.inr (some (729)))]) rfl ?_
      refine ez_cv hB2 t729 rfl rfl rfl tq_61 rfl rfl rfl (rd_compose (L := os_srt (zl F l)) (h := g2) (hC.keep hB2 (co_kD hC tr f3)) hw (cp.keep (co_keep hC tr f3 (by rw [t723]; decide) (by rw [t723]; decide) (by rw [t723]; decide)) (co_keep hC tr f3 (by rw [t727]; decide) (by rw [t727]; decide) (by rw [t727]; decide)) (co_keep hC tr f3 (by rw [t728]; decide) (by rw [t728]; decide) (by rw [t728]; decide))) tr nr l2 ok2 p2 (fun g4 K hB4 f4 kc okK tK => ez_K0 ?_))
      refine ez_go (n := 1) (pc' := 56) (L' := [(0, .inr (.inr (some (729)))), (1, .inr (.inr (some (r)))), (2, .inl (fm))]) (st' := [.inl (1)]) rfl ?_
      exact ez_retZ rfl rfl (by decide) (k g4 _ hB4 (f3.trans f4) ⟨K, by rw [if_pos (by omega)]; exact kc, rfl⟩ (kok_ptl okK) tK)

theorem rd_finish {fm : Int} (hC : pz_C τ h T F E) (hw : uz_wf F) (cp : cP h F E) (tr : τ r = 1) (nr : r < 730 ∨ 732 < r) (a : tx h r l) (pl : ptl l) (fr : 0 ≤ fm ∧ fm ≤ 3) (k : ∀ g res, ez_B τ g → ez_fr (co_P r) h g → nfR F E fm l res → ptl res → tx g r res → Q (.inl (some (ez_v (.inl 1))), g)) : ez_W (d + 4) cm_140 0 [(0, .inr (.inr (some (729)))), (1, .inr (.inr (some (r)))), (2, .inl (fm))] [] h Q := by
  have t729 : τ 729 = 61 := hC.2.1 729 (by decide)
  have t730 : τ 730 = 62 := hC.2.1 730 (by decide)
  have t731 : τ 731 = 63 := hC.2.1 731 (by decide)
  have t732 : τ 732 = 64 := hC.2.1 732 (by decide)
  have t202 : τ 202 = 48 := hC.2.1 202 (by decide)
  have tp := tx_p1 hC.1 tr
  have np0 : r + 1 ≠ 730 := fun e => by rw [e, t730] at tp; cases tp
  have np1 : r ≠ 730 := fun e => by rw [e, t730] at tr; cases tr
  have hb := tx_l1 hC.1 tr
  have al := a.1
  refine ez_go (n := 2) (pc' := 2) (L' := [(3, .inl (0)), (0, .inr (.inr (some (729)))), (1, .inr (.inr (some (r)))), (2, .inl (fm))]) (st' := []) rfl ?_
  refine ez_less [(3, .inl (0)), (0, .inr (.inr (some (729)))), (1, .inr (.inr (some (r)))), (2, .inl (fm))] rfl ⟨rfl, rfl, rfl, rfl, trivial⟩ ?_
  exact rd_finish_l (h := h) hC hw cp tr nr a pl fr (fun g hBg hf he => rd_finish_e hC hw cp tr nr a pl fr hBg hf he k) _ 0 h rfl (by omega) (by omega) hC.1 (ez_fr.refl _ _) (fun j v hj => by omega)

/-- a text made empty -/
theorem tx_nil {g : cz_H} (e : qz_I g r 1 = 0) : tx g r [] := ⟨e, fun j v hv => by cases hv⟩
theorem rd_convs {q : Nat} {u : List Int} {fm : Int} (hC : pz_C τ h T F E) (fd : fD h T F) (hw : uz_wf F) (cp : cP h F E) (tr : τ r = 1) (nr : r < 730 ∨ 732 < r) (tq : τ q = 88) (qr : q ≠ r) (uq : tx h q u) (up : ptl u) (fr : 0 ≤ fm ∧ fm ≤ 3) (k1 : ∀ m res, uz_FL F (decide (fm = 1 ∨ fm = 3)) (u) m → m.length ≤ 2000 → nfR F E fm m res → ptl res → ∀ g, ez_B τ g → ez_fr (co_P r) h g → tx g r res → Q (.inl (some (ez_v (.inl 1))), g)) (k0 : ∀ m, uz_FL F (decide (fm = 1 ∨ fm = 3)) (u) m → 2000 < m.length → ∀ g, ez_B τ g → ez_fr (co_P r) h g → Q (.inl (some (ez_v (.inl 0))), g)) : ez_W (d + 5) cm_137 0 [(0, .inr (.inr (some (729)))), (1, .inr (.inr (some (q)))), (2, .inr (.inr (some (r)))), (3, .inl (fm))] [] h Q := by
  have t729 : τ 729 = 61 := hC.2.1 729 (by decide)
  have t723 : τ 723 = 55 := hC.2.1 723 (by decide)
  have t724 : τ 724 = 56 := hC.2.1 724 (by decide)
  have t727 : τ 727 = 59 := hC.2.1 727 (by decide)
  have t728 : τ 728 = 60 := hC.2.1 728 (by decide)
  refine ez_go (n := 2) (pc' := 2) (L' := [(0, .inr (.inr (some (729)))), (1, .inr (.inr (some (q)))), (2, .inr (.inr (some (r)))), (3, .inl (fm))]) (st' := [.inl (0), .inr (.inr (some (r)))]) rfl ?_
  refine ez_pf hC.1 tr rfl rfl tq_1 rfl rfl rfl rfl (ez_vdI rfl rfl (by omega) (by omega)) (fun hB1 w2 => ?_)
  have a1 : tx (dz_put h r 1 (ez_v (.inl (0)))) r [] := tx_nil (w2.trans rfl)
  have f1 : ez_fr (tx_P r) h (dz_put h r 1 (ez_v (.inl (0)))) := (ez_fr.refl (tx_P r) h).put (tx_Pa r) _ _
  have hB1 := hB1
  generalize (dz_put h r 1 (ez_v (.inl (0)))) = g1 at *
  have hC1 : pz_C τ g1 T F E := hC.keep hB1 (tx_kD hC.1 tr f1)
  have fd1 : fD g1 T F := fd.keep hC (tx_kD hC.1 tr f1) (tx_keep hC.1 tr f1 (by rw [t723]; decide) (by rw [t723]; decide)) (tx_keep hC.1 tr f1 (by rw [t724]; decide) (by rw [t724]; decide))
  have tq1 := tx_p88 hC.1 tq
  have uq1 : tx g1 q u := tx_c uq (f1.2.2 q (tx_Pn qr (fun e => by rw [e, tx_p1 hC.1 tr] at tq; cases tq))) (f1.2.2 (q + 1) (tx_Pn (fun e => by rw [e, tr] at tq1; cases tq1) (fun e => qr (by omega))))
  refine ez_go (n := 4) (pc' := 9) (L' := [(0, .inr (.inr (some (729)))), (1, .inr (.inr (some (q)))), (2, .inr (.inr (some (r)))), (3, .inl (fm))]) (st' := [.inl (fm), .inr (.inr (some (r))), .inr (.inr (some (q))), .inr (.inr (some (729)))]) rfl ?_
  refine ez_cv hB1 t729 rfl rfl rfl tq_61 rfl rfl rfl (rd_expand_s hC1 fd1 hw tr tq qr uq1 up fr a1 (fun m um lt g2 hB2 f2 a2 => ez_K1 ?_) (fun m um lt g2 hB2 f2 => ez_K1 ?_))
  · skip
    have f12 := f1.trans f2
    rw [List.nil_append] at a2
    have pm := uz_FL_ptl hw up um
    have hC2 : pz_C τ g2 T F E := hC.keep hB2 (tx_kD hC.1 tr f12)
    have cp2 : cP g2 F E := cp.keep (tx_keep hC.1 tr f12 (by rw [t723]; decide) (by rw [t723]; decide)) (tx_keep hC.1 tr f12 (by rw [t727]; decide) (by rw [t727]; decide)) (tx_keep hC.1 tr f12 (by rw [t728]; decide) (by rw [t728]; decide))
    refine ez_if rfl rfl ⟨by decide, by decide⟩ (fun (c3 : (1 : Int) = (0)) => absurd c3 (by decide)) (fun _ => ?_)
    refine ez_go (n := 3) (pc' := 18) (L' := [(0, .inr (.inr (some (729)))), (1, .inr (.inr (some (q)))), (2, .inr (.inr (some (r)))), (3, .inl (fm))]) (st' := [.inl (fm), .inr (.inr (some (r))), .inr (.inr (some (729)))]) rfl ?_
    refine ez_cv hB2 t729 rfl rfl rfl tq_61 rfl rfl rfl (rd_finish (h := g2) hC2 hw cp2 tr nr a2 pm fr (fun g4 res hB4 f4 nf pr t4 => ez_K1 ?_))
    refine ez_if rfl rfl ⟨by decide, by decide⟩ (fun (c4 : (1 : Int) = (0)) => absurd c4 (by decide)) (fun _ => ?_)
    refine ez_go (n := 2) (pc' := 29) (L' := [(0, .inr (.inr (some (729)))), (1, .inr (.inr (some (q)))), (2, .inr (.inr (some (r)))), (3, .inl (fm))]) (st' := [.inl (1)]) rfl ?_
    exact ez_retZ rfl rfl (by decide) (k1 m res um (by rw [List.length_nil, Nat.zero_add] at lt; exact lt) nf pr g4 hB4 ((ez_fr_mono f12 (fun z hz => tx_co hz)).trans f4) t4)
  · skip
    have f12 := f1.trans f2
    refine ez_if rfl rfl ⟨by decide, by decide⟩ (fun _ => ?_) (fun (c5 : ¬((0 : Int) = (0))) => absurd c5 (by decide))
    refine ez_go (n := 1) (pc' := 29) (L' := [(0, .inr (.inr (some (729)))), (1, .inr (.inr (some (q)))), (2, .inr (.inr (some (r)))), (3, .inl (fm))]) (st' := [.inl (0)]) rfl ?_
    exact ez_retZ rfl rfl (by decide) (k0 m um (by rw [List.length_nil, Nat.zero_add] at lt; exact lt) g2 hB2 (ez_fr_mono f12 (fun z hz => tx_co hz)))

theorem rd_convt {q : Nat} {u : List Int} {fm : Int} (hC : pz_C τ h T F E) (fd : fD h T F) (hw : uz_wf F) (cp : cP h F E) (tr : τ r = 1) (nr : r < 730 ∨ 732 < r) (tq : τ q = 1) (qr : q ≠ r) (uq : tx h q u) (up : ptl u) (fr : 0 ≤ fm ∧ fm ≤ 3) (k1 : ∀ m res, uz_FL F (decide (fm = 1 ∨ fm = 3)) (u) m → m.length ≤ 2000 → nfR F E fm m res → ptl res → ∀ g, ez_B τ g → ez_fr (co_P r) h g → tx g r res → Q (.inl (some (ez_v (.inl 1))), g)) (k0 : ∀ m, uz_FL F (decide (fm = 1 ∨ fm = 3)) (u) m → 2000 < m.length → ∀ g, ez_B τ g → ez_fr (co_P r) h g → Q (.inl (some (ez_v (.inl 0))), g)) : ez_W (d + 5) cm_137 0 [(0, .inr (.inr (some (729)))), (1, .inr (.inr (some (q)))), (2, .inr (.inr (some (r)))), (3, .inl (fm))] [] h Q := by
  have t729 : τ 729 = 61 := hC.2.1 729 (by decide)
  have t723 : τ 723 = 55 := hC.2.1 723 (by decide)
  have t724 : τ 724 = 56 := hC.2.1 724 (by decide)
  have t727 : τ 727 = 59 := hC.2.1 727 (by decide)
  have t728 : τ 728 = 60 := hC.2.1 728 (by decide)
  refine ez_go (n := 2) (pc' := 2) (L' := [(0, .inr (.inr (some (729)))), (1, .inr (.inr (some (q)))), (2, .inr (.inr (some (r)))), (3, .inl (fm))]) (st' := [.inl (0), .inr (.inr (some (r)))]) rfl ?_
  refine ez_pf hC.1 tr rfl rfl tq_1 rfl rfl rfl rfl (ez_vdI rfl rfl (by omega) (by omega)) (fun hB1 w2 => ?_)
  have a1 : tx (dz_put h r 1 (ez_v (.inl (0)))) r [] := tx_nil (w2.trans rfl)
  have f1 : ez_fr (tx_P r) h (dz_put h r 1 (ez_v (.inl (0)))) := (ez_fr.refl (tx_P r) h).put (tx_Pa r) _ _
  have hB1 := hB1
  generalize (dz_put h r 1 (ez_v (.inl (0)))) = g1 at *
  have hC1 : pz_C τ g1 T F E := hC.keep hB1 (tx_kD hC.1 tr f1)
  have fd1 : fD g1 T F := fd.keep hC (tx_kD hC.1 tr f1) (tx_keep hC.1 tr f1 (by rw [t723]; decide) (by rw [t723]; decide)) (tx_keep hC.1 tr f1 (by rw [t724]; decide) (by rw [t724]; decide))
  have tq1 := tx_p1 hC.1 tq
  have uq1 : tx g1 q u := tx_c uq (f1.2.2 q (tx_Pn qr (fun e => by rw [e, tx_p1 hC.1 tr] at tq; cases tq))) (f1.2.2 (q + 1) (tx_Pn (fun e => by rw [e, tr] at tq1; cases tq1) (fun e => qr (by omega))))
  refine ez_go (n := 4) (pc' := 9) (L' := [(0, .inr (.inr (some (729)))), (1, .inr (.inr (some (q)))), (2, .inr (.inr (some (r)))), (3, .inl (fm))]) (st' := [.inl (fm), .inr (.inr (some (r))), .inr (.inr (some (q))), .inr (.inr (some (729)))]) rfl ?_
  refine ez_cv hB1 t729 rfl rfl rfl tq_61 rfl rfl rfl (rd_expand_t hC1 fd1 hw tr tq qr uq1 up fr a1 (fun m um lt g2 hB2 f2 a2 => ez_K1 ?_) (fun m um lt g2 hB2 f2 => ez_K1 ?_))
  · skip
    have f12 := f1.trans f2
    rw [List.nil_append] at a2
    have pm := uz_FL_ptl hw up um
    have hC2 : pz_C τ g2 T F E := hC.keep hB2 (tx_kD hC.1 tr f12)
    have cp2 : cP g2 F E := cp.keep (tx_keep hC.1 tr f12 (by rw [t723]; decide) (by rw [t723]; decide)) (tx_keep hC.1 tr f12 (by rw [t727]; decide) (by rw [t727]; decide)) (tx_keep hC.1 tr f12 (by rw [t728]; decide) (by rw [t728]; decide))
    refine ez_if rfl rfl ⟨by decide, by decide⟩ (fun (c3 : (1 : Int) = (0)) => absurd c3 (by decide)) (fun _ => ?_)
    refine ez_go (n := 3) (pc' := 18) (L' := [(0, .inr (.inr (some (729)))), (1, .inr (.inr (some (q)))), (2, .inr (.inr (some (r)))), (3, .inl (fm))]) (st' := [.inl (fm), .inr (.inr (some (r))), .inr (.inr (some (729)))]) rfl ?_
    refine ez_cv hB2 t729 rfl rfl rfl tq_61 rfl rfl rfl (rd_finish (h := g2) hC2 hw cp2 tr nr a2 pm fr (fun g4 res hB4 f4 nf pr t4 => ez_K1 ?_))
    refine ez_if rfl rfl ⟨by decide, by decide⟩ (fun (c4 : (1 : Int) = (0)) => absurd c4 (by decide)) (fun _ => ?_)
    refine ez_go (n := 2) (pc' := 29) (L' := [(0, .inr (.inr (some (729)))), (1, .inr (.inr (some (q)))), (2, .inr (.inr (some (r)))), (3, .inl (fm))]) (st' := [.inl (1)]) rfl ?_
    exact ez_retZ rfl rfl (by decide) (k1 m res um (by rw [List.length_nil, Nat.zero_add] at lt; exact lt) nf pr g4 hB4 ((ez_fr_mono f12 (fun z hz => tx_co hz)).trans f4) t4)
  · skip
    have f12 := f1.trans f2
    refine ez_if rfl rfl ⟨by decide, by decide⟩ (fun _ => ?_) (fun (c5 : ¬((0 : Int) = (0))) => absurd c5 (by decide))
    refine ez_go (n := 1) (pc' := 29) (L' := [(0, .inr (.inr (some (729)))), (1, .inr (.inr (some (q)))), (2, .inr (.inr (some (r)))), (3, .inl (fm))]) (st' := [.inl (0)]) rfl ?_
    exact ez_retZ rfl rfl (by decide) (k0 m um (by rw [List.length_nil, Nat.zero_add] at lt; exact lt) g2 hB2 (ez_fr_mono f12 (fun z hz => tx_co hz)))

theorem rd_conv2s {q q2 : Nat} {u u2 : List Int} {fm : Int} (hC : pz_C τ h T F E) (fd : fD h T F) (hw : uz_wf F) (cp : cP h F E) (tr : τ r = 1) (nr : r < 730 ∨ 732 < r) (tq : τ q = 88) (qr : q ≠ r) (uq : tx h q u) (up : ptl u) (tq2 : τ q2 = 88) (qr2 : q2 ≠ r) (uq2 : tx h q2 u2) (up2 : ptl u2) (fr : 0 ≤ fm ∧ fm ≤ 3) (k1 : ∀ m res, uz_FL F (decide (fm = 1 ∨ fm = 3)) (u ++ u2) m → m.length ≤ 2000 → nfR F E fm m res → ptl res → ∀ g, ez_B τ g → ez_fr (co_P r) h g → tx g r res → Q (.inl (some (ez_v (.inl 1))), g)) (k0 : ∀ m, uz_FL F (decide (fm = 1 ∨ fm = 3)) (u ++ u2) m → 2000 < m.length → ∀ g, ez_B τ g → ez_fr (co_P r) h g → Q (.inl (some (ez_v (.inl 0))), g)) : ez_W (d + 5) cm_138 0 [(0, .inr (.inr (some (729)))), (1, .inr (.inr (some (q)))), (2, .inr (.inr (some (q2)))), (3, .inr (.inr (some (r)))), (4, .inl (fm))] [] h Q := by
  have t729 : τ 729 = 61 := hC.2.1 729 (by decide)
  have t723 : τ 723 = 55 := hC.2.1 723 (by decide)
  have t724 : τ 724 = 56 := hC.2.1 724 (by decide)
  have t727 : τ 727 = 59 := hC.2.1 727 (by decide)
  have t728 : τ 728 = 60 := hC.2.1 728 (by decide)
  refine ez_go (n := 2) (pc' := 2) (L' := [(0, .inr (.inr (some (729)))), (1, .inr (.inr (some (q)))), (2, .inr (.inr (some (q2)))), (3, .inr (.inr (some (r)))), (4, .inl (fm))]) (st' := [.inl (0), .inr (.inr (some (r)))]) rfl ?_
  refine ez_pf hC.1 tr rfl rfl tq_1 rfl rfl rfl rfl (ez_vdI rfl rfl (by omega) (by omega)) (fun hB1 w2 => ?_)
  have a1 : tx (dz_put h r 1 (ez_v (.inl (0)))) r [] := tx_nil (w2.trans rfl)
  have f1 : ez_fr (tx_P r) h (dz_put h r 1 (ez_v (.inl (0)))) := (ez_fr.refl (tx_P r) h).put (tx_Pa r) _ _
  have hB1 := hB1
  generalize (dz_put h r 1 (ez_v (.inl (0)))) = g1 at *
  have hC1 : pz_C τ g1 T F E := hC.keep hB1 (tx_kD hC.1 tr f1)
  have fd1 : fD g1 T F := fd.keep hC (tx_kD hC.1 tr f1) (tx_keep hC.1 tr f1 (by rw [t723]; decide) (by rw [t723]; decide)) (tx_keep hC.1 tr f1 (by rw [t724]; decide) (by rw [t724]; decide))
  have tq1 := tx_p88 hC.1 tq
  have uq1 : tx g1 q u := tx_c uq (f1.2.2 q (tx_Pn qr (fun e => by rw [e, tx_p1 hC.1 tr] at tq; cases tq))) (f1.2.2 (q + 1) (tx_Pn (fun e => by rw [e, tr] at tq1; cases tq1) (fun e => qr (by omega))))
  refine ez_go (n := 4) (pc' := 10) (L' := [(0, .inr (.inr (some (729)))), (1, .inr (.inr (some (q)))), (2, .inr (.inr (some (q2)))), (3, .inr (.inr (some (r)))), (4, .inl (fm))]) (st' := [.inl (fm), .inr (.inr (some (r))), .inr (.inr (some (q))), .inr (.inr (some (729)))]) rfl ?_
  refine ez_cv hB1 t729 rfl rfl rfl tq_61 rfl rfl rfl (rd_expand_s hC1 fd1 hw tr tq qr uq1 up fr a1 (fun m um lt g2 hB2 f2 a2 => ez_K1 ?_) (fun m um lt g2 hB2 f2 => ez_K1 ?_))
  · skip
    have f12 := f1.trans f2
    rw [List.nil_append] at a2
    have pm := uz_FL_ptl hw up um
    have hC2 : pz_C τ g2 T F E := hC.keep hB2 (tx_kD hC.1 tr f12)
    have cp2 : cP g2 F E := cp.keep (tx_keep hC.1 tr f12 (by rw [t723]; decide) (by rw [t723]; decide)) (tx_keep hC.1 tr f12 (by rw [t727]; decide) (by rw [t727]; decide)) (tx_keep hC.1 tr f12 (by rw [t728]; decide) (by rw [t728]; decide))
    have fd2 : fD g2 T F := fd.keep hC (tx_kD hC.1 tr f12) (tx_keep hC.1 tr f12 (by rw [t723]; decide) (by rw [t723]; decide)) (tx_keep hC.1 tr f12 (by rw [t724]; decide) (by rw [t724]; decide))
    have tq21 := tx_p88 hC.1 tq2
    have uq2b : tx g2 q2 u2 := tx_c uq2 (f12.2.2 q2 (tx_Pn qr2 (fun e => by rw [e, tx_p1 hC.1 tr] at tq2; cases tq2))) (f12.2.2 (q2 + 1) (tx_Pn (fun e => by rw [e, tr] at tq21; cases tq21) (fun e => qr2 (by omega))))
    refine ez_if rfl rfl ⟨by decide, by decide⟩ (fun (c3 : (1 : Int) = (0)) => absurd c3 (by decide)) (fun _ => ?_)
    refine ez_go (n := 4) (pc' := 21) (L' := [(0, .inr (.inr (some (729)))), (1, .inr (.inr (some (q)))), (2, .inr (.inr (some (q2)))), (3, .inr (.inr (some (r)))), (4, .inl (fm))]) (st' := [.inl (fm), .inr (.inr (some (r))), .inr (.inr (some (q2))), .inr (.inr (some (729)))]) rfl ?_
    refine ez_cv hB2 t729 rfl rfl rfl tq_61 rfl rfl rfl (rd_expand_s hC2 fd2 hw tr tq2 qr2 uq2b up2 fr a2 (fun m2 um2 lt2 g3 hB3 f3 a3 => ez_K1 ?_) (fun m2 um2 lt2 g3 hB3 f3 => ez_K1 ?_))
    · skip
      have f123 := f12.trans f3
      have pm2 := ptl_app pm (uz_FL_ptl hw up2 um2)
      have hC3 : pz_C τ g3 T F E := hC.keep hB3 (tx_kD hC.1 tr f123)
      have cp3 : cP g3 F E := cp.keep (tx_keep hC.1 tr f123 (by rw [t723]; decide) (by rw [t723]; decide)) (tx_keep hC.1 tr f123 (by rw [t727]; decide) (by rw [t727]; decide)) (tx_keep hC.1 tr f123 (by rw [t728]; decide) (by rw [t728]; decide))
      refine ez_if rfl rfl ⟨by decide, by decide⟩ (fun (c4 : (1 : Int) = (0)) => absurd c4 (by decide)) (fun _ => ?_)
      refine ez_go (n := 3) (pc' := 31) (L' := [(0, .inr (.inr (some (729)))), (1, .inr (.inr (some (q)))), (2, .inr (.inr (some (q2)))), (3, .inr (.inr (some (r)))), (4, .inl (fm))]) (st' := [.inl (fm), .inr (.inr (some (r))), .inr (.inr (some (729)))]) rfl ?_
      refine ez_cv hB3 t729 rfl rfl rfl tq_61 rfl rfl rfl (rd_finish (h := g3) hC3 hw cp3 tr nr a3 pm2 fr (fun g4 res hB4 f4 nf pr t4 => ez_K1 ?_))
      refine ez_if rfl rfl ⟨by decide, by decide⟩ (fun (c5 : (1 : Int) = (0)) => absurd c5 (by decide)) (fun _ => ?_)
      refine ez_go (n := 2) (pc' := 42) (L' := [(0, .inr (.inr (some (729)))), (1, .inr (.inr (some (q)))), (2, .inr (.inr (some (q2)))), (3, .inr (.inr (some (r)))), (4, .inl (fm))]) (st' := [.inl (1)]) rfl ?_
      exact ez_retZ rfl rfl (by decide) (k1 (m ++ m2) res (uz_FL_app um um2) (by rw [List.length_append]; exact lt2) nf pr g4 hB4 ((ez_fr_mono f123 (fun z hz => tx_co hz)).trans f4) t4)
    · skip
      have f123 := f12.trans f3
      refine ez_if rfl rfl ⟨by decide, by decide⟩ (fun _ => ?_) (fun (c6 : ¬((0 : Int) = (0))) => absurd c6 (by decide))
      refine ez_go (n := 1) (pc' := 42) (L' := [(0, .inr (.inr (some (729)))), (1, .inr (.inr (some (q)))), (2, .inr (.inr (some (q2)))), (3, .inr (.inr (some (r)))), (4, .inl (fm))]) (st' := [.inl (0)]) rfl ?_
      exact ez_retZ rfl rfl (by decide) (k0 (m ++ m2) (uz_FL_app um um2) (by rw [List.length_append]; exact lt2) g3 hB3 (ez_fr_mono f123 (fun z hz => tx_co hz)))
  · skip
    have f12 := f1.trans f2
    refine ez_if rfl rfl ⟨by decide, by decide⟩ (fun _ => ?_) (fun (c7 : ¬((0 : Int) = (0))) => absurd c7 (by decide))
    refine ez_go (n := 1) (pc' := 42) (L' := [(0, .inr (.inr (some (729)))), (1, .inr (.inr (some (q)))), (2, .inr (.inr (some (q2)))), (3, .inr (.inr (some (r)))), (4, .inl (fm))]) (st' := [.inl (0)]) rfl ?_
    obtain ⟨m2, um2⟩ := fd.allL (decide (fm = 1 ∨ fm = 3)) up2
    exact ez_retZ rfl rfl (by decide) (k0 (m ++ m2) (uz_FL_app um um2) (by rw [List.length_append]; rw [List.length_nil, Nat.zero_add] at lt; omega) g2 hB2 (ez_fr_mono f12 (fun z hz => tx_co hz)))

end EzNf
