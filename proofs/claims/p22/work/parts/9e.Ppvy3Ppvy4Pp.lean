/-! The class: what Casing and Breaks load. (Written by wip/p2/py/pvy3.py.) -/
section EzLd
variable {d : Nat} {h : cz_H} {τ : Nat → Nat} {Q : cz_F → Prop} {F : rz_W} {E : Int → Prop} {T : Int → Nat} {D : Int → xD} {O : Nat → Int} {u : List Int} {r : Nat} {loc : Int}
theorem rd_spanAt {x : Int} (hC : pz_C τ h T F E) (x0 : 0 ≤ x) (x1 : x ≤ 1114111) (k : ∀ m, sz_at h x m → τ (sz_p h m) = 4 → Q (.inl (some (.inr (.inr (some (sz_p h m))))), h)) : ez_W (d + 1) cm_103 0 [(0, .inr (.inr (some (202)))), (1, .inl (x))] [] h Q := by
  have t202 : τ 202 = 48 := hC.2.1 202 (by decide)
  have t203 : τ 203 = 49 := hC.2.1 203 (by decide)
  refine ez_go (n := 1) (pc' := 1) (L' := [(0, .inr (.inr (some (202)))), (1, .inl (x))]) (st' := [.inr (.inr (some (202)))]) rfl ?_
  refine ez_gC (p := 203) (tg := 49) hC.1 t202 rfl rfl tq_48 rfl rfl (fun (t203 : _ = 49) => ?_)
  refine ez_go (n := 2) (pc' := 6) (L' := [(0, .inr (.inr (some (202)))), (1, .inl (x))]) (st' := [.inl (x), .inr (.inr (some (202))), .inr (.inr (some (203)))]) rfl ?_
  have bn := sz_R_n1 hC.1 t202
  refine ez_cv hC.1 t202 rfl rfl rfl tq_48 rfl rfl rfl (rd_spanIndex hC.1 t202 hC.2.2.1 x0 (by omega) (fun m m0 m1 m2 m3 => ez_K1 ?_))
  have n2 : 513 ≤ qz_N h 203 ∧ qz_N h 203 ≤ 513 := ez_len hC.1 t203 tq_49 rfl
  have y3 : 1 ≤ qz_I h 203 (m).toNat ∧ qz_I h 203 (m).toNat ≤ 1000000 := ez_aB hC.1 t203 tq_49 rfl rfl (by decide) (by omega) (by omega)
  have y3' : ((qz_P h 203 (m).toNat : Nat) : Int) + 1 = qz_I h 203 (m).toNat := by unfold qz_P; omega
  refine ez_aR hC.1 t203 rfl tq_49 rfl rfl (by omega) (by omega) (by omega) (fun (t1 : _ = 4) => ?_)
  exact ez_retA rfl rfl rfl (k m ⟨m0, m1, m2, m3⟩ t1)

theorem rd_hasT {z : Nat} {m : Int} (hB : ez_B τ h) (tz : τ z = 4) (mr : ez_rg m) (k1 : trt (qz_I h z 2) m → Q (.inl (some (ez_v (.inl 1))), h)) (k0 : ¬ trt (qz_I h z 2) m → Q (.inl (some (ez_v (.inl 0))), h)) : ez_W d cm_184 0 [(0, .inr (.inr (some (z)))), (1, .inl (m))] [] h Q := by
  obtain ⟨mr1, mr2⟩ := id mr
  refine ez_go (n := 1) (pc' := 1) (L' := [(0, .inr (.inr (some (z)))), (1, .inl (m))]) (st' := [.inr (.inr (some (z)))]) rfl ?_
  refine ez_gI hB tz rfl rfl tq_4 rfl rfl (fun (b1 : -2147483648 ≤ qz_I h z 2) (b1' : qz_I h z 2 ≤ 2147483647) => ?_)
  refine ez_go (n := 2) (pc' := 6) (L' := [(0, .inr (.inr (some (z)))), (1, .inl (m))]) (st' := [.inl ((Int32.ofInt (qz_I h z 2) &&& Int32.ofInt (m)).toInt)]) rfl ?_
  refine ez_if rfl rfl ⟨by first | omega | exact (sz_i32 _).1, by first | omega | exact (sz_i32 _).2⟩ (fun (c2 : ((Int32.ofInt (qz_I h z 2) &&& Int32.ofInt (m)).toInt) = (0)) => ?_) (fun (c2 : ¬(((Int32.ofInt (qz_I h z 2) &&& Int32.ofInt (m)).toInt) = (0))) => ?_)
  · skip
    refine ez_go (n := 1) (pc' := 14) (L' := [(0, .inr (.inr (some (z)))), (1, .inl (m))]) (st' := [.inl (0)]) rfl ?_
    exact ez_retZ rfl rfl (Or.inl rfl) (k0 (by unfold trt; omega))
  · skip
    refine ez_go (n := 2) (pc' := 14) (L' := [(0, .inr (.inr (some (z)))), (1, .inl (m))]) (st' := [.inl (1)]) rfl ?_
    exact ez_retZ rfl rfl (Or.inr rfl) (k1 (by unfold trt; omega))

theorem rd_cload_l (hC : pz_C τ h T F E) (hx : sz_X τ h O D) (tr : τ r = 88) (a : tx h r u) (pu : ptl u) (u2 : (u.length : Int) ≤ 2000) (k9 : ∀ g, ez_B τ g → ez_fr cg_P h g → qz_I g 738 9 = 0 → ckC τ g F D (r + 1) u loc → Q (.inl none, g)) : ∀ (n : Nat) (i : Int) (g : cz_H), n = ((u.length : Int) - i).toNat → 0 ≤ i → i ≤ (u.length : Int) → ez_B τ g → ez_fr cg_P h g → (qz_I g 738 6 = ((r + 1 : Nat) : Int) + 1 ∧ qz_I g 738 7 = (u.length : Int) ∧ qz_I g 738 8 = loc ∧ qz_I g 738 9 = 0) → (∀ k, 0 ≤ k → k < i → qz_I g 740 k.toNat = kc F u k ∧ qz_I g 741 k.toNat = (D (uX u k)).2.1.1 ∧ (qz_I g 742 k.toNat = 1 ↔ sH3 D u k) ∧ sz_at h (uX u k) (qz_I g 739 k.toNat)) → ez_W (d + 1) cm_73 28 [(3, .inl (i)), (0, .inr (.inr (some (738)))), (1, .inr (.inr (some (r)))), (2, .inl (loc))] [] g Q := by
  have hB := hC.1
  have hX := hC.2.1
  have t738 : τ 738 = 70 := hX 738 (by decide)
  have t733 : τ 733 = 65 := hX 733 (by decide)
  have tp := tx_p88 hB tr
  have al := a.1
  have cr : cg_P r = false := cg_tag hX (by rw [tr]; decide) (by rw [tr]; decide) (Or.inr (by rw [tr]; decide))
  have cp : cg_P (r + 1) = false := cg_tag hX (by rw [tp]; decide) (by rw [tp]; decide) (Or.inr (by rw [tp]; decide))
  intro n
  induction n with
  | zero =>
    intro i g hn0 i0 i1 hBg hf hs hv
    have e7 := hs.2.1
    refine ez_go (n := 2) (pc' := 30) (L' := [(3, .inl (i)), (0, .inr (.inr (some (738)))), (1, .inr (.inr (some (r)))), (2, .inl (loc))]) (st' := [.inr (.inr (some (738))), .inl (i)]) rfl ?_
    refine ez_gI hBg t738 rfl rfl tq_70 rfl rfl (fun (b1 : 0 ≤ qz_I g 738 7) (b1' : qz_I g 738 7 ≤ 2000) => ?_)
    refine ez_icmp rfl rfl ⟨by first | omega | exact (sz_i32 _).1, by first | omega | exact (sz_i32 _).2⟩ ⟨by first | omega | exact (sz_i32 _).1, by first | omega | exact (sz_i32 _).2⟩ (fun (c2 : (qz_I g 738 7) ≤ (i)) => ?_) (fun (c2 : ¬((qz_I g 738 7) ≤ (i))) => ?_)
    · skip
      have hn : i = (u.length : Int) := by omega
      subst hn
      refine ez_ret0 rfl rfl (k9 g hBg hf hs.2.2.2 ⟨⟨hBg, hX⟩, tp, ⟨u2, pu⟩, ⟨hs.1, hs.2.1, hs.2.2.1⟩, fun k k0 k1 => ?_⟩)
      obtain ⟨w1, w2, w3, w4⟩ := hv k k0 k1
      exact ⟨(hf.I cp _).trans (uX_tx a (by omega)), w1, w2, w3, cg_ta hBg hX hf w4⟩
    · exfalso; omega
  | succ n ih =>
    intro i g hn0 i0 i1 hBg hf hs hv
    have e7 := hs.2.1
    refine ez_go (n := 2) (pc' := 30) (L' := [(3, .inl (i)), (0, .inr (.inr (some (738)))), (1, .inr (.inr (some (r)))), (2, .inl (loc))]) (st' := [.inr (.inr (some (738))), .inl (i)]) rfl ?_
    refine ez_gI hBg t738 rfl rfl tq_70 rfl rfl (fun (b1 : 0 ≤ qz_I g 738 7) (b1' : qz_I g 738 7 ≤ 2000) => ?_)
    refine ez_icmp rfl rfl ⟨by first | omega | exact (sz_i32 _).1, by first | omega | exact (sz_i32 _).2⟩ ⟨by first | omega | exact (sz_i32 _).1, by first | omega | exact (sz_i32 _).2⟩ (fun (c2 : (qz_I g 738 7) ≤ (i)) => ?_) (fun (c2 : ¬((qz_I g 738 7) ≤ (i))) => ?_)
    · skip
      have hn : i = (u.length : Int) := by omega
      subst hn
      refine ez_ret0 rfl rfl (k9 g hBg hf hs.2.2.2 ⟨⟨hBg, hX⟩, tp, ⟨u2, pu⟩, ⟨hs.1, hs.2.1, hs.2.2.1⟩, fun k k0 k1 => ?_⟩)
      obtain ⟨w1, w2, w3, w4⟩ := hv k k0 k1
      exact ⟨(hf.I cp _).trans (uX_tx a (by omega)), w1, w2, w3, cg_ta hBg hX hf w4⟩
    · skip
      refine ez_go (n := 1) (pc' := 37) (L' := [(3, .inl (i)), (0, .inr (.inr (some (738)))), (1, .inr (.inr (some (r)))), (2, .inl (loc))]) (st' := [.inr (.inr (some (738)))]) rfl ?_
      refine ez_gC (p := 739) (tg := 71) hBg t738 rfl rfl tq_70 rfl rfl (fun (t739 : _ = 71) => ?_)
      refine ez_go (n := 2) (pc' := 42) (L' := [(3, .inl (i)), (0, .inr (.inr (some (738)))), (1, .inr (.inr (some (r)))), (2, .inl (loc))]) (st' := [.inr (.inr (some (738))), .inl (i), .inr (.inr (some (739)))]) rfl ?_
      refine ez_gC (p := 202) (tg := 48) hBg t738 rfl rfl tq_70 rfl rfl (fun (t202 : _ = 48) => ?_)
      refine ez_go (n := 1) (pc' := 46) (L' := [(3, .inl (i)), (0, .inr (.inr (some (738)))), (1, .inr (.inr (some (r)))), (2, .inl (loc))]) (st' := [.inr (.inr (some (738))), .inr (.inr (some (202))), .inl (i), .inr (.inr (some (739)))]) rfl ?_
      refine ez_g2 (p := r + 1) hBg t738 rfl rfl tq_70 rfl rfl (hs.1) ?_
      refine ez_go (n := 1) (pc' := 50) (L' := [(3, .inl (i)), (0, .inr (.inr (some (738)))), (1, .inr (.inr (some (r)))), (2, .inl (loc))]) (st' := [.inl (i), .inr (.inr (some (r + 1))), .inr (.inr (some (202))), .inl (i), .inr (.inr (some (739)))]) rfl ?_
      have n4 : 2000 ≤ qz_N g (r + 1) ∧ qz_N g (r + 1) ≤ 2000 := ez_len hBg tp tq_89 rfl
      refine ez_aI hBg tp rfl tq_89 rfl rfl (by omega) (by omega) (fun (b3 : -2147483648 ≤ qz_I g (r + 1) (i).toNat) (b3' : qz_I g (r + 1) (i).toNat ≤ 2147483647) => ?_)
      have ep : qz_I g (r + 1) (i).toNat = uX u i := (hf.I cp _).trans (uX_tx a (by omega))
      have pb := uX_ptl pu (show i.toNat < u.length by omega)
      rw [ep]
      have hCg : pz_C τ g T F E := hC.keep hBg (cg_kD hX hf)
      have bn := sz_R_n1 hBg (hX 202 (by decide))
      refine ez_cv hBg t202 rfl rfl rfl tq_48 rfl rfl rfl (rd_spanIndex hBg (hX 202 (by decide)) hCg.2.2.1 pb.1 (by omega) (fun m m0 m1 m2 m3 => ez_K1 ?_))
      have atg : sz_at g (uX u i) m := ⟨m0, m1, m2, m3⟩
      have ath := cg_at hB hX hf atg
      have n7 : 2000 ≤ qz_N g 739 ∧ qz_N g 739 ≤ 2000 := ez_len hBg t739 tq_71 rfl
      refine ez_as hBg t739 rfl tq_71 rfl rfl (by omega) (by omega) (ez_vdI rfl rfl (by omega) (by omega)) (fun hB5 w6 => ?_)
      have f0 := hf
      have v1 : qz_I (dz_put g 739 (i).toNat (ez_v (.inl (m)))) 739 (i).toNat = m := w6.trans (ez_rg.v ⟨by omega, by omega⟩)
      have o1 : ∀ q j, ¬ (q = 739 ∧ j = (i).toNat) → qz_I (dz_put g 739 (i).toNat (ez_v (.inl (m)))) q j = qz_I g q j := fun q j w => ez_put_I w
      have f1 : ez_fr cg_P h (dz_put g 739 (i).toNat (ez_v (.inl (m)))) := f0.put (cg_Py (by decide) (by decide)) _ _
      have B1 := hB5
      generalize (dz_put g 739 (i).toNat (ez_v (.inl (m)))) = g1 at *
      have at1 : sz_at g1 (uX u i) m := cg_ta B1 hX f1 ath
      have x1 := cg_X hB hX hx f1
      have hC1 : pz_C τ g1 T F E := hC.keep B1 (cg_kD hX f1)
      have xq := x1 _ _ pb.1 pb.2 at1
      have cq := hC1.2.2.2.1 _ _ pb.1 pb.2 at1
      have fq := hC1.2.2.2.2 _ pb.1 pb.2
      have efp : sz_fp g1 m = T (uX u i) := by have := cq.1; unfold sz_fp qz_P; omega
      have ec : qz_I g1 (sz_fp g1 m) 2 = kc F u i := by rw [efp]; exact fq.2.1
      refine ez_go (n := 1) (pc' := 56) (L' := [(3, .inl (i)), (0, .inr (.inr (some (738)))), (1, .inr (.inr (some (r)))), (2, .inl (loc))]) (st' := [.inr (.inr (some (738)))]) rfl ?_
      refine ez_gC (p := 202) (tg := 48) B1 t738 rfl rfl tq_70 rfl rfl (fun (t202 : _ = 48) => ?_)
      refine ez_gC (p := 203) (tg := 49) B1 t202 rfl rfl tq_48 rfl rfl (fun (t203 : _ = 49) => ?_)
      refine ez_go (n := 1) (pc' := 63) (L' := [(3, .inl (i)), (0, .inr (.inr (some (738)))), (1, .inr (.inr (some (r)))), (2, .inl (loc))]) (st' := [.inr (.inr (some (738))), .inr (.inr (some (203)))]) rfl ?_
      refine ez_gC (p := 739) (tg := 71) B1 t738 rfl rfl tq_70 rfl rfl (fun (t739 : _ = 71) => ?_)
      refine ez_go (n := 1) (pc' := 67) (L' := [(3, .inl (i)), (0, .inr (.inr (some (738)))), (1, .inr (.inr (some (r)))), (2, .inl (loc))]) (st' := [.inl (i), .inr (.inr (some (739))), .inr (.inr (some (203)))]) rfl ?_
      have n9 : 2000 ≤ qz_N g1 739 ∧ qz_N g1 739 ≤ 2000 := ez_len B1 t739 tq_71 rfl
      refine ez_aI B1 t739 rfl tq_71 rfl rfl (by omega) (by omega) (fun (b8 : 0 ≤ qz_I g1 739 (i).toNat) (b8' : qz_I g1 739 (i).toNat ≤ 512) => ?_)
      rw [v1]
      have n11 : 513 ≤ qz_N g1 203 ∧ qz_N g1 203 ≤ 513 := ez_len B1 t203 tq_49 rfl
      have y12 : 1 ≤ qz_I g1 203 (m).toNat ∧ qz_I g1 203 (m).toNat ≤ 1000000 := ez_aB B1 t203 tq_49 rfl rfl (by decide) (by omega) (by omega)
      have y12' : ((qz_P g1 203 (m).toNat : Nat) : Int) + 1 = qz_I g1 203 (m).toNat := by unfold qz_P; omega
      refine ez_aR B1 t203 rfl tq_49 rfl rfl (by omega) (by omega) (by omega) (fun (t10 : _ = 4) => ?_)
      refine ez_go (n := 2) (pc' := 73) (L' := [(4, .inr (.inr (some (qz_P g1 203 (m).toNat)))), (3, .inl (i)), (0, .inr (.inr (some (738)))), (1, .inr (.inr (some (r)))), (2, .inl (loc))]) (st' := [.inr (.inr (some (qz_P g1 203 (m).toNat)))]) rfl ?_
      refine ez_gR B1 t10 rfl rfl tq_4 rfl rfl (fun (t13 : _ = 3) (t13' : 1 ≤ qz_I g1 (qz_P g1 203 (m).toNat) 1) => ?_)
      refine ez_gI B1 t13 rfl rfl tq_3 rfl rfl (fun (b14 : -2147483648 ≤ qz_I g1 (qz_P g1 (qz_P g1 203 (m).toNat) 1) 1) (b14' : qz_I g1 (qz_P g1 (qz_P g1 203 (m).toNat) 1) 1 ≤ 2147483647) => ?_)
      have ek : qz_I g1 (qz_P g1 (qz_P g1 203 (m).toNat) 1) 1 = (D (uX u i)).1.1 := xq.1.1
      rw [ek]
      refine ez_go (n := 2) (pc' := 82) (L' := [(5, .inl ((D (uX u i)).1.1)), (4, .inr (.inr (some (qz_P g1 203 (m).toNat)))), (3, .inl (i)), (0, .inr (.inr (some (738)))), (1, .inr (.inr (some (r)))), (2, .inl (loc))]) (st' := [.inr (.inr (some (738)))]) rfl ?_
      refine ez_gC (p := 740) (tg := 72) B1 t738 rfl rfl tq_70 rfl rfl (fun (t740 : _ = 72) => ?_)
      refine ez_go (n := 2) (pc' := 88) (L' := [(5, .inl ((D (uX u i)).1.1)), (4, .inr (.inr (some (qz_P g1 203 (m).toNat)))), (3, .inl (i)), (0, .inr (.inr (some (738)))), (1, .inr (.inr (some (r)))), (2, .inl (loc))]) (st' := [.inr (.inr (some (qz_P g1 203 (m).toNat))), .inl (i), .inr (.inr (some (740)))]) rfl ?_
      refine ez_gR B1 t10 rfl rfl tq_4 rfl rfl (fun (t15 : _ = 3) (t15' : 1 ≤ qz_I g1 (qz_P g1 203 (m).toNat) 1) => ?_)
      refine ez_gI B1 t15 rfl rfl tq_3 rfl rfl (fun (b16 : -2147483648 ≤ qz_I g1 (qz_P g1 (qz_P g1 203 (m).toNat) 1) 2) (b16' : qz_I g1 (qz_P g1 (qz_P g1 203 (m).toNat) 1) 2 ≤ 2147483647) => ?_)
      have ec2 : qz_I g1 (qz_P g1 (qz_P g1 203 (m).toNat) 1) 2 = kc F u i := ec
      rw [ec2]
      have n19 : 2000 ≤ qz_N g1 740 ∧ qz_N g1 740 ≤ 2000 := ez_len B1 t740 tq_72 rfl
      refine ez_as B1 t740 rfl tq_72 rfl rfl (by omega) (by omega) (ez_vdI rfl rfl (by omega) (by omega)) (fun hB17 w18 => ?_)
      have v2 : qz_I (dz_put g1 740 (i).toNat (ez_v (.inl (kc F u i)))) 740 (i).toNat = kc F u i := w18.trans (ez_rg.v ⟨by omega, by omega⟩)
      have o2 : ∀ q j, ¬ (q = 740 ∧ j = (i).toNat) → qz_I (dz_put g1 740 (i).toNat (ez_v (.inl (kc F u i)))) q j = qz_I g1 q j := fun q j w => ez_put_I w
      have f2 : ez_fr cg_P h (dz_put g1 740 (i).toNat (ez_v (.inl (kc F u i)))) := f1.put (cg_Py (by decide) (by decide)) _ _
      have B2 := hB17
      generalize (dz_put g1 740 (i).toNat (ez_v (.inl (kc F u i)))) = g2 at *
      refine ez_go (n := 1) (pc' := 96) (L' := [(5, .inl ((D (uX u i)).1.1)), (4, .inr (.inr (some (qz_P g1 203 (m).toNat)))), (3, .inl (i)), (0, .inr (.inr (some (738)))), (1, .inr (.inr (some (r)))), (2, .inl (loc))]) (st' := [.inr (.inr (some (738)))]) rfl ?_
      refine ez_gC (p := 741) (tg := 73) B2 t738 rfl rfl tq_70 rfl rfl (fun (t741 : _ = 73) => ?_)
      refine ez_go (n := 2) (pc' := 102) (L' := [(5, .inl ((D (uX u i)).1.1)), (4, .inr (.inr (some (qz_P g1 203 (m).toNat)))), (3, .inl (i)), (0, .inr (.inr (some (738)))), (1, .inr (.inr (some (r)))), (2, .inl (loc))]) (st' := [.inr (.inr (some (qz_P g1 203 (m).toNat))), .inl (i), .inr (.inr (some (741)))]) rfl ?_
      refine ez_gI B2 t10 rfl rfl tq_4 rfl rfl (fun (b20 : -2147483648 ≤ qz_I g2 (qz_P g1 203 (m).toNat) 2) (b20' : qz_I g2 (qz_P g1 203 (m).toNat) 2 ≤ 2147483647) => ?_)
      have n40 : qz_P g1 203 (m).toNat ≠ 740 := fun w => by have q := t10; rw [w, hX 740 (by decide)] at q; revert q; decide
      have n41 : qz_P g1 203 (m).toNat ≠ 741 := fun w => by have q := t10; rw [w, hX 741 (by decide)] at q; revert q; decide
      have et : qz_I g2 (qz_P g1 203 (m).toNat) 2 = (D (uX u i)).2.1.1 := (o2 _ _ (fun w => n40 w.1)).trans xq.2.1.1
      rw [et]
      have n23 : 2000 ≤ qz_N g2 741 ∧ qz_N g2 741 ≤ 2000 := ez_len B2 t741 tq_73 rfl
      refine ez_as B2 t741 rfl tq_73 rfl rfl (by omega) (by omega) (ez_vdI rfl rfl (by omega) (by omega)) (fun hB21 w22 => ?_)
      have v3 : qz_I (dz_put g2 741 (i).toNat (ez_v (.inl ((D (uX u i)).2.1.1)))) 741 (i).toNat = (D (uX u i)).2.1.1 := w22.trans (ez_rg.v ⟨by omega, by omega⟩)
      have o3 : ∀ q j, ¬ (q = 741 ∧ j = (i).toNat) → qz_I (dz_put g2 741 (i).toNat (ez_v (.inl ((D (uX u i)).2.1.1)))) q j = qz_I g2 q j := fun q j w => ez_put_I w
      have f3 : ez_fr cg_P h (dz_put g2 741 (i).toNat (ez_v (.inl ((D (uX u i)).2.1.1)))) := f2.put (cg_Py (by decide) (by decide)) _ _
      have B3 := hB21
      generalize (dz_put g2 741 (i).toNat (ez_v (.inl ((D (uX u i)).2.1.1)))) = g3 at *
      refine ez_go (n := 1) (pc' := 107) (L' := [(5, .inl ((D (uX u i)).1.1)), (4, .inr (.inr (some (qz_P g1 203 (m).toNat)))), (3, .inl (i)), (0, .inr (.inr (some (738)))), (1, .inr (.inr (some (r)))), (2, .inl (loc))]) (st' := [.inr (.inr (some (738)))]) rfl ?_
      refine ez_gC (p := 742) (tg := 74) B3 t738 rfl rfl tq_70 rfl rfl (fun (t742 : _ = 74) => ?_)
      refine ez_go (n := 3) (pc' := 114) (L' := [(5, .inl ((D (uX u i)).1.1)), (4, .inr (.inr (some (qz_P g1 203 (m).toNat)))), (3, .inl (i)), (0, .inr (.inr (some (738)))), (1, .inr (.inr (some (r)))), (2, .inl (loc))]) (st' := [.inl (4), .inr (.inr (some (qz_P g1 203 (m).toNat))), .inl (i), .inr (.inr (some (742)))]) rfl ?_
      have et3 : qz_I g3 (qz_P g1 203 (m).toNat) 2 = (D (uX u i)).2.1.1 := (o3 _ _ (fun w => n41 w.1)).trans et
      refine ez_cv B3 t10 rfl rfl rfl tq_4 rfl rfl rfl (rd_hasT B3 t10 ⟨by decide, by decide⟩ (fun tr4 => ez_K1 ?_) (fun tr4 => ez_K1 ?_))
      · rw [et3] at tr4
        refine ez_if rfl rfl ⟨by decide, by decide⟩ (fun _ => ?_) (fun (c24 : ¬((1 : Int) ≠ (0))) => absurd c24 (by decide))
        refine ez_go (n := 2) (pc' := 149) (L' := [(5, .inl ((D (uX u i)).1.1)), (4, .inr (.inr (some (qz_P g1 203 (m).toNat)))), (3, .inl (i)), (0, .inr (.inr (some (738)))), (1, .inr (.inr (some (r)))), (2, .inl (loc))]) (st' := [.inl (1), .inl (i), .inr (.inr (some (742)))]) rfl ?_
        have n27 : 2000 ≤ qz_N g3 742 ∧ qz_N g3 742 ≤ 2000 := ez_len B3 t742 tq_74 rfl
        refine ez_az B3 t742 rfl tq_74 rfl rfl (by omega) (by omega) (by omega) (ez_vdI rfl rfl (by omega) (by omega)) (fun hB25 w26 => ?_)
        have v4 : qz_I (dz_put g3 742 (i).toNat (ez_v (.inl (1)))) 742 (i).toNat = 1 := w26.trans (ez_rg.v ⟨by omega, by omega⟩)
        have o4 : ∀ q j, ¬ (q = 742 ∧ j = (i).toNat) → qz_I (dz_put g3 742 (i).toNat (ez_v (.inl (1)))) q j = qz_I g3 q j := fun q j w => ez_put_I w
        have f4 : ez_fr cg_P h (dz_put g3 742 (i).toNat (ez_v (.inl (1)))) := f3.put (cg_Py (by decide) (by decide)) _ _
        have B4 := hB25
        generalize (dz_put g3 742 (i).toNat (ez_v (.inl (1)))) = g4 at *
        have e4 : qz_I g4 742 (i).toNat = 1 ↔ sH3 D u i := ⟨fun _ => (by first | exact Or.inl tr4 | exact Or.inr (Or.inl (by omega)) | exact Or.inr (Or.inr (Or.inl (by omega))) | exact Or.inr (Or.inr (Or.inr (by omega)))), fun _ => v4⟩
        refine ez_go (n := 2) (pc' := 28) (L' := [(3, .inl (i + 1)), (5, .inl ((D (uX u i)).1.1)), (4, .inr (.inr (some (qz_P g1 203 (m).toNat)))), (0, .inr (.inr (some (738)))), (1, .inr (.inr (some (r)))), (2, .inl (loc))]) (st' := []) rfl ?_
        refine ez_less [(3, .inl (i + 1)), (0, .inr (.inr (some (738)))), (1, .inr (.inr (some (r)))), (2, .inl (loc))] rfl ⟨rfl, rfl, rfl, rfl, trivial⟩ ?_
        have og : ∀ q j, ¬ (739 ≤ q ∧ q ≤ 742 ∧ j = (i).toNat) → qz_I g4 q j = qz_I g q j := fun q j w => by rw [o4 q j (by omega), o3 q j (by omega), o2 q j (by omega), o1 q j (by omega)]
        refine ih (i + 1) g4 (by omega) (by omega) (by omega) B4 f4 ⟨by rw [og 738 6 (by omega)]; exact hs.1, by rw [og 738 7 (by omega)]; exact hs.2.1, by rw [og 738 8 (by omega)]; exact hs.2.2.1, by rw [og 738 9 (by omega)]; exact hs.2.2.2⟩ (fun k k0 k1 => ?_)
        by_cases ek9 : k = i
        · rw [ek9]
          refine ⟨?_, ?_, e4, ?_⟩
          · rw [o4 _ _ (by omega), o3 _ _ (by omega)]; exact v2
          · rw [o4 _ _ (by omega)]; exact v3
          · rw [o4 _ _ (by omega), o3 _ _ (by omega), o2 _ _ (by omega), v1]; exact ath
        · rw [og _ _ (by omega), og _ _ (by omega), og _ _ (by omega), og _ _ (by omega)]
          exact hv k k0 (by omega)
      · rw [et3] at tr4
        refine ez_if rfl rfl ⟨by decide, by decide⟩ (fun (c28 : (0 : Int) ≠ (0)) => absurd c28 (by decide)) (fun _ => ?_)
        refine ez_go (n := 2) (pc' := 125) (L' := [(5, .inl ((D (uX u i)).1.1)), (4, .inr (.inr (some (qz_P g1 203 (m).toNat)))), (3, .inl (i)), (0, .inr (.inr (some (738)))), (1, .inr (.inr (some (r)))), (2, .inl (loc))]) (st' := [.inl (19573), .inl ((D (uX u i)).1.1), .inl (i), .inr (.inr (some (742)))]) rfl ?_
        refine ez_icmp rfl rfl ⟨by first | omega | exact (sz_i32 _).1, by first | omega | exact (sz_i32 _).2⟩ ⟨by first | omega | exact (sz_i32 _).1, by first | omega | exact (sz_i32 _).2⟩ (fun (c29 : ((D (uX u i)).1.1) = (19573)) => ?_) (fun (c29 : ¬(((D (uX u i)).1.1) = (19573))) => ?_)
        · skip
          refine ez_go (n := 2) (pc' := 149) (L' := [(5, .inl ((D (uX u i)).1.1)), (4, .inr (.inr (some (qz_P g1 203 (m).toNat)))), (3, .inl (i)), (0, .inr (.inr (some (738)))), (1, .inr (.inr (some (r)))), (2, .inl (loc))]) (st' := [.inl (1), .inl (i), .inr (.inr (some (742)))]) rfl ?_
          have n32 : 2000 ≤ qz_N g3 742 ∧ qz_N g3 742 ≤ 2000 := ez_len B3 t742 tq_74 rfl
          refine ez_az B3 t742 rfl tq_74 rfl rfl (by omega) (by omega) (by omega) (ez_vdI rfl rfl (by omega) (by omega)) (fun hB30 w31 => ?_)
          have v4 : qz_I (dz_put g3 742 (i).toNat (ez_v (.inl (1)))) 742 (i).toNat = 1 := w31.trans (ez_rg.v ⟨by omega, by omega⟩)
          have o4 : ∀ q j, ¬ (q = 742 ∧ j = (i).toNat) → qz_I (dz_put g3 742 (i).toNat (ez_v (.inl (1)))) q j = qz_I g3 q j := fun q j w => ez_put_I w
          have f4 : ez_fr cg_P h (dz_put g3 742 (i).toNat (ez_v (.inl (1)))) := f3.put (cg_Py (by decide) (by decide)) _ _
          have B4 := hB30
          generalize (dz_put g3 742 (i).toNat (ez_v (.inl (1)))) = g4 at *
          have e4 : qz_I g4 742 (i).toNat = 1 ↔ sH3 D u i := ⟨fun _ => (by first | exact Or.inl tr4 | exact Or.inr (Or.inl (by omega)) | exact Or.inr (Or.inr (Or.inl (by omega))) | exact Or.inr (Or.inr (Or.inr (by omega)))), fun _ => v4⟩
          refine ez_go (n := 2) (pc' := 28) (L' := [(3, .inl (i + 1)), (5, .inl ((D (uX u i)).1.1)), (4, .inr (.inr (some (qz_P g1 203 (m).toNat)))), (0, .inr (.inr (some (738)))), (1, .inr (.inr (some (r)))), (2, .inl (loc))]) (st' := []) rfl ?_
          refine ez_less [(3, .inl (i + 1)), (0, .inr (.inr (some (738)))), (1, .inr (.inr (some (r)))), (2, .inl (loc))] rfl ⟨rfl, rfl, rfl, rfl, trivial⟩ ?_
          have og : ∀ q j, ¬ (739 ≤ q ∧ q ≤ 742 ∧ j = (i).toNat) → qz_I g4 q j = qz_I g q j := fun q j w => by rw [o4 q j (by omega), o3 q j (by omega), o2 q j (by omega), o1 q j (by omega)]
          refine ih (i + 1) g4 (by omega) (by omega) (by omega) B4 f4 ⟨by rw [og 738 6 (by omega)]; exact hs.1, by rw [og 738 7 (by omega)]; exact hs.2.1, by rw [og 738 8 (by omega)]; exact hs.2.2.1, by rw [og 738 9 (by omega)]; exact hs.2.2.2⟩ (fun k k0 k1 => ?_)
          by_cases ek9 : k = i
          · rw [ek9]
            refine ⟨?_, ?_, e4, ?_⟩
            · rw [o4 _ _ (by omega), o3 _ _ (by omega)]; exact v2
            · rw [o4 _ _ (by omega)]; exact v3
            · rw [o4 _ _ (by omega), o3 _ _ (by omega), o2 _ _ (by omega), v1]; exact ath
          · rw [og _ _ (by omega), og _ _ (by omega), og _ _ (by omega), og _ _ (by omega)]
            exact hv k k0 (by omega)
        · skip
          refine ez_go (n := 2) (pc' := 133) (L' := [(5, .inl ((D (uX u i)).1.1)), (4, .inr (.inr (some (qz_P g1 203 (m).toNat)))), (3, .inl (i)), (0, .inr (.inr (some (738)))), (1, .inr (.inr (some (r)))), (2, .inl (loc))]) (st' := [.inl (19564), .inl ((D (uX u i)).1.1), .inl (i), .inr (.inr (some (742)))]) rfl ?_
          refine ez_icmp rfl rfl ⟨by first | omega | exact (sz_i32 _).1, by first | omega | exact (sz_i32 _).2⟩ ⟨by first | omega | exact (sz_i32 _).1, by first | omega | exact (sz_i32 _).2⟩ (fun (c33 : ((D (uX u i)).1.1) = (19564)) => ?_) (fun (c33 : ¬(((D (uX u i)).1.1) = (19564))) => ?_)
          · skip
            refine ez_go (n := 2) (pc' := 149) (L' := [(5, .inl ((D (uX u i)).1.1)), (4, .inr (.inr (some (qz_P g1 203 (m).toNat)))), (3, .inl (i)), (0, .inr (.inr (some (738)))), (1, .inr (.inr (some (r)))), (2, .inl (loc))]) (st' := [.inl (1), .inl (i), .inr (.inr (some (742)))]) rfl ?_
            have n36 : 2000 ≤ qz_N g3 742 ∧ qz_N g3 742 ≤ 2000 := ez_len B3 t742 tq_74 rfl
            refine ez_az B3 t742 rfl tq_74 rfl rfl (by omega) (by omega) (by omega) (ez_vdI rfl rfl (by omega) (by omega)) (fun hB34 w35 => ?_)
            have v4 : qz_I (dz_put g3 742 (i).toNat (ez_v (.inl (1)))) 742 (i).toNat = 1 := w35.trans (ez_rg.v ⟨by omega, by omega⟩)
            have o4 : ∀ q j, ¬ (q = 742 ∧ j = (i).toNat) → qz_I (dz_put g3 742 (i).toNat (ez_v (.inl (1)))) q j = qz_I g3 q j := fun q j w => ez_put_I w
            have f4 : ez_fr cg_P h (dz_put g3 742 (i).toNat (ez_v (.inl (1)))) := f3.put (cg_Py (by decide) (by decide)) _ _
            have B4 := hB34
            generalize (dz_put g3 742 (i).toNat (ez_v (.inl (1)))) = g4 at *
            have e4 : qz_I g4 742 (i).toNat = 1 ↔ sH3 D u i := ⟨fun _ => (by first | exact Or.inl tr4 | exact Or.inr (Or.inl (by omega)) | exact Or.inr (Or.inr (Or.inl (by omega))) | exact Or.inr (Or.inr (Or.inr (by omega)))), fun _ => v4⟩
            refine ez_go (n := 2) (pc' := 28) (L' := [(3, .inl (i + 1)), (5, .inl ((D (uX u i)).1.1)), (4, .inr (.inr (some (qz_P g1 203 (m).toNat)))), (0, .inr (.inr (some (738)))), (1, .inr (.inr (some (r)))), (2, .inl (loc))]) (st' := []) rfl ?_
            refine ez_less [(3, .inl (i + 1)), (0, .inr (.inr (some (738)))), (1, .inr (.inr (some (r)))), (2, .inl (loc))] rfl ⟨rfl, rfl, rfl, rfl, trivial⟩ ?_
            have og : ∀ q j, ¬ (739 ≤ q ∧ q ≤ 742 ∧ j = (i).toNat) → qz_I g4 q j = qz_I g q j := fun q j w => by rw [o4 q j (by omega), o3 q j (by omega), o2 q j (by omega), o1 q j (by omega)]
            refine ih (i + 1) g4 (by omega) (by omega) (by omega) B4 f4 ⟨by rw [og 738 6 (by omega)]; exact hs.1, by rw [og 738 7 (by omega)]; exact hs.2.1, by rw [og 738 8 (by omega)]; exact hs.2.2.1, by rw [og 738 9 (by omega)]; exact hs.2.2.2⟩ (fun k k0 k1 => ?_)
            by_cases ek9 : k = i
            · rw [ek9]
              refine ⟨?_, ?_, e4, ?_⟩
              · rw [o4 _ _ (by omega), o3 _ _ (by omega)]; exact v2
              · rw [o4 _ _ (by omega)]; exact v3
              · rw [o4 _ _ (by omega), o3 _ _ (by omega), o2 _ _ (by omega), v1]; exact ath
            · rw [og _ _ (by omega), og _ _ (by omega), og _ _ (by omega), og _ _ (by omega)]
              exact hv k k0 (by omega)
          · skip
            refine ez_go (n := 2) (pc' := 141) (L' := [(5, .inl ((D (uX u i)).1.1)), (4, .inr (.inr (some (qz_P g1 203 (m).toNat)))), (3, .inl (i)), (0, .inr (.inr (some (738)))), (1, .inr (.inr (some (r)))), (2, .inl (loc))]) (st' := [.inl (19572), .inl ((D (uX u i)).1.1), .inl (i), .inr (.inr (some (742)))]) rfl ?_
            refine ez_icmp rfl rfl ⟨by first | omega | exact (sz_i32 _).1, by first | omega | exact (sz_i32 _).2⟩ ⟨by first | omega | exact (sz_i32 _).1, by first | omega | exact (sz_i32 _).2⟩ (fun (c37 : ((D (uX u i)).1.1) ≠ (19572)) => ?_) (fun (c37 : ¬(((D (uX u i)).1.1) ≠ (19572))) => ?_)
            · skip
              refine ez_go (n := 1) (pc' := 149) (L' := [(5, .inl ((D (uX u i)).1.1)), (4, .inr (.inr (some (qz_P g1 203 (m).toNat)))), (3, .inl (i)), (0, .inr (.inr (some (738)))), (1, .inr (.inr (some (r)))), (2, .inl (loc))]) (st' := [.inl (0), .inl (i), .inr (.inr (some (742)))]) rfl ?_
              have n40 : 2000 ≤ qz_N g3 742 ∧ qz_N g3 742 ≤ 2000 := ez_len B3 t742 tq_74 rfl
              refine ez_az B3 t742 rfl tq_74 rfl rfl (by omega) (by omega) (by omega) (ez_vdI rfl rfl (by omega) (by omega)) (fun hB38 w39 => ?_)
              have v4 : qz_I (dz_put g3 742 (i).toNat (ez_v (.inl (0)))) 742 (i).toNat = 0 := w39.trans (ez_rg.v ⟨by omega, by omega⟩)
              have o4 : ∀ q j, ¬ (q = 742 ∧ j = (i).toNat) → qz_I (dz_put g3 742 (i).toNat (ez_v (.inl (0)))) q j = qz_I g3 q j := fun q j w => ez_put_I w
              have f4 : ez_fr cg_P h (dz_put g3 742 (i).toNat (ez_v (.inl (0)))) := f3.put (cg_Py (by decide) (by decide)) _ _
              have B4 := hB38
              generalize (dz_put g3 742 (i).toNat (ez_v (.inl (0)))) = g4 at *
              have e4 : qz_I g4 742 (i).toNat = 1 ↔ sH3 D u i := ⟨fun w => by omega, fun w => by rcases w with w | w | w | w; (· exact absurd w tr4); all_goals (exfalso; omega)⟩
              refine ez_go (n := 2) (pc' := 28) (L' := [(3, .inl (i + 1)), (5, .inl ((D (uX u i)).1.1)), (4, .inr (.inr (some (qz_P g1 203 (m).toNat)))), (0, .inr (.inr (some (738)))), (1, .inr (.inr (some (r)))), (2, .inl (loc))]) (st' := []) rfl ?_
              refine ez_less [(3, .inl (i + 1)), (0, .inr (.inr (some (738)))), (1, .inr (.inr (some (r)))), (2, .inl (loc))] rfl ⟨rfl, rfl, rfl, rfl, trivial⟩ ?_
              have og : ∀ q j, ¬ (739 ≤ q ∧ q ≤ 742 ∧ j = (i).toNat) → qz_I g4 q j = qz_I g q j := fun q j w => by rw [o4 q j (by omega), o3 q j (by omega), o2 q j (by omega), o1 q j (by omega)]
              refine ih (i + 1) g4 (by omega) (by omega) (by omega) B4 f4 ⟨by rw [og 738 6 (by omega)]; exact hs.1, by rw [og 738 7 (by omega)]; exact hs.2.1, by rw [og 738 8 (by omega)]; exact hs.2.2.1, by rw [og 738 9 (by omega)]; exact hs.2.2.2⟩ (fun k k0 k1 => ?_)
              by_cases ek9 : k = i
              · rw [ek9]
                refine ⟨?_, ?_, e4, ?_⟩
                · rw [o4 _ _ (by omega), o3 _ _ (by omega)]; exact v2
                · rw [o4 _ _ (by omega)]; exact v3
                · rw [o4 _ _ (by omega), o3 _ _ (by omega), o2 _ _ (by omega), v1]; exact ath
              · rw [og _ _ (by omega), og _ _ (by omega), og _ _ (by omega), og _ _ (by omega)]
                exact hv k k0 (by omega)
            · skip
              refine ez_go (n := 2) (pc' := 149) (L' := [(5, .inl ((D (uX u i)).1.1)), (4, .inr (.inr (some (qz_P g1 203 (m).toNat)))), (3, .inl (i)), (0, .inr (.inr (some (738)))), (1, .inr (.inr (some (r)))), (2, .inl (loc))]) (st' := [.inl (1), .inl (i), .inr (.inr (some (742)))]) rfl ?_
              have n43 : 2000 ≤ qz_N g3 742 ∧ qz_N g3 742 ≤ 2000 := ez_len B3 t742 tq_74 rfl
              refine ez_az B3 t742 rfl tq_74 rfl rfl (by omega) (by omega) (by omega) (ez_vdI rfl rfl (by omega) (by omega)) (fun hB41 w42 => ?_)
              have v4 : qz_I (dz_put g3 742 (i).toNat (ez_v (.inl (1)))) 742 (i).toNat = 1 := w42.trans (ez_rg.v ⟨by omega, by omega⟩)
              have o4 : ∀ q j, ¬ (q = 742 ∧ j = (i).toNat) → qz_I (dz_put g3 742 (i).toNat (ez_v (.inl (1)))) q j = qz_I g3 q j := fun q j w => ez_put_I w
              have f4 : ez_fr cg_P h (dz_put g3 742 (i).toNat (ez_v (.inl (1)))) := f3.put (cg_Py (by decide) (by decide)) _ _
              have B4 := hB41
              generalize (dz_put g3 742 (i).toNat (ez_v (.inl (1)))) = g4 at *
              have e4 : qz_I g4 742 (i).toNat = 1 ↔ sH3 D u i := ⟨fun _ => (by first | exact Or.inl tr4 | exact Or.inr (Or.inl (by omega)) | exact Or.inr (Or.inr (Or.inl (by omega))) | exact Or.inr (Or.inr (Or.inr (by omega)))), fun _ => v4⟩
              refine ez_go (n := 2) (pc' := 28) (L' := [(3, .inl (i + 1)), (5, .inl ((D (uX u i)).1.1)), (4, .inr (.inr (some (qz_P g1 203 (m).toNat)))), (0, .inr (.inr (some (738)))), (1, .inr (.inr (some (r)))), (2, .inl (loc))]) (st' := []) rfl ?_
              refine ez_less [(3, .inl (i + 1)), (0, .inr (.inr (some (738)))), (1, .inr (.inr (some (r)))), (2, .inl (loc))] rfl ⟨rfl, rfl, rfl, rfl, trivial⟩ ?_
              have og : ∀ q j, ¬ (739 ≤ q ∧ q ≤ 742 ∧ j = (i).toNat) → qz_I g4 q j = qz_I g q j := fun q j w => by rw [o4 q j (by omega), o3 q j (by omega), o2 q j (by omega), o1 q j (by omega)]
              refine ih (i + 1) g4 (by omega) (by omega) (by omega) B4 f4 ⟨by rw [og 738 6 (by omega)]; exact hs.1, by rw [og 738 7 (by omega)]; exact hs.2.1, by rw [og 738 8 (by omega)]; exact hs.2.2.1, by rw [og 738 9 (by omega)]; exact hs.2.2.2⟩ (fun k k0 k1 => ?_)
              by_cases ek9 : k = i
              · rw [ek9]
                refine ⟨?_, ?_, e4, ?_⟩
                · rw [o4 _ _ (by omega), o3 _ _ (by omega)]; exact v2
                · rw [o4 _ _ (by omega)]; exact v3
                · rw [o4 _ _ (by omega), o3 _ _ (by omega), o2 _ _ (by omega), v1]; exact ath
              · rw [og _ _ (by omega), og _ _ (by omega), og _ _ (by omega), og _ _ (by omega)]
                exact hv k k0 (by omega)

theorem rd_cload (hC : pz_C τ h T F E) (hx : sz_X τ h O D) (tr : τ r = 88) (a : tx h r u) (pu : ptl u) (u2 : (u.length : Int) ≤ 2000) (lr : ez_rg loc) (rb : r < 900000) (k9 : ∀ g, ez_B τ g → ez_fr cg_P h g → qz_I g 738 9 = 0 → ckC τ g F D (r + 1) u loc → Q (.inl none, g)) : ez_W (d + 1) cm_73 0 [(0, .inr (.inr (some (738)))), (1, .inr (.inr (some (r)))), (2, .inl (loc))] [] h Q := by
  have hB := hC.1
  have hX := hC.2.1
  have t738 : τ 738 = 70 := hX 738 (by decide)
  have t733 : τ 733 = 65 := hX 733 (by decide)
  have tp := tx_p88 hB tr
  have al := a.1
  have cr : cg_P r = false := cg_tag hX (by rw [tr]; decide) (by rw [tr]; decide) (Or.inr (by rw [tr]; decide))
  have cp : cg_P (r + 1) = false := cg_tag hX (by rw [tp]; decide) (by rw [tp]; decide) (Or.inr (by rw [tp]; decide))
  obtain ⟨lr1, lr2⟩ := id lr
  refine ez_go (n := 2) (pc' := 2) (L' := [(0, .inr (.inr (some (738)))), (1, .inr (.inr (some (r)))), (2, .inl (loc))]) (st' := [.inr (.inr (some (r))), .inr (.inr (some (738)))]) rfl ?_
  refine ez_g3 hB tr rfl rfl tq_88 rfl rfl (fun (t1 : _ = 89) => ?_)
  refine ez_pf hB t738 rfl rfl tq_70 rfl rfl rfl rfl (ez_vd2 (by omega) (by omega)) (fun hB2 w3 => ?_)
  have f0 := ez_fr.refl cg_P h
  have v1 : qz_I (dz_put h 738 6 (ez_v (.inr (.inr (some (r + 1)))))) 738 6 = ((r + 1 : Nat) : Int) + 1 := w3
  have o1 : ∀ q j, ¬ (q = 738 ∧ j = 6) → qz_I (dz_put h 738 6 (ez_v (.inr (.inr (some (r + 1)))))) q j = qz_I h q j := fun q j w => ez_put_I w
  have f1 : ez_fr cg_P h (dz_put h 738 6 (ez_v (.inr (.inr (some (r + 1)))))) := f0.put (cg_Py (by decide) (by decide)) _ _
  have B1 := hB2
  generalize (dz_put h 738 6 (ez_v (.inr (.inr (some (r + 1)))))) = g1 at *
  refine ez_go (n := 2) (pc' := 10) (L' := [(0, .inr (.inr (some (738)))), (1, .inr (.inr (some (r)))), (2, .inl (loc))]) (st' := [.inr (.inr (some (r))), .inr (.inr (some (738)))]) rfl ?_
  refine ez_gI B1 tr rfl rfl tq_88 rfl rfl (fun (b4 : 0 ≤ qz_I g1 r 1) (b4' : qz_I g1 r 1 ≤ 2000) => ?_)
  have el : qz_I g1 r 1 = (u.length : Int) := (f1.I cr _).trans al
  rw [el]
  refine ez_pf B1 t738 rfl rfl tq_70 rfl rfl rfl rfl (ez_vdI rfl rfl (by omega) (by omega)) (fun hB5 w6 => ?_)
  have v2 : qz_I (dz_put g1 738 7 (ez_v (.inl ((u.length : Int))))) 738 7 = (u.length : Int) := w6.trans (ez_rg.v ⟨by omega, by omega⟩)
  have o2 : ∀ q j, ¬ (q = 738 ∧ j = 7) → qz_I (dz_put g1 738 7 (ez_v (.inl ((u.length : Int))))) q j = qz_I g1 q j := fun q j w => ez_put_I w
  have f2 : ez_fr cg_P h (dz_put g1 738 7 (ez_v (.inl ((u.length : Int))))) := f1.put (cg_Py (by decide) (by decide)) _ _
  have B2 := hB5
  generalize (dz_put g1 738 7 (ez_v (.inl ((u.length : Int))))) = g2 at *
  refine ez_go (n := 2) (pc' := 18) (L' := [(0, .inr (.inr (some (738)))), (1, .inr (.inr (some (r)))), (2, .inl (loc))]) (st' := [.inl (loc), .inr (.inr (some (738)))]) rfl ?_
  refine ez_pf B2 t738 rfl rfl tq_70 rfl rfl rfl rfl (ez_vdI rfl rfl (by omega) (by omega)) (fun hB7 w8 => ?_)
  have v3 : qz_I (dz_put g2 738 8 (ez_v (.inl (loc)))) 738 8 = loc := w8.trans (ez_rg.v ⟨by omega, by omega⟩)
  have o3 : ∀ q j, ¬ (q = 738 ∧ j = 8) → qz_I (dz_put g2 738 8 (ez_v (.inl (loc)))) q j = qz_I g2 q j := fun q j w => ez_put_I w
  have f3 : ez_fr cg_P h (dz_put g2 738 8 (ez_v (.inl (loc)))) := f2.put (cg_Py (by decide) (by decide)) _ _
  have B3 := hB7
  generalize (dz_put g2 738 8 (ez_v (.inl (loc)))) = g3 at *
  refine ez_go (n := 2) (pc' := 23) (L' := [(0, .inr (.inr (some (738)))), (1, .inr (.inr (some (r)))), (2, .inl (loc))]) (st' := [.inl (0), .inr (.inr (some (738)))]) rfl ?_
  refine ez_pf B3 t738 rfl rfl tq_70 rfl rfl rfl rfl (ez_vdI rfl rfl (by omega) (by omega)) (fun hB9 w10 => ?_)
  have v4 : qz_I (dz_put g3 738 9 (ez_v (.inl (0)))) 738 9 = 0 := w10.trans (ez_rg.v ⟨by omega, by omega⟩)
  have o4 : ∀ q j, ¬ (q = 738 ∧ j = 9) → qz_I (dz_put g3 738 9 (ez_v (.inl (0)))) q j = qz_I g3 q j := fun q j w => ez_put_I w
  have f4 : ez_fr cg_P h (dz_put g3 738 9 (ez_v (.inl (0)))) := f3.put (cg_Py (by decide) (by decide)) _ _
  have B4 := hB9
  generalize (dz_put g3 738 9 (ez_v (.inl (0)))) = g4 at *
  refine ez_go (n := 2) (pc' := 28) (L' := [(3, .inl (0)), (0, .inr (.inr (some (738)))), (1, .inr (.inr (some (r)))), (2, .inl (loc))]) (st' := []) rfl ?_
  refine ez_less [(3, .inl (0)), (0, .inr (.inr (some (738)))), (1, .inr (.inr (some (r)))), (2, .inl (loc))] rfl ⟨rfl, rfl, rfl, rfl, trivial⟩ ?_
  have v6 : qz_I g1 738 6 = ((r + 1 : Nat) : Int) + 1 := v1
  exact rd_cload_l hC hx tr a pu u2 k9 _ 0 g4 rfl (by omega) (by omega) B4 f4 ⟨by rw [o4 _ _ (by omega), o3 _ _ (by omega), o2 _ _ (by omega)]; exact v6, by rw [o4 _ _ (by omega), o3 _ _ (by omega)]; exact v2, by rw [o4 _ _ (by omega)]; exact v3, v4⟩ (fun k k0 k1 => by omega)

theorem rd_isAtt {i : Int} (hB : ez_B τ h) (t733 : τ 733 = 65) (e6 : qz_I h 733 6 = 1) (i0 : 0 ≤ i) (i1 : i < 2000) (k1 : (0 < i ∧ ign (qz_I h 734 (i).toNat) ∧ ¬ lnd (qz_I h 734 ((i) - (1)).toNat)) → Q (.inl (some (ez_v (.inl 1))), h)) (k0 : ¬ (0 < i ∧ ign (qz_I h 734 (i).toNat) ∧ ¬ lnd (qz_I h 734 ((i) - (1)).toNat)) → Q (.inl (some (ez_v (.inl 0))), h)) : ez_W (d + 1) cm_46 0 [(0, .inr (.inr (some (733)))), (1, .inl (i))] [] h Q := by
  refine ez_go (n := 1) (pc' := 1) (L' := [(0, .inr (.inr (some (733)))), (1, .inl (i))]) (st' := [.inr (.inr (some (733)))]) rfl ?_
  refine ez_gI hB t733 rfl rfl tq_65 rfl rfl (fun (b1 : 0 ≤ qz_I h 733 6) (b1' : qz_I h 733 6 ≤ 1) => ?_)
  refine ez_if rfl rfl ⟨by first | omega | exact (sz_i32 _).1, by first | omega | exact (sz_i32 _).2⟩ (fun (c2 : (qz_I h 733 6) = (0)) => ?_) (fun (c2 : ¬((qz_I h 733 6) = (0))) => ?_)
  · exfalso; omega
  · skip
    refine ez_go (n := 1) (pc' := 8) (L' := [(0, .inr (.inr (some (733)))), (1, .inl (i))]) (st' := [.inl (i)]) rfl ?_
    refine ez_if rfl rfl ⟨by first | omega | exact (sz_i32 _).1, by first | omega | exact (sz_i32 _).2⟩ (fun (c3 : (i) ≤ (0)) => ?_) (fun (c3 : ¬((i) ≤ (0))) => ?_)
    · skip
      refine ez_go (n := 1) (pc' := 42) (L' := [(0, .inr (.inr (some (733)))), (1, .inl (i))]) (st' := [.inl (0)]) rfl ?_
      exact ez_retZ rfl rfl (Or.inl rfl) (k0 (fun q => by first | (exfalso; omega) | exact absurd q.2.1 (by assumption) | exact absurd (by assumption) q.2.2))
    · skip
      refine ez_go (n := 1) (pc' := 12) (L' := [(0, .inr (.inr (some (733)))), (1, .inl (i))]) (st' := [.inr (.inr (some (733)))]) rfl ?_
      refine ez_gC (p := 734) (tg := 66) hB t733 rfl rfl tq_65 rfl rfl (fun (t734 : _ = 66) => ?_)
      refine ez_go (n := 1) (pc' := 16) (L' := [(0, .inr (.inr (some (733)))), (1, .inl (i))]) (st' := [.inl (i), .inr (.inr (some (734)))]) rfl ?_
      have n5 : 2000 ≤ qz_N h 734 ∧ qz_N h 734 ≤ 2000 := ez_len hB t734 tq_66 rfl
      refine ez_aI hB t734 rfl tq_66 rfl rfl (by omega) (by omega) (fun (b4 : -2147483648 ≤ qz_I h 734 (i).toNat) (b4' : qz_I h 734 (i).toNat ≤ 2147483647) => ?_)
      refine ez_cs hB.2.1 rfl rfl rfl rfl rfl (rd_bisIgnored hB ⟨by omega, by omega⟩ (fun (w1 : ign (qz_I h 734 (i).toNat)) => ez_K1 ?_) (fun (w1 : ¬ ign (qz_I h 734 (i).toNat)) => ez_K1 ?_))
      · skip
        refine ez_if rfl rfl ⟨by decide, by decide⟩ (fun (c6 : (1 : Int) = (0)) => absurd c6 (by decide)) (fun _ => ?_)
        refine ez_go (n := 1) (pc' := 24) (L' := [(0, .inr (.inr (some (733)))), (1, .inl (i))]) (st' := [.inr (.inr (some (733)))]) rfl ?_
        refine ez_gC (p := 734) (tg := 66) hB t733 rfl rfl tq_65 rfl rfl (fun (t734 : _ = 66) => ?_)
        refine ez_go (n := 3) (pc' := 30) (L' := [(0, .inr (.inr (some (733)))), (1, .inl (i))]) (st' := [.inl ((i) - (1)), .inr (.inr (some (734)))]) rfl ?_
        have n8 : 2000 ≤ qz_N h 734 ∧ qz_N h 734 ≤ 2000 := ez_len hB t734 tq_66 rfl
        refine ez_aI hB t734 rfl tq_66 rfl rfl (by omega) (by omega) (fun (b7 : -2147483648 ≤ qz_I h 734 ((i) - (1)).toNat) (b7' : qz_I h 734 ((i) - (1)).toNat ≤ 2147483647) => ?_)
        refine ez_cs hB.2.1 rfl rfl rfl rfl rfl (rd_bisLineEnd hB ⟨by omega, by omega⟩ (fun (w2 : lnd (qz_I h 734 ((i) - (1)).toNat)) => ez_K1 ?_) (fun (w2 : ¬ lnd (qz_I h 734 ((i) - (1)).toNat)) => ez_K1 ?_))
        · skip
          refine ez_if rfl rfl ⟨by decide, by decide⟩ (fun _ => ?_) (fun (c9 : ¬((1 : Int) ≠ (0))) => absurd c9 (by decide))
          refine ez_go (n := 1) (pc' := 42) (L' := [(0, .inr (.inr (some (733)))), (1, .inl (i))]) (st' := [.inl (0)]) rfl ?_
          exact ez_retZ rfl rfl (Or.inl rfl) (k0 (fun q => by first | (exfalso; omega) | exact absurd q.2.1 (by assumption) | exact absurd (by assumption) q.2.2))
        · skip
          refine ez_if rfl rfl ⟨by decide, by decide⟩ (fun (c10 : (0 : Int) ≠ (0)) => absurd c10 (by decide)) (fun _ => ?_)
          refine ez_go (n := 2) (pc' := 42) (L' := [(0, .inr (.inr (some (733)))), (1, .inl (i))]) (st' := [.inl (1)]) rfl ?_
          exact ez_retZ rfl rfl (Or.inr rfl) (k1 ⟨by omega, by assumption, by assumption⟩)
      · skip
        refine ez_if rfl rfl ⟨by decide, by decide⟩ (fun _ => ?_) (fun (c11 : ¬((0 : Int) = (0))) => absurd c11 (by decide))
        refine ez_go (n := 1) (pc' := 42) (L' := [(0, .inr (.inr (some (733)))), (1, .inl (i))]) (st' := [.inl (0)]) rfl ?_
        exact ez_retZ rfl rfl (Or.inl rfl) (k0 (fun q => by first | (exfalso; omega) | exact absurd q.2.1 (by assumption) | exact absurd (by assumption) q.2.2))

theorem rd_bl_b {i : Int} {g2 : cz_H} (hX : jz_X τ) (B2 : ez_B τ g2) (f2 : ez_fr cg_P h g2) (i0 : 0 ≤ i) (i1 : i < 2000) (v34 : qz_I g2 734 (i).toNat = wV D u i) (s26 : qz_I g2 733 6 = 1) (p34 : 0 < i → qz_I g2 734 (i - 1).toNat = wV D u (i - 1) ∧ qz_I g2 736 (i - 1).toNat = (bas (wV D u) (i - 1).toNat : Int)) (kc : ∀ g3, ez_B τ g3 → ez_fr cg_P h g3 → (∀ q j, ¬ (q = 736 ∧ j = (i).toNat) → qz_I g3 q j = qz_I g2 q j) → qz_I g3 736 (i).toNat = (bas (wV D u) (i).toNat : Int) → ez_W (d + 2) cm_59 112 [(3, .inl (i)), (0, .inr (.inr (some (733)))), (1, .inr (.inr (some (r)))), (2, .inl (1))] [] g3 Q) : ez_W (d + 2) cm_59 86 [(3, .inl (i)), (0, .inr (.inr (some (733)))), (1, .inr (.inr (some (r)))), (2, .inl (1))] [] g2 Q := by
  have t733 : τ 733 = 65 := hX 733 (by decide)
  have blx := bas_le (wV D u) (i).toNat
  refine ez_go (n := 1) (pc' := 87) (L' := [(3, .inl (i)), (0, .inr (.inr (some (733)))), (1, .inr (.inr (some (r)))), (2, .inl (1))]) (st' := [.inr (.inr (some (733)))]) rfl ?_
  refine ez_gC (p := 736) (tg := 68) B2 t733 rfl rfl tq_65 rfl rfl (fun (t736 : _ = 68) => ?_)
  refine ez_go (n := 3) (pc' := 93) (L' := [(3, .inl (i)), (0, .inr (.inr (some (733)))), (1, .inr (.inr (some (r)))), (2, .inl (1))]) (st' := [.inl (i), .inr (.inr (some (733))), .inl (i), .inr (.inr (some (736)))]) rfl ?_
  refine ez_cv B2 t733 rfl rfl rfl tq_65 rfl rfl rfl (rd_isAtt B2 t733 s26 (by omega) (by omega) (fun wa => ez_K1 ?_) (fun wa => ez_K1 ?_))
  · rw [v34, (p34 wa.1).1] at wa
    have eb : bas (wV D u) (i).toNat = bas (wV D u) (i - 1).toNat := by rw [bas_s _ wa.1, if_pos wa.2]
    have bl := bas_le (wV D u) (i - 1).toNat
    refine ez_if rfl rfl ⟨by decide, by decide⟩ (fun (c1 : (1 : Int) = (0)) => absurd c1 (by decide)) (fun _ => ?_)
    refine ez_go (n := 1) (pc' := 100) (L' := [(3, .inl (i)), (0, .inr (.inr (some (733)))), (1, .inr (.inr (some (r)))), (2, .inl (1))]) (st' := [.inr (.inr (some (733))), .inl (i), .inr (.inr (some (736)))]) rfl ?_
    refine ez_gC (p := 736) (tg := 68) B2 t733 rfl rfl tq_65 rfl rfl (fun (t736 : _ = 68) => ?_)
    refine ez_go (n := 3) (pc' := 106) (L' := [(3, .inl (i)), (0, .inr (.inr (some (733)))), (1, .inr (.inr (some (r)))), (2, .inl (1))]) (st' := [.inl ((i) - (1)), .inr (.inr (some (736))), .inl (i), .inr (.inr (some (736)))]) rfl ?_
    have n3 : 2000 ≤ qz_N g2 736 ∧ qz_N g2 736 ≤ 2000 := ez_len B2 t736 tq_68 rfl
    refine ez_aI B2 t736 rfl tq_68 rfl rfl (by omega) (by omega) (fun (b2 : 0 ≤ qz_I g2 736 ((i) - (1)).toNat) (b2' : qz_I g2 736 ((i) - (1)).toNat ≤ 1999) => ?_)
    rw [show qz_I g2 736 ((i) - (1)).toNat = (bas (wV D u) (i).toNat : Int) from by rw [eb]; exact (p34 wa.1).2]
    refine ez_go (n := 1) (pc' := 111) (L' := [(3, .inl (i)), (0, .inr (.inr (some (733)))), (1, .inr (.inr (some (r)))), (2, .inl (1))]) (st' := [.inl ((bas (wV D u) (i).toNat : Int)), .inl (i), .inr (.inr (some (736)))]) rfl ?_
    have n6 : 2000 ≤ qz_N g2 736 ∧ qz_N g2 736 ≤ 2000 := ez_len B2 t736 tq_68 rfl
    refine ez_as B2 t736 rfl tq_68 rfl rfl (by omega) (by omega) (ez_vdI rfl rfl (by omega) (by omega)) (fun hB4 w5 => ?_)
    have v3 : qz_I (dz_put g2 736 (i).toNat (ez_v (.inl ((bas (wV D u) (i).toNat : Int))))) 736 (i).toNat = (bas (wV D u) (i).toNat : Int) := w5.trans (ez_rg.v ⟨by omega, by omega⟩)
    have o3 : ∀ q j, ¬ (q = 736 ∧ j = (i).toNat) → qz_I (dz_put g2 736 (i).toNat (ez_v (.inl ((bas (wV D u) (i).toNat : Int))))) q j = qz_I g2 q j := fun q j w => ez_put_I w
    have f3 : ez_fr cg_P h (dz_put g2 736 (i).toNat (ez_v (.inl ((bas (wV D u) (i).toNat : Int))))) := f2.put (cg_Py (by decide) (by decide)) _ _
    have B3 := hB4
    generalize (dz_put g2 736 (i).toNat (ez_v (.inl ((bas (wV D u) (i).toNat : Int))))) = g3 at *
    have v36 : qz_I g3 736 (i).toNat = (bas (wV D u) (i).toNat : Int) := by rw [v3]
    refine ez_less [(3, .inl (i)), (0, .inr (.inr (some (733)))), (1, .inr (.inr (some (r)))), (2, .inl (1))] rfl ⟨rfl, rfl, rfl, rfl, trivial⟩ ?_
    exact kc g3 B3 f3 o3 v36
  · have eb : bas (wV D u) (i).toNat = (i).toNat := by
      by_cases w0 : 0 < i
      · rw [bas_s _ w0, if_neg (fun q => wa ⟨w0, by rw [v34]; exact q.1, by rw [(p34 w0).1]; exact q.2⟩)]
      · rw [bas_0 _ (by omega)]; omega
    refine ez_if rfl rfl ⟨by decide, by decide⟩ (fun _ => ?_) (fun (c7 : ¬((0 : Int) = (0))) => absurd c7 (by decide))
    refine ez_go (n := 1) (pc' := 111) (L' := [(3, .inl (i)), (0, .inr (.inr (some (733)))), (1, .inr (.inr (some (r)))), (2, .inl (1))]) (st' := [.inl (i), .inl (i), .inr (.inr (some (736)))]) rfl ?_
    have n10 : 2000 ≤ qz_N g2 736 ∧ qz_N g2 736 ≤ 2000 := ez_len B2 t736 tq_68 rfl
    refine ez_as B2 t736 rfl tq_68 rfl rfl (by omega) (by omega) (ez_vdI rfl rfl (by omega) (by omega)) (fun hB8 w9 => ?_)
    have v3 : qz_I (dz_put g2 736 (i).toNat (ez_v (.inl (i)))) 736 (i).toNat = i := w9.trans (ez_rg.v ⟨by omega, by omega⟩)
    have o3 : ∀ q j, ¬ (q = 736 ∧ j = (i).toNat) → qz_I (dz_put g2 736 (i).toNat (ez_v (.inl (i)))) q j = qz_I g2 q j := fun q j w => ez_put_I w
    have f3 : ez_fr cg_P h (dz_put g2 736 (i).toNat (ez_v (.inl (i)))) := f2.put (cg_Py (by decide) (by decide)) _ _
    have B3 := hB8
    generalize (dz_put g2 736 (i).toNat (ez_v (.inl (i)))) = g3 at *
    have v36 : qz_I g3 736 (i).toNat = (bas (wV D u) (i).toNat : Int) := by rw [v3, eb]; omega
    refine ez_less [(3, .inl (i)), (0, .inr (.inr (some (733)))), (1, .inr (.inr (some (r)))), (2, .inl (1))] rfl ⟨rfl, rfl, rfl, rfl, trivial⟩ ?_
    exact kc g3 B3 f3 o3 v36

theorem rd_bl_c {i : Int} {g3 : cz_H} (hX : jz_X τ) (B3 : ez_B τ g3) (f3 : ez_fr cg_P h g3) (i0 : 0 ≤ i) (i1 : i < 2000) (v34c : qz_I g3 734 (i).toNat = wV D u i) (q3c : 0 < i → qz_I g3 736 (i - 1).toNat = (bas (wV D u) (i - 1).toNat : Int)) (q5c : ∀ k, 0 ≤ k → k < i → (qz_I g3 737 k.toNat = 1 ↔ odd (wV D u) k.toNat)) (kc : ∀ g4, ez_B τ g4 → ez_fr cg_P h g4 → (∀ q j, ¬ (q = 737 ∧ j = (i).toNat) → qz_I g4 q j = qz_I g3 q j) → (qz_I g4 737 (i).toNat = 1 ↔ odd (wV D u) (i).toNat) → ez_W (d + 2) cm_59 24 [(3, .inl (i + 1)), (0, .inr (.inr (some (733)))), (1, .inr (.inr (some (r)))), (2, .inl (1))] [] g4 Q) : ez_W (d + 2) cm_59 112 [(3, .inl (i)), (0, .inr (.inr (some (733)))), (1, .inr (.inr (some (r)))), (2, .inl (1))] [] g3 Q := by
  have t733 : τ 733 = 65 := hX 733 (by decide)
  refine ez_go (n := 1) (pc' := 113) (L' := [(3, .inl (i)), (0, .inr (.inr (some (733)))), (1, .inr (.inr (some (r)))), (2, .inl (1))]) (st' := [.inr (.inr (some (733)))]) rfl ?_
  refine ez_gC (p := 737) (tg := 69) B3 t733 rfl rfl tq_65 rfl rfl (fun (t737 : _ = 69) => ?_)
  refine ez_go (n := 2) (pc' := 118) (L' := [(3, .inl (i)), (0, .inr (.inr (some (733)))), (1, .inr (.inr (some (r)))), (2, .inl (1))]) (st' := [.inr (.inr (some (733))), .inl (i), .inr (.inr (some (737)))]) rfl ?_
  refine ez_gC (p := 734) (tg := 66) B3 t733 rfl rfl tq_65 rfl rfl (fun (t734 : _ = 66) => ?_)
  refine ez_go (n := 1) (pc' := 122) (L' := [(3, .inl (i)), (0, .inr (.inr (some (733)))), (1, .inr (.inr (some (r)))), (2, .inl (1))]) (st' := [.inl (i), .inr (.inr (some (734))), .inl (i), .inr (.inr (some (737)))]) rfl ?_
  have n2 : 2000 ≤ qz_N g3 734 ∧ qz_N g3 734 ≤ 2000 := ez_len B3 t734 tq_66 rfl
  refine ez_aI B3 t734 rfl tq_66 rfl rfl (by omega) (by omega) (fun (b1 : -2147483648 ≤ qz_I g3 734 (i).toNat) (b1' : qz_I g3 734 (i).toNat ≤ 2147483647) => ?_)
  rw [v34c]
  refine ez_go (n := 1) (pc' := 125) (L' := [(3, .inl (i)), (0, .inr (.inr (some (733)))), (1, .inr (.inr (some (r)))), (2, .inl (1))]) (st' := [.inl (6), .inl (wV D u i), .inl (i), .inr (.inr (some (737)))]) rfl ?_
  refine ez_icmp rfl rfl ⟨by first | omega | exact (sz_i32 _).1, by first | omega | exact (sz_i32 _).2⟩ ⟨by first | omega | exact (sz_i32 _).1, by first | omega | exact (sz_i32 _).2⟩ (fun (c3 : (wV D u i) ≠ (6)) => ?_) (fun (c3 : ¬((wV D u i) ≠ (6))) => ?_)
  · skip
    refine ez_go (n := 1) (pc' := 153) (L' := [(3, .inl (i)), (0, .inr (.inr (some (733)))), (1, .inr (.inr (some (r)))), (2, .inl (1))]) (st' := [.inl (0), .inl (i), .inr (.inr (some (737)))]) rfl ?_
    have n6 : 2000 ≤ qz_N g3 737 ∧ qz_N g3 737 ≤ 2000 := ez_len B3 t737 tq_69 rfl
    refine ez_az B3 t737 rfl tq_69 rfl rfl (by omega) (by omega) (by omega) (ez_vdI rfl rfl (by omega) (by omega)) (fun hB4 w5 => ?_)
    have v4 : qz_I (dz_put g3 737 (i).toNat (ez_v (.inl (0)))) 737 (i).toNat = 0 := w5.trans (ez_rg.v ⟨by omega, by omega⟩)
    have o4 : ∀ q j, ¬ (q = 737 ∧ j = (i).toNat) → qz_I (dz_put g3 737 (i).toNat (ez_v (.inl (0)))) q j = qz_I g3 q j := fun q j w => ez_put_I w
    have f4 : ez_fr cg_P h (dz_put g3 737 (i).toNat (ez_v (.inl (0)))) := f3.put (cg_Py (by decide) (by decide)) _ _
    have B4 := hB4
    generalize (dz_put g3 737 (i).toNat (ez_v (.inl (0)))) = g4 at *
    have e4 : qz_I g4 737 (i).toNat = 1 ↔ odd (wV D u) (i).toNat := by rw [odd_s _ i0]; exact ⟨fun w => by omega, fun w => by first | (exfalso; have := w.1; omega) | exact absurd ⟨by omega, q5.mp (by omega)⟩ w.2⟩
    refine ez_go (n := 2) (pc' := 24) (L' := [(3, .inl (i + 1)), (0, .inr (.inr (some (733)))), (1, .inr (.inr (some (r)))), (2, .inl (1))]) (st' := []) rfl ?_
    refine ez_less [(3, .inl (i + 1)), (0, .inr (.inr (some (733)))), (1, .inr (.inr (some (r)))), (2, .inl (1))] rfl ⟨rfl, rfl, rfl, rfl, trivial⟩ ?_
    exact kc g4 B4 f4 o4 e4
  · skip
    refine ez_go (n := 1) (pc' := 129) (L' := [(3, .inl (i)), (0, .inr (.inr (some (733)))), (1, .inr (.inr (some (r)))), (2, .inl (1))]) (st' := [.inl (i), .inl (i), .inr (.inr (some (737)))]) rfl ?_
    refine ez_if rfl rfl ⟨by first | omega | exact (sz_i32 _).1, by first | omega | exact (sz_i32 _).2⟩ (fun (c7 : (i) ≤ (0)) => ?_) (fun (c7 : ¬((i) ≤ (0))) => ?_)
    · skip
      refine ez_go (n := 2) (pc' := 153) (L' := [(3, .inl (i)), (0, .inr (.inr (some (733)))), (1, .inr (.inr (some (r)))), (2, .inl (1))]) (st' := [.inl (1), .inl (i), .inr (.inr (some (737)))]) rfl ?_
      have n10 : 2000 ≤ qz_N g3 737 ∧ qz_N g3 737 ≤ 2000 := ez_len B3 t737 tq_69 rfl
      refine ez_az B3 t737 rfl tq_69 rfl rfl (by omega) (by omega) (by omega) (ez_vdI rfl rfl (by omega) (by omega)) (fun hB8 w9 => ?_)
      have v4 : qz_I (dz_put g3 737 (i).toNat (ez_v (.inl (1)))) 737 (i).toNat = 1 := w9.trans (ez_rg.v ⟨by omega, by omega⟩)
      have o4 : ∀ q j, ¬ (q = 737 ∧ j = (i).toNat) → qz_I (dz_put g3 737 (i).toNat (ez_v (.inl (1)))) q j = qz_I g3 q j := fun q j w => ez_put_I w
      have f4 : ez_fr cg_P h (dz_put g3 737 (i).toNat (ez_v (.inl (1)))) := f3.put (cg_Py (by decide) (by decide)) _ _
      have B4 := hB8
      generalize (dz_put g3 737 (i).toNat (ez_v (.inl (1)))) = g4 at *
      have e4 : qz_I g4 737 (i).toNat = 1 ↔ odd (wV D u) (i).toNat := by rw [odd_s _ i0]; exact ⟨fun _ => ⟨by omega, fun w => by first | (exfalso; omega) | (have := q5.mpr w.2; omega)⟩, fun _ => v4⟩
      refine ez_go (n := 2) (pc' := 24) (L' := [(3, .inl (i + 1)), (0, .inr (.inr (some (733)))), (1, .inr (.inr (some (r)))), (2, .inl (1))]) (st' := []) rfl ?_
      refine ez_less [(3, .inl (i + 1)), (0, .inr (.inr (some (733)))), (1, .inr (.inr (some (r)))), (2, .inl (1))] rfl ⟨rfl, rfl, rfl, rfl, trivial⟩ ?_
      exact kc g4 B4 f4 o4 e4
    · skip
      refine ez_go (n := 1) (pc' := 133) (L' := [(3, .inl (i)), (0, .inr (.inr (some (733)))), (1, .inr (.inr (some (r)))), (2, .inl (1))]) (st' := [.inr (.inr (some (733))), .inl (i), .inr (.inr (some (737)))]) rfl ?_
      refine ez_gC (p := 737) (tg := 69) B3 t733 rfl rfl tq_65 rfl rfl (fun (t737 : _ = 69) => ?_)
      refine ez_go (n := 1) (pc' := 137) (L' := [(3, .inl (i)), (0, .inr (.inr (some (733)))), (1, .inr (.inr (some (r)))), (2, .inl (1))]) (st' := [.inr (.inr (some (733))), .inr (.inr (some (737))), .inl (i), .inr (.inr (some (737)))]) rfl ?_
      refine ez_gC (p := 736) (tg := 68) B3 t733 rfl rfl tq_65 rfl rfl (fun (t736 : _ = 68) => ?_)
      refine ez_go (n := 3) (pc' := 143) (L' := [(3, .inl (i)), (0, .inr (.inr (some (733)))), (1, .inr (.inr (some (r)))), (2, .inl (1))]) (st' := [.inl ((i) - (1)), .inr (.inr (some (736))), .inr (.inr (some (737))), .inl (i), .inr (.inr (some (737)))]) rfl ?_
      have n12 : 2000 ≤ qz_N g3 736 ∧ qz_N g3 736 ≤ 2000 := ez_len B3 t736 tq_68 rfl
      refine ez_aI B3 t736 rfl tq_68 rfl rfl (by omega) (by omega) (fun (b11 : 0 ≤ qz_I g3 736 ((i) - (1)).toNat) (b11' : qz_I g3 736 ((i) - (1)).toNat ≤ 1999) => ?_)
      have q3 := q3c (by omega)
      have bl1 := bas_le (wV D u) (i - 1).toNat
      rw [show qz_I g3 736 ((i) - (1)).toNat = (bas (wV D u) (i - 1).toNat : Int) from q3]
      have n14 : 2000 ≤ qz_N g3 737 ∧ qz_N g3 737 ≤ 2000 := ez_len B3 t737 tq_69 rfl
      refine ez_aI B3 t737 rfl tq_69 rfl rfl (by omega) (by omega) (fun (b13 : 0 ≤ qz_I g3 737 ((bas (wV D u) (i - 1).toNat : Int)).toNat) (b13' : qz_I g3 737 ((bas (wV D u) (i - 1).toNat : Int)).toNat ≤ 1) => ?_)
      have q5 := q5c ((bas (wV D u) (i - 1).toNat : Nat) : Int) (by omega) (by omega)
      rw [show ((bas (wV D u) (i - 1).toNat : Nat) : Int).toNat = bas (wV D u) (i - 1).toNat from Int.toNat_natCast _] at q5
      have q8 : qz_I g3 737 ((bas (wV D u) (i - 1).toNat : Int)).toNat = qz_I g3 737 (bas (wV D u) (i - 1).toNat) := by rw [show ((bas (wV D u) (i - 1).toNat : Nat) : Int).toNat = bas (wV D u) (i - 1).toNat from Int.toNat_natCast _]
      refine ez_if rfl rfl ⟨by first | omega | exact (sz_i32 _).1, by first | omega | exact (sz_i32 _).2⟩ (fun (c15 : (qz_I g3 737 ((bas (wV D u) (i - 1).toNat : Int)).toNat) ≠ (0)) => ?_) (fun (c15 : ¬((qz_I g3 737 ((bas (wV D u) (i - 1).toNat : Int)).toNat) ≠ (0))) => ?_)
      · skip
        refine ez_go (n := 1) (pc' := 153) (L' := [(3, .inl (i)), (0, .inr (.inr (some (733)))), (1, .inr (.inr (some (r)))), (2, .inl (1))]) (st' := [.inl (0), .inl (i), .inr (.inr (some (737)))]) rfl ?_
        have n18 : 2000 ≤ qz_N g3 737 ∧ qz_N g3 737 ≤ 2000 := ez_len B3 t737 tq_69 rfl
        refine ez_az B3 t737 rfl tq_69 rfl rfl (by omega) (by omega) (by omega) (ez_vdI rfl rfl (by omega) (by omega)) (fun hB16 w17 => ?_)
        have v4 : qz_I (dz_put g3 737 (i).toNat (ez_v (.inl (0)))) 737 (i).toNat = 0 := w17.trans (ez_rg.v ⟨by omega, by omega⟩)
        have o4 : ∀ q j, ¬ (q = 737 ∧ j = (i).toNat) → qz_I (dz_put g3 737 (i).toNat (ez_v (.inl (0)))) q j = qz_I g3 q j := fun q j w => ez_put_I w
        have f4 : ez_fr cg_P h (dz_put g3 737 (i).toNat (ez_v (.inl (0)))) := f3.put (cg_Py (by decide) (by decide)) _ _
        have B4 := hB16
        generalize (dz_put g3 737 (i).toNat (ez_v (.inl (0)))) = g4 at *
        have e4 : qz_I g4 737 (i).toNat = 1 ↔ odd (wV D u) (i).toNat := by rw [odd_s _ i0]; exact ⟨fun w => by omega, fun w => by first | (exfalso; have := w.1; omega) | exact absurd ⟨by omega, q5.mp (by omega)⟩ w.2⟩
        refine ez_go (n := 2) (pc' := 24) (L' := [(3, .inl (i + 1)), (0, .inr (.inr (some (733)))), (1, .inr (.inr (some (r)))), (2, .inl (1))]) (st' := []) rfl ?_
        refine ez_less [(3, .inl (i + 1)), (0, .inr (.inr (some (733)))), (1, .inr (.inr (some (r)))), (2, .inl (1))] rfl ⟨rfl, rfl, rfl, rfl, trivial⟩ ?_
        exact kc g4 B4 f4 o4 e4
      · skip
        refine ez_go (n := 2) (pc' := 153) (L' := [(3, .inl (i)), (0, .inr (.inr (some (733)))), (1, .inr (.inr (some (r)))), (2, .inl (1))]) (st' := [.inl (1), .inl (i), .inr (.inr (some (737)))]) rfl ?_
        have n21 : 2000 ≤ qz_N g3 737 ∧ qz_N g3 737 ≤ 2000 := ez_len B3 t737 tq_69 rfl
        refine ez_az B3 t737 rfl tq_69 rfl rfl (by omega) (by omega) (by omega) (ez_vdI rfl rfl (by omega) (by omega)) (fun hB19 w20 => ?_)
        have v4 : qz_I (dz_put g3 737 (i).toNat (ez_v (.inl (1)))) 737 (i).toNat = 1 := w20.trans (ez_rg.v ⟨by omega, by omega⟩)
        have o4 : ∀ q j, ¬ (q = 737 ∧ j = (i).toNat) → qz_I (dz_put g3 737 (i).toNat (ez_v (.inl (1)))) q j = qz_I g3 q j := fun q j w => ez_put_I w
        have f4 : ez_fr cg_P h (dz_put g3 737 (i).toNat (ez_v (.inl (1)))) := f3.put (cg_Py (by decide) (by decide)) _ _
        have B4 := hB19
        generalize (dz_put g3 737 (i).toNat (ez_v (.inl (1)))) = g4 at *
        have e4 : qz_I g4 737 (i).toNat = 1 ↔ odd (wV D u) (i).toNat := by rw [odd_s _ i0]; exact ⟨fun _ => ⟨by omega, fun w => by first | (exfalso; omega) | (have := q5.mpr w.2; omega)⟩, fun _ => v4⟩
        refine ez_go (n := 2) (pc' := 24) (L' := [(3, .inl (i + 1)), (0, .inr (.inr (some (733)))), (1, .inr (.inr (some (r)))), (2, .inl (1))]) (st' := []) rfl ?_
        refine ez_less [(3, .inl (i + 1)), (0, .inr (.inr (some (733)))), (1, .inr (.inr (some (r)))), (2, .inl (1))] rfl ⟨rfl, rfl, rfl, rfl, trivial⟩ ?_
        exact kc g4 B4 f4 o4 e4

theorem rd_bload_l (hC : pz_C τ h T F E) (hx : sz_X τ h O D) (tr : τ r = 88) (a : tx h r u) (pu : ptl u) (u2 : (u.length : Int) ≤ 2000) (k9 : ∀ g, ez_B τ g → ez_fr cg_P h g → (∀ q, 738 ≤ q → q ≤ 742 → ∀ j, qz_I g q j = qz_I h q j) → bkC τ g D u → Q (.inl none, g)) : ∀ (n : Nat) (i : Int) (g : cz_H), n = ((u.length : Int) - i).toNat → 0 ≤ i → i ≤ (u.length : Int) → ez_B τ g → ez_fr cg_P h g → (qz_I g 733 5 = (u.length : Int) ∧ qz_I g 733 6 = 1) → (∀ k, 0 ≤ k → k < i → qz_I g 734 k.toNat = wV D u k ∧ (qz_I g 735 k.toNat = 1 ↔ wpi D u k) ∧ qz_I g 736 k.toNat = (bas (wV D u) k.toNat : Int) ∧ (qz_I g 737 k.toNat = 1 ↔ odd (wV D u) k.toNat)) → (∀ q, 738 ≤ q → q ≤ 742 → ∀ j, qz_I g q j = qz_I h q j) → ez_W (d + 2) cm_59 24 [(3, .inl (i)), (0, .inr (.inr (some (733)))), (1, .inr (.inr (some (r)))), (2, .inl (1))] [] g Q := by
  have hB := hC.1
  have hX := hC.2.1
  have t738 : τ 738 = 70 := hX 738 (by decide)
  have t733 : τ 733 = 65 := hX 733 (by decide)
  have tp := tx_p88 hB tr
  have al := a.1
  have cr : cg_P r = false := cg_tag hX (by rw [tr]; decide) (by rw [tr]; decide) (Or.inr (by rw [tr]; decide))
  have cp : cg_P (r + 1) = false := cg_tag hX (by rw [tp]; decide) (by rw [tp]; decide) (Or.inr (by rw [tp]; decide))
  intro n
  induction n with
  | zero =>
    intro i g hn0 i0 i1 hBg hf hs hv hz
    have e7 := hs.1
    have e6 := hs.2
    refine ez_go (n := 2) (pc' := 26) (L' := [(3, .inl (i)), (0, .inr (.inr (some (733)))), (1, .inr (.inr (some (r)))), (2, .inl (1))]) (st' := [.inr (.inr (some (733))), .inl (i)]) rfl ?_
    refine ez_gI hBg t733 rfl rfl tq_65 rfl rfl (fun (b1 : 0 ≤ qz_I g 733 5) (b1' : qz_I g 733 5 ≤ 2000) => ?_)
    refine ez_icmp rfl rfl ⟨by first | omega | exact (sz_i32 _).1, by first | omega | exact (sz_i32 _).2⟩ ⟨by first | omega | exact (sz_i32 _).1, by first | omega | exact (sz_i32 _).2⟩ (fun (c2 : (qz_I g 733 5) ≤ (i)) => ?_) (fun (c2 : ¬((qz_I g 733 5) ≤ (i))) => ?_)
    · skip
      have hn : i = (u.length : Int) := by omega
      subst hn
      exact ez_ret0 rfl rfl (k9 g hBg hf hz ⟨⟨hBg, hX⟩, u2, hs, hv⟩)
    · exfalso; omega
  | succ n ih =>
    intro i g hn0 i0 i1 hBg hf hs hv hz
    have e7 := hs.1
    have e6 := hs.2
    refine ez_go (n := 2) (pc' := 26) (L' := [(3, .inl (i)), (0, .inr (.inr (some (733)))), (1, .inr (.inr (some (r)))), (2, .inl (1))]) (st' := [.inr (.inr (some (733))), .inl (i)]) rfl ?_
    refine ez_gI hBg t733 rfl rfl tq_65 rfl rfl (fun (b1 : 0 ≤ qz_I g 733 5) (b1' : qz_I g 733 5 ≤ 2000) => ?_)
    refine ez_icmp rfl rfl ⟨by first | omega | exact (sz_i32 _).1, by first | omega | exact (sz_i32 _).2⟩ ⟨by first | omega | exact (sz_i32 _).1, by first | omega | exact (sz_i32 _).2⟩ (fun (c2 : (qz_I g 733 5) ≤ (i)) => ?_) (fun (c2 : ¬((qz_I g 733 5) ≤ (i))) => ?_)
    · skip
      have hn : i = (u.length : Int) := by omega
      subst hn
      exact ez_ret0 rfl rfl (k9 g hBg hf hz ⟨⟨hBg, hX⟩, u2, hs, hv⟩)
    · skip
      refine ez_go (n := 1) (pc' := 33) (L' := [(3, .inl (i)), (0, .inr (.inr (some (733)))), (1, .inr (.inr (some (r)))), (2, .inl (1))]) (st' := [.inr (.inr (some (733)))]) rfl ?_
      refine ez_gC (p := 202) (tg := 48) hBg t733 rfl rfl tq_65 rfl rfl (fun (t202 : _ = 48) => ?_)
      refine ez_go (n := 1) (pc' := 37) (L' := [(3, .inl (i)), (0, .inr (.inr (some (733)))), (1, .inr (.inr (some (r)))), (2, .inl (1))]) (st' := [.inr (.inr (some (r))), .inr (.inr (some (202)))]) rfl ?_
      refine ez_g3 hBg tr rfl rfl tq_88 rfl rfl (fun (t3 : _ = 89) => ?_)
      refine ez_go (n := 1) (pc' := 41) (L' := [(3, .inl (i)), (0, .inr (.inr (some (733)))), (1, .inr (.inr (some (r)))), (2, .inl (1))]) (st' := [.inl (i), .inr (.inr (some (r + 1))), .inr (.inr (some (202)))]) rfl ?_
      have n5 : 2000 ≤ qz_N g (r + 1) ∧ qz_N g (r + 1) ≤ 2000 := ez_len hBg t3 tq_89 rfl
      refine ez_aI hBg t3 rfl tq_89 rfl rfl (by omega) (by omega) (fun (b4 : -2147483648 ≤ qz_I g (r + 1) (i).toNat) (b4' : qz_I g (r + 1) (i).toNat ≤ 2147483647) => ?_)
      have ep : qz_I g (r + 1) (i).toNat = uX u i := (hf.I cp _).trans (uX_tx a (by omega))
      have pb := uX_ptl pu (show i.toNat < u.length by omega)
      rw [ep]
      have hCg : pz_C τ g T F E := hC.keep hBg (cg_kD hX hf)
      refine ez_cv hBg t202 rfl rfl rfl tq_48 rfl rfl rfl (rd_spanAt hCg pb.1 pb.2 (fun m atg tz => ez_KA ?_))
      have xg := cg_X hB hX hx hf
      have xq := xg _ _ pb.1 pb.2 atg
      have f0 := hf
      have n34 : sz_p g m ≠ 734 := fun w => by have q := tz; rw [w, hX 734 (by decide)] at q; revert q; decide
      refine ez_go (n := 2) (pc' := 48) (L' := [(4, .inr (.inr (some (sz_p g m)))), (3, .inl (i)), (0, .inr (.inr (some (733)))), (1, .inr (.inr (some (r)))), (2, .inl (1))]) (st' := [.inr (.inr (some (733)))]) rfl ?_
      refine ez_gC (p := 734) (tg := 66) hBg t733 rfl rfl tq_65 rfl rfl (fun (t734 : _ = 66) => ?_)
      refine ez_go (n := 2) (pc' := 53) (L' := [(4, .inr (.inr (some (sz_p g m)))), (3, .inl (i)), (0, .inr (.inr (some (733)))), (1, .inr (.inr (some (r)))), (2, .inl (1))]) (st' := [.inr (.inr (some (733))), .inl (i), .inr (.inr (some (734)))]) rfl ?_
      refine ez_gI hBg t733 rfl rfl tq_65 rfl rfl (fun (b6 : 0 ≤ qz_I g 733 6) (b6' : qz_I g 733 6 ≤ 1) => ?_)
      refine ez_if rfl rfl ⟨by first | omega | exact (sz_i32 _).1, by first | omega | exact (sz_i32 _).2⟩ (fun (c7 : (qz_I g 733 6) = (0)) => ?_) (fun (c7 : ¬((qz_I g 733 6) = (0))) => ?_)
      · exfalso; omega
      · skip
        refine ez_go (n := 1) (pc' := 61) (L' := [(4, .inr (.inr (some (sz_p g m)))), (3, .inl (i)), (0, .inr (.inr (some (733)))), (1, .inr (.inr (some (r)))), (2, .inl (1))]) (st' := [.inr (.inr (some (sz_p g m))), .inl (i), .inr (.inr (some (734)))]) rfl ?_
        refine ez_gI hBg tz rfl rfl tq_4 rfl rfl (fun (b8 : -2147483648 ≤ qz_I g (sz_p g m) 4) (b8' : qz_I g (sz_p g m) 4 ≤ 2147483647) => ?_)
        have ew : qz_I g (sz_p g m) 4 = wV D u i := xq.2.1.2.2
        rw [ew]
        refine ez_go (n := 1) (pc' := 72) (L' := [(4, .inr (.inr (some (sz_p g m)))), (3, .inl (i)), (0, .inr (.inr (some (733)))), (1, .inr (.inr (some (r)))), (2, .inl (1))]) (st' := [.inl (wV D u i), .inl (i), .inr (.inr (some (734)))]) rfl ?_
        have n11 : 2000 ≤ qz_N g 734 ∧ qz_N g 734 ≤ 2000 := ez_len hBg t734 tq_66 rfl
        refine ez_as hBg t734 rfl tq_66 rfl rfl (by omega) (by omega) (ez_vdI rfl rfl (by omega) (by omega)) (fun hB9 w10 => ?_)
        have v1 : qz_I (dz_put g 734 (i).toNat (ez_v (.inl (wV D u i)))) 734 (i).toNat = wV D u i := w10.trans (ez_rg.v ⟨by omega, by omega⟩)
        have o1 : ∀ q j, ¬ (q = 734 ∧ j = (i).toNat) → qz_I (dz_put g 734 (i).toNat (ez_v (.inl (wV D u i)))) q j = qz_I g q j := fun q j w => ez_put_I w
        have f1 : ez_fr cg_P h (dz_put g 734 (i).toNat (ez_v (.inl (wV D u i)))) := f0.put (cg_Py (by decide) (by decide)) _ _
        have B1 := hB9
        generalize (dz_put g 734 (i).toNat (ez_v (.inl (wV D u i)))) = g1 at *
        refine ez_go (n := 1) (pc' := 74) (L' := [(4, .inr (.inr (some (sz_p g m)))), (3, .inl (i)), (0, .inr (.inr (some (733)))), (1, .inr (.inr (some (r)))), (2, .inl (1))]) (st' := [.inr (.inr (some (733)))]) rfl ?_
        refine ez_gC (p := 735) (tg := 67) B1 t733 rfl rfl tq_65 rfl rfl (fun (t735 : _ = 67) => ?_)
        refine ez_go (n := 3) (pc' := 82) (L' := [(4, .inr (.inr (some (sz_p g m)))), (3, .inl (i)), (0, .inr (.inr (some (733)))), (1, .inr (.inr (some (r)))), (2, .inl (1))]) (st' := [.inl (16), .inr (.inr (some (sz_p g m))), .inl (i), .inr (.inr (some (735)))]) rfl ?_
        have et : qz_I g1 (sz_p g m) 2 = (D (uX u i)).2.1.1 := (o1 _ _ (fun w => n34 w.1)).trans xq.2.1.1
        refine ez_cv B1 tz rfl rfl rfl tq_4 rfl rfl rfl (rd_hasT B1 tz ⟨by decide, by decide⟩ (fun tr4 => ez_K1 ?_) (fun tr4 => ez_K1 ?_))
        · rw [et] at tr4
          have n14 : 2000 ≤ qz_N g1 735 ∧ qz_N g1 735 ≤ 2000 := ez_len B1 t735 tq_67 rfl
          refine ez_az B1 t735 rfl tq_67 rfl rfl (by omega) (by omega) (by omega) (ez_vdI rfl rfl (by omega) (by omega)) (fun hB12 w13 => ?_)
          have v2 : qz_I (dz_put g1 735 (i).toNat (ez_v (.inl (1)))) 735 (i).toNat = 1 := w13.trans (ez_rg.v ⟨by omega, by omega⟩)
          have o2 : ∀ q j, ¬ (q = 735 ∧ j = (i).toNat) → qz_I (dz_put g1 735 (i).toNat (ez_v (.inl (1)))) q j = qz_I g1 q j := fun q j w => ez_put_I w
          have f2 : ez_fr cg_P h (dz_put g1 735 (i).toNat (ez_v (.inl (1)))) := f1.put (cg_Py (by decide) (by decide)) _ _
          have B2 := hB12
          generalize (dz_put g1 735 (i).toNat (ez_v (.inl (1)))) = g2 at *
          have e2 : qz_I g2 735 (i).toNat = 1 ↔ wpi D u i := ⟨fun w => tr4, fun w => v2⟩
          have v34 : qz_I g2 734 (i).toNat = wV D u i := (o2 _ _ (by omega)).trans v1
          refine ez_less [(3, .inl (i)), (0, .inr (.inr (some (733)))), (1, .inr (.inr (some (r)))), (2, .inl (1))] rfl ⟨rfl, rfl, rfl, rfl, trivial⟩ ?_
          refine rd_bl_b hX B2 f2 i0 (by omega) v34 (by rw [o2 _ _ (by omega), o1 _ _ (by omega)]; exact hs.2) (fun w => by have q := hv (i - 1) (by omega) (by omega); exact ⟨by rw [o2 _ _ (by omega), o1 _ _ (by omega)]; exact q.1, by rw [o2 _ _ (by omega), o1 _ _ (by omega)]; exact q.2.2.1⟩) (fun g3 B3 f3 o3 v36 => ?_)
          have v34c : qz_I g3 734 (i).toNat = wV D u i := (o3 _ _ (by omega)).trans v34
          refine rd_bl_c hX B3 f3 i0 (by omega) v34c (fun w => by have q := hv (i - 1) (by omega) (by omega); rw [o3 _ _ (by omega), o2 _ _ (by omega), o1 _ _ (by omega)]; exact q.2.2.1) (fun k k0 k1 => by have q := hv k k0 k1; rw [o3 _ _ (by omega), o2 _ _ (by omega), o1 _ _ (by omega)]; exact q.2.2.2) (fun g4 B4 f4 o4 e4 => ?_)
          have og : ∀ q j, ¬ (734 ≤ q ∧ q ≤ 737 ∧ j = (i).toNat) → qz_I g4 q j = qz_I g q j := fun q j w => by rw [o4 q j (by omega), o3 q j (by omega), o2 q j (by omega), o1 q j (by omega)]
          refine ih (i + 1) g4 (by omega) (by omega) (by omega) B4 f4 ⟨by rw [og 733 5 (by omega)]; exact hs.1, by rw [og 733 6 (by omega)]; exact hs.2⟩ (fun k k0 k1 => ?_) (fun q q1 q2 => (fun j => by rw [og q j (by omega)]; exact hz q q1 q2 j))
          by_cases ek9 : k = i
          · rw [ek9]
            refine ⟨?_, ?_, ?_, e4⟩
            · rw [o4 _ _ (by omega)]; exact v34c
            · rw [o4 _ _ (by omega), o3 _ _ (by omega)]; exact e2
            · rw [o4 _ _ (by omega)]; exact v36
          · rw [og _ _ (by omega), og _ _ (by omega), og _ _ (by omega), og _ _ (by omega)]
            exact hv k k0 (by omega)
        · rw [et] at tr4
          have n17 : 2000 ≤ qz_N g1 735 ∧ qz_N g1 735 ≤ 2000 := ez_len B1 t735 tq_67 rfl
          refine ez_az B1 t735 rfl tq_67 rfl rfl (by omega) (by omega) (by omega) (ez_vdI rfl rfl (by omega) (by omega)) (fun hB15 w16 => ?_)
          have v2 : qz_I (dz_put g1 735 (i).toNat (ez_v (.inl (0)))) 735 (i).toNat = 0 := w16.trans (ez_rg.v ⟨by omega, by omega⟩)
          have o2 : ∀ q j, ¬ (q = 735 ∧ j = (i).toNat) → qz_I (dz_put g1 735 (i).toNat (ez_v (.inl (0)))) q j = qz_I g1 q j := fun q j w => ez_put_I w
          have f2 : ez_fr cg_P h (dz_put g1 735 (i).toNat (ez_v (.inl (0)))) := f1.put (cg_Py (by decide) (by decide)) _ _
          have B2 := hB15
          generalize (dz_put g1 735 (i).toNat (ez_v (.inl (0)))) = g2 at *
          have e2 : qz_I g2 735 (i).toNat = 1 ↔ wpi D u i := ⟨fun w => by omega, fun w => absurd w tr4⟩
          have v34 : qz_I g2 734 (i).toNat = wV D u i := (o2 _ _ (by omega)).trans v1
          refine ez_less [(3, .inl (i)), (0, .inr (.inr (some (733)))), (1, .inr (.inr (some (r)))), (2, .inl (1))] rfl ⟨rfl, rfl, rfl, rfl, trivial⟩ ?_
          refine rd_bl_b hX B2 f2 i0 (by omega) v34 (by rw [o2 _ _ (by omega), o1 _ _ (by omega)]; exact hs.2) (fun w => by have q := hv (i - 1) (by omega) (by omega); exact ⟨by rw [o2 _ _ (by omega), o1 _ _ (by omega)]; exact q.1, by rw [o2 _ _ (by omega), o1 _ _ (by omega)]; exact q.2.2.1⟩) (fun g3 B3 f3 o3 v36 => ?_)
          have v34c : qz_I g3 734 (i).toNat = wV D u i := (o3 _ _ (by omega)).trans v34
          refine rd_bl_c hX B3 f3 i0 (by omega) v34c (fun w => by have q := hv (i - 1) (by omega) (by omega); rw [o3 _ _ (by omega), o2 _ _ (by omega), o1 _ _ (by omega)]; exact q.2.2.1) (fun k k0 k1 => by have q := hv k k0 k1; rw [o3 _ _ (by omega), o2 _ _ (by omega), o1 _ _ (by omega)]; exact q.2.2.2) (fun g4 B4 f4 o4 e4 => ?_)
          have og : ∀ q j, ¬ (734 ≤ q ∧ q ≤ 737 ∧ j = (i).toNat) → qz_I g4 q j = qz_I g q j := fun q j w => by rw [o4 q j (by omega), o3 q j (by omega), o2 q j (by omega), o1 q j (by omega)]
          refine ih (i + 1) g4 (by omega) (by omega) (by omega) B4 f4 ⟨by rw [og 733 5 (by omega)]; exact hs.1, by rw [og 733 6 (by omega)]; exact hs.2⟩ (fun k k0 k1 => ?_) (fun q q1 q2 => (fun j => by rw [og q j (by omega)]; exact hz q q1 q2 j))
          by_cases ek9 : k = i
          · rw [ek9]
            refine ⟨?_, ?_, ?_, e4⟩
            · rw [o4 _ _ (by omega)]; exact v34c
            · rw [o4 _ _ (by omega), o3 _ _ (by omega)]; exact e2
            · rw [o4 _ _ (by omega)]; exact v36
          · rw [og _ _ (by omega), og _ _ (by omega), og _ _ (by omega), og _ _ (by omega)]
            exact hv k k0 (by omega)

theorem rd_bload (hC : pz_C τ h T F E) (hx : sz_X τ h O D) (tr : τ r = 88) (a : tx h r u) (pu : ptl u) (u2 : (u.length : Int) ≤ 2000) (k9 : ∀ g, ez_B τ g → ez_fr cg_P h g → (∀ q, 738 ≤ q → q ≤ 742 → ∀ j, qz_I g q j = qz_I h q j) → bkC τ g D u → Q (.inl none, g)) : ez_W (d + 2) cm_59 0 [(0, .inr (.inr (some (733)))), (1, .inr (.inr (some (r)))), (2, .inl (1))] [] h Q := by
  have hB := hC.1
  have hX := hC.2.1
  have t738 : τ 738 = 70 := hX 738 (by decide)
  have t733 : τ 733 = 65 := hX 733 (by decide)
  have tp := tx_p88 hB tr
  have al := a.1
  have cr : cg_P r = false := cg_tag hX (by rw [tr]; decide) (by rw [tr]; decide) (Or.inr (by rw [tr]; decide))
  have cp : cg_P (r + 1) = false := cg_tag hX (by rw [tp]; decide) (by rw [tp]; decide) (Or.inr (by rw [tp]; decide))
  refine ez_go (n := 2) (pc' := 2) (L' := [(0, .inr (.inr (some (733)))), (1, .inr (.inr (some (r)))), (2, .inl (1))]) (st' := [.inr (.inr (some (r))), .inr (.inr (some (733)))]) rfl ?_
  refine ez_gI hB tr rfl rfl tq_88 rfl rfl (fun (b1 : 0 ≤ qz_I h r 1) (b1' : qz_I h r 1 ≤ 2000) => ?_)
  have el : qz_I h r 1 = (u.length : Int) := al
  rw [el]
  have f0 := ez_fr.refl cg_P h
  refine ez_pf hB t733 rfl rfl tq_65 rfl rfl rfl rfl (ez_vdI rfl rfl (by omega) (by omega)) (fun hB2 w3 => ?_)
  have v1 : qz_I (dz_put h 733 5 (ez_v (.inl ((u.length : Int))))) 733 5 = (u.length : Int) := w3.trans (ez_rg.v ⟨by omega, by omega⟩)
  have o1 : ∀ q j, ¬ (q = 733 ∧ j = 5) → qz_I (dz_put h 733 5 (ez_v (.inl ((u.length : Int))))) q j = qz_I h q j := fun q j w => ez_put_I w
  have f1 : ez_fr cg_P h (dz_put h 733 5 (ez_v (.inl ((u.length : Int))))) := f0.put (cg_Py (by decide) (by decide)) _ _
  have B1 := hB2
  generalize (dz_put h 733 5 (ez_v (.inl ((u.length : Int))))) = g1 at *
  refine ez_go (n := 3) (pc' := 11) (L' := [(0, .inr (.inr (some (733)))), (1, .inr (.inr (some (r)))), (2, .inl (1))]) (st' := [.inl (1), .inl (1), .inr (.inr (some (733)))]) rfl ?_
  refine ez_icmp rfl rfl ⟨by decide, by decide⟩ ⟨by decide, by decide⟩ (fun (c4 : (1 : Int) ≠ (1)) => absurd c4 (by decide)) (fun _ => ?_)
  refine ez_go (n := 2) (pc' := 19) (L' := [(0, .inr (.inr (some (733)))), (1, .inr (.inr (some (r)))), (2, .inl (1))]) (st' := [.inl (1), .inr (.inr (some (733)))]) rfl ?_
  refine ez_pf B1 t733 rfl rfl tq_65 rfl rfl rfl rfl (ez_vdI rfl rfl (by omega) (by omega)) (fun hB5 w6 => ?_)
  have v2 : qz_I (dz_put g1 733 6 (ez_v (.inl (1)))) 733 6 = 1 := w6.trans (ez_rg.v ⟨by omega, by omega⟩)
  have o2 : ∀ q j, ¬ (q = 733 ∧ j = 6) → qz_I (dz_put g1 733 6 (ez_v (.inl (1)))) q j = qz_I g1 q j := fun q j w => ez_put_I w
  have f2 : ez_fr cg_P h (dz_put g1 733 6 (ez_v (.inl (1)))) := f1.put (cg_Py (by decide) (by decide)) _ _
  have B2 := hB5
  generalize (dz_put g1 733 6 (ez_v (.inl (1)))) = g2 at *
  refine ez_go (n := 2) (pc' := 24) (L' := [(3, .inl (0)), (0, .inr (.inr (some (733)))), (1, .inr (.inr (some (r)))), (2, .inl (1))]) (st' := []) rfl ?_
  refine ez_less [(3, .inl (0)), (0, .inr (.inr (some (733)))), (1, .inr (.inr (some (r)))), (2, .inl (1))] rfl ⟨rfl, rfl, rfl, rfl, trivial⟩ ?_
  exact rd_bload_l hC hx tr a pu u2 k9 _ 0 g2 rfl (by omega) (by omega) B2 f2 ⟨by rw [o2 _ _ (by omega)]; exact v1, v2⟩ (fun k k0 k1 => by omega) (fun q q1 q2 j => by rw [o2 _ _ (by omega), o1 _ _ (by omega)])

end EzLd
/-! The class: change. (Written by wip/p2/py/pvy4.py.) -/
section EzCg
variable {d : Nat} {h : cz_H} {τ : Nat → Nat} {Q : cz_F → Prop} {F : rz_W} {E : Int → Prop} {T : Int → Nat} {D : Int → xD} {O : Nat → Int} {u l : List Int} {r p : Nat} {loc : Int} {X : Nat → List Int}
theorem rd_appMapped {i kind : Int} (c : ckC τ h F D p u loc) (hx : sz_X τ h O D) (hd : dok D) (lr : ez_rg loc) (i0 : 0 ≤ i) (i1 : i < (u.length : Int)) (k0 : 0 ≤ kind) (k2 : kind ≤ 2) (a : tx h 196 l) (k1 : ∀ m, cmR D F u loc kind i m → l.length + m.length ≤ 2000 → ∀ g, ez_B τ g → ez_fr (tx_P 196) h g → tx g 196 (l ++ m) → Q (.inl (some (ez_v (.inl 1))), g)) (kz : ∀ m, cmR D F u loc kind i m → 2000 < l.length + m.length → Q (.inl (some (ez_v (.inl 0))), h)) : ez_W (d + 4) cm_64 0 [(0, .inr (.inr (some (738)))), (1, .inr (.inr (some (196)))), (2, .inl (i)), (3, .inl (kind))] [] h Q := by
  have hB := c.1.1
  have hX := c.1.2
  have t738 : τ 738 = 70 := hX 738 (by decide)
  have t196 : τ 196 = 1 := hX 196 (by decide)
  have n2 := c.2.2.1.1
  refine ez_go (n := 3) (pc' := 3) (L' := [(0, .inr (.inr (some (738)))), (1, .inr (.inr (some (196)))), (2, .inl (i)), (3, .inl (kind))]) (st' := [.inl (kind), .inl (i), .inr (.inr (some (738)))]) rfl ?_
  refine ez_cv hB t738 rfl rfl rfl tq_70 rfl rfl rfl (rd_specialRow c hx lr i0 i1 k0 k2 (fun r9 o sp os => ez_KA ?_))
  obtain e9 | ⟨s, e9⟩ : r9 = none ∨ ∃ s, r9 = some s := by cases r9 with | none => exact Or.inl rfl | some s => exact Or.inr ⟨s, rfl⟩
  · have eo := os.1 e9
    subst eo
    have cm : cmR D F u loc kind i [ownc (D (uX u i)).1 kind (uX u i)] := ⟨r9, sp, fun s e => (by rw [e9] at e; cases e), fun _ => rfl⟩
    refine ez_go (n := 2) (pc' := 10) (L' := [(4, .inr (.inr none)), (0, .inr (.inr (some (738)))), (1, .inr (.inr (some (196)))), (2, .inl (i)), (3, .inl (kind))]) (st' := [.inr (.inr none)]) rfl ?_
    refine ez_null0 rfl rfl ?_
    refine ez_go (n := 4) (pc' := 28) (L' := [(4, .inr (.inr none)), (0, .inr (.inr (some (738)))), (1, .inr (.inr (some (196)))), (2, .inl (i)), (3, .inl (kind))]) (st' := [.inl (kind), .inl (i), .inr (.inr (some (738))), .inr (.inr (some (196)))]) rfl ?_
    refine ez_cv hB t738 rfl rfl rfl tq_70 rfl rfl rfl (rd_ownCase c hx i0 i1 k0 k2 (ez_K1 ?_))
    have ob := ownc_ok hd (kind := kind) (uX_ptl c.2.2.1.2 (show i.toNat < u.length by omega))
    refine ez_cv hB t196 rfl rfl rfl tq_1 rfl rfl rfl (rd_txa hB t196 a ⟨by omega, by omega⟩ (fun lt g2 hB2 f2 t2 => ez_K1 ?_) (fun lt => ez_K1 ?_))
    · exact ez_retZ rfl rfl (Or.inr rfl) (k1 _ cm (by show l.length + 1 ≤ 2000; omega) g2 hB2 f2 t2)
    · exact ez_retZ rfl rfl (Or.inl rfl) (kz _ cm (by show 2000 < l.length + 1; omega))
  · obtain ⟨w, eo, wt, wn, wv⟩ := os.2 s e9
    subst eo
    have cm : cmR D F u loc kind i (rowK s kind) := ⟨r9, sp, fun s2 e => (by rw [e9] at e; cases e; rfl), fun e => (by rw [e9] at e; cases e)⟩
    have ro : ptl (rowK s kind) ∧ (rowK s kind).length ≤ 18 := by rcases spR_mem sp with w9 | ⟨q, q1, q2⟩; (· rw [e9] at w9; cases w9); (· rw [e9] at q2; cases q2; exact rowK_ok hd q1)
    refine ez_go (n := 2) (pc' := 10) (L' := [(4, .inr (.inr (some (w)))), (0, .inr (.inr (some (738)))), (1, .inr (.inr (some (196)))), (2, .inl (i)), (3, .inl (kind))]) (st' := [.inr (.inr (some (w)))]) rfl ?_
    refine ez_null1 rfl ?_
    refine ez_go (n := 4) (pc' := 19) (L' := [(4, .inr (.inr (some (w)))), (0, .inr (.inr (some (738)))), (1, .inr (.inr (some (196)))), (2, .inl (i)), (3, .inl (kind))]) (st' := [.inr (.inr (some (w))), .inl (0), .inr (.inr (some (w))), .inr (.inr (some (196)))]) rfl ?_
    refine ez_al hB wt rfl tq_5 rfl (fun (b1 : 0 ≤ qz_N h w) (b1' : qz_N h w ≤ 18) => ?_)
    rw [wn]
    refine ez_cv hB t196 rfl rfl rfl tq_1 rfl rfl rfl (rd_appRow (m := rowK s kind) t196 wt a (fun e => by rw [e, hX 197 (by decide)] at wt; revert wt; decide) rfl (by omega) (by omega) (by omega) (fun j v hv => by rw [show (0 + (j : Int)).toNat = j by omega]; exact wv j v hv) (ptl_rg ro.1) hB (fun lt g2 hB2 f2 t2 => ez_K1 ?_) (fun lt => ez_K1 ?_))
    · exact ez_retZ rfl rfl (Or.inr rfl) (k1 _ cm lt g2 hB2 f2 t2)
    · exact ez_retZ rfl rfl (Or.inl rfl) (kz _ cm lt)

theorem rd_foldRow {z f : Nat} {x t : Int} (hB : ez_B τ h) (tz : τ z = 4) (xq : xQ τ h O x (D x) f z) (ht : (t = 1 ∧ (loc = 1 ∨ loc = 2)) ∨ (t = 0 ∧ ¬ (loc = 1 ∨ loc = 2))) (k : ∀ o, ofr τ h o (fdo loc (D x)) → Q (.inl (some (.inr (.inr o))), h)) : ez_W d cm_71 0 [(0, .inr (.inr (some (z)))), (1, .inl (t))] [] h Q := by
  refine ez_go (n := 1) (pc' := 1) (L' := [(0, .inr (.inr (some (z)))), (1, .inl (t))]) (st' := [.inl (t)]) rfl ?_
  refine ez_if rfl rfl ⟨by first | omega | exact (sz_i32 _).1, by first | omega | exact (sz_i32 _).2⟩ (fun (c1 : (t) = (0)) => ?_) (fun (c1 : ¬((t) = (0))) => ?_)
  · skip
    refine ez_go (n := 1) (pc' := 17) (L' := [(0, .inr (.inr (some (z)))), (1, .inl (t))]) (st' := [.inr (.inr (some (z)))]) rfl ?_
    refine ez_gN hB tz rfl rfl tq_4 rfl rfl (fun (t2 : qz_I h z 6 = 0) => ?_) (fun (t2 : _ = 5) (t2' : 1 ≤ qz_I h z 6) => ?_)
    · skip
      refine ez_null0 rfl rfl ?_
      refine ez_go (n := 1) (pc' := 31) (L' := [(0, .inr (.inr (some (z)))), (1, .inl (t))]) (st' := [.inr (.inr (some (z)))]) rfl ?_
      refine ez_gN hB tz rfl rfl tq_4 rfl rfl (fun (t3 : qz_I h z 5 = 0) => ?_) (fun (t3 : _ = 5) (t3' : 1 ≤ qz_I h z 5) => ?_)
      · skip
        first | (exfalso; omega) | exact ez_retA rfl rfl rfl (k none (by rw [fdo_C (fun w => by first | (exfalso; omega) | exact w.2 (xO_n xq.2.2.1.2.2 (by assumption))) (xO_n xq.2.2.1.2.1 (by assumption)), xO_n xq.2.2.1.1 (by assumption)]; exact ⟨fun _ => rfl, fun l e => by cases e⟩))
      · skip
        exact ez_retA rfl rfl rfl (k _ (by rw [fdo_C (fun w => by first | (exfalso; omega) | exact w.2 (xO_n xq.2.2.1.2.2 (by assumption))) (xO_n xq.2.2.1.2.1 (by assumption))]; exact ofr_y xq.2.2.1.1 (by assumption)))
    · skip
      refine ez_null1 rfl ?_
      refine ez_go (n := 1) (pc' := 24) (L' := [(0, .inr (.inr (some (z)))), (1, .inl (t))]) (st' := [.inr (.inr (some (z)))]) rfl ?_
      refine ez_gN hB tz rfl rfl tq_4 rfl rfl (fun (t4 : qz_I h z 6 = 0) => ?_) (fun (t4 : _ = 5) (t4' : 1 ≤ qz_I h z 6) => ?_)
      · skip
        refine ez_go (n := 1) (pc' := 34) (L' := [(0, .inr (.inr (some (z)))), (1, .inl (t))]) (st' := [.inr (.inr none)]) rfl ?_
        first | (exfalso; omega) | exact ez_retA rfl rfl rfl (k none (by rw [fdo_C (fun w => by first | (exfalso; omega) | exact w.2 (xO_n xq.2.2.1.2.2 (by assumption))) (xO_n xq.2.2.1.2.1 (by assumption)), xO_n xq.2.2.1.1 (by assumption)]; exact ⟨fun _ => rfl, fun l e => by cases e⟩))
      · skip
        refine ez_go (n := 1) (pc' := 34) (L' := [(0, .inr (.inr (some (z)))), (1, .inl (t))]) (st' := [.inr (.inr (some (qz_P h z 6)))]) rfl ?_
        exact ez_retA rfl rfl rfl (k _ (by rw [fdo_F (fun w => by first | (exfalso; omega) | exact w.2 (xO_n xq.2.2.1.2.2 (by assumption))) (xO_y xq.2.2.1.2.1 (by assumption))]; exact ofr_y xq.2.2.1.2.1 (by assumption)))
  · skip
    refine ez_go (n := 1) (pc' := 5) (L' := [(0, .inr (.inr (some (z)))), (1, .inl (t))]) (st' := [.inr (.inr (some (z)))]) rfl ?_
    refine ez_gN hB tz rfl rfl tq_4 rfl rfl (fun (t5 : qz_I h z 7 = 0) => ?_) (fun (t5 : _ = 5) (t5' : 1 ≤ qz_I h z 7) => ?_)
    · skip
      refine ez_null0 rfl rfl ?_
      refine ez_go (n := 1) (pc' := 17) (L' := [(0, .inr (.inr (some (z)))), (1, .inl (t))]) (st' := [.inr (.inr (some (z)))]) rfl ?_
      refine ez_gN hB tz rfl rfl tq_4 rfl rfl (fun (t6 : qz_I h z 6 = 0) => ?_) (fun (t6 : _ = 5) (t6' : 1 ≤ qz_I h z 6) => ?_)
      · skip
        refine ez_null0 rfl rfl ?_
        refine ez_go (n := 1) (pc' := 31) (L' := [(0, .inr (.inr (some (z)))), (1, .inl (t))]) (st' := [.inr (.inr (some (z)))]) rfl ?_
        refine ez_gN hB tz rfl rfl tq_4 rfl rfl (fun (t7 : qz_I h z 5 = 0) => ?_) (fun (t7 : _ = 5) (t7' : 1 ≤ qz_I h z 5) => ?_)
        · skip
          first | (exfalso; omega) | exact ez_retA rfl rfl rfl (k none (by rw [fdo_C (fun w => by first | (exfalso; omega) | exact w.2 (xO_n xq.2.2.1.2.2 (by assumption))) (xO_n xq.2.2.1.2.1 (by assumption)), xO_n xq.2.2.1.1 (by assumption)]; exact ⟨fun _ => rfl, fun l e => by cases e⟩))
        · skip
          exact ez_retA rfl rfl rfl (k _ (by rw [fdo_C (fun w => by first | (exfalso; omega) | exact w.2 (xO_n xq.2.2.1.2.2 (by assumption))) (xO_n xq.2.2.1.2.1 (by assumption))]; exact ofr_y xq.2.2.1.1 (by assumption)))
      · skip
        refine ez_null1 rfl ?_
        refine ez_go (n := 1) (pc' := 24) (L' := [(0, .inr (.inr (some (z)))), (1, .inl (t))]) (st' := [.inr (.inr (some (z)))]) rfl ?_
        refine ez_gN hB tz rfl rfl tq_4 rfl rfl (fun (t8 : qz_I h z 6 = 0) => ?_) (fun (t8 : _ = 5) (t8' : 1 ≤ qz_I h z 6) => ?_)
        · skip
          refine ez_go (n := 1) (pc' := 34) (L' := [(0, .inr (.inr (some (z)))), (1, .inl (t))]) (st' := [.inr (.inr none)]) rfl ?_
          first | (exfalso; omega) | exact ez_retA rfl rfl rfl (k none (by rw [fdo_C (fun w => by first | (exfalso; omega) | exact w.2 (xO_n xq.2.2.1.2.2 (by assumption))) (xO_n xq.2.2.1.2.1 (by assumption)), xO_n xq.2.2.1.1 (by assumption)]; exact ⟨fun _ => rfl, fun l e => by cases e⟩))
        · skip
          refine ez_go (n := 1) (pc' := 34) (L' := [(0, .inr (.inr (some (z)))), (1, .inl (t))]) (st' := [.inr (.inr (some (qz_P h z 6)))]) rfl ?_
          exact ez_retA rfl rfl rfl (k _ (by rw [fdo_F (fun w => by first | (exfalso; omega) | exact w.2 (xO_n xq.2.2.1.2.2 (by assumption))) (xO_y xq.2.2.1.2.1 (by assumption))]; exact ofr_y xq.2.2.1.2.1 (by assumption)))
    · skip
      refine ez_null1 rfl ?_
      refine ez_go (n := 1) (pc' := 12) (L' := [(0, .inr (.inr (some (z)))), (1, .inl (t))]) (st' := [.inr (.inr (some (z)))]) rfl ?_
      refine ez_gN hB tz rfl rfl tq_4 rfl rfl (fun (t9 : qz_I h z 7 = 0) => ?_) (fun (t9 : _ = 5) (t9' : 1 ≤ qz_I h z 7) => ?_)
      · skip
        first | (exfalso; omega) | exact ez_retA rfl rfl rfl (k none (by rw [fdo_C (fun w => by first | (exfalso; omega) | exact w.2 (xO_n xq.2.2.1.2.2 (by assumption))) (xO_n xq.2.2.1.2.1 (by assumption)), xO_n xq.2.2.1.1 (by assumption)]; exact ⟨fun _ => rfl, fun l e => by cases e⟩))
      · skip
        exact ez_retA rfl rfl rfl (k _ (by rw [fdo_T (by omega) (xO_y xq.2.2.1.2.2 (by assumption))]; exact ofr_y xq.2.2.1.2.2 (by assumption)))

theorem rd_fold_l {t : Int} (hC : pz_C τ h T F E) (hx : sz_X τ h O D) (hd : dok D) (tr : τ r = 88) (a : tx h r u) (pu : ptl u) (u2 : (u.length : Int) ≤ 2000) (lr : ez_rg loc) (ht : (t = 1 ∧ (loc = 1 ∨ loc = 2)) ∨ (t = 0 ∧ ¬ (loc = 1 ∨ loc = 2))) (k1 : ∀ res, chS D F u loc 3 res → ptl res → res.length ≤ 2000 → ∀ g, ez_B τ g → ez_fr cg_P h g → tx g 196 res → Q (.inl (some (ez_v (.inl 1))), g)) (k0 : chN D F u loc 3 → ∀ g, ez_B τ g → ez_fr cg_P h g → Q (.inl (some (ez_v (.inl 0))), g)) : ∀ (n : Nat) (i : Int) (g : cz_H) (ml : List Int), n = ((u.length : Int) - i).toNat → 0 ≤ i → i ≤ (u.length : Int) → ez_B τ g → ez_fr cg_P h g → chR D F u loc 3 i.toNat False ml → ptl ml → ml.length ≤ 2000 → tx g 196 ml → ez_W (d + 2) cm_70 28 [(6, .inl (i)), (5, .inl (1)), (4, .inl (t)), (0, .inr (.inr (some (738)))), (1, .inr (.inr (some (r)))), (2, .inr (.inr (some (196)))), (3, .inl (loc))] [] g Q := by
  have hB := hC.1
  have hX := hC.2.1
  have t738 : τ 738 = 70 := hX 738 (by decide)
  have t196 : τ 196 = 1 := hX 196 (by decide)
  have tp := tx_p88 hB tr
  have al := a.1
  have cr : cg_P r = false := cg_tag hX (by rw [tr]; decide) (by rw [tr]; decide) (Or.inr (by rw [tr]; decide))
  have cp : cg_P (r + 1) = false := cg_tag hX (by rw [tp]; decide) (by rw [tp]; decide) (Or.inr (by rw [tp]; decide))
  obtain ⟨lr1, lr2⟩ := id lr
  intro n
  induction n with
  | zero =>
    intro i g ml hn0 i0 i1 hBg hf hc pm ml2 ta
    refine ez_go (n := 2) (pc' := 31) (L' := [(6, .inl (i)), (5, .inl (1)), (4, .inl (t)), (0, .inr (.inr (some (738)))), (1, .inr (.inr (some (r)))), (2, .inr (.inr (some (196)))), (3, .inl (loc))]) (st' := [.inr (.inr (some (r))), .inl (i)]) rfl ?_
    refine ez_gI hBg tr rfl rfl tq_88 rfl rfl (fun (b1 : 0 ≤ qz_I g r 1) (b1' : qz_I g r 1 ≤ 2000) => ?_)
    have el : qz_I g r 1 = (u.length : Int) := (hf.I cr _).trans al
    rw [el]
    refine ez_icmp rfl rfl ⟨by first | omega | exact (sz_i32 _).1, by first | omega | exact (sz_i32 _).2⟩ ⟨by first | omega | exact (sz_i32 _).1, by first | omega | exact (sz_i32 _).2⟩ (fun (c2 : ((u.length : Int)) ≤ (i)) => ?_) (fun (c2 : ¬(((u.length : Int)) ≤ (i))) => ?_)
    · skip
      refine ez_go (n := 1) (pc' := 102) (L' := [(6, .inl (i)), (5, .inl (1)), (4, .inl (t)), (0, .inr (.inr (some (738)))), (1, .inr (.inr (some (r)))), (2, .inr (.inr (some (196)))), (3, .inl (loc))]) (st' := [.inl (1)]) rfl ?_
      exact ez_retZ rfl rfl (Or.inr rfl) (k1 ml ⟨False, by rw [show u.length = i.toNat by omega]; exact hc⟩ pm ml2 g hBg hf ta)
    · exfalso; omega
  | succ n ih =>
    intro i g ml hn0 i0 i1 hBg hf hc pm ml2 ta
    refine ez_go (n := 2) (pc' := 31) (L' := [(6, .inl (i)), (5, .inl (1)), (4, .inl (t)), (0, .inr (.inr (some (738)))), (1, .inr (.inr (some (r)))), (2, .inr (.inr (some (196)))), (3, .inl (loc))]) (st' := [.inr (.inr (some (r))), .inl (i)]) rfl ?_
    refine ez_gI hBg tr rfl rfl tq_88 rfl rfl (fun (b1 : 0 ≤ qz_I g r 1) (b1' : qz_I g r 1 ≤ 2000) => ?_)
    have el : qz_I g r 1 = (u.length : Int) := (hf.I cr _).trans al
    rw [el]
    refine ez_icmp rfl rfl ⟨by first | omega | exact (sz_i32 _).1, by first | omega | exact (sz_i32 _).2⟩ ⟨by first | omega | exact (sz_i32 _).1, by first | omega | exact (sz_i32 _).2⟩ (fun (c2 : ((u.length : Int)) ≤ (i)) => ?_) (fun (c2 : ¬(((u.length : Int)) ≤ (i))) => ?_)
    · skip
      refine ez_go (n := 1) (pc' := 102) (L' := [(6, .inl (i)), (5, .inl (1)), (4, .inl (t)), (0, .inr (.inr (some (738)))), (1, .inr (.inr (some (r)))), (2, .inr (.inr (some (196)))), (3, .inl (loc))]) (st' := [.inl (1)]) rfl ?_
      exact ez_retZ rfl rfl (Or.inr rfl) (k1 ml ⟨False, by rw [show u.length = i.toNat by omega]; exact hc⟩ pm ml2 g hBg hf ta)
    · skip
      refine ez_go (n := 1) (pc' := 39) (L' := [(6, .inl (i)), (5, .inl (1)), (4, .inl (t)), (0, .inr (.inr (some (738)))), (1, .inr (.inr (some (r)))), (2, .inr (.inr (some (196)))), (3, .inl (loc))]) (st' := [.inl (1)]) rfl ?_
      refine ez_if rfl rfl ⟨by decide, by decide⟩ (fun (c3 : (1 : Int) = (0)) => absurd c3 (by decide)) (fun _ => ?_)
      refine ez_go (n := 1) (pc' := 43) (L' := [(6, .inl (i)), (5, .inl (1)), (4, .inl (t)), (0, .inr (.inr (some (738)))), (1, .inr (.inr (some (r)))), (2, .inr (.inr (some (196)))), (3, .inl (loc))]) (st' := [.inr (.inr (some (738)))]) rfl ?_
      refine ez_gC (p := 202) (tg := 48) hBg t738 rfl rfl tq_70 rfl rfl (fun (t202 : _ = 48) => ?_)
      refine ez_go (n := 1) (pc' := 47) (L' := [(6, .inl (i)), (5, .inl (1)), (4, .inl (t)), (0, .inr (.inr (some (738)))), (1, .inr (.inr (some (r)))), (2, .inr (.inr (some (196)))), (3, .inl (loc))]) (st' := [.inr (.inr (some (r))), .inr (.inr (some (202)))]) rfl ?_
      refine ez_g3 hBg tr rfl rfl tq_88 rfl rfl (fun (t4 : _ = 89) => ?_)
      refine ez_go (n := 1) (pc' := 52) (L' := [(6, .inl (i)), (5, .inl (1)), (4, .inl (t)), (0, .inr (.inr (some (738)))), (1, .inr (.inr (some (r)))), (2, .inr (.inr (some (196)))), (3, .inl (loc))]) (st' := [.inl (i), .inr (.inr (some (r + 1))), .inr (.inr (some (202)))]) rfl ?_
      have n6 : 2000 ≤ qz_N g (r + 1) ∧ qz_N g (r + 1) ≤ 2000 := ez_len hBg t4 tq_89 rfl
      refine ez_aI hBg t4 rfl tq_89 rfl rfl (by omega) (by omega) (fun (b5 : -2147483648 ≤ qz_I g (r + 1) (i).toNat) (b5' : qz_I g (r + 1) (i).toNat ≤ 2147483647) => ?_)
      have ep : qz_I g (r + 1) (i).toNat = uX u i := (hf.I cp _).trans (uX_tx a (by omega))
      have pb := uX_ptl pu (show i.toNat < u.length by omega)
      rw [ep]
      have hCg : pz_C τ g T F E := hC.keep hBg (cg_kD hX hf)
      refine ez_cv hBg t202 rfl rfl rfl tq_48 rfl rfl rfl (rd_spanAt hCg pb.1 pb.2 (fun m atg tz => ez_KA ?_))
      have xq := cg_X hB hX hx hf _ _ pb.1 pb.2 atg
      refine ez_go (n := 1) (pc' := 58) (L' := [(6, .inl (i)), (5, .inl (1)), (4, .inl (t)), (0, .inr (.inr (some (738)))), (1, .inr (.inr (some (r)))), (2, .inr (.inr (some (196)))), (3, .inl (loc))]) (st' := [.inl (t), .inr (.inr (some (sz_p g m)))]) rfl ?_
      refine ez_cs hBg.2.1 rfl rfl rfl rfl rfl (rd_foldRow hBg tz xq ht (fun o os => ez_KA ?_))
      generalize e8 : fdo loc (D (uX u i)) = r9 at os
      obtain e9 | ⟨s, e9⟩ : r9 = none ∨ ∃ s, r9 = some s := by cases r9 with | none => exact Or.inl rfl | some s => exact Or.inr ⟨s, rfl⟩
      · have eo := os.1 e9
        subst eo
        have cm : fdl loc (D (uX u i)) (uX u i) = [uX u i] := fdl_n (e8.trans e9)
        refine ez_go (n := 2) (pc' := 65) (L' := [(7, .inr (.inr none)), (6, .inl (i)), (5, .inl (1)), (4, .inl (t)), (0, .inr (.inr (some (738)))), (1, .inr (.inr (some (r)))), (2, .inr (.inr (some (196)))), (3, .inl (loc))]) (st' := [.inr (.inr none)]) rfl ?_
        refine ez_null0 rfl rfl ?_
        refine ez_go (n := 2) (pc' := 83) (L' := [(7, .inr (.inr none)), (6, .inl (i)), (5, .inl (1)), (4, .inl (t)), (0, .inr (.inr (some (738)))), (1, .inr (.inr (some (r)))), (2, .inr (.inr (some (196)))), (3, .inl (loc))]) (st' := [.inr (.inr (some (r))), .inr (.inr (some (196)))]) rfl ?_
        refine ez_g3 hBg tr rfl rfl tq_88 rfl rfl (fun (t7 : _ = 89) => ?_)
        refine ez_go (n := 1) (pc' := 88) (L' := [(7, .inr (.inr none)), (6, .inl (i)), (5, .inl (1)), (4, .inl (t)), (0, .inr (.inr (some (738)))), (1, .inr (.inr (some (r)))), (2, .inr (.inr (some (196)))), (3, .inl (loc))]) (st' := [.inl (i), .inr (.inr (some (r + 1))), .inr (.inr (some (196)))]) rfl ?_
        have n9 : 2000 ≤ qz_N g (r + 1) ∧ qz_N g (r + 1) ≤ 2000 := ez_len hBg t7 tq_89 rfl
        refine ez_aI hBg t7 rfl tq_89 rfl rfl (by omega) (by omega) (fun (b8 : -2147483648 ≤ qz_I g (r + 1) (i).toNat) (b8' : qz_I g (r + 1) (i).toNat ≤ 2147483647) => ?_)
        have ep : qz_I g (r + 1) (i).toNat = uX u i := (hf.I cp _).trans (uX_tx a (by omega))
        have pb := uX_ptl pu (show i.toNat < u.length by omega)
        rw [ep]
        refine ez_cv hBg t196 rfl rfl rfl tq_1 rfl rfl rfl (rd_txa hBg t196 ta ⟨by omega, by omega⟩ (fun lt g2 hB2 f2 t2 => ez_K1 ?_) (fun lt => ez_K1 ?_))
        · have st3 : chR D F u loc 3 (i.toNat + 1) False (ml ++ [uX u i]) := ⟨False, ml, [uX u i], hc, rfl, fun _ => ⟨by rw [show ((i.toNat : Nat) : Int) = i by omega, cm], id⟩, fun w => by omega, fun w => by omega⟩
          have le9 : (ml ++ [uX u i]).length ≤ 2000 := by rw [List.length_append]; show ml.length + 1 ≤ 2000; omega
          have f3 := hf.trans (ez_fr_mono f2 (fun z hz => cg_tx hz))
          refine ez_go (n := 3) (pc' := 28) (L' := [(6, .inl (i + 1)), (5, .inl (1)), (7, .inr (.inr none)), (4, .inl (t)), (0, .inr (.inr (some (738)))), (1, .inr (.inr (some (r)))), (2, .inr (.inr (some (196)))), (3, .inl (loc))]) (st' := []) rfl ?_
          refine ez_less [(6, .inl (i + 1)), (5, .inl (1)), (4, .inl (t)), (0, .inr (.inr (some (738)))), (1, .inr (.inr (some (r)))), (2, .inr (.inr (some (196)))), (3, .inl (loc))] rfl ⟨rfl, rfl, rfl, rfl, rfl, rfl, rfl, trivial⟩ ?_
          exact ih (i + 1) g2 (ml ++ [uX u i]) (by omega) (by omega) (by omega) hB2 f3 (by rw [show (i + 1).toNat = i.toNat + 1 by omega]; exact st3) (ptl_app pm (ptl_one pb)) le9 t2
        · have st3 : chR D F u loc 3 (i.toNat + 1) False (ml ++ [uX u i]) := ⟨False, ml, [uX u i], hc, rfl, fun _ => ⟨by rw [show ((i.toNat : Nat) : Int) = i by omega, cm], id⟩, fun w => by omega, fun w => by omega⟩
          have le9 : 2000 < (ml ++ [uX u i]).length := by rw [List.length_append]; show 2000 < ml.length + 1; omega
          refine ez_go (n := 3) (pc' := 28) (L' := [(6, .inl (i + 1)), (5, .inl (0)), (7, .inr (.inr none)), (4, .inl (t)), (0, .inr (.inr (some (738)))), (1, .inr (.inr (some (r)))), (2, .inr (.inr (some (196)))), (3, .inl (loc))]) (st' := []) rfl ?_
          refine ez_go (n := 2) (pc' := 31) (L' := [(6, .inl (i + 1)), (5, .inl (0)), (7, .inr (.inr none)), (4, .inl (t)), (0, .inr (.inr (some (738)))), (1, .inr (.inr (some (r)))), (2, .inr (.inr (some (196)))), (3, .inl (loc))]) (st' := [.inr (.inr (some (r))), .inl (i + 1)]) rfl ?_
          refine ez_gI hBg tr rfl rfl tq_88 rfl rfl (fun (b10 : 0 ≤ qz_I g r 1) (b10' : qz_I g r 1 ≤ 2000) => ?_)
          have el : qz_I g r 1 = (u.length : Int) := (hf.I cr _).trans al
          rw [el]
          refine ez_icmp rfl rfl ⟨by first | omega | exact (sz_i32 _).1, by first | omega | exact (sz_i32 _).2⟩ ⟨by first | omega | exact (sz_i32 _).1, by first | omega | exact (sz_i32 _).2⟩ (fun (c11 : ((u.length : Int)) ≤ (i + 1)) => ?_) (fun (c11 : ¬(((u.length : Int)) ≤ (i + 1))) => ?_)
          · skip
            refine ez_go (n := 1) (pc' := 102) (L' := [(6, .inl (i + 1)), (5, .inl (0)), (7, .inr (.inr none)), (4, .inl (t)), (0, .inr (.inr (some (738)))), (1, .inr (.inr (some (r)))), (2, .inr (.inr (some (196)))), (3, .inl (loc))]) (st' := [.inl (0)]) rfl ?_
            exact ez_retZ rfl rfl (Or.inl rfl) (k0 ⟨i.toNat + 1, False, _, by omega, st3, le9⟩ g hBg hf)
          · skip
            refine ez_go (n := 1) (pc' := 39) (L' := [(6, .inl (i + 1)), (5, .inl (0)), (7, .inr (.inr none)), (4, .inl (t)), (0, .inr (.inr (some (738)))), (1, .inr (.inr (some (r)))), (2, .inr (.inr (some (196)))), (3, .inl (loc))]) (st' := [.inl (0)]) rfl ?_
            refine ez_if rfl rfl ⟨by decide, by decide⟩ (fun _ => ?_) (fun (c12 : ¬((0 : Int) = (0))) => absurd c12 (by decide))
            refine ez_go (n := 1) (pc' := 102) (L' := [(6, .inl (i + 1)), (5, .inl (0)), (7, .inr (.inr none)), (4, .inl (t)), (0, .inr (.inr (some (738)))), (1, .inr (.inr (some (r)))), (2, .inr (.inr (some (196)))), (3, .inl (loc))]) (st' := [.inl (0)]) rfl ?_
            exact ez_retZ rfl rfl (Or.inl rfl) (k0 ⟨i.toNat + 1, False, _, by omega, st3, le9⟩ g hBg hf)
      · obtain ⟨w, eo, wt, wn, wv⟩ := os.2 s e9
        subst eo
        have cm : fdl loc (D (uX u i)) (uX u i) = s := fdl_s (e8.trans e9)
        have ro := fdo_ok hd (e8.trans e9)
        refine ez_go (n := 2) (pc' := 65) (L' := [(7, .inr (.inr (some (w)))), (6, .inl (i)), (5, .inl (1)), (4, .inl (t)), (0, .inr (.inr (some (738)))), (1, .inr (.inr (some (r)))), (2, .inr (.inr (some (196)))), (3, .inl (loc))]) (st' := [.inr (.inr (some (w)))]) rfl ?_
        refine ez_null1 rfl ?_
        refine ez_go (n := 4) (pc' := 74) (L' := [(7, .inr (.inr (some (w)))), (6, .inl (i)), (5, .inl (1)), (4, .inl (t)), (0, .inr (.inr (some (738)))), (1, .inr (.inr (some (r)))), (2, .inr (.inr (some (196)))), (3, .inl (loc))]) (st' := [.inr (.inr (some (w))), .inl (0), .inr (.inr (some (w))), .inr (.inr (some (196)))]) rfl ?_
        refine ez_al hBg wt rfl tq_5 rfl (fun (b13 : 0 ≤ qz_N g w) (b13' : qz_N g w ≤ 18) => ?_)
        rw [wn]
        refine ez_cv hBg t196 rfl rfl rfl tq_1 rfl rfl rfl (rd_appRow (m := s) t196 wt ta (fun e => by rw [e, hX 197 (by decide)] at wt; revert wt; decide) rfl (by omega) (by omega) (by omega) (fun j v hv => by rw [show (0 + (j : Int)).toNat = j by omega]; exact wv j v hv) (ptl_rg ro.1) hBg (fun lt g2 hB2 f2 t2 => ez_K1 ?_) (fun lt => ez_K1 ?_))
        · have st3 : chR D F u loc 3 (i.toNat + 1) False (ml ++ s) := ⟨False, ml, s, hc, rfl, fun _ => ⟨by rw [show ((i.toNat : Nat) : Int) = i by omega, cm], id⟩, fun w => by omega, fun w => by omega⟩
          have le9 : (ml ++ s).length ≤ 2000 := by rw [List.length_append]; exact lt
          have f3 := hf.trans (ez_fr_mono f2 (fun z hz => cg_tx hz))
          refine ez_go (n := 4) (pc' := 28) (L' := [(6, .inl (i + 1)), (5, .inl (1)), (7, .inr (.inr (some (w)))), (4, .inl (t)), (0, .inr (.inr (some (738)))), (1, .inr (.inr (some (r)))), (2, .inr (.inr (some (196)))), (3, .inl (loc))]) (st' := []) rfl ?_
          refine ez_less [(6, .inl (i + 1)), (5, .inl (1)), (4, .inl (t)), (0, .inr (.inr (some (738)))), (1, .inr (.inr (some (r)))), (2, .inr (.inr (some (196)))), (3, .inl (loc))] rfl ⟨rfl, rfl, rfl, rfl, rfl, rfl, rfl, trivial⟩ ?_
          exact ih (i + 1) g2 (ml ++ s) (by omega) (by omega) (by omega) hB2 f3 (by rw [show (i + 1).toNat = i.toNat + 1 by omega]; exact st3) (ptl_app pm ro.1) le9 t2
        · have st3 : chR D F u loc 3 (i.toNat + 1) False (ml ++ s) := ⟨False, ml, s, hc, rfl, fun _ => ⟨by rw [show ((i.toNat : Nat) : Int) = i by omega, cm], id⟩, fun w => by omega, fun w => by omega⟩
          have le9 : 2000 < (ml ++ s).length := by rw [List.length_append]; exact lt
          refine ez_go (n := 4) (pc' := 28) (L' := [(6, .inl (i + 1)), (5, .inl (0)), (7, .inr (.inr (some (w)))), (4, .inl (t)), (0, .inr (.inr (some (738)))), (1, .inr (.inr (some (r)))), (2, .inr (.inr (some (196)))), (3, .inl (loc))]) (st' := []) rfl ?_
          refine ez_go (n := 2) (pc' := 31) (L' := [(6, .inl (i + 1)), (5, .inl (0)), (7, .inr (.inr (some (w)))), (4, .inl (t)), (0, .inr (.inr (some (738)))), (1, .inr (.inr (some (r)))), (2, .inr (.inr (some (196)))), (3, .inl (loc))]) (st' := [.inr (.inr (some (r))), .inl (i + 1)]) rfl ?_
          refine ez_gI hBg tr rfl rfl tq_88 rfl rfl (fun (b14 : 0 ≤ qz_I g r 1) (b14' : qz_I g r 1 ≤ 2000) => ?_)
          have el : qz_I g r 1 = (u.length : Int) := (hf.I cr _).trans al
          rw [el]
          refine ez_icmp rfl rfl ⟨by first | omega | exact (sz_i32 _).1, by first | omega | exact (sz_i32 _).2⟩ ⟨by first | omega | exact (sz_i32 _).1, by first | omega | exact (sz_i32 _).2⟩ (fun (c15 : ((u.length : Int)) ≤ (i + 1)) => ?_) (fun (c15 : ¬(((u.length : Int)) ≤ (i + 1))) => ?_)
          · skip
            refine ez_go (n := 1) (pc' := 102) (L' := [(6, .inl (i + 1)), (5, .inl (0)), (7, .inr (.inr (some (w)))), (4, .inl (t)), (0, .inr (.inr (some (738)))), (1, .inr (.inr (some (r)))), (2, .inr (.inr (some (196)))), (3, .inl (loc))]) (st' := [.inl (0)]) rfl ?_
            exact ez_retZ rfl rfl (Or.inl rfl) (k0 ⟨i.toNat + 1, False, _, by omega, st3, le9⟩ g hBg hf)
          · skip
            refine ez_go (n := 1) (pc' := 39) (L' := [(6, .inl (i + 1)), (5, .inl (0)), (7, .inr (.inr (some (w)))), (4, .inl (t)), (0, .inr (.inr (some (738)))), (1, .inr (.inr (some (r)))), (2, .inr (.inr (some (196)))), (3, .inl (loc))]) (st' := [.inl (0)]) rfl ?_
            refine ez_if rfl rfl ⟨by decide, by decide⟩ (fun _ => ?_) (fun (c16 : ¬((0 : Int) = (0))) => absurd c16 (by decide))
            refine ez_go (n := 1) (pc' := 102) (L' := [(6, .inl (i + 1)), (5, .inl (0)), (7, .inr (.inr (some (w)))), (4, .inl (t)), (0, .inr (.inr (some (738)))), (1, .inr (.inr (some (r)))), (2, .inr (.inr (some (196)))), (3, .inl (loc))]) (st' := [.inl (0)]) rfl ?_
            exact ez_retZ rfl rfl (Or.inl rfl) (k0 ⟨i.toNat + 1, False, _, by omega, st3, le9⟩ g hBg hf)

theorem rd_fold (hC : pz_C τ h T F E) (hx : sz_X τ h O D) (hd : dok D) (tr : τ r = 88) (a : tx h r u) (pu : ptl u) (u2 : (u.length : Int) ≤ 2000) (lr : ez_rg loc) (k1 : ∀ res, chS D F u loc 3 res → ptl res → res.length ≤ 2000 → ∀ g, ez_B τ g → ez_fr cg_P h g → tx g 196 res → Q (.inl (some (ez_v (.inl 1))), g)) (k0 : chN D F u loc 3 → ∀ g, ez_B τ g → ez_fr cg_P h g → Q (.inl (some (ez_v (.inl 0))), g)) : ez_W (d + 2) cm_70 0 [(0, .inr (.inr (some (738)))), (1, .inr (.inr (some (r)))), (2, .inr (.inr (some (196)))), (3, .inl (loc))] [] h Q := by
  have hB := hC.1
  have hX := hC.2.1
  have t738 : τ 738 = 70 := hX 738 (by decide)
  have t196 : τ 196 = 1 := hX 196 (by decide)
  have tp := tx_p88 hB tr
  have al := a.1
  have cr : cg_P r = false := cg_tag hX (by rw [tr]; decide) (by rw [tr]; decide) (Or.inr (by rw [tr]; decide))
  have cp : cg_P (r + 1) = false := cg_tag hX (by rw [tp]; decide) (by rw [tp]; decide) (Or.inr (by rw [tp]; decide))
  obtain ⟨lr1, lr2⟩ := id lr
  refine ez_go (n := 2) (pc' := 2) (L' := [(0, .inr (.inr (some (738)))), (1, .inr (.inr (some (r)))), (2, .inr (.inr (some (196)))), (3, .inl (loc))]) (st' := [.inl (1), .inl (loc)]) rfl ?_
  refine ez_icmp rfl rfl ⟨by first | omega | exact (sz_i32 _).1, by first | omega | exact (sz_i32 _).2⟩ ⟨by first | omega | exact (sz_i32 _).1, by first | omega | exact (sz_i32 _).2⟩ (fun (c1 : (loc) = (1)) => ?_) (fun (c1 : ¬((loc) = (1))) => ?_)
  · skip
    refine ez_go (n := 7) (pc' := 22) (L' := [(5, .inl (1)), (4, .inl (1)), (0, .inr (.inr (some (738)))), (1, .inr (.inr (some (r)))), (2, .inr (.inr (some (196)))), (3, .inl (loc))]) (st' := [.inl (0), .inr (.inr (some (196)))]) rfl ?_
    refine ez_pf hB t196 rfl rfl tq_1 rfl rfl rfl rfl (ez_vdI rfl rfl (by omega) (by omega)) (fun hB2 w3 => ?_)
    have v1 : qz_I (dz_put h 196 1 (ez_v (.inl (0)))) 196 1 = 0 := w3.trans rfl
    have f1 : ez_fr cg_P h (dz_put h 196 1 (ez_v (.inl (0)))) := (ez_fr.refl cg_P h).put rfl _ _
    have B1 := hB2
    generalize (dz_put h 196 1 (ez_v (.inl (0)))) = g1 at *
    refine ez_go (n := 2) (pc' := 28) (L' := [(6, .inl (0)), (5, .inl (1)), (4, .inl (1)), (0, .inr (.inr (some (738)))), (1, .inr (.inr (some (r)))), (2, .inr (.inr (some (196)))), (3, .inl (loc))]) (st' := []) rfl ?_
    refine ez_less [(6, .inl (0)), (5, .inl (1)), (4, .inl (1)), (0, .inr (.inr (some (738)))), (1, .inr (.inr (some (r)))), (2, .inr (.inr (some (196)))), (3, .inl (loc))] rfl ⟨rfl, rfl, rfl, rfl, rfl, rfl, rfl, trivial⟩ ?_
    exact rd_fold_l hC hx hd tr a pu u2 lr (by omega) k1 k0 _ 0 g1 [] rfl (by omega) (by omega) B1 f1 ⟨id, rfl⟩ (fun v hv => by cases hv) (by decide) (tx_clr v1)
  · skip
    refine ez_go (n := 2) (pc' := 7) (L' := [(0, .inr (.inr (some (738)))), (1, .inr (.inr (some (r)))), (2, .inr (.inr (some (196)))), (3, .inl (loc))]) (st' := [.inl (2), .inl (loc)]) rfl ?_
    refine ez_icmp rfl rfl ⟨by first | omega | exact (sz_i32 _).1, by first | omega | exact (sz_i32 _).2⟩ ⟨by first | omega | exact (sz_i32 _).1, by first | omega | exact (sz_i32 _).2⟩ (fun (c4 : (loc) ≠ (2)) => ?_) (fun (c4 : ¬((loc) ≠ (2))) => ?_)
    · skip
      refine ez_go (n := 6) (pc' := 22) (L' := [(5, .inl (1)), (4, .inl (0)), (0, .inr (.inr (some (738)))), (1, .inr (.inr (some (r)))), (2, .inr (.inr (some (196)))), (3, .inl (loc))]) (st' := [.inl (0), .inr (.inr (some (196)))]) rfl ?_
      refine ez_pf hB t196 rfl rfl tq_1 rfl rfl rfl rfl (ez_vdI rfl rfl (by omega) (by omega)) (fun hB5 w6 => ?_)
      have v1 : qz_I (dz_put h 196 1 (ez_v (.inl (0)))) 196 1 = 0 := w6.trans rfl
      have f1 : ez_fr cg_P h (dz_put h 196 1 (ez_v (.inl (0)))) := (ez_fr.refl cg_P h).put rfl _ _
      have B1 := hB5
      generalize (dz_put h 196 1 (ez_v (.inl (0)))) = g1 at *
      refine ez_go (n := 2) (pc' := 28) (L' := [(6, .inl (0)), (5, .inl (1)), (4, .inl (0)), (0, .inr (.inr (some (738)))), (1, .inr (.inr (some (r)))), (2, .inr (.inr (some (196)))), (3, .inl (loc))]) (st' := []) rfl ?_
      refine ez_less [(6, .inl (0)), (5, .inl (1)), (4, .inl (0)), (0, .inr (.inr (some (738)))), (1, .inr (.inr (some (r)))), (2, .inr (.inr (some (196)))), (3, .inl (loc))] rfl ⟨rfl, rfl, rfl, rfl, rfl, rfl, rfl, trivial⟩ ?_
      exact rd_fold_l hC hx hd tr a pu u2 lr (by omega) k1 k0 _ 0 g1 [] rfl (by omega) (by omega) B1 f1 ⟨id, rfl⟩ (fun v hv => by cases hv) (by decide) (tx_clr v1)
    · skip
      refine ez_go (n := 7) (pc' := 22) (L' := [(5, .inl (1)), (4, .inl (1)), (0, .inr (.inr (some (738)))), (1, .inr (.inr (some (r)))), (2, .inr (.inr (some (196)))), (3, .inl (loc))]) (st' := [.inl (0), .inr (.inr (some (196)))]) rfl ?_
      refine ez_pf hB t196 rfl rfl tq_1 rfl rfl rfl rfl (ez_vdI rfl rfl (by omega) (by omega)) (fun hB7 w8 => ?_)
      have v1 : qz_I (dz_put h 196 1 (ez_v (.inl (0)))) 196 1 = 0 := w8.trans rfl
      have f1 : ez_fr cg_P h (dz_put h 196 1 (ez_v (.inl (0)))) := (ez_fr.refl cg_P h).put rfl _ _
      have B1 := hB7
      generalize (dz_put h 196 1 (ez_v (.inl (0)))) = g1 at *
      refine ez_go (n := 2) (pc' := 28) (L' := [(6, .inl (0)), (5, .inl (1)), (4, .inl (1)), (0, .inr (.inr (some (738)))), (1, .inr (.inr (some (r)))), (2, .inr (.inr (some (196)))), (3, .inl (loc))]) (st' := []) rfl ?_
      refine ez_less [(6, .inl (0)), (5, .inl (1)), (4, .inl (1)), (0, .inr (.inr (some (738)))), (1, .inr (.inr (some (r)))), (2, .inr (.inr (some (196)))), (3, .inl (loc))] rfl ⟨rfl, rfl, rfl, rfl, rfl, rfl, rfl, trivial⟩ ?_
      exact rd_fold_l hC hx hd tr a pu u2 lr (by omega) k1 k0 _ 0 g1 [] rfl (by omega) (by omega) B1 f1 ⟨id, rfl⟩ (fun v hv => by cases hv) (by decide) (tx_clr v1)

theorem rd_titleStep {i : Int} {b0 : Prop} (c : ckC τ h F D p u loc) (bk : bkC τ h D u) (i0 : 0 ≤ i) (i1 : i < (u.length : Int)) (hb : qz_I h 738 9 = 1 ↔ b0) (k : ∀ st (b : Prop) g, ez_B τ g → ez_fr (ez_one 738) h g → (∀ q j, ¬ (q = 738 ∧ j = 9) → qz_I g q j = qz_I h q j) → (qz_I g 738 9 = 1 ↔ b) → ((st = 0 ∧ (b0 ∧ ¬ wbd (wV D u) (wpi D u) u.length i) ∧ b) ∨ (¬ (b0 ∧ ¬ wbd (wV D u) (wpi D u) u.length i) ∧ ((caP (D (uX u i)) ∧ st = 2 ∧ b) ∨ (¬ caP (D (uX u i)) ∧ st = 4 ∧ ¬ b)))) → Q (.inl (some (ez_v (.inl st))), g)) : ez_W (d + 4) cm_77 0 [(0, .inr (.inr (some (738)))), (1, .inl (i))] [] h Q := by
  have hB := c.1.1
  have t738 : τ 738 = 70 := c.1.2 738 (by decide)
  have t733 : τ 733 = 65 := c.1.2 733 (by decide)
  have n2 := c.2.2.1.1
  refine ez_go (n := 2) (pc' := 2) (L' := [(0, .inr (.inr (some (738)))), (1, .inl (i))]) (st' := [.inr (.inr (some (738))), .inr (.inr (some (738)))]) rfl ?_
  refine ez_gI hB t738 rfl rfl tq_70 rfl rfl (fun (b1 : 0 ≤ qz_I h 738 9) (b1' : qz_I h 738 9 ≤ 1) => ?_)
  refine ez_if rfl rfl ⟨by first | omega | exact (sz_i32 _).1, by first | omega | exact (sz_i32 _).2⟩ (fun (c2 : (qz_I h 738 9) = (0)) => ?_) (fun (c2 : ¬((qz_I h 738 9) = (0))) => ?_)
  · skip
    refine ez_go (n := 1) (pc' := 24) (L' := [(0, .inr (.inr (some (738)))), (1, .inl (i))]) (st' := [.inl (0), .inr (.inr (some (738)))]) rfl ?_
    refine ez_pf hB t738 rfl rfl tq_70 rfl rfl rfl rfl (ez_vdI rfl rfl (by omega) (by omega)) (fun hB3 w4 => ?_)
    have v1 : qz_I (dz_put h 738 9 (ez_v (.inl (0)))) 738 9 = 0 := w4.trans (ez_rg.v ⟨by omega, by omega⟩)
    have o1 : ∀ q j, ¬ (q = 738 ∧ j = 9) → qz_I (dz_put h 738 9 (ez_v (.inl (0)))) q j = qz_I h q j := fun q j w => ez_put_I w
    have f1 : ez_fr (ez_one 738) h (dz_put h 738 9 (ez_v (.inl (0)))) := (ez_fr.refl (ez_one 738) h).put rfl _ _
    have B1 := hB3
    generalize (dz_put h 738 9 (ez_v (.inl (0)))) = g1 at *
    refine ez_go (n := 1) (pc' := 28) (L' := [(0, .inr (.inr (some (738)))), (1, .inl (i))]) (st' := [.inr (.inr (some (738)))]) rfl ?_
    refine ez_gI B1 t738 rfl rfl tq_70 rfl rfl (fun (b5 : 0 ≤ qz_I g1 738 9) (b5' : qz_I g1 738 9 ≤ 1) => ?_)
    rw [show qz_I g1 738 9 = 0 from v1]
    refine ez_if rfl rfl ⟨by decide, by decide⟩ (fun _ => ?_) (fun (c6 : ¬((0 : Int) = (0))) => absurd c6 (by decide))
    refine ez_go (n := 2) (pc' := 38) (L' := [(0, .inr (.inr (some (738)))), (1, .inl (i))]) (st' := [.inr (.inr (some (738))), .inr (.inr (some (738)))]) rfl ?_
    refine ez_gC (p := 742) (tg := 74) B1 t738 rfl rfl tq_70 rfl rfl (fun (t742 : _ = 74) => ?_)
    refine ez_go (n := 1) (pc' := 42) (L' := [(0, .inr (.inr (some (738)))), (1, .inl (i))]) (st' := [.inl (i), .inr (.inr (some (742))), .inr (.inr (some (738)))]) rfl ?_
    have n8 : 2000 ≤ qz_N g1 742 ∧ qz_N g1 742 ≤ 2000 := ez_len B1 t742 tq_74 rfl
    refine ez_aI B1 t742 rfl tq_74 rfl rfl (by omega) (by omega) (fun (b7 : 0 ≤ qz_I g1 742 (i).toNat) (b7' : qz_I g1 742 (i).toNat ≤ 1) => ?_)
    have e42 := (c.2.2.2.2 i i0 i1).2.2.2.1
    have o42 : qz_I g1 742 (i).toNat = qz_I h 742 (i).toNat := o1 _ _ (by omega)
    rw [o42]
    have b42 : 0 ≤ qz_I h 742 (i).toNat ∧ qz_I h 742 (i).toNat ≤ 1 := ⟨by omega, by omega⟩
    refine ez_pf B1 t738 rfl rfl tq_70 rfl rfl rfl rfl (ez_vdI rfl rfl (by omega) (by omega)) (fun hB9 w10 => ?_)
    have v2 : qz_I (dz_put g1 738 9 (ez_v (.inl (qz_I h 742 (i).toNat)))) 738 9 = qz_I h 742 (i).toNat := w10.trans (ez_rg.v ⟨by omega, by omega⟩)
    have o2 : ∀ q j, ¬ (q = 738 ∧ j = 9) → qz_I (dz_put g1 738 9 (ez_v (.inl (qz_I h 742 (i).toNat)))) q j = qz_I g1 q j := fun q j w => ez_put_I w
    have f2 : ez_fr (ez_one 738) h (dz_put g1 738 9 (ez_v (.inl (qz_I h 742 (i).toNat)))) := f1.put rfl _ _
    have B2 := hB9
    generalize (dz_put g1 738 9 (ez_v (.inl (qz_I h 742 (i).toNat)))) = g2 at *
    refine ez_go (n := 1) (pc' := 47) (L' := [(0, .inr (.inr (some (738)))), (1, .inl (i))]) (st' := [.inr (.inr (some (738)))]) rfl ?_
    refine ez_gI B2 t738 rfl rfl tq_70 rfl rfl (fun (b11 : 0 ≤ qz_I g2 738 9) (b11' : qz_I g2 738 9 ≤ 1) => ?_)
    rw [show qz_I g2 738 9 = qz_I h 742 (i).toNat from v2]
    refine ez_if rfl rfl ⟨by first | omega | exact (sz_i32 _).1, by first | omega | exact (sz_i32 _).2⟩ (fun (c12 : (qz_I h 742 (i).toNat) = (0)) => ?_) (fun (c12 : ¬((qz_I h 742 (i).toNat) = (0))) => ?_)
    · skip
      refine ez_go (n := 1) (pc' := 58) (L' := [(0, .inr (.inr (some (738)))), (1, .inl (i))]) (st' := [.inl (4)]) rfl ?_
      exact ez_retI rfl rfl (k 4 False g2 B2 f2 (fun q j w => (o2 q j w).trans (o1 q j w)) ⟨fun w => by omega, fun w => w.elim⟩ (Or.inr ⟨(fun q => by first | (have := hb.mpr q.1; omega) | exact q.2 wb), Or.inr ⟨fun w => by have := e42.mpr w; omega, rfl, id⟩⟩))
    · skip
      refine ez_go (n := 2) (pc' := 58) (L' := [(0, .inr (.inr (some (738)))), (1, .inl (i))]) (st' := [.inl (2)]) rfl ?_
      exact ez_retI rfl rfl (k 2 True g2 B2 f2 (fun q j w => (o2 q j w).trans (o1 q j w)) ⟨fun _ => trivial, fun _ => by omega⟩ (Or.inr ⟨(fun q => by first | (have := hb.mpr q.1; omega) | exact q.2 wb), Or.inl ⟨e42.mp (by omega), rfl, trivial⟩⟩))
  · skip
    refine ez_go (n := 1) (pc' := 9) (L' := [(0, .inr (.inr (some (738)))), (1, .inl (i))]) (st' := [.inr (.inr (some (738))), .inr (.inr (some (738)))]) rfl ?_
    refine ez_gC (p := 733) (tg := 65) hB t738 rfl rfl tq_70 rfl rfl (fun (t733 : _ = 65) => ?_)
    refine ez_go (n := 1) (pc' := 13) (L' := [(0, .inr (.inr (some (738)))), (1, .inl (i))]) (st' := [.inl (i), .inr (.inr (some (733))), .inr (.inr (some (738)))]) rfl ?_
    refine ez_cv hB t733 rfl rfl rfl tq_65 rfl rfl rfl (rd_isB bk i0 i1 (fun wb => ez_K1 ?_) (fun wb => ez_K1 ?_))
    · skip
      refine ez_if rfl rfl ⟨by decide, by decide⟩ (fun _ => ?_) (fun (c13 : ¬((1 : Int) ≠ (0))) => absurd c13 (by decide))
      refine ez_go (n := 1) (pc' := 24) (L' := [(0, .inr (.inr (some (738)))), (1, .inl (i))]) (st' := [.inl (0), .inr (.inr (some (738)))]) rfl ?_
      refine ez_pf hB t738 rfl rfl tq_70 rfl rfl rfl rfl (ez_vdI rfl rfl (by omega) (by omega)) (fun hB14 w15 => ?_)
      have v1 : qz_I (dz_put h 738 9 (ez_v (.inl (0)))) 738 9 = 0 := w15.trans (ez_rg.v ⟨by omega, by omega⟩)
      have o1 : ∀ q j, ¬ (q = 738 ∧ j = 9) → qz_I (dz_put h 738 9 (ez_v (.inl (0)))) q j = qz_I h q j := fun q j w => ez_put_I w
      have f1 : ez_fr (ez_one 738) h (dz_put h 738 9 (ez_v (.inl (0)))) := (ez_fr.refl (ez_one 738) h).put rfl _ _
      have B1 := hB14
      generalize (dz_put h 738 9 (ez_v (.inl (0)))) = g1 at *
      refine ez_go (n := 1) (pc' := 28) (L' := [(0, .inr (.inr (some (738)))), (1, .inl (i))]) (st' := [.inr (.inr (some (738)))]) rfl ?_
      refine ez_gI B1 t738 rfl rfl tq_70 rfl rfl (fun (b16 : 0 ≤ qz_I g1 738 9) (b16' : qz_I g1 738 9 ≤ 1) => ?_)
      rw [show qz_I g1 738 9 = 0 from v1]
      refine ez_if rfl rfl ⟨by decide, by decide⟩ (fun _ => ?_) (fun (c17 : ¬((0 : Int) = (0))) => absurd c17 (by decide))
      refine ez_go (n := 2) (pc' := 38) (L' := [(0, .inr (.inr (some (738)))), (1, .inl (i))]) (st' := [.inr (.inr (some (738))), .inr (.inr (some (738)))]) rfl ?_
      refine ez_gC (p := 742) (tg := 74) B1 t738 rfl rfl tq_70 rfl rfl (fun (t742 : _ = 74) => ?_)
      refine ez_go (n := 1) (pc' := 42) (L' := [(0, .inr (.inr (some (738)))), (1, .inl (i))]) (st' := [.inl (i), .inr (.inr (some (742))), .inr (.inr (some (738)))]) rfl ?_
      have n19 : 2000 ≤ qz_N g1 742 ∧ qz_N g1 742 ≤ 2000 := ez_len B1 t742 tq_74 rfl
      refine ez_aI B1 t742 rfl tq_74 rfl rfl (by omega) (by omega) (fun (b18 : 0 ≤ qz_I g1 742 (i).toNat) (b18' : qz_I g1 742 (i).toNat ≤ 1) => ?_)
      have e42 := (c.2.2.2.2 i i0 i1).2.2.2.1
      have o42 : qz_I g1 742 (i).toNat = qz_I h 742 (i).toNat := o1 _ _ (by omega)
      rw [o42]
      have b42 : 0 ≤ qz_I h 742 (i).toNat ∧ qz_I h 742 (i).toNat ≤ 1 := ⟨by omega, by omega⟩
      refine ez_pf B1 t738 rfl rfl tq_70 rfl rfl rfl rfl (ez_vdI rfl rfl (by omega) (by omega)) (fun hB20 w21 => ?_)
      have v2 : qz_I (dz_put g1 738 9 (ez_v (.inl (qz_I h 742 (i).toNat)))) 738 9 = qz_I h 742 (i).toNat := w21.trans (ez_rg.v ⟨by omega, by omega⟩)
      have o2 : ∀ q j, ¬ (q = 738 ∧ j = 9) → qz_I (dz_put g1 738 9 (ez_v (.inl (qz_I h 742 (i).toNat)))) q j = qz_I g1 q j := fun q j w => ez_put_I w
      have f2 : ez_fr (ez_one 738) h (dz_put g1 738 9 (ez_v (.inl (qz_I h 742 (i).toNat)))) := f1.put rfl _ _
      have B2 := hB20
      generalize (dz_put g1 738 9 (ez_v (.inl (qz_I h 742 (i).toNat)))) = g2 at *
      refine ez_go (n := 1) (pc' := 47) (L' := [(0, .inr (.inr (some (738)))), (1, .inl (i))]) (st' := [.inr (.inr (some (738)))]) rfl ?_
      refine ez_gI B2 t738 rfl rfl tq_70 rfl rfl (fun (b22 : 0 ≤ qz_I g2 738 9) (b22' : qz_I g2 738 9 ≤ 1) => ?_)
      rw [show qz_I g2 738 9 = qz_I h 742 (i).toNat from v2]
      refine ez_if rfl rfl ⟨by first | omega | exact (sz_i32 _).1, by first | omega | exact (sz_i32 _).2⟩ (fun (c23 : (qz_I h 742 (i).toNat) = (0)) => ?_) (fun (c23 : ¬((qz_I h 742 (i).toNat) = (0))) => ?_)
      · skip
        refine ez_go (n := 1) (pc' := 58) (L' := [(0, .inr (.inr (some (738)))), (1, .inl (i))]) (st' := [.inl (4)]) rfl ?_
        exact ez_retI rfl rfl (k 4 False g2 B2 f2 (fun q j w => (o2 q j w).trans (o1 q j w)) ⟨fun w => by omega, fun w => w.elim⟩ (Or.inr ⟨(fun q => by first | (have := hb.mpr q.1; omega) | exact q.2 wb), Or.inr ⟨fun w => by have := e42.mpr w; omega, rfl, id⟩⟩))
      · skip
        refine ez_go (n := 2) (pc' := 58) (L' := [(0, .inr (.inr (some (738)))), (1, .inl (i))]) (st' := [.inl (2)]) rfl ?_
        exact ez_retI rfl rfl (k 2 True g2 B2 f2 (fun q j w => (o2 q j w).trans (o1 q j w)) ⟨fun _ => trivial, fun _ => by omega⟩ (Or.inr ⟨(fun q => by first | (have := hb.mpr q.1; omega) | exact q.2 wb), Or.inl ⟨e42.mp (by omega), rfl, trivial⟩⟩))
    · skip
      refine ez_if rfl rfl ⟨by decide, by decide⟩ (fun (c24 : (0 : Int) ≠ (0)) => absurd c24 (by decide)) (fun _ => ?_)
      refine ez_go (n := 2) (pc' := 24) (L' := [(0, .inr (.inr (some (738)))), (1, .inl (i))]) (st' := [.inl (1), .inr (.inr (some (738)))]) rfl ?_
      refine ez_pf hB t738 rfl rfl tq_70 rfl rfl rfl rfl (ez_vdI rfl rfl (by omega) (by omega)) (fun hB25 w26 => ?_)
      have v1 : qz_I (dz_put h 738 9 (ez_v (.inl (1)))) 738 9 = 1 := w26.trans (ez_rg.v ⟨by omega, by omega⟩)
      have o1 : ∀ q j, ¬ (q = 738 ∧ j = 9) → qz_I (dz_put h 738 9 (ez_v (.inl (1)))) q j = qz_I h q j := fun q j w => ez_put_I w
      have f1 : ez_fr (ez_one 738) h (dz_put h 738 9 (ez_v (.inl (1)))) := (ez_fr.refl (ez_one 738) h).put rfl _ _
      have B1 := hB25
      generalize (dz_put h 738 9 (ez_v (.inl (1)))) = g1 at *
      refine ez_go (n := 1) (pc' := 28) (L' := [(0, .inr (.inr (some (738)))), (1, .inl (i))]) (st' := [.inr (.inr (some (738)))]) rfl ?_
      refine ez_gI B1 t738 rfl rfl tq_70 rfl rfl (fun (b27 : 0 ≤ qz_I g1 738 9) (b27' : qz_I g1 738 9 ≤ 1) => ?_)
      rw [show qz_I g1 738 9 = 1 from v1]
      refine ez_if rfl rfl ⟨by decide, by decide⟩ (fun (c28 : (1 : Int) = (0)) => absurd c28 (by decide)) (fun _ => ?_)
      refine ez_go (n := 1) (pc' := 35) (L' := [(0, .inr (.inr (some (738)))), (1, .inl (i))]) (st' := [.inl (0)]) rfl ?_
      exact ez_retI rfl rfl (k 0 True g1 B1 f1 o1 ⟨fun _ => trivial, fun _ => v1⟩ (Or.inl ⟨rfl, ⟨hb.mp (by omega), wb⟩, trivial⟩))

theorem rd_convT_l {kind : Int} (hC : pz_C τ h T F E) (hx : sz_X τ h O D) (hd : dok D) (tr : τ r = 88) (a : tx h r u) (pu : ptl u) (u2 : (u.length : Int) ≤ 2000) (lr : ez_rg loc) (k1 : ∀ res, chS D F u loc 2 res → ptl res → res.length ≤ 2000 → ∀ g, ez_B τ g → ez_fr cg_P h g → tx g 196 res → Q (.inl (some (ez_v (.inl 1))), g)) (k0 : chN D F u loc 2 → ∀ g, ez_B τ g → ez_fr cg_P h g → Q (.inl (some (ez_v (.inl 0))), g)) : ∀ (n : Nat) (i : Int) (g : cz_H) (ml : List Int) (b0 : Prop), n = ((u.length : Int) - i).toNat → 0 ≤ i → i ≤ (u.length : Int) → ez_B τ g → ez_fr cg_P h g → ckC τ g F D (r + 1) u loc → bkC τ g D u → (qz_I g 738 9 = 1 ↔ b0) → chR D F u loc 2 i.toNat b0 ml → ptl ml → ml.length ≤ 2000 → tx g 196 ml → ez_W (d + 5) cm_68 32 [(6, .inl (i)), (5, .inl (1)), (0, .inr (.inr (some (738)))), (1, .inr (.inr (some (r)))), (2, .inr (.inr (some (196)))), (3, .inl (2)), (4, .inl (loc))] [] g Q := by
  have hB := hC.1
  have hX := hC.2.1
  have t738 : τ 738 = 70 := hX 738 (by decide)
  have t196 : τ 196 = 1 := hX 196 (by decide)
  have tp := tx_p88 hB tr
  have al := a.1
  have cr : cg_P r = false := cg_tag hX (by rw [tr]; decide) (by rw [tr]; decide) (Or.inr (by rw [tr]; decide))
  have cp : cg_P (r + 1) = false := cg_tag hX (by rw [tp]; decide) (by rw [tp]; decide) (Or.inr (by rw [tp]; decide))
  obtain ⟨lr1, lr2⟩ := id lr
  have t733 : τ 733 = 65 := hX 733 (by decide)
  intro n
  induction n with
  | zero =>
    intro i g ml b0 hn0 i0 i1 hBg hf ck bk hb hc pm ml2 ta
    refine ez_go (n := 2) (pc' := 35) (L' := [(6, .inl (i)), (5, .inl (1)), (0, .inr (.inr (some (738)))), (1, .inr (.inr (some (r)))), (2, .inr (.inr (some (196)))), (3, .inl (2)), (4, .inl (loc))]) (st' := [.inr (.inr (some (738))), .inl (i)]) rfl ?_
    refine ez_gI hBg t738 rfl rfl tq_70 rfl rfl (fun (b1 : 0 ≤ qz_I g 738 7) (b1' : qz_I g 738 7 ≤ 2000) => ?_)
    have e7g := ck.2.2.2.1.2.1
    rw [e7g]
    refine ez_icmp rfl rfl ⟨by first | omega | exact (sz_i32 _).1, by first | omega | exact (sz_i32 _).2⟩ ⟨by first | omega | exact (sz_i32 _).1, by first | omega | exact (sz_i32 _).2⟩ (fun (c2 : ((u.length : Int)) ≤ (i)) => ?_) (fun (c2 : ¬(((u.length : Int)) ≤ (i))) => ?_)
    · skip
      refine ez_go (n := 1) (pc' := 102) (L' := [(6, .inl (i)), (5, .inl (1)), (0, .inr (.inr (some (738)))), (1, .inr (.inr (some (r)))), (2, .inr (.inr (some (196)))), (3, .inl (2)), (4, .inl (loc))]) (st' := [.inl (1)]) rfl ?_
      exact ez_retZ rfl rfl (Or.inr rfl) (k1 ml ⟨b0, by rw [show u.length = i.toNat by omega]; exact hc⟩ pm ml2 g hBg hf ta)
    · exfalso; omega
  | succ n ih =>
    intro i g ml b0 hn0 i0 i1 hBg hf ck bk hb hc pm ml2 ta
    refine ez_go (n := 2) (pc' := 35) (L' := [(6, .inl (i)), (5, .inl (1)), (0, .inr (.inr (some (738)))), (1, .inr (.inr (some (r)))), (2, .inr (.inr (some (196)))), (3, .inl (2)), (4, .inl (loc))]) (st' := [.inr (.inr (some (738))), .inl (i)]) rfl ?_
    refine ez_gI hBg t738 rfl rfl tq_70 rfl rfl (fun (b1 : 0 ≤ qz_I g 738 7) (b1' : qz_I g 738 7 ≤ 2000) => ?_)
    have e7g := ck.2.2.2.1.2.1
    rw [e7g]
    refine ez_icmp rfl rfl ⟨by first | omega | exact (sz_i32 _).1, by first | omega | exact (sz_i32 _).2⟩ ⟨by first | omega | exact (sz_i32 _).1, by first | omega | exact (sz_i32 _).2⟩ (fun (c2 : ((u.length : Int)) ≤ (i)) => ?_) (fun (c2 : ¬(((u.length : Int)) ≤ (i))) => ?_)
    · skip
      refine ez_go (n := 1) (pc' := 102) (L' := [(6, .inl (i)), (5, .inl (1)), (0, .inr (.inr (some (738)))), (1, .inr (.inr (some (r)))), (2, .inr (.inr (some (196)))), (3, .inl (2)), (4, .inl (loc))]) (st' := [.inl (1)]) rfl ?_
      exact ez_retZ rfl rfl (Or.inr rfl) (k1 ml ⟨b0, by rw [show u.length = i.toNat by omega]; exact hc⟩ pm ml2 g hBg hf ta)
    · skip
      refine ez_go (n := 1) (pc' := 43) (L' := [(6, .inl (i)), (5, .inl (1)), (0, .inr (.inr (some (738)))), (1, .inr (.inr (some (r)))), (2, .inr (.inr (some (196)))), (3, .inl (2)), (4, .inl (loc))]) (st' := [.inl (1)]) rfl ?_
      refine ez_if rfl rfl ⟨by decide, by decide⟩ (fun (c3 : (1 : Int) = (0)) => absurd c3 (by decide)) (fun _ => ?_)
      refine ez_go (n := 2) (pc' := 48) (L' := [(6, .inl (i)), (5, .inl (1)), (0, .inr (.inr (some (738)))), (1, .inr (.inr (some (r)))), (2, .inr (.inr (some (196)))), (3, .inl (2)), (4, .inl (loc))]) (st' := [.inl (2), .inl (2)]) rfl ?_
      refine ez_icmp rfl rfl ⟨by decide, by decide⟩ ⟨by decide, by decide⟩ (fun (c4 : (2 : Int) ≠ (2)) => absurd c4 (by decide)) (fun _ => ?_)
      refine ez_go (n := 2) (pc' := 54) (L' := [(6, .inl (i)), (5, .inl (1)), (0, .inr (.inr (some (738)))), (1, .inr (.inr (some (r)))), (2, .inr (.inr (some (196)))), (3, .inl (2)), (4, .inl (loc))]) (st' := [.inl (i), .inr (.inr (some (738)))]) rfl ?_
      refine ez_cv hBg t738 rfl rfl rfl tq_70 rfl rfl rfl (rd_titleStep ck bk i0 (by omega) hb (fun st b g1 B1 f1 o1 hb1 hst => ez_K1 ?_))
      have F1 : ez_fr cg_P g g1 := ez_fr_mono f1 (fun z hz => cg_one hz)
      have hf1 := hf.trans F1
      have ck1 : ckC τ g1 F D (r + 1) u loc := ck.tr B1 F1 (fun q _ _ j w => o1 q j w)
      have bk1 : bkC τ g1 D u := bk.tr B1 (fun q q1 q2 => f1.2.2 q (dz_beq_ne (by omega)))
      have ta1 : tx g1 196 ml := tx_c ta (f1.2.2 _ (dz_beq_ne (by decide))) (f1.2.2 _ (dz_beq_ne (by decide)))
      have hstr : st = 0 ∨ st = 2 ∨ st = 4 := by rcases hst with w | ⟨-, w | w⟩; (· exact Or.inl w.1); (· exact Or.inr (Or.inl w.2.1)); (· exact Or.inr (Or.inr w.2.1))
      refine ez_go (n := 4) (pc' := 66) (L' := [(7, .inl (st)), (6, .inl (i)), (5, .inl (1)), (0, .inr (.inr (some (738)))), (1, .inr (.inr (some (r)))), (2, .inr (.inr (some (196)))), (3, .inl (2)), (4, .inl (loc))]) (st' := [.inl (4), .inl (st)]) rfl ?_
      refine ez_icmp rfl rfl ⟨by first | omega | exact (sz_i32 _).1, by first | omega | exact (sz_i32 _).2⟩ ⟨by first | omega | exact (sz_i32 _).1, by first | omega | exact (sz_i32 _).2⟩ (fun (c5 : (st) ≠ (4)) => ?_) (fun (c5 : ¬((st) ≠ (4))) => ?_)
      · skip
        refine ez_go (n := 4) (pc' := 89) (L' := [(7, .inl (st)), (6, .inl (i)), (5, .inl (1)), (0, .inr (.inr (some (738)))), (1, .inr (.inr (some (r)))), (2, .inr (.inr (some (196)))), (3, .inl (2)), (4, .inl (loc))]) (st' := [.inl (st), .inl (i), .inr (.inr (some (196))), .inr (.inr (some (738)))]) rfl ?_
        have xg := cg_X hB hX hx hf1
        have pb := uX_ptl pu (show i.toNat < u.length by omega)
        refine ez_cv B1 t738 rfl rfl rfl tq_70 rfl rfl rfl (rd_appMapped ck1 xg hd lr (by omega) (by omega) (by omega) (by omega) ta1 (fun mm cm lt g2 hB2 f2 t2 => ez_K1 ?_) (fun mm cm lt => ez_K1 ?_))
        · have st3 : chR D F u loc 2 (i.toNat + 1) b (ml ++ mm) := ⟨b0, ml, mm, hc, rfl, fun w => by omega, fun w => by omega, fun _ => by rw [show ((i.toNat : Nat) : Int) = i by omega]; exact ⟨fun w => by rcases hst with q | ⟨q, -⟩; (· rw [q.1] at cm; exact ⟨cm, q.2.2⟩); (· exact absurd w q), fun w => ⟨fun w2 => by rcases hst with q | ⟨-, q | q⟩; (· exact absurd q.2.1 w); (· rw [q.2.1] at cm; exact ⟨cm, q.2.2⟩); (· exact absurd w2 q.1), fun w2 => by rcases hst with q | ⟨-, q | q⟩; (· exact absurd q.2.1 w); (· exact absurd q.1 w2); (· exfalso; omega)⟩⟩⟩
          have le9 : (ml ++ mm).length ≤ 2000 := by rw [List.length_append]; exact lt
          have f3 := hf1.trans (ez_fr_mono f2 (fun z hz => cg_tx hz))
          have ck3 := ck1.ap hB2 f2
          have bk3 := bk1.ap hB2 f2
          have hb3 : qz_I g2 738 9 = 1 ↔ b := by rw [f2.I (tx_Pn (by decide) (by decide)) 9]; exact hb1
          refine ez_go (n := 3) (pc' := 32) (L' := [(6, .inl (i + 1)), (5, .inl (1)), (7, .inl (st)), (0, .inr (.inr (some (738)))), (1, .inr (.inr (some (r)))), (2, .inr (.inr (some (196)))), (3, .inl (2)), (4, .inl (loc))]) (st' := []) rfl ?_
          refine ez_less [(6, .inl (i + 1)), (5, .inl (1)), (0, .inr (.inr (some (738)))), (1, .inr (.inr (some (r)))), (2, .inr (.inr (some (196)))), (3, .inl (2)), (4, .inl (loc))] rfl ⟨rfl, rfl, rfl, rfl, rfl, rfl, rfl, trivial⟩ ?_
          exact ih (i + 1) g2 (ml ++ mm) b (by omega) (by omega) (by omega) hB2 f3 ck3 bk3 hb3 (by rw [show (i + 1).toNat = i.toNat + 1 by omega]; exact st3) (ptl_app pm (cmR_ok hd pb cm)) le9 t2
        · have st3 : chR D F u loc 2 (i.toNat + 1) b (ml ++ mm) := ⟨b0, ml, mm, hc, rfl, fun w => by omega, fun w => by omega, fun _ => by rw [show ((i.toNat : Nat) : Int) = i by omega]; exact ⟨fun w => by rcases hst with q | ⟨q, -⟩; (· rw [q.1] at cm; exact ⟨cm, q.2.2⟩); (· exact absurd w q), fun w => ⟨fun w2 => by rcases hst with q | ⟨-, q | q⟩; (· exact absurd q.2.1 w); (· rw [q.2.1] at cm; exact ⟨cm, q.2.2⟩); (· exact absurd w2 q.1), fun w2 => by rcases hst with q | ⟨-, q | q⟩; (· exact absurd q.2.1 w); (· exact absurd q.1 w2); (· exfalso; omega)⟩⟩⟩
          have le9 : 2000 < (ml ++ mm).length := by rw [List.length_append]; exact lt
          refine ez_go (n := 3) (pc' := 32) (L' := [(6, .inl (i + 1)), (5, .inl (0)), (7, .inl (st)), (0, .inr (.inr (some (738)))), (1, .inr (.inr (some (r)))), (2, .inr (.inr (some (196)))), (3, .inl (2)), (4, .inl (loc))]) (st' := []) rfl ?_
          refine ez_go (n := 2) (pc' := 35) (L' := [(6, .inl (i + 1)), (5, .inl (0)), (7, .inl (st)), (0, .inr (.inr (some (738)))), (1, .inr (.inr (some (r)))), (2, .inr (.inr (some (196)))), (3, .inl (2)), (4, .inl (loc))]) (st' := [.inr (.inr (some (738))), .inl (i + 1)]) rfl ?_
          refine ez_gI B1 t738 rfl rfl tq_70 rfl rfl (fun (b6 : 0 ≤ qz_I g1 738 7) (b6' : qz_I g1 738 7 ≤ 2000) => ?_)
          have e7g1 := ck1.2.2.2.1.2.1
          rw [e7g1]
          refine ez_icmp rfl rfl ⟨by first | omega | exact (sz_i32 _).1, by first | omega | exact (sz_i32 _).2⟩ ⟨by first | omega | exact (sz_i32 _).1, by first | omega | exact (sz_i32 _).2⟩ (fun (c7 : ((u.length : Int)) ≤ (i + 1)) => ?_) (fun (c7 : ¬(((u.length : Int)) ≤ (i + 1))) => ?_)
          · skip
            refine ez_go (n := 1) (pc' := 102) (L' := [(6, .inl (i + 1)), (5, .inl (0)), (7, .inl (st)), (0, .inr (.inr (some (738)))), (1, .inr (.inr (some (r)))), (2, .inr (.inr (some (196)))), (3, .inl (2)), (4, .inl (loc))]) (st' := [.inl (0)]) rfl ?_
            exact ez_retZ rfl rfl (Or.inl rfl) (k0 ⟨i.toNat + 1, b, _, by omega, st3, le9⟩ g1 B1 hf1)
          · skip
            refine ez_go (n := 1) (pc' := 43) (L' := [(6, .inl (i + 1)), (5, .inl (0)), (7, .inl (st)), (0, .inr (.inr (some (738)))), (1, .inr (.inr (some (r)))), (2, .inr (.inr (some (196)))), (3, .inl (2)), (4, .inl (loc))]) (st' := [.inl (0)]) rfl ?_
            refine ez_if rfl rfl ⟨by decide, by decide⟩ (fun _ => ?_) (fun (c8 : ¬((0 : Int) = (0))) => absurd c8 (by decide))
            refine ez_go (n := 1) (pc' := 102) (L' := [(6, .inl (i + 1)), (5, .inl (0)), (7, .inl (st)), (0, .inr (.inr (some (738)))), (1, .inr (.inr (some (r)))), (2, .inr (.inr (some (196)))), (3, .inl (2)), (4, .inl (loc))]) (st' := [.inl (0)]) rfl ?_
            exact ez_retZ rfl rfl (Or.inl rfl) (k0 ⟨i.toNat + 1, b, _, by omega, st3, le9⟩ g1 B1 hf1)
      · skip
        refine ez_go (n := 2) (pc' := 71) (L' := [(7, .inl (st)), (6, .inl (i)), (5, .inl (1)), (0, .inr (.inr (some (738)))), (1, .inr (.inr (some (r)))), (2, .inr (.inr (some (196)))), (3, .inl (2)), (4, .inl (loc))]) (st' := [.inr (.inr (some (738))), .inr (.inr (some (196)))]) rfl ?_
        refine ez_g2 (p := r + 1) B1 t738 rfl rfl tq_70 rfl rfl (ck1.2.2.2.1.1) ?_
        refine ez_go (n := 1) (pc' := 76) (L' := [(7, .inl (st)), (6, .inl (i)), (5, .inl (1)), (0, .inr (.inr (some (738)))), (1, .inr (.inr (some (r)))), (2, .inr (.inr (some (196)))), (3, .inl (2)), (4, .inl (loc))]) (st' := [.inl (i), .inr (.inr (some (r + 1))), .inr (.inr (some (196)))]) rfl ?_
        have n10 : 2000 ≤ qz_N g1 (r + 1) ∧ qz_N g1 (r + 1) ≤ 2000 := ez_len B1 tp tq_89 rfl
        refine ez_aI B1 tp rfl tq_89 rfl rfl (by omega) (by omega) (fun (b9 : -2147483648 ≤ qz_I g1 (r + 1) (i).toNat) (b9' : qz_I g1 (r + 1) (i).toNat ≤ 2147483647) => ?_)
        have pb := uX_ptl pu (show i.toNat < u.length by omega)
        rw [show qz_I g1 (r + 1) (i).toNat = uX u i from (ck1.2.2.2.2 i (by omega) (by omega)).1]
        refine ez_cv B1 t196 rfl rfl rfl tq_1 rfl rfl rfl (rd_txa B1 t196 ta1 ⟨by omega, by omega⟩ (fun lt g2 hB2 f2 t2 => ez_K1 ?_) (fun lt => ez_K1 ?_))
        · have st3 : chR D F u loc 2 (i.toNat + 1) b (ml ++ [uX u i]) := ⟨b0, ml, [uX u i], hc, rfl, fun w => by omega, fun w => by omega, fun _ => by rw [show ((i.toNat : Nat) : Int) = i by omega]; exact ⟨fun w => by rcases hst with q | ⟨q, -⟩; (· exfalso; omega); (· exact absurd w q), fun w => ⟨fun w2 => by rcases hst with q | ⟨-, q | q⟩; (· exact absurd q.2.1 w); (· exfalso; omega); (· exact absurd w2 q.1), fun w2 => by rcases hst with q | ⟨-, q | q⟩; (· exact absurd q.2.1 w); (· exact absurd q.1 w2); (· exact ⟨rfl, q.2.2⟩)⟩⟩⟩
          have le9 : (ml ++ [uX u i]).length ≤ 2000 := by rw [List.length_append]; show ml.length + 1 ≤ 2000; omega
          have f3 := hf1.trans (ez_fr_mono f2 (fun z hz => cg_tx hz))
          have ck3 := ck1.ap hB2 f2
          have bk3 := bk1.ap hB2 f2
          have hb3 : qz_I g2 738 9 = 1 ↔ b := by rw [f2.I (tx_Pn (by decide) (by decide)) 9]; exact hb1
          refine ez_go (n := 4) (pc' := 32) (L' := [(6, .inl (i + 1)), (5, .inl (1)), (7, .inl (st)), (0, .inr (.inr (some (738)))), (1, .inr (.inr (some (r)))), (2, .inr (.inr (some (196)))), (3, .inl (2)), (4, .inl (loc))]) (st' := []) rfl ?_
          refine ez_less [(6, .inl (i + 1)), (5, .inl (1)), (0, .inr (.inr (some (738)))), (1, .inr (.inr (some (r)))), (2, .inr (.inr (some (196)))), (3, .inl (2)), (4, .inl (loc))] rfl ⟨rfl, rfl, rfl, rfl, rfl, rfl, rfl, trivial⟩ ?_
          exact ih (i + 1) g2 (ml ++ [uX u i]) b (by omega) (by omega) (by omega) hB2 f3 ck3 bk3 hb3 (by rw [show (i + 1).toNat = i.toNat + 1 by omega]; exact st3) (ptl_app pm (ptl_one pb)) le9 t2
        · have st3 : chR D F u loc 2 (i.toNat + 1) b (ml ++ [uX u i]) := ⟨b0, ml, [uX u i], hc, rfl, fun w => by omega, fun w => by omega, fun _ => by rw [show ((i.toNat : Nat) : Int) = i by omega]; exact ⟨fun w => by rcases hst with q | ⟨q, -⟩; (· exfalso; omega); (· exact absurd w q), fun w => ⟨fun w2 => by rcases hst with q | ⟨-, q | q⟩; (· exact absurd q.2.1 w); (· exfalso; omega); (· exact absurd w2 q.1), fun w2 => by rcases hst with q | ⟨-, q | q⟩; (· exact absurd q.2.1 w); (· exact absurd q.1 w2); (· exact ⟨rfl, q.2.2⟩)⟩⟩⟩
          have le9 : 2000 < (ml ++ [uX u i]).length := by rw [List.length_append]; show 2000 < ml.length + 1; omega
          refine ez_go (n := 4) (pc' := 32) (L' := [(6, .inl (i + 1)), (5, .inl (0)), (7, .inl (st)), (0, .inr (.inr (some (738)))), (1, .inr (.inr (some (r)))), (2, .inr (.inr (some (196)))), (3, .inl (2)), (4, .inl (loc))]) (st' := []) rfl ?_
          refine ez_go (n := 2) (pc' := 35) (L' := [(6, .inl (i + 1)), (5, .inl (0)), (7, .inl (st)), (0, .inr (.inr (some (738)))), (1, .inr (.inr (some (r)))), (2, .inr (.inr (some (196)))), (3, .inl (2)), (4, .inl (loc))]) (st' := [.inr (.inr (some (738))), .inl (i + 1)]) rfl ?_
          refine ez_gI B1 t738 rfl rfl tq_70 rfl rfl (fun (b11 : 0 ≤ qz_I g1 738 7) (b11' : qz_I g1 738 7 ≤ 2000) => ?_)
          have e7g1 := ck1.2.2.2.1.2.1
          rw [e7g1]
          refine ez_icmp rfl rfl ⟨by first | omega | exact (sz_i32 _).1, by first | omega | exact (sz_i32 _).2⟩ ⟨by first | omega | exact (sz_i32 _).1, by first | omega | exact (sz_i32 _).2⟩ (fun (c12 : ((u.length : Int)) ≤ (i + 1)) => ?_) (fun (c12 : ¬(((u.length : Int)) ≤ (i + 1))) => ?_)
          · skip
            refine ez_go (n := 1) (pc' := 102) (L' := [(6, .inl (i + 1)), (5, .inl (0)), (7, .inl (st)), (0, .inr (.inr (some (738)))), (1, .inr (.inr (some (r)))), (2, .inr (.inr (some (196)))), (3, .inl (2)), (4, .inl (loc))]) (st' := [.inl (0)]) rfl ?_
            exact ez_retZ rfl rfl (Or.inl rfl) (k0 ⟨i.toNat + 1, b, _, by omega, st3, le9⟩ g1 B1 hf1)
          · skip
            refine ez_go (n := 1) (pc' := 43) (L' := [(6, .inl (i + 1)), (5, .inl (0)), (7, .inl (st)), (0, .inr (.inr (some (738)))), (1, .inr (.inr (some (r)))), (2, .inr (.inr (some (196)))), (3, .inl (2)), (4, .inl (loc))]) (st' := [.inl (0)]) rfl ?_
            refine ez_if rfl rfl ⟨by decide, by decide⟩ (fun _ => ?_) (fun (c13 : ¬((0 : Int) = (0))) => absurd c13 (by decide))
            refine ez_go (n := 1) (pc' := 102) (L' := [(6, .inl (i + 1)), (5, .inl (0)), (7, .inl (st)), (0, .inr (.inr (some (738)))), (1, .inr (.inr (some (r)))), (2, .inr (.inr (some (196)))), (3, .inl (2)), (4, .inl (loc))]) (st' := [.inl (0)]) rfl ?_
            exact ez_retZ rfl rfl (Or.inl rfl) (k0 ⟨i.toNat + 1, b, _, by omega, st3, le9⟩ g1 B1 hf1)

theorem rd_convT {kind : Int} (hC : pz_C τ h T F E) (hx : sz_X τ h O D) (hd : dok D) (tr : τ r = 88) (a : tx h r u) (pu : ptl u) (u2 : (u.length : Int) ≤ 2000) (lr : ez_rg loc) (rb : r < 900000) (k1 : ∀ res, chS D F u loc 2 res → ptl res → res.length ≤ 2000 → ∀ g, ez_B τ g → ez_fr cg_P h g → tx g 196 res → Q (.inl (some (ez_v (.inl 1))), g)) (k0 : chN D F u loc 2 → ∀ g, ez_B τ g → ez_fr cg_P h g → Q (.inl (some (ez_v (.inl 0))), g)) : ez_W (d + 5) cm_68 0 [(0, .inr (.inr (some (738)))), (1, .inr (.inr (some (r)))), (2, .inr (.inr (some (196)))), (3, .inl (2)), (4, .inl (loc))] [] h Q := by
  have hB := hC.1
  have hX := hC.2.1
  have t738 : τ 738 = 70 := hX 738 (by decide)
  have t196 : τ 196 = 1 := hX 196 (by decide)
  have tp := tx_p88 hB tr
  have al := a.1
  have cr : cg_P r = false := cg_tag hX (by rw [tr]; decide) (by rw [tr]; decide) (Or.inr (by rw [tr]; decide))
  have cp : cg_P (r + 1) = false := cg_tag hX (by rw [tp]; decide) (by rw [tp]; decide) (Or.inr (by rw [tp]; decide))
  obtain ⟨lr1, lr2⟩ := id lr
  have t733 : τ 733 = 65 := hX 733 (by decide)
  refine ez_go (n := 3) (pc' := 4) (L' := [(0, .inr (.inr (some (738)))), (1, .inr (.inr (some (r)))), (2, .inr (.inr (some (196)))), (3, .inl (2)), (4, .inl (loc))]) (st' := [.inl (loc), .inr (.inr (some (r))), .inr (.inr (some (738)))]) rfl ?_
  refine ez_cv hB t738 rfl rfl rfl tq_70 rfl rfl rfl (rd_cload hC hx tr a pu u2 lr (by omega) (fun g1 B1 f1 z9 ck => ez_K0 ?_))
  refine ez_go (n := 2) (pc' := 9) (L' := [(0, .inr (.inr (some (738)))), (1, .inr (.inr (some (r)))), (2, .inr (.inr (some (196)))), (3, .inl (2)), (4, .inl (loc))]) (st' := [.inl (2), .inl (2)]) rfl ?_
  refine ez_icmp rfl rfl ⟨by decide, by decide⟩ ⟨by decide, by decide⟩ (fun (c1 : (2 : Int) ≠ (2)) => absurd c1 (by decide)) (fun _ => ?_)
  refine ez_go (n := 1) (pc' := 13) (L' := [(0, .inr (.inr (some (738)))), (1, .inr (.inr (some (r)))), (2, .inr (.inr (some (196)))), (3, .inl (2)), (4, .inl (loc))]) (st' := [.inr (.inr (some (738)))]) rfl ?_
  refine ez_gC (p := 733) (tg := 65) B1 t738 rfl rfl tq_70 rfl rfl (fun (t733 : _ = 65) => ?_)
  refine ez_go (n := 2) (pc' := 18) (L' := [(0, .inr (.inr (some (738)))), (1, .inr (.inr (some (r)))), (2, .inr (.inr (some (196)))), (3, .inl (2)), (4, .inl (loc))]) (st' := [.inl (1), .inr (.inr (some (r))), .inr (.inr (some (733)))]) rfl ?_
  have hC1 : pz_C τ g1 T F E := hC.keep B1 (cg_kD hX f1)
  have a1 : tx g1 r u := tx_c a (f1.2.2 _ cr) (f1.2.2 _ cp)
  refine ez_cv B1 t733 rfl rfl rfl tq_65 rfl rfl rfl (rd_bload hC1 (cg_X hB hX hx f1) tr a1 pu u2 (fun g2 B2 f2 z2 bk => ez_K0 ?_))
  have ck2 : ckC τ g2 F D (r + 1) u loc := ck.tr B2 f2 (fun q q1 q2 j _ => z2 q q1 q2 j)
  have F2 := f1.trans f2
  have z92 : qz_I g2 738 9 = 0 := (z2 738 (by decide) (by decide) 9).trans z9
  refine ez_go (n := 4) (pc' := 26) (L' := [(5, .inl (1)), (0, .inr (.inr (some (738)))), (1, .inr (.inr (some (r)))), (2, .inr (.inr (some (196)))), (3, .inl (2)), (4, .inl (loc))]) (st' := [.inl (0), .inr (.inr (some (196)))]) rfl ?_
  refine ez_pf B2 t196 rfl rfl tq_1 rfl rfl rfl rfl (ez_vdI rfl rfl (by omega) (by omega)) (fun hB2 w3 => ?_)
  have v3 : qz_I (dz_put g2 196 1 (ez_v (.inl (0)))) 196 1 = 0 := w3.trans rfl
  have f3 : ez_fr (tx_P 196) g2 (dz_put g2 196 1 (ez_v (.inl (0)))) := (ez_fr.refl (tx_P 196) g2).put (tx_Pa 196) _ _
  have B3 := hB2
  generalize (dz_put g2 196 1 (ez_v (.inl (0)))) = g3 at *
  refine ez_go (n := 2) (pc' := 32) (L' := [(6, .inl (0)), (5, .inl (1)), (0, .inr (.inr (some (738)))), (1, .inr (.inr (some (r)))), (2, .inr (.inr (some (196)))), (3, .inl (2)), (4, .inl (loc))]) (st' := []) rfl ?_
  refine ez_less [(6, .inl (0)), (5, .inl (1)), (0, .inr (.inr (some (738)))), (1, .inr (.inr (some (r)))), (2, .inr (.inr (some (196)))), (3, .inl (2)), (4, .inl (loc))] rfl ⟨rfl, rfl, rfl, rfl, rfl, rfl, rfl, trivial⟩ ?_
  exact rd_convT_l (kind := 2) hC hx hd tr a pu u2 lr k1 k0 _ 0 g3 [] False rfl (by omega) (by omega) B3 (F2.trans (ez_fr_mono f3 (fun z hz => cg_tx hz))) (ck2.ap B3 f3) (bk.ap B3 f3) (by rw [f3.I (tx_Pn (by decide) (by decide)) 9, z92]; exact ⟨fun w => by omega, fun w => w.elim⟩) ⟨id, rfl⟩ (fun v hv => by cases hv) (by decide) (tx_clr v3)

theorem rd_convC_l {kind : Int} (hC : pz_C τ h T F E) (hx : sz_X τ h O D) (hd : dok D) (tr : τ r = 88) (a : tx h r u) (pu : ptl u) (u2 : (u.length : Int) ≤ 2000) (lr : ez_rg loc) (kd : kind = 0 ∨ kind = 1) (k1 : ∀ res, chS D F u loc kind res → ptl res → res.length ≤ 2000 → ∀ g, ez_B τ g → ez_fr cg_P h g → tx g 196 res → Q (.inl (some (ez_v (.inl 1))), g)) (k0 : chN D F u loc kind → ∀ g, ez_B τ g → ez_fr cg_P h g → Q (.inl (some (ez_v (.inl 0))), g)) : ∀ (n : Nat) (i : Int) (g : cz_H) (ml : List Int) (b0 : Prop), n = ((u.length : Int) - i).toNat → 0 ≤ i → i ≤ (u.length : Int) → ez_B τ g → ez_fr cg_P h g → ckC τ g F D (r + 1) u loc → chR D F u loc kind i.toNat b0 ml → ptl ml → ml.length ≤ 2000 → tx g 196 ml → ez_W (d + 5) cm_68 32 [(6, .inl (i)), (5, .inl (1)), (0, .inr (.inr (some (738)))), (1, .inr (.inr (some (r)))), (2, .inr (.inr (some (196)))), (3, .inl (kind)), (4, .inl (loc))] [] g Q := by
  have hB := hC.1
  have hX := hC.2.1
  have t738 : τ 738 = 70 := hX 738 (by decide)
  have t196 : τ 196 = 1 := hX 196 (by decide)
  have tp := tx_p88 hB tr
  have al := a.1
  have cr : cg_P r = false := cg_tag hX (by rw [tr]; decide) (by rw [tr]; decide) (Or.inr (by rw [tr]; decide))
  have cp : cg_P (r + 1) = false := cg_tag hX (by rw [tp]; decide) (by rw [tp]; decide) (Or.inr (by rw [tp]; decide))
  obtain ⟨lr1, lr2⟩ := id lr
  have t733 : τ 733 = 65 := hX 733 (by decide)
  intro n
  induction n with
  | zero =>
    intro i g ml b0 hn0 i0 i1 hBg hf ck hc pm ml2 ta
    refine ez_go (n := 2) (pc' := 35) (L' := [(6, .inl (i)), (5, .inl (1)), (0, .inr (.inr (some (738)))), (1, .inr (.inr (some (r)))), (2, .inr (.inr (some (196)))), (3, .inl (kind)), (4, .inl (loc))]) (st' := [.inr (.inr (some (738))), .inl (i)]) rfl ?_
    refine ez_gI hBg t738 rfl rfl tq_70 rfl rfl (fun (b1 : 0 ≤ qz_I g 738 7) (b1' : qz_I g 738 7 ≤ 2000) => ?_)
    have e7g := ck.2.2.2.1.2.1
    rw [e7g]
    refine ez_icmp rfl rfl ⟨by first | omega | exact (sz_i32 _).1, by first | omega | exact (sz_i32 _).2⟩ ⟨by first | omega | exact (sz_i32 _).1, by first | omega | exact (sz_i32 _).2⟩ (fun (c2 : ((u.length : Int)) ≤ (i)) => ?_) (fun (c2 : ¬(((u.length : Int)) ≤ (i))) => ?_)
    · skip
      refine ez_go (n := 1) (pc' := 102) (L' := [(6, .inl (i)), (5, .inl (1)), (0, .inr (.inr (some (738)))), (1, .inr (.inr (some (r)))), (2, .inr (.inr (some (196)))), (3, .inl (kind)), (4, .inl (loc))]) (st' := [.inl (1)]) rfl ?_
      exact ez_retZ rfl rfl (Or.inr rfl) (k1 ml ⟨b0, by rw [show u.length = i.toNat by omega]; exact hc⟩ pm ml2 g hBg hf ta)
    · exfalso; omega
  | succ n ih =>
    intro i g ml b0 hn0 i0 i1 hBg hf ck hc pm ml2 ta
    refine ez_go (n := 2) (pc' := 35) (L' := [(6, .inl (i)), (5, .inl (1)), (0, .inr (.inr (some (738)))), (1, .inr (.inr (some (r)))), (2, .inr (.inr (some (196)))), (3, .inl (kind)), (4, .inl (loc))]) (st' := [.inr (.inr (some (738))), .inl (i)]) rfl ?_
    refine ez_gI hBg t738 rfl rfl tq_70 rfl rfl (fun (b1 : 0 ≤ qz_I g 738 7) (b1' : qz_I g 738 7 ≤ 2000) => ?_)
    have e7g := ck.2.2.2.1.2.1
    rw [e7g]
    refine ez_icmp rfl rfl ⟨by first | omega | exact (sz_i32 _).1, by first | omega | exact (sz_i32 _).2⟩ ⟨by first | omega | exact (sz_i32 _).1, by first | omega | exact (sz_i32 _).2⟩ (fun (c2 : ((u.length : Int)) ≤ (i)) => ?_) (fun (c2 : ¬(((u.length : Int)) ≤ (i))) => ?_)
    · skip
      refine ez_go (n := 1) (pc' := 102) (L' := [(6, .inl (i)), (5, .inl (1)), (0, .inr (.inr (some (738)))), (1, .inr (.inr (some (r)))), (2, .inr (.inr (some (196)))), (3, .inl (kind)), (4, .inl (loc))]) (st' := [.inl (1)]) rfl ?_
      exact ez_retZ rfl rfl (Or.inr rfl) (k1 ml ⟨b0, by rw [show u.length = i.toNat by omega]; exact hc⟩ pm ml2 g hBg hf ta)
    · skip
      refine ez_go (n := 1) (pc' := 43) (L' := [(6, .inl (i)), (5, .inl (1)), (0, .inr (.inr (some (738)))), (1, .inr (.inr (some (r)))), (2, .inr (.inr (some (196)))), (3, .inl (kind)), (4, .inl (loc))]) (st' := [.inl (1)]) rfl ?_
      refine ez_if rfl rfl ⟨by decide, by decide⟩ (fun (c3 : (1 : Int) = (0)) => absurd c3 (by decide)) (fun _ => ?_)
      refine ez_go (n := 2) (pc' := 48) (L' := [(6, .inl (i)), (5, .inl (1)), (0, .inr (.inr (some (738)))), (1, .inr (.inr (some (r)))), (2, .inr (.inr (some (196)))), (3, .inl (kind)), (4, .inl (loc))]) (st' := [.inl (2), .inl (kind)]) rfl ?_
      refine ez_icmp rfl rfl ⟨by first | omega | exact (sz_i32 _).1, by first | omega | exact (sz_i32 _).2⟩ ⟨by first | omega | exact (sz_i32 _).1, by first | omega | exact (sz_i32 _).2⟩ (fun (c4 : (kind) ≠ (2)) => ?_) (fun (c4 : ¬((kind) ≠ (2))) => ?_)
      · skip
        refine ez_go (n := 4) (pc' := 66) (L' := [(7, .inl (kind)), (6, .inl (i)), (5, .inl (1)), (0, .inr (.inr (some (738)))), (1, .inr (.inr (some (r)))), (2, .inr (.inr (some (196)))), (3, .inl (kind)), (4, .inl (loc))]) (st' := [.inl (4), .inl (kind)]) rfl ?_
        refine ez_icmp rfl rfl ⟨by first | omega | exact (sz_i32 _).1, by first | omega | exact (sz_i32 _).2⟩ ⟨by first | omega | exact (sz_i32 _).1, by first | omega | exact (sz_i32 _).2⟩ (fun (c5 : (kind) ≠ (4)) => ?_) (fun (c5 : ¬((kind) ≠ (4))) => ?_)
        · skip
          refine ez_go (n := 4) (pc' := 89) (L' := [(7, .inl (kind)), (6, .inl (i)), (5, .inl (1)), (0, .inr (.inr (some (738)))), (1, .inr (.inr (some (r)))), (2, .inr (.inr (some (196)))), (3, .inl (kind)), (4, .inl (loc))]) (st' := [.inl (kind), .inl (i), .inr (.inr (some (196))), .inr (.inr (some (738)))]) rfl ?_
          have xg := cg_X hB hX hx hf
          have pb := uX_ptl pu (show i.toNat < u.length by omega)
          refine ez_cv hBg t738 rfl rfl rfl tq_70 rfl rfl rfl (rd_appMapped ck xg hd lr (by omega) (by omega) (by omega) (by omega) ta (fun mm cm lt g2 hB2 f2 t2 => ez_K1 ?_) (fun mm cm lt => ez_K1 ?_))
          · have st3 : chR D F u loc kind (i.toNat + 1) False (ml ++ mm) := ⟨b0, ml, mm, hc, rfl, fun w => by omega, fun _ => by rw [show ((i.toNat : Nat) : Int) = i by omega]; exact ⟨cm, id⟩, fun w => by omega⟩
            have le9 : (ml ++ mm).length ≤ 2000 := by rw [List.length_append]; exact lt
            have f3 := hf.trans (ez_fr_mono f2 (fun z hz => cg_tx hz))
            have ck3 := ck.ap hB2 f2
            refine ez_go (n := 3) (pc' := 32) (L' := [(6, .inl (i + 1)), (5, .inl (1)), (7, .inl (kind)), (0, .inr (.inr (some (738)))), (1, .inr (.inr (some (r)))), (2, .inr (.inr (some (196)))), (3, .inl (kind)), (4, .inl (loc))]) (st' := []) rfl ?_
            refine ez_less [(6, .inl (i + 1)), (5, .inl (1)), (0, .inr (.inr (some (738)))), (1, .inr (.inr (some (r)))), (2, .inr (.inr (some (196)))), (3, .inl (kind)), (4, .inl (loc))] rfl ⟨rfl, rfl, rfl, rfl, rfl, rfl, rfl, trivial⟩ ?_
            exact ih (i + 1) g2 (ml ++ mm) False (by omega) (by omega) (by omega) hB2 f3 ck3 (by rw [show (i + 1).toNat = i.toNat + 1 by omega]; exact st3) (ptl_app pm (cmR_ok hd pb cm)) le9 t2
          · have st3 : chR D F u loc kind (i.toNat + 1) False (ml ++ mm) := ⟨b0, ml, mm, hc, rfl, fun w => by omega, fun _ => by rw [show ((i.toNat : Nat) : Int) = i by omega]; exact ⟨cm, id⟩, fun w => by omega⟩
            have le9 : 2000 < (ml ++ mm).length := by rw [List.length_append]; exact lt
            refine ez_go (n := 3) (pc' := 32) (L' := [(6, .inl (i + 1)), (5, .inl (0)), (7, .inl (kind)), (0, .inr (.inr (some (738)))), (1, .inr (.inr (some (r)))), (2, .inr (.inr (some (196)))), (3, .inl (kind)), (4, .inl (loc))]) (st' := []) rfl ?_
            refine ez_go (n := 2) (pc' := 35) (L' := [(6, .inl (i + 1)), (5, .inl (0)), (7, .inl (kind)), (0, .inr (.inr (some (738)))), (1, .inr (.inr (some (r)))), (2, .inr (.inr (some (196)))), (3, .inl (kind)), (4, .inl (loc))]) (st' := [.inr (.inr (some (738))), .inl (i + 1)]) rfl ?_
            refine ez_gI hBg t738 rfl rfl tq_70 rfl rfl (fun (b6 : 0 ≤ qz_I g 738 7) (b6' : qz_I g 738 7 ≤ 2000) => ?_)
            have e7g := ck.2.2.2.1.2.1
            rw [e7g]
            refine ez_icmp rfl rfl ⟨by first | omega | exact (sz_i32 _).1, by first | omega | exact (sz_i32 _).2⟩ ⟨by first | omega | exact (sz_i32 _).1, by first | omega | exact (sz_i32 _).2⟩ (fun (c7 : ((u.length : Int)) ≤ (i + 1)) => ?_) (fun (c7 : ¬(((u.length : Int)) ≤ (i + 1))) => ?_)
            · skip
              refine ez_go (n := 1) (pc' := 102) (L' := [(6, .inl (i + 1)), (5, .inl (0)), (7, .inl (kind)), (0, .inr (.inr (some (738)))), (1, .inr (.inr (some (r)))), (2, .inr (.inr (some (196)))), (3, .inl (kind)), (4, .inl (loc))]) (st' := [.inl (0)]) rfl ?_
              exact ez_retZ rfl rfl (Or.inl rfl) (k0 ⟨i.toNat + 1, False, _, by omega, st3, le9⟩ g hBg hf)
            · skip
              refine ez_go (n := 1) (pc' := 43) (L' := [(6, .inl (i + 1)), (5, .inl (0)), (7, .inl (kind)), (0, .inr (.inr (some (738)))), (1, .inr (.inr (some (r)))), (2, .inr (.inr (some (196)))), (3, .inl (kind)), (4, .inl (loc))]) (st' := [.inl (0)]) rfl ?_
              refine ez_if rfl rfl ⟨by decide, by decide⟩ (fun _ => ?_) (fun (c8 : ¬((0 : Int) = (0))) => absurd c8 (by decide))
              refine ez_go (n := 1) (pc' := 102) (L' := [(6, .inl (i + 1)), (5, .inl (0)), (7, .inl (kind)), (0, .inr (.inr (some (738)))), (1, .inr (.inr (some (r)))), (2, .inr (.inr (some (196)))), (3, .inl (kind)), (4, .inl (loc))]) (st' := [.inl (0)]) rfl ?_
              exact ez_retZ rfl rfl (Or.inl rfl) (k0 ⟨i.toNat + 1, False, _, by omega, st3, le9⟩ g hBg hf)
        · skip
          refine ez_go (n := 2) (pc' := 71) (L' := [(7, .inl (kind)), (6, .inl (i)), (5, .inl (1)), (0, .inr (.inr (some (738)))), (1, .inr (.inr (some (r)))), (2, .inr (.inr (some (196)))), (3, .inl (kind)), (4, .inl (loc))]) (st' := [.inr (.inr (some (738))), .inr (.inr (some (196)))]) rfl ?_
          refine ez_g2 (p := r + 1) hBg t738 rfl rfl tq_70 rfl rfl (ck.2.2.2.1.1) ?_
          refine ez_go (n := 1) (pc' := 76) (L' := [(7, .inl (kind)), (6, .inl (i)), (5, .inl (1)), (0, .inr (.inr (some (738)))), (1, .inr (.inr (some (r)))), (2, .inr (.inr (some (196)))), (3, .inl (kind)), (4, .inl (loc))]) (st' := [.inl (i), .inr (.inr (some (r + 1))), .inr (.inr (some (196)))]) rfl ?_
          have n10 : 2000 ≤ qz_N g (r + 1) ∧ qz_N g (r + 1) ≤ 2000 := ez_len hBg tp tq_89 rfl
          refine ez_aI hBg tp rfl tq_89 rfl rfl (by omega) (by omega) (fun (b9 : -2147483648 ≤ qz_I g (r + 1) (i).toNat) (b9' : qz_I g (r + 1) (i).toNat ≤ 2147483647) => ?_)
          have pb := uX_ptl pu (show i.toNat < u.length by omega)
          rw [show qz_I g (r + 1) (i).toNat = uX u i from (ck.2.2.2.2 i (by omega) (by omega)).1]
          exfalso; omega
      · exfalso; omega

theorem rd_convC {kind : Int} (hC : pz_C τ h T F E) (hx : sz_X τ h O D) (hd : dok D) (tr : τ r = 88) (a : tx h r u) (pu : ptl u) (u2 : (u.length : Int) ≤ 2000) (lr : ez_rg loc) (kd : kind = 0 ∨ kind = 1) (rb : r < 900000) (k1 : ∀ res, chS D F u loc kind res → ptl res → res.length ≤ 2000 → ∀ g, ez_B τ g → ez_fr cg_P h g → tx g 196 res → Q (.inl (some (ez_v (.inl 1))), g)) (k0 : chN D F u loc kind → ∀ g, ez_B τ g → ez_fr cg_P h g → Q (.inl (some (ez_v (.inl 0))), g)) : ez_W (d + 5) cm_68 0 [(0, .inr (.inr (some (738)))), (1, .inr (.inr (some (r)))), (2, .inr (.inr (some (196)))), (3, .inl (kind)), (4, .inl (loc))] [] h Q := by
  have hB := hC.1
  have hX := hC.2.1
  have t738 : τ 738 = 70 := hX 738 (by decide)
  have t196 : τ 196 = 1 := hX 196 (by decide)
  have tp := tx_p88 hB tr
  have al := a.1
  have cr : cg_P r = false := cg_tag hX (by rw [tr]; decide) (by rw [tr]; decide) (Or.inr (by rw [tr]; decide))
  have cp : cg_P (r + 1) = false := cg_tag hX (by rw [tp]; decide) (by rw [tp]; decide) (Or.inr (by rw [tp]; decide))
  obtain ⟨lr1, lr2⟩ := id lr
  have t733 : τ 733 = 65 := hX 733 (by decide)
  refine ez_go (n := 3) (pc' := 4) (L' := [(0, .inr (.inr (some (738)))), (1, .inr (.inr (some (r)))), (2, .inr (.inr (some (196)))), (3, .inl (kind)), (4, .inl (loc))]) (st' := [.inl (loc), .inr (.inr (some (r))), .inr (.inr (some (738)))]) rfl ?_
  refine ez_cv hB t738 rfl rfl rfl tq_70 rfl rfl rfl (rd_cload hC hx tr a pu u2 lr (by omega) (fun g1 B1 f1 z9 ck => ez_K0 ?_))
  refine ez_go (n := 2) (pc' := 9) (L' := [(0, .inr (.inr (some (738)))), (1, .inr (.inr (some (r)))), (2, .inr (.inr (some (196)))), (3, .inl (kind)), (4, .inl (loc))]) (st' := [.inl (2), .inl (kind)]) rfl ?_
  refine ez_icmp rfl rfl ⟨by first | omega | exact (sz_i32 _).1, by first | omega | exact (sz_i32 _).2⟩ ⟨by first | omega | exact (sz_i32 _).1, by first | omega | exact (sz_i32 _).2⟩ (fun (c1 : (kind) ≠ (2)) => ?_) (fun (c1 : ¬((kind) ≠ (2))) => ?_)
  · skip
    refine ez_go (n := 4) (pc' := 26) (L' := [(5, .inl (1)), (0, .inr (.inr (some (738)))), (1, .inr (.inr (some (r)))), (2, .inr (.inr (some (196)))), (3, .inl (kind)), (4, .inl (loc))]) (st' := [.inl (0), .inr (.inr (some (196)))]) rfl ?_
    refine ez_pf B1 t196 rfl rfl tq_1 rfl rfl rfl rfl (ez_vdI rfl rfl (by omega) (by omega)) (fun hB2 w3 => ?_)
    have v3 : qz_I (dz_put g1 196 1 (ez_v (.inl (0)))) 196 1 = 0 := w3.trans rfl
    have f3 : ez_fr (tx_P 196) g1 (dz_put g1 196 1 (ez_v (.inl (0)))) := (ez_fr.refl (tx_P 196) g1).put (tx_Pa 196) _ _
    have B3 := hB2
    generalize (dz_put g1 196 1 (ez_v (.inl (0)))) = g3 at *
    refine ez_go (n := 2) (pc' := 32) (L' := [(6, .inl (0)), (5, .inl (1)), (0, .inr (.inr (some (738)))), (1, .inr (.inr (some (r)))), (2, .inr (.inr (some (196)))), (3, .inl (kind)), (4, .inl (loc))]) (st' := []) rfl ?_
    refine ez_less [(6, .inl (0)), (5, .inl (1)), (0, .inr (.inr (some (738)))), (1, .inr (.inr (some (r)))), (2, .inr (.inr (some (196)))), (3, .inl (kind)), (4, .inl (loc))] rfl ⟨rfl, rfl, rfl, rfl, rfl, rfl, rfl, trivial⟩ ?_
    exact rd_convC_l hC hx hd tr a pu u2 lr kd k1 k0 _ 0 g3 [] False rfl (by omega) (by omega) B3 (f1.trans (ez_fr_mono f3 (fun z hz => cg_tx hz))) (ck.ap B3 f3) ⟨id, rfl⟩ (fun v hv => by cases hv) (by decide) (tx_clr v3)
  · exfalso; omega

theorem rd_cchange {t u9 kind : Int} (hC : pz_C τ h T F E) (hx : sz_X τ h O D) (hd : dok D) (sl : slt h) (txh : txs h X) (tr : ez_rg t) (u9r : ez_rg u9) (kindr : ez_rg kind) (locr : ez_rg loc) (hr1 : h.1 + 1 ≤ 600192) (hr2 : h.2.1 + 6 ≤ 7302232) (kA : (t < 0 ∨ 7 < t ∨ u9 < 0 ∨ 7 < u9 ∨ kind < 0 ∨ 3 < kind ∨ loc < 0 ∨ 3 < loc) → Q (.inr h.1, xc h 1)) (kS : ((0 ≤ t ∧ t ≤ 7) ∧ (0 ≤ u9 ∧ u9 ≤ 7) ∧ (0 ≤ kind ∧ kind ≤ 3) ∧ 0 ≤ loc ∧ loc ≤ 3) → qz_I h 202 6 = 0 → Q (.inr h.1, xc h 2)) (kX : ((0 ≤ t ∧ t ≤ 7) ∧ (0 ≤ u9 ∧ u9 ≤ 7) ∧ (0 ≤ kind ∧ kind ≤ 3) ∧ 0 ≤ loc ∧ loc ≤ 3) → qz_I h 202 6 ≠ 0 → chN D F (X u9.toNat) loc kind → ∀ g, ez_B τ g → ez_fr cg_P h g → Q (.inr g.1, xc g 0)) (k1 : ((0 ≤ t ∧ t ≤ 7) ∧ (0 ≤ u9 ∧ u9 ≤ 7) ∧ (0 ≤ kind ∧ kind ≤ 3) ∧ 0 ≤ loc ∧ loc ≤ 3) → qz_I h 202 6 ≠ 0 → ∀ res, chS D F (X u9.toNat) loc kind res → ptl res → res.length ≤ 2000 → ∀ g2, ez_B τ g2 → ez_fr cg_P h g2 → ∀ g, ez_B τ g → ez_fr (tx_P (754 + 2 * t.toNat)) g2 g → tx g (754 + 2 * t.toNat) res → Q (.inl (some (ez_v (.inl (res.length : Int)))), g)) : ez_W (d + 8) cm_5 0 [(0, .inr (.inr (some (192)))), (1, .inl (t)), (2, .inl (u9)), (3, .inl (kind)), (4, .inl (loc))] [] h Q := by
  have hB := hC.1
  have hX := hC.2.1
  have t192 : τ 192 = 44 := hX 192 (by decide)
  obtain ⟨tr1, tr2⟩ := id tr
  obtain ⟨u9r1, u9r2⟩ := id u9r
  obtain ⟨kindr1, kindr2⟩ := id kindr
  obtain ⟨locr1, locr2⟩ := id locr
  refine ez_go (n := 1) (pc' := 1) (L' := [(0, .inr (.inr (some (192)))), (1, .inl (t)), (2, .inl (u9)), (3, .inl (kind)), (4, .inl (loc))]) (st' := [.inl (t)]) rfl ?_
  refine ez_cs hB.2.1 rfl rfl rfl rfl rfl (rd_reqSlot hB (show ez_rg (t) by assumption) (by omega) (by omega) (fun a1 b1 => ez_K0 ?_) (fun w => ez_Kp (xc_exc hB rfl) rfl (kA (by omega))))
  refine ez_go (n := 1) (pc' := 5) (L' := [(0, .inr (.inr (some (192)))), (1, .inl (t)), (2, .inl (u9)), (3, .inl (kind)), (4, .inl (loc))]) (st' := [.inl (u9)]) rfl ?_
  refine ez_cs hB.2.1 rfl rfl rfl rfl rfl (rd_reqSlot hB (show ez_rg (u9) by assumption) (by omega) (by omega) (fun a2 b2 => ez_K0 ?_) (fun w => ez_Kp (xc_exc hB rfl) rfl (kA (by omega))))
  refine ez_go (n := 3) (pc' := 11) (L' := [(0, .inr (.inr (some (192)))), (1, .inl (t)), (2, .inl (u9)), (3, .inl (kind)), (4, .inl (loc))]) (st' := [.inl (3), .inl (0), .inl (kind)]) rfl ?_
  refine ez_cs hB.2.1 rfl rfl rfl rfl rfl (rd_reqRange ⟨by omega, by omega⟩ ⟨by omega, by omega⟩ ⟨by omega, by omega⟩ (by omega) (by omega) (fun a3 b3 => ez_K0 ?_) (fun w => ez_Kp (xc_exc hB rfl) rfl (kA (by omega))))
  refine ez_go (n := 3) (pc' := 18) (L' := [(0, .inr (.inr (some (192)))), (1, .inl (t)), (2, .inl (u9)), (3, .inl (kind)), (4, .inl (loc))]) (st' := [.inl (3), .inl (0), .inl (loc)]) rfl ?_
  refine ez_cs hB.2.1 rfl rfl rfl rfl rfl (rd_reqRange ⟨by omega, by omega⟩ ⟨by omega, by omega⟩ ⟨by omega, by omega⟩ (by omega) (by omega) (fun a4 b4 => ez_K0 ?_) (fun w => ez_Kp (xc_exc hB rfl) rfl (kA (by omega))))
  refine ez_go (n := 1) (pc' := 22) (L' := [(0, .inr (.inr (some (192)))), (1, .inl (t)), (2, .inl (u9)), (3, .inl (kind)), (4, .inl (loc))]) (st' := [.inr (.inr (some (192)))]) rfl ?_
  refine ez_cv hB t192 rfl rfl rfl tq_44 rfl rfl rfl (rd_reqSealed hB t192 (by omega) (by omega) (fun hsd => ez_K0 ?_) (fun w => ez_Kp (xc_exc hB rfl) rfl (kS (by omega) w)))
  refine ez_go (n := 2) (pc' := 27) (L' := [(0, .inr (.inr (some (192)))), (1, .inl (t)), (2, .inl (u9)), (3, .inl (kind)), (4, .inl (loc))]) (st' := [.inl (3), .inl (kind)]) rfl ?_
  refine ez_icmp rfl rfl ⟨by first | omega | exact (sz_i32 _).1, by first | omega | exact (sz_i32 _).2⟩ ⟨by first | omega | exact (sz_i32 _).1, by first | omega | exact (sz_i32 _).2⟩ (fun (c1 : (kind) ≠ (3)) => ?_) (fun (c1 : ¬((kind) ≠ (3))) => ?_)
  · skip
    refine ez_go (n := 1) (pc' := 53) (L' := [(0, .inr (.inr (some (192)))), (1, .inl (t)), (2, .inl (u9)), (3, .inl (kind)), (4, .inl (loc))]) (st' := [.inr (.inr (some (192)))]) rfl ?_
    refine ez_gC (p := 738) (tg := 70) hB t192 rfl rfl tq_44 rfl rfl (fun (t738 : _ = 70) => ?_)
    refine ez_go (n := 1) (pc' := 57) (L' := [(0, .inr (.inr (some (192)))), (1, .inl (t)), (2, .inl (u9)), (3, .inl (kind)), (4, .inl (loc))]) (st' := [.inr (.inr (some (192))), .inr (.inr (some (738)))]) rfl ?_
    refine ez_gC (p := 195) (tg := 47) hB t192 rfl rfl tq_44 rfl rfl (fun (t195 : _ = 47) => ?_)
    refine ez_go (n := 1) (pc' := 61) (L' := [(0, .inr (.inr (some (192)))), (1, .inl (t)), (2, .inl (u9)), (3, .inl (kind)), (4, .inl (loc))]) (st' := [.inl (u9), .inr (.inr (some (195))), .inr (.inr (some (738)))]) rfl ?_
    have n3 : 8 ≤ qz_N h 195 ∧ qz_N h 195 ≤ 8 := ez_len hB t195 tq_47 rfl
    have y4 : 1 ≤ qz_I h 195 (u9).toNat ∧ qz_I h 195 (u9).toNat ≤ 1000000 := ez_aB hB t195 tq_47 rfl rfl (by decide) (by omega) (by omega)
    have y4' : ((qz_P h 195 (u9).toNat : Nat) : Int) + 1 = qz_I h 195 (u9).toNat := by unfold qz_P; omega
    refine ez_aR hB t195 rfl tq_47 rfl rfl (by omega) (by omega) (by omega) (fun (t2 : _ = 88) => ?_)
    rw [show qz_P h 195 (u9).toNat = 754 + 2 * (u9).toNat by unfold qz_P; have := (sl (u9).toNat (by omega)).1; omega]
    refine ez_go (n := 1) (pc' := 63) (L' := [(0, .inr (.inr (some (192)))), (1, .inl (t)), (2, .inl (u9)), (3, .inl (kind)), (4, .inl (loc))]) (st' := [.inr (.inr (some (192))), .inr (.inr (some (754 + 2 * (u9).toNat))), .inr (.inr (some (738)))]) rfl ?_
    refine ez_gC (p := 196) (tg := 1) hB t192 rfl rfl tq_44 rfl rfl (fun (t196 : _ = 1) => ?_)
    refine ez_go (n := 2) (pc' := 69) (L' := [(0, .inr (.inr (some (192)))), (1, .inl (t)), (2, .inl (u9)), (3, .inl (kind)), (4, .inl (loc))]) (st' := [.inl (loc), .inl (kind), .inr (.inr (some (196))), .inr (.inr (some (754 + 2 * (u9).toNat))), .inr (.inr (some (738)))]) rfl ?_
    have tu := txh (u9).toNat (by omega)
    by_cases ek : kind = 2
    · subst ek
      refine ez_cv hB t738 rfl rfl rfl tq_70 rfl rfl rfl (rd_convT (kind := 2) hC hx hd (mx_tag hX (show (u9).toNat < 8 by omega)).2.1 tu.1 tu.2.1 (by have := tu.2.2; omega) locr (by omega) (fun res cs pr rl g2 hB2 f2 t2 => ez_K1 ?_) (fun cn g2 hB2 f2 => ez_K1 ?_))
      · have rm1 := f2.1; have rm2 := f2.2.1
        refine ez_go (n := 2) (pc' := 76) (L' := [(5, .inl (1)), (0, .inr (.inr (some (192)))), (1, .inl (t)), (2, .inl (u9)), (3, .inl (2)), (4, .inl (loc))]) (st' := [.inl (1)]) rfl ?_
        refine ez_cs hB2.2.1 rfl rfl rfl rfl rfl (rd_reqRoom1 (ez_K0 ?_))
        refine ez_go (n := 2) (pc' := 81) (L' := [(5, .inl (1)), (0, .inr (.inr (some (192)))), (1, .inl (t)), (2, .inl (u9)), (3, .inl (2)), (4, .inl (loc))]) (st' := [.inl (t), .inr (.inr (some (192)))]) rfl ?_
        have sl2 : slt g2 := sl.k (f2.2.2 195 rfl) (f2.2.2 773 rfl)
        refine ez_cv hB2 t192 rfl rfl rfl tq_44 rfl rfl rfl (rd_keepMade hB2 hX sl2 t2 (by omega) (by omega) (fun g3 hB3 f3 t3 => ez_K1 ?_))
        exact ez_retI rfl rfl (k1 (by omega) hsd res cs pr rl g2 hB2 f2 g3 hB3 f3 t3)
      · have rm1 := f2.1; have rm2 := f2.2.1
        refine ez_go (n := 2) (pc' := 76) (L' := [(5, .inl (0)), (0, .inr (.inr (some (192)))), (1, .inl (t)), (2, .inl (u9)), (3, .inl (2)), (4, .inl (loc))]) (st' := [.inl (0)]) rfl ?_
        exact ez_cs hB2.2.1 rfl rfl rfl rfl rfl (rd_reqRoom0 (by omega) (by omega) (ez_Kp (xc_exc hB2 rfl) rfl (kX (by omega) hsd cn g2 hB2 f2)))
    · have ek2 : kind = 0 ∨ kind = 1 := by omega
      refine ez_cv hB t738 rfl rfl rfl tq_70 rfl rfl rfl (rd_convC hC hx hd (mx_tag hX (show (u9).toNat < 8 by omega)).2.1 tu.1 tu.2.1 (by have := tu.2.2; omega) locr ek2 (by omega) (fun res cs pr rl g2 hB2 f2 t2 => ez_K1 ?_) (fun cn g2 hB2 f2 => ez_K1 ?_))
      · have rm1 := f2.1; have rm2 := f2.2.1
        refine ez_go (n := 2) (pc' := 76) (L' := [(5, .inl (1)), (0, .inr (.inr (some (192)))), (1, .inl (t)), (2, .inl (u9)), (3, .inl (kind)), (4, .inl (loc))]) (st' := [.inl (1)]) rfl ?_
        refine ez_cs hB2.2.1 rfl rfl rfl rfl rfl (rd_reqRoom1 (ez_K0 ?_))
        refine ez_go (n := 2) (pc' := 81) (L' := [(5, .inl (1)), (0, .inr (.inr (some (192)))), (1, .inl (t)), (2, .inl (u9)), (3, .inl (kind)), (4, .inl (loc))]) (st' := [.inl (t), .inr (.inr (some (192)))]) rfl ?_
        have sl2 : slt g2 := sl.k (f2.2.2 195 rfl) (f2.2.2 773 rfl)
        refine ez_cv hB2 t192 rfl rfl rfl tq_44 rfl rfl rfl (rd_keepMade hB2 hX sl2 t2 (by omega) (by omega) (fun g3 hB3 f3 t3 => ez_K1 ?_))
        exact ez_retI rfl rfl (k1 (by omega) hsd res cs pr rl g2 hB2 f2 g3 hB3 f3 t3)
      · have rm1 := f2.1; have rm2 := f2.2.1
        refine ez_go (n := 2) (pc' := 76) (L' := [(5, .inl (0)), (0, .inr (.inr (some (192)))), (1, .inl (t)), (2, .inl (u9)), (3, .inl (kind)), (4, .inl (loc))]) (st' := [.inl (0)]) rfl ?_
        exact ez_cs hB2.2.1 rfl rfl rfl rfl rfl (rd_reqRoom0 (by omega) (by omega) (ez_Kp (xc_exc hB2 rfl) rfl (kX (by omega) hsd cn g2 hB2 f2)))
  · skip
    refine ez_go (n := 1) (pc' := 31) (L' := [(0, .inr (.inr (some (192)))), (1, .inl (t)), (2, .inl (u9)), (3, .inl (kind)), (4, .inl (loc))]) (st' := [.inr (.inr (some (192)))]) rfl ?_
    refine ez_gC (p := 738) (tg := 70) hB t192 rfl rfl tq_44 rfl rfl (fun (t738 : _ = 70) => ?_)
    refine ez_go (n := 1) (pc' := 35) (L' := [(0, .inr (.inr (some (192)))), (1, .inl (t)), (2, .inl (u9)), (3, .inl (kind)), (4, .inl (loc))]) (st' := [.inr (.inr (some (192))), .inr (.inr (some (738)))]) rfl ?_
    refine ez_gC (p := 195) (tg := 47) hB t192 rfl rfl tq_44 rfl rfl (fun (t195 : _ = 47) => ?_)
    refine ez_go (n := 1) (pc' := 39) (L' := [(0, .inr (.inr (some (192)))), (1, .inl (t)), (2, .inl (u9)), (3, .inl (kind)), (4, .inl (loc))]) (st' := [.inl (u9), .inr (.inr (some (195))), .inr (.inr (some (738)))]) rfl ?_
    have n6 : 8 ≤ qz_N h 195 ∧ qz_N h 195 ≤ 8 := ez_len hB t195 tq_47 rfl
    have y7 : 1 ≤ qz_I h 195 (u9).toNat ∧ qz_I h 195 (u9).toNat ≤ 1000000 := ez_aB hB t195 tq_47 rfl rfl (by decide) (by omega) (by omega)
    have y7' : ((qz_P h 195 (u9).toNat : Nat) : Int) + 1 = qz_I h 195 (u9).toNat := by unfold qz_P; omega
    refine ez_aR hB t195 rfl tq_47 rfl rfl (by omega) (by omega) (by omega) (fun (t5 : _ = 88) => ?_)
    rw [show qz_P h 195 (u9).toNat = 754 + 2 * (u9).toNat by unfold qz_P; have := (sl (u9).toNat (by omega)).1; omega]
    refine ez_go (n := 1) (pc' := 41) (L' := [(0, .inr (.inr (some (192)))), (1, .inl (t)), (2, .inl (u9)), (3, .inl (kind)), (4, .inl (loc))]) (st' := [.inr (.inr (some (192))), .inr (.inr (some (754 + 2 * (u9).toNat))), .inr (.inr (some (738)))]) rfl ?_
    refine ez_gC (p := 196) (tg := 1) hB t192 rfl rfl tq_44 rfl rfl (fun (t196 : _ = 1) => ?_)
    refine ez_go (n := 1) (pc' := 46) (L' := [(0, .inr (.inr (some (192)))), (1, .inl (t)), (2, .inl (u9)), (3, .inl (kind)), (4, .inl (loc))]) (st' := [.inl (loc), .inr (.inr (some (196))), .inr (.inr (some (754 + 2 * (u9).toNat))), .inr (.inr (some (738)))]) rfl ?_
    have tu := txh (u9).toNat (by omega)
    have ek : kind = 3 := by omega
    subst ek
    refine ez_cv hB t738 rfl rfl rfl tq_70 rfl rfl rfl (rd_fold hC hx hd (mx_tag hX (show (u9).toNat < 8 by omega)).2.1 tu.1 tu.2.1 (by have := tu.2.2; omega) locr (fun res cs pr rl g2 hB2 f2 t2 => ez_K1 ?_) (fun cn g2 hB2 f2 => ez_K1 ?_))
    · have rm1 := f2.1; have rm2 := f2.2.1
      refine ez_go (n := 3) (pc' := 76) (L' := [(5, .inl (1)), (0, .inr (.inr (some (192)))), (1, .inl (t)), (2, .inl (u9)), (3, .inl (3)), (4, .inl (loc))]) (st' := [.inl (1)]) rfl ?_
      refine ez_cs hB2.2.1 rfl rfl rfl rfl rfl (rd_reqRoom1 (ez_K0 ?_))
      refine ez_go (n := 2) (pc' := 81) (L' := [(5, .inl (1)), (0, .inr (.inr (some (192)))), (1, .inl (t)), (2, .inl (u9)), (3, .inl (3)), (4, .inl (loc))]) (st' := [.inl (t), .inr (.inr (some (192)))]) rfl ?_
      have sl2 : slt g2 := sl.k (f2.2.2 195 rfl) (f2.2.2 773 rfl)
      refine ez_cv hB2 t192 rfl rfl rfl tq_44 rfl rfl rfl (rd_keepMade hB2 hX sl2 t2 (by omega) (by omega) (fun g3 hB3 f3 t3 => ez_K1 ?_))
      exact ez_retI rfl rfl (k1 (by omega) hsd res cs pr rl g2 hB2 f2 g3 hB3 f3 t3)
    · have rm1 := f2.1; have rm2 := f2.2.1
      refine ez_go (n := 3) (pc' := 76) (L' := [(5, .inl (0)), (0, .inr (.inr (some (192)))), (1, .inl (t)), (2, .inl (u9)), (3, .inl (3)), (4, .inl (loc))]) (st' := [.inl (0)]) rfl ?_
      exact ez_cs hB2.2.1 rfl rfl rfl rfl rfl (rd_reqRoom0 (by omega) (by omega) (ez_Kp (xc_exc hB2 rfl) rfl (kX (by omega) hsd cn g2 hB2 f2)))

end EzCg
/-! The class: reset, with its texts. (Written by wip/p2/py/pvt12.py.) -/
section EzRs
variable {d : Nat} {h : cz_H} {τ : Nat → Nat} {Q : cz_F → Prop} {F : rz_W} {E : Int → Prop}
theorem rd_untold {z : Nat} (hB : ez_B τ h) (tz : τ z = 4) (t206 : τ 206 = 3) (k : ∀ g, ez_B τ g → ez_fr (ez_one z) h g → qz_I g z 0 = 0 → qz_I g z 1 = 207 → qz_I g z 2 = 0 → (∀ j, 3 ≤ j → j ≤ 8 → qz_I g z j = 0) → Q (.inl none, g)) : ez_W d cm_182 0 [(0, .inr (.inr (some (z)))), (1, .inr (.inr (some (206))))] [] h Q := by
  refine ez_go (n := 2) (pc' := 2) (L' := [(0, .inr (.inr (some (z)))), (1, .inr (.inr (some (206))))]) (st' := [.inl (0), .inr (.inr (some (z)))]) rfl ?_
  refine ez_pf hB tz rfl rfl tq_4 rfl rfl rfl rfl (ez_vdI rfl rfl (by omega) (by omega)) (fun hB1 w2 => ?_)
  refine ez_go (n := 2) (pc' := 7) (L' := [(0, .inr (.inr (some (z)))), (1, .inr (.inr (some (206))))]) (st' := [.inr (.inr (some (206))), .inr (.inr (some (z)))]) rfl ?_
  refine ez_pf hB1 tz rfl rfl tq_4 rfl rfl rfl rfl (ez_vdR rfl t206 (by omega) (by omega)) (fun hB3 w4 => ?_)
  refine ez_go (n := 2) (pc' := 12) (L' := [(0, .inr (.inr (some (z)))), (1, .inr (.inr (some (206))))]) (st' := [.inl (0), .inr (.inr (some (z)))]) rfl ?_
  refine ez_pf hB3 tz rfl rfl tq_4 rfl rfl rfl rfl (ez_vdI rfl rfl (by omega) (by omega)) (fun hB5 w6 => ?_)
  refine ez_go (n := 2) (pc' := 17) (L' := [(0, .inr (.inr (some (z)))), (1, .inr (.inr (some (206))))]) (st' := [.inl (0), .inr (.inr (some (z)))]) rfl ?_
  refine ez_pf hB5 tz rfl rfl tq_4 rfl rfl rfl rfl (ez_vdI rfl rfl (by omega) (by omega)) (fun hB7 w8 => ?_)
  refine ez_go (n := 2) (pc' := 22) (L' := [(0, .inr (.inr (some (z)))), (1, .inr (.inr (some (206))))]) (st' := [.inl (0), .inr (.inr (some (z)))]) rfl ?_
  refine ez_pf hB7 tz rfl rfl tq_4 rfl rfl rfl rfl (ez_vdI rfl rfl (by omega) (by omega)) (fun hB9 w10 => ?_)
  refine ez_go (n := 2) (pc' := 27) (L' := [(0, .inr (.inr (some (z)))), (1, .inr (.inr (some (206))))]) (st' := [.inr (.inr none), .inr (.inr (some (z)))]) rfl ?_
  refine ez_pf hB9 tz rfl rfl tq_4 rfl rfl rfl rfl (ez_vdN rfl) (fun hB11 w12 => ?_)
  refine ez_go (n := 2) (pc' := 32) (L' := [(0, .inr (.inr (some (z)))), (1, .inr (.inr (some (206))))]) (st' := [.inr (.inr none), .inr (.inr (some (z)))]) rfl ?_
  refine ez_pf hB11 tz rfl rfl tq_4 rfl rfl rfl rfl (ez_vdN rfl) (fun hB13 w14 => ?_)
  refine ez_go (n := 2) (pc' := 37) (L' := [(0, .inr (.inr (some (z)))), (1, .inr (.inr (some (206))))]) (st' := [.inr (.inr none), .inr (.inr (some (z)))]) rfl ?_
  refine ez_pf hB13 tz rfl rfl tq_4 rfl rfl rfl rfl (ez_vdN rfl) (fun hB15 w16 => ?_)
  refine ez_go (n := 2) (pc' := 42) (L' := [(0, .inr (.inr (some (z)))), (1, .inr (.inr (some (206))))]) (st' := [.inr (.inr none), .inr (.inr (some (z)))]) rfl ?_
  refine ez_pf hB15 tz rfl rfl tq_4 rfl rfl rfl rfl (ez_vdN rfl) (fun hB17 w18 => ?_)
  refine ez_ret0 rfl rfl (k _ hB17 ((((((((((ez_fr.refl (ez_one z) h).put (show Nat.beq z z = true from Nat.beq_refl z) _ _).put (show Nat.beq z z = true from Nat.beq_refl z) _ _).put (show Nat.beq z z = true from Nat.beq_refl z) _ _).put (show Nat.beq z z = true from Nat.beq_refl z) _ _).put (show Nat.beq z z = true from Nat.beq_refl z) _ _).put (show Nat.beq z z = true from Nat.beq_refl z) _ _).put (show Nat.beq z z = true from Nat.beq_refl z) _ _).put (show Nat.beq z z = true from Nat.beq_refl z) _ _).put (show Nat.beq z z = true from Nat.beq_refl z) _ _) ?_ ?_ ?_ (fun j j3 j8 => ?_))
  · rw [ez_put_I (by omega), ez_put_I (by omega), ez_put_I (by omega), ez_put_I (by omega), ez_put_I (by omega), ez_put_I (by omega), ez_put_I (by omega), ez_put_I (by omega), w2]; rfl
  · rw [ez_put_I (by omega), ez_put_I (by omega), ez_put_I (by omega), ez_put_I (by omega), ez_put_I (by omega), ez_put_I (by omega), ez_put_I (by omega), w4]; rfl
  · rw [ez_put_I (by omega), ez_put_I (by omega), ez_put_I (by omega), ez_put_I (by omega), ez_put_I (by omega), ez_put_I (by omega), w6]; rfl
  · have : j = 3 ∨ j = 4 ∨ j = 5 ∨ j = 6 ∨ j = 7 ∨ j = 8 := by omega
    rcases this with e | e | e | e | e | e <;> subst e
    · rw [ez_put_I (by omega), ez_put_I (by omega), ez_put_I (by omega), ez_put_I (by omega), ez_put_I (by omega), w8]; rfl
    · rw [ez_put_I (by omega), ez_put_I (by omega), ez_put_I (by omega), ez_put_I (by omega), w10]; rfl
    · rw [ez_put_I (by omega), ez_put_I (by omega), ez_put_I (by omega), w12]; rfl
    · rw [ez_put_I (by omega), ez_put_I (by omega), w14]; rfl
    · rw [ez_put_I (by omega), w16]; rfl
    · rw [w18]; rfl

theorem rd_clear (hB : ez_B τ h) (t202 : τ 202 = 48) (t203 : τ 203 = 49) (t206 : τ 206 = 3) (k : ∀ g1 g, ez_B τ g1 → ez_fr (ez_one (sz_p h 0)) h g1 → qz_I g1 (sz_p h 0) 0 = 0 → qz_I g1 (sz_p h 0) 1 = 207 → qz_I g1 (sz_p h 0) 2 = 0 → (∀ j, 3 ≤ j → j ≤ 8 → qz_I g1 (sz_p h 0) j = 0) → ez_B τ g → ez_fr (ez_one 202) g1 g → qz_I g 202 1 = 1 → qz_I g 202 4 = 0 → qz_I g 202 5 = 0 → qz_I g 202 6 = 0 → Q (.inl none, g)) : ez_W (d + 1) cm_96 0 [(0, .inr (.inr (some (202))))] [] h Q := by
  refine ez_go (n := 1) (pc' := 1) (L' := [(0, .inr (.inr (some (202))))]) (st' := [.inr (.inr (some (202)))]) rfl ?_
  refine ez_gC (p := 203) (tg := 49) hB t202 rfl rfl tq_48 rfl rfl (fun (t203 : _ = 49) => ?_)
  refine ez_go (n := 1) (pc' := 5) (L' := [(0, .inr (.inr (some (202))))]) (st' := [.inl (0), .inr (.inr (some (203)))]) rfl ?_
  have n2 : 513 ≤ qz_N h 203 ∧ qz_N h 203 ≤ 513 := ez_len hB t203 tq_49 rfl
  have y3 : 1 ≤ qz_I h 203 (0 : Int).toNat ∧ qz_I h 203 (0 : Int).toNat ≤ 1000000 := ez_aB hB t203 tq_49 rfl rfl (by decide) (by omega) (by omega)
  have y3' : ((qz_P h 203 (0 : Int).toNat : Nat) : Int) + 1 = qz_I h 203 (0 : Int).toNat := by unfold qz_P; omega
  refine ez_aR hB t203 rfl tq_49 rfl rfl (by omega) (by omega) (by omega) (fun (t1 : _ = 4) => ?_)
  refine ez_go (n := 1) (pc' := 7) (L' := [(0, .inr (.inr (some (202))))]) (st' := [.inr (.inr (some (202))), .inr (.inr (some (qz_P h 203 (0 : Int).toNat)))]) rfl ?_
  refine ez_gC (p := 206) (tg := 3) hB t202 rfl rfl tq_48 rfl rfl (fun (t206 : _ = 3) => ?_)
  have hzp : qz_P h 203 (0 : Int).toNat = sz_p h 0 := rfl
  have tz : τ (sz_p h 0) = 4 := t1
  refine ez_cv hB t1 rfl rfl rfl tq_4 rfl rfl rfl (rd_untold hB t1 t206 (fun g1 hB1 f1 v0 v1 v2 v3 => ez_K0 ?_))
  rw [hzp] at f1 v0 v1 v2 v3
  have n202 : sz_p h 0 ≠ 202 := fun e => by rw [e, t202] at tz; cases tz
  have n203 : sz_p h 0 ≠ 203 := fun e => by rw [e, t203] at tz; cases tz
  refine ez_go (n := 2) (pc' := 15) (L' := [(0, .inr (.inr (some (202))))]) (st' := [.inl (1), .inr (.inr (some (202)))]) rfl ?_
  refine ez_pf hB1 t202 rfl rfl tq_48 rfl rfl rfl rfl (ez_vdI rfl rfl (by omega) (by omega)) (fun hB4 w5 => ?_)
  refine ez_go (n := 2) (pc' := 20) (L' := [(0, .inr (.inr (some (202))))]) (st' := [.inl (0), .inr (.inr (some (202)))]) rfl ?_
  refine ez_pf hB4 t202 rfl rfl tq_48 rfl rfl rfl rfl (ez_vdI rfl rfl (by omega) (by omega)) (fun hB6 w7 => ?_)
  refine ez_go (n := 2) (pc' := 25) (L' := [(0, .inr (.inr (some (202))))]) (st' := [.inl (0), .inr (.inr (some (202)))]) rfl ?_
  refine ez_pf hB6 t202 rfl rfl tq_48 rfl rfl rfl rfl (ez_vdI rfl rfl (by omega) (by omega)) (fun hB8 w9 => ?_)
  refine ez_go (n := 2) (pc' := 30) (L' := [(0, .inr (.inr (some (202))))]) (st' := [.inl (0), .inr (.inr (some (202)))]) rfl ?_
  refine ez_pf hB8 t202 rfl rfl tq_48 rfl rfl rfl rfl (ez_vdI rfl rfl (by omega) (by omega)) (fun hB10 w11 => ?_)
  refine ez_ret0 rfl rfl (k g1 _ hB1 f1 v0 v1 v2 v3 hB10 (((((ez_fr.refl (ez_one 202) g1).put (show Nat.beq 202 202 = true from rfl) _ _).put (show Nat.beq 202 202 = true from rfl) _ _).put (show Nat.beq 202 202 = true from rfl) _ _).put (show Nat.beq 202 202 = true from rfl) _ _) ?_ ?_ ?_ ?_)
  · rw [ez_put_I (by omega), ez_put_I (by omega), ez_put_I (by omega), w5]; rfl
  · rw [ez_put_I (by omega), ez_put_I (by omega), w7]; rfl
  · rw [ez_put_I (by omega), w9]; rfl
  · rw [w11]; rfl

/-- nothing is told -/
theorem jz_clear {g1 g : cz_H} (hI : jz_I τ h F E) (hu2 : qz_I h 206 2 = 0) (hu3 : qz_I h 206 3 = 0) (f1 : ez_fr (ez_one (sz_p h 0)) h g1) (v0 : qz_I g1 (sz_p h 0) 0 = 0) (v1 : qz_I g1 (sz_p h 0) 1 = 207) (v2 : qz_I g1 (sz_p h 0) 2 = 0) (hB : ez_B τ g) (f2 : ez_fr (ez_one 202) g1 g) (e1 : qz_I g 202 1 = 1) (e4 : qz_I g 202 4 = 0) (e5 : qz_I g 202 5 = 0) : jz_I τ g (fun _ => (0, none)) (fun _ => False) := by
  obtain ⟨i1, i2, ⟨i3, i4⟩, i5, i6, i7, i8, i9⟩ := hI
  have t202 : τ 202 = 48 := i2 202 (by decide)
  have t203 : τ 203 = 49 := i2 203 (by decide)
  have tz : τ (sz_p h 0) = 4 := sz_tag i1 t203 (Int.le_refl 0) (by omega)
  have fr : ∀ q, q ≠ sz_p h 0 → q ≠ 202 → g.2.2 q = h.2.2 q := fun q h1 h2 => (f2.2.2 q (dz_beq_ne h2)).trans (f1.2.2 q (dz_beq_ne h1))
  have n : ∀ {q t}, τ q = t → t ≠ 4 → q ≠ sz_p h 0 := fun {q t} hq hh e => by rw [e, tz] at hq; exact hh hq.symm
  have e203 := fr 203 (n t203 (by decide)) (by decide)
  have hp : ∀ k, sz_p g k = sz_p h k := fun k => by unfold sz_p qz_P qz_I; rw [e203]
  have n2 : sz_p h 0 ≠ 202 := fun e => by rw [e, t202] at tz; cases tz
  have z : ∀ j, qz_I g (sz_p h 0) j = qz_I g1 (sz_p h 0) j := fun j => f2.I (dz_beq_ne n2) j
  have e206 : ∀ j, qz_I g 206 j = qz_I h 206 j := fun j => by unfold qz_I; rw [fr 206 (n (i2 206 (by decide)) (by decide)) (by decide)]
  refine ⟨hB, i2, ⟨⟨?_, fun i j i0 ij jn => by omega⟩, fun i j a b c dd e => i4 i j a b c dd (by rw [hp, hp] at e; exact e)⟩, fun i hi => by omega, by omega, fun s l hl => ?_, fun x k x0 x1 hk => ?_, [], by rw [e5]; exact Int.le_refl _, fun x hx => absurd rfl hx⟩
  · unfold sz_f; rw [hp, z]; exact v0
  · obtain ⟨y1, y2, y3⟩ := i7 s l hl
    obtain ⟨z1, z2⟩ := nz_hz i1 i2 s l hl
    have q1 := fr s (n z1 (by decide)) (by omega)
    have q2 := fr _ (n z2 (by decide)) (by omega)
    have q3 : qz_P g s 0 = qz_P h s 0 := by unfold qz_P qz_I; rw [q1]
    refine ⟨?_, y2, by rw [q3]; exact y3⟩
    unfold nz_S at *
    rw [q3]
    unfold qz_N qz_I at *
    rw [q2]
    exact y1
  · have k0 : k = 0 := by have := hk.1; have := hk.2.1; omega
    subst k0
    have hfp : sz_fp g 0 = 206 := by unfold sz_fp qz_P; rw [hp, z, v1]; rfl
    rw [hfp]
    refine ⟨⟨(e206 2).trans hu2, (e206 3).trans hu3, fun w => absurd rfl w⟩, ?_⟩
    rw [hp, z, v2]
    exact ⟨fun w => absurd rfl w, fun w => w.elim⟩
theorem jx_clear {g1 g : cz_H} (hI : jz_I τ h F E) (hu1 : qz_I h 206 1 = 17262) (hu5 : qz_I h 206 5 = -1 ∧ qz_I h 206 6 = -1 ∧ qz_I h 206 7 = -1) (f1 : ez_fr (ez_one (sz_p h 0)) h g1) (v1 : qz_I g1 (sz_p h 0) 1 = 207) (v2 : qz_I g1 (sz_p h 0) 2 = 0) (v3 : ∀ j, 3 ≤ j → j ≤ 8 → qz_I g1 (sz_p h 0) j = 0) (f2 : ez_fr (ez_one 202) g1 g) (e1 : qz_I g 202 1 = 1) : jx τ g xD0 := by
  obtain ⟨i1, i2, -⟩ := hI
  have t202 : τ 202 = 48 := i2 202 (by decide)
  have t203 : τ 203 = 49 := i2 203 (by decide)
  have tz : τ (sz_p h 0) = 4 := sz_tag i1 t203 (Int.le_refl 0) (by omega)
  have fr : ∀ q, q ≠ sz_p h 0 → q ≠ 202 → g.2.2 q = h.2.2 q := fun q h1 h2 => (f2.2.2 q (dz_beq_ne h2)).trans (f1.2.2 q (dz_beq_ne h1))
  have n : ∀ {q t}, τ q = t → t ≠ 4 → q ≠ sz_p h 0 := fun {q t} hq hh e => by rw [e, tz] at hq; exact hh hq.symm
  have e203 := fr 203 (n t203 (by decide)) (by decide)
  have hp : ∀ k, sz_p g k = sz_p h k := fun k => by unfold sz_p qz_P qz_I; rw [e203]
  have n2 : sz_p h 0 ≠ 202 := fun e => by rw [e, t202] at tz; cases tz
  have z : ∀ j, qz_I g (sz_p h 0) j = qz_I g1 (sz_p h 0) j := fun j => f2.I (dz_beq_ne n2) j
  have e206 : ∀ j, qz_I g 206 j = qz_I h 206 j := fun j => by unfold qz_I; rw [fr 206 (n (i2 206 (by decide)) (by decide)) (by decide)]
  refine ⟨fun _ => 0, fun x k x0 x1 hk => ?_⟩
  have k0 : k = 0 := by have := hk.1; have := hk.2.1; omega
  subst k0
  have hfp : sz_fp g 0 = 206 := by unfold sz_fp qz_P; rw [hp, z, v1]; rfl
  rw [hfp, hp]
  have w : ∀ j, 3 ≤ j → j ≤ 8 → qz_I g (sz_p h 0) j = 0 := fun j a b => (z j).trans (v3 j a b)
  have o : ∀ j, 3 ≤ j → j ≤ 8 → xO τ g (qz_I g (sz_p h 0) j) none := fun j a b => ⟨fun _ => w j a b, fun l e => by cases e⟩
  exact ⟨⟨(e206 1).trans hu1, (e206 5).trans hu5.1, (e206 6).trans hu5.2.1, (e206 7).trans hu5.2.2⟩, ⟨(z 2).trans v2, w 3 (by decide) (by decide), w 4 (by decide) (by decide)⟩, ⟨o 5 (by decide) (by decide), o 6 (by decide) (by decide), o 7 (by decide) (by decide)⟩, w 8 (by decide) (by decide)⟩
def sz_P88 (τ : Nat → Nat) (z : Nat) : Bool := Nat.beq (τ z) 88
theorem sz_P88n (hX : jz_X τ) {q t : Nat} (hq : τ q = t) (ht : t ≠ 88) : sz_P88 τ q = false := dz_beq_ne (fun e => ht (hq.symm.trans e))
theorem rd_reset_l {bf : Int} (t192 : τ 192 = 44) (hX : jz_X τ) (sl : slt h) (k : ∀ g, ez_B τ g → ez_fr (sz_P88 τ) h g → (∀ i : Nat, i < 8 → qz_I g (754 + 2 * i) 1 = 0) → Q (.inl (some (ez_v (.inl bf))), g)) : ∀ (m : Nat) (t : Int) (g : cz_H), m = (8 - t).toNat → 0 ≤ t → t ≤ 8 → ez_B τ g → ez_fr (sz_P88 τ) h g → (∀ i : Nat, i < t.toNat → qz_I g (754 + 2 * i) 1 = 0) → ez_W d cm_36 25 [(2, .inl (t)), (1, .inl (bf)), (0, .inr (.inr (some (192))))] [] g Q := by
  intro m
  induction m with
  | zero =>
    intro t g hm a1 a2 hB hf he
    have c95 : ∀ j, qz_I g 195 j = qz_I h 195 j := fun j => hf.I (sz_P88n hX (hX 195 (by decide)) (by decide)) j
    refine ez_go (n := 2) (pc' := 28) (L' := [(2, .inl (t)), (1, .inl (bf)), (0, .inr (.inr (some (192))))]) (st' := [.inl (8), .inl (t)]) rfl ?_
    refine ez_icmp rfl rfl ⟨by first | omega | exact (sz_i32 _).1, by first | omega | exact (sz_i32 _).2⟩ ⟨by first | omega | exact (sz_i32 _).1, by first | omega | exact (sz_i32 _).2⟩ (fun (c1 : (8) ≤ (t)) => ?_) (fun (c1 : ¬((8) ≤ (t))) => ?_)
    · skip
      refine ez_go (n := 1) (pc' := 48) (L' := [(2, .inl (t)), (1, .inl (bf)), (0, .inr (.inr (some (192))))]) (st' := [.inl (bf)]) rfl ?_
      exact ez_retI rfl rfl (k g hB hf (fun i hi => he i (by omega)))
    · exfalso; omega
  | succ m ih =>
    intro t g hm a1 a2 hB hf he
    have c95 : ∀ j, qz_I g 195 j = qz_I h 195 j := fun j => hf.I (sz_P88n hX (hX 195 (by decide)) (by decide)) j
    refine ez_go (n := 2) (pc' := 28) (L' := [(2, .inl (t)), (1, .inl (bf)), (0, .inr (.inr (some (192))))]) (st' := [.inl (8), .inl (t)]) rfl ?_
    refine ez_icmp rfl rfl ⟨by first | omega | exact (sz_i32 _).1, by first | omega | exact (sz_i32 _).2⟩ ⟨by first | omega | exact (sz_i32 _).1, by first | omega | exact (sz_i32 _).2⟩ (fun (c1 : (8) ≤ (t)) => ?_) (fun (c1 : ¬((8) ≤ (t))) => ?_)
    · exfalso; omega
    · skip
      refine ez_go (n := 1) (pc' := 32) (L' := [(2, .inl (t)), (1, .inl (bf)), (0, .inr (.inr (some (192))))]) (st' := [.inr (.inr (some (192)))]) rfl ?_
      refine ez_gC (p := 195) (tg := 47) hB t192 rfl rfl tq_44 rfl rfl (fun (t195 : _ = 47) => ?_)
      refine ez_go (n := 1) (pc' := 36) (L' := [(2, .inl (t)), (1, .inl (bf)), (0, .inr (.inr (some (192))))]) (st' := [.inl (t), .inr (.inr (some (195)))]) rfl ?_
      have n3 : 8 ≤ qz_N g 195 ∧ qz_N g 195 ≤ 8 := ez_len hB t195 tq_47 rfl
      have y4 : 1 ≤ qz_I g 195 (t).toNat ∧ qz_I g 195 (t).toNat ≤ 1000000 := ez_aB hB t195 tq_47 rfl rfl (by decide) (by omega) (by omega)
      have y4' : ((qz_P g 195 (t).toNat : Nat) : Int) + 1 = qz_I g 195 (t).toNat := by unfold qz_P; omega
      refine ez_aR hB t195 rfl tq_47 rfl rfl (by omega) (by omega) (by omega) (fun (t2 : _ = 88) => ?_)
      rw [show qz_P g 195 (t).toNat = 754 + 2 * (t).toNat by unfold qz_P; have := (sl (t).toNat (by omega)).1; rw [show qz_I g 195 (t).toNat = qz_I h 195 (t).toNat from c95 _]; omega]
      refine ez_go (n := 1) (pc' := 38) (L' := [(2, .inl (t)), (1, .inl (bf)), (0, .inr (.inr (some (192))))]) (st' := [.inl (0), .inr (.inr (some (754 + 2 * (t).toNat)))]) rfl ?_
      refine ez_pf hB (mx_tag hX (show (t).toNat < 8 by omega)).2.1 rfl rfl tq_88 rfl rfl rfl rfl (ez_vdI rfl rfl (by omega) (by omega)) (fun hB5 w6 => ?_)
      refine ez_go (n := 2) (pc' := 25) (L' := [(2, .inl (t + 1)), (1, .inl (bf)), (0, .inr (.inr (some (192))))]) (st' := []) rfl ?_
      refine ez_less [(2, .inl (t + 1)), (1, .inl (bf)), (0, .inr (.inr (some (192))))] rfl ⟨rfl, rfl, rfl, trivial⟩ ?_
      have tz1 : τ (754 + 2 * t.toNat) = 88 := (mx_tag hX (show (t).toNat < 8 by omega)).2.1
      refine ih _ _ (by omega) (by omega) (by omega) hB5 (hf.put (show Nat.beq (τ (754 + 2 * t.toNat)) 88 = true by rw [tz1]; rfl) _ _) (fun i hi => ?_)
      by_cases e : i = t.toNat
      · rw [e, w6]; rfl
      · rw [ez_put_I (by omega)]; exact he i (by omega)
theorem rd_reset (hI : jz_I τ h F E) (sl : slt h) (hu1 : qz_I h 206 1 = 17262) (hu5 : qz_I h 206 5 = -1 ∧ qz_I h 206 6 = -1 ∧ qz_I h 206 7 = -1) (hu2 : qz_I h 206 2 = 0) (hu3 : qz_I h 206 3 = 0) (k : ∀ bf g1 g2 g, ((qz_I h 202 6 = 0 ∧ bf = 0) ∨ (qz_I h 202 6 ≠ 0 ∧ bf = 1)) → ez_fr (ez_one (sz_p h 0)) h g1 → ez_fr (ez_one 202) g1 g2 → jz_I τ g2 (fun _ => (0, none)) (fun _ => False) → jx τ g2 xD0 → ez_B τ g → ez_fr (sz_P88 τ) g2 g → (∀ i : Nat, i < 8 → qz_I g (754 + 2 * i) 1 = 0) → qz_I g2 202 1 = 1 → qz_I g2 202 4 = 0 → qz_I g2 202 5 = 0 → qz_I g2 202 6 = 0 → Q (.inl (some (ez_v (.inl bf))), g)) : ez_W (d + 2) cm_36 0 [(0, .inr (.inr (some (192))))] [] h Q := by
  have t192 : τ 192 = 44 := hI.2.1 192 (by decide)
  refine ez_go (n := 1) (pc' := 1) (L' := [(0, .inr (.inr (some (192))))]) (st' := [.inr (.inr (some (192)))]) rfl ?_
  refine ez_gC (p := 202) (tg := 48) hI.1 t192 rfl rfl tq_44 rfl rfl (fun (t202 : _ = 48) => ?_)
  refine ez_gI hI.1 t202 rfl rfl tq_48 rfl rfl (fun (b1 : 0 ≤ qz_I h 202 6) (b1' : qz_I h 202 6 ≤ 1) => ?_)
  refine ez_if rfl rfl ⟨by first | omega | exact (sz_i32 _).1, by first | omega | exact (sz_i32 _).2⟩ (fun (c2 : (qz_I h 202 6) = (0)) => ?_) (fun (c2 : ¬((qz_I h 202 6) = (0))) => ?_)
  · skip
    refine ez_go (n := 3) (pc' := 17) (L' := [(1, .inl (0)), (0, .inr (.inr (some (192))))]) (st' := [.inr (.inr (some (192)))]) rfl ?_
    refine ez_gC (p := 202) (tg := 48) hI.1 t192 rfl rfl tq_44 rfl rfl (fun (t202 : _ = 48) => ?_)
    refine ez_cv hI.1 t202 rfl rfl rfl tq_48 rfl rfl rfl (rd_clear hI.1 t202 (hI.2.1 203 (by decide)) (hI.2.1 206 (by decide)) (fun g1 g hB1 f1 v0 v1 v2 v3 hB2 f2 e1 e4 e5 e6 => ez_K0 ?_))
    have hI2 := jz_clear hI hu2 hu3 f1 v0 v1 v2 hB2 f2 e1 e4 e5
    have hX2 := jx_clear hI hu1 hu5 f1 v1 v2 v3 f2 e1
    have tz0 : τ (sz_p h 0) = 4 := sz_tag hI.1 (hI.2.1 203 (by decide)) (Int.le_refl 0) (by omega)
    have c9 : ∀ q, (q = 195 ∨ q = 773) → g.2.2 q = h.2.2 q := fun q hq => by
      have tq : τ q = 46 ∨ τ q = 47 ∨ τ q = 78 ∨ τ q ≠ 4 := Or.inr (Or.inr (Or.inr (by rcases hq with e | e <;> (subst e; rw [hI.2.1 _ (by decide)]; decide))))
      have n4 : τ q ≠ 4 := by rcases hq with e | e <;> (subst e; rw [hI.2.1 _ (by decide)]; decide)
      rw [f2.2.2 q (dz_beq_ne (by omega)), f1.2.2 q (dz_beq_ne (fun e => by rw [e, tz0] at n4; exact n4 rfl))]
    have sl2 : slt g := sl.k (c9 195 (Or.inl rfl)) (c9 773 (Or.inr rfl))
    refine ez_go (n := 2) (pc' := 25) (L' := [(2, .inl (0)), (1, .inl (0)), (0, .inr (.inr (some (192))))]) (st' := []) rfl ?_
    refine ez_less [(2, .inl (0)), (1, .inl (0)), (0, .inr (.inr (some (192))))] rfl ⟨rfl, rfl, rfl, trivial⟩ ?_
    exact rd_reset_l (h := g) t192 hI.2.1 sl2 (fun g3 hB3 f3 z3 => k _ g1 g g3 (by omega) f1 f2 hI2 hX2 hB3 f3 z3 e1 e4 e5 e6) _ 0 g rfl (by omega) (by omega) hB2 (ez_fr.refl _ _) (fun i hi => by simp at hi)
  · skip
    refine ez_go (n := 4) (pc' := 17) (L' := [(1, .inl (1)), (0, .inr (.inr (some (192))))]) (st' := [.inr (.inr (some (192)))]) rfl ?_
    refine ez_gC (p := 202) (tg := 48) hI.1 t192 rfl rfl tq_44 rfl rfl (fun (t202 : _ = 48) => ?_)
    refine ez_cv hI.1 t202 rfl rfl rfl tq_48 rfl rfl rfl (rd_clear hI.1 t202 (hI.2.1 203 (by decide)) (hI.2.1 206 (by decide)) (fun g1 g hB1 f1 v0 v1 v2 v3 hB2 f2 e1 e4 e5 e6 => ez_K0 ?_))
    have hI2 := jz_clear hI hu2 hu3 f1 v0 v1 v2 hB2 f2 e1 e4 e5
    have hX2 := jx_clear hI hu1 hu5 f1 v1 v2 v3 f2 e1
    have tz0 : τ (sz_p h 0) = 4 := sz_tag hI.1 (hI.2.1 203 (by decide)) (Int.le_refl 0) (by omega)
    have c9 : ∀ q, (q = 195 ∨ q = 773) → g.2.2 q = h.2.2 q := fun q hq => by
      have tq : τ q = 46 ∨ τ q = 47 ∨ τ q = 78 ∨ τ q ≠ 4 := Or.inr (Or.inr (Or.inr (by rcases hq with e | e <;> (subst e; rw [hI.2.1 _ (by decide)]; decide))))
      have n4 : τ q ≠ 4 := by rcases hq with e | e <;> (subst e; rw [hI.2.1 _ (by decide)]; decide)
      rw [f2.2.2 q (dz_beq_ne (by omega)), f1.2.2 q (dz_beq_ne (fun e => by rw [e, tz0] at n4; exact n4 rfl))]
    have sl2 : slt g := sl.k (c9 195 (Or.inl rfl)) (c9 773 (Or.inr rfl))
    refine ez_go (n := 2) (pc' := 25) (L' := [(2, .inl (0)), (1, .inl (1)), (0, .inr (.inr (some (192))))]) (st' := []) rfl ?_
    refine ez_less [(2, .inl (0)), (1, .inl (1)), (0, .inr (.inr (some (192))))] rfl ⟨rfl, rfl, rfl, trivial⟩ ?_
    exact rd_reset_l (h := g) t192 hI.2.1 sl2 (fun g3 hB3 f3 z3 => k _ g1 g g3 (by omega) f1 f2 hI2 hX2 hB3 f3 z3 e1 e4 e5 e6) _ 0 g rfl (by omega) (by omega) hB2 (ez_fr.refl _ _) (fun i hi => by simp at hi)

end EzRs
/-! UTF-8 on the tape: the class. (Written by wip/p2/py/pvt13.py.) -/
theorem b_all {P : Int → Prop} (h : ∀ k : Fin 384, P ((k.val : Int) - 128)) : ∀ x, -128 ≤ x → x ≤ 255 → P x := fun x h1 h2 => by
  have := h ⟨(x + 128).toNat, by omega⟩
  have e : (((x + 128).toNat : Nat) : Int) - 128 = x := by omega
  rw [show (((⟨(x + 128).toNat, by omega⟩ : Fin 384).val : Nat) : Int) - 128 = x from e] at this
  exact this
theorem u_255 : ∀ x : Int, -128 ≤ x → x ≤ 255 → (Int32.ofInt x &&& Int32.ofInt 255).toInt = x % 256 := b_all (by decide +kernel)
theorem u_192 : ∀ x : Int, -128 ≤ x → x ≤ 255 → ((Int32.ofInt x &&& Int32.ofInt 192).toInt = 128 ↔ 128 ≤ x % 256 ∧ x % 256 < 192) := b_all (by decide +kernel)
theorem u_63 : ∀ x : Int, -128 ≤ x → x ≤ 255 → (Int32.ofInt x &&& Int32.ofInt 63).toInt = x % 64 := b_all (by decide +kernel)
theorem u_l1 : ∀ x : Int, -128 ≤ x → x ≤ 255 → (Int32.ofInt x &&& Int32.ofInt ((Int32.ofInt 63 >>> (Int32.ofInt 1 &&& 31)).toInt)).toInt = x % 32 := b_all (by decide +kernel)
theorem u_l2 : ∀ x : Int, -128 ≤ x → x ≤ 255 → (Int32.ofInt x &&& Int32.ofInt ((Int32.ofInt 63 >>> (Int32.ofInt 2 &&& 31)).toInt)).toInt = x % 16 := b_all (by decide +kernel)
theorem u_l3 : ∀ x : Int, -128 ≤ x → x ≤ 255 → (Int32.ofInt x &&& Int32.ofInt ((Int32.ofInt 63 >>> (Int32.ofInt 3 &&& 31)).toInt)).toInt = x % 8 := b_all (by decide +kernel)
theorem u_bv {a b : Nat} (ha : a < 32768) (hb : b < 64) : (((BitVec.ofNat 32 a) <<< 6) ||| (BitVec.ofNat 32 b)).toNat = a * 64 + b := by
  rw [BitVec.toNat_or, BitVec.toNat_shiftLeft, BitVec.toNat_ofNat, BitVec.toNat_ofNat, Nat.mod_eq_of_lt (a := a) (by omega), Nat.mod_eq_of_lt (a := b) (by omega)]
  have e : a <<< 6 = a * 64 := by rw [Nat.shiftLeft_eq]
  rw [Nat.mod_eq_of_lt (by rw [e]; omega), ← Nat.shiftLeft_add_eq_or_of_lt (by omega : b < 2 ^ 6), e]
theorem u_or {p o : Int} (p0 : 0 ≤ p) (p1 : p < 32768) (o0 : 0 ≤ o) (o1 : o < 64) : (Int32.ofInt ((Int32.ofInt p <<< (Int32.ofInt 6 &&& 31)).toInt) ||| Int32.ofInt o).toInt = p * 64 + o := by
  have e0 : Int32.ofInt 6 &&& 31 = 6 := by decide
  have cv : ∀ {z : Int}, 0 ≤ z → z < 32768 → (Int32.ofInt z).toBitVec = BitVec.ofNat 32 z.toNat := fun {z} z0 z1 => by
    show BitVec.ofInt 32 z = _
    rw [show z = ((z.toNat : Nat) : Int) by omega, BitVec.ofInt_natCast]
    congr 1
  rw [e0, Int32.ofInt_toInt]
  have h2 : (Int32.ofInt p <<< 6 ||| Int32.ofInt o).toBitVec = (((BitVec.ofNat 32 p.toNat) <<< 6) ||| (BitVec.ofNat 32 o.toNat)) := by
    rw [Int32.toBitVec_or, Int32.toBitVec_shiftLeft, cv p0 p1, cv o0 (by omega)]
    rfl
  show ((Int32.ofInt p <<< 6 ||| Int32.ofInt o).toBitVec).toInt = _
  have h3 := u_bv (a := p.toNat) (b := o.toNat) (by omega) (by omega)
  rw [h2, BitVec.toInt_eq_toNat_of_lt (by rw [h3]; omega), h3]
  omega
/-- a point of UTF-8 that begins at a, by its octets; -1 where there is none -/
def uD1 (c d1 n a v : Int) : Prop := (a + 1 < n ∧ (128 ≤ d1 ∧ d1 < 192) ∧ v = (c - 192) * 64 + (d1 - 128)) ∨ ((n ≤ a + 1 ∨ ¬ (128 ≤ d1 ∧ d1 < 192)) ∧ v = -1)
def uD2 (c d1 d2 n a v : Int) : Prop := (a + 2 < n ∧ (128 ≤ d1 ∧ d1 < 192) ∧ (128 ≤ d2 ∧ d2 < 192) ∧ (2048 ≤ v ∧ (v < 55296 ∨ 57344 ≤ v)) ∧ v = ((c - 224) * 64 + (d1 - 128)) * 64 + (d2 - 128)) ∨ ((n ≤ a + 2 ∨ ¬ (128 ≤ d1 ∧ d1 < 192) ∨ ¬ (128 ≤ d2 ∧ d2 < 192) ∨ ((c - 224) * 64 + (d1 - 128)) * 64 + (d2 - 128) < 2048 ∨ (55296 ≤ ((c - 224) * 64 + (d1 - 128)) * 64 + (d2 - 128) ∧ ((c - 224) * 64 + (d1 - 128)) * 64 + (d2 - 128) < 57344)) ∧ v = -1)
def uD3 (c d1 d2 d3 n a v : Int) : Prop := (a + 3 < n ∧ (128 ≤ d1 ∧ d1 < 192) ∧ (128 ≤ d2 ∧ d2 < 192) ∧ (128 ≤ d3 ∧ d3 < 192) ∧ (65536 ≤ v ∧ v ≤ 1114111) ∧ v = (((c - 240) * 64 + (d1 - 128)) * 64 + (d2 - 128)) * 64 + (d3 - 128)) ∨ ((n ≤ a + 3 ∨ ¬ (128 ≤ d1 ∧ d1 < 192) ∨ ¬ (128 ≤ d2 ∧ d2 < 192) ∨ ¬ (128 ≤ d3 ∧ d3 < 192) ∨ (((c - 240) * 64 + (d1 - 128)) * 64 + (d2 - 128)) * 64 + (d3 - 128) < 65536 ∨ 1114111 < (((c - 240) * 64 + (d1 - 128)) * 64 + (d2 - 128)) * 64 + (d3 - 128)) ∧ v = -1)
def uD (c d1 d2 d3 n a v : Int) : Prop := (n ≤ a ∧ v = -1) ∨ (a < n ∧ ((c < 128 ∧ v = c) ∨ (128 ≤ c ∧ c < 194 ∧ v = -1) ∨ (194 ≤ c ∧ c < 224 ∧ uD1 c d1 n a v) ∨ (224 ≤ c ∧ c < 240 ∧ uD2 c d1 d2 n a v) ∨ (240 ≤ c ∧ c < 245 ∧ uD3 c d1 d2 d3 n a v) ∨ (245 ≤ c ∧ v = -1)))
def uB (B : Int → Int) (n a v : Int) : Prop := uD (B a % 256) (B (a + 1) % 256) (B (a + 2) % 256) (B (a + 3) % 256) n a v
theorem uD_uniq {c d1 d2 d3 n a v w : Int} (h1 : uD c d1 d2 d3 n a v) (h2 : uD c d1 d2 d3 n a w) : v = w := by
  rcases h1 with ⟨a1, a2⟩ | ⟨a1, ⟨b1, b2⟩ | ⟨b1, b2, b3⟩ | ⟨b1, b2, b3⟩ | ⟨b1, b2, b3⟩ | ⟨b1, b2, b3⟩ | ⟨b1, b2⟩⟩ <;> rcases h2 with ⟨c1, c2⟩ | ⟨c1, ⟨f1, f2⟩ | ⟨f1, f2, f3⟩ | ⟨f1, f2, f3⟩ | ⟨f1, f2, f3⟩ | ⟨f1, f2, f3⟩ | ⟨f1, f2⟩⟩ <;> first | omega | (unfold uD1 at b3 f3; omega) | (unfold uD2 at b3 f3; omega) | (unfold uD3 at b3 f3; omega)
theorem uD_bd {c d1 d2 d3 n a v : Int} (c0 : 0 ≤ c) (h1 : uD c d1 d2 d3 n a v) : -1 ≤ v ∧ v ≤ 1114111 := by
  rcases h1 with ⟨a1, a2⟩ | ⟨a1, ⟨b1, b2⟩ | ⟨b1, b2, b3⟩ | ⟨b1, b2, b3⟩ | ⟨b1, b2, b3⟩ | ⟨b1, b2, b3⟩ | ⟨b1, b2⟩⟩
  · omega
  · omega
  · omega
  · unfold uD1 at b3; omega
  · unfold uD2 at b3; omega
  · unfold uD3 at b3; omega
  · omega
theorem uB_bd {B : Int → Int} {n a v : Int} (h1 : uB B n a v) : -1 ≤ v ∧ v ≤ 1114111 := uD_bd (Int.emod_nonneg _ (by decide)) h1
/-- so many octets -/
def uw (p : Int) : Int := if p < 128 then 1 else if p < 2048 then 2 else if p < 65536 then 3 else 4
theorem uw_bd (p : Int) : 1 ≤ uw p ∧ uw p ≤ 4 := by unfold uw; split; (· omega); split; (· omega); split <;> omega
/-- the points from a on, after c others: -1 or how many -/
def uCm (B : Int → Int) (n : Int) : Nat → Int → Int → Int → Prop
  | 0, a, c, r => n ≤ a ∧ r = c
  | m + 1, a, c, r => (n ≤ a ∧ r = c) ∨ (a < n ∧ uB B n a (-1) ∧ r = -1) ∨ ∃ v, a < n ∧ uB B n a v ∧ 0 ≤ v ∧ uCm B n m (a + uw v) (c + 1) r
def uC (B : Int → Int) (n a c r : Int) : Prop := ∃ m, uCm B n m a c r
theorem uC.fin {B : Int → Int} {n a c : Int} (h : n ≤ a) : uC B n a c c := ⟨0, h, rfl⟩
theorem uC.bad {B : Int → Int} {n a c : Int} (h : a < n) (hv : uB B n a (-1)) : uC B n a c (-1) := ⟨1, Or.inr (Or.inl ⟨h, hv, rfl⟩)⟩
theorem uC.one {B : Int → Int} {n a c v r : Int} (h : a < n) (hv : uB B n a v) (h0 : 0 ≤ v) (hr : uC B n (a + uw v) (c + 1) r) : uC B n a c r := by
  obtain ⟨m, hm⟩ := hr
  exact ⟨m + 1, Or.inr (Or.inr ⟨v, h, hv, h0, hm⟩)⟩
theorem uC_cs {B : Int → Int} {n a c r : Int} (h1 : uC B n a c r) : (n ≤ a ∧ r = c) ∨ (a < n ∧ uB B n a (-1) ∧ r = -1) ∨ ∃ v, a < n ∧ uB B n a v ∧ 0 ≤ v ∧ uC B n (a + uw v) (c + 1) r := by
  obtain ⟨m, hm⟩ := h1
  cases m with
  | zero => exact Or.inl hm
  | succ m =>
    rcases hm with w | w | ⟨v, w1, w2, w3, w4⟩
    · exact Or.inl w
    · exact Or.inr (Or.inl w)
    · exact Or.inr (Or.inr ⟨v, w1, w2, w3, m, w4⟩)
theorem uCm_uniq {B : Int → Int} {n : Int} : ∀ (m : Nat) (a c r s : Int), uCm B n m a c r → uC B n a c s → r = s
  | 0, a, c, r, s, h1, h2 => by
    obtain ⟨e1, e2⟩ := h1
    rcases uC_cs h2 with ⟨w1, w2⟩ | ⟨w1, w2, w3⟩ | ⟨v, w1, w2, w3, w4⟩
    · rw [e2, w2]
    · omega
    · omega
  | m + 1, a, c, r, s, h1, h2 => by
    rcases h1 with ⟨e1, e2⟩ | ⟨e1, e2, e3⟩ | ⟨v, e1, e2, e3, e4⟩ <;> rcases uC_cs h2 with ⟨w1, w2⟩ | ⟨w1, w2, w3⟩ | ⟨v', w1, w2, w3, w4⟩
    · rw [e2, w2]
    · omega
    · omega
    · omega
    · rw [e3, w3]
    · have e9 : -1 = v' := uD_uniq e2 w2
      omega
    · omega
    · have e9 : v = -1 := uD_uniq e2 w2
      omega
    · have e9 : v = v' := uD_uniq e2 w2
      subst e9
      exact uCm_uniq m _ _ _ _ e4 w4
theorem uC_uniq {B : Int → Int} {n a c r s : Int} (h1 : uC B n a c r) (h2 : uC B n a c s) : r = s := by
  obtain ⟨m, hm⟩ := h1
  exact uCm_uniq m _ _ _ _ hm h2
theorem uCm_bd {B : Int → Int} {n : Int} : ∀ (m : Nat) (a c r : Int), uCm B n m a c r → r = -1 ∨ (c ≤ r ∧ (r = c ∨ r ≤ c + (n - a)))
  | 0, a, c, r, h1 => by
    obtain ⟨e1, e2⟩ := h1
    omega
  | m + 1, a, c, r, h1 => by
    rcases h1 with ⟨e1, e2⟩ | ⟨e1, e2, e3⟩ | ⟨v, e1, e2, e3, e4⟩
    · omega
    · omega
    · have := uCm_bd m _ _ _ e4
      have := uw_bd v
      omega
theorem uC_bd {B : Int → Int} {n a c r : Int} (h1 : uC B n a c r) : r = -1 ∨ (c ≤ r ∧ (r = c ∨ r ≤ c + (n - a))) := by
  obtain ⟨m, hm⟩ := h1
  exact uCm_bd m _ _ _ hm
/-- the first m points, up to a -/
def uPm (B : Int → Int) (n : Int) : Nat → Int → List Int → Prop
  | 0, a, l => a = 0 ∧ l = []
  | m + 1, a, l => ∃ a0 l0 v, uPm B n m a0 l0 ∧ a0 < n ∧ uB B n a0 v ∧ (0 ≤ v ∧ v ≤ 1114111) ∧ a = a0 + uw v ∧ l = l0 ++ [v]
theorem uPm_u {B : Int → Int} {n : Int} : ∀ {m : Nat} {a a' : Int} {l l' : List Int}, uPm B n m a l → uPm B n m a' l' → a = a' ∧ l = l'
  | 0, _, _, _, _, h, h' => ⟨h.1.trans h'.1.symm, h.2.trans h'.2.symm⟩
  | m + 1, _, _, _, _, ⟨a0, l0, v, h1, h2, h3, h4, h5, h6⟩, ⟨a0', l0', v', k1, k2, k3, k4, k5, k6⟩ => by
    obtain ⟨e1, e2⟩ := uPm_u h1 k1
    subst e1 e2
    have e3 : v = v' := uD_uniq h3 k3
    subst e3
    exact ⟨h5.trans k5.symm, h6.trans k6.symm⟩
theorem uPm_len {B : Int → Int} {n : Int} : ∀ {m : Nat} {a : Int} {l : List Int}, uPm B n m a l → l.length = m
  | 0, _, _, h => by rw [h.2]; rfl
  | m + 1, _, _, ⟨a0, l0, v, h1, h2, h3, h4, h5, h6⟩ => by rw [h6, List.length_append, uPm_len h1]; rfl
theorem uPm_ptl {B : Int → Int} {n : Int} : ∀ {m : Nat} {a : Int} {l : List Int}, uPm B n m a l → ptl l
  | 0, _, _, h => by rw [h.2]; exact fun v hv => by cases hv
  | m + 1, _, _, ⟨a0, l0, v, h1, h2, h3, h4, h5, h6⟩ => by
    rw [h6]
    refine ptl_app (uPm_ptl h1) (fun w hw => ?_)
    rw [List.mem_singleton] at hw
    rw [hw]; exact h4
section EzU8
variable {d : Nat} {h : cz_H} {τ : Nat → Nat} {Q : cz_F → Prop}
theorem rd_u8w {p : Int} (p0 : ez_rg p) (k : Q (.inl (some (ez_v (.inl (uw p)))), h)) : ez_W d cm_40 0 [(0, .inl (p))] [] h Q := by
  obtain ⟨p1, p2⟩ := p0
  refine ez_go (n := 2) (pc' := 4) (L' := [(0, .inl (p))]) (st' := [.inl (128), .inl (p)]) rfl ?_
  refine ez_icmp rfl rfl ⟨by first | omega | exact (sz_i32 _).1, by first | omega | exact (sz_i32 _).2⟩ ⟨by first | omega | exact (sz_i32 _).1, by first | omega | exact (sz_i32 _).2⟩ (fun (c1 : (128) ≤ (p)) => ?_) (fun (c1 : ¬((128) ≤ (p))) => ?_)
  · skip
    refine ez_go (n := 2) (pc' := 13) (L' := [(0, .inl (p))]) (st' := [.inl (2048), .inl (p)]) rfl ?_
    refine ez_icmp rfl rfl ⟨by first | omega | exact (sz_i32 _).1, by first | omega | exact (sz_i32 _).2⟩ ⟨by first | omega | exact (sz_i32 _).1, by first | omega | exact (sz_i32 _).2⟩ (fun (c2 : (2048) ≤ (p)) => ?_) (fun (c2 : ¬((2048) ≤ (p))) => ?_)
    · skip
      refine ez_go (n := 1) (pc' := 19) (L' := [(0, .inl (p))]) (st' := [.inl (p)]) rfl ?_
      refine ez_ldc (65536) rfl rfl rfl ?_
      refine ez_icmp rfl rfl ⟨by first | omega | exact (sz_i32 _).1, by first | omega | exact (sz_i32 _).2⟩ ⟨by first | omega | exact (sz_i32 _).1, by first | omega | exact (sz_i32 _).2⟩ (fun (c3 : (65536) ≤ (p)) => ?_) (fun (c3 : ¬((65536) ≤ (p))) => ?_)
      · skip
        refine ez_go (n := 1) (pc' := 29) (L' := [(0, .inl (p))]) (st' := [.inl (4)]) rfl ?_
        exact ez_retI rfl rfl (by rw [show (4 : Int) = uw p by unfold uw; first | rw [if_pos (by omega)] | rw [if_neg (by omega), if_pos (by omega)] | rw [if_neg (by omega), if_neg (by omega), if_pos (by omega)] | rw [if_neg (by omega), if_neg (by omega), if_neg (by omega)]]; exact k)
      · skip
        refine ez_go (n := 2) (pc' := 29) (L' := [(0, .inl (p))]) (st' := [.inl (3)]) rfl ?_
        exact ez_retI rfl rfl (by rw [show (3 : Int) = uw p by unfold uw; first | rw [if_pos (by omega)] | rw [if_neg (by omega), if_pos (by omega)] | rw [if_neg (by omega), if_neg (by omega), if_pos (by omega)] | rw [if_neg (by omega), if_neg (by omega), if_neg (by omega)]]; exact k)
    · skip
      refine ez_go (n := 1) (pc' := 17) (L' := [(0, .inl (p))]) (st' := [.inl (2)]) rfl ?_
      exact ez_retI rfl rfl (by rw [show (2 : Int) = uw p by unfold uw; first | rw [if_pos (by omega)] | rw [if_neg (by omega), if_pos (by omega)] | rw [if_neg (by omega), if_neg (by omega), if_pos (by omega)] | rw [if_neg (by omega), if_neg (by omega), if_neg (by omega)]]; exact k)
  · skip
    refine ez_go (n := 1) (pc' := 8) (L' := [(0, .inl (p))]) (st' := [.inl (1)]) rfl ?_
    exact ez_retI rfl rfl (by rw [show (1 : Int) = uw p by unfold uw; first | rw [if_pos (by omega)] | rw [if_neg (by omega), if_pos (by omega)] | rw [if_neg (by omega), if_neg (by omega), if_pos (by omega)] | rw [if_neg (by omega), if_neg (by omega), if_neg (by omega)]]; exact k)

theorem rd_isSurr {p : Int} (p0 : ez_rg p) (k1 : 55296 ≤ p ∧ p ≤ 57343 → Q (.inl (some (ez_v (.inl 1))), h)) (k0 : ¬ (55296 ≤ p ∧ p ≤ 57343) → Q (.inl (some (ez_v (.inl 0))), h)) : ez_W d cm_16 0 [(0, .inl (p))] [] h Q := by
  obtain ⟨p1, p2⟩ := p0
  refine ez_go (n := 1) (pc' := 1) (L' := [(0, .inl (p))]) (st' := [.inl (p)]) rfl ?_
  refine ez_ldcV (55296) rfl rfl rfl ?_
  refine ez_icmp rfl rfl ⟨by first | omega | exact (sz_i32 _).1, by first | omega | exact (sz_i32 _).2⟩ ⟨by first | omega | exact (sz_i32 _).1, by first | omega | exact (sz_i32 _).2⟩ (fun (c1 : (p) < (55296)) => ?_) (fun (c1 : ¬((p) < (55296))) => ?_)
  · skip
    refine ez_go (n := 1) (pc' := 19) (L' := [(0, .inl (p))]) (st' := [.inl (0)]) rfl ?_
    exact ez_retZ rfl rfl (by decide) (k0 (by omega))
  · skip
    refine ez_go (n := 1) (pc' := 8) (L' := [(0, .inl (p))]) (st' := [.inl (p)]) rfl ?_
    refine ez_ldcV (57343) rfl rfl rfl ?_
    refine ez_icmp rfl rfl ⟨by first | omega | exact (sz_i32 _).1, by first | omega | exact (sz_i32 _).2⟩ ⟨by first | omega | exact (sz_i32 _).1, by first | omega | exact (sz_i32 _).2⟩ (fun (c2 : (57343) < (p)) => ?_) (fun (c2 : ¬((57343) < (p))) => ?_)
    · skip
      refine ez_go (n := 1) (pc' := 19) (L' := [(0, .inl (p))]) (st' := [.inl (0)]) rfl ?_
      exact ez_retZ rfl rfl (by decide) (k0 (by omega))
    · skip
      refine ez_go (n := 2) (pc' := 19) (L' := [(0, .inl (p))]) (st' := [.inl (1)]) rfl ?_
      exact ez_retZ rfl rfl (by decide) (k1 (by omega))

theorem rd_decodeAt {a n : Int} (hB : ez_B τ h) (t192 : τ 192 = 44) (a0 : 0 ≤ a) (a1 : a ≤ 16400) (n0 : 0 ≤ n) (n1 : n ≤ 4096) (k : ∀ v, uB (rz_b h) n a v → Q (.inl (some (ez_v (.inl v))), h)) : ez_W (d + 1) cm_8 0 [(0, .inr (.inr (some (192)))), (1, .inl (a)), (2, .inl (n))] [] h Q := by
  refine ez_go (n := 2) (pc' := 2) (L' := [(0, .inr (.inr (some (192)))), (1, .inl (a)), (2, .inl (n))]) (st' := [.inl (n), .inl (a)]) rfl ?_
  refine ez_icmp rfl rfl ⟨by first | omega | exact (sz_i32 _).1, by first | omega | exact (sz_i32 _).2⟩ ⟨by first | omega | exact (sz_i32 _).1, by first | omega | exact (sz_i32 _).2⟩ (fun (c1 : (n) ≤ (a)) => ?_) (fun (c1 : ¬((n) ≤ (a))) => ?_)
  · skip
    refine ez_go (n := 4) (pc' := 26) (L' := [(3, .inl (255)), (0, .inr (.inr (some (192)))), (1, .inl (a)), (2, .inl (n))]) (st' := [.inl (128), .inl (255)]) rfl ?_
    have na : n ≤ a := by omega
    refine ez_icmp rfl rfl ⟨by decide, by decide⟩ ⟨by decide, by decide⟩ (fun _ => ?_) (fun (c2 : ¬((128) ≤ (255 : Int))) => absurd c2 (by decide))
    refine ez_go (n := 2) (pc' := 35) (L' := [(3, .inl (255)), (0, .inr (.inr (some (192)))), (1, .inl (a)), (2, .inl (n))]) (st' := [.inl (240), .inl (255)]) rfl ?_
    refine ez_icmp rfl rfl ⟨by decide, by decide⟩ ⟨by decide, by decide⟩ (fun (c3 : (255 : Int) < (240)) => absurd c3 (by decide)) (fun _ => ?_)
    refine ez_go (n := 5) (pc' := 60) (L' := [(4, .inl (3)), (3, .inl (255)), (0, .inr (.inr (some (192)))), (1, .inl (a)), (2, .inl (n))]) (st' := [.inl (192), .inl (255)]) rfl ?_
    refine ez_icmp rfl rfl ⟨by decide, by decide⟩ ⟨by decide, by decide⟩ (fun (c4 : (255 : Int) < (192)) => absurd c4 (by decide)) (fun _ => ?_)
    refine ez_go (n := 2) (pc' := 67) (L' := [(4, .inl (3)), (3, .inl (255)), (0, .inr (.inr (some (192)))), (1, .inl (a)), (2, .inl (n))]) (st' := [.inl (247), .inl (255)]) rfl ?_
    refine ez_icmp rfl rfl ⟨by decide, by decide⟩ ⟨by decide, by decide⟩ (fun _ => ?_) (fun (c5 : ¬((247) < (255 : Int))) => absurd c5 (by decide))
    refine ez_go (n := 1) (pc' := 79) (L' := [(4, .inl (3)), (3, .inl (255)), (0, .inr (.inr (some (192)))), (1, .inl (a)), (2, .inl (n))]) (st' := [.inl (-1)]) rfl ?_
    refine ez_retI rfl rfl (k _ ?_)
    exact Or.inl ⟨na, rfl⟩
  · skip
    refine ez_go (n := 1) (pc' := 6) (L' := [(0, .inr (.inr (some (192)))), (1, .inl (a)), (2, .inl (n))]) (st' := [.inr (.inr (some (192)))]) rfl ?_
    refine ez_gC (p := 193) (tg := 45) hB t192 rfl rfl tq_44 rfl rfl (fun (t193 : _ = 45) => ?_)
    refine ez_go (n := 1) (pc' := 10) (L' := [(0, .inr (.inr (some (192)))), (1, .inl (a)), (2, .inl (n))]) (st' := [.inl (a), .inr (.inr (some (193)))]) rfl ?_
    have n7 : 4096 ≤ qz_N h 193 ∧ qz_N h 193 ≤ 4096 := ez_len hB t193 tq_45 rfl
    refine ez_aI hB t193 rfl tq_45 rfl rfl (by omega) (by omega) (fun (b6 : -128 ≤ qz_I h 193 (a).toNat) (b6' : qz_I h 193 (a).toNat ≤ 127) => ?_)
    refine ez_go (n := 6) (pc' := 26) (L' := [(3, .inl ((Int32.ofInt (qz_I h 193 (a).toNat) &&& Int32.ofInt (255)).toInt)), (0, .inr (.inr (some (192)))), (1, .inl (a)), (2, .inl (n))]) (st' := [.inl (128), .inl ((Int32.ofInt (qz_I h 193 (a).toNat) &&& Int32.ofInt (255)).toInt)]) rfl ?_
    have ha : a < n := by omega
    obtain ⟨c, ec⟩ : ∃ c, c = rz_b h a % 256 := ⟨_, rfl⟩
    have cb : 0 ≤ c ∧ c ≤ 255 := by omega
    rw [show (Int32.ofInt (qz_I h 193 (a).toNat) &&& Int32.ofInt (255)).toInt = c by rw [ec]; exact u_255 _ (by omega) (by omega)]
    refine ez_icmp rfl rfl ⟨by first | omega | exact (sz_i32 _).1, by first | omega | exact (sz_i32 _).2⟩ ⟨by first | omega | exact (sz_i32 _).1, by first | omega | exact (sz_i32 _).2⟩ (fun (c8 : (128) ≤ (c)) => ?_) (fun (c8 : ¬((128) ≤ (c))) => ?_)
    · skip
      refine ez_go (n := 2) (pc' := 35) (L' := [(3, .inl (c)), (0, .inr (.inr (some (192)))), (1, .inl (a)), (2, .inl (n))]) (st' := [.inl (240), .inl (c)]) rfl ?_
      refine ez_icmp rfl rfl ⟨by first | omega | exact (sz_i32 _).1, by first | omega | exact (sz_i32 _).2⟩ ⟨by first | omega | exact (sz_i32 _).1, by first | omega | exact (sz_i32 _).2⟩ (fun (c9 : (c) < (240)) => ?_) (fun (c9 : ¬((c) < (240))) => ?_)
      · skip
        refine ez_go (n := 2) (pc' := 46) (L' := [(3, .inl (c)), (0, .inr (.inr (some (192)))), (1, .inl (a)), (2, .inl (n))]) (st' := [.inl (224), .inl (c)]) rfl ?_
        refine ez_icmp rfl rfl ⟨by first | omega | exact (sz_i32 _).1, by first | omega | exact (sz_i32 _).2⟩ ⟨by first | omega | exact (sz_i32 _).1, by first | omega | exact (sz_i32 _).2⟩ (fun (c10 : (c) < (224)) => ?_) (fun (c10 : ¬((c) < (224))) => ?_)
        · skip
          refine ez_go (n := 4) (pc' := 60) (L' := [(4, .inl (1)), (3, .inl (c)), (0, .inr (.inr (some (192)))), (1, .inl (a)), (2, .inl (n))]) (st' := [.inl (192), .inl (c)]) rfl ?_
          refine ez_icmp rfl rfl ⟨by first | omega | exact (sz_i32 _).1, by first | omega | exact (sz_i32 _).2⟩ ⟨by first | omega | exact (sz_i32 _).1, by first | omega | exact (sz_i32 _).2⟩ (fun (c11 : (c) < (192)) => ?_) (fun (c11 : ¬((c) < (192))) => ?_)
          · skip
            refine ez_go (n := 1) (pc' := 79) (L' := [(4, .inl (1)), (3, .inl (c)), (0, .inr (.inr (some (192)))), (1, .inl (a)), (2, .inl (n))]) (st' := [.inl (-1)]) rfl ?_
            refine ez_retI rfl rfl (k _ ?_)
            refine Or.inr ⟨ha, ?_⟩
            rw [← ec]
            generalize rz_b h (a + 1) % 256 = d1 at *
            generalize rz_b h (a + 2) % 256 = d2 at *
            generalize rz_b h (a + 3) % 256 = d3 at *
            by_cases q9 : c < 194
            · exact Or.inr (Or.inl ⟨by omega, q9, by omega⟩)
            · refine Or.inr (Or.inr (Or.inl ⟨by omega, by omega, ?_⟩))
              unfold uD1; omega
          · skip
            refine ez_go (n := 2) (pc' := 67) (L' := [(4, .inl (1)), (3, .inl (c)), (0, .inr (.inr (some (192)))), (1, .inl (a)), (2, .inl (n))]) (st' := [.inl (247), .inl (c)]) rfl ?_
            refine ez_icmp rfl rfl ⟨by first | omega | exact (sz_i32 _).1, by first | omega | exact (sz_i32 _).2⟩ ⟨by first | omega | exact (sz_i32 _).1, by first | omega | exact (sz_i32 _).2⟩ (fun (c12 : (247) < (c)) => ?_) (fun (c12 : ¬((247) < (c))) => ?_)
            · skip
              refine ez_go (n := 1) (pc' := 79) (L' := [(4, .inl (1)), (3, .inl (c)), (0, .inr (.inr (some (192)))), (1, .inl (a)), (2, .inl (n))]) (st' := [.inl (-1)]) rfl ?_
              refine ez_retI rfl rfl (k _ ?_)
              refine Or.inr ⟨ha, ?_⟩
              rw [← ec]
              generalize rz_b h (a + 1) % 256 = d1 at *
              generalize rz_b h (a + 2) % 256 = d2 at *
              generalize rz_b h (a + 3) % 256 = d3 at *
              by_cases q9 : c < 194
              · exact Or.inr (Or.inl ⟨by omega, q9, by omega⟩)
              · refine Or.inr (Or.inr (Or.inl ⟨by omega, by omega, ?_⟩))
                unfold uD1; omega
            · skip
              refine ez_go (n := 4) (pc' := 75) (L' := [(4, .inl (1)), (3, .inl (c)), (0, .inr (.inr (some (192)))), (1, .inl (a)), (2, .inl (n))]) (st' := [.inl (n), .inl ((a) + (1))]) rfl ?_
              refine ez_icmp rfl rfl ⟨by first | omega | exact (sz_i32 _).1, by first | omega | exact (sz_i32 _).2⟩ ⟨by first | omega | exact (sz_i32 _).1, by first | omega | exact (sz_i32 _).2⟩ (fun (c13 : ((a) + (1)) < (n)) => ?_) (fun (c13 : ¬(((a) + (1)) < (n))) => ?_)
              · skip
                refine ez_go (n := 10) (pc' := 96) (L' := [(6, .inl (1)), (5, .inl ((Int32.ofInt (c) &&& Int32.ofInt ((Int32.ofInt (63) >>> (Int32.ofInt (1) &&& 31)).toInt)).toInt)), (4, .inl (1)), (3, .inl (c)), (0, .inr (.inr (some (192)))), (1, .inl (a)), (2, .inl (n))]) (st' := [.inl (1), .inl (1)]) rfl ?_
                obtain ⟨p0, ep0⟩ : ∃ p0, p0 = c - 192 := ⟨_, rfl⟩
                rw [show (Int32.ofInt (c) &&& Int32.ofInt ((Int32.ofInt (63) >>> (Int32.ofInt (1) &&& 31)).toInt)).toInt = p0 by rw [u_l1 _ (by omega) (by omega)]; omega]
                refine ez_icmp rfl rfl ⟨by decide, by decide⟩ ⟨by decide, by decide⟩ (fun (c14 : (1 : Int) < (1)) => absurd c14 (by decide)) (fun _ => ?_)
                refine ez_go (n := 1) (pc' := 100) (L' := [(6, .inl (1)), (5, .inl (p0)), (4, .inl (1)), (3, .inl (c)), (0, .inr (.inr (some (192)))), (1, .inl (a)), (2, .inl (n))]) (st' := [.inr (.inr (some (192)))]) rfl ?_
                refine ez_gC (p := 193) (tg := 45) hB t192 rfl rfl tq_44 rfl rfl (fun (t193 : _ = 45) => ?_)
                refine ez_go (n := 3) (pc' := 107) (L' := [(6, .inl (1)), (5, .inl (p0)), (4, .inl (1)), (3, .inl (c)), (0, .inr (.inr (some (192)))), (1, .inl (a)), (2, .inl (n))]) (st' := [.inl ((a) + (1)), .inr (.inr (some (193)))]) rfl ?_
                have n16 : 4096 ≤ qz_N h 193 ∧ qz_N h 193 ≤ 4096 := ez_len hB t193 tq_45 rfl
                refine ez_aI hB t193 rfl tq_45 rfl rfl (by omega) (by omega) (fun (b15 : -128 ≤ qz_I h 193 ((a) + (1)).toNat) (b15' : qz_I h 193 ((a) + (1)).toNat ≤ 127) => ?_)
                refine ez_go (n := 7) (pc' := 123) (L' := [(7, .inl ((Int32.ofInt (qz_I h 193 ((a) + (1)).toNat) &&& Int32.ofInt (255)).toInt)), (6, .inl (1)), (5, .inl (p0)), (4, .inl (1)), (3, .inl (c)), (0, .inr (.inr (some (192)))), (1, .inl (a)), (2, .inl (n))]) (st' := [.inl (128), .inl ((Int32.ofInt ((Int32.ofInt (qz_I h 193 ((a) + (1)).toNat) &&& Int32.ofInt (255)).toInt) &&& Int32.ofInt (192)).toInt)]) rfl ?_
                obtain ⟨d1, ed1⟩ : ∃ d1, d1 = rz_b h (a + 1) % 256 := ⟨_, rfl⟩
                have db1 : 0 ≤ d1 ∧ d1 ≤ 255 := by omega
                rw [show (Int32.ofInt (qz_I h 193 ((a) + (1)).toNat) &&& Int32.ofInt (255)).toInt = d1 by rw [ed1]; exact u_255 _ (by omega) (by omega)]
                obtain ⟨e1, ee1⟩ : ∃ e1, e1 = (Int32.ofInt (d1) &&& Int32.ofInt (192)).toInt := ⟨_, rfl⟩
                have ei1 : e1 = 128 ↔ 128 ≤ d1 ∧ d1 < 192 := by have := u_192 d1 (by omega) (by omega); rw [← ee1, Int.emod_eq_of_lt (by omega) (by omega)] at this; exact this
                have er1 := sz_i32 (Int32.ofInt (d1) &&& Int32.ofInt (192))
                rw [← ee1] at er1
                rw [← ee1]
                refine ez_icmp rfl rfl ⟨by first | omega | exact (sz_i32 _).1, by first | omega | exact (sz_i32 _).2⟩ ⟨by first | omega | exact (sz_i32 _).1, by first | omega | exact (sz_i32 _).2⟩ (fun (c17 : (e1) = (128)) => ?_) (fun (c17 : ¬((e1) = (128))) => ?_)
                · skip
                  refine ez_go (n := 12) (pc' := 96) (L' := [(6, .inl (1 + 1)), (5, .inl ((Int32.ofInt ((Int32.ofInt (p0) <<< (Int32.ofInt (6) &&& 31)).toInt) ||| Int32.ofInt ((Int32.ofInt (d1) &&& Int32.ofInt (63)).toInt)).toInt)), (7, .inl (d1)), (4, .inl (1)), (3, .inl (c)), (0, .inr (.inr (some (192)))), (1, .inl (a)), (2, .inl (n))]) (st' := [.inl (1), .inl (1 + 1)]) rfl ?_
                  obtain ⟨p1, ep1⟩ : ∃ p1, p1 = p0 * 64 + (d1 - 128) := ⟨_, rfl⟩
                  rw [show (Int32.ofInt ((Int32.ofInt (p0) <<< (Int32.ofInt (6) &&& 31)).toInt) ||| Int32.ofInt ((Int32.ofInt (d1) &&& Int32.ofInt (63)).toInt)).toInt = p1 by rw [ep1, u_63 _ (by omega) (by omega), show d1 % 64 = d1 - 128 by omega]; exact u_or (by omega) (by omega) (by omega) (by omega)]
                  rw [show ((1 : Int) + 1) = 2 from rfl]
                  refine ez_icmp rfl rfl ⟨by decide, by decide⟩ ⟨by decide, by decide⟩ (fun _ => ?_) (fun (c18 : ¬((1) < (2 : Int))) => absurd c18 (by decide))
                  refine ez_go (n := 1) (pc' := 149) (L' := [(6, .inl (2)), (5, .inl (p1)), (7, .inl (d1)), (4, .inl (1)), (3, .inl (c)), (0, .inr (.inr (some (192)))), (1, .inl (a)), (2, .inl (n))]) (st' := [.inl (p1)]) rfl ?_
                  refine ez_ldc (1114111) rfl rfl rfl ?_
                  refine ez_icmp rfl rfl ⟨by first | omega | exact (sz_i32 _).1, by first | omega | exact (sz_i32 _).2⟩ ⟨by first | omega | exact (sz_i32 _).1, by first | omega | exact (sz_i32 _).2⟩ (fun (c19 : (1114111) < (p1)) => ?_) (fun (c19 : ¬((1114111) < (p1))) => ?_)
                  · skip
                    refine ez_go (n := 3) (pc' := 183) (L' := [(6, .inl (0)), (5, .inl (p1)), (7, .inl (d1)), (4, .inl (1)), (3, .inl (c)), (0, .inr (.inr (some (192)))), (1, .inl (a)), (2, .inl (n))]) (st' := [.inl (0)]) rfl ?_
                    refine ez_if rfl rfl ⟨by decide, by decide⟩ (fun _ => ?_) (fun (c20 : ¬((0 : Int) = (0))) => absurd c20 (by decide))
                    refine ez_go (n := 1) (pc' := 192) (L' := [(6, .inl (0)), (5, .inl (p1)), (7, .inl (d1)), (4, .inl (1)), (3, .inl (c)), (0, .inr (.inr (some (192)))), (1, .inl (a)), (2, .inl (n))]) (st' := [.inl (-1)]) rfl ?_
                    refine ez_retI rfl rfl (k _ ?_)
                    refine Or.inr ⟨ha, ?_⟩
                    rw [← ec, ← ed1]
                    generalize rz_b h (a + 2) % 256 = d2 at *
                    generalize rz_b h (a + 3) % 256 = d3 at *
                    by_cases q9 : c < 194
                    · exact Or.inr (Or.inl ⟨by omega, q9, by omega⟩)
                    · refine Or.inr (Or.inr (Or.inl ⟨by omega, by omega, ?_⟩))
                      unfold uD1; omega
                  · skip
                    refine ez_go (n := 1) (pc' := 156) (L' := [(6, .inl (2)), (5, .inl (p1)), (7, .inl (d1)), (4, .inl (1)), (3, .inl (c)), (0, .inr (.inr (some (192)))), (1, .inl (a)), (2, .inl (n))]) (st' := [.inl (p1)]) rfl ?_
                    refine ez_cs hB.2.1 rfl rfl rfl rfl rfl (rd_isSurr ⟨by omega, by omega⟩ (fun sr => ez_K1 ?_) (fun sr => ez_K1 ?_))
                    · skip
                      refine ez_if rfl rfl ⟨by decide, by decide⟩ (fun _ => ?_) (fun (c21 : ¬((1 : Int) ≠ (0))) => absurd c21 (by decide))
                      refine ez_go (n := 3) (pc' := 183) (L' := [(6, .inl (0)), (5, .inl (p1)), (7, .inl (d1)), (4, .inl (1)), (3, .inl (c)), (0, .inr (.inr (some (192)))), (1, .inl (a)), (2, .inl (n))]) (st' := [.inl (0)]) rfl ?_
                      refine ez_if rfl rfl ⟨by decide, by decide⟩ (fun _ => ?_) (fun (c22 : ¬((0 : Int) = (0))) => absurd c22 (by decide))
                      refine ez_go (n := 1) (pc' := 192) (L' := [(6, .inl (0)), (5, .inl (p1)), (7, .inl (d1)), (4, .inl (1)), (3, .inl (c)), (0, .inr (.inr (some (192)))), (1, .inl (a)), (2, .inl (n))]) (st' := [.inl (-1)]) rfl ?_
                      refine ez_retI rfl rfl (k _ ?_)
                      refine Or.inr ⟨ha, ?_⟩
                      rw [← ec, ← ed1]
                      generalize rz_b h (a + 2) % 256 = d2 at *
                      generalize rz_b h (a + 3) % 256 = d3 at *
                      by_cases q9 : c < 194
                      · exact Or.inr (Or.inl ⟨by omega, q9, by omega⟩)
                      · refine Or.inr (Or.inr (Or.inl ⟨by omega, by omega, ?_⟩))
                        unfold uD1; omega
                    · skip
                      refine ez_if rfl rfl ⟨by decide, by decide⟩ (fun (c23 : (0 : Int) ≠ (0)) => absurd c23 (by decide)) (fun _ => ?_)
                      refine ez_go (n := 1) (pc' := 164) (L' := [(6, .inl (2)), (5, .inl (p1)), (7, .inl (d1)), (4, .inl (1)), (3, .inl (c)), (0, .inr (.inr (some (192)))), (1, .inl (a)), (2, .inl (n))]) (st' := [.inl (p1)]) rfl ?_
                      refine ez_cs hB.2.1 rfl rfl rfl rfl rfl (rd_u8w ⟨by omega, by omega⟩ (ez_K1 ?_))
                      obtain ⟨wv, ewv⟩ : ∃ wv, wv = uw (p1) := ⟨_, rfl⟩
                      rw [← ewv]
                      have wd : (p1 < 128 ∧ wv = 1) ∨ (128 ≤ p1 ∧ p1 < 2048 ∧ wv = 2) ∨ (2048 ≤ p1 ∧ p1 < 65536 ∧ wv = 3) ∨ (65536 ≤ p1 ∧ wv = 4) := by rw [ewv]; unfold uw; split; (· omega); split; (· omega); split <;> omega
                      refine ez_go (n := 3) (pc' := 171) (L' := [(6, .inl (2)), (5, .inl (p1)), (7, .inl (d1)), (4, .inl (1)), (3, .inl (c)), (0, .inr (.inr (some (192)))), (1, .inl (a)), (2, .inl (n))]) (st' := [.inl ((1) + (1)), .inl (wv)]) rfl ?_
                      refine ez_icmp rfl rfl ⟨by first | omega | exact (sz_i32 _).1, by first | omega | exact (sz_i32 _).2⟩ ⟨by first | omega | exact (sz_i32 _).1, by first | omega | exact (sz_i32 _).2⟩ (fun (c24 : (wv) ≠ ((1) + (1))) => ?_) (fun (c24 : ¬((wv) ≠ ((1) + (1)))) => ?_)
                      · skip
                        refine ez_go (n := 3) (pc' := 183) (L' := [(6, .inl (0)), (5, .inl (p1)), (7, .inl (d1)), (4, .inl (1)), (3, .inl (c)), (0, .inr (.inr (some (192)))), (1, .inl (a)), (2, .inl (n))]) (st' := [.inl (0)]) rfl ?_
                        refine ez_if rfl rfl ⟨by decide, by decide⟩ (fun _ => ?_) (fun (c25 : ¬((0 : Int) = (0))) => absurd c25 (by decide))
                        refine ez_go (n := 1) (pc' := 192) (L' := [(6, .inl (0)), (5, .inl (p1)), (7, .inl (d1)), (4, .inl (1)), (3, .inl (c)), (0, .inr (.inr (some (192)))), (1, .inl (a)), (2, .inl (n))]) (st' := [.inl (-1)]) rfl ?_
                        refine ez_retI rfl rfl (k _ ?_)
                        refine Or.inr ⟨ha, ?_⟩
                        rw [← ec, ← ed1]
                        generalize rz_b h (a + 2) % 256 = d2 at *
                        generalize rz_b h (a + 3) % 256 = d3 at *
                        by_cases q9 : c < 194
                        · exact Or.inr (Or.inl ⟨by omega, q9, by omega⟩)
                        · refine Or.inr (Or.inr (Or.inl ⟨by omega, by omega, ?_⟩))
                          unfold uD1; omega
                      · skip
                        refine ez_go (n := 4) (pc' := 183) (L' := [(6, .inl (1)), (5, .inl (p1)), (7, .inl (d1)), (4, .inl (1)), (3, .inl (c)), (0, .inr (.inr (some (192)))), (1, .inl (a)), (2, .inl (n))]) (st' := [.inl (1)]) rfl ?_
                        refine ez_if rfl rfl ⟨by decide, by decide⟩ (fun (c26 : (1 : Int) = (0)) => absurd c26 (by decide)) (fun _ => ?_)
                        refine ez_go (n := 2) (pc' := 192) (L' := [(6, .inl (1)), (5, .inl (p1)), (7, .inl (d1)), (4, .inl (1)), (3, .inl (c)), (0, .inr (.inr (some (192)))), (1, .inl (a)), (2, .inl (n))]) (st' := [.inl (p1)]) rfl ?_
                        refine ez_retI rfl rfl (k _ ?_)
                        refine Or.inr ⟨ha, ?_⟩
                        rw [← ec, ← ed1]
                        generalize rz_b h (a + 2) % 256 = d2 at *
                        generalize rz_b h (a + 3) % 256 = d3 at *
                        by_cases q9 : c < 194
                        · exact Or.inr (Or.inl ⟨by omega, q9, by omega⟩)
                        · refine Or.inr (Or.inr (Or.inl ⟨by omega, by omega, ?_⟩))
                          unfold uD1; omega
                · skip
                  refine ez_go (n := 1) (pc' := 127) (L' := [(7, .inl (d1)), (6, .inl (1)), (5, .inl (p0)), (4, .inl (1)), (3, .inl (c)), (0, .inr (.inr (some (192)))), (1, .inl (a)), (2, .inl (n))]) (st' := [.inl (-1)]) rfl ?_
                  refine ez_retI rfl rfl (k _ ?_)
                  refine Or.inr ⟨ha, ?_⟩
                  rw [← ec, ← ed1]
                  generalize rz_b h (a + 2) % 256 = d2 at *
                  generalize rz_b h (a + 3) % 256 = d3 at *
                  by_cases q9 : c < 194
                  · exact Or.inr (Or.inl ⟨by omega, q9, by omega⟩)
                  · refine Or.inr (Or.inr (Or.inl ⟨by omega, by omega, ?_⟩))
                    unfold uD1; omega
              · skip
                refine ez_go (n := 1) (pc' := 79) (L' := [(4, .inl (1)), (3, .inl (c)), (0, .inr (.inr (some (192)))), (1, .inl (a)), (2, .inl (n))]) (st' := [.inl (-1)]) rfl ?_
                refine ez_retI rfl rfl (k _ ?_)
                refine Or.inr ⟨ha, ?_⟩
                rw [← ec]
                generalize rz_b h (a + 1) % 256 = d1 at *
                generalize rz_b h (a + 2) % 256 = d2 at *
                generalize rz_b h (a + 3) % 256 = d3 at *
                by_cases q9 : c < 194
                · exact Or.inr (Or.inl ⟨by omega, q9, by omega⟩)
                · refine Or.inr (Or.inr (Or.inl ⟨by omega, by omega, ?_⟩))
                  unfold uD1; omega
        · skip
          refine ez_go (n := 5) (pc' := 60) (L' := [(4, .inl (2)), (3, .inl (c)), (0, .inr (.inr (some (192)))), (1, .inl (a)), (2, .inl (n))]) (st' := [.inl (192), .inl (c)]) rfl ?_
          refine ez_icmp rfl rfl ⟨by first | omega | exact (sz_i32 _).1, by first | omega | exact (sz_i32 _).2⟩ ⟨by first | omega | exact (sz_i32 _).1, by first | omega | exact (sz_i32 _).2⟩ (fun (c27 : (c) < (192)) => ?_) (fun (c27 : ¬((c) < (192))) => ?_)
          · skip
            refine ez_go (n := 1) (pc' := 79) (L' := [(4, .inl (2)), (3, .inl (c)), (0, .inr (.inr (some (192)))), (1, .inl (a)), (2, .inl (n))]) (st' := [.inl (-1)]) rfl ?_
            refine ez_retI rfl rfl (k _ ?_)
            refine Or.inr ⟨ha, ?_⟩
            rw [← ec]
            generalize rz_b h (a + 1) % 256 = d1 at *
            generalize rz_b h (a + 2) % 256 = d2 at *
            generalize rz_b h (a + 3) % 256 = d3 at *
            refine Or.inr (Or.inr (Or.inr (Or.inl ⟨by omega, by omega, ?_⟩)))
            unfold uD2; omega
          · skip
            refine ez_go (n := 2) (pc' := 67) (L' := [(4, .inl (2)), (3, .inl (c)), (0, .inr (.inr (some (192)))), (1, .inl (a)), (2, .inl (n))]) (st' := [.inl (247), .inl (c)]) rfl ?_
            refine ez_icmp rfl rfl ⟨by first | omega | exact (sz_i32 _).1, by first | omega | exact (sz_i32 _).2⟩ ⟨by first | omega | exact (sz_i32 _).1, by first | omega | exact (sz_i32 _).2⟩ (fun (c28 : (247) < (c)) => ?_) (fun (c28 : ¬((247) < (c))) => ?_)
            · skip
              refine ez_go (n := 1) (pc' := 79) (L' := [(4, .inl (2)), (3, .inl (c)), (0, .inr (.inr (some (192)))), (1, .inl (a)), (2, .inl (n))]) (st' := [.inl (-1)]) rfl ?_
              refine ez_retI rfl rfl (k _ ?_)
              refine Or.inr ⟨ha, ?_⟩
              rw [← ec]
              generalize rz_b h (a + 1) % 256 = d1 at *
              generalize rz_b h (a + 2) % 256 = d2 at *
              generalize rz_b h (a + 3) % 256 = d3 at *
              refine Or.inr (Or.inr (Or.inr (Or.inl ⟨by omega, by omega, ?_⟩)))
              unfold uD2; omega
            · skip
              refine ez_go (n := 4) (pc' := 75) (L' := [(4, .inl (2)), (3, .inl (c)), (0, .inr (.inr (some (192)))), (1, .inl (a)), (2, .inl (n))]) (st' := [.inl (n), .inl ((a) + (2))]) rfl ?_
              refine ez_icmp rfl rfl ⟨by first | omega | exact (sz_i32 _).1, by first | omega | exact (sz_i32 _).2⟩ ⟨by first | omega | exact (sz_i32 _).1, by first | omega | exact (sz_i32 _).2⟩ (fun (c29 : ((a) + (2)) < (n)) => ?_) (fun (c29 : ¬(((a) + (2)) < (n))) => ?_)
              · skip
                refine ez_go (n := 10) (pc' := 96) (L' := [(6, .inl (1)), (5, .inl ((Int32.ofInt (c) &&& Int32.ofInt ((Int32.ofInt (63) >>> (Int32.ofInt (2) &&& 31)).toInt)).toInt)), (4, .inl (2)), (3, .inl (c)), (0, .inr (.inr (some (192)))), (1, .inl (a)), (2, .inl (n))]) (st' := [.inl (2), .inl (1)]) rfl ?_
                obtain ⟨p0, ep0⟩ : ∃ p0, p0 = c - 224 := ⟨_, rfl⟩
                rw [show (Int32.ofInt (c) &&& Int32.ofInt ((Int32.ofInt (63) >>> (Int32.ofInt (2) &&& 31)).toInt)).toInt = p0 by rw [u_l2 _ (by omega) (by omega)]; omega]
                refine ez_icmp rfl rfl ⟨by decide, by decide⟩ ⟨by decide, by decide⟩ (fun (c30 : (2) < (1 : Int)) => absurd c30 (by decide)) (fun _ => ?_)
                refine ez_go (n := 1) (pc' := 100) (L' := [(6, .inl (1)), (5, .inl (p0)), (4, .inl (2)), (3, .inl (c)), (0, .inr (.inr (some (192)))), (1, .inl (a)), (2, .inl (n))]) (st' := [.inr (.inr (some (192)))]) rfl ?_
                refine ez_gC (p := 193) (tg := 45) hB t192 rfl rfl tq_44 rfl rfl (fun (t193 : _ = 45) => ?_)
                refine ez_go (n := 3) (pc' := 107) (L' := [(6, .inl (1)), (5, .inl (p0)), (4, .inl (2)), (3, .inl (c)), (0, .inr (.inr (some (192)))), (1, .inl (a)), (2, .inl (n))]) (st' := [.inl ((a) + (1)), .inr (.inr (some (193)))]) rfl ?_
                have n32 : 4096 ≤ qz_N h 193 ∧ qz_N h 193 ≤ 4096 := ez_len hB t193 tq_45 rfl
                refine ez_aI hB t193 rfl tq_45 rfl rfl (by omega) (by omega) (fun (b31 : -128 ≤ qz_I h 193 ((a) + (1)).toNat) (b31' : qz_I h 193 ((a) + (1)).toNat ≤ 127) => ?_)
                refine ez_go (n := 7) (pc' := 123) (L' := [(7, .inl ((Int32.ofInt (qz_I h 193 ((a) + (1)).toNat) &&& Int32.ofInt (255)).toInt)), (6, .inl (1)), (5, .inl (p0)), (4, .inl (2)), (3, .inl (c)), (0, .inr (.inr (some (192)))), (1, .inl (a)), (2, .inl (n))]) (st' := [.inl (128), .inl ((Int32.ofInt ((Int32.ofInt (qz_I h 193 ((a) + (1)).toNat) &&& Int32.ofInt (255)).toInt) &&& Int32.ofInt (192)).toInt)]) rfl ?_
                obtain ⟨d1, ed1⟩ : ∃ d1, d1 = rz_b h (a + 1) % 256 := ⟨_, rfl⟩
                have db1 : 0 ≤ d1 ∧ d1 ≤ 255 := by omega
                rw [show (Int32.ofInt (qz_I h 193 ((a) + (1)).toNat) &&& Int32.ofInt (255)).toInt = d1 by rw [ed1]; exact u_255 _ (by omega) (by omega)]
                obtain ⟨e1, ee1⟩ : ∃ e1, e1 = (Int32.ofInt (d1) &&& Int32.ofInt (192)).toInt := ⟨_, rfl⟩
                have ei1 : e1 = 128 ↔ 128 ≤ d1 ∧ d1 < 192 := by have := u_192 d1 (by omega) (by omega); rw [← ee1, Int.emod_eq_of_lt (by omega) (by omega)] at this; exact this
                have er1 := sz_i32 (Int32.ofInt (d1) &&& Int32.ofInt (192))
                rw [← ee1] at er1
                rw [← ee1]
                refine ez_icmp rfl rfl ⟨by first | omega | exact (sz_i32 _).1, by first | omega | exact (sz_i32 _).2⟩ ⟨by first | omega | exact (sz_i32 _).1, by first | omega | exact (sz_i32 _).2⟩ (fun (c33 : (e1) = (128)) => ?_) (fun (c33 : ¬((e1) = (128))) => ?_)
                · skip
                  refine ez_go (n := 12) (pc' := 96) (L' := [(6, .inl (1 + 1)), (5, .inl ((Int32.ofInt ((Int32.ofInt (p0) <<< (Int32.ofInt (6) &&& 31)).toInt) ||| Int32.ofInt ((Int32.ofInt (d1) &&& Int32.ofInt (63)).toInt)).toInt)), (7, .inl (d1)), (4, .inl (2)), (3, .inl (c)), (0, .inr (.inr (some (192)))), (1, .inl (a)), (2, .inl (n))]) (st' := [.inl (2), .inl (1 + 1)]) rfl ?_
                  obtain ⟨p1, ep1⟩ : ∃ p1, p1 = p0 * 64 + (d1 - 128) := ⟨_, rfl⟩
                  rw [show (Int32.ofInt ((Int32.ofInt (p0) <<< (Int32.ofInt (6) &&& 31)).toInt) ||| Int32.ofInt ((Int32.ofInt (d1) &&& Int32.ofInt (63)).toInt)).toInt = p1 by rw [ep1, u_63 _ (by omega) (by omega), show d1 % 64 = d1 - 128 by omega]; exact u_or (by omega) (by omega) (by omega) (by omega)]
                  rw [show ((1 : Int) + 1) = 2 from rfl]
                  refine ez_icmp rfl rfl ⟨by decide, by decide⟩ ⟨by decide, by decide⟩ (fun (c34 : (2 : Int) < (2)) => absurd c34 (by decide)) (fun _ => ?_)
                  refine ez_go (n := 1) (pc' := 100) (L' := [(6, .inl (2)), (5, .inl (p1)), (7, .inl (d1)), (4, .inl (2)), (3, .inl (c)), (0, .inr (.inr (some (192)))), (1, .inl (a)), (2, .inl (n))]) (st' := [.inr (.inr (some (192)))]) rfl ?_
                  refine ez_gC (p := 193) (tg := 45) hB t192 rfl rfl tq_44 rfl rfl (fun (t193 : _ = 45) => ?_)
                  refine ez_go (n := 3) (pc' := 107) (L' := [(6, .inl (2)), (5, .inl (p1)), (7, .inl (d1)), (4, .inl (2)), (3, .inl (c)), (0, .inr (.inr (some (192)))), (1, .inl (a)), (2, .inl (n))]) (st' := [.inl ((a) + (2)), .inr (.inr (some (193)))]) rfl ?_
                  have n36 : 4096 ≤ qz_N h 193 ∧ qz_N h 193 ≤ 4096 := ez_len hB t193 tq_45 rfl
                  refine ez_aI hB t193 rfl tq_45 rfl rfl (by omega) (by omega) (fun (b35 : -128 ≤ qz_I h 193 ((a) + (2)).toNat) (b35' : qz_I h 193 ((a) + (2)).toNat ≤ 127) => ?_)
                  refine ez_go (n := 7) (pc' := 123) (L' := [(7, .inl ((Int32.ofInt (qz_I h 193 ((a) + (2)).toNat) &&& Int32.ofInt (255)).toInt)), (6, .inl (2)), (5, .inl (p1)), (4, .inl (2)), (3, .inl (c)), (0, .inr (.inr (some (192)))), (1, .inl (a)), (2, .inl (n))]) (st' := [.inl (128), .inl ((Int32.ofInt ((Int32.ofInt (qz_I h 193 ((a) + (2)).toNat) &&& Int32.ofInt (255)).toInt) &&& Int32.ofInt (192)).toInt)]) rfl ?_
                  obtain ⟨d2, ed2⟩ : ∃ d2, d2 = rz_b h (a + 2) % 256 := ⟨_, rfl⟩
                  have db2 : 0 ≤ d2 ∧ d2 ≤ 255 := by omega
                  rw [show (Int32.ofInt (qz_I h 193 ((a) + (2)).toNat) &&& Int32.ofInt (255)).toInt = d2 by rw [ed2]; exact u_255 _ (by omega) (by omega)]
                  obtain ⟨e2, ee2⟩ : ∃ e2, e2 = (Int32.ofInt (d2) &&& Int32.ofInt (192)).toInt := ⟨_, rfl⟩
                  have ei2 : e2 = 128 ↔ 128 ≤ d2 ∧ d2 < 192 := by have := u_192 d2 (by omega) (by omega); rw [← ee2, Int.emod_eq_of_lt (by omega) (by omega)] at this; exact this
                  have er2 := sz_i32 (Int32.ofInt (d2) &&& Int32.ofInt (192))
                  rw [← ee2] at er2
                  rw [← ee2]
                  refine ez_icmp rfl rfl ⟨by first | omega | exact (sz_i32 _).1, by first | omega | exact (sz_i32 _).2⟩ ⟨by first | omega | exact (sz_i32 _).1, by first | omega | exact (sz_i32 _).2⟩ (fun (c37 : (e2) = (128)) => ?_) (fun (c37 : ¬((e2) = (128))) => ?_)
                  · skip
                    refine ez_go (n := 12) (pc' := 96) (L' := [(6, .inl (2 + 1)), (5, .inl ((Int32.ofInt ((Int32.ofInt (p1) <<< (Int32.ofInt (6) &&& 31)).toInt) ||| Int32.ofInt ((Int32.ofInt (d2) &&& Int32.ofInt (63)).toInt)).toInt)), (7, .inl (d2)), (4, .inl (2)), (3, .inl (c)), (0, .inr (.inr (some (192)))), (1, .inl (a)), (2, .inl (n))]) (st' := [.inl (2), .inl (2 + 1)]) rfl ?_
                    obtain ⟨p2, ep2⟩ : ∃ p2, p2 = p1 * 64 + (d2 - 128) := ⟨_, rfl⟩
                    rw [show (Int32.ofInt ((Int32.ofInt (p1) <<< (Int32.ofInt (6) &&& 31)).toInt) ||| Int32.ofInt ((Int32.ofInt (d2) &&& Int32.ofInt (63)).toInt)).toInt = p2 by rw [ep2, u_63 _ (by omega) (by omega), show d2 % 64 = d2 - 128 by omega]; exact u_or (by omega) (by omega) (by omega) (by omega)]
                    rw [show ((2 : Int) + 1) = 3 from rfl]
                    refine ez_icmp rfl rfl ⟨by decide, by decide⟩ ⟨by decide, by decide⟩ (fun _ => ?_) (fun (c38 : ¬((2) < (3 : Int))) => absurd c38 (by decide))
                    refine ez_go (n := 1) (pc' := 149) (L' := [(6, .inl (3)), (5, .inl (p2)), (7, .inl (d2)), (4, .inl (2)), (3, .inl (c)), (0, .inr (.inr (some (192)))), (1, .inl (a)), (2, .inl (n))]) (st' := [.inl (p2)]) rfl ?_
                    refine ez_ldc (1114111) rfl rfl rfl ?_
                    refine ez_icmp rfl rfl ⟨by first | omega | exact (sz_i32 _).1, by first | omega | exact (sz_i32 _).2⟩ ⟨by first | omega | exact (sz_i32 _).1, by first | omega | exact (sz_i32 _).2⟩ (fun (c39 : (1114111) < (p2)) => ?_) (fun (c39 : ¬((1114111) < (p2))) => ?_)
                    · skip
                      refine ez_go (n := 3) (pc' := 183) (L' := [(6, .inl (0)), (5, .inl (p2)), (7, .inl (d2)), (4, .inl (2)), (3, .inl (c)), (0, .inr (.inr (some (192)))), (1, .inl (a)), (2, .inl (n))]) (st' := [.inl (0)]) rfl ?_
                      refine ez_if rfl rfl ⟨by decide, by decide⟩ (fun _ => ?_) (fun (c40 : ¬((0 : Int) = (0))) => absurd c40 (by decide))
                      refine ez_go (n := 1) (pc' := 192) (L' := [(6, .inl (0)), (5, .inl (p2)), (7, .inl (d2)), (4, .inl (2)), (3, .inl (c)), (0, .inr (.inr (some (192)))), (1, .inl (a)), (2, .inl (n))]) (st' := [.inl (-1)]) rfl ?_
                      refine ez_retI rfl rfl (k _ ?_)
                      refine Or.inr ⟨ha, ?_⟩
                      rw [← ec, ← ed1, ← ed2]
                      generalize rz_b h (a + 3) % 256 = d3 at *
                      refine Or.inr (Or.inr (Or.inr (Or.inl ⟨by omega, by omega, ?_⟩)))
                      unfold uD2; omega
                    · skip
                      refine ez_go (n := 1) (pc' := 156) (L' := [(6, .inl (3)), (5, .inl (p2)), (7, .inl (d2)), (4, .inl (2)), (3, .inl (c)), (0, .inr (.inr (some (192)))), (1, .inl (a)), (2, .inl (n))]) (st' := [.inl (p2)]) rfl ?_
                      refine ez_cs hB.2.1 rfl rfl rfl rfl rfl (rd_isSurr ⟨by omega, by omega⟩ (fun sr => ez_K1 ?_) (fun sr => ez_K1 ?_))
                      · skip
                        refine ez_if rfl rfl ⟨by decide, by decide⟩ (fun _ => ?_) (fun (c41 : ¬((1 : Int) ≠ (0))) => absurd c41 (by decide))
                        refine ez_go (n := 3) (pc' := 183) (L' := [(6, .inl (0)), (5, .inl (p2)), (7, .inl (d2)), (4, .inl (2)), (3, .inl (c)), (0, .inr (.inr (some (192)))), (1, .inl (a)), (2, .inl (n))]) (st' := [.inl (0)]) rfl ?_
                        refine ez_if rfl rfl ⟨by decide, by decide⟩ (fun _ => ?_) (fun (c42 : ¬((0 : Int) = (0))) => absurd c42 (by decide))
                        refine ez_go (n := 1) (pc' := 192) (L' := [(6, .inl (0)), (5, .inl (p2)), (7, .inl (d2)), (4, .inl (2)), (3, .inl (c)), (0, .inr (.inr (some (192)))), (1, .inl (a)), (2, .inl (n))]) (st' := [.inl (-1)]) rfl ?_
                        refine ez_retI rfl rfl (k _ ?_)
                        refine Or.inr ⟨ha, ?_⟩
                        rw [← ec, ← ed1, ← ed2]
                        generalize rz_b h (a + 3) % 256 = d3 at *
                        refine Or.inr (Or.inr (Or.inr (Or.inl ⟨by omega, by omega, ?_⟩)))
                        unfold uD2; omega
                      · skip
                        refine ez_if rfl rfl ⟨by decide, by decide⟩ (fun (c43 : (0 : Int) ≠ (0)) => absurd c43 (by decide)) (fun _ => ?_)
                        refine ez_go (n := 1) (pc' := 164) (L' := [(6, .inl (3)), (5, .inl (p2)), (7, .inl (d2)), (4, .inl (2)), (3, .inl (c)), (0, .inr (.inr (some (192)))), (1, .inl (a)), (2, .inl (n))]) (st' := [.inl (p2)]) rfl ?_
                        refine ez_cs hB.2.1 rfl rfl rfl rfl rfl (rd_u8w ⟨by omega, by omega⟩ (ez_K1 ?_))
                        obtain ⟨wv, ewv⟩ : ∃ wv, wv = uw (p2) := ⟨_, rfl⟩
                        rw [← ewv]
                        have wd : (p2 < 128 ∧ wv = 1) ∨ (128 ≤ p2 ∧ p2 < 2048 ∧ wv = 2) ∨ (2048 ≤ p2 ∧ p2 < 65536 ∧ wv = 3) ∨ (65536 ≤ p2 ∧ wv = 4) := by rw [ewv]; unfold uw; split; (· omega); split; (· omega); split <;> omega
                        refine ez_go (n := 3) (pc' := 171) (L' := [(6, .inl (3)), (5, .inl (p2)), (7, .inl (d2)), (4, .inl (2)), (3, .inl (c)), (0, .inr (.inr (some (192)))), (1, .inl (a)), (2, .inl (n))]) (st' := [.inl ((2) + (1)), .inl (wv)]) rfl ?_
                        refine ez_icmp rfl rfl ⟨by first | omega | exact (sz_i32 _).1, by first | omega | exact (sz_i32 _).2⟩ ⟨by first | omega | exact (sz_i32 _).1, by first | omega | exact (sz_i32 _).2⟩ (fun (c44 : (wv) ≠ ((2) + (1))) => ?_) (fun (c44 : ¬((wv) ≠ ((2) + (1)))) => ?_)
                        · skip
                          refine ez_go (n := 3) (pc' := 183) (L' := [(6, .inl (0)), (5, .inl (p2)), (7, .inl (d2)), (4, .inl (2)), (3, .inl (c)), (0, .inr (.inr (some (192)))), (1, .inl (a)), (2, .inl (n))]) (st' := [.inl (0)]) rfl ?_
                          refine ez_if rfl rfl ⟨by decide, by decide⟩ (fun _ => ?_) (fun (c45 : ¬((0 : Int) = (0))) => absurd c45 (by decide))
                          refine ez_go (n := 1) (pc' := 192) (L' := [(6, .inl (0)), (5, .inl (p2)), (7, .inl (d2)), (4, .inl (2)), (3, .inl (c)), (0, .inr (.inr (some (192)))), (1, .inl (a)), (2, .inl (n))]) (st' := [.inl (-1)]) rfl ?_
                          refine ez_retI rfl rfl (k _ ?_)
                          refine Or.inr ⟨ha, ?_⟩
                          rw [← ec, ← ed1, ← ed2]
                          generalize rz_b h (a + 3) % 256 = d3 at *
                          refine Or.inr (Or.inr (Or.inr (Or.inl ⟨by omega, by omega, ?_⟩)))
                          unfold uD2; omega
                        · skip
                          refine ez_go (n := 4) (pc' := 183) (L' := [(6, .inl (1)), (5, .inl (p2)), (7, .inl (d2)), (4, .inl (2)), (3, .inl (c)), (0, .inr (.inr (some (192)))), (1, .inl (a)), (2, .inl (n))]) (st' := [.inl (1)]) rfl ?_
                          refine ez_if rfl rfl ⟨by decide, by decide⟩ (fun (c46 : (1 : Int) = (0)) => absurd c46 (by decide)) (fun _ => ?_)
                          refine ez_go (n := 2) (pc' := 192) (L' := [(6, .inl (1)), (5, .inl (p2)), (7, .inl (d2)), (4, .inl (2)), (3, .inl (c)), (0, .inr (.inr (some (192)))), (1, .inl (a)), (2, .inl (n))]) (st' := [.inl (p2)]) rfl ?_
                          refine ez_retI rfl rfl (k _ ?_)
                          refine Or.inr ⟨ha, ?_⟩
                          rw [← ec, ← ed1, ← ed2]
                          generalize rz_b h (a + 3) % 256 = d3 at *
                          refine Or.inr (Or.inr (Or.inr (Or.inl ⟨by omega, by omega, ?_⟩)))
                          unfold uD2; omega
                  · skip
                    refine ez_go (n := 1) (pc' := 127) (L' := [(7, .inl (d2)), (6, .inl (2)), (5, .inl (p1)), (4, .inl (2)), (3, .inl (c)), (0, .inr (.inr (some (192)))), (1, .inl (a)), (2, .inl (n))]) (st' := [.inl (-1)]) rfl ?_
                    refine ez_retI rfl rfl (k _ ?_)
                    refine Or.inr ⟨ha, ?_⟩
                    rw [← ec, ← ed1, ← ed2]
                    generalize rz_b h (a + 3) % 256 = d3 at *
                    refine Or.inr (Or.inr (Or.inr (Or.inl ⟨by omega, by omega, ?_⟩)))
                    unfold uD2; omega
                · skip
                  refine ez_go (n := 1) (pc' := 127) (L' := [(7, .inl (d1)), (6, .inl (1)), (5, .inl (p0)), (4, .inl (2)), (3, .inl (c)), (0, .inr (.inr (some (192)))), (1, .inl (a)), (2, .inl (n))]) (st' := [.inl (-1)]) rfl ?_
                  refine ez_retI rfl rfl (k _ ?_)
                  refine Or.inr ⟨ha, ?_⟩
                  rw [← ec, ← ed1]
                  generalize rz_b h (a + 2) % 256 = d2 at *
                  generalize rz_b h (a + 3) % 256 = d3 at *
                  refine Or.inr (Or.inr (Or.inr (Or.inl ⟨by omega, by omega, ?_⟩)))
                  unfold uD2; omega
              · skip
                refine ez_go (n := 1) (pc' := 79) (L' := [(4, .inl (2)), (3, .inl (c)), (0, .inr (.inr (some (192)))), (1, .inl (a)), (2, .inl (n))]) (st' := [.inl (-1)]) rfl ?_
                refine ez_retI rfl rfl (k _ ?_)
                refine Or.inr ⟨ha, ?_⟩
                rw [← ec]
                generalize rz_b h (a + 1) % 256 = d1 at *
                generalize rz_b h (a + 2) % 256 = d2 at *
                generalize rz_b h (a + 3) % 256 = d3 at *
                refine Or.inr (Or.inr (Or.inr (Or.inl ⟨by omega, by omega, ?_⟩)))
                unfold uD2; omega
      · skip
        refine ez_go (n := 5) (pc' := 60) (L' := [(4, .inl (3)), (3, .inl (c)), (0, .inr (.inr (some (192)))), (1, .inl (a)), (2, .inl (n))]) (st' := [.inl (192), .inl (c)]) rfl ?_
        refine ez_icmp rfl rfl ⟨by first | omega | exact (sz_i32 _).1, by first | omega | exact (sz_i32 _).2⟩ ⟨by first | omega | exact (sz_i32 _).1, by first | omega | exact (sz_i32 _).2⟩ (fun (c47 : (c) < (192)) => ?_) (fun (c47 : ¬((c) < (192))) => ?_)
        · skip
          refine ez_go (n := 1) (pc' := 79) (L' := [(4, .inl (3)), (3, .inl (c)), (0, .inr (.inr (some (192)))), (1, .inl (a)), (2, .inl (n))]) (st' := [.inl (-1)]) rfl ?_
          refine ez_retI rfl rfl (k _ ?_)
          refine Or.inr ⟨ha, ?_⟩
          rw [← ec]
          generalize rz_b h (a + 1) % 256 = d1 at *
          generalize rz_b h (a + 2) % 256 = d2 at *
          generalize rz_b h (a + 3) % 256 = d3 at *
          by_cases q9 : c < 245
          · refine Or.inr (Or.inr (Or.inr (Or.inr (Or.inl ⟨by omega, q9, ?_⟩))))
            unfold uD3; omega
          · exact Or.inr (Or.inr (Or.inr (Or.inr (Or.inr ⟨by omega, by omega⟩))))
        · skip
          refine ez_go (n := 2) (pc' := 67) (L' := [(4, .inl (3)), (3, .inl (c)), (0, .inr (.inr (some (192)))), (1, .inl (a)), (2, .inl (n))]) (st' := [.inl (247), .inl (c)]) rfl ?_
          refine ez_icmp rfl rfl ⟨by first | omega | exact (sz_i32 _).1, by first | omega | exact (sz_i32 _).2⟩ ⟨by first | omega | exact (sz_i32 _).1, by first | omega | exact (sz_i32 _).2⟩ (fun (c48 : (247) < (c)) => ?_) (fun (c48 : ¬((247) < (c))) => ?_)
          · skip
            refine ez_go (n := 1) (pc' := 79) (L' := [(4, .inl (3)), (3, .inl (c)), (0, .inr (.inr (some (192)))), (1, .inl (a)), (2, .inl (n))]) (st' := [.inl (-1)]) rfl ?_
            refine ez_retI rfl rfl (k _ ?_)
            refine Or.inr ⟨ha, ?_⟩
            rw [← ec]
            generalize rz_b h (a + 1) % 256 = d1 at *
            generalize rz_b h (a + 2) % 256 = d2 at *
            generalize rz_b h (a + 3) % 256 = d3 at *
            by_cases q9 : c < 245
            · refine Or.inr (Or.inr (Or.inr (Or.inr (Or.inl ⟨by omega, q9, ?_⟩))))
              unfold uD3; omega
            · exact Or.inr (Or.inr (Or.inr (Or.inr (Or.inr ⟨by omega, by omega⟩))))
          · skip
            refine ez_go (n := 4) (pc' := 75) (L' := [(4, .inl (3)), (3, .inl (c)), (0, .inr (.inr (some (192)))), (1, .inl (a)), (2, .inl (n))]) (st' := [.inl (n), .inl ((a) + (3))]) rfl ?_
            refine ez_icmp rfl rfl ⟨by first | omega | exact (sz_i32 _).1, by first | omega | exact (sz_i32 _).2⟩ ⟨by first | omega | exact (sz_i32 _).1, by first | omega | exact (sz_i32 _).2⟩ (fun (c49 : ((a) + (3)) < (n)) => ?_) (fun (c49 : ¬(((a) + (3)) < (n))) => ?_)
            · skip
              refine ez_go (n := 10) (pc' := 96) (L' := [(6, .inl (1)), (5, .inl ((Int32.ofInt (c) &&& Int32.ofInt ((Int32.ofInt (63) >>> (Int32.ofInt (3) &&& 31)).toInt)).toInt)), (4, .inl (3)), (3, .inl (c)), (0, .inr (.inr (some (192)))), (1, .inl (a)), (2, .inl (n))]) (st' := [.inl (3), .inl (1)]) rfl ?_
              obtain ⟨p0, ep0⟩ : ∃ p0, p0 = c - 240 := ⟨_, rfl⟩
              rw [show (Int32.ofInt (c) &&& Int32.ofInt ((Int32.ofInt (63) >>> (Int32.ofInt (3) &&& 31)).toInt)).toInt = p0 by rw [u_l3 _ (by omega) (by omega)]; omega]
              refine ez_icmp rfl rfl ⟨by decide, by decide⟩ ⟨by decide, by decide⟩ (fun (c50 : (3) < (1 : Int)) => absurd c50 (by decide)) (fun _ => ?_)
              refine ez_go (n := 1) (pc' := 100) (L' := [(6, .inl (1)), (5, .inl (p0)), (4, .inl (3)), (3, .inl (c)), (0, .inr (.inr (some (192)))), (1, .inl (a)), (2, .inl (n))]) (st' := [.inr (.inr (some (192)))]) rfl ?_
              refine ez_gC (p := 193) (tg := 45) hB t192 rfl rfl tq_44 rfl rfl (fun (t193 : _ = 45) => ?_)
              refine ez_go (n := 3) (pc' := 107) (L' := [(6, .inl (1)), (5, .inl (p0)), (4, .inl (3)), (3, .inl (c)), (0, .inr (.inr (some (192)))), (1, .inl (a)), (2, .inl (n))]) (st' := [.inl ((a) + (1)), .inr (.inr (some (193)))]) rfl ?_
              have n52 : 4096 ≤ qz_N h 193 ∧ qz_N h 193 ≤ 4096 := ez_len hB t193 tq_45 rfl
              refine ez_aI hB t193 rfl tq_45 rfl rfl (by omega) (by omega) (fun (b51 : -128 ≤ qz_I h 193 ((a) + (1)).toNat) (b51' : qz_I h 193 ((a) + (1)).toNat ≤ 127) => ?_)
              refine ez_go (n := 7) (pc' := 123) (L' := [(7, .inl ((Int32.ofInt (qz_I h 193 ((a) + (1)).toNat) &&& Int32.ofInt (255)).toInt)), (6, .inl (1)), (5, .inl (p0)), (4, .inl (3)), (3, .inl (c)), (0, .inr (.inr (some (192)))), (1, .inl (a)), (2, .inl (n))]) (st' := [.inl (128), .inl ((Int32.ofInt ((Int32.ofInt (qz_I h 193 ((a) + (1)).toNat) &&& Int32.ofInt (255)).toInt) &&& Int32.ofInt (192)).toInt)]) rfl ?_
              obtain ⟨d1, ed1⟩ : ∃ d1, d1 = rz_b h (a + 1) % 256 := ⟨_, rfl⟩
              have db1 : 0 ≤ d1 ∧ d1 ≤ 255 := by omega
              rw [show (Int32.ofInt (qz_I h 193 ((a) + (1)).toNat) &&& Int32.ofInt (255)).toInt = d1 by rw [ed1]; exact u_255 _ (by omega) (by omega)]
              obtain ⟨e1, ee1⟩ : ∃ e1, e1 = (Int32.ofInt (d1) &&& Int32.ofInt (192)).toInt := ⟨_, rfl⟩
              have ei1 : e1 = 128 ↔ 128 ≤ d1 ∧ d1 < 192 := by have := u_192 d1 (by omega) (by omega); rw [← ee1, Int.emod_eq_of_lt (by omega) (by omega)] at this; exact this
              have er1 := sz_i32 (Int32.ofInt (d1) &&& Int32.ofInt (192))
              rw [← ee1] at er1
              rw [← ee1]
              refine ez_icmp rfl rfl ⟨by first | omega | exact (sz_i32 _).1, by first | omega | exact (sz_i32 _).2⟩ ⟨by first | omega | exact (sz_i32 _).1, by first | omega | exact (sz_i32 _).2⟩ (fun (c53 : (e1) = (128)) => ?_) (fun (c53 : ¬((e1) = (128))) => ?_)
              · skip
                refine ez_go (n := 12) (pc' := 96) (L' := [(6, .inl (1 + 1)), (5, .inl ((Int32.ofInt ((Int32.ofInt (p0) <<< (Int32.ofInt (6) &&& 31)).toInt) ||| Int32.ofInt ((Int32.ofInt (d1) &&& Int32.ofInt (63)).toInt)).toInt)), (7, .inl (d1)), (4, .inl (3)), (3, .inl (c)), (0, .inr (.inr (some (192)))), (1, .inl (a)), (2, .inl (n))]) (st' := [.inl (3), .inl (1 + 1)]) rfl ?_
                obtain ⟨p1, ep1⟩ : ∃ p1, p1 = p0 * 64 + (d1 - 128) := ⟨_, rfl⟩
                rw [show (Int32.ofInt ((Int32.ofInt (p0) <<< (Int32.ofInt (6) &&& 31)).toInt) ||| Int32.ofInt ((Int32.ofInt (d1) &&& Int32.ofInt (63)).toInt)).toInt = p1 by rw [ep1, u_63 _ (by omega) (by omega), show d1 % 64 = d1 - 128 by omega]; exact u_or (by omega) (by omega) (by omega) (by omega)]
                rw [show ((1 : Int) + 1) = 2 from rfl]
                refine ez_icmp rfl rfl ⟨by decide, by decide⟩ ⟨by decide, by decide⟩ (fun (c54 : (3) < (2 : Int)) => absurd c54 (by decide)) (fun _ => ?_)
                refine ez_go (n := 1) (pc' := 100) (L' := [(6, .inl (2)), (5, .inl (p1)), (7, .inl (d1)), (4, .inl (3)), (3, .inl (c)), (0, .inr (.inr (some (192)))), (1, .inl (a)), (2, .inl (n))]) (st' := [.inr (.inr (some (192)))]) rfl ?_
                refine ez_gC (p := 193) (tg := 45) hB t192 rfl rfl tq_44 rfl rfl (fun (t193 : _ = 45) => ?_)
                refine ez_go (n := 3) (pc' := 107) (L' := [(6, .inl (2)), (5, .inl (p1)), (7, .inl (d1)), (4, .inl (3)), (3, .inl (c)), (0, .inr (.inr (some (192)))), (1, .inl (a)), (2, .inl (n))]) (st' := [.inl ((a) + (2)), .inr (.inr (some (193)))]) rfl ?_
                have n56 : 4096 ≤ qz_N h 193 ∧ qz_N h 193 ≤ 4096 := ez_len hB t193 tq_45 rfl
                refine ez_aI hB t193 rfl tq_45 rfl rfl (by omega) (by omega) (fun (b55 : -128 ≤ qz_I h 193 ((a) + (2)).toNat) (b55' : qz_I h 193 ((a) + (2)).toNat ≤ 127) => ?_)
                refine ez_go (n := 7) (pc' := 123) (L' := [(7, .inl ((Int32.ofInt (qz_I h 193 ((a) + (2)).toNat) &&& Int32.ofInt (255)).toInt)), (6, .inl (2)), (5, .inl (p1)), (4, .inl (3)), (3, .inl (c)), (0, .inr (.inr (some (192)))), (1, .inl (a)), (2, .inl (n))]) (st' := [.inl (128), .inl ((Int32.ofInt ((Int32.ofInt (qz_I h 193 ((a) + (2)).toNat) &&& Int32.ofInt (255)).toInt) &&& Int32.ofInt (192)).toInt)]) rfl ?_
                obtain ⟨d2, ed2⟩ : ∃ d2, d2 = rz_b h (a + 2) % 256 := ⟨_, rfl⟩
                have db2 : 0 ≤ d2 ∧ d2 ≤ 255 := by omega
                rw [show (Int32.ofInt (qz_I h 193 ((a) + (2)).toNat) &&& Int32.ofInt (255)).toInt = d2 by rw [ed2]; exact u_255 _ (by omega) (by omega)]
                obtain ⟨e2, ee2⟩ : ∃ e2, e2 = (Int32.ofInt (d2) &&& Int32.ofInt (192)).toInt := ⟨_, rfl⟩
                have ei2 : e2 = 128 ↔ 128 ≤ d2 ∧ d2 < 192 := by have := u_192 d2 (by omega) (by omega); rw [← ee2, Int.emod_eq_of_lt (by omega) (by omega)] at this; exact this
                have er2 := sz_i32 (Int32.ofInt (d2) &&& Int32.ofInt (192))
                rw [← ee2] at er2
                rw [← ee2]
                refine ez_icmp rfl rfl ⟨by first | omega | exact (sz_i32 _).1, by first | omega | exact (sz_i32 _).2⟩ ⟨by first | omega | exact (sz_i32 _).1, by first | omega | exact (sz_i32 _).2⟩ (fun (c57 : (e2) = (128)) => ?_) (fun (c57 : ¬((e2) = (128))) => ?_)
                · skip
                  refine ez_go (n := 12) (pc' := 96) (L' := [(6, .inl (2 + 1)), (5, .inl ((Int32.ofInt ((Int32.ofInt (p1) <<< (Int32.ofInt (6) &&& 31)).toInt) ||| Int32.ofInt ((Int32.ofInt (d2) &&& Int32.ofInt (63)).toInt)).toInt)), (7, .inl (d2)), (4, .inl (3)), (3, .inl (c)), (0, .inr (.inr (some (192)))), (1, .inl (a)), (2, .inl (n))]) (st' := [.inl (3), .inl (2 + 1)]) rfl ?_
                  obtain ⟨p2, ep2⟩ : ∃ p2, p2 = p1 * 64 + (d2 - 128) := ⟨_, rfl⟩
                  rw [show (Int32.ofInt ((Int32.ofInt (p1) <<< (Int32.ofInt (6) &&& 31)).toInt) ||| Int32.ofInt ((Int32.ofInt (d2) &&& Int32.ofInt (63)).toInt)).toInt = p2 by rw [ep2, u_63 _ (by omega) (by omega), show d2 % 64 = d2 - 128 by omega]; exact u_or (by omega) (by omega) (by omega) (by omega)]
                  rw [show ((2 : Int) + 1) = 3 from rfl]
                  refine ez_icmp rfl rfl ⟨by decide, by decide⟩ ⟨by decide, by decide⟩ (fun (c58 : (3 : Int) < (3)) => absurd c58 (by decide)) (fun _ => ?_)
                  refine ez_go (n := 1) (pc' := 100) (L' := [(6, .inl (3)), (5, .inl (p2)), (7, .inl (d2)), (4, .inl (3)), (3, .inl (c)), (0, .inr (.inr (some (192)))), (1, .inl (a)), (2, .inl (n))]) (st' := [.inr (.inr (some (192)))]) rfl ?_
                  refine ez_gC (p := 193) (tg := 45) hB t192 rfl rfl tq_44 rfl rfl (fun (t193 : _ = 45) => ?_)
                  refine ez_go (n := 3) (pc' := 107) (L' := [(6, .inl (3)), (5, .inl (p2)), (7, .inl (d2)), (4, .inl (3)), (3, .inl (c)), (0, .inr (.inr (some (192)))), (1, .inl (a)), (2, .inl (n))]) (st' := [.inl ((a) + (3)), .inr (.inr (some (193)))]) rfl ?_
                  have n60 : 4096 ≤ qz_N h 193 ∧ qz_N h 193 ≤ 4096 := ez_len hB t193 tq_45 rfl
                  refine ez_aI hB t193 rfl tq_45 rfl rfl (by omega) (by omega) (fun (b59 : -128 ≤ qz_I h 193 ((a) + (3)).toNat) (b59' : qz_I h 193 ((a) + (3)).toNat ≤ 127) => ?_)
                  refine ez_go (n := 7) (pc' := 123) (L' := [(7, .inl ((Int32.ofInt (qz_I h 193 ((a) + (3)).toNat) &&& Int32.ofInt (255)).toInt)), (6, .inl (3)), (5, .inl (p2)), (4, .inl (3)), (3, .inl (c)), (0, .inr (.inr (some (192)))), (1, .inl (a)), (2, .inl (n))]) (st' := [.inl (128), .inl ((Int32.ofInt ((Int32.ofInt (qz_I h 193 ((a) + (3)).toNat) &&& Int32.ofInt (255)).toInt) &&& Int32.ofInt (192)).toInt)]) rfl ?_
                  obtain ⟨d3, ed3⟩ : ∃ d3, d3 = rz_b h (a + 3) % 256 := ⟨_, rfl⟩
                  have db3 : 0 ≤ d3 ∧ d3 ≤ 255 := by omega
                  rw [show (Int32.ofInt (qz_I h 193 ((a) + (3)).toNat) &&& Int32.ofInt (255)).toInt = d3 by rw [ed3]; exact u_255 _ (by omega) (by omega)]
                  obtain ⟨e3, ee3⟩ : ∃ e3, e3 = (Int32.ofInt (d3) &&& Int32.ofInt (192)).toInt := ⟨_, rfl⟩
                  have ei3 : e3 = 128 ↔ 128 ≤ d3 ∧ d3 < 192 := by have := u_192 d3 (by omega) (by omega); rw [← ee3, Int.emod_eq_of_lt (by omega) (by omega)] at this; exact this
                  have er3 := sz_i32 (Int32.ofInt (d3) &&& Int32.ofInt (192))
                  rw [← ee3] at er3
                  rw [← ee3]
                  refine ez_icmp rfl rfl ⟨by first | omega | exact (sz_i32 _).1, by first | omega | exact (sz_i32 _).2⟩ ⟨by first | omega | exact (sz_i32 _).1, by first | omega | exact (sz_i32 _).2⟩ (fun (c61 : (e3) = (128)) => ?_) (fun (c61 : ¬((e3) = (128))) => ?_)
                  · skip
                    refine ez_go (n := 12) (pc' := 96) (L' := [(6, .inl (3 + 1)), (5, .inl ((Int32.ofInt ((Int32.ofInt (p2) <<< (Int32.ofInt (6) &&& 31)).toInt) ||| Int32.ofInt ((Int32.ofInt (d3) &&& Int32.ofInt (63)).toInt)).toInt)), (7, .inl (d3)), (4, .inl (3)), (3, .inl (c)), (0, .inr (.inr (some (192)))), (1, .inl (a)), (2, .inl (n))]) (st' := [.inl (3), .inl (3 + 1)]) rfl ?_
                    obtain ⟨p3, ep3⟩ : ∃ p3, p3 = p2 * 64 + (d3 - 128) := ⟨_, rfl⟩
                    rw [show (Int32.ofInt ((Int32.ofInt (p2) <<< (Int32.ofInt (6) &&& 31)).toInt) ||| Int32.ofInt ((Int32.ofInt (d3) &&& Int32.ofInt (63)).toInt)).toInt = p3 by rw [ep3, u_63 _ (by omega) (by omega), show d3 % 64 = d3 - 128 by omega]; exact u_or (by omega) (by omega) (by omega) (by omega)]
                    rw [show ((3 : Int) + 1) = 4 from rfl]
                    refine ez_icmp rfl rfl ⟨by decide, by decide⟩ ⟨by decide, by decide⟩ (fun _ => ?_) (fun (c62 : ¬((3) < (4 : Int))) => absurd c62 (by decide))
                    refine ez_go (n := 1) (pc' := 149) (L' := [(6, .inl (4)), (5, .inl (p3)), (7, .inl (d3)), (4, .inl (3)), (3, .inl (c)), (0, .inr (.inr (some (192)))), (1, .inl (a)), (2, .inl (n))]) (st' := [.inl (p3)]) rfl ?_
                    refine ez_ldc (1114111) rfl rfl rfl ?_
                    refine ez_icmp rfl rfl ⟨by first | omega | exact (sz_i32 _).1, by first | omega | exact (sz_i32 _).2⟩ ⟨by first | omega | exact (sz_i32 _).1, by first | omega | exact (sz_i32 _).2⟩ (fun (c63 : (1114111) < (p3)) => ?_) (fun (c63 : ¬((1114111) < (p3))) => ?_)
                    · skip
                      refine ez_go (n := 3) (pc' := 183) (L' := [(6, .inl (0)), (5, .inl (p3)), (7, .inl (d3)), (4, .inl (3)), (3, .inl (c)), (0, .inr (.inr (some (192)))), (1, .inl (a)), (2, .inl (n))]) (st' := [.inl (0)]) rfl ?_
                      refine ez_if rfl rfl ⟨by decide, by decide⟩ (fun _ => ?_) (fun (c64 : ¬((0 : Int) = (0))) => absurd c64 (by decide))
                      refine ez_go (n := 1) (pc' := 192) (L' := [(6, .inl (0)), (5, .inl (p3)), (7, .inl (d3)), (4, .inl (3)), (3, .inl (c)), (0, .inr (.inr (some (192)))), (1, .inl (a)), (2, .inl (n))]) (st' := [.inl (-1)]) rfl ?_
                      refine ez_retI rfl rfl (k _ ?_)
                      refine Or.inr ⟨ha, ?_⟩
                      rw [← ec, ← ed1, ← ed2, ← ed3]
                      by_cases q9 : c < 245
                      · refine Or.inr (Or.inr (Or.inr (Or.inr (Or.inl ⟨by omega, q9, ?_⟩))))
                        unfold uD3; omega
                      · exact Or.inr (Or.inr (Or.inr (Or.inr (Or.inr ⟨by omega, by omega⟩))))
                    · skip
                      refine ez_go (n := 1) (pc' := 156) (L' := [(6, .inl (4)), (5, .inl (p3)), (7, .inl (d3)), (4, .inl (3)), (3, .inl (c)), (0, .inr (.inr (some (192)))), (1, .inl (a)), (2, .inl (n))]) (st' := [.inl (p3)]) rfl ?_
                      refine ez_cs hB.2.1 rfl rfl rfl rfl rfl (rd_isSurr ⟨by omega, by omega⟩ (fun sr => ez_K1 ?_) (fun sr => ez_K1 ?_))
                      · skip
                        refine ez_if rfl rfl ⟨by decide, by decide⟩ (fun _ => ?_) (fun (c65 : ¬((1 : Int) ≠ (0))) => absurd c65 (by decide))
                        refine ez_go (n := 3) (pc' := 183) (L' := [(6, .inl (0)), (5, .inl (p3)), (7, .inl (d3)), (4, .inl (3)), (3, .inl (c)), (0, .inr (.inr (some (192)))), (1, .inl (a)), (2, .inl (n))]) (st' := [.inl (0)]) rfl ?_
                        refine ez_if rfl rfl ⟨by decide, by decide⟩ (fun _ => ?_) (fun (c66 : ¬((0 : Int) = (0))) => absurd c66 (by decide))
                        refine ez_go (n := 1) (pc' := 192) (L' := [(6, .inl (0)), (5, .inl (p3)), (7, .inl (d3)), (4, .inl (3)), (3, .inl (c)), (0, .inr (.inr (some (192)))), (1, .inl (a)), (2, .inl (n))]) (st' := [.inl (-1)]) rfl ?_
                        refine ez_retI rfl rfl (k _ ?_)
                        refine Or.inr ⟨ha, ?_⟩
                        rw [← ec, ← ed1, ← ed2, ← ed3]
                        by_cases q9 : c < 245
                        · refine Or.inr (Or.inr (Or.inr (Or.inr (Or.inl ⟨by omega, q9, ?_⟩))))
                          unfold uD3; omega
                        · exact Or.inr (Or.inr (Or.inr (Or.inr (Or.inr ⟨by omega, by omega⟩))))
                      · skip
                        refine ez_if rfl rfl ⟨by decide, by decide⟩ (fun (c67 : (0 : Int) ≠ (0)) => absurd c67 (by decide)) (fun _ => ?_)
                        refine ez_go (n := 1) (pc' := 164) (L' := [(6, .inl (4)), (5, .inl (p3)), (7, .inl (d3)), (4, .inl (3)), (3, .inl (c)), (0, .inr (.inr (some (192)))), (1, .inl (a)), (2, .inl (n))]) (st' := [.inl (p3)]) rfl ?_
                        refine ez_cs hB.2.1 rfl rfl rfl rfl rfl (rd_u8w ⟨by omega, by omega⟩ (ez_K1 ?_))
                        obtain ⟨wv, ewv⟩ : ∃ wv, wv = uw (p3) := ⟨_, rfl⟩
                        rw [← ewv]
                        have wd : (p3 < 128 ∧ wv = 1) ∨ (128 ≤ p3 ∧ p3 < 2048 ∧ wv = 2) ∨ (2048 ≤ p3 ∧ p3 < 65536 ∧ wv = 3) ∨ (65536 ≤ p3 ∧ wv = 4) := by rw [ewv]; unfold uw; split; (· omega); split; (· omega); split <;> omega
                        refine ez_go (n := 3) (pc' := 171) (L' := [(6, .inl (4)), (5, .inl (p3)), (7, .inl (d3)), (4, .inl (3)), (3, .inl (c)), (0, .inr (.inr (some (192)))), (1, .inl (a)), (2, .inl (n))]) (st' := [.inl ((3) + (1)), .inl (wv)]) rfl ?_
                        refine ez_icmp rfl rfl ⟨by first | omega | exact (sz_i32 _).1, by first | omega | exact (sz_i32 _).2⟩ ⟨by first | omega | exact (sz_i32 _).1, by first | omega | exact (sz_i32 _).2⟩ (fun (c68 : (wv) ≠ ((3) + (1))) => ?_) (fun (c68 : ¬((wv) ≠ ((3) + (1)))) => ?_)
                        · skip
                          refine ez_go (n := 3) (pc' := 183) (L' := [(6, .inl (0)), (5, .inl (p3)), (7, .inl (d3)), (4, .inl (3)), (3, .inl (c)), (0, .inr (.inr (some (192)))), (1, .inl (a)), (2, .inl (n))]) (st' := [.inl (0)]) rfl ?_
                          refine ez_if rfl rfl ⟨by decide, by decide⟩ (fun _ => ?_) (fun (c69 : ¬((0 : Int) = (0))) => absurd c69 (by decide))
                          refine ez_go (n := 1) (pc' := 192) (L' := [(6, .inl (0)), (5, .inl (p3)), (7, .inl (d3)), (4, .inl (3)), (3, .inl (c)), (0, .inr (.inr (some (192)))), (1, .inl (a)), (2, .inl (n))]) (st' := [.inl (-1)]) rfl ?_
                          refine ez_retI rfl rfl (k _ ?_)
                          refine Or.inr ⟨ha, ?_⟩
                          rw [← ec, ← ed1, ← ed2, ← ed3]
                          by_cases q9 : c < 245
                          · refine Or.inr (Or.inr (Or.inr (Or.inr (Or.inl ⟨by omega, q9, ?_⟩))))
                            unfold uD3; omega
                          · exact Or.inr (Or.inr (Or.inr (Or.inr (Or.inr ⟨by omega, by omega⟩))))
                        · skip
                          refine ez_go (n := 4) (pc' := 183) (L' := [(6, .inl (1)), (5, .inl (p3)), (7, .inl (d3)), (4, .inl (3)), (3, .inl (c)), (0, .inr (.inr (some (192)))), (1, .inl (a)), (2, .inl (n))]) (st' := [.inl (1)]) rfl ?_
                          refine ez_if rfl rfl ⟨by decide, by decide⟩ (fun (c70 : (1 : Int) = (0)) => absurd c70 (by decide)) (fun _ => ?_)
                          refine ez_go (n := 2) (pc' := 192) (L' := [(6, .inl (1)), (5, .inl (p3)), (7, .inl (d3)), (4, .inl (3)), (3, .inl (c)), (0, .inr (.inr (some (192)))), (1, .inl (a)), (2, .inl (n))]) (st' := [.inl (p3)]) rfl ?_
                          refine ez_retI rfl rfl (k _ ?_)
                          refine Or.inr ⟨ha, ?_⟩
                          rw [← ec, ← ed1, ← ed2, ← ed3]
                          by_cases q9 : c < 245
                          · refine Or.inr (Or.inr (Or.inr (Or.inr (Or.inl ⟨by omega, q9, ?_⟩))))
                            unfold uD3; omega
                          · exact Or.inr (Or.inr (Or.inr (Or.inr (Or.inr ⟨by omega, by omega⟩))))
                  · skip
                    refine ez_go (n := 1) (pc' := 127) (L' := [(7, .inl (d3)), (6, .inl (3)), (5, .inl (p2)), (4, .inl (3)), (3, .inl (c)), (0, .inr (.inr (some (192)))), (1, .inl (a)), (2, .inl (n))]) (st' := [.inl (-1)]) rfl ?_
                    refine ez_retI rfl rfl (k _ ?_)
                    refine Or.inr ⟨ha, ?_⟩
                    rw [← ec, ← ed1, ← ed2, ← ed3]
                    by_cases q9 : c < 245
                    · refine Or.inr (Or.inr (Or.inr (Or.inr (Or.inl ⟨by omega, q9, ?_⟩))))
                      unfold uD3; omega
                    · exact Or.inr (Or.inr (Or.inr (Or.inr (Or.inr ⟨by omega, by omega⟩))))
                · skip
                  refine ez_go (n := 1) (pc' := 127) (L' := [(7, .inl (d2)), (6, .inl (2)), (5, .inl (p1)), (4, .inl (3)), (3, .inl (c)), (0, .inr (.inr (some (192)))), (1, .inl (a)), (2, .inl (n))]) (st' := [.inl (-1)]) rfl ?_
                  refine ez_retI rfl rfl (k _ ?_)
                  refine Or.inr ⟨ha, ?_⟩
                  rw [← ec, ← ed1, ← ed2]
                  generalize rz_b h (a + 3) % 256 = d3 at *
                  by_cases q9 : c < 245
                  · refine Or.inr (Or.inr (Or.inr (Or.inr (Or.inl ⟨by omega, q9, ?_⟩))))
                    unfold uD3; omega
                  · exact Or.inr (Or.inr (Or.inr (Or.inr (Or.inr ⟨by omega, by omega⟩))))
              · skip
                refine ez_go (n := 1) (pc' := 127) (L' := [(7, .inl (d1)), (6, .inl (1)), (5, .inl (p0)), (4, .inl (3)), (3, .inl (c)), (0, .inr (.inr (some (192)))), (1, .inl (a)), (2, .inl (n))]) (st' := [.inl (-1)]) rfl ?_
                refine ez_retI rfl rfl (k _ ?_)
                refine Or.inr ⟨ha, ?_⟩
                rw [← ec, ← ed1]
                generalize rz_b h (a + 2) % 256 = d2 at *
                generalize rz_b h (a + 3) % 256 = d3 at *
                by_cases q9 : c < 245
                · refine Or.inr (Or.inr (Or.inr (Or.inr (Or.inl ⟨by omega, q9, ?_⟩))))
                  unfold uD3; omega
                · exact Or.inr (Or.inr (Or.inr (Or.inr (Or.inr ⟨by omega, by omega⟩))))
            · skip
              refine ez_go (n := 1) (pc' := 79) (L' := [(4, .inl (3)), (3, .inl (c)), (0, .inr (.inr (some (192)))), (1, .inl (a)), (2, .inl (n))]) (st' := [.inl (-1)]) rfl ?_
              refine ez_retI rfl rfl (k _ ?_)
              refine Or.inr ⟨ha, ?_⟩
              rw [← ec]
              generalize rz_b h (a + 1) % 256 = d1 at *
              generalize rz_b h (a + 2) % 256 = d2 at *
              generalize rz_b h (a + 3) % 256 = d3 at *
              by_cases q9 : c < 245
              · refine Or.inr (Or.inr (Or.inr (Or.inr (Or.inl ⟨by omega, q9, ?_⟩))))
                unfold uD3; omega
              · exact Or.inr (Or.inr (Or.inr (Or.inr (Or.inr ⟨by omega, by omega⟩))))
    · skip
      refine ez_go (n := 1) (pc' := 30) (L' := [(3, .inl (c)), (0, .inr (.inr (some (192)))), (1, .inl (a)), (2, .inl (n))]) (st' := [.inl (c)]) rfl ?_
      refine ez_retI rfl rfl (k _ ?_)
      refine Or.inr ⟨ha, ?_⟩
      exact Or.inl ⟨by omega, by omega⟩

theorem rd_points_l {n : Int} (hB : ez_B τ h) (t192 : τ 192 = 44) (n0 : 0 ≤ n) (n1 : n ≤ 4096) : ∀ (m : Nat) (a c : Int), (n - a).toNat ≤ m → 0 ≤ c → c ≤ a → a ≤ n + 4 → (∀ r, uC (rz_b h) n a c r → Q (.inl (some (ez_v (.inl r))), h)) → ez_W (d + 2) cm_28 4 [(3, .inl (a)), (2, .inl (c)), (0, .inr (.inr (some (192)))), (1, .inl (n))] [] h Q := by
  intro m
  induction m with
  | zero =>
    intro a c hm c0 c1 a1 k
    refine ez_go (n := 2) (pc' := 6) (L' := [(3, .inl (a)), (2, .inl (c)), (0, .inr (.inr (some (192)))), (1, .inl (n))]) (st' := [.inl (n), .inl (a)]) rfl ?_
    refine ez_icmp rfl rfl ⟨by first | omega | exact (sz_i32 _).1, by first | omega | exact (sz_i32 _).2⟩ ⟨by first | omega | exact (sz_i32 _).1, by first | omega | exact (sz_i32 _).2⟩ (fun (c1 : (n) ≤ (a)) => ?_) (fun (c1 : ¬((n) ≤ (a))) => ?_)
    · skip
      refine ez_go (n := 1) (pc' := 47) (L' := [(3, .inl (a)), (2, .inl (c)), (0, .inr (.inr (some (192)))), (1, .inl (n))]) (st' := [.inl (c)]) rfl ?_
      first | exact ez_retI rfl rfl (k _ (uC.fin (by omega))) | (exfalso; omega)
    · skip
      refine ez_go (n := 2) (pc' := 13) (L' := [(3, .inl (a)), (2, .inl (c)), (0, .inr (.inr (some (192)))), (1, .inl (n))]) (st' := [.inl (4096), .inl (c)]) rfl ?_
      refine ez_icmp rfl rfl ⟨by first | omega | exact (sz_i32 _).1, by first | omega | exact (sz_i32 _).2⟩ ⟨by first | omega | exact (sz_i32 _).1, by first | omega | exact (sz_i32 _).2⟩ (fun (c2 : (4096) ≤ (c)) => ?_) (fun (c2 : ¬((4096) ≤ (c))) => ?_)
      · skip
        refine ez_go (n := 1) (pc' := 47) (L' := [(3, .inl (a)), (2, .inl (c)), (0, .inr (.inr (some (192)))), (1, .inl (n))]) (st' := [.inl (c)]) rfl ?_
        first | exact ez_retI rfl rfl (k _ (uC.fin (by omega))) | (exfalso; omega)
      · skip
        refine ez_go (n := 3) (pc' := 19) (L' := [(3, .inl (a)), (2, .inl (c)), (0, .inr (.inr (some (192)))), (1, .inl (n))]) (st' := [.inl (n), .inl (a), .inr (.inr (some (192)))]) rfl ?_
        refine ez_cv hB t192 rfl rfl rfl tq_44 rfl rfl rfl (rd_decodeAt hB t192 (by omega) (by omega) (by omega) (by omega) (fun v hv => ez_K1 ?_))
        have vb := uB_bd hv
        refine ez_go (n := 3) (pc' := 27) (L' := [(4, .inl (v)), (3, .inl (a)), (2, .inl (c)), (0, .inr (.inr (some (192)))), (1, .inl (n))]) (st' := [.inl (-1), .inl (v)]) rfl ?_
        refine ez_icmp rfl rfl ⟨by first | omega | exact (sz_i32 _).1, by first | omega | exact (sz_i32 _).2⟩ ⟨by first | omega | exact (sz_i32 _).1, by first | omega | exact (sz_i32 _).2⟩ (fun (c3 : (v) ≠ (-1)) => ?_) (fun (c3 : ¬((v) ≠ (-1))) => ?_)
        · skip
          refine ez_go (n := 2) (pc' := 35) (L' := [(4, .inl (v)), (3, .inl (a)), (2, .inl (c)), (0, .inr (.inr (some (192)))), (1, .inl (n))]) (st' := [.inl (v), .inl (a)]) rfl ?_
          have wb := uw_bd v
          refine ez_cs hB.2.1 rfl rfl rfl rfl rfl (rd_u8w ⟨by omega, by omega⟩ (ez_K1 ?_))
          refine ez_go (n := 4) (pc' := 4) (L' := [(2, .inl (c + 1)), (3, .inl ((a) + (uw v))), (4, .inl (v)), (0, .inr (.inr (some (192)))), (1, .inl (n))]) (st' := []) rfl ?_
          exfalso; omega
        · skip
          refine ez_go (n := 1) (pc' := 31) (L' := [(4, .inl (v)), (3, .inl (a)), (2, .inl (c)), (0, .inr (.inr (some (192)))), (1, .inl (n))]) (st' := [.inl (-1)]) rfl ?_
          exact ez_retI rfl rfl (k _ (uC.bad (by omega) (by rw [show (-1 : Int) = v by omega]; exact hv)))
  | succ m ih =>
    intro a c hm c0 c1 a1 k
    refine ez_go (n := 2) (pc' := 6) (L' := [(3, .inl (a)), (2, .inl (c)), (0, .inr (.inr (some (192)))), (1, .inl (n))]) (st' := [.inl (n), .inl (a)]) rfl ?_
    refine ez_icmp rfl rfl ⟨by first | omega | exact (sz_i32 _).1, by first | omega | exact (sz_i32 _).2⟩ ⟨by first | omega | exact (sz_i32 _).1, by first | omega | exact (sz_i32 _).2⟩ (fun (c1 : (n) ≤ (a)) => ?_) (fun (c1 : ¬((n) ≤ (a))) => ?_)
    · skip
      refine ez_go (n := 1) (pc' := 47) (L' := [(3, .inl (a)), (2, .inl (c)), (0, .inr (.inr (some (192)))), (1, .inl (n))]) (st' := [.inl (c)]) rfl ?_
      first | exact ez_retI rfl rfl (k _ (uC.fin (by omega))) | (exfalso; omega)
    · skip
      refine ez_go (n := 2) (pc' := 13) (L' := [(3, .inl (a)), (2, .inl (c)), (0, .inr (.inr (some (192)))), (1, .inl (n))]) (st' := [.inl (4096), .inl (c)]) rfl ?_
      refine ez_icmp rfl rfl ⟨by first | omega | exact (sz_i32 _).1, by first | omega | exact (sz_i32 _).2⟩ ⟨by first | omega | exact (sz_i32 _).1, by first | omega | exact (sz_i32 _).2⟩ (fun (c2 : (4096) ≤ (c)) => ?_) (fun (c2 : ¬((4096) ≤ (c))) => ?_)
      · skip
        refine ez_go (n := 1) (pc' := 47) (L' := [(3, .inl (a)), (2, .inl (c)), (0, .inr (.inr (some (192)))), (1, .inl (n))]) (st' := [.inl (c)]) rfl ?_
        first | exact ez_retI rfl rfl (k _ (uC.fin (by omega))) | (exfalso; omega)
      · skip
        refine ez_go (n := 3) (pc' := 19) (L' := [(3, .inl (a)), (2, .inl (c)), (0, .inr (.inr (some (192)))), (1, .inl (n))]) (st' := [.inl (n), .inl (a), .inr (.inr (some (192)))]) rfl ?_
        refine ez_cv hB t192 rfl rfl rfl tq_44 rfl rfl rfl (rd_decodeAt hB t192 (by omega) (by omega) (by omega) (by omega) (fun v hv => ez_K1 ?_))
        have vb := uB_bd hv
        refine ez_go (n := 3) (pc' := 27) (L' := [(4, .inl (v)), (3, .inl (a)), (2, .inl (c)), (0, .inr (.inr (some (192)))), (1, .inl (n))]) (st' := [.inl (-1), .inl (v)]) rfl ?_
        refine ez_icmp rfl rfl ⟨by first | omega | exact (sz_i32 _).1, by first | omega | exact (sz_i32 _).2⟩ ⟨by first | omega | exact (sz_i32 _).1, by first | omega | exact (sz_i32 _).2⟩ (fun (c3 : (v) ≠ (-1)) => ?_) (fun (c3 : ¬((v) ≠ (-1))) => ?_)
        · skip
          refine ez_go (n := 2) (pc' := 35) (L' := [(4, .inl (v)), (3, .inl (a)), (2, .inl (c)), (0, .inr (.inr (some (192)))), (1, .inl (n))]) (st' := [.inl (v), .inl (a)]) rfl ?_
          have wb := uw_bd v
          refine ez_cs hB.2.1 rfl rfl rfl rfl rfl (rd_u8w ⟨by omega, by omega⟩ (ez_K1 ?_))
          refine ez_go (n := 4) (pc' := 4) (L' := [(2, .inl (c + 1)), (3, .inl ((a) + (uw v))), (4, .inl (v)), (0, .inr (.inr (some (192)))), (1, .inl (n))]) (st' := []) rfl ?_
          refine ez_less [(3, .inl ((a) + (uw v))), (2, .inl (c + 1)), (0, .inr (.inr (some (192)))), (1, .inl (n))] rfl ⟨rfl, rfl, rfl, rfl, trivial⟩ ?_
          exact ih (a + uw v) (c + 1) (by omega) (by omega) (by omega) (by omega) (fun r hr => k r (uC.one (by omega) hv (by omega) hr))
        · skip
          refine ez_go (n := 1) (pc' := 31) (L' := [(4, .inl (v)), (3, .inl (a)), (2, .inl (c)), (0, .inr (.inr (some (192)))), (1, .inl (n))]) (st' := [.inl (-1)]) rfl ?_
          exact ez_retI rfl rfl (k _ (uC.bad (by omega) (by rw [show (-1 : Int) = v by omega]; exact hv)))

theorem rd_pointsOn {n : Int} (hB : ez_B τ h) (t192 : τ 192 = 44) (n0 : 0 ≤ n) (n1 : n ≤ 4096) (k : ∀ r, uC (rz_b h) n 0 0 r → Q (.inl (some (ez_v (.inl r))), h)) : ez_W (d + 2) cm_28 0 [(0, .inr (.inr (some (192)))), (1, .inl (n))] [] h Q := by
  refine ez_go (n := 4) (pc' := 4) (L' := [(3, .inl (0)), (2, .inl (0)), (0, .inr (.inr (some (192)))), (1, .inl (n))]) (st' := []) rfl ?_
  refine ez_less [(3, .inl (0)), (2, .inl (0)), (0, .inr (.inr (some (192)))), (1, .inl (n))] rfl ⟨rfl, rfl, rfl, rfl, trivial⟩ ?_
  exact rd_points_l hB t192 n0 n1 _ 0 0 (Nat.le_refl _) (by omega) (by omega) (by omega) k

theorem rd_readTape_l {r : Nat} {n c : Int} (hB0 : ez_B τ h) (t192 : τ 192 = 44) (t193 : τ 193 = 45) (tr : τ r = 88) (n0 : 0 ≤ n) (n1 : n ≤ 4096) (c0 : 0 ≤ c) (c1 : c ≤ 2000) (k : ∀ g l a, ez_B τ g → ez_fr (tx_P r) h g → uPm (rz_b h) n c.toNat a l → tx g r l → Q (.inl none, g)) : ∀ (m : Nat) (i a : Int) (g : cz_H) (l : List Int), m = (c - i).toNat → 0 ≤ i → i ≤ c → 0 ≤ a → a ≤ 4 * i → ez_B τ g → ez_fr (tx_P r) h g → uC (rz_b h) n a i c → uPm (rz_b h) n i.toNat a l → tx g r l → ez_W (d + 2) cm_29 11 [(5, .inl (i)), (4, .inl (a)), (0, .inr (.inr (some (192)))), (1, .inr (.inr (some (r)))), (2, .inl (c)), (3, .inl (n))] [] g Q := by
  have tp := tx_p88 hB0 tr
  intro m
  induction m with
  | zero =>
    intro i a g l hm i0 i1 a0 a1 hBg hf hu hp ta
    have bz : rz_b g = rz_b h := funext fun j => hf.I (tx_Pn (fun e => by rw [← e, t193] at tr; cases tr) (fun e => by rw [← e, t193] at tp; cases tp)) _
    refine ez_go (n := 2) (pc' := 14) (L' := [(5, .inl (i)), (4, .inl (a)), (0, .inr (.inr (some (192)))), (1, .inr (.inr (some (r)))), (2, .inl (c)), (3, .inl (n))]) (st' := [.inl (c), .inl (i)]) rfl ?_
    refine ez_icmp rfl rfl ⟨by first | omega | exact (sz_i32 _).1, by first | omega | exact (sz_i32 _).2⟩ ⟨by first | omega | exact (sz_i32 _).1, by first | omega | exact (sz_i32 _).2⟩ (fun (c1 : (c) ≤ (i)) => ?_) (fun (c1 : ¬((c) ≤ (i))) => ?_)
    · skip
      exact ez_ret0 rfl rfl (k g l a hBg hf (by rw [show c.toNat = i.toNat by omega]; exact hp) ta)
    · skip
      refine ez_go (n := 3) (pc' := 21) (L' := [(5, .inl (i)), (4, .inl (a)), (0, .inr (.inr (some (192)))), (1, .inr (.inr (some (r)))), (2, .inl (c)), (3, .inl (n))]) (st' := [.inl (n), .inl (a), .inr (.inr (some (192)))]) rfl ?_
      refine ez_cv hBg t192 rfl rfl rfl tq_44 rfl rfl rfl (rd_decodeAt hBg t192 (by omega) (by omega) (by omega) (by omega) (fun v hv => ez_K1 ?_))
      rw [bz] at hv
      have vb := uB_bd hv
      obtain ⟨v0, hu2⟩ : 0 ≤ v ∧ uC (rz_b h) n (a + uw v) (i + 1) c := by
        rcases uC_cs hu with ⟨w1, w2⟩ | ⟨w1, w2, w3⟩ | ⟨v', w1, w2, w3, w4⟩
        · exfalso; omega
        · exfalso; omega
        · have e9 : v = v' := uD_uniq hv w2
          rw [e9]; exact ⟨w3, w4⟩
      have an : a < n := by
        rcases uC_cs hu with ⟨w1, w2⟩ | ⟨w1, w2, w3⟩ | ⟨v', w1, w2, w3, w4⟩
        · exfalso; omega
        · exfalso; omega
        · exact w1
      refine ez_go (n := 3) (pc' := 29) (L' := [(6, .inl (v)), (5, .inl (i)), (4, .inl (a)), (0, .inr (.inr (some (192)))), (1, .inr (.inr (some (r)))), (2, .inl (c)), (3, .inl (n))]) (st' := [.inl (v), .inr (.inr (some (r)))]) rfl ?_
      have ll := uPm_len hp
      refine ez_cv hBg tr rfl rfl rfl tq_88 rfl rfl rfl (rd_txa_s hBg tr ta ⟨by omega, by omega⟩ (fun lt g2 hB2 f2 t2 => ez_K1 ?_) (fun lt => by omega))
      refine ez_go (n := 3) (pc' := 37) (L' := [(6, .inl (v)), (5, .inl (i)), (4, .inl (a)), (0, .inr (.inr (some (192)))), (1, .inr (.inr (some (r)))), (2, .inl (c)), (3, .inl (n))]) (st' := [.inl (v), .inl (a)]) rfl ?_
      have wb := uw_bd v
      refine ez_cs hB2.2.1 rfl rfl rfl rfl rfl (rd_u8w ⟨by omega, by omega⟩ (ez_K1 ?_))
      refine ez_go (n := 4) (pc' := 11) (L' := [(5, .inl (i + 1)), (4, .inl ((a) + (uw v))), (6, .inl (v)), (0, .inr (.inr (some (192)))), (1, .inr (.inr (some (r)))), (2, .inl (c)), (3, .inl (n))]) (st' := []) rfl ?_
      exfalso; omega
  | succ m ih =>
    intro i a g l hm i0 i1 a0 a1 hBg hf hu hp ta
    have bz : rz_b g = rz_b h := funext fun j => hf.I (tx_Pn (fun e => by rw [← e, t193] at tr; cases tr) (fun e => by rw [← e, t193] at tp; cases tp)) _
    refine ez_go (n := 2) (pc' := 14) (L' := [(5, .inl (i)), (4, .inl (a)), (0, .inr (.inr (some (192)))), (1, .inr (.inr (some (r)))), (2, .inl (c)), (3, .inl (n))]) (st' := [.inl (c), .inl (i)]) rfl ?_
    refine ez_icmp rfl rfl ⟨by first | omega | exact (sz_i32 _).1, by first | omega | exact (sz_i32 _).2⟩ ⟨by first | omega | exact (sz_i32 _).1, by first | omega | exact (sz_i32 _).2⟩ (fun (c1 : (c) ≤ (i)) => ?_) (fun (c1 : ¬((c) ≤ (i))) => ?_)
    · skip
      exact ez_ret0 rfl rfl (k g l a hBg hf (by rw [show c.toNat = i.toNat by omega]; exact hp) ta)
    · skip
      refine ez_go (n := 3) (pc' := 21) (L' := [(5, .inl (i)), (4, .inl (a)), (0, .inr (.inr (some (192)))), (1, .inr (.inr (some (r)))), (2, .inl (c)), (3, .inl (n))]) (st' := [.inl (n), .inl (a), .inr (.inr (some (192)))]) rfl ?_
      refine ez_cv hBg t192 rfl rfl rfl tq_44 rfl rfl rfl (rd_decodeAt hBg t192 (by omega) (by omega) (by omega) (by omega) (fun v hv => ez_K1 ?_))
      rw [bz] at hv
      have vb := uB_bd hv
      obtain ⟨v0, hu2⟩ : 0 ≤ v ∧ uC (rz_b h) n (a + uw v) (i + 1) c := by
        rcases uC_cs hu with ⟨w1, w2⟩ | ⟨w1, w2, w3⟩ | ⟨v', w1, w2, w3, w4⟩
        · exfalso; omega
        · exfalso; omega
        · have e9 : v = v' := uD_uniq hv w2
          rw [e9]; exact ⟨w3, w4⟩
      have an : a < n := by
        rcases uC_cs hu with ⟨w1, w2⟩ | ⟨w1, w2, w3⟩ | ⟨v', w1, w2, w3, w4⟩
        · exfalso; omega
        · exfalso; omega
        · exact w1
      refine ez_go (n := 3) (pc' := 29) (L' := [(6, .inl (v)), (5, .inl (i)), (4, .inl (a)), (0, .inr (.inr (some (192)))), (1, .inr (.inr (some (r)))), (2, .inl (c)), (3, .inl (n))]) (st' := [.inl (v), .inr (.inr (some (r)))]) rfl ?_
      have ll := uPm_len hp
      refine ez_cv hBg tr rfl rfl rfl tq_88 rfl rfl rfl (rd_txa_s hBg tr ta ⟨by omega, by omega⟩ (fun lt g2 hB2 f2 t2 => ez_K1 ?_) (fun lt => by omega))
      refine ez_go (n := 3) (pc' := 37) (L' := [(6, .inl (v)), (5, .inl (i)), (4, .inl (a)), (0, .inr (.inr (some (192)))), (1, .inr (.inr (some (r)))), (2, .inl (c)), (3, .inl (n))]) (st' := [.inl (v), .inl (a)]) rfl ?_
      have wb := uw_bd v
      refine ez_cs hB2.2.1 rfl rfl rfl rfl rfl (rd_u8w ⟨by omega, by omega⟩ (ez_K1 ?_))
      refine ez_go (n := 4) (pc' := 11) (L' := [(5, .inl (i + 1)), (4, .inl ((a) + (uw v))), (6, .inl (v)), (0, .inr (.inr (some (192)))), (1, .inr (.inr (some (r)))), (2, .inl (c)), (3, .inl (n))]) (st' := []) rfl ?_
      refine ez_less [(5, .inl (i + 1)), (4, .inl ((a) + (uw v))), (0, .inr (.inr (some (192)))), (1, .inr (.inr (some (r)))), (2, .inl (c)), (3, .inl (n))] rfl ⟨rfl, rfl, rfl, rfl, rfl, rfl, trivial⟩ ?_
      exact ih (i + 1) (a + uw v) g2 (l ++ [v]) (by omega) (by omega) (by omega) (by omega) (by omega) hB2 (hf.trans f2) hu2 (by rw [show (i + 1).toNat = i.toNat + 1 by omega]; exact ⟨a, l, v, hp, an, hv, ⟨v0, vb.2⟩, rfl, rfl⟩) t2

theorem rd_readTape {r : Nat} {n c : Int} (hB0 : ez_B τ h) (t192 : τ 192 = 44) (t193 : τ 193 = 45) (tr : τ r = 88) (n0 : 0 ≤ n) (n1 : n ≤ 4096) (c0 : 0 ≤ c) (c1 : c ≤ 2000) (k : ∀ g l a, ez_B τ g → ez_fr (tx_P r) h g → uPm (rz_b h) n c.toNat a l → tx g r l → Q (.inl none, g)) (hu : uC (rz_b h) n 0 0 c) : ez_W (d + 2) cm_29 0 [(0, .inr (.inr (some (192)))), (1, .inr (.inr (some (r)))), (2, .inl (c)), (3, .inl (n))] [] h Q := by
  refine ez_go (n := 4) (pc' := 5) (L' := [(4, .inl (0)), (0, .inr (.inr (some (192)))), (1, .inr (.inr (some (r)))), (2, .inl (c)), (3, .inl (n))]) (st' := [.inl (0), .inr (.inr (some (r)))]) rfl ?_
  refine ez_pf hB0 tr rfl rfl tq_88 rfl rfl rfl rfl (ez_vdI rfl rfl (by omega) (by omega)) (fun hB1 w2 => ?_)
  refine ez_go (n := 2) (pc' := 11) (L' := [(5, .inl (0)), (4, .inl (0)), (0, .inr (.inr (some (192)))), (1, .inr (.inr (some (r)))), (2, .inl (c)), (3, .inl (n))]) (st' := []) rfl ?_
  refine ez_less [(5, .inl (0)), (4, .inl (0)), (0, .inr (.inr (some (192)))), (1, .inr (.inr (some (r)))), (2, .inl (c)), (3, .inl (n))] rfl ⟨rfl, rfl, rfl, rfl, rfl, rfl, trivial⟩ ?_
  exact rd_readTape_l (h := h) hB0 t192 t193 tr n0 n1 c0 c1 k _ 0 0 _ [] rfl (by omega) (by omega) (by omega) (by omega) hB1 ((ez_fr.refl (tx_P r) h).put (tx_Pa r) _ _) hu ⟨rfl, rfl⟩ ⟨w2.trans rfl, fun j v hv => by cases hv⟩

theorem rd_ctext {t : Int} (hB : ez_B τ h) (hX : jz_X τ) (sl : slt h) (tr : ez_rg t) (hr1 : h.1 + 1 ≤ 600192) (hr2 : h.2.1 + 6 ≤ 7302232) (kA : t < 0 ∨ 7 < t → Q (.inr h.1, xc h 1)) (kB : 0 ≤ t → t ≤ 7 → ∀ r, uC (rz_b h) (qz_I h 192 1) 0 0 r → ∀ g, ez_B τ g → ez_fr (ez_one 192) h g → g = dz_put h 192 1 (ez_v (.inl (0))) → r = -1 → Q (.inr g.1, xc g 3)) (kC : 0 ≤ t → t ≤ 7 → ∀ r, uC (rz_b h) (qz_I h 192 1) 0 0 r → ∀ g, ez_B τ g → ez_fr (ez_one 192) h g → g = dz_put h 192 1 (ez_v (.inl (0))) → 2000 < r → Q (.inr g.1, xc g 0)) (kD : 0 ≤ t → t ≤ 7 → ∀ r, uC (rz_b h) (qz_I h 192 1) 0 0 r → ∀ g, ez_B τ g → ez_fr (ez_one 192) h g → g = dz_put h 192 1 (ez_v (.inl (0))) → 0 ≤ r → r ≤ 2000 → ∀ g2 l a, ez_B τ g2 → ez_fr (tx_P (754 + 2 * t.toNat)) g g2 → uPm (rz_b h) (qz_I h 192 1) r.toNat a l → tx g2 (754 + 2 * t.toNat) l → Q (.inl (some (ez_v (.inl r))), g2)) : ez_W (d + 8) cm_39 0 [(0, .inr (.inr (some (192)))), (1, .inl (t))] [] h Q := by
  have t192 : τ 192 = 44 := hX 192 (by decide)
  have t193 : τ 193 = 45 := hX 193 (by decide)
  refine ez_go (n := 1) (pc' := 1) (L' := [(0, .inr (.inr (some (192)))), (1, .inl (t))]) (st' := [.inl (t)]) rfl ?_
  refine ez_cs hB.2.1 rfl rfl rfl rfl rfl (rd_reqSlot hB tr hr1 hr2 (fun w0 w1 => ez_K0 ?_) (fun w => ez_Kp (xc_exc hB rfl) rfl (kA w)))
  refine ez_go (n := 1) (pc' := 5) (L' := [(0, .inr (.inr (some (192)))), (1, .inl (t))]) (st' := [.inr (.inr (some (192)))]) rfl ?_
  refine ez_gI hB t192 rfl rfl tq_44 rfl rfl (fun (b1 : 0 ≤ qz_I h 192 1) (b1' : qz_I h 192 1 ≤ 4096) => ?_)
  refine ez_go (n := 3) (pc' := 11) (L' := [(2, .inl (qz_I h 192 1)), (0, .inr (.inr (some (192)))), (1, .inl (t))]) (st' := [.inl (0), .inr (.inr (some (192)))]) rfl ?_
  refine ez_pf hB t192 rfl rfl tq_44 rfl rfl rfl rfl (ez_vdI rfl rfl (by omega) (by omega)) (fun hB2 w3 => ?_)
  have hz := hB2
  obtain ⟨g, eg⟩ : ∃ g, g = (dz_put h 192 1 (ez_v (.inl (0)))) := ⟨_, rfl⟩
  rw [← eg] at hz ⊢
  have fz : ez_fr (ez_one 192) h g := by rw [eg]; exact (ez_fr.refl (ez_one 192) h).put rfl _ _
  have cz1 := fz.1; have cz2 := fz.2.1
  have c95 : ∀ j, qz_I g 195 j = qz_I h 195 j := fun j => fz.I rfl j
  have bz : rz_b g = rz_b h := funext fun i => fz.I rfl _
  refine ez_go (n := 2) (pc' := 16) (L' := [(2, .inl (qz_I h 192 1)), (0, .inr (.inr (some (192)))), (1, .inl (t))]) (st' := [.inl (qz_I h 192 1), .inr (.inr (some (192)))]) rfl ?_
  refine ez_cv hz t192 rfl rfl rfl tq_44 rfl rfl rfl (rd_pointsOn hz t192 (by omega) (by omega) (fun r hr => ez_K1 ?_))
  rw [bz] at hr
  have rb := uC_bd hr
  refine ez_go (n := 3) (pc' := 22) (L' := [(3, .inl (r)), (2, .inl (qz_I h 192 1)), (0, .inr (.inr (some (192)))), (1, .inl (t))]) (st' := [.inl (-1), .inl (r)]) rfl ?_
  refine ez_icmp rfl rfl ⟨by first | omega | exact (sz_i32 _).1, by first | omega | exact (sz_i32 _).2⟩ ⟨by first | omega | exact (sz_i32 _).1, by first | omega | exact (sz_i32 _).2⟩ (fun (c4 : (r) ≠ (-1)) => ?_) (fun (c4 : ¬((r) ≠ (-1))) => ?_)
  · skip
    refine ez_go (n := 2) (pc' := 37) (L' := [(3, .inl (r)), (2, .inl (qz_I h 192 1)), (0, .inr (.inr (some (192)))), (1, .inl (t))]) (st' := [.inl (2000), .inl (r)]) rfl ?_
    refine ez_icmp rfl rfl ⟨by first | omega | exact (sz_i32 _).1, by first | omega | exact (sz_i32 _).2⟩ ⟨by first | omega | exact (sz_i32 _).1, by first | omega | exact (sz_i32 _).2⟩ (fun (c5 : (r) ≤ (2000)) => ?_) (fun (c5 : ¬((r) ≤ (2000))) => ?_)
    · skip
      refine ez_go (n := 2) (pc' := 50) (L' := [(3, .inl (r)), (2, .inl (qz_I h 192 1)), (0, .inr (.inr (some (192)))), (1, .inl (t))]) (st' := [.inr (.inr (some (192))), .inr (.inr (some (192)))]) rfl ?_
      refine ez_gC (p := 195) (tg := 47) hz t192 rfl rfl tq_44 rfl rfl (fun (t195 : _ = 47) => ?_)
      refine ez_go (n := 1) (pc' := 54) (L' := [(3, .inl (r)), (2, .inl (qz_I h 192 1)), (0, .inr (.inr (some (192)))), (1, .inl (t))]) (st' := [.inl (t), .inr (.inr (some (195))), .inr (.inr (some (192)))]) rfl ?_
      have n7 : 8 ≤ qz_N g 195 ∧ qz_N g 195 ≤ 8 := ez_len hz t195 tq_47 rfl
      have y8 : 1 ≤ qz_I g 195 (t).toNat ∧ qz_I g 195 (t).toNat ≤ 1000000 := ez_aB hz t195 tq_47 rfl rfl (by decide) (by omega) (by omega)
      have y8' : ((qz_P g 195 (t).toNat : Nat) : Int) + 1 = qz_I g 195 (t).toNat := by unfold qz_P; omega
      refine ez_aR hz t195 rfl tq_47 rfl rfl (by omega) (by omega) (by omega) (fun (t6 : _ = 88) => ?_)
      rw [show qz_P g 195 (t).toNat = 754 + 2 * (t).toNat by unfold qz_P; have := (sl (t).toNat (by omega)).1; rw [show qz_I g 195 (t).toNat = qz_I h 195 (t).toNat from c95 _]; omega]
      refine ez_go (n := 2) (pc' := 57) (L' := [(3, .inl (r)), (2, .inl (qz_I h 192 1)), (0, .inr (.inr (some (192)))), (1, .inl (t))]) (st' := [.inl (qz_I h 192 1), .inl (r), .inr (.inr (some (754 + 2 * (t).toNat))), .inr (.inr (some (192)))]) rfl ?_
      refine ez_cv hz t192 rfl rfl rfl tq_44 rfl rfl rfl (rd_readTape hz t192 t193 (mx_tag hX (show (t).toNat < 8 by omega)).2.1 (by omega) (by omega) (by omega) (by omega) (fun g2 l2 a2 hB2 f2 hp2 t2 => ez_K0 ?_) (by rw [bz]; exact hr))
      rw [bz] at hp2
      refine ez_go (n := 1) (pc' := 61) (L' := [(3, .inl (r)), (2, .inl (qz_I h 192 1)), (0, .inr (.inr (some (192)))), (1, .inl (t))]) (st' := [.inl (r)]) rfl ?_
      exact ez_retI rfl rfl (kD w0 w1 _ hr g hz fz eg (by omega) (by omega) g2 l2 a2 hB2 f2 hp2 t2)
    · skip
      refine ez_th rfl rfl (by omega) (by omega) (by omega) rfl ?_
      exact kC w0 w1 _ hr g hz fz eg (by omega)
  · skip
    refine ez_th rfl rfl (by omega) (by omega) (by omega) rfl ?_
    exact kB w0 w1 _ hr g hz fz eg (by omega)

end EzU8
/-! UTF-8 on the tape: the model. (Written by wip/p2/py/pvt14.py.) -/
section EzU9
variable {d : Nat} {h : cz_H} {τ : Nat → Nat} {P Q : cz_F → Prop}
def uF (x a n v : Int) : Prop := (a < n ∧ (128 ≤ x ∧ x < 192) ∧ v = x - 128) ∨ ((n ≤ a ∨ ¬ (128 ≤ x ∧ x < 192)) ∧ v = -1)
theorem rd_follow {a n : Int} (hB : ez_B τ h) (t770 : τ 770 = 75) (a0 : 0 ≤ a) (a1 : a ≤ 4200) (n0 : 0 ≤ n) (n1 : n ≤ 4096) (k : ∀ v, uF (mb h a % 256) a n v → Q (.inl (some (ez_v (.inl v))), h)) : ez_W d cm_260 0 [(0, .inr (.inr (some (770)))), (1, .inl (a)), (2, .inl (n))] [] h Q := by
  refine ez_go (n := 2) (pc' := 2) (L' := [(0, .inr (.inr (some (770)))), (1, .inl (a)), (2, .inl (n))]) (st' := [.inl (n), .inl (a)]) rfl ?_
  refine ez_icmp rfl rfl ⟨by first | omega | exact (sz_i32 _).1, by first | omega | exact (sz_i32 _).2⟩ ⟨by first | omega | exact (sz_i32 _).1, by first | omega | exact (sz_i32 _).2⟩ (fun (c1 : (n) ≤ (a)) => ?_) (fun (c1 : ¬((n) ≤ (a))) => ?_)
  · skip
    refine ez_go (n := 1) (pc' := 34) (L' := [(0, .inr (.inr (some (770)))), (1, .inl (a)), (2, .inl (n))]) (st' := [.inl (-1)]) rfl ?_
    exact ez_retI rfl rfl (k _ (Or.inr ⟨by omega, rfl⟩))
  · skip
    refine ez_go (n := 1) (pc' := 6) (L' := [(0, .inr (.inr (some (770)))), (1, .inl (a)), (2, .inl (n))]) (st' := [.inr (.inr (some (770)))]) rfl ?_
    refine ez_gC (p := 771) (tg := 76) hB t770 rfl rfl tq_75 rfl rfl (fun (t771 : _ = 76) => ?_)
    refine ez_go (n := 1) (pc' := 10) (L' := [(0, .inr (.inr (some (770)))), (1, .inl (a)), (2, .inl (n))]) (st' := [.inl (a), .inr (.inr (some (771)))]) rfl ?_
    have n3 : 4096 ≤ qz_N h 771 ∧ qz_N h 771 ≤ 4096 := ez_len hB t771 tq_76 rfl
    refine ez_aI hB t771 rfl tq_76 rfl rfl (by omega) (by omega) (fun (b2 : -128 ≤ qz_I h 771 (a).toNat) (b2' : qz_I h 771 (a).toNat ≤ 127) => ?_)
    refine ez_go (n := 3) (pc' := 18) (L' := [(0, .inr (.inr (some (770)))), (1, .inl (a)), (2, .inl (n))]) (st' := [.inl (128), .inl ((Int32.ofInt (qz_I h 771 (a).toNat) &&& Int32.ofInt (192)).toInt)]) rfl ?_
    obtain ⟨e1, ee1⟩ : ∃ e1, e1 = (Int32.ofInt (qz_I h 771 (a).toNat) &&& Int32.ofInt (192)).toInt := ⟨_, rfl⟩
    have ei1 : e1 = 128 ↔ 128 ≤ mb h a % 256 ∧ mb h a % 256 < 192 := by have := u_192 (mb h a) (by unfold mb; omega) (by unfold mb; omega); rw [ee1]; exact this
    have er1 := sz_i32 (Int32.ofInt (qz_I h 771 (a).toNat) &&& Int32.ofInt (192))
    rw [← ee1] at er1
    rw [← ee1]
    refine ez_icmp rfl rfl ⟨by first | omega | exact (sz_i32 _).1, by first | omega | exact (sz_i32 _).2⟩ ⟨by first | omega | exact (sz_i32 _).1, by first | omega | exact (sz_i32 _).2⟩ (fun (c4 : (e1) ≠ (128)) => ?_) (fun (c4 : ¬((e1) ≠ (128))) => ?_)
    · skip
      refine ez_go (n := 1) (pc' := 34) (L' := [(0, .inr (.inr (some (770)))), (1, .inl (a)), (2, .inl (n))]) (st' := [.inl (-1)]) rfl ?_
      exact ez_retI rfl rfl (k _ (Or.inr ⟨by omega, rfl⟩))
    · skip
      refine ez_go (n := 1) (pc' := 22) (L' := [(0, .inr (.inr (some (770)))), (1, .inl (a)), (2, .inl (n))]) (st' := [.inr (.inr (some (770)))]) rfl ?_
      refine ez_gC (p := 771) (tg := 76) hB t770 rfl rfl tq_75 rfl rfl (fun (t771 : _ = 76) => ?_)
      refine ez_go (n := 1) (pc' := 26) (L' := [(0, .inr (.inr (some (770)))), (1, .inl (a)), (2, .inl (n))]) (st' := [.inl (a), .inr (.inr (some (771)))]) rfl ?_
      have n6 : 4096 ≤ qz_N h 771 ∧ qz_N h 771 ≤ 4096 := ez_len hB t771 tq_76 rfl
      refine ez_aI hB t771 rfl tq_76 rfl rfl (by omega) (by omega) (fun (b5 : -128 ≤ qz_I h 771 (a).toNat) (b5' : qz_I h 771 (a).toNat ≤ 127) => ?_)
      refine ez_go (n := 3) (pc' := 34) (L' := [(0, .inr (.inr (some (770)))), (1, .inl (a)), (2, .inl (n))]) (st' := [.inl ((Int32.ofInt (qz_I h 771 (a).toNat) &&& Int32.ofInt (63)).toInt)]) rfl ?_
      rw [show (Int32.ofInt (qz_I h 771 (a).toNat) &&& Int32.ofInt (63)).toInt = mb h a % 256 - 128 by rw [u_63 _ (by omega) (by omega)]; show mb h a % 64 = _; omega]
      exact ez_retI rfl rfl (k _ (Or.inl ⟨by omega, by omega, rfl⟩))

theorem rd_mtext_1 {a mn ct n t : Int} {g : cz_H} (t770 : τ 770 = 75) (hBg : ez_B τ g) (bz : mb g = mb h) (a0 : 0 ≤ a) (a1 : a < n) (n1 : n ≤ 4096) (kF : uB (mb h) n a (-1) → ∀ gf, ez_B τ gf → ez_fr (ez_one 770) g gf → (∀ j, j ≠ 0 → qz_I gf 770 j = qz_I g 770 j) → qz_I gf 770 0 = 2 → Q (.inl (some (ez_v (.inl 0))), gf)) (kN : ∀ v, 0 ≤ v → v ≤ 1114111 → uB (mb h) n a v → ez_W (d + 1) cm_303 270 [(5, .inl (a + uw v)), (8, .inl (v)), (4, .inl (mn)), (3, .inl (ct)), (2, .inl (n)), (1, .inl (t)), (0, .inr (.inr (some (770))))] [] g Q) : ez_W (d + 1) cm_303 43 [(5, .inl (a)), (4, .inl (mn)), (3, .inl (ct)), (2, .inl (n)), (1, .inl (t)), (0, .inr (.inr (some (770))))] [] g Q := by
  refine ez_go (n := 1) (pc' := 44) (L' := [(5, .inl (a)), (4, .inl (mn)), (3, .inl (ct)), (2, .inl (n)), (1, .inl (t)), (0, .inr (.inr (some (770))))]) (st' := [.inr (.inr (some (770)))]) rfl ?_
  refine ez_gC (p := 771) (tg := 76) hBg t770 rfl rfl tq_75 rfl rfl (fun (t771 : _ = 76) => ?_)
  refine ez_go (n := 1) (pc' := 49) (L' := [(5, .inl (a)), (4, .inl (mn)), (3, .inl (ct)), (2, .inl (n)), (1, .inl (t)), (0, .inr (.inr (some (770))))]) (st' := [.inl (a), .inr (.inr (some (771)))]) rfl ?_
  have n2 : 4096 ≤ qz_N g 771 ∧ qz_N g 771 ≤ 4096 := ez_len hBg t771 tq_76 rfl
  refine ez_aI hBg t771 rfl tq_76 rfl rfl (by omega) (by omega) (fun (b1 : -128 ≤ qz_I g 771 (a).toNat) (b1' : qz_I g 771 (a).toNat ≤ 127) => ?_)
  refine ez_go (n := 5) (pc' := 61) (L' := [(6, .inl ((Int32.ofInt (qz_I g 771 (a).toNat) &&& Int32.ofInt (255)).toInt)), (5, .inl (a)), (4, .inl (mn)), (3, .inl (ct)), (2, .inl (n)), (1, .inl (t)), (0, .inr (.inr (some (770))))]) (st' := [.inl (128), .inl ((Int32.ofInt (qz_I g 771 (a).toNat) &&& Int32.ofInt (255)).toInt)]) rfl ?_
  obtain ⟨c0, ec⟩ : ∃ c0, c0 = mb h a % 256 := ⟨_, rfl⟩
  have cb : 0 ≤ c0 ∧ c0 ≤ 255 := by omega
  rw [show (Int32.ofInt (qz_I g 771 (a).toNat) &&& Int32.ofInt (255)).toInt = c0 by rw [ec, ← bz]; exact u_255 _ (by omega) (by omega)]
  refine ez_icmp rfl rfl ⟨by first | omega | exact (sz_i32 _).1, by first | omega | exact (sz_i32 _).2⟩ ⟨by first | omega | exact (sz_i32 _).1, by first | omega | exact (sz_i32 _).2⟩ (fun (c3 : (128) ≤ (c0)) => ?_) (fun (c3 : ¬((128) ≤ (c0))) => ?_)
  · skip
    refine ez_go (n := 2) (pc' := 73) (L' := [(6, .inl (c0)), (5, .inl (a)), (4, .inl (mn)), (3, .inl (ct)), (2, .inl (n)), (1, .inl (t)), (0, .inr (.inr (some (770))))]) (st' := [.inl (194), .inl (c0)]) rfl ?_
    refine ez_icmp rfl rfl ⟨by first | omega | exact (sz_i32 _).1, by first | omega | exact (sz_i32 _).2⟩ ⟨by first | omega | exact (sz_i32 _).1, by first | omega | exact (sz_i32 _).2⟩ (fun (c4 : (c0) < (194)) => ?_) (fun (c4 : ¬((c0) < (194))) => ?_)
    · skip
      refine ez_go (n := 2) (pc' := 93) (L' := [(6, .inl (c0)), (5, .inl (a)), (4, .inl (mn)), (3, .inl (ct)), (2, .inl (n)), (1, .inl (t)), (0, .inr (.inr (some (770))))]) (st' := [.inl (224), .inl (c0)]) rfl ?_
      refine ez_icmp rfl rfl ⟨by first | omega | exact (sz_i32 _).1, by first | omega | exact (sz_i32 _).2⟩ ⟨by first | omega | exact (sz_i32 _).1, by first | omega | exact (sz_i32 _).2⟩ (fun (c5 : (c0) < (224)) => ?_) (fun (c5 : ¬((c0) < (224))) => ?_)
      · skip
        refine ez_go (n := 2) (pc' := 113) (L' := [(6, .inl (c0)), (5, .inl (a)), (4, .inl (mn)), (3, .inl (ct)), (2, .inl (n)), (1, .inl (t)), (0, .inr (.inr (some (770))))]) (st' := [.inl (240), .inl (c0)]) rfl ?_
        refine ez_icmp rfl rfl ⟨by first | omega | exact (sz_i32 _).1, by first | omega | exact (sz_i32 _).2⟩ ⟨by first | omega | exact (sz_i32 _).1, by first | omega | exact (sz_i32 _).2⟩ (fun (c6 : (c0) < (240)) => ?_) (fun (c6 : ¬((c0) < (240))) => ?_)
        · skip
          refine ez_go (n := 3) (pc' := 133) (L' := [(7, .inl (-1)), (6, .inl (c0)), (5, .inl (a)), (4, .inl (mn)), (3, .inl (ct)), (2, .inl (n)), (1, .inl (t)), (0, .inr (.inr (some (770))))]) (st' := [.inl (-1)]) rfl ?_
          refine ez_if rfl rfl ⟨by decide, by decide⟩ (fun (c7 : (0) ≤ (-1 : Int)) => absurd c7 (by decide)) (fun _ => ?_)
          refine ez_go (n := 2) (pc' := 138) (L' := [(7, .inl (-1)), (6, .inl (c0)), (5, .inl (a)), (4, .inl (mn)), (3, .inl (ct)), (2, .inl (n)), (1, .inl (t)), (0, .inr (.inr (some (770))))]) (st' := [.inl (2), .inr (.inr (some (770)))]) rfl ?_
          refine ez_cv hBg t770 rfl rfl rfl tq_75 rfl rfl rfl (rd_mfail hBg t770 (by omega) (by omega) (fun gf hBf ff9 jf vf0 => ez_K1 ?_))
          refine ez_retI rfl rfl (kF ?_ gf hBf ff9 jf vf0)
          refine Or.inr ⟨by omega, ?_⟩
          rw [← ec]
          generalize mb h (a + 1) % 256 = d1 at *
          generalize mb h (a + 2) % 256 = d2 at *
          generalize mb h (a + 3) % 256 = d3 at *
          by_cases q9 : c0 < 194
          · exact Or.inr (Or.inl ⟨by omega, q9, rfl⟩)
          · exact Or.inr (Or.inr (Or.inr (Or.inr (Or.inr ⟨by omega, rfl⟩))))
        · skip
          refine ez_go (n := 2) (pc' := 121) (L' := [(6, .inl (c0)), (5, .inl (a)), (4, .inl (mn)), (3, .inl (ct)), (2, .inl (n)), (1, .inl (t)), (0, .inr (.inr (some (770))))]) (st' := [.inl (245), .inl (c0)]) rfl ?_
          refine ez_icmp rfl rfl ⟨by first | omega | exact (sz_i32 _).1, by first | omega | exact (sz_i32 _).2⟩ ⟨by first | omega | exact (sz_i32 _).1, by first | omega | exact (sz_i32 _).2⟩ (fun (c8 : (245) ≤ (c0)) => ?_) (fun (c8 : ¬((245) ≤ (c0))) => ?_)
          · skip
            refine ez_go (n := 3) (pc' := 133) (L' := [(7, .inl (-1)), (6, .inl (c0)), (5, .inl (a)), (4, .inl (mn)), (3, .inl (ct)), (2, .inl (n)), (1, .inl (t)), (0, .inr (.inr (some (770))))]) (st' := [.inl (-1)]) rfl ?_
            refine ez_if rfl rfl ⟨by decide, by decide⟩ (fun (c9 : (0) ≤ (-1 : Int)) => absurd c9 (by decide)) (fun _ => ?_)
            refine ez_go (n := 2) (pc' := 138) (L' := [(7, .inl (-1)), (6, .inl (c0)), (5, .inl (a)), (4, .inl (mn)), (3, .inl (ct)), (2, .inl (n)), (1, .inl (t)), (0, .inr (.inr (some (770))))]) (st' := [.inl (2), .inr (.inr (some (770)))]) rfl ?_
            refine ez_cv hBg t770 rfl rfl rfl tq_75 rfl rfl rfl (rd_mfail hBg t770 (by omega) (by omega) (fun gf hBf ff9 jf vf0 => ez_K1 ?_))
            refine ez_retI rfl rfl (kF ?_ gf hBf ff9 jf vf0)
            refine Or.inr ⟨by omega, ?_⟩
            rw [← ec]
            generalize mb h (a + 1) % 256 = d1 at *
            generalize mb h (a + 2) % 256 = d2 at *
            generalize mb h (a + 3) % 256 = d3 at *
            by_cases q9 : c0 < 194
            · exact Or.inr (Or.inl ⟨by omega, q9, rfl⟩)
            · exact Or.inr (Or.inr (Or.inr (Or.inr (Or.inr ⟨by omega, rfl⟩))))
          · skip
            refine ez_go (n := 4) (pc' := 133) (L' := [(7, .inl (3)), (6, .inl (c0)), (5, .inl (a)), (4, .inl (mn)), (3, .inl (ct)), (2, .inl (n)), (1, .inl (t)), (0, .inr (.inr (some (770))))]) (st' := [.inl (3)]) rfl ?_
            refine ez_if rfl rfl ⟨by decide, by decide⟩ (fun _ => ?_) (fun (c10 : ¬((0) ≤ (3 : Int))) => absurd c10 (by decide))
            refine ez_go (n := 1) (pc' := 144) (L' := [(7, .inl (3)), (6, .inl (c0)), (5, .inl (a)), (4, .inl (mn)), (3, .inl (ct)), (2, .inl (n)), (1, .inl (t)), (0, .inr (.inr (some (770))))]) (st' := [.inl (3)]) rfl ?_
            refine ez_if rfl rfl ⟨by decide, by decide⟩ (fun _ => ?_) (fun (c11 : ¬((3 : Int) ≠ (0))) => absurd c11 (by decide))
            refine ez_go (n := 11) (pc' := 172) (L' := [(9, .inl (0)), (5, .inl (a + 1)), (8, .inl ((Int32.ofInt (c0) &&& Int32.ofInt ((Int32.ofInt (63) >>> (Int32.ofInt (3) &&& 31)).toInt)).toInt)), (7, .inl (3)), (6, .inl (c0)), (4, .inl (mn)), (3, .inl (ct)), (2, .inl (n)), (1, .inl (t)), (0, .inr (.inr (some (770))))]) (st' := [.inl (3), .inl (0)]) rfl ?_
            obtain ⟨p0, ep0⟩ : ∃ p0, p0 = c0 - 240 := ⟨_, rfl⟩
            rw [show (Int32.ofInt (c0) &&& Int32.ofInt ((Int32.ofInt (63) >>> (Int32.ofInt (3) &&& 31)).toInt)).toInt = p0 by rw [u_l3 _ (by omega) (by omega)]; omega]
            refine ez_icmp rfl rfl ⟨by decide, by decide⟩ ⟨by decide, by decide⟩ (fun (c12 : (3) ≤ (0 : Int)) => absurd c12 (by decide)) (fun _ => ?_)
            refine ez_go (n := 3) (pc' := 179) (L' := [(9, .inl (0)), (5, .inl (a + 1)), (8, .inl (p0)), (7, .inl (3)), (6, .inl (c0)), (4, .inl (mn)), (3, .inl (ct)), (2, .inl (n)), (1, .inl (t)), (0, .inr (.inr (some (770))))]) (st' := [.inl (n), .inl (a + 1), .inr (.inr (some (770)))]) rfl ?_
            refine ez_cv hBg t770 rfl rfl rfl tq_75 rfl rfl rfl (rd_follow hBg t770 (by omega) (by omega) (by omega) (by omega) (fun f1 hf1 => ez_K1 ?_))
            obtain ⟨d1, ed1⟩ : ∃ d1, d1 = mb h (a + 1) % 256 := ⟨_, rfl⟩
            rw [bz, show a + 1 = a + 1 by omega, ← ed1] at hf1
            have db1 : 0 ≤ d1 ∧ d1 ≤ 255 := by omega
            unfold uF at hf1
            refine ez_go (n := 2) (pc' := 186) (L' := [(10, .inl (f1)), (9, .inl (0)), (5, .inl (a + 1)), (8, .inl (p0)), (7, .inl (3)), (6, .inl (c0)), (4, .inl (mn)), (3, .inl (ct)), (2, .inl (n)), (1, .inl (t)), (0, .inr (.inr (some (770))))]) (st' := [.inl (f1)]) rfl ?_
            refine ez_if rfl rfl ⟨by first | omega | exact (sz_i32 _).1, by first | omega | exact (sz_i32 _).2⟩ (fun (c13 : (0) ≤ (f1)) => ?_) (fun (c13 : ¬((0) ≤ (f1))) => ?_)
            · skip
              refine ez_go (n := 11) (pc' := 172) (L' := [(9, .inl (0 + 1)), (5, .inl (a + 1 + 1)), (8, .inl (((64) * (p0)) + (f1))), (10, .inl (f1)), (7, .inl (3)), (6, .inl (c0)), (4, .inl (mn)), (3, .inl (ct)), (2, .inl (n)), (1, .inl (t)), (0, .inr (.inr (some (770))))]) (st' := [.inl (3), .inl (0 + 1)]) rfl ?_
              obtain ⟨p1, ep1⟩ : ∃ p1, p1 = p0 * 64 + f1 := ⟨_, rfl⟩
              rw [show ((64) * (p0)) + (f1) = p1 by omega]
              rw [show ((0 : Int) + 1) = 1 from rfl]
              refine ez_icmp rfl rfl ⟨by decide, by decide⟩ ⟨by decide, by decide⟩ (fun (c14 : (3) ≤ (1 : Int)) => absurd c14 (by decide)) (fun _ => ?_)
              refine ez_go (n := 3) (pc' := 179) (L' := [(9, .inl (1)), (5, .inl (a + 1 + 1)), (8, .inl (p1)), (10, .inl (f1)), (7, .inl (3)), (6, .inl (c0)), (4, .inl (mn)), (3, .inl (ct)), (2, .inl (n)), (1, .inl (t)), (0, .inr (.inr (some (770))))]) (st' := [.inl (n), .inl (a + 1 + 1), .inr (.inr (some (770)))]) rfl ?_
              refine ez_cv hBg t770 rfl rfl rfl tq_75 rfl rfl rfl (rd_follow hBg t770 (by omega) (by omega) (by omega) (by omega) (fun f2 hf2 => ez_K1 ?_))
              obtain ⟨d2, ed2⟩ : ∃ d2, d2 = mb h (a + 2) % 256 := ⟨_, rfl⟩
              rw [bz, show a + 1 + 1 = a + 2 by omega, ← ed2] at hf2
              have db2 : 0 ≤ d2 ∧ d2 ≤ 255 := by omega
              unfold uF at hf2
              refine ez_go (n := 2) (pc' := 186) (L' := [(10, .inl (f2)), (9, .inl (1)), (5, .inl (a + 1 + 1)), (8, .inl (p1)), (7, .inl (3)), (6, .inl (c0)), (4, .inl (mn)), (3, .inl (ct)), (2, .inl (n)), (1, .inl (t)), (0, .inr (.inr (some (770))))]) (st' := [.inl (f2)]) rfl ?_
              refine ez_if rfl rfl ⟨by first | omega | exact (sz_i32 _).1, by first | omega | exact (sz_i32 _).2⟩ (fun (c15 : (0) ≤ (f2)) => ?_) (fun (c15 : ¬((0) ≤ (f2))) => ?_)
              · skip
                refine ez_go (n := 11) (pc' := 172) (L' := [(9, .inl (1 + 1)), (5, .inl (a + 1 + 1 + 1)), (8, .inl (((64) * (p1)) + (f2))), (10, .inl (f2)), (7, .inl (3)), (6, .inl (c0)), (4, .inl (mn)), (3, .inl (ct)), (2, .inl (n)), (1, .inl (t)), (0, .inr (.inr (some (770))))]) (st' := [.inl (3), .inl (1 + 1)]) rfl ?_
                obtain ⟨p2, ep2⟩ : ∃ p2, p2 = p1 * 64 + f2 := ⟨_, rfl⟩
                rw [show ((64) * (p1)) + (f2) = p2 by omega]
                rw [show ((1 : Int) + 1) = 2 from rfl]
                refine ez_icmp rfl rfl ⟨by decide, by decide⟩ ⟨by decide, by decide⟩ (fun (c16 : (3) ≤ (2 : Int)) => absurd c16 (by decide)) (fun _ => ?_)
                refine ez_go (n := 3) (pc' := 179) (L' := [(9, .inl (2)), (5, .inl (a + 1 + 1 + 1)), (8, .inl (p2)), (10, .inl (f2)), (7, .inl (3)), (6, .inl (c0)), (4, .inl (mn)), (3, .inl (ct)), (2, .inl (n)), (1, .inl (t)), (0, .inr (.inr (some (770))))]) (st' := [.inl (n), .inl (a + 1 + 1 + 1), .inr (.inr (some (770)))]) rfl ?_
                refine ez_cv hBg t770 rfl rfl rfl tq_75 rfl rfl rfl (rd_follow hBg t770 (by omega) (by omega) (by omega) (by omega) (fun f3 hf3 => ez_K1 ?_))
                obtain ⟨d3, ed3⟩ : ∃ d3, d3 = mb h (a + 3) % 256 := ⟨_, rfl⟩
                rw [bz, show a + 1 + 1 + 1 = a + 3 by omega, ← ed3] at hf3
                have db3 : 0 ≤ d3 ∧ d3 ≤ 255 := by omega
                unfold uF at hf3
                refine ez_go (n := 2) (pc' := 186) (L' := [(10, .inl (f3)), (9, .inl (2)), (5, .inl (a + 1 + 1 + 1)), (8, .inl (p2)), (7, .inl (3)), (6, .inl (c0)), (4, .inl (mn)), (3, .inl (ct)), (2, .inl (n)), (1, .inl (t)), (0, .inr (.inr (some (770))))]) (st' := [.inl (f3)]) rfl ?_
                refine ez_if rfl rfl ⟨by first | omega | exact (sz_i32 _).1, by first | omega | exact (sz_i32 _).2⟩ (fun (c17 : (0) ≤ (f3)) => ?_) (fun (c17 : ¬((0) ≤ (f3))) => ?_)
                · skip
                  refine ez_go (n := 11) (pc' := 172) (L' := [(9, .inl (2 + 1)), (5, .inl (a + 1 + 1 + 1 + 1)), (8, .inl (((64) * (p2)) + (f3))), (10, .inl (f3)), (7, .inl (3)), (6, .inl (c0)), (4, .inl (mn)), (3, .inl (ct)), (2, .inl (n)), (1, .inl (t)), (0, .inr (.inr (some (770))))]) (st' := [.inl (3), .inl (2 + 1)]) rfl ?_
                  obtain ⟨p3, ep3⟩ : ∃ p3, p3 = p2 * 64 + f3 := ⟨_, rfl⟩
                  rw [show ((64) * (p2)) + (f3) = p3 by omega]
                  rw [show ((2 : Int) + 1) = 3 from rfl]
                  refine ez_icmp rfl rfl ⟨by decide, by decide⟩ ⟨by decide, by decide⟩ (fun _ => ?_) (fun (c18 : ¬((3 : Int) ≤ (3))) => absurd c18 (by decide))
                  refine ez_go (n := 2) (pc' := 217) (L' := [(9, .inl (3)), (5, .inl (a + 1 + 1 + 1 + 1)), (8, .inl (p3)), (10, .inl (f3)), (7, .inl (3)), (6, .inl (c0)), (4, .inl (mn)), (3, .inl (ct)), (2, .inl (n)), (1, .inl (t)), (0, .inr (.inr (some (770))))]) (st' := [.inl (2), .inl (3)]) rfl ?_
                  refine ez_icmp rfl rfl ⟨by decide, by decide⟩ ⟨by decide, by decide⟩ (fun _ => ?_) (fun (c19 : ¬((3 : Int) ≠ (2))) => absurd c19 (by decide))
                  refine ez_go (n := 2) (pc' := 231) (L' := [(9, .inl (3)), (5, .inl (a + 1 + 1 + 1 + 1)), (8, .inl (p3)), (10, .inl (f3)), (7, .inl (3)), (6, .inl (c0)), (4, .inl (mn)), (3, .inl (ct)), (2, .inl (n)), (1, .inl (t)), (0, .inr (.inr (some (770))))]) (st' := [.inl (3), .inl (3)]) rfl ?_
                  refine ez_icmp rfl rfl ⟨by decide, by decide⟩ ⟨by decide, by decide⟩ (fun (c20 : (3 : Int) ≠ (3)) => absurd c20 (by decide)) (fun _ => ?_)
                  refine ez_go (n := 1) (pc' := 236) (L' := [(9, .inl (3)), (5, .inl (a + 1 + 1 + 1 + 1)), (8, .inl (p3)), (10, .inl (f3)), (7, .inl (3)), (6, .inl (c0)), (4, .inl (mn)), (3, .inl (ct)), (2, .inl (n)), (1, .inl (t)), (0, .inr (.inr (some (770))))]) (st' := [.inl (p3)]) rfl ?_
                  refine ez_ldc (65536) rfl rfl rfl ?_
                  refine ez_icmp rfl rfl ⟨by first | omega | exact (sz_i32 _).1, by first | omega | exact (sz_i32 _).2⟩ ⟨by first | omega | exact (sz_i32 _).1, by first | omega | exact (sz_i32 _).2⟩ (fun (c21 : (p3) < (65536)) => ?_) (fun (c21 : ¬((p3) < (65536))) => ?_)
                  · skip
                    refine ez_go (n := 2) (pc' := 266) (L' := [(9, .inl (3)), (5, .inl (a + 1 + 1 + 1 + 1)), (8, .inl (p3)), (10, .inl (f3)), (7, .inl (3)), (6, .inl (c0)), (4, .inl (mn)), (3, .inl (ct)), (2, .inl (n)), (1, .inl (t)), (0, .inr (.inr (some (770))))]) (st' := [.inl (2), .inr (.inr (some (770)))]) rfl ?_
                    refine ez_cv hBg t770 rfl rfl rfl tq_75 rfl rfl rfl (rd_mfail hBg t770 (by omega) (by omega) (fun gf hBf ff9 jf vf0 => ez_K1 ?_))
                    refine ez_retI rfl rfl (kF ?_ gf hBf ff9 jf vf0)
                    refine Or.inr ⟨by omega, ?_⟩
                    rw [← ec, ← ed1, ← ed2, ← ed3]
                    refine Or.inr (Or.inr (Or.inr (Or.inr (Or.inl ⟨by omega, by omega, ?_⟩))))
                    unfold uD3; omega
                  · skip
                    refine ez_go (n := 1) (pc' := 243) (L' := [(9, .inl (3)), (5, .inl (a + 1 + 1 + 1 + 1)), (8, .inl (p3)), (10, .inl (f3)), (7, .inl (3)), (6, .inl (c0)), (4, .inl (mn)), (3, .inl (ct)), (2, .inl (n)), (1, .inl (t)), (0, .inr (.inr (some (770))))]) (st' := [.inl (p3)]) rfl ?_
                    refine ez_ldc (1114111) rfl rfl rfl ?_
                    refine ez_icmp rfl rfl ⟨by first | omega | exact (sz_i32 _).1, by first | omega | exact (sz_i32 _).2⟩ ⟨by first | omega | exact (sz_i32 _).1, by first | omega | exact (sz_i32 _).2⟩ (fun (c22 : (1114111) < (p3)) => ?_) (fun (c22 : ¬((1114111) < (p3))) => ?_)
                    · skip
                      refine ez_go (n := 2) (pc' := 266) (L' := [(9, .inl (3)), (5, .inl (a + 1 + 1 + 1 + 1)), (8, .inl (p3)), (10, .inl (f3)), (7, .inl (3)), (6, .inl (c0)), (4, .inl (mn)), (3, .inl (ct)), (2, .inl (n)), (1, .inl (t)), (0, .inr (.inr (some (770))))]) (st' := [.inl (2), .inr (.inr (some (770)))]) rfl ?_
                      refine ez_cv hBg t770 rfl rfl rfl tq_75 rfl rfl rfl (rd_mfail hBg t770 (by omega) (by omega) (fun gf hBf ff9 jf vf0 => ez_K1 ?_))
                      refine ez_retI rfl rfl (kF ?_ gf hBf ff9 jf vf0)
                      refine Or.inr ⟨by omega, ?_⟩
                      rw [← ec, ← ed1, ← ed2, ← ed3]
                      refine Or.inr (Or.inr (Or.inr (Or.inr (Or.inl ⟨by omega, by omega, ?_⟩))))
                      unfold uD3; omega
                    · skip
                      refine ez_go (n := 1) (pc' := 250) (L' := [(9, .inl (3)), (5, .inl (a + 1 + 1 + 1 + 1)), (8, .inl (p3)), (10, .inl (f3)), (7, .inl (3)), (6, .inl (c0)), (4, .inl (mn)), (3, .inl (ct)), (2, .inl (n)), (1, .inl (t)), (0, .inr (.inr (some (770))))]) (st' := [.inl (p3)]) rfl ?_
                      refine ez_ldcV (55296) rfl rfl rfl ?_
                      refine ez_icmp rfl rfl ⟨by first | omega | exact (sz_i32 _).1, by first | omega | exact (sz_i32 _).2⟩ ⟨by first | omega | exact (sz_i32 _).1, by first | omega | exact (sz_i32 _).2⟩ (fun (c23 : (p3) < (55296)) => ?_) (fun (c23 : ¬((p3) < (55296))) => ?_)
                      · skip
                        refine ez_less [(5, .inl (a + 1 + 1 + 1 + 1)), (8, .inl (p3)), (4, .inl (mn)), (3, .inl (ct)), (2, .inl (n)), (1, .inl (t)), (0, .inr (.inr (some (770))))] rfl ⟨rfl, rfl, rfl, rfl, rfl, rfl, rfl, trivial⟩ ?_
                        have ev : uB (mb h) n a (p3) := by
                          refine Or.inr ⟨by omega, ?_⟩
                          rw [← ec, ← ed1, ← ed2, ← ed3]
                          refine Or.inr (Or.inr (Or.inr (Or.inr (Or.inl ⟨by omega, by omega, ?_⟩))))
                          unfold uD3; omega
                        have ew : uw (p3) = 4 := by first | (exfalso; omega) | (unfold uw; first | rw [if_pos (by omega)] | rw [if_neg (by omega), if_pos (by omega)] | rw [if_neg (by omega), if_neg (by omega), if_pos (by omega)] | rw [if_neg (by omega), if_neg (by omega), if_neg (by omega)])
                        rw [show a + 1 + 1 + 1 + 1 = a + uw (p3) by omega]
                        exact kN _ (by omega) (by omega) ev
                      · skip
                        refine ez_go (n := 1) (pc' := 258) (L' := [(9, .inl (3)), (5, .inl (a + 1 + 1 + 1 + 1)), (8, .inl (p3)), (10, .inl (f3)), (7, .inl (3)), (6, .inl (c0)), (4, .inl (mn)), (3, .inl (ct)), (2, .inl (n)), (1, .inl (t)), (0, .inr (.inr (some (770))))]) (st' := [.inl (p3)]) rfl ?_
                        refine ez_ldcV (57344) rfl rfl rfl ?_
                        refine ez_icmp rfl rfl ⟨by first | omega | exact (sz_i32 _).1, by first | omega | exact (sz_i32 _).2⟩ ⟨by first | omega | exact (sz_i32 _).1, by first | omega | exact (sz_i32 _).2⟩ (fun (c24 : (57344) ≤ (p3)) => ?_) (fun (c24 : ¬((57344) ≤ (p3))) => ?_)
                        · skip
                          refine ez_less [(5, .inl (a + 1 + 1 + 1 + 1)), (8, .inl (p3)), (4, .inl (mn)), (3, .inl (ct)), (2, .inl (n)), (1, .inl (t)), (0, .inr (.inr (some (770))))] rfl ⟨rfl, rfl, rfl, rfl, rfl, rfl, rfl, trivial⟩ ?_
                          have ev : uB (mb h) n a (p3) := by
                            refine Or.inr ⟨by omega, ?_⟩
                            rw [← ec, ← ed1, ← ed2, ← ed3]
                            refine Or.inr (Or.inr (Or.inr (Or.inr (Or.inl ⟨by omega, by omega, ?_⟩))))
                            unfold uD3; omega
                          have ew : uw (p3) = 4 := by first | (exfalso; omega) | (unfold uw; first | rw [if_pos (by omega)] | rw [if_neg (by omega), if_pos (by omega)] | rw [if_neg (by omega), if_neg (by omega), if_pos (by omega)] | rw [if_neg (by omega), if_neg (by omega), if_neg (by omega)])
                          rw [show a + 1 + 1 + 1 + 1 = a + uw (p3) by omega]
                          exact kN _ (by omega) (by omega) ev
                        · skip
                          refine ez_go (n := 2) (pc' := 266) (L' := [(9, .inl (3)), (5, .inl (a + 1 + 1 + 1 + 1)), (8, .inl (p3)), (10, .inl (f3)), (7, .inl (3)), (6, .inl (c0)), (4, .inl (mn)), (3, .inl (ct)), (2, .inl (n)), (1, .inl (t)), (0, .inr (.inr (some (770))))]) (st' := [.inl (2), .inr (.inr (some (770)))]) rfl ?_
                          refine ez_cv hBg t770 rfl rfl rfl tq_75 rfl rfl rfl (rd_mfail hBg t770 (by omega) (by omega) (fun gf hBf ff9 jf vf0 => ez_K1 ?_))
                          refine ez_retI rfl rfl (kF ?_ gf hBf ff9 jf vf0)
                          refine Or.inr ⟨by omega, ?_⟩
                          rw [← ec, ← ed1, ← ed2, ← ed3]
                          refine Or.inr (Or.inr (Or.inr (Or.inr (Or.inl ⟨by omega, by omega, ?_⟩))))
                          unfold uD3; omega
                · skip
                  refine ez_go (n := 2) (pc' := 191) (L' := [(10, .inl (f3)), (9, .inl (2)), (5, .inl (a + 1 + 1 + 1)), (8, .inl (p2)), (7, .inl (3)), (6, .inl (c0)), (4, .inl (mn)), (3, .inl (ct)), (2, .inl (n)), (1, .inl (t)), (0, .inr (.inr (some (770))))]) (st' := [.inl (2), .inr (.inr (some (770)))]) rfl ?_
                  refine ez_cv hBg t770 rfl rfl rfl tq_75 rfl rfl rfl (rd_mfail hBg t770 (by omega) (by omega) (fun gf hBf ff9 jf vf0 => ez_K1 ?_))
                  refine ez_retI rfl rfl (kF ?_ gf hBf ff9 jf vf0)
                  refine Or.inr ⟨by omega, ?_⟩
                  rw [← ec, ← ed1, ← ed2, ← ed3]
                  refine Or.inr (Or.inr (Or.inr (Or.inr (Or.inl ⟨by omega, by omega, ?_⟩))))
                  unfold uD3; omega
              · skip
                refine ez_go (n := 2) (pc' := 191) (L' := [(10, .inl (f2)), (9, .inl (1)), (5, .inl (a + 1 + 1)), (8, .inl (p1)), (7, .inl (3)), (6, .inl (c0)), (4, .inl (mn)), (3, .inl (ct)), (2, .inl (n)), (1, .inl (t)), (0, .inr (.inr (some (770))))]) (st' := [.inl (2), .inr (.inr (some (770)))]) rfl ?_
                refine ez_cv hBg t770 rfl rfl rfl tq_75 rfl rfl rfl (rd_mfail hBg t770 (by omega) (by omega) (fun gf hBf ff9 jf vf0 => ez_K1 ?_))
                refine ez_retI rfl rfl (kF ?_ gf hBf ff9 jf vf0)
                refine Or.inr ⟨by omega, ?_⟩
                rw [← ec, ← ed1, ← ed2]
                generalize mb h (a + 3) % 256 = d3 at *
                refine Or.inr (Or.inr (Or.inr (Or.inr (Or.inl ⟨by omega, by omega, ?_⟩))))
                unfold uD3; omega
            · skip
              refine ez_go (n := 2) (pc' := 191) (L' := [(10, .inl (f1)), (9, .inl (0)), (5, .inl (a + 1)), (8, .inl (p0)), (7, .inl (3)), (6, .inl (c0)), (4, .inl (mn)), (3, .inl (ct)), (2, .inl (n)), (1, .inl (t)), (0, .inr (.inr (some (770))))]) (st' := [.inl (2), .inr (.inr (some (770)))]) rfl ?_
              refine ez_cv hBg t770 rfl rfl rfl tq_75 rfl rfl rfl (rd_mfail hBg t770 (by omega) (by omega) (fun gf hBf ff9 jf vf0 => ez_K1 ?_))
              refine ez_retI rfl rfl (kF ?_ gf hBf ff9 jf vf0)
              refine Or.inr ⟨by omega, ?_⟩
              rw [← ec, ← ed1]
              generalize mb h (a + 2) % 256 = d2 at *
              generalize mb h (a + 3) % 256 = d3 at *
              refine Or.inr (Or.inr (Or.inr (Or.inr (Or.inl ⟨by omega, by omega, ?_⟩))))
              unfold uD3; omega
      · skip
        refine ez_go (n := 2) (pc' := 101) (L' := [(6, .inl (c0)), (5, .inl (a)), (4, .inl (mn)), (3, .inl (ct)), (2, .inl (n)), (1, .inl (t)), (0, .inr (.inr (some (770))))]) (st' := [.inl (240), .inl (c0)]) rfl ?_
        refine ez_icmp rfl rfl ⟨by first | omega | exact (sz_i32 _).1, by first | omega | exact (sz_i32 _).2⟩ ⟨by first | omega | exact (sz_i32 _).1, by first | omega | exact (sz_i32 _).2⟩ (fun (c25 : (240) ≤ (c0)) => ?_) (fun (c25 : ¬((240) ≤ (c0))) => ?_)
        · skip
          refine ez_go (n := 2) (pc' := 113) (L' := [(6, .inl (c0)), (5, .inl (a)), (4, .inl (mn)), (3, .inl (ct)), (2, .inl (n)), (1, .inl (t)), (0, .inr (.inr (some (770))))]) (st' := [.inl (240), .inl (c0)]) rfl ?_
          refine ez_icmp rfl rfl ⟨by first | omega | exact (sz_i32 _).1, by first | omega | exact (sz_i32 _).2⟩ ⟨by first | omega | exact (sz_i32 _).1, by first | omega | exact (sz_i32 _).2⟩ (fun (c26 : (c0) < (240)) => ?_) (fun (c26 : ¬((c0) < (240))) => ?_)
          · skip
            refine ez_go (n := 3) (pc' := 133) (L' := [(7, .inl (-1)), (6, .inl (c0)), (5, .inl (a)), (4, .inl (mn)), (3, .inl (ct)), (2, .inl (n)), (1, .inl (t)), (0, .inr (.inr (some (770))))]) (st' := [.inl (-1)]) rfl ?_
            refine ez_if rfl rfl ⟨by decide, by decide⟩ (fun (c27 : (0) ≤ (-1 : Int)) => absurd c27 (by decide)) (fun _ => ?_)
            refine ez_go (n := 2) (pc' := 138) (L' := [(7, .inl (-1)), (6, .inl (c0)), (5, .inl (a)), (4, .inl (mn)), (3, .inl (ct)), (2, .inl (n)), (1, .inl (t)), (0, .inr (.inr (some (770))))]) (st' := [.inl (2), .inr (.inr (some (770)))]) rfl ?_
            refine ez_cv hBg t770 rfl rfl rfl tq_75 rfl rfl rfl (rd_mfail hBg t770 (by omega) (by omega) (fun gf hBf ff9 jf vf0 => ez_K1 ?_))
            refine ez_retI rfl rfl (kF ?_ gf hBf ff9 jf vf0)
            refine Or.inr ⟨by omega, ?_⟩
            rw [← ec]
            generalize mb h (a + 1) % 256 = d1 at *
            generalize mb h (a + 2) % 256 = d2 at *
            generalize mb h (a + 3) % 256 = d3 at *
            by_cases q9 : c0 < 194
            · exact Or.inr (Or.inl ⟨by omega, q9, rfl⟩)
            · exact Or.inr (Or.inr (Or.inr (Or.inr (Or.inr ⟨by omega, rfl⟩))))
          · skip
            refine ez_go (n := 2) (pc' := 121) (L' := [(6, .inl (c0)), (5, .inl (a)), (4, .inl (mn)), (3, .inl (ct)), (2, .inl (n)), (1, .inl (t)), (0, .inr (.inr (some (770))))]) (st' := [.inl (245), .inl (c0)]) rfl ?_
            refine ez_icmp rfl rfl ⟨by first | omega | exact (sz_i32 _).1, by first | omega | exact (sz_i32 _).2⟩ ⟨by first | omega | exact (sz_i32 _).1, by first | omega | exact (sz_i32 _).2⟩ (fun (c28 : (245) ≤ (c0)) => ?_) (fun (c28 : ¬((245) ≤ (c0))) => ?_)
            · skip
              refine ez_go (n := 3) (pc' := 133) (L' := [(7, .inl (-1)), (6, .inl (c0)), (5, .inl (a)), (4, .inl (mn)), (3, .inl (ct)), (2, .inl (n)), (1, .inl (t)), (0, .inr (.inr (some (770))))]) (st' := [.inl (-1)]) rfl ?_
              refine ez_if rfl rfl ⟨by decide, by decide⟩ (fun (c29 : (0) ≤ (-1 : Int)) => absurd c29 (by decide)) (fun _ => ?_)
              refine ez_go (n := 2) (pc' := 138) (L' := [(7, .inl (-1)), (6, .inl (c0)), (5, .inl (a)), (4, .inl (mn)), (3, .inl (ct)), (2, .inl (n)), (1, .inl (t)), (0, .inr (.inr (some (770))))]) (st' := [.inl (2), .inr (.inr (some (770)))]) rfl ?_
              refine ez_cv hBg t770 rfl rfl rfl tq_75 rfl rfl rfl (rd_mfail hBg t770 (by omega) (by omega) (fun gf hBf ff9 jf vf0 => ez_K1 ?_))
              refine ez_retI rfl rfl (kF ?_ gf hBf ff9 jf vf0)
              refine Or.inr ⟨by omega, ?_⟩
              rw [← ec]
              generalize mb h (a + 1) % 256 = d1 at *
              generalize mb h (a + 2) % 256 = d2 at *
              generalize mb h (a + 3) % 256 = d3 at *
              by_cases q9 : c0 < 194
              · exact Or.inr (Or.inl ⟨by omega, q9, rfl⟩)
              · exact Or.inr (Or.inr (Or.inr (Or.inr (Or.inr ⟨by omega, rfl⟩))))
            · skip
              refine ez_go (n := 4) (pc' := 133) (L' := [(7, .inl (3)), (6, .inl (c0)), (5, .inl (a)), (4, .inl (mn)), (3, .inl (ct)), (2, .inl (n)), (1, .inl (t)), (0, .inr (.inr (some (770))))]) (st' := [.inl (3)]) rfl ?_
              refine ez_if rfl rfl ⟨by decide, by decide⟩ (fun _ => ?_) (fun (c30 : ¬((0) ≤ (3 : Int))) => absurd c30 (by decide))
              refine ez_go (n := 1) (pc' := 144) (L' := [(7, .inl (3)), (6, .inl (c0)), (5, .inl (a)), (4, .inl (mn)), (3, .inl (ct)), (2, .inl (n)), (1, .inl (t)), (0, .inr (.inr (some (770))))]) (st' := [.inl (3)]) rfl ?_
              refine ez_if rfl rfl ⟨by decide, by decide⟩ (fun _ => ?_) (fun (c31 : ¬((3 : Int) ≠ (0))) => absurd c31 (by decide))
              refine ez_go (n := 11) (pc' := 172) (L' := [(9, .inl (0)), (5, .inl (a + 1)), (8, .inl ((Int32.ofInt (c0) &&& Int32.ofInt ((Int32.ofInt (63) >>> (Int32.ofInt (3) &&& 31)).toInt)).toInt)), (7, .inl (3)), (6, .inl (c0)), (4, .inl (mn)), (3, .inl (ct)), (2, .inl (n)), (1, .inl (t)), (0, .inr (.inr (some (770))))]) (st' := [.inl (3), .inl (0)]) rfl ?_
              obtain ⟨p0, ep0⟩ : ∃ p0, p0 = c0 - 240 := ⟨_, rfl⟩
              rw [show (Int32.ofInt (c0) &&& Int32.ofInt ((Int32.ofInt (63) >>> (Int32.ofInt (3) &&& 31)).toInt)).toInt = p0 by rw [u_l3 _ (by omega) (by omega)]; omega]
              refine ez_icmp rfl rfl ⟨by decide, by decide⟩ ⟨by decide, by decide⟩ (fun (c32 : (3) ≤ (0 : Int)) => absurd c32 (by decide)) (fun _ => ?_)
              refine ez_go (n := 3) (pc' := 179) (L' := [(9, .inl (0)), (5, .inl (a + 1)), (8, .inl (p0)), (7, .inl (3)), (6, .inl (c0)), (4, .inl (mn)), (3, .inl (ct)), (2, .inl (n)), (1, .inl (t)), (0, .inr (.inr (some (770))))]) (st' := [.inl (n), .inl (a + 1), .inr (.inr (some (770)))]) rfl ?_
              refine ez_cv hBg t770 rfl rfl rfl tq_75 rfl rfl rfl (rd_follow hBg t770 (by omega) (by omega) (by omega) (by omega) (fun f1 hf1 => ez_K1 ?_))
              obtain ⟨d1, ed1⟩ : ∃ d1, d1 = mb h (a + 1) % 256 := ⟨_, rfl⟩
              rw [bz, show a + 1 = a + 1 by omega, ← ed1] at hf1
              have db1 : 0 ≤ d1 ∧ d1 ≤ 255 := by omega
              unfold uF at hf1
              refine ez_go (n := 2) (pc' := 186) (L' := [(10, .inl (f1)), (9, .inl (0)), (5, .inl (a + 1)), (8, .inl (p0)), (7, .inl (3)), (6, .inl (c0)), (4, .inl (mn)), (3, .inl (ct)), (2, .inl (n)), (1, .inl (t)), (0, .inr (.inr (some (770))))]) (st' := [.inl (f1)]) rfl ?_
              refine ez_if rfl rfl ⟨by first | omega | exact (sz_i32 _).1, by first | omega | exact (sz_i32 _).2⟩ (fun (c33 : (0) ≤ (f1)) => ?_) (fun (c33 : ¬((0) ≤ (f1))) => ?_)
              · skip
                refine ez_go (n := 11) (pc' := 172) (L' := [(9, .inl (0 + 1)), (5, .inl (a + 1 + 1)), (8, .inl (((64) * (p0)) + (f1))), (10, .inl (f1)), (7, .inl (3)), (6, .inl (c0)), (4, .inl (mn)), (3, .inl (ct)), (2, .inl (n)), (1, .inl (t)), (0, .inr (.inr (some (770))))]) (st' := [.inl (3), .inl (0 + 1)]) rfl ?_
                obtain ⟨p1, ep1⟩ : ∃ p1, p1 = p0 * 64 + f1 := ⟨_, rfl⟩
                rw [show ((64) * (p0)) + (f1) = p1 by omega]
                rw [show ((0 : Int) + 1) = 1 from rfl]
                refine ez_icmp rfl rfl ⟨by decide, by decide⟩ ⟨by decide, by decide⟩ (fun (c34 : (3) ≤ (1 : Int)) => absurd c34 (by decide)) (fun _ => ?_)
                refine ez_go (n := 3) (pc' := 179) (L' := [(9, .inl (1)), (5, .inl (a + 1 + 1)), (8, .inl (p1)), (10, .inl (f1)), (7, .inl (3)), (6, .inl (c0)), (4, .inl (mn)), (3, .inl (ct)), (2, .inl (n)), (1, .inl (t)), (0, .inr (.inr (some (770))))]) (st' := [.inl (n), .inl (a + 1 + 1), .inr (.inr (some (770)))]) rfl ?_
                refine ez_cv hBg t770 rfl rfl rfl tq_75 rfl rfl rfl (rd_follow hBg t770 (by omega) (by omega) (by omega) (by omega) (fun f2 hf2 => ez_K1 ?_))
                obtain ⟨d2, ed2⟩ : ∃ d2, d2 = mb h (a + 2) % 256 := ⟨_, rfl⟩
                rw [bz, show a + 1 + 1 = a + 2 by omega, ← ed2] at hf2
                have db2 : 0 ≤ d2 ∧ d2 ≤ 255 := by omega
                unfold uF at hf2
                refine ez_go (n := 2) (pc' := 186) (L' := [(10, .inl (f2)), (9, .inl (1)), (5, .inl (a + 1 + 1)), (8, .inl (p1)), (7, .inl (3)), (6, .inl (c0)), (4, .inl (mn)), (3, .inl (ct)), (2, .inl (n)), (1, .inl (t)), (0, .inr (.inr (some (770))))]) (st' := [.inl (f2)]) rfl ?_
                refine ez_if rfl rfl ⟨by first | omega | exact (sz_i32 _).1, by first | omega | exact (sz_i32 _).2⟩ (fun (c35 : (0) ≤ (f2)) => ?_) (fun (c35 : ¬((0) ≤ (f2))) => ?_)
                · skip
                  refine ez_go (n := 11) (pc' := 172) (L' := [(9, .inl (1 + 1)), (5, .inl (a + 1 + 1 + 1)), (8, .inl (((64) * (p1)) + (f2))), (10, .inl (f2)), (7, .inl (3)), (6, .inl (c0)), (4, .inl (mn)), (3, .inl (ct)), (2, .inl (n)), (1, .inl (t)), (0, .inr (.inr (some (770))))]) (st' := [.inl (3), .inl (1 + 1)]) rfl ?_
                  obtain ⟨p2, ep2⟩ : ∃ p2, p2 = p1 * 64 + f2 := ⟨_, rfl⟩
                  rw [show ((64) * (p1)) + (f2) = p2 by omega]
                  rw [show ((1 : Int) + 1) = 2 from rfl]
                  refine ez_icmp rfl rfl ⟨by decide, by decide⟩ ⟨by decide, by decide⟩ (fun (c36 : (3) ≤ (2 : Int)) => absurd c36 (by decide)) (fun _ => ?_)
                  refine ez_go (n := 3) (pc' := 179) (L' := [(9, .inl (2)), (5, .inl (a + 1 + 1 + 1)), (8, .inl (p2)), (10, .inl (f2)), (7, .inl (3)), (6, .inl (c0)), (4, .inl (mn)), (3, .inl (ct)), (2, .inl (n)), (1, .inl (t)), (0, .inr (.inr (some (770))))]) (st' := [.inl (n), .inl (a + 1 + 1 + 1), .inr (.inr (some (770)))]) rfl ?_
                  refine ez_cv hBg t770 rfl rfl rfl tq_75 rfl rfl rfl (rd_follow hBg t770 (by omega) (by omega) (by omega) (by omega) (fun f3 hf3 => ez_K1 ?_))
                  obtain ⟨d3, ed3⟩ : ∃ d3, d3 = mb h (a + 3) % 256 := ⟨_, rfl⟩
                  rw [bz, show a + 1 + 1 + 1 = a + 3 by omega, ← ed3] at hf3
                  have db3 : 0 ≤ d3 ∧ d3 ≤ 255 := by omega
                  unfold uF at hf3
                  refine ez_go (n := 2) (pc' := 186) (L' := [(10, .inl (f3)), (9, .inl (2)), (5, .inl (a + 1 + 1 + 1)), (8, .inl (p2)), (7, .inl (3)), (6, .inl (c0)), (4, .inl (mn)), (3, .inl (ct)), (2, .inl (n)), (1, .inl (t)), (0, .inr (.inr (some (770))))]) (st' := [.inl (f3)]) rfl ?_
                  refine ez_if rfl rfl ⟨by first | omega | exact (sz_i32 _).1, by first | omega | exact (sz_i32 _).2⟩ (fun (c37 : (0) ≤ (f3)) => ?_) (fun (c37 : ¬((0) ≤ (f3))) => ?_)
                  · skip
                    refine ez_go (n := 11) (pc' := 172) (L' := [(9, .inl (2 + 1)), (5, .inl (a + 1 + 1 + 1 + 1)), (8, .inl (((64) * (p2)) + (f3))), (10, .inl (f3)), (7, .inl (3)), (6, .inl (c0)), (4, .inl (mn)), (3, .inl (ct)), (2, .inl (n)), (1, .inl (t)), (0, .inr (.inr (some (770))))]) (st' := [.inl (3), .inl (2 + 1)]) rfl ?_
                    obtain ⟨p3, ep3⟩ : ∃ p3, p3 = p2 * 64 + f3 := ⟨_, rfl⟩
                    rw [show ((64) * (p2)) + (f3) = p3 by omega]
                    rw [show ((2 : Int) + 1) = 3 from rfl]
                    refine ez_icmp rfl rfl ⟨by decide, by decide⟩ ⟨by decide, by decide⟩ (fun _ => ?_) (fun (c38 : ¬((3 : Int) ≤ (3))) => absurd c38 (by decide))
                    refine ez_go (n := 2) (pc' := 217) (L' := [(9, .inl (3)), (5, .inl (a + 1 + 1 + 1 + 1)), (8, .inl (p3)), (10, .inl (f3)), (7, .inl (3)), (6, .inl (c0)), (4, .inl (mn)), (3, .inl (ct)), (2, .inl (n)), (1, .inl (t)), (0, .inr (.inr (some (770))))]) (st' := [.inl (2), .inl (3)]) rfl ?_
                    refine ez_icmp rfl rfl ⟨by decide, by decide⟩ ⟨by decide, by decide⟩ (fun _ => ?_) (fun (c39 : ¬((3 : Int) ≠ (2))) => absurd c39 (by decide))
                    refine ez_go (n := 2) (pc' := 231) (L' := [(9, .inl (3)), (5, .inl (a + 1 + 1 + 1 + 1)), (8, .inl (p3)), (10, .inl (f3)), (7, .inl (3)), (6, .inl (c0)), (4, .inl (mn)), (3, .inl (ct)), (2, .inl (n)), (1, .inl (t)), (0, .inr (.inr (some (770))))]) (st' := [.inl (3), .inl (3)]) rfl ?_
                    refine ez_icmp rfl rfl ⟨by decide, by decide⟩ ⟨by decide, by decide⟩ (fun (c40 : (3 : Int) ≠ (3)) => absurd c40 (by decide)) (fun _ => ?_)
                    refine ez_go (n := 1) (pc' := 236) (L' := [(9, .inl (3)), (5, .inl (a + 1 + 1 + 1 + 1)), (8, .inl (p3)), (10, .inl (f3)), (7, .inl (3)), (6, .inl (c0)), (4, .inl (mn)), (3, .inl (ct)), (2, .inl (n)), (1, .inl (t)), (0, .inr (.inr (some (770))))]) (st' := [.inl (p3)]) rfl ?_
                    refine ez_ldc (65536) rfl rfl rfl ?_
                    refine ez_icmp rfl rfl ⟨by first | omega | exact (sz_i32 _).1, by first | omega | exact (sz_i32 _).2⟩ ⟨by first | omega | exact (sz_i32 _).1, by first | omega | exact (sz_i32 _).2⟩ (fun (c41 : (p3) < (65536)) => ?_) (fun (c41 : ¬((p3) < (65536))) => ?_)
                    · skip
                      refine ez_go (n := 2) (pc' := 266) (L' := [(9, .inl (3)), (5, .inl (a + 1 + 1 + 1 + 1)), (8, .inl (p3)), (10, .inl (f3)), (7, .inl (3)), (6, .inl (c0)), (4, .inl (mn)), (3, .inl (ct)), (2, .inl (n)), (1, .inl (t)), (0, .inr (.inr (some (770))))]) (st' := [.inl (2), .inr (.inr (some (770)))]) rfl ?_
                      refine ez_cv hBg t770 rfl rfl rfl tq_75 rfl rfl rfl (rd_mfail hBg t770 (by omega) (by omega) (fun gf hBf ff9 jf vf0 => ez_K1 ?_))
                      refine ez_retI rfl rfl (kF ?_ gf hBf ff9 jf vf0)
                      refine Or.inr ⟨by omega, ?_⟩
                      rw [← ec, ← ed1, ← ed2, ← ed3]
                      refine Or.inr (Or.inr (Or.inr (Or.inr (Or.inl ⟨by omega, by omega, ?_⟩))))
                      unfold uD3; omega
                    · skip
                      refine ez_go (n := 1) (pc' := 243) (L' := [(9, .inl (3)), (5, .inl (a + 1 + 1 + 1 + 1)), (8, .inl (p3)), (10, .inl (f3)), (7, .inl (3)), (6, .inl (c0)), (4, .inl (mn)), (3, .inl (ct)), (2, .inl (n)), (1, .inl (t)), (0, .inr (.inr (some (770))))]) (st' := [.inl (p3)]) rfl ?_
                      refine ez_ldc (1114111) rfl rfl rfl ?_
                      refine ez_icmp rfl rfl ⟨by first | omega | exact (sz_i32 _).1, by first | omega | exact (sz_i32 _).2⟩ ⟨by first | omega | exact (sz_i32 _).1, by first | omega | exact (sz_i32 _).2⟩ (fun (c42 : (1114111) < (p3)) => ?_) (fun (c42 : ¬((1114111) < (p3))) => ?_)
                      · skip
                        refine ez_go (n := 2) (pc' := 266) (L' := [(9, .inl (3)), (5, .inl (a + 1 + 1 + 1 + 1)), (8, .inl (p3)), (10, .inl (f3)), (7, .inl (3)), (6, .inl (c0)), (4, .inl (mn)), (3, .inl (ct)), (2, .inl (n)), (1, .inl (t)), (0, .inr (.inr (some (770))))]) (st' := [.inl (2), .inr (.inr (some (770)))]) rfl ?_
                        refine ez_cv hBg t770 rfl rfl rfl tq_75 rfl rfl rfl (rd_mfail hBg t770 (by omega) (by omega) (fun gf hBf ff9 jf vf0 => ez_K1 ?_))
                        refine ez_retI rfl rfl (kF ?_ gf hBf ff9 jf vf0)
                        refine Or.inr ⟨by omega, ?_⟩
                        rw [← ec, ← ed1, ← ed2, ← ed3]
                        refine Or.inr (Or.inr (Or.inr (Or.inr (Or.inl ⟨by omega, by omega, ?_⟩))))
                        unfold uD3; omega
                      · skip
                        refine ez_go (n := 1) (pc' := 250) (L' := [(9, .inl (3)), (5, .inl (a + 1 + 1 + 1 + 1)), (8, .inl (p3)), (10, .inl (f3)), (7, .inl (3)), (6, .inl (c0)), (4, .inl (mn)), (3, .inl (ct)), (2, .inl (n)), (1, .inl (t)), (0, .inr (.inr (some (770))))]) (st' := [.inl (p3)]) rfl ?_
                        refine ez_ldcV (55296) rfl rfl rfl ?_
                        refine ez_icmp rfl rfl ⟨by first | omega | exact (sz_i32 _).1, by first | omega | exact (sz_i32 _).2⟩ ⟨by first | omega | exact (sz_i32 _).1, by first | omega | exact (sz_i32 _).2⟩ (fun (c43 : (p3) < (55296)) => ?_) (fun (c43 : ¬((p3) < (55296))) => ?_)
                        · skip
                          refine ez_less [(5, .inl (a + 1 + 1 + 1 + 1)), (8, .inl (p3)), (4, .inl (mn)), (3, .inl (ct)), (2, .inl (n)), (1, .inl (t)), (0, .inr (.inr (some (770))))] rfl ⟨rfl, rfl, rfl, rfl, rfl, rfl, rfl, trivial⟩ ?_
                          have ev : uB (mb h) n a (p3) := by
                            refine Or.inr ⟨by omega, ?_⟩
                            rw [← ec, ← ed1, ← ed2, ← ed3]
                            refine Or.inr (Or.inr (Or.inr (Or.inr (Or.inl ⟨by omega, by omega, ?_⟩))))
                            unfold uD3; omega
                          have ew : uw (p3) = 4 := by first | (exfalso; omega) | (unfold uw; first | rw [if_pos (by omega)] | rw [if_neg (by omega), if_pos (by omega)] | rw [if_neg (by omega), if_neg (by omega), if_pos (by omega)] | rw [if_neg (by omega), if_neg (by omega), if_neg (by omega)])
                          rw [show a + 1 + 1 + 1 + 1 = a + uw (p3) by omega]
                          exact kN _ (by omega) (by omega) ev
                        · skip
                          refine ez_go (n := 1) (pc' := 258) (L' := [(9, .inl (3)), (5, .inl (a + 1 + 1 + 1 + 1)), (8, .inl (p3)), (10, .inl (f3)), (7, .inl (3)), (6, .inl (c0)), (4, .inl (mn)), (3, .inl (ct)), (2, .inl (n)), (1, .inl (t)), (0, .inr (.inr (some (770))))]) (st' := [.inl (p3)]) rfl ?_
                          refine ez_ldcV (57344) rfl rfl rfl ?_
                          refine ez_icmp rfl rfl ⟨by first | omega | exact (sz_i32 _).1, by first | omega | exact (sz_i32 _).2⟩ ⟨by first | omega | exact (sz_i32 _).1, by first | omega | exact (sz_i32 _).2⟩ (fun (c44 : (57344) ≤ (p3)) => ?_) (fun (c44 : ¬((57344) ≤ (p3))) => ?_)
                          · skip
                            refine ez_less [(5, .inl (a + 1 + 1 + 1 + 1)), (8, .inl (p3)), (4, .inl (mn)), (3, .inl (ct)), (2, .inl (n)), (1, .inl (t)), (0, .inr (.inr (some (770))))] rfl ⟨rfl, rfl, rfl, rfl, rfl, rfl, rfl, trivial⟩ ?_
                            have ev : uB (mb h) n a (p3) := by
                              refine Or.inr ⟨by omega, ?_⟩
                              rw [← ec, ← ed1, ← ed2, ← ed3]
                              refine Or.inr (Or.inr (Or.inr (Or.inr (Or.inl ⟨by omega, by omega, ?_⟩))))
                              unfold uD3; omega
                            have ew : uw (p3) = 4 := by first | (exfalso; omega) | (unfold uw; first | rw [if_pos (by omega)] | rw [if_neg (by omega), if_pos (by omega)] | rw [if_neg (by omega), if_neg (by omega), if_pos (by omega)] | rw [if_neg (by omega), if_neg (by omega), if_neg (by omega)])
                            rw [show a + 1 + 1 + 1 + 1 = a + uw (p3) by omega]
                            exact kN _ (by omega) (by omega) ev
                          · skip
                            refine ez_go (n := 2) (pc' := 266) (L' := [(9, .inl (3)), (5, .inl (a + 1 + 1 + 1 + 1)), (8, .inl (p3)), (10, .inl (f3)), (7, .inl (3)), (6, .inl (c0)), (4, .inl (mn)), (3, .inl (ct)), (2, .inl (n)), (1, .inl (t)), (0, .inr (.inr (some (770))))]) (st' := [.inl (2), .inr (.inr (some (770)))]) rfl ?_
                            refine ez_cv hBg t770 rfl rfl rfl tq_75 rfl rfl rfl (rd_mfail hBg t770 (by omega) (by omega) (fun gf hBf ff9 jf vf0 => ez_K1 ?_))
                            refine ez_retI rfl rfl (kF ?_ gf hBf ff9 jf vf0)
                            refine Or.inr ⟨by omega, ?_⟩
                            rw [← ec, ← ed1, ← ed2, ← ed3]
                            refine Or.inr (Or.inr (Or.inr (Or.inr (Or.inl ⟨by omega, by omega, ?_⟩))))
                            unfold uD3; omega
                  · skip
                    refine ez_go (n := 2) (pc' := 191) (L' := [(10, .inl (f3)), (9, .inl (2)), (5, .inl (a + 1 + 1 + 1)), (8, .inl (p2)), (7, .inl (3)), (6, .inl (c0)), (4, .inl (mn)), (3, .inl (ct)), (2, .inl (n)), (1, .inl (t)), (0, .inr (.inr (some (770))))]) (st' := [.inl (2), .inr (.inr (some (770)))]) rfl ?_
                    refine ez_cv hBg t770 rfl rfl rfl tq_75 rfl rfl rfl (rd_mfail hBg t770 (by omega) (by omega) (fun gf hBf ff9 jf vf0 => ez_K1 ?_))
                    refine ez_retI rfl rfl (kF ?_ gf hBf ff9 jf vf0)
                    refine Or.inr ⟨by omega, ?_⟩
                    rw [← ec, ← ed1, ← ed2, ← ed3]
                    refine Or.inr (Or.inr (Or.inr (Or.inr (Or.inl ⟨by omega, by omega, ?_⟩))))
                    unfold uD3; omega
                · skip
                  refine ez_go (n := 2) (pc' := 191) (L' := [(10, .inl (f2)), (9, .inl (1)), (5, .inl (a + 1 + 1)), (8, .inl (p1)), (7, .inl (3)), (6, .inl (c0)), (4, .inl (mn)), (3, .inl (ct)), (2, .inl (n)), (1, .inl (t)), (0, .inr (.inr (some (770))))]) (st' := [.inl (2), .inr (.inr (some (770)))]) rfl ?_
                  refine ez_cv hBg t770 rfl rfl rfl tq_75 rfl rfl rfl (rd_mfail hBg t770 (by omega) (by omega) (fun gf hBf ff9 jf vf0 => ez_K1 ?_))
                  refine ez_retI rfl rfl (kF ?_ gf hBf ff9 jf vf0)
                  refine Or.inr ⟨by omega, ?_⟩
                  rw [← ec, ← ed1, ← ed2]
                  generalize mb h (a + 3) % 256 = d3 at *
                  refine Or.inr (Or.inr (Or.inr (Or.inr (Or.inl ⟨by omega, by omega, ?_⟩))))
                  unfold uD3; omega
              · skip
                refine ez_go (n := 2) (pc' := 191) (L' := [(10, .inl (f1)), (9, .inl (0)), (5, .inl (a + 1)), (8, .inl (p0)), (7, .inl (3)), (6, .inl (c0)), (4, .inl (mn)), (3, .inl (ct)), (2, .inl (n)), (1, .inl (t)), (0, .inr (.inr (some (770))))]) (st' := [.inl (2), .inr (.inr (some (770)))]) rfl ?_
                refine ez_cv hBg t770 rfl rfl rfl tq_75 rfl rfl rfl (rd_mfail hBg t770 (by omega) (by omega) (fun gf hBf ff9 jf vf0 => ez_K1 ?_))
                refine ez_retI rfl rfl (kF ?_ gf hBf ff9 jf vf0)
                refine Or.inr ⟨by omega, ?_⟩
                rw [← ec, ← ed1]
                generalize mb h (a + 2) % 256 = d2 at *
                generalize mb h (a + 3) % 256 = d3 at *
                refine Or.inr (Or.inr (Or.inr (Or.inr (Or.inl ⟨by omega, by omega, ?_⟩))))
                unfold uD3; omega
        · skip
          refine ez_go (n := 4) (pc' := 133) (L' := [(7, .inl (2)), (6, .inl (c0)), (5, .inl (a)), (4, .inl (mn)), (3, .inl (ct)), (2, .inl (n)), (1, .inl (t)), (0, .inr (.inr (some (770))))]) (st' := [.inl (2)]) rfl ?_
          refine ez_if rfl rfl ⟨by decide, by decide⟩ (fun _ => ?_) (fun (c45 : ¬((0) ≤ (2 : Int))) => absurd c45 (by decide))
          refine ez_go (n := 1) (pc' := 144) (L' := [(7, .inl (2)), (6, .inl (c0)), (5, .inl (a)), (4, .inl (mn)), (3, .inl (ct)), (2, .inl (n)), (1, .inl (t)), (0, .inr (.inr (some (770))))]) (st' := [.inl (2)]) rfl ?_
          refine ez_if rfl rfl ⟨by decide, by decide⟩ (fun _ => ?_) (fun (c46 : ¬((2 : Int) ≠ (0))) => absurd c46 (by decide))
          refine ez_go (n := 11) (pc' := 172) (L' := [(9, .inl (0)), (5, .inl (a + 1)), (8, .inl ((Int32.ofInt (c0) &&& Int32.ofInt ((Int32.ofInt (63) >>> (Int32.ofInt (2) &&& 31)).toInt)).toInt)), (7, .inl (2)), (6, .inl (c0)), (4, .inl (mn)), (3, .inl (ct)), (2, .inl (n)), (1, .inl (t)), (0, .inr (.inr (some (770))))]) (st' := [.inl (2), .inl (0)]) rfl ?_
          obtain ⟨p0, ep0⟩ : ∃ p0, p0 = c0 - 224 := ⟨_, rfl⟩
          rw [show (Int32.ofInt (c0) &&& Int32.ofInt ((Int32.ofInt (63) >>> (Int32.ofInt (2) &&& 31)).toInt)).toInt = p0 by rw [u_l2 _ (by omega) (by omega)]; omega]
          refine ez_icmp rfl rfl ⟨by decide, by decide⟩ ⟨by decide, by decide⟩ (fun (c47 : (2) ≤ (0 : Int)) => absurd c47 (by decide)) (fun _ => ?_)
          refine ez_go (n := 3) (pc' := 179) (L' := [(9, .inl (0)), (5, .inl (a + 1)), (8, .inl (p0)), (7, .inl (2)), (6, .inl (c0)), (4, .inl (mn)), (3, .inl (ct)), (2, .inl (n)), (1, .inl (t)), (0, .inr (.inr (some (770))))]) (st' := [.inl (n), .inl (a + 1), .inr (.inr (some (770)))]) rfl ?_
          refine ez_cv hBg t770 rfl rfl rfl tq_75 rfl rfl rfl (rd_follow hBg t770 (by omega) (by omega) (by omega) (by omega) (fun f1 hf1 => ez_K1 ?_))
          obtain ⟨d1, ed1⟩ : ∃ d1, d1 = mb h (a + 1) % 256 := ⟨_, rfl⟩
          rw [bz, show a + 1 = a + 1 by omega, ← ed1] at hf1
          have db1 : 0 ≤ d1 ∧ d1 ≤ 255 := by omega
          unfold uF at hf1
          refine ez_go (n := 2) (pc' := 186) (L' := [(10, .inl (f1)), (9, .inl (0)), (5, .inl (a + 1)), (8, .inl (p0)), (7, .inl (2)), (6, .inl (c0)), (4, .inl (mn)), (3, .inl (ct)), (2, .inl (n)), (1, .inl (t)), (0, .inr (.inr (some (770))))]) (st' := [.inl (f1)]) rfl ?_
          refine ez_if rfl rfl ⟨by first | omega | exact (sz_i32 _).1, by first | omega | exact (sz_i32 _).2⟩ (fun (c48 : (0) ≤ (f1)) => ?_) (fun (c48 : ¬((0) ≤ (f1))) => ?_)
          · skip
            refine ez_go (n := 11) (pc' := 172) (L' := [(9, .inl (0 + 1)), (5, .inl (a + 1 + 1)), (8, .inl (((64) * (p0)) + (f1))), (10, .inl (f1)), (7, .inl (2)), (6, .inl (c0)), (4, .inl (mn)), (3, .inl (ct)), (2, .inl (n)), (1, .inl (t)), (0, .inr (.inr (some (770))))]) (st' := [.inl (2), .inl (0 + 1)]) rfl ?_
            obtain ⟨p1, ep1⟩ : ∃ p1, p1 = p0 * 64 + f1 := ⟨_, rfl⟩
            rw [show ((64) * (p0)) + (f1) = p1 by omega]
            rw [show ((0 : Int) + 1) = 1 from rfl]
            refine ez_icmp rfl rfl ⟨by decide, by decide⟩ ⟨by decide, by decide⟩ (fun (c49 : (2) ≤ (1 : Int)) => absurd c49 (by decide)) (fun _ => ?_)
            refine ez_go (n := 3) (pc' := 179) (L' := [(9, .inl (1)), (5, .inl (a + 1 + 1)), (8, .inl (p1)), (10, .inl (f1)), (7, .inl (2)), (6, .inl (c0)), (4, .inl (mn)), (3, .inl (ct)), (2, .inl (n)), (1, .inl (t)), (0, .inr (.inr (some (770))))]) (st' := [.inl (n), .inl (a + 1 + 1), .inr (.inr (some (770)))]) rfl ?_
            refine ez_cv hBg t770 rfl rfl rfl tq_75 rfl rfl rfl (rd_follow hBg t770 (by omega) (by omega) (by omega) (by omega) (fun f2 hf2 => ez_K1 ?_))
            obtain ⟨d2, ed2⟩ : ∃ d2, d2 = mb h (a + 2) % 256 := ⟨_, rfl⟩
            rw [bz, show a + 1 + 1 = a + 2 by omega, ← ed2] at hf2
            have db2 : 0 ≤ d2 ∧ d2 ≤ 255 := by omega
            unfold uF at hf2
            refine ez_go (n := 2) (pc' := 186) (L' := [(10, .inl (f2)), (9, .inl (1)), (5, .inl (a + 1 + 1)), (8, .inl (p1)), (7, .inl (2)), (6, .inl (c0)), (4, .inl (mn)), (3, .inl (ct)), (2, .inl (n)), (1, .inl (t)), (0, .inr (.inr (some (770))))]) (st' := [.inl (f2)]) rfl ?_
            refine ez_if rfl rfl ⟨by first | omega | exact (sz_i32 _).1, by first | omega | exact (sz_i32 _).2⟩ (fun (c50 : (0) ≤ (f2)) => ?_) (fun (c50 : ¬((0) ≤ (f2))) => ?_)
            · skip
              refine ez_go (n := 11) (pc' := 172) (L' := [(9, .inl (1 + 1)), (5, .inl (a + 1 + 1 + 1)), (8, .inl (((64) * (p1)) + (f2))), (10, .inl (f2)), (7, .inl (2)), (6, .inl (c0)), (4, .inl (mn)), (3, .inl (ct)), (2, .inl (n)), (1, .inl (t)), (0, .inr (.inr (some (770))))]) (st' := [.inl (2), .inl (1 + 1)]) rfl ?_
              obtain ⟨p2, ep2⟩ : ∃ p2, p2 = p1 * 64 + f2 := ⟨_, rfl⟩
              rw [show ((64) * (p1)) + (f2) = p2 by omega]
              rw [show ((1 : Int) + 1) = 2 from rfl]
              refine ez_icmp rfl rfl ⟨by decide, by decide⟩ ⟨by decide, by decide⟩ (fun _ => ?_) (fun (c51 : ¬((2 : Int) ≤ (2))) => absurd c51 (by decide))
              refine ez_go (n := 2) (pc' := 217) (L' := [(9, .inl (2)), (5, .inl (a + 1 + 1 + 1)), (8, .inl (p2)), (10, .inl (f2)), (7, .inl (2)), (6, .inl (c0)), (4, .inl (mn)), (3, .inl (ct)), (2, .inl (n)), (1, .inl (t)), (0, .inr (.inr (some (770))))]) (st' := [.inl (2), .inl (2)]) rfl ?_
              refine ez_icmp rfl rfl ⟨by decide, by decide⟩ ⟨by decide, by decide⟩ (fun (c52 : (2 : Int) ≠ (2)) => absurd c52 (by decide)) (fun _ => ?_)
              refine ez_go (n := 2) (pc' := 225) (L' := [(9, .inl (2)), (5, .inl (a + 1 + 1 + 1)), (8, .inl (p2)), (10, .inl (f2)), (7, .inl (2)), (6, .inl (c0)), (4, .inl (mn)), (3, .inl (ct)), (2, .inl (n)), (1, .inl (t)), (0, .inr (.inr (some (770))))]) (st' := [.inl (2048), .inl (p2)]) rfl ?_
              refine ez_icmp rfl rfl ⟨by first | omega | exact (sz_i32 _).1, by first | omega | exact (sz_i32 _).2⟩ ⟨by first | omega | exact (sz_i32 _).1, by first | omega | exact (sz_i32 _).2⟩ (fun (c53 : (p2) < (2048)) => ?_) (fun (c53 : ¬((p2) < (2048))) => ?_)
              · skip
                refine ez_go (n := 2) (pc' := 266) (L' := [(9, .inl (2)), (5, .inl (a + 1 + 1 + 1)), (8, .inl (p2)), (10, .inl (f2)), (7, .inl (2)), (6, .inl (c0)), (4, .inl (mn)), (3, .inl (ct)), (2, .inl (n)), (1, .inl (t)), (0, .inr (.inr (some (770))))]) (st' := [.inl (2), .inr (.inr (some (770)))]) rfl ?_
                refine ez_cv hBg t770 rfl rfl rfl tq_75 rfl rfl rfl (rd_mfail hBg t770 (by omega) (by omega) (fun gf hBf ff9 jf vf0 => ez_K1 ?_))
                refine ez_retI rfl rfl (kF ?_ gf hBf ff9 jf vf0)
                refine Or.inr ⟨by omega, ?_⟩
                rw [← ec, ← ed1, ← ed2]
                generalize mb h (a + 3) % 256 = d3 at *
                refine Or.inr (Or.inr (Or.inr (Or.inl ⟨by omega, by omega, ?_⟩)))
                unfold uD2; omega
              · skip
                refine ez_go (n := 2) (pc' := 231) (L' := [(9, .inl (2)), (5, .inl (a + 1 + 1 + 1)), (8, .inl (p2)), (10, .inl (f2)), (7, .inl (2)), (6, .inl (c0)), (4, .inl (mn)), (3, .inl (ct)), (2, .inl (n)), (1, .inl (t)), (0, .inr (.inr (some (770))))]) (st' := [.inl (3), .inl (2)]) rfl ?_
                refine ez_icmp rfl rfl ⟨by decide, by decide⟩ ⟨by decide, by decide⟩ (fun _ => ?_) (fun (c54 : ¬((2 : Int) ≠ (3))) => absurd c54 (by decide))
                refine ez_go (n := 1) (pc' := 250) (L' := [(9, .inl (2)), (5, .inl (a + 1 + 1 + 1)), (8, .inl (p2)), (10, .inl (f2)), (7, .inl (2)), (6, .inl (c0)), (4, .inl (mn)), (3, .inl (ct)), (2, .inl (n)), (1, .inl (t)), (0, .inr (.inr (some (770))))]) (st' := [.inl (p2)]) rfl ?_
                refine ez_ldcV (55296) rfl rfl rfl ?_
                refine ez_icmp rfl rfl ⟨by first | omega | exact (sz_i32 _).1, by first | omega | exact (sz_i32 _).2⟩ ⟨by first | omega | exact (sz_i32 _).1, by first | omega | exact (sz_i32 _).2⟩ (fun (c55 : (p2) < (55296)) => ?_) (fun (c55 : ¬((p2) < (55296))) => ?_)
                · skip
                  refine ez_less [(5, .inl (a + 1 + 1 + 1)), (8, .inl (p2)), (4, .inl (mn)), (3, .inl (ct)), (2, .inl (n)), (1, .inl (t)), (0, .inr (.inr (some (770))))] rfl ⟨rfl, rfl, rfl, rfl, rfl, rfl, rfl, trivial⟩ ?_
                  have ev : uB (mb h) n a (p2) := by
                    refine Or.inr ⟨by omega, ?_⟩
                    rw [← ec, ← ed1, ← ed2]
                    generalize mb h (a + 3) % 256 = d3 at *
                    refine Or.inr (Or.inr (Or.inr (Or.inl ⟨by omega, by omega, ?_⟩)))
                    unfold uD2; omega
                  have ew : uw (p2) = 3 := by first | (exfalso; omega) | (unfold uw; first | rw [if_pos (by omega)] | rw [if_neg (by omega), if_pos (by omega)] | rw [if_neg (by omega), if_neg (by omega), if_pos (by omega)] | rw [if_neg (by omega), if_neg (by omega), if_neg (by omega)])
                  rw [show a + 1 + 1 + 1 = a + uw (p2) by omega]
                  exact kN _ (by omega) (by omega) ev
                · skip
                  refine ez_go (n := 1) (pc' := 258) (L' := [(9, .inl (2)), (5, .inl (a + 1 + 1 + 1)), (8, .inl (p2)), (10, .inl (f2)), (7, .inl (2)), (6, .inl (c0)), (4, .inl (mn)), (3, .inl (ct)), (2, .inl (n)), (1, .inl (t)), (0, .inr (.inr (some (770))))]) (st' := [.inl (p2)]) rfl ?_
                  refine ez_ldcV (57344) rfl rfl rfl ?_
                  refine ez_icmp rfl rfl ⟨by first | omega | exact (sz_i32 _).1, by first | omega | exact (sz_i32 _).2⟩ ⟨by first | omega | exact (sz_i32 _).1, by first | omega | exact (sz_i32 _).2⟩ (fun (c56 : (57344) ≤ (p2)) => ?_) (fun (c56 : ¬((57344) ≤ (p2))) => ?_)
                  · skip
                    refine ez_less [(5, .inl (a + 1 + 1 + 1)), (8, .inl (p2)), (4, .inl (mn)), (3, .inl (ct)), (2, .inl (n)), (1, .inl (t)), (0, .inr (.inr (some (770))))] rfl ⟨rfl, rfl, rfl, rfl, rfl, rfl, rfl, trivial⟩ ?_
                    have ev : uB (mb h) n a (p2) := by
                      refine Or.inr ⟨by omega, ?_⟩
                      rw [← ec, ← ed1, ← ed2]
                      generalize mb h (a + 3) % 256 = d3 at *
                      refine Or.inr (Or.inr (Or.inr (Or.inl ⟨by omega, by omega, ?_⟩)))
                      unfold uD2; omega
                    have ew : uw (p2) = 3 := by first | (exfalso; omega) | (unfold uw; first | rw [if_pos (by omega)] | rw [if_neg (by omega), if_pos (by omega)] | rw [if_neg (by omega), if_neg (by omega), if_pos (by omega)] | rw [if_neg (by omega), if_neg (by omega), if_neg (by omega)])
                    rw [show a + 1 + 1 + 1 = a + uw (p2) by omega]
                    exact kN _ (by omega) (by omega) ev
                  · skip
                    refine ez_go (n := 2) (pc' := 266) (L' := [(9, .inl (2)), (5, .inl (a + 1 + 1 + 1)), (8, .inl (p2)), (10, .inl (f2)), (7, .inl (2)), (6, .inl (c0)), (4, .inl (mn)), (3, .inl (ct)), (2, .inl (n)), (1, .inl (t)), (0, .inr (.inr (some (770))))]) (st' := [.inl (2), .inr (.inr (some (770)))]) rfl ?_
                    refine ez_cv hBg t770 rfl rfl rfl tq_75 rfl rfl rfl (rd_mfail hBg t770 (by omega) (by omega) (fun gf hBf ff9 jf vf0 => ez_K1 ?_))
                    refine ez_retI rfl rfl (kF ?_ gf hBf ff9 jf vf0)
                    refine Or.inr ⟨by omega, ?_⟩
                    rw [← ec, ← ed1, ← ed2]
                    generalize mb h (a + 3) % 256 = d3 at *
                    refine Or.inr (Or.inr (Or.inr (Or.inl ⟨by omega, by omega, ?_⟩)))
                    unfold uD2; omega
            · skip
              refine ez_go (n := 2) (pc' := 191) (L' := [(10, .inl (f2)), (9, .inl (1)), (5, .inl (a + 1 + 1)), (8, .inl (p1)), (7, .inl (2)), (6, .inl (c0)), (4, .inl (mn)), (3, .inl (ct)), (2, .inl (n)), (1, .inl (t)), (0, .inr (.inr (some (770))))]) (st' := [.inl (2), .inr (.inr (some (770)))]) rfl ?_
              refine ez_cv hBg t770 rfl rfl rfl tq_75 rfl rfl rfl (rd_mfail hBg t770 (by omega) (by omega) (fun gf hBf ff9 jf vf0 => ez_K1 ?_))
              refine ez_retI rfl rfl (kF ?_ gf hBf ff9 jf vf0)
              refine Or.inr ⟨by omega, ?_⟩
              rw [← ec, ← ed1, ← ed2]
              generalize mb h (a + 3) % 256 = d3 at *
              refine Or.inr (Or.inr (Or.inr (Or.inl ⟨by omega, by omega, ?_⟩)))
              unfold uD2; omega
          · skip
            refine ez_go (n := 2) (pc' := 191) (L' := [(10, .inl (f1)), (9, .inl (0)), (5, .inl (a + 1)), (8, .inl (p0)), (7, .inl (2)), (6, .inl (c0)), (4, .inl (mn)), (3, .inl (ct)), (2, .inl (n)), (1, .inl (t)), (0, .inr (.inr (some (770))))]) (st' := [.inl (2), .inr (.inr (some (770)))]) rfl ?_
            refine ez_cv hBg t770 rfl rfl rfl tq_75 rfl rfl rfl (rd_mfail hBg t770 (by omega) (by omega) (fun gf hBf ff9 jf vf0 => ez_K1 ?_))
            refine ez_retI rfl rfl (kF ?_ gf hBf ff9 jf vf0)
            refine Or.inr ⟨by omega, ?_⟩
            rw [← ec, ← ed1]
            generalize mb h (a + 2) % 256 = d2 at *
            generalize mb h (a + 3) % 256 = d3 at *
            refine Or.inr (Or.inr (Or.inr (Or.inl ⟨by omega, by omega, ?_⟩)))
            unfold uD2; omega
    · skip
      refine ez_go (n := 2) (pc' := 81) (L' := [(6, .inl (c0)), (5, .inl (a)), (4, .inl (mn)), (3, .inl (ct)), (2, .inl (n)), (1, .inl (t)), (0, .inr (.inr (some (770))))]) (st' := [.inl (224), .inl (c0)]) rfl ?_
      refine ez_icmp rfl rfl ⟨by first | omega | exact (sz_i32 _).1, by first | omega | exact (sz_i32 _).2⟩ ⟨by first | omega | exact (sz_i32 _).1, by first | omega | exact (sz_i32 _).2⟩ (fun (c57 : (224) ≤ (c0)) => ?_) (fun (c57 : ¬((224) ≤ (c0))) => ?_)
      · skip
        refine ez_go (n := 2) (pc' := 93) (L' := [(6, .inl (c0)), (5, .inl (a)), (4, .inl (mn)), (3, .inl (ct)), (2, .inl (n)), (1, .inl (t)), (0, .inr (.inr (some (770))))]) (st' := [.inl (224), .inl (c0)]) rfl ?_
        refine ez_icmp rfl rfl ⟨by first | omega | exact (sz_i32 _).1, by first | omega | exact (sz_i32 _).2⟩ ⟨by first | omega | exact (sz_i32 _).1, by first | omega | exact (sz_i32 _).2⟩ (fun (c58 : (c0) < (224)) => ?_) (fun (c58 : ¬((c0) < (224))) => ?_)
        · skip
          refine ez_go (n := 2) (pc' := 113) (L' := [(6, .inl (c0)), (5, .inl (a)), (4, .inl (mn)), (3, .inl (ct)), (2, .inl (n)), (1, .inl (t)), (0, .inr (.inr (some (770))))]) (st' := [.inl (240), .inl (c0)]) rfl ?_
          refine ez_icmp rfl rfl ⟨by first | omega | exact (sz_i32 _).1, by first | omega | exact (sz_i32 _).2⟩ ⟨by first | omega | exact (sz_i32 _).1, by first | omega | exact (sz_i32 _).2⟩ (fun (c59 : (c0) < (240)) => ?_) (fun (c59 : ¬((c0) < (240))) => ?_)
          · skip
            refine ez_go (n := 3) (pc' := 133) (L' := [(7, .inl (-1)), (6, .inl (c0)), (5, .inl (a)), (4, .inl (mn)), (3, .inl (ct)), (2, .inl (n)), (1, .inl (t)), (0, .inr (.inr (some (770))))]) (st' := [.inl (-1)]) rfl ?_
            refine ez_if rfl rfl ⟨by decide, by decide⟩ (fun (c60 : (0) ≤ (-1 : Int)) => absurd c60 (by decide)) (fun _ => ?_)
            refine ez_go (n := 2) (pc' := 138) (L' := [(7, .inl (-1)), (6, .inl (c0)), (5, .inl (a)), (4, .inl (mn)), (3, .inl (ct)), (2, .inl (n)), (1, .inl (t)), (0, .inr (.inr (some (770))))]) (st' := [.inl (2), .inr (.inr (some (770)))]) rfl ?_
            refine ez_cv hBg t770 rfl rfl rfl tq_75 rfl rfl rfl (rd_mfail hBg t770 (by omega) (by omega) (fun gf hBf ff9 jf vf0 => ez_K1 ?_))
            refine ez_retI rfl rfl (kF ?_ gf hBf ff9 jf vf0)
            refine Or.inr ⟨by omega, ?_⟩
            rw [← ec]
            generalize mb h (a + 1) % 256 = d1 at *
            generalize mb h (a + 2) % 256 = d2 at *
            generalize mb h (a + 3) % 256 = d3 at *
            by_cases q9 : c0 < 194
            · exact Or.inr (Or.inl ⟨by omega, q9, rfl⟩)
            · exact Or.inr (Or.inr (Or.inr (Or.inr (Or.inr ⟨by omega, rfl⟩))))
          · skip
            refine ez_go (n := 2) (pc' := 121) (L' := [(6, .inl (c0)), (5, .inl (a)), (4, .inl (mn)), (3, .inl (ct)), (2, .inl (n)), (1, .inl (t)), (0, .inr (.inr (some (770))))]) (st' := [.inl (245), .inl (c0)]) rfl ?_
            refine ez_icmp rfl rfl ⟨by first | omega | exact (sz_i32 _).1, by first | omega | exact (sz_i32 _).2⟩ ⟨by first | omega | exact (sz_i32 _).1, by first | omega | exact (sz_i32 _).2⟩ (fun (c61 : (245) ≤ (c0)) => ?_) (fun (c61 : ¬((245) ≤ (c0))) => ?_)
            · skip
              refine ez_go (n := 3) (pc' := 133) (L' := [(7, .inl (-1)), (6, .inl (c0)), (5, .inl (a)), (4, .inl (mn)), (3, .inl (ct)), (2, .inl (n)), (1, .inl (t)), (0, .inr (.inr (some (770))))]) (st' := [.inl (-1)]) rfl ?_
              refine ez_if rfl rfl ⟨by decide, by decide⟩ (fun (c62 : (0) ≤ (-1 : Int)) => absurd c62 (by decide)) (fun _ => ?_)
              refine ez_go (n := 2) (pc' := 138) (L' := [(7, .inl (-1)), (6, .inl (c0)), (5, .inl (a)), (4, .inl (mn)), (3, .inl (ct)), (2, .inl (n)), (1, .inl (t)), (0, .inr (.inr (some (770))))]) (st' := [.inl (2), .inr (.inr (some (770)))]) rfl ?_
              refine ez_cv hBg t770 rfl rfl rfl tq_75 rfl rfl rfl (rd_mfail hBg t770 (by omega) (by omega) (fun gf hBf ff9 jf vf0 => ez_K1 ?_))
              refine ez_retI rfl rfl (kF ?_ gf hBf ff9 jf vf0)
              refine Or.inr ⟨by omega, ?_⟩
              rw [← ec]
              generalize mb h (a + 1) % 256 = d1 at *
              generalize mb h (a + 2) % 256 = d2 at *
              generalize mb h (a + 3) % 256 = d3 at *
              by_cases q9 : c0 < 194
              · exact Or.inr (Or.inl ⟨by omega, q9, rfl⟩)
              · exact Or.inr (Or.inr (Or.inr (Or.inr (Or.inr ⟨by omega, rfl⟩))))
            · skip
              refine ez_go (n := 4) (pc' := 133) (L' := [(7, .inl (3)), (6, .inl (c0)), (5, .inl (a)), (4, .inl (mn)), (3, .inl (ct)), (2, .inl (n)), (1, .inl (t)), (0, .inr (.inr (some (770))))]) (st' := [.inl (3)]) rfl ?_
              refine ez_if rfl rfl ⟨by decide, by decide⟩ (fun _ => ?_) (fun (c63 : ¬((0) ≤ (3 : Int))) => absurd c63 (by decide))
              refine ez_go (n := 1) (pc' := 144) (L' := [(7, .inl (3)), (6, .inl (c0)), (5, .inl (a)), (4, .inl (mn)), (3, .inl (ct)), (2, .inl (n)), (1, .inl (t)), (0, .inr (.inr (some (770))))]) (st' := [.inl (3)]) rfl ?_
              refine ez_if rfl rfl ⟨by decide, by decide⟩ (fun _ => ?_) (fun (c64 : ¬((3 : Int) ≠ (0))) => absurd c64 (by decide))
              refine ez_go (n := 11) (pc' := 172) (L' := [(9, .inl (0)), (5, .inl (a + 1)), (8, .inl ((Int32.ofInt (c0) &&& Int32.ofInt ((Int32.ofInt (63) >>> (Int32.ofInt (3) &&& 31)).toInt)).toInt)), (7, .inl (3)), (6, .inl (c0)), (4, .inl (mn)), (3, .inl (ct)), (2, .inl (n)), (1, .inl (t)), (0, .inr (.inr (some (770))))]) (st' := [.inl (3), .inl (0)]) rfl ?_
              obtain ⟨p0, ep0⟩ : ∃ p0, p0 = c0 - 240 := ⟨_, rfl⟩
              rw [show (Int32.ofInt (c0) &&& Int32.ofInt ((Int32.ofInt (63) >>> (Int32.ofInt (3) &&& 31)).toInt)).toInt = p0 by rw [u_l3 _ (by omega) (by omega)]; omega]
              refine ez_icmp rfl rfl ⟨by decide, by decide⟩ ⟨by decide, by decide⟩ (fun (c65 : (3) ≤ (0 : Int)) => absurd c65 (by decide)) (fun _ => ?_)
              refine ez_go (n := 3) (pc' := 179) (L' := [(9, .inl (0)), (5, .inl (a + 1)), (8, .inl (p0)), (7, .inl (3)), (6, .inl (c0)), (4, .inl (mn)), (3, .inl (ct)), (2, .inl (n)), (1, .inl (t)), (0, .inr (.inr (some (770))))]) (st' := [.inl (n), .inl (a + 1), .inr (.inr (some (770)))]) rfl ?_
              refine ez_cv hBg t770 rfl rfl rfl tq_75 rfl rfl rfl (rd_follow hBg t770 (by omega) (by omega) (by omega) (by omega) (fun f1 hf1 => ez_K1 ?_))
              obtain ⟨d1, ed1⟩ : ∃ d1, d1 = mb h (a + 1) % 256 := ⟨_, rfl⟩
              rw [bz, show a + 1 = a + 1 by omega, ← ed1] at hf1
              have db1 : 0 ≤ d1 ∧ d1 ≤ 255 := by omega
              unfold uF at hf1
              refine ez_go (n := 2) (pc' := 186) (L' := [(10, .inl (f1)), (9, .inl (0)), (5, .inl (a + 1)), (8, .inl (p0)), (7, .inl (3)), (6, .inl (c0)), (4, .inl (mn)), (3, .inl (ct)), (2, .inl (n)), (1, .inl (t)), (0, .inr (.inr (some (770))))]) (st' := [.inl (f1)]) rfl ?_
              refine ez_if rfl rfl ⟨by first | omega | exact (sz_i32 _).1, by first | omega | exact (sz_i32 _).2⟩ (fun (c66 : (0) ≤ (f1)) => ?_) (fun (c66 : ¬((0) ≤ (f1))) => ?_)
              · skip
                refine ez_go (n := 11) (pc' := 172) (L' := [(9, .inl (0 + 1)), (5, .inl (a + 1 + 1)), (8, .inl (((64) * (p0)) + (f1))), (10, .inl (f1)), (7, .inl (3)), (6, .inl (c0)), (4, .inl (mn)), (3, .inl (ct)), (2, .inl (n)), (1, .inl (t)), (0, .inr (.inr (some (770))))]) (st' := [.inl (3), .inl (0 + 1)]) rfl ?_
                obtain ⟨p1, ep1⟩ : ∃ p1, p1 = p0 * 64 + f1 := ⟨_, rfl⟩
                rw [show ((64) * (p0)) + (f1) = p1 by omega]
                rw [show ((0 : Int) + 1) = 1 from rfl]
                refine ez_icmp rfl rfl ⟨by decide, by decide⟩ ⟨by decide, by decide⟩ (fun (c67 : (3) ≤ (1 : Int)) => absurd c67 (by decide)) (fun _ => ?_)
                refine ez_go (n := 3) (pc' := 179) (L' := [(9, .inl (1)), (5, .inl (a + 1 + 1)), (8, .inl (p1)), (10, .inl (f1)), (7, .inl (3)), (6, .inl (c0)), (4, .inl (mn)), (3, .inl (ct)), (2, .inl (n)), (1, .inl (t)), (0, .inr (.inr (some (770))))]) (st' := [.inl (n), .inl (a + 1 + 1), .inr (.inr (some (770)))]) rfl ?_
                refine ez_cv hBg t770 rfl rfl rfl tq_75 rfl rfl rfl (rd_follow hBg t770 (by omega) (by omega) (by omega) (by omega) (fun f2 hf2 => ez_K1 ?_))
                obtain ⟨d2, ed2⟩ : ∃ d2, d2 = mb h (a + 2) % 256 := ⟨_, rfl⟩
                rw [bz, show a + 1 + 1 = a + 2 by omega, ← ed2] at hf2
                have db2 : 0 ≤ d2 ∧ d2 ≤ 255 := by omega
                unfold uF at hf2
                refine ez_go (n := 2) (pc' := 186) (L' := [(10, .inl (f2)), (9, .inl (1)), (5, .inl (a + 1 + 1)), (8, .inl (p1)), (7, .inl (3)), (6, .inl (c0)), (4, .inl (mn)), (3, .inl (ct)), (2, .inl (n)), (1, .inl (t)), (0, .inr (.inr (some (770))))]) (st' := [.inl (f2)]) rfl ?_
                refine ez_if rfl rfl ⟨by first | omega | exact (sz_i32 _).1, by first | omega | exact (sz_i32 _).2⟩ (fun (c68 : (0) ≤ (f2)) => ?_) (fun (c68 : ¬((0) ≤ (f2))) => ?_)
                · skip
                  refine ez_go (n := 11) (pc' := 172) (L' := [(9, .inl (1 + 1)), (5, .inl (a + 1 + 1 + 1)), (8, .inl (((64) * (p1)) + (f2))), (10, .inl (f2)), (7, .inl (3)), (6, .inl (c0)), (4, .inl (mn)), (3, .inl (ct)), (2, .inl (n)), (1, .inl (t)), (0, .inr (.inr (some (770))))]) (st' := [.inl (3), .inl (1 + 1)]) rfl ?_
                  obtain ⟨p2, ep2⟩ : ∃ p2, p2 = p1 * 64 + f2 := ⟨_, rfl⟩
                  rw [show ((64) * (p1)) + (f2) = p2 by omega]
                  rw [show ((1 : Int) + 1) = 2 from rfl]
                  refine ez_icmp rfl rfl ⟨by decide, by decide⟩ ⟨by decide, by decide⟩ (fun (c69 : (3) ≤ (2 : Int)) => absurd c69 (by decide)) (fun _ => ?_)
                  refine ez_go (n := 3) (pc' := 179) (L' := [(9, .inl (2)), (5, .inl (a + 1 + 1 + 1)), (8, .inl (p2)), (10, .inl (f2)), (7, .inl (3)), (6, .inl (c0)), (4, .inl (mn)), (3, .inl (ct)), (2, .inl (n)), (1, .inl (t)), (0, .inr (.inr (some (770))))]) (st' := [.inl (n), .inl (a + 1 + 1 + 1), .inr (.inr (some (770)))]) rfl ?_
                  refine ez_cv hBg t770 rfl rfl rfl tq_75 rfl rfl rfl (rd_follow hBg t770 (by omega) (by omega) (by omega) (by omega) (fun f3 hf3 => ez_K1 ?_))
                  obtain ⟨d3, ed3⟩ : ∃ d3, d3 = mb h (a + 3) % 256 := ⟨_, rfl⟩
                  rw [bz, show a + 1 + 1 + 1 = a + 3 by omega, ← ed3] at hf3
                  have db3 : 0 ≤ d3 ∧ d3 ≤ 255 := by omega
                  unfold uF at hf3
                  refine ez_go (n := 2) (pc' := 186) (L' := [(10, .inl (f3)), (9, .inl (2)), (5, .inl (a + 1 + 1 + 1)), (8, .inl (p2)), (7, .inl (3)), (6, .inl (c0)), (4, .inl (mn)), (3, .inl (ct)), (2, .inl (n)), (1, .inl (t)), (0, .inr (.inr (some (770))))]) (st' := [.inl (f3)]) rfl ?_
                  refine ez_if rfl rfl ⟨by first | omega | exact (sz_i32 _).1, by first | omega | exact (sz_i32 _).2⟩ (fun (c70 : (0) ≤ (f3)) => ?_) (fun (c70 : ¬((0) ≤ (f3))) => ?_)
                  · skip
                    refine ez_go (n := 11) (pc' := 172) (L' := [(9, .inl (2 + 1)), (5, .inl (a + 1 + 1 + 1 + 1)), (8, .inl (((64) * (p2)) + (f3))), (10, .inl (f3)), (7, .inl (3)), (6, .inl (c0)), (4, .inl (mn)), (3, .inl (ct)), (2, .inl (n)), (1, .inl (t)), (0, .inr (.inr (some (770))))]) (st' := [.inl (3), .inl (2 + 1)]) rfl ?_
                    obtain ⟨p3, ep3⟩ : ∃ p3, p3 = p2 * 64 + f3 := ⟨_, rfl⟩
                    rw [show ((64) * (p2)) + (f3) = p3 by omega]
                    rw [show ((2 : Int) + 1) = 3 from rfl]
                    refine ez_icmp rfl rfl ⟨by decide, by decide⟩ ⟨by decide, by decide⟩ (fun _ => ?_) (fun (c71 : ¬((3 : Int) ≤ (3))) => absurd c71 (by decide))
                    refine ez_go (n := 2) (pc' := 217) (L' := [(9, .inl (3)), (5, .inl (a + 1 + 1 + 1 + 1)), (8, .inl (p3)), (10, .inl (f3)), (7, .inl (3)), (6, .inl (c0)), (4, .inl (mn)), (3, .inl (ct)), (2, .inl (n)), (1, .inl (t)), (0, .inr (.inr (some (770))))]) (st' := [.inl (2), .inl (3)]) rfl ?_
                    refine ez_icmp rfl rfl ⟨by decide, by decide⟩ ⟨by decide, by decide⟩ (fun _ => ?_) (fun (c72 : ¬((3 : Int) ≠ (2))) => absurd c72 (by decide))
                    refine ez_go (n := 2) (pc' := 231) (L' := [(9, .inl (3)), (5, .inl (a + 1 + 1 + 1 + 1)), (8, .inl (p3)), (10, .inl (f3)), (7, .inl (3)), (6, .inl (c0)), (4, .inl (mn)), (3, .inl (ct)), (2, .inl (n)), (1, .inl (t)), (0, .inr (.inr (some (770))))]) (st' := [.inl (3), .inl (3)]) rfl ?_
                    refine ez_icmp rfl rfl ⟨by decide, by decide⟩ ⟨by decide, by decide⟩ (fun (c73 : (3 : Int) ≠ (3)) => absurd c73 (by decide)) (fun _ => ?_)
                    refine ez_go (n := 1) (pc' := 236) (L' := [(9, .inl (3)), (5, .inl (a + 1 + 1 + 1 + 1)), (8, .inl (p3)), (10, .inl (f3)), (7, .inl (3)), (6, .inl (c0)), (4, .inl (mn)), (3, .inl (ct)), (2, .inl (n)), (1, .inl (t)), (0, .inr (.inr (some (770))))]) (st' := [.inl (p3)]) rfl ?_
                    refine ez_ldc (65536) rfl rfl rfl ?_
                    refine ez_icmp rfl rfl ⟨by first | omega | exact (sz_i32 _).1, by first | omega | exact (sz_i32 _).2⟩ ⟨by first | omega | exact (sz_i32 _).1, by first | omega | exact (sz_i32 _).2⟩ (fun (c74 : (p3) < (65536)) => ?_) (fun (c74 : ¬((p3) < (65536))) => ?_)
                    · skip
                      refine ez_go (n := 2) (pc' := 266) (L' := [(9, .inl (3)), (5, .inl (a + 1 + 1 + 1 + 1)), (8, .inl (p3)), (10, .inl (f3)), (7, .inl (3)), (6, .inl (c0)), (4, .inl (mn)), (3, .inl (ct)), (2, .inl (n)), (1, .inl (t)), (0, .inr (.inr (some (770))))]) (st' := [.inl (2), .inr (.inr (some (770)))]) rfl ?_
                      refine ez_cv hBg t770 rfl rfl rfl tq_75 rfl rfl rfl (rd_mfail hBg t770 (by omega) (by omega) (fun gf hBf ff9 jf vf0 => ez_K1 ?_))
                      refine ez_retI rfl rfl (kF ?_ gf hBf ff9 jf vf0)
                      refine Or.inr ⟨by omega, ?_⟩
                      rw [← ec, ← ed1, ← ed2, ← ed3]
                      refine Or.inr (Or.inr (Or.inr (Or.inr (Or.inl ⟨by omega, by omega, ?_⟩))))
                      unfold uD3; omega
                    · skip
                      refine ez_go (n := 1) (pc' := 243) (L' := [(9, .inl (3)), (5, .inl (a + 1 + 1 + 1 + 1)), (8, .inl (p3)), (10, .inl (f3)), (7, .inl (3)), (6, .inl (c0)), (4, .inl (mn)), (3, .inl (ct)), (2, .inl (n)), (1, .inl (t)), (0, .inr (.inr (some (770))))]) (st' := [.inl (p3)]) rfl ?_
                      refine ez_ldc (1114111) rfl rfl rfl ?_
                      refine ez_icmp rfl rfl ⟨by first | omega | exact (sz_i32 _).1, by first | omega | exact (sz_i32 _).2⟩ ⟨by first | omega | exact (sz_i32 _).1, by first | omega | exact (sz_i32 _).2⟩ (fun (c75 : (1114111) < (p3)) => ?_) (fun (c75 : ¬((1114111) < (p3))) => ?_)
                      · skip
                        refine ez_go (n := 2) (pc' := 266) (L' := [(9, .inl (3)), (5, .inl (a + 1 + 1 + 1 + 1)), (8, .inl (p3)), (10, .inl (f3)), (7, .inl (3)), (6, .inl (c0)), (4, .inl (mn)), (3, .inl (ct)), (2, .inl (n)), (1, .inl (t)), (0, .inr (.inr (some (770))))]) (st' := [.inl (2), .inr (.inr (some (770)))]) rfl ?_
                        refine ez_cv hBg t770 rfl rfl rfl tq_75 rfl rfl rfl (rd_mfail hBg t770 (by omega) (by omega) (fun gf hBf ff9 jf vf0 => ez_K1 ?_))
                        refine ez_retI rfl rfl (kF ?_ gf hBf ff9 jf vf0)
                        refine Or.inr ⟨by omega, ?_⟩
                        rw [← ec, ← ed1, ← ed2, ← ed3]
                        refine Or.inr (Or.inr (Or.inr (Or.inr (Or.inl ⟨by omega, by omega, ?_⟩))))
                        unfold uD3; omega
                      · skip
                        refine ez_go (n := 1) (pc' := 250) (L' := [(9, .inl (3)), (5, .inl (a + 1 + 1 + 1 + 1)), (8, .inl (p3)), (10, .inl (f3)), (7, .inl (3)), (6, .inl (c0)), (4, .inl (mn)), (3, .inl (ct)), (2, .inl (n)), (1, .inl (t)), (0, .inr (.inr (some (770))))]) (st' := [.inl (p3)]) rfl ?_
                        refine ez_ldcV (55296) rfl rfl rfl ?_
                        refine ez_icmp rfl rfl ⟨by first | omega | exact (sz_i32 _).1, by first | omega | exact (sz_i32 _).2⟩ ⟨by first | omega | exact (sz_i32 _).1, by first | omega | exact (sz_i32 _).2⟩ (fun (c76 : (p3) < (55296)) => ?_) (fun (c76 : ¬((p3) < (55296))) => ?_)
                        · skip
                          refine ez_less [(5, .inl (a + 1 + 1 + 1 + 1)), (8, .inl (p3)), (4, .inl (mn)), (3, .inl (ct)), (2, .inl (n)), (1, .inl (t)), (0, .inr (.inr (some (770))))] rfl ⟨rfl, rfl, rfl, rfl, rfl, rfl, rfl, trivial⟩ ?_
                          have ev : uB (mb h) n a (p3) := by
                            refine Or.inr ⟨by omega, ?_⟩
                            rw [← ec, ← ed1, ← ed2, ← ed3]
                            refine Or.inr (Or.inr (Or.inr (Or.inr (Or.inl ⟨by omega, by omega, ?_⟩))))
                            unfold uD3; omega
                          have ew : uw (p3) = 4 := by first | (exfalso; omega) | (unfold uw; first | rw [if_pos (by omega)] | rw [if_neg (by omega), if_pos (by omega)] | rw [if_neg (by omega), if_neg (by omega), if_pos (by omega)] | rw [if_neg (by omega), if_neg (by omega), if_neg (by omega)])
                          rw [show a + 1 + 1 + 1 + 1 = a + uw (p3) by omega]
                          exact kN _ (by omega) (by omega) ev
                        · skip
                          refine ez_go (n := 1) (pc' := 258) (L' := [(9, .inl (3)), (5, .inl (a + 1 + 1 + 1 + 1)), (8, .inl (p3)), (10, .inl (f3)), (7, .inl (3)), (6, .inl (c0)), (4, .inl (mn)), (3, .inl (ct)), (2, .inl (n)), (1, .inl (t)), (0, .inr (.inr (some (770))))]) (st' := [.inl (p3)]) rfl ?_
                          refine ez_ldcV (57344) rfl rfl rfl ?_
                          refine ez_icmp rfl rfl ⟨by first | omega | exact (sz_i32 _).1, by first | omega | exact (sz_i32 _).2⟩ ⟨by first | omega | exact (sz_i32 _).1, by first | omega | exact (sz_i32 _).2⟩ (fun (c77 : (57344) ≤ (p3)) => ?_) (fun (c77 : ¬((57344) ≤ (p3))) => ?_)
                          · skip
                            refine ez_less [(5, .inl (a + 1 + 1 + 1 + 1)), (8, .inl (p3)), (4, .inl (mn)), (3, .inl (ct)), (2, .inl (n)), (1, .inl (t)), (0, .inr (.inr (some (770))))] rfl ⟨rfl, rfl, rfl, rfl, rfl, rfl, rfl, trivial⟩ ?_
                            have ev : uB (mb h) n a (p3) := by
                              refine Or.inr ⟨by omega, ?_⟩
                              rw [← ec, ← ed1, ← ed2, ← ed3]
                              refine Or.inr (Or.inr (Or.inr (Or.inr (Or.inl ⟨by omega, by omega, ?_⟩))))
                              unfold uD3; omega
                            have ew : uw (p3) = 4 := by first | (exfalso; omega) | (unfold uw; first | rw [if_pos (by omega)] | rw [if_neg (by omega), if_pos (by omega)] | rw [if_neg (by omega), if_neg (by omega), if_pos (by omega)] | rw [if_neg (by omega), if_neg (by omega), if_neg (by omega)])
                            rw [show a + 1 + 1 + 1 + 1 = a + uw (p3) by omega]
                            exact kN _ (by omega) (by omega) ev
                          · skip
                            refine ez_go (n := 2) (pc' := 266) (L' := [(9, .inl (3)), (5, .inl (a + 1 + 1 + 1 + 1)), (8, .inl (p3)), (10, .inl (f3)), (7, .inl (3)), (6, .inl (c0)), (4, .inl (mn)), (3, .inl (ct)), (2, .inl (n)), (1, .inl (t)), (0, .inr (.inr (some (770))))]) (st' := [.inl (2), .inr (.inr (some (770)))]) rfl ?_
                            refine ez_cv hBg t770 rfl rfl rfl tq_75 rfl rfl rfl (rd_mfail hBg t770 (by omega) (by omega) (fun gf hBf ff9 jf vf0 => ez_K1 ?_))
                            refine ez_retI rfl rfl (kF ?_ gf hBf ff9 jf vf0)
                            refine Or.inr ⟨by omega, ?_⟩
                            rw [← ec, ← ed1, ← ed2, ← ed3]
                            refine Or.inr (Or.inr (Or.inr (Or.inr (Or.inl ⟨by omega, by omega, ?_⟩))))
                            unfold uD3; omega
                  · skip
                    refine ez_go (n := 2) (pc' := 191) (L' := [(10, .inl (f3)), (9, .inl (2)), (5, .inl (a + 1 + 1 + 1)), (8, .inl (p2)), (7, .inl (3)), (6, .inl (c0)), (4, .inl (mn)), (3, .inl (ct)), (2, .inl (n)), (1, .inl (t)), (0, .inr (.inr (some (770))))]) (st' := [.inl (2), .inr (.inr (some (770)))]) rfl ?_
                    refine ez_cv hBg t770 rfl rfl rfl tq_75 rfl rfl rfl (rd_mfail hBg t770 (by omega) (by omega) (fun gf hBf ff9 jf vf0 => ez_K1 ?_))
                    refine ez_retI rfl rfl (kF ?_ gf hBf ff9 jf vf0)
                    refine Or.inr ⟨by omega, ?_⟩
                    rw [← ec, ← ed1, ← ed2, ← ed3]
                    refine Or.inr (Or.inr (Or.inr (Or.inr (Or.inl ⟨by omega, by omega, ?_⟩))))
                    unfold uD3; omega
                · skip
                  refine ez_go (n := 2) (pc' := 191) (L' := [(10, .inl (f2)), (9, .inl (1)), (5, .inl (a + 1 + 1)), (8, .inl (p1)), (7, .inl (3)), (6, .inl (c0)), (4, .inl (mn)), (3, .inl (ct)), (2, .inl (n)), (1, .inl (t)), (0, .inr (.inr (some (770))))]) (st' := [.inl (2), .inr (.inr (some (770)))]) rfl ?_
                  refine ez_cv hBg t770 rfl rfl rfl tq_75 rfl rfl rfl (rd_mfail hBg t770 (by omega) (by omega) (fun gf hBf ff9 jf vf0 => ez_K1 ?_))
                  refine ez_retI rfl rfl (kF ?_ gf hBf ff9 jf vf0)
                  refine Or.inr ⟨by omega, ?_⟩
                  rw [← ec, ← ed1, ← ed2]
                  generalize mb h (a + 3) % 256 = d3 at *
                  refine Or.inr (Or.inr (Or.inr (Or.inr (Or.inl ⟨by omega, by omega, ?_⟩))))
                  unfold uD3; omega
              · skip
                refine ez_go (n := 2) (pc' := 191) (L' := [(10, .inl (f1)), (9, .inl (0)), (5, .inl (a + 1)), (8, .inl (p0)), (7, .inl (3)), (6, .inl (c0)), (4, .inl (mn)), (3, .inl (ct)), (2, .inl (n)), (1, .inl (t)), (0, .inr (.inr (some (770))))]) (st' := [.inl (2), .inr (.inr (some (770)))]) rfl ?_
                refine ez_cv hBg t770 rfl rfl rfl tq_75 rfl rfl rfl (rd_mfail hBg t770 (by omega) (by omega) (fun gf hBf ff9 jf vf0 => ez_K1 ?_))
                refine ez_retI rfl rfl (kF ?_ gf hBf ff9 jf vf0)
                refine Or.inr ⟨by omega, ?_⟩
                rw [← ec, ← ed1]
                generalize mb h (a + 2) % 256 = d2 at *
                generalize mb h (a + 3) % 256 = d3 at *
                refine Or.inr (Or.inr (Or.inr (Or.inr (Or.inl ⟨by omega, by omega, ?_⟩))))
                unfold uD3; omega
        · skip
          refine ez_go (n := 2) (pc' := 101) (L' := [(6, .inl (c0)), (5, .inl (a)), (4, .inl (mn)), (3, .inl (ct)), (2, .inl (n)), (1, .inl (t)), (0, .inr (.inr (some (770))))]) (st' := [.inl (240), .inl (c0)]) rfl ?_
          refine ez_icmp rfl rfl ⟨by first | omega | exact (sz_i32 _).1, by first | omega | exact (sz_i32 _).2⟩ ⟨by first | omega | exact (sz_i32 _).1, by first | omega | exact (sz_i32 _).2⟩ (fun (c78 : (240) ≤ (c0)) => ?_) (fun (c78 : ¬((240) ≤ (c0))) => ?_)
          · skip
            refine ez_go (n := 2) (pc' := 113) (L' := [(6, .inl (c0)), (5, .inl (a)), (4, .inl (mn)), (3, .inl (ct)), (2, .inl (n)), (1, .inl (t)), (0, .inr (.inr (some (770))))]) (st' := [.inl (240), .inl (c0)]) rfl ?_
            refine ez_icmp rfl rfl ⟨by first | omega | exact (sz_i32 _).1, by first | omega | exact (sz_i32 _).2⟩ ⟨by first | omega | exact (sz_i32 _).1, by first | omega | exact (sz_i32 _).2⟩ (fun (c79 : (c0) < (240)) => ?_) (fun (c79 : ¬((c0) < (240))) => ?_)
            · skip
              refine ez_go (n := 3) (pc' := 133) (L' := [(7, .inl (-1)), (6, .inl (c0)), (5, .inl (a)), (4, .inl (mn)), (3, .inl (ct)), (2, .inl (n)), (1, .inl (t)), (0, .inr (.inr (some (770))))]) (st' := [.inl (-1)]) rfl ?_
              refine ez_if rfl rfl ⟨by decide, by decide⟩ (fun (c80 : (0) ≤ (-1 : Int)) => absurd c80 (by decide)) (fun _ => ?_)
              refine ez_go (n := 2) (pc' := 138) (L' := [(7, .inl (-1)), (6, .inl (c0)), (5, .inl (a)), (4, .inl (mn)), (3, .inl (ct)), (2, .inl (n)), (1, .inl (t)), (0, .inr (.inr (some (770))))]) (st' := [.inl (2), .inr (.inr (some (770)))]) rfl ?_
              refine ez_cv hBg t770 rfl rfl rfl tq_75 rfl rfl rfl (rd_mfail hBg t770 (by omega) (by omega) (fun gf hBf ff9 jf vf0 => ez_K1 ?_))
              refine ez_retI rfl rfl (kF ?_ gf hBf ff9 jf vf0)
              refine Or.inr ⟨by omega, ?_⟩
              rw [← ec]
              generalize mb h (a + 1) % 256 = d1 at *
              generalize mb h (a + 2) % 256 = d2 at *
              generalize mb h (a + 3) % 256 = d3 at *
              by_cases q9 : c0 < 194
              · exact Or.inr (Or.inl ⟨by omega, q9, rfl⟩)
              · exact Or.inr (Or.inr (Or.inr (Or.inr (Or.inr ⟨by omega, rfl⟩))))
            · skip
              refine ez_go (n := 2) (pc' := 121) (L' := [(6, .inl (c0)), (5, .inl (a)), (4, .inl (mn)), (3, .inl (ct)), (2, .inl (n)), (1, .inl (t)), (0, .inr (.inr (some (770))))]) (st' := [.inl (245), .inl (c0)]) rfl ?_
              refine ez_icmp rfl rfl ⟨by first | omega | exact (sz_i32 _).1, by first | omega | exact (sz_i32 _).2⟩ ⟨by first | omega | exact (sz_i32 _).1, by first | omega | exact (sz_i32 _).2⟩ (fun (c81 : (245) ≤ (c0)) => ?_) (fun (c81 : ¬((245) ≤ (c0))) => ?_)
              · skip
                refine ez_go (n := 3) (pc' := 133) (L' := [(7, .inl (-1)), (6, .inl (c0)), (5, .inl (a)), (4, .inl (mn)), (3, .inl (ct)), (2, .inl (n)), (1, .inl (t)), (0, .inr (.inr (some (770))))]) (st' := [.inl (-1)]) rfl ?_
                refine ez_if rfl rfl ⟨by decide, by decide⟩ (fun (c82 : (0) ≤ (-1 : Int)) => absurd c82 (by decide)) (fun _ => ?_)
                refine ez_go (n := 2) (pc' := 138) (L' := [(7, .inl (-1)), (6, .inl (c0)), (5, .inl (a)), (4, .inl (mn)), (3, .inl (ct)), (2, .inl (n)), (1, .inl (t)), (0, .inr (.inr (some (770))))]) (st' := [.inl (2), .inr (.inr (some (770)))]) rfl ?_
                refine ez_cv hBg t770 rfl rfl rfl tq_75 rfl rfl rfl (rd_mfail hBg t770 (by omega) (by omega) (fun gf hBf ff9 jf vf0 => ez_K1 ?_))
                refine ez_retI rfl rfl (kF ?_ gf hBf ff9 jf vf0)
                refine Or.inr ⟨by omega, ?_⟩
                rw [← ec]
                generalize mb h (a + 1) % 256 = d1 at *
                generalize mb h (a + 2) % 256 = d2 at *
                generalize mb h (a + 3) % 256 = d3 at *
                by_cases q9 : c0 < 194
                · exact Or.inr (Or.inl ⟨by omega, q9, rfl⟩)
                · exact Or.inr (Or.inr (Or.inr (Or.inr (Or.inr ⟨by omega, rfl⟩))))
              · skip
                refine ez_go (n := 4) (pc' := 133) (L' := [(7, .inl (3)), (6, .inl (c0)), (5, .inl (a)), (4, .inl (mn)), (3, .inl (ct)), (2, .inl (n)), (1, .inl (t)), (0, .inr (.inr (some (770))))]) (st' := [.inl (3)]) rfl ?_
                refine ez_if rfl rfl ⟨by decide, by decide⟩ (fun _ => ?_) (fun (c83 : ¬((0) ≤ (3 : Int))) => absurd c83 (by decide))
                refine ez_go (n := 1) (pc' := 144) (L' := [(7, .inl (3)), (6, .inl (c0)), (5, .inl (a)), (4, .inl (mn)), (3, .inl (ct)), (2, .inl (n)), (1, .inl (t)), (0, .inr (.inr (some (770))))]) (st' := [.inl (3)]) rfl ?_
                refine ez_if rfl rfl ⟨by decide, by decide⟩ (fun _ => ?_) (fun (c84 : ¬((3 : Int) ≠ (0))) => absurd c84 (by decide))
                refine ez_go (n := 11) (pc' := 172) (L' := [(9, .inl (0)), (5, .inl (a + 1)), (8, .inl ((Int32.ofInt (c0) &&& Int32.ofInt ((Int32.ofInt (63) >>> (Int32.ofInt (3) &&& 31)).toInt)).toInt)), (7, .inl (3)), (6, .inl (c0)), (4, .inl (mn)), (3, .inl (ct)), (2, .inl (n)), (1, .inl (t)), (0, .inr (.inr (some (770))))]) (st' := [.inl (3), .inl (0)]) rfl ?_
                obtain ⟨p0, ep0⟩ : ∃ p0, p0 = c0 - 240 := ⟨_, rfl⟩
                rw [show (Int32.ofInt (c0) &&& Int32.ofInt ((Int32.ofInt (63) >>> (Int32.ofInt (3) &&& 31)).toInt)).toInt = p0 by rw [u_l3 _ (by omega) (by omega)]; omega]
                refine ez_icmp rfl rfl ⟨by decide, by decide⟩ ⟨by decide, by decide⟩ (fun (c85 : (3) ≤ (0 : Int)) => absurd c85 (by decide)) (fun _ => ?_)
                refine ez_go (n := 3) (pc' := 179) (L' := [(9, .inl (0)), (5, .inl (a + 1)), (8, .inl (p0)), (7, .inl (3)), (6, .inl (c0)), (4, .inl (mn)), (3, .inl (ct)), (2, .inl (n)), (1, .inl (t)), (0, .inr (.inr (some (770))))]) (st' := [.inl (n), .inl (a + 1), .inr (.inr (some (770)))]) rfl ?_
                refine ez_cv hBg t770 rfl rfl rfl tq_75 rfl rfl rfl (rd_follow hBg t770 (by omega) (by omega) (by omega) (by omega) (fun f1 hf1 => ez_K1 ?_))
                obtain ⟨d1, ed1⟩ : ∃ d1, d1 = mb h (a + 1) % 256 := ⟨_, rfl⟩
                rw [bz, show a + 1 = a + 1 by omega, ← ed1] at hf1
                have db1 : 0 ≤ d1 ∧ d1 ≤ 255 := by omega
                unfold uF at hf1
                refine ez_go (n := 2) (pc' := 186) (L' := [(10, .inl (f1)), (9, .inl (0)), (5, .inl (a + 1)), (8, .inl (p0)), (7, .inl (3)), (6, .inl (c0)), (4, .inl (mn)), (3, .inl (ct)), (2, .inl (n)), (1, .inl (t)), (0, .inr (.inr (some (770))))]) (st' := [.inl (f1)]) rfl ?_
                refine ez_if rfl rfl ⟨by first | omega | exact (sz_i32 _).1, by first | omega | exact (sz_i32 _).2⟩ (fun (c86 : (0) ≤ (f1)) => ?_) (fun (c86 : ¬((0) ≤ (f1))) => ?_)
                · skip
                  refine ez_go (n := 11) (pc' := 172) (L' := [(9, .inl (0 + 1)), (5, .inl (a + 1 + 1)), (8, .inl (((64) * (p0)) + (f1))), (10, .inl (f1)), (7, .inl (3)), (6, .inl (c0)), (4, .inl (mn)), (3, .inl (ct)), (2, .inl (n)), (1, .inl (t)), (0, .inr (.inr (some (770))))]) (st' := [.inl (3), .inl (0 + 1)]) rfl ?_
                  obtain ⟨p1, ep1⟩ : ∃ p1, p1 = p0 * 64 + f1 := ⟨_, rfl⟩
                  rw [show ((64) * (p0)) + (f1) = p1 by omega]
                  rw [show ((0 : Int) + 1) = 1 from rfl]
                  refine ez_icmp rfl rfl ⟨by decide, by decide⟩ ⟨by decide, by decide⟩ (fun (c87 : (3) ≤ (1 : Int)) => absurd c87 (by decide)) (fun _ => ?_)
                  refine ez_go (n := 3) (pc' := 179) (L' := [(9, .inl (1)), (5, .inl (a + 1 + 1)), (8, .inl (p1)), (10, .inl (f1)), (7, .inl (3)), (6, .inl (c0)), (4, .inl (mn)), (3, .inl (ct)), (2, .inl (n)), (1, .inl (t)), (0, .inr (.inr (some (770))))]) (st' := [.inl (n), .inl (a + 1 + 1), .inr (.inr (some (770)))]) rfl ?_
                  refine ez_cv hBg t770 rfl rfl rfl tq_75 rfl rfl rfl (rd_follow hBg t770 (by omega) (by omega) (by omega) (by omega) (fun f2 hf2 => ez_K1 ?_))
                  obtain ⟨d2, ed2⟩ : ∃ d2, d2 = mb h (a + 2) % 256 := ⟨_, rfl⟩
                  rw [bz, show a + 1 + 1 = a + 2 by omega, ← ed2] at hf2
                  have db2 : 0 ≤ d2 ∧ d2 ≤ 255 := by omega
                  unfold uF at hf2
                  refine ez_go (n := 2) (pc' := 186) (L' := [(10, .inl (f2)), (9, .inl (1)), (5, .inl (a + 1 + 1)), (8, .inl (p1)), (7, .inl (3)), (6, .inl (c0)), (4, .inl (mn)), (3, .inl (ct)), (2, .inl (n)), (1, .inl (t)), (0, .inr (.inr (some (770))))]) (st' := [.inl (f2)]) rfl ?_
                  refine ez_if rfl rfl ⟨by first | omega | exact (sz_i32 _).1, by first | omega | exact (sz_i32 _).2⟩ (fun (c88 : (0) ≤ (f2)) => ?_) (fun (c88 : ¬((0) ≤ (f2))) => ?_)
                  · skip
                    refine ez_go (n := 11) (pc' := 172) (L' := [(9, .inl (1 + 1)), (5, .inl (a + 1 + 1 + 1)), (8, .inl (((64) * (p1)) + (f2))), (10, .inl (f2)), (7, .inl (3)), (6, .inl (c0)), (4, .inl (mn)), (3, .inl (ct)), (2, .inl (n)), (1, .inl (t)), (0, .inr (.inr (some (770))))]) (st' := [.inl (3), .inl (1 + 1)]) rfl ?_
                    obtain ⟨p2, ep2⟩ : ∃ p2, p2 = p1 * 64 + f2 := ⟨_, rfl⟩
                    rw [show ((64) * (p1)) + (f2) = p2 by omega]
                    rw [show ((1 : Int) + 1) = 2 from rfl]
                    refine ez_icmp rfl rfl ⟨by decide, by decide⟩ ⟨by decide, by decide⟩ (fun (c89 : (3) ≤ (2 : Int)) => absurd c89 (by decide)) (fun _ => ?_)
                    refine ez_go (n := 3) (pc' := 179) (L' := [(9, .inl (2)), (5, .inl (a + 1 + 1 + 1)), (8, .inl (p2)), (10, .inl (f2)), (7, .inl (3)), (6, .inl (c0)), (4, .inl (mn)), (3, .inl (ct)), (2, .inl (n)), (1, .inl (t)), (0, .inr (.inr (some (770))))]) (st' := [.inl (n), .inl (a + 1 + 1 + 1), .inr (.inr (some (770)))]) rfl ?_
                    refine ez_cv hBg t770 rfl rfl rfl tq_75 rfl rfl rfl (rd_follow hBg t770 (by omega) (by omega) (by omega) (by omega) (fun f3 hf3 => ez_K1 ?_))
                    obtain ⟨d3, ed3⟩ : ∃ d3, d3 = mb h (a + 3) % 256 := ⟨_, rfl⟩
                    rw [bz, show a + 1 + 1 + 1 = a + 3 by omega, ← ed3] at hf3
                    have db3 : 0 ≤ d3 ∧ d3 ≤ 255 := by omega
                    unfold uF at hf3
                    refine ez_go (n := 2) (pc' := 186) (L' := [(10, .inl (f3)), (9, .inl (2)), (5, .inl (a + 1 + 1 + 1)), (8, .inl (p2)), (7, .inl (3)), (6, .inl (c0)), (4, .inl (mn)), (3, .inl (ct)), (2, .inl (n)), (1, .inl (t)), (0, .inr (.inr (some (770))))]) (st' := [.inl (f3)]) rfl ?_
                    refine ez_if rfl rfl ⟨by first | omega | exact (sz_i32 _).1, by first | omega | exact (sz_i32 _).2⟩ (fun (c90 : (0) ≤ (f3)) => ?_) (fun (c90 : ¬((0) ≤ (f3))) => ?_)
                    · skip
                      refine ez_go (n := 11) (pc' := 172) (L' := [(9, .inl (2 + 1)), (5, .inl (a + 1 + 1 + 1 + 1)), (8, .inl (((64) * (p2)) + (f3))), (10, .inl (f3)), (7, .inl (3)), (6, .inl (c0)), (4, .inl (mn)), (3, .inl (ct)), (2, .inl (n)), (1, .inl (t)), (0, .inr (.inr (some (770))))]) (st' := [.inl (3), .inl (2 + 1)]) rfl ?_
                      obtain ⟨p3, ep3⟩ : ∃ p3, p3 = p2 * 64 + f3 := ⟨_, rfl⟩
                      rw [show ((64) * (p2)) + (f3) = p3 by omega]
                      rw [show ((2 : Int) + 1) = 3 from rfl]
                      refine ez_icmp rfl rfl ⟨by decide, by decide⟩ ⟨by decide, by decide⟩ (fun _ => ?_) (fun (c91 : ¬((3 : Int) ≤ (3))) => absurd c91 (by decide))
                      refine ez_go (n := 2) (pc' := 217) (L' := [(9, .inl (3)), (5, .inl (a + 1 + 1 + 1 + 1)), (8, .inl (p3)), (10, .inl (f3)), (7, .inl (3)), (6, .inl (c0)), (4, .inl (mn)), (3, .inl (ct)), (2, .inl (n)), (1, .inl (t)), (0, .inr (.inr (some (770))))]) (st' := [.inl (2), .inl (3)]) rfl ?_
                      refine ez_icmp rfl rfl ⟨by decide, by decide⟩ ⟨by decide, by decide⟩ (fun _ => ?_) (fun (c92 : ¬((3 : Int) ≠ (2))) => absurd c92 (by decide))
                      refine ez_go (n := 2) (pc' := 231) (L' := [(9, .inl (3)), (5, .inl (a + 1 + 1 + 1 + 1)), (8, .inl (p3)), (10, .inl (f3)), (7, .inl (3)), (6, .inl (c0)), (4, .inl (mn)), (3, .inl (ct)), (2, .inl (n)), (1, .inl (t)), (0, .inr (.inr (some (770))))]) (st' := [.inl (3), .inl (3)]) rfl ?_
                      refine ez_icmp rfl rfl ⟨by decide, by decide⟩ ⟨by decide, by decide⟩ (fun (c93 : (3 : Int) ≠ (3)) => absurd c93 (by decide)) (fun _ => ?_)
                      refine ez_go (n := 1) (pc' := 236) (L' := [(9, .inl (3)), (5, .inl (a + 1 + 1 + 1 + 1)), (8, .inl (p3)), (10, .inl (f3)), (7, .inl (3)), (6, .inl (c0)), (4, .inl (mn)), (3, .inl (ct)), (2, .inl (n)), (1, .inl (t)), (0, .inr (.inr (some (770))))]) (st' := [.inl (p3)]) rfl ?_
                      refine ez_ldc (65536) rfl rfl rfl ?_
                      refine ez_icmp rfl rfl ⟨by first | omega | exact (sz_i32 _).1, by first | omega | exact (sz_i32 _).2⟩ ⟨by first | omega | exact (sz_i32 _).1, by first | omega | exact (sz_i32 _).2⟩ (fun (c94 : (p3) < (65536)) => ?_) (fun (c94 : ¬((p3) < (65536))) => ?_)
                      · skip
                        refine ez_go (n := 2) (pc' := 266) (L' := [(9, .inl (3)), (5, .inl (a + 1 + 1 + 1 + 1)), (8, .inl (p3)), (10, .inl (f3)), (7, .inl (3)), (6, .inl (c0)), (4, .inl (mn)), (3, .inl (ct)), (2, .inl (n)), (1, .inl (t)), (0, .inr (.inr (some (770))))]) (st' := [.inl (2), .inr (.inr (some (770)))]) rfl ?_
                        refine ez_cv hBg t770 rfl rfl rfl tq_75 rfl rfl rfl (rd_mfail hBg t770 (by omega) (by omega) (fun gf hBf ff9 jf vf0 => ez_K1 ?_))
                        refine ez_retI rfl rfl (kF ?_ gf hBf ff9 jf vf0)
                        refine Or.inr ⟨by omega, ?_⟩
                        rw [← ec, ← ed1, ← ed2, ← ed3]
                        refine Or.inr (Or.inr (Or.inr (Or.inr (Or.inl ⟨by omega, by omega, ?_⟩))))
                        unfold uD3; omega
                      · skip
                        refine ez_go (n := 1) (pc' := 243) (L' := [(9, .inl (3)), (5, .inl (a + 1 + 1 + 1 + 1)), (8, .inl (p3)), (10, .inl (f3)), (7, .inl (3)), (6, .inl (c0)), (4, .inl (mn)), (3, .inl (ct)), (2, .inl (n)), (1, .inl (t)), (0, .inr (.inr (some (770))))]) (st' := [.inl (p3)]) rfl ?_
                        refine ez_ldc (1114111) rfl rfl rfl ?_
                        refine ez_icmp rfl rfl ⟨by first | omega | exact (sz_i32 _).1, by first | omega | exact (sz_i32 _).2⟩ ⟨by first | omega | exact (sz_i32 _).1, by first | omega | exact (sz_i32 _).2⟩ (fun (c95 : (1114111) < (p3)) => ?_) (fun (c95 : ¬((1114111) < (p3))) => ?_)
                        · skip
                          refine ez_go (n := 2) (pc' := 266) (L' := [(9, .inl (3)), (5, .inl (a + 1 + 1 + 1 + 1)), (8, .inl (p3)), (10, .inl (f3)), (7, .inl (3)), (6, .inl (c0)), (4, .inl (mn)), (3, .inl (ct)), (2, .inl (n)), (1, .inl (t)), (0, .inr (.inr (some (770))))]) (st' := [.inl (2), .inr (.inr (some (770)))]) rfl ?_
                          refine ez_cv hBg t770 rfl rfl rfl tq_75 rfl rfl rfl (rd_mfail hBg t770 (by omega) (by omega) (fun gf hBf ff9 jf vf0 => ez_K1 ?_))
                          refine ez_retI rfl rfl (kF ?_ gf hBf ff9 jf vf0)
                          refine Or.inr ⟨by omega, ?_⟩
                          rw [← ec, ← ed1, ← ed2, ← ed3]
                          refine Or.inr (Or.inr (Or.inr (Or.inr (Or.inl ⟨by omega, by omega, ?_⟩))))
                          unfold uD3; omega
                        · skip
                          refine ez_go (n := 1) (pc' := 250) (L' := [(9, .inl (3)), (5, .inl (a + 1 + 1 + 1 + 1)), (8, .inl (p3)), (10, .inl (f3)), (7, .inl (3)), (6, .inl (c0)), (4, .inl (mn)), (3, .inl (ct)), (2, .inl (n)), (1, .inl (t)), (0, .inr (.inr (some (770))))]) (st' := [.inl (p3)]) rfl ?_
                          refine ez_ldcV (55296) rfl rfl rfl ?_
                          refine ez_icmp rfl rfl ⟨by first | omega | exact (sz_i32 _).1, by first | omega | exact (sz_i32 _).2⟩ ⟨by first | omega | exact (sz_i32 _).1, by first | omega | exact (sz_i32 _).2⟩ (fun (c96 : (p3) < (55296)) => ?_) (fun (c96 : ¬((p3) < (55296))) => ?_)
                          · skip
                            refine ez_less [(5, .inl (a + 1 + 1 + 1 + 1)), (8, .inl (p3)), (4, .inl (mn)), (3, .inl (ct)), (2, .inl (n)), (1, .inl (t)), (0, .inr (.inr (some (770))))] rfl ⟨rfl, rfl, rfl, rfl, rfl, rfl, rfl, trivial⟩ ?_
                            have ev : uB (mb h) n a (p3) := by
                              refine Or.inr ⟨by omega, ?_⟩
                              rw [← ec, ← ed1, ← ed2, ← ed3]
                              refine Or.inr (Or.inr (Or.inr (Or.inr (Or.inl ⟨by omega, by omega, ?_⟩))))
                              unfold uD3; omega
                            have ew : uw (p3) = 4 := by first | (exfalso; omega) | (unfold uw; first | rw [if_pos (by omega)] | rw [if_neg (by omega), if_pos (by omega)] | rw [if_neg (by omega), if_neg (by omega), if_pos (by omega)] | rw [if_neg (by omega), if_neg (by omega), if_neg (by omega)])
                            rw [show a + 1 + 1 + 1 + 1 = a + uw (p3) by omega]
                            exact kN _ (by omega) (by omega) ev
                          · skip
                            refine ez_go (n := 1) (pc' := 258) (L' := [(9, .inl (3)), (5, .inl (a + 1 + 1 + 1 + 1)), (8, .inl (p3)), (10, .inl (f3)), (7, .inl (3)), (6, .inl (c0)), (4, .inl (mn)), (3, .inl (ct)), (2, .inl (n)), (1, .inl (t)), (0, .inr (.inr (some (770))))]) (st' := [.inl (p3)]) rfl ?_
                            refine ez_ldcV (57344) rfl rfl rfl ?_
                            refine ez_icmp rfl rfl ⟨by first | omega | exact (sz_i32 _).1, by first | omega | exact (sz_i32 _).2⟩ ⟨by first | omega | exact (sz_i32 _).1, by first | omega | exact (sz_i32 _).2⟩ (fun (c97 : (57344) ≤ (p3)) => ?_) (fun (c97 : ¬((57344) ≤ (p3))) => ?_)
                            · skip
                              refine ez_less [(5, .inl (a + 1 + 1 + 1 + 1)), (8, .inl (p3)), (4, .inl (mn)), (3, .inl (ct)), (2, .inl (n)), (1, .inl (t)), (0, .inr (.inr (some (770))))] rfl ⟨rfl, rfl, rfl, rfl, rfl, rfl, rfl, trivial⟩ ?_
                              have ev : uB (mb h) n a (p3) := by
                                refine Or.inr ⟨by omega, ?_⟩
                                rw [← ec, ← ed1, ← ed2, ← ed3]
                                refine Or.inr (Or.inr (Or.inr (Or.inr (Or.inl ⟨by omega, by omega, ?_⟩))))
                                unfold uD3; omega
                              have ew : uw (p3) = 4 := by first | (exfalso; omega) | (unfold uw; first | rw [if_pos (by omega)] | rw [if_neg (by omega), if_pos (by omega)] | rw [if_neg (by omega), if_neg (by omega), if_pos (by omega)] | rw [if_neg (by omega), if_neg (by omega), if_neg (by omega)])
                              rw [show a + 1 + 1 + 1 + 1 = a + uw (p3) by omega]
                              exact kN _ (by omega) (by omega) ev
                            · skip
                              refine ez_go (n := 2) (pc' := 266) (L' := [(9, .inl (3)), (5, .inl (a + 1 + 1 + 1 + 1)), (8, .inl (p3)), (10, .inl (f3)), (7, .inl (3)), (6, .inl (c0)), (4, .inl (mn)), (3, .inl (ct)), (2, .inl (n)), (1, .inl (t)), (0, .inr (.inr (some (770))))]) (st' := [.inl (2), .inr (.inr (some (770)))]) rfl ?_
                              refine ez_cv hBg t770 rfl rfl rfl tq_75 rfl rfl rfl (rd_mfail hBg t770 (by omega) (by omega) (fun gf hBf ff9 jf vf0 => ez_K1 ?_))
                              refine ez_retI rfl rfl (kF ?_ gf hBf ff9 jf vf0)
                              refine Or.inr ⟨by omega, ?_⟩
                              rw [← ec, ← ed1, ← ed2, ← ed3]
                              refine Or.inr (Or.inr (Or.inr (Or.inr (Or.inl ⟨by omega, by omega, ?_⟩))))
                              unfold uD3; omega
                    · skip
                      refine ez_go (n := 2) (pc' := 191) (L' := [(10, .inl (f3)), (9, .inl (2)), (5, .inl (a + 1 + 1 + 1)), (8, .inl (p2)), (7, .inl (3)), (6, .inl (c0)), (4, .inl (mn)), (3, .inl (ct)), (2, .inl (n)), (1, .inl (t)), (0, .inr (.inr (some (770))))]) (st' := [.inl (2), .inr (.inr (some (770)))]) rfl ?_
                      refine ez_cv hBg t770 rfl rfl rfl tq_75 rfl rfl rfl (rd_mfail hBg t770 (by omega) (by omega) (fun gf hBf ff9 jf vf0 => ez_K1 ?_))
                      refine ez_retI rfl rfl (kF ?_ gf hBf ff9 jf vf0)
                      refine Or.inr ⟨by omega, ?_⟩
                      rw [← ec, ← ed1, ← ed2, ← ed3]
                      refine Or.inr (Or.inr (Or.inr (Or.inr (Or.inl ⟨by omega, by omega, ?_⟩))))
                      unfold uD3; omega
                  · skip
                    refine ez_go (n := 2) (pc' := 191) (L' := [(10, .inl (f2)), (9, .inl (1)), (5, .inl (a + 1 + 1)), (8, .inl (p1)), (7, .inl (3)), (6, .inl (c0)), (4, .inl (mn)), (3, .inl (ct)), (2, .inl (n)), (1, .inl (t)), (0, .inr (.inr (some (770))))]) (st' := [.inl (2), .inr (.inr (some (770)))]) rfl ?_
                    refine ez_cv hBg t770 rfl rfl rfl tq_75 rfl rfl rfl (rd_mfail hBg t770 (by omega) (by omega) (fun gf hBf ff9 jf vf0 => ez_K1 ?_))
                    refine ez_retI rfl rfl (kF ?_ gf hBf ff9 jf vf0)
                    refine Or.inr ⟨by omega, ?_⟩
                    rw [← ec, ← ed1, ← ed2]
                    generalize mb h (a + 3) % 256 = d3 at *
                    refine Or.inr (Or.inr (Or.inr (Or.inr (Or.inl ⟨by omega, by omega, ?_⟩))))
                    unfold uD3; omega
                · skip
                  refine ez_go (n := 2) (pc' := 191) (L' := [(10, .inl (f1)), (9, .inl (0)), (5, .inl (a + 1)), (8, .inl (p0)), (7, .inl (3)), (6, .inl (c0)), (4, .inl (mn)), (3, .inl (ct)), (2, .inl (n)), (1, .inl (t)), (0, .inr (.inr (some (770))))]) (st' := [.inl (2), .inr (.inr (some (770)))]) rfl ?_
                  refine ez_cv hBg t770 rfl rfl rfl tq_75 rfl rfl rfl (rd_mfail hBg t770 (by omega) (by omega) (fun gf hBf ff9 jf vf0 => ez_K1 ?_))
                  refine ez_retI rfl rfl (kF ?_ gf hBf ff9 jf vf0)
                  refine Or.inr ⟨by omega, ?_⟩
                  rw [← ec, ← ed1]
                  generalize mb h (a + 2) % 256 = d2 at *
                  generalize mb h (a + 3) % 256 = d3 at *
                  refine Or.inr (Or.inr (Or.inr (Or.inr (Or.inl ⟨by omega, by omega, ?_⟩))))
                  unfold uD3; omega
          · skip
            refine ez_go (n := 4) (pc' := 133) (L' := [(7, .inl (2)), (6, .inl (c0)), (5, .inl (a)), (4, .inl (mn)), (3, .inl (ct)), (2, .inl (n)), (1, .inl (t)), (0, .inr (.inr (some (770))))]) (st' := [.inl (2)]) rfl ?_
            refine ez_if rfl rfl ⟨by decide, by decide⟩ (fun _ => ?_) (fun (c98 : ¬((0) ≤ (2 : Int))) => absurd c98 (by decide))
            refine ez_go (n := 1) (pc' := 144) (L' := [(7, .inl (2)), (6, .inl (c0)), (5, .inl (a)), (4, .inl (mn)), (3, .inl (ct)), (2, .inl (n)), (1, .inl (t)), (0, .inr (.inr (some (770))))]) (st' := [.inl (2)]) rfl ?_
            refine ez_if rfl rfl ⟨by decide, by decide⟩ (fun _ => ?_) (fun (c99 : ¬((2 : Int) ≠ (0))) => absurd c99 (by decide))
            refine ez_go (n := 11) (pc' := 172) (L' := [(9, .inl (0)), (5, .inl (a + 1)), (8, .inl ((Int32.ofInt (c0) &&& Int32.ofInt ((Int32.ofInt (63) >>> (Int32.ofInt (2) &&& 31)).toInt)).toInt)), (7, .inl (2)), (6, .inl (c0)), (4, .inl (mn)), (3, .inl (ct)), (2, .inl (n)), (1, .inl (t)), (0, .inr (.inr (some (770))))]) (st' := [.inl (2), .inl (0)]) rfl ?_
            obtain ⟨p0, ep0⟩ : ∃ p0, p0 = c0 - 224 := ⟨_, rfl⟩
            rw [show (Int32.ofInt (c0) &&& Int32.ofInt ((Int32.ofInt (63) >>> (Int32.ofInt (2) &&& 31)).toInt)).toInt = p0 by rw [u_l2 _ (by omega) (by omega)]; omega]
            refine ez_icmp rfl rfl ⟨by decide, by decide⟩ ⟨by decide, by decide⟩ (fun (c100 : (2) ≤ (0 : Int)) => absurd c100 (by decide)) (fun _ => ?_)
            refine ez_go (n := 3) (pc' := 179) (L' := [(9, .inl (0)), (5, .inl (a + 1)), (8, .inl (p0)), (7, .inl (2)), (6, .inl (c0)), (4, .inl (mn)), (3, .inl (ct)), (2, .inl (n)), (1, .inl (t)), (0, .inr (.inr (some (770))))]) (st' := [.inl (n), .inl (a + 1), .inr (.inr (some (770)))]) rfl ?_
            refine ez_cv hBg t770 rfl rfl rfl tq_75 rfl rfl rfl (rd_follow hBg t770 (by omega) (by omega) (by omega) (by omega) (fun f1 hf1 => ez_K1 ?_))
            obtain ⟨d1, ed1⟩ : ∃ d1, d1 = mb h (a + 1) % 256 := ⟨_, rfl⟩
            rw [bz, show a + 1 = a + 1 by omega, ← ed1] at hf1
            have db1 : 0 ≤ d1 ∧ d1 ≤ 255 := by omega
            unfold uF at hf1
            refine ez_go (n := 2) (pc' := 186) (L' := [(10, .inl (f1)), (9, .inl (0)), (5, .inl (a + 1)), (8, .inl (p0)), (7, .inl (2)), (6, .inl (c0)), (4, .inl (mn)), (3, .inl (ct)), (2, .inl (n)), (1, .inl (t)), (0, .inr (.inr (some (770))))]) (st' := [.inl (f1)]) rfl ?_
            refine ez_if rfl rfl ⟨by first | omega | exact (sz_i32 _).1, by first | omega | exact (sz_i32 _).2⟩ (fun (c101 : (0) ≤ (f1)) => ?_) (fun (c101 : ¬((0) ≤ (f1))) => ?_)
            · skip
              refine ez_go (n := 11) (pc' := 172) (L' := [(9, .inl (0 + 1)), (5, .inl (a + 1 + 1)), (8, .inl (((64) * (p0)) + (f1))), (10, .inl (f1)), (7, .inl (2)), (6, .inl (c0)), (4, .inl (mn)), (3, .inl (ct)), (2, .inl (n)), (1, .inl (t)), (0, .inr (.inr (some (770))))]) (st' := [.inl (2), .inl (0 + 1)]) rfl ?_
              obtain ⟨p1, ep1⟩ : ∃ p1, p1 = p0 * 64 + f1 := ⟨_, rfl⟩
              rw [show ((64) * (p0)) + (f1) = p1 by omega]
              rw [show ((0 : Int) + 1) = 1 from rfl]
              refine ez_icmp rfl rfl ⟨by decide, by decide⟩ ⟨by decide, by decide⟩ (fun (c102 : (2) ≤ (1 : Int)) => absurd c102 (by decide)) (fun _ => ?_)
              refine ez_go (n := 3) (pc' := 179) (L' := [(9, .inl (1)), (5, .inl (a + 1 + 1)), (8, .inl (p1)), (10, .inl (f1)), (7, .inl (2)), (6, .inl (c0)), (4, .inl (mn)), (3, .inl (ct)), (2, .inl (n)), (1, .inl (t)), (0, .inr (.inr (some (770))))]) (st' := [.inl (n), .inl (a + 1 + 1), .inr (.inr (some (770)))]) rfl ?_
              refine ez_cv hBg t770 rfl rfl rfl tq_75 rfl rfl rfl (rd_follow hBg t770 (by omega) (by omega) (by omega) (by omega) (fun f2 hf2 => ez_K1 ?_))
              obtain ⟨d2, ed2⟩ : ∃ d2, d2 = mb h (a + 2) % 256 := ⟨_, rfl⟩
              rw [bz, show a + 1 + 1 = a + 2 by omega, ← ed2] at hf2
              have db2 : 0 ≤ d2 ∧ d2 ≤ 255 := by omega
              unfold uF at hf2
              refine ez_go (n := 2) (pc' := 186) (L' := [(10, .inl (f2)), (9, .inl (1)), (5, .inl (a + 1 + 1)), (8, .inl (p1)), (7, .inl (2)), (6, .inl (c0)), (4, .inl (mn)), (3, .inl (ct)), (2, .inl (n)), (1, .inl (t)), (0, .inr (.inr (some (770))))]) (st' := [.inl (f2)]) rfl ?_
              refine ez_if rfl rfl ⟨by first | omega | exact (sz_i32 _).1, by first | omega | exact (sz_i32 _).2⟩ (fun (c103 : (0) ≤ (f2)) => ?_) (fun (c103 : ¬((0) ≤ (f2))) => ?_)
              · skip
                refine ez_go (n := 11) (pc' := 172) (L' := [(9, .inl (1 + 1)), (5, .inl (a + 1 + 1 + 1)), (8, .inl (((64) * (p1)) + (f2))), (10, .inl (f2)), (7, .inl (2)), (6, .inl (c0)), (4, .inl (mn)), (3, .inl (ct)), (2, .inl (n)), (1, .inl (t)), (0, .inr (.inr (some (770))))]) (st' := [.inl (2), .inl (1 + 1)]) rfl ?_
                obtain ⟨p2, ep2⟩ : ∃ p2, p2 = p1 * 64 + f2 := ⟨_, rfl⟩
                rw [show ((64) * (p1)) + (f2) = p2 by omega]
                rw [show ((1 : Int) + 1) = 2 from rfl]
                refine ez_icmp rfl rfl ⟨by decide, by decide⟩ ⟨by decide, by decide⟩ (fun _ => ?_) (fun (c104 : ¬((2 : Int) ≤ (2))) => absurd c104 (by decide))
                refine ez_go (n := 2) (pc' := 217) (L' := [(9, .inl (2)), (5, .inl (a + 1 + 1 + 1)), (8, .inl (p2)), (10, .inl (f2)), (7, .inl (2)), (6, .inl (c0)), (4, .inl (mn)), (3, .inl (ct)), (2, .inl (n)), (1, .inl (t)), (0, .inr (.inr (some (770))))]) (st' := [.inl (2), .inl (2)]) rfl ?_
                refine ez_icmp rfl rfl ⟨by decide, by decide⟩ ⟨by decide, by decide⟩ (fun (c105 : (2 : Int) ≠ (2)) => absurd c105 (by decide)) (fun _ => ?_)
                refine ez_go (n := 2) (pc' := 225) (L' := [(9, .inl (2)), (5, .inl (a + 1 + 1 + 1)), (8, .inl (p2)), (10, .inl (f2)), (7, .inl (2)), (6, .inl (c0)), (4, .inl (mn)), (3, .inl (ct)), (2, .inl (n)), (1, .inl (t)), (0, .inr (.inr (some (770))))]) (st' := [.inl (2048), .inl (p2)]) rfl ?_
                refine ez_icmp rfl rfl ⟨by first | omega | exact (sz_i32 _).1, by first | omega | exact (sz_i32 _).2⟩ ⟨by first | omega | exact (sz_i32 _).1, by first | omega | exact (sz_i32 _).2⟩ (fun (c106 : (p2) < (2048)) => ?_) (fun (c106 : ¬((p2) < (2048))) => ?_)
                · skip
                  refine ez_go (n := 2) (pc' := 266) (L' := [(9, .inl (2)), (5, .inl (a + 1 + 1 + 1)), (8, .inl (p2)), (10, .inl (f2)), (7, .inl (2)), (6, .inl (c0)), (4, .inl (mn)), (3, .inl (ct)), (2, .inl (n)), (1, .inl (t)), (0, .inr (.inr (some (770))))]) (st' := [.inl (2), .inr (.inr (some (770)))]) rfl ?_
                  refine ez_cv hBg t770 rfl rfl rfl tq_75 rfl rfl rfl (rd_mfail hBg t770 (by omega) (by omega) (fun gf hBf ff9 jf vf0 => ez_K1 ?_))
                  refine ez_retI rfl rfl (kF ?_ gf hBf ff9 jf vf0)
                  refine Or.inr ⟨by omega, ?_⟩
                  rw [← ec, ← ed1, ← ed2]
                  generalize mb h (a + 3) % 256 = d3 at *
                  refine Or.inr (Or.inr (Or.inr (Or.inl ⟨by omega, by omega, ?_⟩)))
                  unfold uD2; omega
                · skip
                  refine ez_go (n := 2) (pc' := 231) (L' := [(9, .inl (2)), (5, .inl (a + 1 + 1 + 1)), (8, .inl (p2)), (10, .inl (f2)), (7, .inl (2)), (6, .inl (c0)), (4, .inl (mn)), (3, .inl (ct)), (2, .inl (n)), (1, .inl (t)), (0, .inr (.inr (some (770))))]) (st' := [.inl (3), .inl (2)]) rfl ?_
                  refine ez_icmp rfl rfl ⟨by decide, by decide⟩ ⟨by decide, by decide⟩ (fun _ => ?_) (fun (c107 : ¬((2 : Int) ≠ (3))) => absurd c107 (by decide))
                  refine ez_go (n := 1) (pc' := 250) (L' := [(9, .inl (2)), (5, .inl (a + 1 + 1 + 1)), (8, .inl (p2)), (10, .inl (f2)), (7, .inl (2)), (6, .inl (c0)), (4, .inl (mn)), (3, .inl (ct)), (2, .inl (n)), (1, .inl (t)), (0, .inr (.inr (some (770))))]) (st' := [.inl (p2)]) rfl ?_
                  refine ez_ldcV (55296) rfl rfl rfl ?_
                  refine ez_icmp rfl rfl ⟨by first | omega | exact (sz_i32 _).1, by first | omega | exact (sz_i32 _).2⟩ ⟨by first | omega | exact (sz_i32 _).1, by first | omega | exact (sz_i32 _).2⟩ (fun (c108 : (p2) < (55296)) => ?_) (fun (c108 : ¬((p2) < (55296))) => ?_)
                  · skip
                    refine ez_less [(5, .inl (a + 1 + 1 + 1)), (8, .inl (p2)), (4, .inl (mn)), (3, .inl (ct)), (2, .inl (n)), (1, .inl (t)), (0, .inr (.inr (some (770))))] rfl ⟨rfl, rfl, rfl, rfl, rfl, rfl, rfl, trivial⟩ ?_
                    have ev : uB (mb h) n a (p2) := by
                      refine Or.inr ⟨by omega, ?_⟩
                      rw [← ec, ← ed1, ← ed2]
                      generalize mb h (a + 3) % 256 = d3 at *
                      refine Or.inr (Or.inr (Or.inr (Or.inl ⟨by omega, by omega, ?_⟩)))
                      unfold uD2; omega
                    have ew : uw (p2) = 3 := by first | (exfalso; omega) | (unfold uw; first | rw [if_pos (by omega)] | rw [if_neg (by omega), if_pos (by omega)] | rw [if_neg (by omega), if_neg (by omega), if_pos (by omega)] | rw [if_neg (by omega), if_neg (by omega), if_neg (by omega)])
                    rw [show a + 1 + 1 + 1 = a + uw (p2) by omega]
                    exact kN _ (by omega) (by omega) ev
                  · skip
                    refine ez_go (n := 1) (pc' := 258) (L' := [(9, .inl (2)), (5, .inl (a + 1 + 1 + 1)), (8, .inl (p2)), (10, .inl (f2)), (7, .inl (2)), (6, .inl (c0)), (4, .inl (mn)), (3, .inl (ct)), (2, .inl (n)), (1, .inl (t)), (0, .inr (.inr (some (770))))]) (st' := [.inl (p2)]) rfl ?_
                    refine ez_ldcV (57344) rfl rfl rfl ?_
                    refine ez_icmp rfl rfl ⟨by first | omega | exact (sz_i32 _).1, by first | omega | exact (sz_i32 _).2⟩ ⟨by first | omega | exact (sz_i32 _).1, by first | omega | exact (sz_i32 _).2⟩ (fun (c109 : (57344) ≤ (p2)) => ?_) (fun (c109 : ¬((57344) ≤ (p2))) => ?_)
                    · skip
                      refine ez_less [(5, .inl (a + 1 + 1 + 1)), (8, .inl (p2)), (4, .inl (mn)), (3, .inl (ct)), (2, .inl (n)), (1, .inl (t)), (0, .inr (.inr (some (770))))] rfl ⟨rfl, rfl, rfl, rfl, rfl, rfl, rfl, trivial⟩ ?_
                      have ev : uB (mb h) n a (p2) := by
                        refine Or.inr ⟨by omega, ?_⟩
                        rw [← ec, ← ed1, ← ed2]
                        generalize mb h (a + 3) % 256 = d3 at *
                        refine Or.inr (Or.inr (Or.inr (Or.inl ⟨by omega, by omega, ?_⟩)))
                        unfold uD2; omega
                      have ew : uw (p2) = 3 := by first | (exfalso; omega) | (unfold uw; first | rw [if_pos (by omega)] | rw [if_neg (by omega), if_pos (by omega)] | rw [if_neg (by omega), if_neg (by omega), if_pos (by omega)] | rw [if_neg (by omega), if_neg (by omega), if_neg (by omega)])
                      rw [show a + 1 + 1 + 1 = a + uw (p2) by omega]
                      exact kN _ (by omega) (by omega) ev
                    · skip
                      refine ez_go (n := 2) (pc' := 266) (L' := [(9, .inl (2)), (5, .inl (a + 1 + 1 + 1)), (8, .inl (p2)), (10, .inl (f2)), (7, .inl (2)), (6, .inl (c0)), (4, .inl (mn)), (3, .inl (ct)), (2, .inl (n)), (1, .inl (t)), (0, .inr (.inr (some (770))))]) (st' := [.inl (2), .inr (.inr (some (770)))]) rfl ?_
                      refine ez_cv hBg t770 rfl rfl rfl tq_75 rfl rfl rfl (rd_mfail hBg t770 (by omega) (by omega) (fun gf hBf ff9 jf vf0 => ez_K1 ?_))
                      refine ez_retI rfl rfl (kF ?_ gf hBf ff9 jf vf0)
                      refine Or.inr ⟨by omega, ?_⟩
                      rw [← ec, ← ed1, ← ed2]
                      generalize mb h (a + 3) % 256 = d3 at *
                      refine Or.inr (Or.inr (Or.inr (Or.inl ⟨by omega, by omega, ?_⟩)))
                      unfold uD2; omega
              · skip
                refine ez_go (n := 2) (pc' := 191) (L' := [(10, .inl (f2)), (9, .inl (1)), (5, .inl (a + 1 + 1)), (8, .inl (p1)), (7, .inl (2)), (6, .inl (c0)), (4, .inl (mn)), (3, .inl (ct)), (2, .inl (n)), (1, .inl (t)), (0, .inr (.inr (some (770))))]) (st' := [.inl (2), .inr (.inr (some (770)))]) rfl ?_
                refine ez_cv hBg t770 rfl rfl rfl tq_75 rfl rfl rfl (rd_mfail hBg t770 (by omega) (by omega) (fun gf hBf ff9 jf vf0 => ez_K1 ?_))
                refine ez_retI rfl rfl (kF ?_ gf hBf ff9 jf vf0)
                refine Or.inr ⟨by omega, ?_⟩
                rw [← ec, ← ed1, ← ed2]
                generalize mb h (a + 3) % 256 = d3 at *
                refine Or.inr (Or.inr (Or.inr (Or.inl ⟨by omega, by omega, ?_⟩)))
                unfold uD2; omega
            · skip
              refine ez_go (n := 2) (pc' := 191) (L' := [(10, .inl (f1)), (9, .inl (0)), (5, .inl (a + 1)), (8, .inl (p0)), (7, .inl (2)), (6, .inl (c0)), (4, .inl (mn)), (3, .inl (ct)), (2, .inl (n)), (1, .inl (t)), (0, .inr (.inr (some (770))))]) (st' := [.inl (2), .inr (.inr (some (770)))]) rfl ?_
              refine ez_cv hBg t770 rfl rfl rfl tq_75 rfl rfl rfl (rd_mfail hBg t770 (by omega) (by omega) (fun gf hBf ff9 jf vf0 => ez_K1 ?_))
              refine ez_retI rfl rfl (kF ?_ gf hBf ff9 jf vf0)
              refine Or.inr ⟨by omega, ?_⟩
              rw [← ec, ← ed1]
              generalize mb h (a + 2) % 256 = d2 at *
              generalize mb h (a + 3) % 256 = d3 at *
              refine Or.inr (Or.inr (Or.inr (Or.inl ⟨by omega, by omega, ?_⟩)))
              unfold uD2; omega
      · skip
        refine ez_go (n := 4) (pc' := 133) (L' := [(7, .inl (1)), (6, .inl (c0)), (5, .inl (a)), (4, .inl (mn)), (3, .inl (ct)), (2, .inl (n)), (1, .inl (t)), (0, .inr (.inr (some (770))))]) (st' := [.inl (1)]) rfl ?_
        refine ez_if rfl rfl ⟨by decide, by decide⟩ (fun _ => ?_) (fun (c110 : ¬((0) ≤ (1 : Int))) => absurd c110 (by decide))
        refine ez_go (n := 1) (pc' := 144) (L' := [(7, .inl (1)), (6, .inl (c0)), (5, .inl (a)), (4, .inl (mn)), (3, .inl (ct)), (2, .inl (n)), (1, .inl (t)), (0, .inr (.inr (some (770))))]) (st' := [.inl (1)]) rfl ?_
        refine ez_if rfl rfl ⟨by decide, by decide⟩ (fun _ => ?_) (fun (c111 : ¬((1 : Int) ≠ (0))) => absurd c111 (by decide))
        refine ez_go (n := 11) (pc' := 172) (L' := [(9, .inl (0)), (5, .inl (a + 1)), (8, .inl ((Int32.ofInt (c0) &&& Int32.ofInt ((Int32.ofInt (63) >>> (Int32.ofInt (1) &&& 31)).toInt)).toInt)), (7, .inl (1)), (6, .inl (c0)), (4, .inl (mn)), (3, .inl (ct)), (2, .inl (n)), (1, .inl (t)), (0, .inr (.inr (some (770))))]) (st' := [.inl (1), .inl (0)]) rfl ?_
        obtain ⟨p0, ep0⟩ : ∃ p0, p0 = c0 - 192 := ⟨_, rfl⟩
        rw [show (Int32.ofInt (c0) &&& Int32.ofInt ((Int32.ofInt (63) >>> (Int32.ofInt (1) &&& 31)).toInt)).toInt = p0 by rw [u_l1 _ (by omega) (by omega)]; omega]
        refine ez_icmp rfl rfl ⟨by decide, by decide⟩ ⟨by decide, by decide⟩ (fun (c112 : (1) ≤ (0 : Int)) => absurd c112 (by decide)) (fun _ => ?_)
        refine ez_go (n := 3) (pc' := 179) (L' := [(9, .inl (0)), (5, .inl (a + 1)), (8, .inl (p0)), (7, .inl (1)), (6, .inl (c0)), (4, .inl (mn)), (3, .inl (ct)), (2, .inl (n)), (1, .inl (t)), (0, .inr (.inr (some (770))))]) (st' := [.inl (n), .inl (a + 1), .inr (.inr (some (770)))]) rfl ?_
        refine ez_cv hBg t770 rfl rfl rfl tq_75 rfl rfl rfl (rd_follow hBg t770 (by omega) (by omega) (by omega) (by omega) (fun f1 hf1 => ez_K1 ?_))
        obtain ⟨d1, ed1⟩ : ∃ d1, d1 = mb h (a + 1) % 256 := ⟨_, rfl⟩
        rw [bz, show a + 1 = a + 1 by omega, ← ed1] at hf1
        have db1 : 0 ≤ d1 ∧ d1 ≤ 255 := by omega
        unfold uF at hf1
        refine ez_go (n := 2) (pc' := 186) (L' := [(10, .inl (f1)), (9, .inl (0)), (5, .inl (a + 1)), (8, .inl (p0)), (7, .inl (1)), (6, .inl (c0)), (4, .inl (mn)), (3, .inl (ct)), (2, .inl (n)), (1, .inl (t)), (0, .inr (.inr (some (770))))]) (st' := [.inl (f1)]) rfl ?_
        refine ez_if rfl rfl ⟨by first | omega | exact (sz_i32 _).1, by first | omega | exact (sz_i32 _).2⟩ (fun (c113 : (0) ≤ (f1)) => ?_) (fun (c113 : ¬((0) ≤ (f1))) => ?_)
        · skip
          refine ez_go (n := 11) (pc' := 172) (L' := [(9, .inl (0 + 1)), (5, .inl (a + 1 + 1)), (8, .inl (((64) * (p0)) + (f1))), (10, .inl (f1)), (7, .inl (1)), (6, .inl (c0)), (4, .inl (mn)), (3, .inl (ct)), (2, .inl (n)), (1, .inl (t)), (0, .inr (.inr (some (770))))]) (st' := [.inl (1), .inl (0 + 1)]) rfl ?_
          obtain ⟨p1, ep1⟩ : ∃ p1, p1 = p0 * 64 + f1 := ⟨_, rfl⟩
          rw [show ((64) * (p0)) + (f1) = p1 by omega]
          rw [show ((0 : Int) + 1) = 1 from rfl]
          refine ez_icmp rfl rfl ⟨by decide, by decide⟩ ⟨by decide, by decide⟩ (fun _ => ?_) (fun (c114 : ¬((1 : Int) ≤ (1))) => absurd c114 (by decide))
          refine ez_go (n := 2) (pc' := 217) (L' := [(9, .inl (1)), (5, .inl (a + 1 + 1)), (8, .inl (p1)), (10, .inl (f1)), (7, .inl (1)), (6, .inl (c0)), (4, .inl (mn)), (3, .inl (ct)), (2, .inl (n)), (1, .inl (t)), (0, .inr (.inr (some (770))))]) (st' := [.inl (2), .inl (1)]) rfl ?_
          refine ez_icmp rfl rfl ⟨by decide, by decide⟩ ⟨by decide, by decide⟩ (fun _ => ?_) (fun (c115 : ¬((1 : Int) ≠ (2))) => absurd c115 (by decide))
          refine ez_go (n := 2) (pc' := 231) (L' := [(9, .inl (1)), (5, .inl (a + 1 + 1)), (8, .inl (p1)), (10, .inl (f1)), (7, .inl (1)), (6, .inl (c0)), (4, .inl (mn)), (3, .inl (ct)), (2, .inl (n)), (1, .inl (t)), (0, .inr (.inr (some (770))))]) (st' := [.inl (3), .inl (1)]) rfl ?_
          refine ez_icmp rfl rfl ⟨by decide, by decide⟩ ⟨by decide, by decide⟩ (fun _ => ?_) (fun (c116 : ¬((1 : Int) ≠ (3))) => absurd c116 (by decide))
          refine ez_go (n := 1) (pc' := 250) (L' := [(9, .inl (1)), (5, .inl (a + 1 + 1)), (8, .inl (p1)), (10, .inl (f1)), (7, .inl (1)), (6, .inl (c0)), (4, .inl (mn)), (3, .inl (ct)), (2, .inl (n)), (1, .inl (t)), (0, .inr (.inr (some (770))))]) (st' := [.inl (p1)]) rfl ?_
          refine ez_ldcV (55296) rfl rfl rfl ?_
          refine ez_icmp rfl rfl ⟨by first | omega | exact (sz_i32 _).1, by first | omega | exact (sz_i32 _).2⟩ ⟨by first | omega | exact (sz_i32 _).1, by first | omega | exact (sz_i32 _).2⟩ (fun (c117 : (p1) < (55296)) => ?_) (fun (c117 : ¬((p1) < (55296))) => ?_)
          · skip
            refine ez_less [(5, .inl (a + 1 + 1)), (8, .inl (p1)), (4, .inl (mn)), (3, .inl (ct)), (2, .inl (n)), (1, .inl (t)), (0, .inr (.inr (some (770))))] rfl ⟨rfl, rfl, rfl, rfl, rfl, rfl, rfl, trivial⟩ ?_
            have ev : uB (mb h) n a (p1) := by
              refine Or.inr ⟨by omega, ?_⟩
              rw [← ec, ← ed1]
              generalize mb h (a + 2) % 256 = d2 at *
              generalize mb h (a + 3) % 256 = d3 at *
              refine Or.inr (Or.inr (Or.inl ⟨by omega, by omega, ?_⟩))
              unfold uD1; omega
            have ew : uw (p1) = 2 := by first | (exfalso; omega) | (unfold uw; first | rw [if_pos (by omega)] | rw [if_neg (by omega), if_pos (by omega)] | rw [if_neg (by omega), if_neg (by omega), if_pos (by omega)] | rw [if_neg (by omega), if_neg (by omega), if_neg (by omega)])
            rw [show a + 1 + 1 = a + uw (p1) by omega]
            exact kN _ (by omega) (by omega) ev
          · skip
            refine ez_go (n := 1) (pc' := 258) (L' := [(9, .inl (1)), (5, .inl (a + 1 + 1)), (8, .inl (p1)), (10, .inl (f1)), (7, .inl (1)), (6, .inl (c0)), (4, .inl (mn)), (3, .inl (ct)), (2, .inl (n)), (1, .inl (t)), (0, .inr (.inr (some (770))))]) (st' := [.inl (p1)]) rfl ?_
            refine ez_ldcV (57344) rfl rfl rfl ?_
            refine ez_icmp rfl rfl ⟨by first | omega | exact (sz_i32 _).1, by first | omega | exact (sz_i32 _).2⟩ ⟨by first | omega | exact (sz_i32 _).1, by first | omega | exact (sz_i32 _).2⟩ (fun (c118 : (57344) ≤ (p1)) => ?_) (fun (c118 : ¬((57344) ≤ (p1))) => ?_)
            · skip
              refine ez_less [(5, .inl (a + 1 + 1)), (8, .inl (p1)), (4, .inl (mn)), (3, .inl (ct)), (2, .inl (n)), (1, .inl (t)), (0, .inr (.inr (some (770))))] rfl ⟨rfl, rfl, rfl, rfl, rfl, rfl, rfl, trivial⟩ ?_
              have ev : uB (mb h) n a (p1) := by
                refine Or.inr ⟨by omega, ?_⟩
                rw [← ec, ← ed1]
                generalize mb h (a + 2) % 256 = d2 at *
                generalize mb h (a + 3) % 256 = d3 at *
                refine Or.inr (Or.inr (Or.inl ⟨by omega, by omega, ?_⟩))
                unfold uD1; omega
              have ew : uw (p1) = 2 := by first | (exfalso; omega) | (unfold uw; first | rw [if_pos (by omega)] | rw [if_neg (by omega), if_pos (by omega)] | rw [if_neg (by omega), if_neg (by omega), if_pos (by omega)] | rw [if_neg (by omega), if_neg (by omega), if_neg (by omega)])
              rw [show a + 1 + 1 = a + uw (p1) by omega]
              exact kN _ (by omega) (by omega) ev
            · skip
              refine ez_go (n := 2) (pc' := 266) (L' := [(9, .inl (1)), (5, .inl (a + 1 + 1)), (8, .inl (p1)), (10, .inl (f1)), (7, .inl (1)), (6, .inl (c0)), (4, .inl (mn)), (3, .inl (ct)), (2, .inl (n)), (1, .inl (t)), (0, .inr (.inr (some (770))))]) (st' := [.inl (2), .inr (.inr (some (770)))]) rfl ?_
              refine ez_cv hBg t770 rfl rfl rfl tq_75 rfl rfl rfl (rd_mfail hBg t770 (by omega) (by omega) (fun gf hBf ff9 jf vf0 => ez_K1 ?_))
              refine ez_retI rfl rfl (kF ?_ gf hBf ff9 jf vf0)
              refine Or.inr ⟨by omega, ?_⟩
              rw [← ec, ← ed1]
              generalize mb h (a + 2) % 256 = d2 at *
              generalize mb h (a + 3) % 256 = d3 at *
              refine Or.inr (Or.inr (Or.inl ⟨by omega, by omega, ?_⟩))
              unfold uD1; omega
        · skip
          refine ez_go (n := 2) (pc' := 191) (L' := [(10, .inl (f1)), (9, .inl (0)), (5, .inl (a + 1)), (8, .inl (p0)), (7, .inl (1)), (6, .inl (c0)), (4, .inl (mn)), (3, .inl (ct)), (2, .inl (n)), (1, .inl (t)), (0, .inr (.inr (some (770))))]) (st' := [.inl (2), .inr (.inr (some (770)))]) rfl ?_
          refine ez_cv hBg t770 rfl rfl rfl tq_75 rfl rfl rfl (rd_mfail hBg t770 (by omega) (by omega) (fun gf hBf ff9 jf vf0 => ez_K1 ?_))
          refine ez_retI rfl rfl (kF ?_ gf hBf ff9 jf vf0)
          refine Or.inr ⟨by omega, ?_⟩
          rw [← ec, ← ed1]
          generalize mb h (a + 2) % 256 = d2 at *
          generalize mb h (a + 3) % 256 = d3 at *
          refine Or.inr (Or.inr (Or.inl ⟨by omega, by omega, ?_⟩))
          unfold uD1; omega
  · skip
    refine ez_go (n := 4) (pc' := 133) (L' := [(7, .inl (0)), (6, .inl (c0)), (5, .inl (a)), (4, .inl (mn)), (3, .inl (ct)), (2, .inl (n)), (1, .inl (t)), (0, .inr (.inr (some (770))))]) (st' := [.inl (0)]) rfl ?_
    refine ez_if rfl rfl ⟨by decide, by decide⟩ (fun _ => ?_) (fun (c119 : ¬((0 : Int) ≤ (0))) => absurd c119 (by decide))
    refine ez_go (n := 1) (pc' := 144) (L' := [(7, .inl (0)), (6, .inl (c0)), (5, .inl (a)), (4, .inl (mn)), (3, .inl (ct)), (2, .inl (n)), (1, .inl (t)), (0, .inr (.inr (some (770))))]) (st' := [.inl (0)]) rfl ?_
    refine ez_if rfl rfl ⟨by decide, by decide⟩ (fun (c120 : (0 : Int) ≠ (0)) => absurd c120 (by decide)) (fun _ => ?_)
    refine ez_go (n := 8) (pc' := 172) (L' := [(9, .inl (0)), (5, .inl (a + 1)), (8, .inl (c0)), (7, .inl (0)), (6, .inl (c0)), (4, .inl (mn)), (3, .inl (ct)), (2, .inl (n)), (1, .inl (t)), (0, .inr (.inr (some (770))))]) (st' := [.inl (0), .inl (0)]) rfl ?_
    refine ez_icmp rfl rfl ⟨by decide, by decide⟩ ⟨by decide, by decide⟩ (fun _ => ?_) (fun (c121 : ¬((0 : Int) ≤ (0))) => absurd c121 (by decide))
    refine ez_go (n := 2) (pc' := 217) (L' := [(9, .inl (0)), (5, .inl (a + 1)), (8, .inl (c0)), (7, .inl (0)), (6, .inl (c0)), (4, .inl (mn)), (3, .inl (ct)), (2, .inl (n)), (1, .inl (t)), (0, .inr (.inr (some (770))))]) (st' := [.inl (2), .inl (0)]) rfl ?_
    refine ez_icmp rfl rfl ⟨by decide, by decide⟩ ⟨by decide, by decide⟩ (fun _ => ?_) (fun (c122 : ¬((0 : Int) ≠ (2))) => absurd c122 (by decide))
    refine ez_go (n := 2) (pc' := 231) (L' := [(9, .inl (0)), (5, .inl (a + 1)), (8, .inl (c0)), (7, .inl (0)), (6, .inl (c0)), (4, .inl (mn)), (3, .inl (ct)), (2, .inl (n)), (1, .inl (t)), (0, .inr (.inr (some (770))))]) (st' := [.inl (3), .inl (0)]) rfl ?_
    refine ez_icmp rfl rfl ⟨by decide, by decide⟩ ⟨by decide, by decide⟩ (fun _ => ?_) (fun (c123 : ¬((0 : Int) ≠ (3))) => absurd c123 (by decide))
    refine ez_go (n := 1) (pc' := 250) (L' := [(9, .inl (0)), (5, .inl (a + 1)), (8, .inl (c0)), (7, .inl (0)), (6, .inl (c0)), (4, .inl (mn)), (3, .inl (ct)), (2, .inl (n)), (1, .inl (t)), (0, .inr (.inr (some (770))))]) (st' := [.inl (c0)]) rfl ?_
    refine ez_ldcV (55296) rfl rfl rfl ?_
    refine ez_icmp rfl rfl ⟨by first | omega | exact (sz_i32 _).1, by first | omega | exact (sz_i32 _).2⟩ ⟨by first | omega | exact (sz_i32 _).1, by first | omega | exact (sz_i32 _).2⟩ (fun (c124 : (c0) < (55296)) => ?_) (fun (c124 : ¬((c0) < (55296))) => ?_)
    · skip
      refine ez_less [(5, .inl (a + 1)), (8, .inl (c0)), (4, .inl (mn)), (3, .inl (ct)), (2, .inl (n)), (1, .inl (t)), (0, .inr (.inr (some (770))))] rfl ⟨rfl, rfl, rfl, rfl, rfl, rfl, rfl, trivial⟩ ?_
      have ev : uB (mb h) n a (c0) := by
        refine Or.inr ⟨by omega, ?_⟩
        rw [← ec]
        generalize mb h (a + 1) % 256 = d1 at *
        generalize mb h (a + 2) % 256 = d2 at *
        generalize mb h (a + 3) % 256 = d3 at *
        exact Or.inl ⟨by omega, by omega⟩
      have ew : uw (c0) = 1 := by first | (exfalso; omega) | (unfold uw; first | rw [if_pos (by omega)] | rw [if_neg (by omega), if_pos (by omega)] | rw [if_neg (by omega), if_neg (by omega), if_pos (by omega)] | rw [if_neg (by omega), if_neg (by omega), if_neg (by omega)])
      rw [show a + 1 = a + uw (c0) by omega]
      exact kN _ (by omega) (by omega) ev
    · skip
      refine ez_go (n := 1) (pc' := 258) (L' := [(9, .inl (0)), (5, .inl (a + 1)), (8, .inl (c0)), (7, .inl (0)), (6, .inl (c0)), (4, .inl (mn)), (3, .inl (ct)), (2, .inl (n)), (1, .inl (t)), (0, .inr (.inr (some (770))))]) (st' := [.inl (c0)]) rfl ?_
      refine ez_ldcV (57344) rfl rfl rfl ?_
      refine ez_icmp rfl rfl ⟨by first | omega | exact (sz_i32 _).1, by first | omega | exact (sz_i32 _).2⟩ ⟨by first | omega | exact (sz_i32 _).1, by first | omega | exact (sz_i32 _).2⟩ (fun (c125 : (57344) ≤ (c0)) => ?_) (fun (c125 : ¬((57344) ≤ (c0))) => ?_)
      · skip
        refine ez_less [(5, .inl (a + 1)), (8, .inl (c0)), (4, .inl (mn)), (3, .inl (ct)), (2, .inl (n)), (1, .inl (t)), (0, .inr (.inr (some (770))))] rfl ⟨rfl, rfl, rfl, rfl, rfl, rfl, rfl, trivial⟩ ?_
        have ev : uB (mb h) n a (c0) := by
          refine Or.inr ⟨by omega, ?_⟩
          rw [← ec]
          generalize mb h (a + 1) % 256 = d1 at *
          generalize mb h (a + 2) % 256 = d2 at *
          generalize mb h (a + 3) % 256 = d3 at *
          exact Or.inl ⟨by omega, by omega⟩
        have ew : uw (c0) = 1 := by first | (exfalso; omega) | (unfold uw; first | rw [if_pos (by omega)] | rw [if_neg (by omega), if_pos (by omega)] | rw [if_neg (by omega), if_neg (by omega), if_pos (by omega)] | rw [if_neg (by omega), if_neg (by omega), if_neg (by omega)])
        rw [show a + 1 = a + uw (c0) by omega]
        exact kN _ (by omega) (by omega) ev
      · skip
        refine ez_go (n := 2) (pc' := 266) (L' := [(9, .inl (0)), (5, .inl (a + 1)), (8, .inl (c0)), (7, .inl (0)), (6, .inl (c0)), (4, .inl (mn)), (3, .inl (ct)), (2, .inl (n)), (1, .inl (t)), (0, .inr (.inr (some (770))))]) (st' := [.inl (2), .inr (.inr (some (770)))]) rfl ?_
        refine ez_cv hBg t770 rfl rfl rfl tq_75 rfl rfl rfl (rd_mfail hBg t770 (by omega) (by omega) (fun gf hBf ff9 jf vf0 => ez_K1 ?_))
        exfalso; omega

theorem fr9 {h g g2 : cz_H} (a : ez_fr (nz_PL 796) h g) (b : ez_fr (ez_one 770) g g2) : ez_fr (nz_PL 796) h g2 := ⟨b.1.trans a.1, b.2.1.trans a.2.1, fun q hq => (b.2.2 q (by unfold nz_PL at hq; exact (Bool.or_eq_false_iff.mp hq).1)).trans (a.2.2 q hq)⟩
theorem rd_mtext_l {n t : Int} (hX : jz_X τ) (sl : slt h) (t770 : τ 770 = 75) (t0 : 0 ≤ t) (t7 : t ≤ 7) (n0 : 0 ≤ n) (n1 : n ≤ 4096) : ∀ (m : Nat) (a c mn ct : Int) (g : cz_H) (l : List Int), (n - a).toNat ≤ m → 0 ≤ a → a ≤ 4200 → 0 ≤ c → ((c ≤ 2000 ∧ ct = c ∧ mn = 0) ∨ (2000 < c ∧ ct = 2000 ∧ mn = 1)) → ez_B τ g → ez_fr (nz_PL 796) h g → (∀ j, qz_I g 770 j = qz_I h 770 j) → (c ≤ 2000 → uPm (mb h) n c.toNat a l ∧ ∀ (j : Nat) v, l[j]? = some v → qz_I g 796 j = v) → (uC (mb h) n a c (-1) → ∀ g2, ez_B τ g2 → ez_fr (nz_PL 796) h g2 → (∀ j, j ≠ 0 → qz_I g2 770 j = qz_I h 770 j) → qz_I g2 770 0 = 2 → Q (.inl (some (ez_v (.inl 0))), g2)) → (∀ r, 2000 < r → uC (mb h) n a c r → ∀ g2, ez_B τ g2 → ez_fr (nz_PL 796) h g2 → (∀ j, j ≠ 0 → qz_I g2 770 j = qz_I h 770 j) → qz_I g2 770 0 = 3 → Q (.inl (some (ez_v (.inl 0))), g2)) → (∀ r, 0 ≤ r → r ≤ 2000 → uC (mb h) n a c r → ∀ g2, ez_B τ g2 → ez_fr (nz_PL 796) h g2 → (∀ j, j ≠ 30 → qz_I g2 770 j = qz_I h 770 j) → ∀ g3 l a9, ez_B τ g3 → mxf t.toNat g2 g3 → uPm (mb h) n r.toNat a9 l → mx g3 t.toNat l → Q (.inl (some (ez_v (.inl r))), g3)) → ez_W (d + 1) cm_303 37 [(5, .inl (a)), (4, .inl (mn)), (3, .inl (ct)), (2, .inl (n)), (1, .inl (t)), (0, .inr (.inr (some (770))))] [] g Q := by
  intro m
  induction m with
  | zero =>
    intro a c mn ct g l hm a0 a2 c0 hc hBg hf hi9 hl k2 k3 k0
    have bz : mb g = mb h := funext fun i => hf.I rfl _
    refine ez_go (n := 2) (pc' := 40) (L' := [(5, .inl (a)), (4, .inl (mn)), (3, .inl (ct)), (2, .inl (n)), (1, .inl (t)), (0, .inr (.inr (some (770))))]) (st' := [.inl (n), .inl (a)]) rfl ?_
    refine ez_icmp rfl rfl ⟨by first | omega | exact (sz_i32 _).1, by first | omega | exact (sz_i32 _).2⟩ ⟨by first | omega | exact (sz_i32 _).1, by first | omega | exact (sz_i32 _).2⟩ (fun (c1 : (n) ≤ (a)) => ?_) (fun (c1 : ¬((n) ≤ (a))) => ?_)
    · skip
      refine ez_go (n := 1) (pc' := 299) (L' := [(5, .inl (a)), (4, .inl (mn)), (3, .inl (ct)), (2, .inl (n)), (1, .inl (t)), (0, .inr (.inr (some (770))))]) (st' := [.inl (mn)]) rfl ?_
      refine ez_if rfl rfl ⟨by first | omega | exact (sz_i32 _).1, by first | omega | exact (sz_i32 _).2⟩ (fun (c2 : (mn) = (0)) => ?_) (fun (c2 : ¬((mn) = (0))) => ?_)
      · skip
        refine ez_go (n := 2) (pc' := 310) (L' := [(5, .inl (a)), (4, .inl (mn)), (3, .inl (ct)), (2, .inl (n)), (1, .inl (t)), (0, .inr (.inr (some (770))))]) (st' := [.inl (ct), .inr (.inr (some (770)))]) rfl ?_
        refine ez_pf hBg t770 rfl rfl tq_75 rfl rfl rfl rfl (ez_vdI rfl rfl (by omega) (by omega)) (fun hB3 w4 => ?_)
        have vM : qz_I (dz_put g 770 30 (ez_v (.inl (ct)))) 770 30 = ct := w4.trans (rz_rd ⟨by omega, by omega⟩)
        have iM : ∀ j, j ≠ 30 → qz_I (dz_put g 770 30 (ez_v (.inl (ct)))) 770 j = qz_I g 770 j := fun j hj => ez_put_I (fun w => hj w.2)
        have fM : ez_fr (ez_one 770) g (dz_put g 770 30 (ez_v (.inl (ct)))) := (ez_fr.refl (ez_one 770) g).put rfl _ _
        have hM := hB3
        generalize (dz_put g 770 30 (ez_v (.inl (ct)))) = gm at *
        refine ez_go (n := 2) (pc' := 315) (L' := [(5, .inl (a)), (4, .inl (mn)), (3, .inl (ct)), (2, .inl (n)), (1, .inl (t)), (0, .inr (.inr (some (770))))]) (st' := [.inl (t), .inr (.inr (some (770)))]) rfl ?_
        obtain ⟨hp9, hm9⟩ := hl (by omega)
        have ll9 := uPm_len hp9
        have tmM : tm gm l := ⟨by rw [vM]; omega, fun j v hv => by rw [show qz_I gm 796 j = qz_I g 796 j from fM.I rfl j]; exact hm9 j v hv⟩
        have slM : slt gm := sl.k ((fM.2.2 195 rfl).trans (hf.2.2 195 rfl)) ((fM.2.2 773 rfl).trans (hf.2.2 773 rfl))
        refine ez_cv hM t770 rfl rfl rfl tq_75 rfl rfl rfl (rd_mtk hM hX slM tmM (fun j v hv => ⟨by have := ptl_at (uPm_ptl hp9) hv; omega, by have := ptl_at (uPm_ptl hp9) hv; omega⟩) (by omega) t0 t7 (fun g3 hB3 f3 m3 => ez_K1 ?_))
        rw [show (l.length : Int) = ct by omega]
        have ec : ct = c := by omega
        rw [ec]
        exact ez_retI rfl rfl (k0 c (by omega) (by omega) (uC.fin (by omega)) gm hM (fr9 hf fM) (fun j j0 => (iM j j0).trans (hi9 j)) g3 l a hB3 f3 hp9 m3)
      · skip
        refine ez_go (n := 2) (pc' := 304) (L' := [(5, .inl (a)), (4, .inl (mn)), (3, .inl (ct)), (2, .inl (n)), (1, .inl (t)), (0, .inr (.inr (some (770))))]) (st' := [.inl (3), .inr (.inr (some (770)))]) rfl ?_
        refine ez_cv hBg t770 rfl rfl rfl tq_75 rfl rfl rfl (rd_mfail hBg t770 (by omega) (by omega) (fun gf hBf ff9 jf vf0 => ez_K1 ?_))
        exact ez_retI rfl rfl (k3 c (by omega) (uC.fin (by omega)) gf hBf (fr9 hf ff9) (fun j j0 => (jf j j0).trans (hi9 j)) vf0)
    · skip
      exfalso; omega
  | succ m ih =>
    intro a c mn ct g l hm a0 a2 c0 hc hBg hf hi9 hl k2 k3 k0
    have bz : mb g = mb h := funext fun i => hf.I rfl _
    refine ez_go (n := 2) (pc' := 40) (L' := [(5, .inl (a)), (4, .inl (mn)), (3, .inl (ct)), (2, .inl (n)), (1, .inl (t)), (0, .inr (.inr (some (770))))]) (st' := [.inl (n), .inl (a)]) rfl ?_
    refine ez_icmp rfl rfl ⟨by first | omega | exact (sz_i32 _).1, by first | omega | exact (sz_i32 _).2⟩ ⟨by first | omega | exact (sz_i32 _).1, by first | omega | exact (sz_i32 _).2⟩ (fun (c1 : (n) ≤ (a)) => ?_) (fun (c1 : ¬((n) ≤ (a))) => ?_)
    · skip
      refine ez_go (n := 1) (pc' := 299) (L' := [(5, .inl (a)), (4, .inl (mn)), (3, .inl (ct)), (2, .inl (n)), (1, .inl (t)), (0, .inr (.inr (some (770))))]) (st' := [.inl (mn)]) rfl ?_
      refine ez_if rfl rfl ⟨by first | omega | exact (sz_i32 _).1, by first | omega | exact (sz_i32 _).2⟩ (fun (c2 : (mn) = (0)) => ?_) (fun (c2 : ¬((mn) = (0))) => ?_)
      · skip
        refine ez_go (n := 2) (pc' := 310) (L' := [(5, .inl (a)), (4, .inl (mn)), (3, .inl (ct)), (2, .inl (n)), (1, .inl (t)), (0, .inr (.inr (some (770))))]) (st' := [.inl (ct), .inr (.inr (some (770)))]) rfl ?_
        refine ez_pf hBg t770 rfl rfl tq_75 rfl rfl rfl rfl (ez_vdI rfl rfl (by omega) (by omega)) (fun hB3 w4 => ?_)
        have vM : qz_I (dz_put g 770 30 (ez_v (.inl (ct)))) 770 30 = ct := w4.trans (rz_rd ⟨by omega, by omega⟩)
        have iM : ∀ j, j ≠ 30 → qz_I (dz_put g 770 30 (ez_v (.inl (ct)))) 770 j = qz_I g 770 j := fun j hj => ez_put_I (fun w => hj w.2)
        have fM : ez_fr (ez_one 770) g (dz_put g 770 30 (ez_v (.inl (ct)))) := (ez_fr.refl (ez_one 770) g).put rfl _ _
        have hM := hB3
        generalize (dz_put g 770 30 (ez_v (.inl (ct)))) = gm at *
        refine ez_go (n := 2) (pc' := 315) (L' := [(5, .inl (a)), (4, .inl (mn)), (3, .inl (ct)), (2, .inl (n)), (1, .inl (t)), (0, .inr (.inr (some (770))))]) (st' := [.inl (t), .inr (.inr (some (770)))]) rfl ?_
        obtain ⟨hp9, hm9⟩ := hl (by omega)
        have ll9 := uPm_len hp9
        have tmM : tm gm l := ⟨by rw [vM]; omega, fun j v hv => by rw [show qz_I gm 796 j = qz_I g 796 j from fM.I rfl j]; exact hm9 j v hv⟩
        have slM : slt gm := sl.k ((fM.2.2 195 rfl).trans (hf.2.2 195 rfl)) ((fM.2.2 773 rfl).trans (hf.2.2 773 rfl))
        refine ez_cv hM t770 rfl rfl rfl tq_75 rfl rfl rfl (rd_mtk hM hX slM tmM (fun j v hv => ⟨by have := ptl_at (uPm_ptl hp9) hv; omega, by have := ptl_at (uPm_ptl hp9) hv; omega⟩) (by omega) t0 t7 (fun g3 hB3 f3 m3 => ez_K1 ?_))
        rw [show (l.length : Int) = ct by omega]
        have ec : ct = c := by omega
        rw [ec]
        exact ez_retI rfl rfl (k0 c (by omega) (by omega) (uC.fin (by omega)) gm hM (fr9 hf fM) (fun j j0 => (iM j j0).trans (hi9 j)) g3 l a hB3 f3 hp9 m3)
      · skip
        refine ez_go (n := 2) (pc' := 304) (L' := [(5, .inl (a)), (4, .inl (mn)), (3, .inl (ct)), (2, .inl (n)), (1, .inl (t)), (0, .inr (.inr (some (770))))]) (st' := [.inl (3), .inr (.inr (some (770)))]) rfl ?_
        refine ez_cv hBg t770 rfl rfl rfl tq_75 rfl rfl rfl (rd_mfail hBg t770 (by omega) (by omega) (fun gf hBf ff9 jf vf0 => ez_K1 ?_))
        exact ez_retI rfl rfl (k3 c (by omega) (uC.fin (by omega)) gf hBf (fr9 hf ff9) (fun j j0 => (jf j j0).trans (hi9 j)) vf0)
    · skip
      refine rd_mtext_1 t770 hBg bz (by omega) (by omega) n1 (fun hv gf b1 b2 b3 b4 => k2 (uC.bad (by omega) hv) gf b1 (fr9 hf b2) (fun j j0 => (b3 j j0).trans (hi9 j)) b4) (fun v v0 v1 hv => ?_)
      refine ez_go (n := 2) (pc' := 274) (L' := [(5, .inl (a + uw v)), (8, .inl (v)), (4, .inl (mn)), (3, .inl (ct)), (2, .inl (n)), (1, .inl (t)), (0, .inr (.inr (some (770))))]) (st' := [.inl (2000), .inl (ct)]) rfl ?_
      refine ez_icmp rfl rfl ⟨by first | omega | exact (sz_i32 _).1, by first | omega | exact (sz_i32 _).2⟩ ⟨by first | omega | exact (sz_i32 _).1, by first | omega | exact (sz_i32 _).2⟩ (fun (c5 : (ct) ≠ (2000)) => ?_) (fun (c5 : ¬((ct) ≠ (2000))) => ?_)
      · skip
        refine ez_go (n := 1) (pc' := 284) (L' := [(5, .inl (a + uw v)), (8, .inl (v)), (4, .inl (mn)), (3, .inl (ct)), (2, .inl (n)), (1, .inl (t)), (0, .inr (.inr (some (770))))]) (st' := [.inr (.inr (some (770)))]) rfl ?_
        refine ez_gC (p := 796) (tg := 83) hBg t770 rfl rfl tq_75 rfl rfl (fun (t796 : _ = 83) => ?_)
        refine ez_go (n := 2) (pc' := 290) (L' := [(5, .inl (a + uw v)), (8, .inl (v)), (4, .inl (mn)), (3, .inl (ct)), (2, .inl (n)), (1, .inl (t)), (0, .inr (.inr (some (770))))]) (st' := [.inl (v), .inl (ct), .inr (.inr (some (796)))]) rfl ?_
        have n8 : 2000 ≤ qz_N g 796 ∧ qz_N g 796 ≤ 2000 := ez_len hBg t796 tq_83 rfl
        refine ez_as hBg t796 rfl tq_83 rfl rfl (by omega) (by omega) (ez_vdI rfl rfl (by omega) (by omega)) (fun hB6 w7 => ?_)
        refine ez_go (n := 2) (pc' := 37) (L' := [(3, .inl (ct + 1)), (5, .inl (a + uw v)), (8, .inl (v)), (4, .inl (mn)), (2, .inl (n)), (1, .inl (t)), (0, .inr (.inr (some (770))))]) (st' := []) rfl ?_
        refine ez_less [(5, .inl (a + uw v)), (4, .inl (mn)), (3, .inl (ct + 1)), (2, .inl (n)), (1, .inl (t)), (0, .inr (.inr (some (770))))] rfl ⟨rfl, rfl, rfl, rfl, rfl, rfl, trivial⟩ ?_
        have wb := uw_bd v
        refine ih (a + uw v) (c + 1) _ _ _ (l ++ [v]) (by omega) (by omega) (by omega) (by omega) (by omega) hB6 (hf.put (show nz_PL 796 796 = true from rfl) _ _) (fun j => (ez_put_I (fun w => absurd w.1 (by decide))).trans (hi9 j)) (fun w9 => ?_) (fun r9 => k2 (uC.one (by omega) hv v0 r9)) (fun r r1 r9 => k3 r r1 (uC.one (by omega) hv v0 r9)) (fun r r0 r1 r9 => k0 r r0 r1 (uC.one (by omega) hv v0 r9))
        obtain ⟨hp9, hm9⟩ := hl (by omega)
        have ll9 := uPm_len hp9
        refine ⟨by rw [show (c + 1).toNat = c.toNat + 1 by omega]; exact ⟨a, l, v, hp9, by omega, hv, ⟨v0, v1⟩, rfl, rfl⟩, fun j x hx => ?_⟩
        by_cases ej : j < l.length
        · rw [List.getElem?_append_left ej] at hx
          rw [ez_put_I (fun w => by omega)]; exact hm9 j x hx
        · rw [List.getElem?_append_right (by omega)] at hx
          have e0 : j - l.length = 0 := by
            by_cases w : j - l.length = 0
            · exact w
            · rw [List.getElem?_eq_none (by rw [List.length_singleton]; omega)] at hx; cases hx
          rw [e0] at hx
          cases hx
          rw [show j = (ct).toNat by omega]; exact w7.trans (rz_rd ⟨by omega, by omega⟩)
      · skip
        refine ez_go (n := 4) (pc' := 37) (L' := [(4, .inl (1)), (5, .inl (a + uw v)), (8, .inl (v)), (3, .inl (ct)), (2, .inl (n)), (1, .inl (t)), (0, .inr (.inr (some (770))))]) (st' := []) rfl ?_
        refine ez_less [(5, .inl (a + uw v)), (4, .inl (1)), (3, .inl (ct)), (2, .inl (n)), (1, .inl (t)), (0, .inr (.inr (some (770))))] rfl ⟨rfl, rfl, rfl, rfl, rfl, rfl, trivial⟩ ?_
        have wb := uw_bd v
        exact ih (a + uw v) (c + 1) _ _ g (l ++ [v]) (by omega) (by omega) (by omega) (by omega) (by omega) hBg hf hi9 (fun w => by omega) (fun r9 => k2 (uC.one (by omega) hv v0 r9)) (fun r r1 r9 => k3 r r1 (uC.one (by omega) hv v0 r9)) (fun r r0 r1 r9 => k0 r r0 r1 (uC.one (by omega) hv v0 r9))

theorem rd_mtext {t n : Int} (hB : ez_B τ h) (hX : jz_X τ) (sl : slt h) (t770 : τ 770 = 75) (tr : ez_rg t) (hn : qz_I h 770 2 = n) (kA : t < 0 ∨ 7 < t → ∀ g, ez_B τ g → ez_fr (ez_one 770) h g → (∀ j, j ≠ 0 → qz_I g 770 j = qz_I h 770 j) → qz_I g 770 0 = 1 → Q (.inl (some (ez_v (.inl 0))), g)) (kB : 0 ≤ t ∧ t ≤ 7 → ∀ r, uC (mb h) n 0 0 r → r = -1 → ∀ h2, ez_B τ h2 → ez_fr (ez_one 770) h h2 → (∀ j, j ≠ 0 → j ≠ 2 → qz_I h2 770 j = qz_I h 770 j) → qz_I h2 770 2 = 0 → qz_I h2 770 0 = 0 → ∀ g2, ez_B τ g2 → ez_fr (nz_PL 796) h2 g2 → (∀ j, j ≠ 0 → qz_I g2 770 j = qz_I h2 770 j) → qz_I g2 770 0 = 2 → Q (.inl (some (ez_v (.inl 0))), g2)) (kC : 0 ≤ t ∧ t ≤ 7 → ∀ r, uC (mb h) n 0 0 r → 2000 < r → ∀ h2, ez_B τ h2 → ez_fr (ez_one 770) h h2 → (∀ j, j ≠ 0 → j ≠ 2 → qz_I h2 770 j = qz_I h 770 j) → qz_I h2 770 2 = 0 → qz_I h2 770 0 = 0 → ∀ g2, ez_B τ g2 → ez_fr (nz_PL 796) h2 g2 → (∀ j, j ≠ 0 → qz_I g2 770 j = qz_I h2 770 j) → qz_I g2 770 0 = 3 → Q (.inl (some (ez_v (.inl 0))), g2)) (kD : 0 ≤ t ∧ t ≤ 7 → ∀ r, uC (mb h) n 0 0 r → 0 ≤ r → r ≤ 2000 → ∀ h2, ez_B τ h2 → ez_fr (ez_one 770) h h2 → (∀ j, j ≠ 0 → j ≠ 2 → qz_I h2 770 j = qz_I h 770 j) → qz_I h2 770 2 = 0 → qz_I h2 770 0 = 0 → ∀ g2, ez_B τ g2 → ez_fr (nz_PL 796) h2 g2 → (∀ j, j ≠ 30 → qz_I g2 770 j = qz_I h2 770 j) → ∀ g3 l a9, ez_B τ g3 → mxf t.toNat g2 g3 → uPm (mb h) n r.toNat a9 l → mx g3 t.toNat l → Q (.inl (some (ez_v (.inl r))), g3)) : ez_W (d + 1) cm_303 0 [(0, .inr (.inr (some (770)))), (1, .inl (t))] [] h Q := by
  have b2 : 0 ≤ qz_I h 770 2 ∧ qz_I h 770 2 ≤ 4096 := ez_fB (cl := 11) (k := 2) hB t770 tq_75 rfl rfl (by decide)
  refine ez_go (n := 2) (pc' := 2) (L' := [(0, .inr (.inr (some (770)))), (1, .inl (t))]) (st' := [.inl (0), .inr (.inr (some (770)))]) rfl ?_
  refine ez_pf hB t770 rfl rfl tq_75 rfl rfl rfl rfl (ez_vdI rfl rfl (by omega) (by omega)) (fun hB1 w2 => ?_)
  have fP : ez_fr (ez_one 770) h (dz_put h 770 0 (ez_v (.inl (0)))) := (ez_fr.refl (ez_one 770) h).put rfl _ _
  have vP : qz_I (dz_put h 770 0 (ez_v (.inl (0)))) 770 0 = 0 := w2.trans (rz_rd ⟨by omega, by omega⟩)
  have iP : ∀ j, j ≠ 0 → qz_I (dz_put h 770 0 (ez_v (.inl (0)))) 770 j = qz_I h 770 j := fun j hj => ez_put_I (fun w => hj w.2)
  have hP := hB1
  generalize (dz_put h 770 0 (ez_v (.inl (0)))) = h1 at *
  have cP1 := fP.1; have cP2 := fP.2.1
  refine ez_go (n := 2) (pc' := 7) (L' := [(0, .inr (.inr (some (770)))), (1, .inl (t))]) (st' := [.inl (t), .inr (.inr (some (770)))]) rfl ?_
  refine ez_cv hP t770 rfl rfl rfl tq_75 rfl rfl rfl (rd_mout tr (fun w => ez_K1 ?_) (fun w => ez_K1 ?_))
  · skip
    refine ez_if rfl rfl ⟨by decide, by decide⟩ (fun (c3 : (1 : Int) = (0)) => absurd c3 (by decide)) (fun _ => ?_)
    refine ez_go (n := 2) (pc' := 15) (L' := [(0, .inr (.inr (some (770)))), (1, .inl (t))]) (st' := [.inl (1), .inr (.inr (some (770)))]) rfl ?_
    refine ez_cv hP t770 rfl rfl rfl tq_75 rfl rfl rfl (rd_mfail hP t770 (by omega) (by omega) (fun gf hBf ff9 jf vf0 => ez_K1 ?_))
    exact ez_retI rfl rfl (kA w gf hBf (fP.trans ff9) (fun j hj => by rw [jf j hj, iP j hj]) vf0)
  · skip
    refine ez_if rfl rfl ⟨by decide, by decide⟩ (fun _ => ?_) (fun (c4 : ¬((0 : Int) = (0))) => absurd c4 (by decide))
    refine ez_go (n := 1) (pc' := 20) (L' := [(0, .inr (.inr (some (770)))), (1, .inl (t))]) (st' := [.inr (.inr (some (770)))]) rfl ?_
    refine ez_gI hP t770 rfl rfl tq_75 rfl rfl (fun (b5 : 0 ≤ qz_I h1 770 2) (b5' : qz_I h1 770 2 ≤ 4096) => ?_)
    rw [iP 2 (by decide), hn]
    refine ez_go (n := 3) (pc' := 26) (L' := [(2, .inl (n)), (0, .inr (.inr (some (770)))), (1, .inl (t))]) (st' := [.inl (0), .inr (.inr (some (770)))]) rfl ?_
    refine ez_pf hP t770 rfl rfl tq_75 rfl rfl rfl rfl (ez_vdI rfl rfl (by omega) (by omega)) (fun hB6 w7 => ?_)
    have vT : qz_I (dz_put h1 770 2 (ez_v (.inl (0)))) 770 2 = 0 := w7.trans (rz_rd ⟨by omega, by omega⟩)
    have iT : ∀ j, j ≠ 2 → qz_I (dz_put h1 770 2 (ez_v (.inl (0)))) 770 j = qz_I h1 770 j := fun j hj => ez_put_I (fun w => hj w.2)
    have fT : ez_fr (ez_one 770) h1 (dz_put h1 770 2 (ez_v (.inl (0)))) := (ez_fr.refl (ez_one 770) h1).put rfl _ _
    have hT := hB6
    generalize (dz_put h1 770 2 (ez_v (.inl (0)))) = h2 at *
    have jT : ∀ j, j ≠ 0 → j ≠ 2 → qz_I h2 770 j = qz_I h 770 j := fun j j0 j2 => (iT j j2).trans (iP j j0)
    have bm : mb h2 = mb h := funext fun i => (fP.trans fT).I rfl _
    have v0T : qz_I h2 770 0 = 0 := (iT 0 (by decide)).trans vP
    refine ez_go (n := 6) (pc' := 37) (L' := [(5, .inl (0)), (4, .inl (0)), (3, .inl (0)), (2, .inl (n)), (0, .inr (.inr (some (770)))), (1, .inl (t))]) (st' := []) rfl ?_
    refine ez_less [(5, .inl (0)), (4, .inl (0)), (3, .inl (0)), (2, .inl (n)), (1, .inl (t)), (0, .inr (.inr (some (770))))] rfl ⟨rfl, rfl, rfl, rfl, rfl, rfl, trivial⟩ ?_
    have sl2 : slt h2 := sl.k ((fP.trans fT).2.2 195 rfl) ((fP.trans fT).2.2 773 rfl)
    refine rd_mtext_l (h := h2) hX sl2 t770 w.1 w.2 (by omega) (by omega) _ 0 0 0 0 h2 [] (Nat.le_refl _) (by omega) (by omega) (by omega) (by omega) hT (ez_fr.refl _ _) (fun _ => rfl) (fun _ => ⟨⟨rfl, rfl⟩, fun j v hv => by cases hv⟩) (fun r9 => kB w _ (bm ▸ r9) rfl h2 hT (fP.trans fT) jT vT v0T) (fun r r1 r9 => kC w _ (bm ▸ r9) r1 h2 hT (fP.trans fT) jT vT v0T) (fun r r0 r1 r9 g2 b1 b2 b3 g3 l a9 b4 b5 b6 b7 => kD w _ (bm ▸ r9) r0 r1 h2 hT (fP.trans fT) jT vT v0T g2 b1 b2 b3 g3 l a9 b4 b5 (bm ▸ b6) b7)

end EzU9
/-! The model: reset, with its texts. (Written by wip/p2/py/pvt15.py.) -/
section EzMT
variable {d : Nat} {h : cz_H} {τ : Nat → Nat} {Q : cz_F → Prop} {Ls : List vz}
theorem rd_mreT_l {bf : Int} (t770 : τ 770 = 75) (kx : ∀ g, ez_B τ g → ez_fr (ez_one 782) h g → (∀ s : Nat, s < 8 → qz_I g 782 s = 0) → Q (.inl (some (ez_v (.inl bf))), g)) : ∀ (n : Nat) (t : Int) (g : cz_H), n = (8 - t).toNat → 0 ≤ t → t ≤ 8 → ez_B τ g → ez_fr (ez_one 782) h g → (∀ s : Nat, (s : Int) < t → qz_I g 782 s = 0) → ez_W d cm_296 40 [(2, .inl (t)), (1, .inl (bf)), (0, .inr (.inr (some (770))))] [] g Q := by
  intro n
  induction n with
  | zero =>
    intro t g hn t0 t1 hBg hf hz
    refine ez_go (n := 2) (pc' := 43) (L' := [(2, .inl (t)), (1, .inl (bf)), (0, .inr (.inr (some (770))))]) (st' := [.inl (8), .inl (t)]) rfl ?_
    refine ez_icmp rfl rfl ⟨by first | omega | exact (sz_i32 _).1, by first | omega | exact (sz_i32 _).2⟩ ⟨by first | omega | exact (sz_i32 _).1, by first | omega | exact (sz_i32 _).2⟩ (fun (c1 : (8) ≤ (t)) => ?_) (fun (c1 : ¬((8) ≤ (t))) => ?_)
    · skip
      refine ez_go (n := 1) (pc' := 60) (L' := [(2, .inl (t)), (1, .inl (bf)), (0, .inr (.inr (some (770))))]) (st' := [.inl (bf)]) rfl ?_
      exact ez_retI rfl rfl (kx g hBg hf (fun s s8 => hz s (by omega)))
    · skip
      refine ez_go (n := 1) (pc' := 47) (L' := [(2, .inl (t)), (1, .inl (bf)), (0, .inr (.inr (some (770))))]) (st' := [.inr (.inr (some (770)))]) rfl ?_
      refine ez_gC (p := 782) (tg := 79) hBg t770 rfl rfl tq_75 rfl rfl (fun (t782 : _ = 79) => ?_)
      refine ez_go (n := 2) (pc' := 52) (L' := [(2, .inl (t)), (1, .inl (bf)), (0, .inr (.inr (some (770))))]) (st' := [.inl (0), .inl (t), .inr (.inr (some (782)))]) rfl ?_
      have n4 : 8 ≤ qz_N g 782 ∧ qz_N g 782 ≤ 8 := ez_len hBg t782 tq_79 rfl
      refine ez_as hBg t782 rfl tq_79 rfl rfl (by omega) (by omega) (ez_vdI rfl rfl (by omega) (by omega)) (fun hB2 w3 => ?_)
      refine ez_go (n := 2) (pc' := 40) (L' := [(2, .inl (t + 1)), (1, .inl (bf)), (0, .inr (.inr (some (770))))]) (st' := []) rfl ?_
      exfalso; omega
  | succ n ih =>
    intro t g hn t0 t1 hBg hf hz
    refine ez_go (n := 2) (pc' := 43) (L' := [(2, .inl (t)), (1, .inl (bf)), (0, .inr (.inr (some (770))))]) (st' := [.inl (8), .inl (t)]) rfl ?_
    refine ez_icmp rfl rfl ⟨by first | omega | exact (sz_i32 _).1, by first | omega | exact (sz_i32 _).2⟩ ⟨by first | omega | exact (sz_i32 _).1, by first | omega | exact (sz_i32 _).2⟩ (fun (c1 : (8) ≤ (t)) => ?_) (fun (c1 : ¬((8) ≤ (t))) => ?_)
    · skip
      refine ez_go (n := 1) (pc' := 60) (L' := [(2, .inl (t)), (1, .inl (bf)), (0, .inr (.inr (some (770))))]) (st' := [.inl (bf)]) rfl ?_
      exact ez_retI rfl rfl (kx g hBg hf (fun s s8 => hz s (by omega)))
    · skip
      refine ez_go (n := 1) (pc' := 47) (L' := [(2, .inl (t)), (1, .inl (bf)), (0, .inr (.inr (some (770))))]) (st' := [.inr (.inr (some (770)))]) rfl ?_
      refine ez_gC (p := 782) (tg := 79) hBg t770 rfl rfl tq_75 rfl rfl (fun (t782 : _ = 79) => ?_)
      refine ez_go (n := 2) (pc' := 52) (L' := [(2, .inl (t)), (1, .inl (bf)), (0, .inr (.inr (some (770))))]) (st' := [.inl (0), .inl (t), .inr (.inr (some (782)))]) rfl ?_
      have n4 : 8 ≤ qz_N g 782 ∧ qz_N g 782 ≤ 8 := ez_len hBg t782 tq_79 rfl
      refine ez_as hBg t782 rfl tq_79 rfl rfl (by omega) (by omega) (ez_vdI rfl rfl (by omega) (by omega)) (fun hB2 w3 => ?_)
      refine ez_go (n := 2) (pc' := 40) (L' := [(2, .inl (t + 1)), (1, .inl (bf)), (0, .inr (.inr (some (770))))]) (st' := []) rfl ?_
      refine ez_less [(2, .inl (t + 1)), (1, .inl (bf)), (0, .inr (.inr (some (770))))] rfl ⟨rfl, rfl, rfl, trivial⟩ ?_
      exact ih (t + 1) _ (by omega) (by omega) (by omega) hB2 (hf.put rfl _ _) (fun s s0 => by by_cases es : (s : Int) = t; (· rw [show s = (t).toNat by omega]; exact w3.trans (rz_rd ⟨by decide, by decide⟩)); (· rw [ez_put_I (fun w => by omega)]; exact hz s (by omega)))

theorem rd_mreT (hI : mI τ h Ls 0) (kx : ∀ v g, ((qz_I h 770 7 = 0 ∧ v = 0) ∨ (qz_I h 770 7 ≠ 0 ∧ v = 1)) → ez_B τ g → mI τ g [] 0 → (∀ q, τ q ≠ 0 → q ≠ 770 → q ≠ 782 → g.2.2 q = h.2.2 q) → (∀ j, j ≠ 0 → j ≠ 7 → j ≠ 8 → j ≠ 10 → j ≠ 12 → qz_I g 770 j = qz_I h 770 j) → qz_I g 770 7 = 0 → g.1 = h.1 → g.2.1 = h.2.1 → (∀ s : Nat, s < 8 → qz_I g 782 s = 0) → Q (.inl (some (ez_v (.inl v))), g)) : ez_W d cm_296 0 [(0, .inr (.inr (some (770))))] [] h Q := by
  have hB := hI.1
  have t770 : τ 770 = 75 := hI.2.1 770 (by decide)
  refine ez_go (n := 2) (pc' := 2) (L' := [(0, .inr (.inr (some (770))))]) (st' := [.inl (0), .inr (.inr (some (770)))]) rfl ?_
  refine ez_pf hB t770 rfl rfl tq_75 rfl rfl rfl rfl (ez_vdI rfl rfl (by omega) (by omega)) (fun hB1 w2 => ?_)
  have fP : ez_fr (ez_one 770) h (dz_put h 770 0 (ez_v (.inl (0)))) := (ez_fr.refl (ez_one 770) h).put rfl _ _
  have vP : qz_I (dz_put h 770 0 (ez_v (.inl (0)))) 770 0 = 0 := w2.trans (rz_rd ⟨by omega, by omega⟩)
  have iP : ∀ j, j ≠ 0 → qz_I (dz_put h 770 0 (ez_v (.inl (0)))) 770 j = qz_I h 770 j := fun j hj => ez_put_I (fun w => hj w.2)
  have hP := hB1
  generalize (dz_put h 770 0 (ez_v (.inl (0)))) = h1 at *
  have cP1 := fP.1; have cP2 := fP.2.1
  refine ez_go (n := 1) (pc' := 6) (L' := [(0, .inr (.inr (some (770))))]) (st' := [.inr (.inr (some (770)))]) rfl ?_
  refine ez_gI hP t770 rfl rfl tq_75 rfl rfl (fun (b3 : 0 ≤ qz_I h1 770 7) (b3' : qz_I h1 770 7 ≤ 1) => ?_)
  refine ez_if rfl rfl ⟨by first | omega | exact (sz_i32 _).1, by first | omega | exact (sz_i32 _).2⟩ (fun (c4 : (qz_I h1 770 7) = (0)) => ?_) (fun (c4 : ¬((qz_I h1 770 7) = (0))) => ?_)
  · skip
    refine ez_go (n := 4) (pc' := 20) (L' := [(1, .inl (0)), (0, .inr (.inr (some (770))))]) (st' := [.inl (0), .inr (.inr (some (770)))]) rfl ?_
    refine ez_pf hP t770 rfl rfl tq_75 rfl rfl rfl rfl (ez_vdI rfl rfl (by omega) (by omega)) (fun hB5 w6 => ?_)
    have fA : ez_fr (ez_one 770) h1 (dz_put h1 770 7 (ez_v (.inl (0)))) := (ez_fr.refl (ez_one 770) h1).put rfl _ _
    have vA : qz_I (dz_put h1 770 7 (ez_v (.inl (0)))) 770 7 = 0 := w6.trans (rz_rd ⟨by omega, by omega⟩)
    have iA : ∀ j, j ≠ 7 → qz_I (dz_put h1 770 7 (ez_v (.inl (0)))) 770 j = qz_I h1 770 j := fun j hj => ez_put_I (fun w => hj w.2)
    have hA := hB5
    generalize (dz_put h1 770 7 (ez_v (.inl (0)))) = r2 at *
    have cA1 := fA.1; have cA2 := fA.2.1
    refine ez_go (n := 2) (pc' := 25) (L' := [(1, .inl (0)), (0, .inr (.inr (some (770))))]) (st' := [.inl (0), .inr (.inr (some (770)))]) rfl ?_
    refine ez_pf hA t770 rfl rfl tq_75 rfl rfl rfl rfl (ez_vdI rfl rfl (by omega) (by omega)) (fun hB7 w8 => ?_)
    have fB : ez_fr (ez_one 770) r2 (dz_put r2 770 12 (ez_v (.inl (0)))) := (ez_fr.refl (ez_one 770) r2).put rfl _ _
    have vB : qz_I (dz_put r2 770 12 (ez_v (.inl (0)))) 770 12 = 0 := w8.trans (rz_rd ⟨by omega, by omega⟩)
    have iB : ∀ j, j ≠ 12 → qz_I (dz_put r2 770 12 (ez_v (.inl (0)))) 770 j = qz_I r2 770 j := fun j hj => ez_put_I (fun w => hj w.2)
    have hB := hB7
    generalize (dz_put r2 770 12 (ez_v (.inl (0)))) = r3 at *
    have cB1 := fB.1; have cB2 := fB.2.1
    refine ez_go (n := 2) (pc' := 30) (L' := [(1, .inl (0)), (0, .inr (.inr (some (770))))]) (st' := [.inl (0), .inr (.inr (some (770)))]) rfl ?_
    refine ez_pf hB t770 rfl rfl tq_75 rfl rfl rfl rfl (ez_vdI rfl rfl (by omega) (by omega)) (fun hB9 w10 => ?_)
    have fC : ez_fr (ez_one 770) r3 (dz_put r3 770 10 (ez_v (.inl (0)))) := (ez_fr.refl (ez_one 770) r3).put rfl _ _
    have vC : qz_I (dz_put r3 770 10 (ez_v (.inl (0)))) 770 10 = 0 := w10.trans (rz_rd ⟨by omega, by omega⟩)
    have iC : ∀ j, j ≠ 10 → qz_I (dz_put r3 770 10 (ez_v (.inl (0)))) 770 j = qz_I r3 770 j := fun j hj => ez_put_I (fun w => hj w.2)
    have hC := hB9
    generalize (dz_put r3 770 10 (ez_v (.inl (0)))) = r4 at *
    have cC1 := fC.1; have cC2 := fC.2.1
    refine ez_go (n := 2) (pc' := 35) (L' := [(1, .inl (0)), (0, .inr (.inr (some (770))))]) (st' := [.inl (0), .inr (.inr (some (770)))]) rfl ?_
    refine ez_pf hC t770 rfl rfl tq_75 rfl rfl rfl rfl (ez_vdI rfl rfl (by omega) (by omega)) (fun hB11 w12 => ?_)
    have fD : ez_fr (ez_one 770) r4 (dz_put r4 770 8 (ez_v (.inl (0)))) := (ez_fr.refl (ez_one 770) r4).put rfl _ _
    have vD : qz_I (dz_put r4 770 8 (ez_v (.inl (0)))) 770 8 = 0 := w12.trans (rz_rd ⟨by omega, by omega⟩)
    have iD : ∀ j, j ≠ 8 → qz_I (dz_put r4 770 8 (ez_v (.inl (0)))) 770 j = qz_I r4 770 j := fun j hj => ez_put_I (fun w => hj w.2)
    have hD := hB11
    generalize (dz_put r4 770 8 (ez_v (.inl (0)))) = r5 at *
    have cD1 := fD.1; have cD2 := fD.2.1
    refine ez_go (n := 2) (pc' := 40) (L' := [(2, .inl (0)), (1, .inl (0)), (0, .inr (.inr (some (770))))]) (st' := []) rfl ?_
    refine ez_less [(2, .inl (0)), (1, .inl (0)), (0, .inr (.inr (some (770))))] rfl ⟨rfl, rfl, rfl, trivial⟩ ?_
    have t782 : τ 782 = 79 := hI.2.1 782 (by decide)
    have fZ : ez_fr (ez_one 770) h r5 := ((((fP.trans fA).trans fB).trans fC).trans fD)
    have iZ : ∀ j, j ≠ 0 → j ≠ 7 → j ≠ 8 → j ≠ 10 → j ≠ 12 → qz_I r5 770 j = qz_I h 770 j := fun j j0 j7 j8 j10 j12 => by rw [iD j j8, iC j j10, iB j j12, iA j j7, iP j j0]
    have z7 : qz_I r5 770 7 = 0 := by rw [iD 7 (by decide), iC 7 (by decide), iB 7 (by decide)]; exact vA
    have z12 : qz_I r5 770 12 = 0 := by rw [iD 12 (by decide), iC 12 (by decide)]; exact vB
    have z10 : qz_I r5 770 10 = 0 := by rw [iD 10 (by decide)]; exact vC
    refine rd_mreT_l t770 (fun g hBg fg z82 => ?_) _ 0 r5 rfl (by omega) (by omega) hD (ez_fr.refl _ _) (fun s s0 => by omega)
    have i7 : ∀ j, qz_I g 770 j = qz_I r5 770 j := fun j => fg.I rfl j
    have cell : ∀ q, q ≠ 770 → q ≠ 782 → g.2.2 q = h.2.2 q := fun q q1 q2 => by rw [fg.2.2 q (dz_beq_ne q2), fZ.2.2 q (dz_beq_ne q1)]
    have el : lc g = 0 := (i7 12).trans z12
    have en : pn g = 0 := (i7 10).trans z10
    have e9 : po g = po h := by unfold po qz_P; rw [i7 9, iZ 9 (by decide) (by decide) (by decide) (by decide) (by decide)]
    have e11 : ls g = ls h := by unfold ls qz_P; rw [i7 11, iZ 11 (by decide) (by decide) (by decide) (by decide) (by decide)]
    have tt := ez_tls hI.1 t770
    have ct : ∀ {q t : Nat}, τ q = t → t ≠ 75 → t ≠ 79 → g.2.2 q = h.2.2 q := fun {q t} hq h1 h2 => cell q (fun w => by rw [w, t770] at hq; exact h1 hq.symm) (fun w => by rw [w, t782] at hq; exact h2 hq.symm)
    have eN : qz_N g (po h) = qz_N h (po h) := by unfold qz_N; rw [ct tt.2 (by decide) (by decide)]
    have eM : qz_N g (ls h) = qz_N h (ls h) := by unfold qz_N; rw [ct tt.1 (by decide) (by decide)]
    have n1 := qz_N_nn h (po h)
    have n2 := qz_N_nn h (ls h)
    obtain ⟨i1, i2, i3, i4, m, ⟨y1, y2⟩, -⟩ := id hI
    have i7h := iP 7 (by decide)
    refine kx _ g (by omega) hBg ⟨hBg, i2, ⟨⟨by rw [el, e11, eM]; exact n2, by rw [en, e9, eN]; exact n1⟩, ?_, by rw [en, el]; decide⟩, ⟨fun i hi => by rw [el] at hi; omega, fun i j hi => by rw [el] at hi; omega⟩, ⟨fun r hr => ?_, fun r hr => ?_⟩, ⟨fun s w hs => ?_, ?_⟩, ?_, fun k x hx => by simp at hx⟩ (fun q _ q1 q2 => cell q q1 q2) (fun j j0 j7 j8 j10 j12 => (i7 j).trans (iZ j j0 j7 j8 j10 j12)) ((i7 7).trans z7) (fg.1.trans fZ.1) (fg.2.1.trans fZ.2.1) z82
    · rw [el, i7]; exact vD
    · obtain ⟨m1, m2⟩ := m.1 r hr
      refine ⟨m1, fun j => ?_⟩
      have := m2 j
      rw [e9, eN]; unfold qz_I at this ⊢; rw [ct hr (by decide) (by decide), ct m1 (by decide) (by decide)]; exact this
    · obtain ⟨m1, m2, m3⟩ := m.2 r hr
      refine ⟨m1, m2, ?_⟩
      rw [e9, eN]; unfold qz_I at m3 ⊢; rw [ct hr (by decide) (by decide), ct m1 (by decide) (by decide), ct m2 (by decide) (by decide)]; exact m3
    · obtain ⟨u1, u2, u3⟩ := y1 s w hs
      obtain ⟨w1, w2⟩ := nz_hz i1 i2 s w hs
      have e1 := ct w1 (by decide) (by decide)
      have e2 := ct w2 (by decide) (by decide)
      have e3 : qz_P g s 0 = qz_P h s 0 := by unfold qz_P qz_I; rw [e1]
      refine ⟨?_, u2, by rw [e3]; exact u3⟩
      unfold nz_S at *
      rw [e3]
      unfold qz_N qz_I at *
      rw [e2]
      exact u1
    · have nn26 : ∀ p, 785 ≤ p → p ≤ 788 → g.2.2 p = h.2.2 p := fun p p1 p2 => by
        have tn : τ p = 26 := by
          have : p = 785 ∨ p = 786 ∨ p = 787 ∨ p = 788 := by omega
          rcases this with e | e | e | e <;> subst e
          · exact i2 785 (by decide)
          · exact i2 786 (by decide)
          · exact i2 787 (by decide)
          · exact i2 788 (by decide)
        exact ct tn (by decide) (by decide)
      refine ⟨fun p p1 p2 k hk => ?_, ?_, nmx_c y2.2.2 nn26⟩
      · have tn : τ p = 26 := by
          have : p = 785 ∨ p = 786 ∨ p = 787 ∨ p = 788 := by omega
          rcases this with e | e | e | e <;> subst e
          · exact i2 785 (by decide)
          · exact i2 786 (by decide)
          · exact i2 787 (by decide)
          · exact i2 788 (by decide)
        have e := ct tn (by decide) (by decide)
        have e1 : qz_P g p k = qz_P h p k := by unfold qz_P qz_I; rw [e]
        have e2 : qz_N g p = qz_N h p := by unfold qz_N; rw [e]
        rw [e1]; rw [e2] at hk; exact y2.1 p p1 p2 k hk
      · have e := ct (show τ 786 = 26 from i2 786 (by decide)) (by decide) (by decide)
        have e1 : qz_P g 786 0 = qz_P h 786 0 := by unfold qz_P qz_I; rw [e]
        rw [e1]; exact y2.2.1
    · rw [el]; rfl
  · skip
    refine ez_go (n := 5) (pc' := 20) (L' := [(1, .inl (1)), (0, .inr (.inr (some (770))))]) (st' := [.inl (0), .inr (.inr (some (770)))]) rfl ?_
    refine ez_pf hP t770 rfl rfl tq_75 rfl rfl rfl rfl (ez_vdI rfl rfl (by omega) (by omega)) (fun hB13 w14 => ?_)
    have fA : ez_fr (ez_one 770) h1 (dz_put h1 770 7 (ez_v (.inl (0)))) := (ez_fr.refl (ez_one 770) h1).put rfl _ _
    have vA : qz_I (dz_put h1 770 7 (ez_v (.inl (0)))) 770 7 = 0 := w14.trans (rz_rd ⟨by omega, by omega⟩)
    have iA : ∀ j, j ≠ 7 → qz_I (dz_put h1 770 7 (ez_v (.inl (0)))) 770 j = qz_I h1 770 j := fun j hj => ez_put_I (fun w => hj w.2)
    have hA := hB13
    generalize (dz_put h1 770 7 (ez_v (.inl (0)))) = r2 at *
    have cA1 := fA.1; have cA2 := fA.2.1
    refine ez_go (n := 2) (pc' := 25) (L' := [(1, .inl (1)), (0, .inr (.inr (some (770))))]) (st' := [.inl (0), .inr (.inr (some (770)))]) rfl ?_
    refine ez_pf hA t770 rfl rfl tq_75 rfl rfl rfl rfl (ez_vdI rfl rfl (by omega) (by omega)) (fun hB15 w16 => ?_)
    have fB : ez_fr (ez_one 770) r2 (dz_put r2 770 12 (ez_v (.inl (0)))) := (ez_fr.refl (ez_one 770) r2).put rfl _ _
    have vB : qz_I (dz_put r2 770 12 (ez_v (.inl (0)))) 770 12 = 0 := w16.trans (rz_rd ⟨by omega, by omega⟩)
    have iB : ∀ j, j ≠ 12 → qz_I (dz_put r2 770 12 (ez_v (.inl (0)))) 770 j = qz_I r2 770 j := fun j hj => ez_put_I (fun w => hj w.2)
    have hB := hB15
    generalize (dz_put r2 770 12 (ez_v (.inl (0)))) = r3 at *
    have cB1 := fB.1; have cB2 := fB.2.1
    refine ez_go (n := 2) (pc' := 30) (L' := [(1, .inl (1)), (0, .inr (.inr (some (770))))]) (st' := [.inl (0), .inr (.inr (some (770)))]) rfl ?_
    refine ez_pf hB t770 rfl rfl tq_75 rfl rfl rfl rfl (ez_vdI rfl rfl (by omega) (by omega)) (fun hB17 w18 => ?_)
    have fC : ez_fr (ez_one 770) r3 (dz_put r3 770 10 (ez_v (.inl (0)))) := (ez_fr.refl (ez_one 770) r3).put rfl _ _
    have vC : qz_I (dz_put r3 770 10 (ez_v (.inl (0)))) 770 10 = 0 := w18.trans (rz_rd ⟨by omega, by omega⟩)
    have iC : ∀ j, j ≠ 10 → qz_I (dz_put r3 770 10 (ez_v (.inl (0)))) 770 j = qz_I r3 770 j := fun j hj => ez_put_I (fun w => hj w.2)
    have hC := hB17
    generalize (dz_put r3 770 10 (ez_v (.inl (0)))) = r4 at *
    have cC1 := fC.1; have cC2 := fC.2.1
    refine ez_go (n := 2) (pc' := 35) (L' := [(1, .inl (1)), (0, .inr (.inr (some (770))))]) (st' := [.inl (0), .inr (.inr (some (770)))]) rfl ?_
    refine ez_pf hC t770 rfl rfl tq_75 rfl rfl rfl rfl (ez_vdI rfl rfl (by omega) (by omega)) (fun hB19 w20 => ?_)
    have fD : ez_fr (ez_one 770) r4 (dz_put r4 770 8 (ez_v (.inl (0)))) := (ez_fr.refl (ez_one 770) r4).put rfl _ _
    have vD : qz_I (dz_put r4 770 8 (ez_v (.inl (0)))) 770 8 = 0 := w20.trans (rz_rd ⟨by omega, by omega⟩)
    have iD : ∀ j, j ≠ 8 → qz_I (dz_put r4 770 8 (ez_v (.inl (0)))) 770 j = qz_I r4 770 j := fun j hj => ez_put_I (fun w => hj w.2)
    have hD := hB19
    generalize (dz_put r4 770 8 (ez_v (.inl (0)))) = r5 at *
    have cD1 := fD.1; have cD2 := fD.2.1
    refine ez_go (n := 2) (pc' := 40) (L' := [(2, .inl (0)), (1, .inl (1)), (0, .inr (.inr (some (770))))]) (st' := []) rfl ?_
    refine ez_less [(2, .inl (0)), (1, .inl (1)), (0, .inr (.inr (some (770))))] rfl ⟨rfl, rfl, rfl, trivial⟩ ?_
    have t782 : τ 782 = 79 := hI.2.1 782 (by decide)
    have fZ : ez_fr (ez_one 770) h r5 := ((((fP.trans fA).trans fB).trans fC).trans fD)
    have iZ : ∀ j, j ≠ 0 → j ≠ 7 → j ≠ 8 → j ≠ 10 → j ≠ 12 → qz_I r5 770 j = qz_I h 770 j := fun j j0 j7 j8 j10 j12 => by rw [iD j j8, iC j j10, iB j j12, iA j j7, iP j j0]
    have z7 : qz_I r5 770 7 = 0 := by rw [iD 7 (by decide), iC 7 (by decide), iB 7 (by decide)]; exact vA
    have z12 : qz_I r5 770 12 = 0 := by rw [iD 12 (by decide), iC 12 (by decide)]; exact vB
    have z10 : qz_I r5 770 10 = 0 := by rw [iD 10 (by decide)]; exact vC
    refine rd_mreT_l t770 (fun g hBg fg z82 => ?_) _ 0 r5 rfl (by omega) (by omega) hD (ez_fr.refl _ _) (fun s s0 => by omega)
    have i7 : ∀ j, qz_I g 770 j = qz_I r5 770 j := fun j => fg.I rfl j
    have cell : ∀ q, q ≠ 770 → q ≠ 782 → g.2.2 q = h.2.2 q := fun q q1 q2 => by rw [fg.2.2 q (dz_beq_ne q2), fZ.2.2 q (dz_beq_ne q1)]
    have el : lc g = 0 := (i7 12).trans z12
    have en : pn g = 0 := (i7 10).trans z10
    have e9 : po g = po h := by unfold po qz_P; rw [i7 9, iZ 9 (by decide) (by decide) (by decide) (by decide) (by decide)]
    have e11 : ls g = ls h := by unfold ls qz_P; rw [i7 11, iZ 11 (by decide) (by decide) (by decide) (by decide) (by decide)]
    have tt := ez_tls hI.1 t770
    have ct : ∀ {q t : Nat}, τ q = t → t ≠ 75 → t ≠ 79 → g.2.2 q = h.2.2 q := fun {q t} hq h1 h2 => cell q (fun w => by rw [w, t770] at hq; exact h1 hq.symm) (fun w => by rw [w, t782] at hq; exact h2 hq.symm)
    have eN : qz_N g (po h) = qz_N h (po h) := by unfold qz_N; rw [ct tt.2 (by decide) (by decide)]
    have eM : qz_N g (ls h) = qz_N h (ls h) := by unfold qz_N; rw [ct tt.1 (by decide) (by decide)]
    have n1 := qz_N_nn h (po h)
    have n2 := qz_N_nn h (ls h)
    obtain ⟨i1, i2, i3, i4, m, ⟨y1, y2⟩, -⟩ := id hI
    have i7h := iP 7 (by decide)
    refine kx _ g (by omega) hBg ⟨hBg, i2, ⟨⟨by rw [el, e11, eM]; exact n2, by rw [en, e9, eN]; exact n1⟩, ?_, by rw [en, el]; decide⟩, ⟨fun i hi => by rw [el] at hi; omega, fun i j hi => by rw [el] at hi; omega⟩, ⟨fun r hr => ?_, fun r hr => ?_⟩, ⟨fun s w hs => ?_, ?_⟩, ?_, fun k x hx => by simp at hx⟩ (fun q _ q1 q2 => cell q q1 q2) (fun j j0 j7 j8 j10 j12 => (i7 j).trans (iZ j j0 j7 j8 j10 j12)) ((i7 7).trans z7) (fg.1.trans fZ.1) (fg.2.1.trans fZ.2.1) z82
    · rw [el, i7]; exact vD
    · obtain ⟨m1, m2⟩ := m.1 r hr
      refine ⟨m1, fun j => ?_⟩
      have := m2 j
      rw [e9, eN]; unfold qz_I at this ⊢; rw [ct hr (by decide) (by decide), ct m1 (by decide) (by decide)]; exact this
    · obtain ⟨m1, m2, m3⟩ := m.2 r hr
      refine ⟨m1, m2, ?_⟩
      rw [e9, eN]; unfold qz_I at m3 ⊢; rw [ct hr (by decide) (by decide), ct m1 (by decide) (by decide), ct m2 (by decide) (by decide)]; exact m3
    · obtain ⟨u1, u2, u3⟩ := y1 s w hs
      obtain ⟨w1, w2⟩ := nz_hz i1 i2 s w hs
      have e1 := ct w1 (by decide) (by decide)
      have e2 := ct w2 (by decide) (by decide)
      have e3 : qz_P g s 0 = qz_P h s 0 := by unfold qz_P qz_I; rw [e1]
      refine ⟨?_, u2, by rw [e3]; exact u3⟩
      unfold nz_S at *
      rw [e3]
      unfold qz_N qz_I at *
      rw [e2]
      exact u1
    · have nn26 : ∀ p, 785 ≤ p → p ≤ 788 → g.2.2 p = h.2.2 p := fun p p1 p2 => by
        have tn : τ p = 26 := by
          have : p = 785 ∨ p = 786 ∨ p = 787 ∨ p = 788 := by omega
          rcases this with e | e | e | e <;> subst e
          · exact i2 785 (by decide)
          · exact i2 786 (by decide)
          · exact i2 787 (by decide)
          · exact i2 788 (by decide)
        exact ct tn (by decide) (by decide)
      refine ⟨fun p p1 p2 k hk => ?_, ?_, nmx_c y2.2.2 nn26⟩
      · have tn : τ p = 26 := by
          have : p = 785 ∨ p = 786 ∨ p = 787 ∨ p = 788 := by omega
          rcases this with e | e | e | e <;> subst e
          · exact i2 785 (by decide)
          · exact i2 786 (by decide)
          · exact i2 787 (by decide)
          · exact i2 788 (by decide)
        have e := ct tn (by decide) (by decide)
        have e1 : qz_P g p k = qz_P h p k := by unfold qz_P qz_I; rw [e]
        have e2 : qz_N g p = qz_N h p := by unfold qz_N; rw [e]
        rw [e1]; rw [e2] at hk; exact y2.1 p p1 p2 k hk
      · have e := ct (show τ 786 = 26 from i2 786 (by decide)) (by decide) (by decide)
        have e1 : qz_P g 786 0 = qz_P h 786 0 := by unfold qz_P qz_I; rw [e]
        rw [e1]; exact y2.2.1
    · rw [el]; rfl

end EzMT
