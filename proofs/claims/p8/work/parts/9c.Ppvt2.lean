/-! The class: full decompositions into a text. (Written by wip/p2/py/pvt2.py.) -/
section EzFu
variable {d : Nat} {h : cz_H} {τ : Nat → Nat} {Q : cz_F → Prop} {T : Int → Nat} {F : rz_W} {E : Int → Prop} {r : Nat} {l : List Int}
theorem tx_keep {g : cz_H} (hB : ez_B τ h) (tr : τ r = 1) (f : ez_fr (tx_P r) h g) {q : Nat} (q1 : τ q ≠ 1) (q2 : τ q ≠ 2) : g.2.2 q = h.2.2 q := f.2.2 q (tx_Pn (fun e => q1 (by rw [e]; exact tr)) (fun e => q2 (by rw [e]; exact tx_p1 hB tr)))
theorem tx_kD {g : cz_H} (hB : ez_B τ h) (tr : τ r = 1) (f : ez_fr (tx_P r) h g) : ∀ q, kD (τ q) = true → g.2.2 q = h.2.2 q := fun q hq => tx_keep hB tr f (fun e => by rw [e] at hq; cases hq) (fun e => by rw [e] at hq; cases hq)
theorem rd_fSyl_l {x : Int} (tr : τ r = 1) (hx : hz x) (k1 : l.length + (hz_sy x).length ≤ 2000 → ∀ g, ez_B τ g → ez_fr (tx_P r) h g → tx g r (l ++ hz_sy x) → Q (.inl (some (ez_v (.inl 1))), g)) (k0 : 2000 < l.length + (hz_sy x).length → ∀ g, ez_B τ g → ez_fr (tx_P r) h g → Q (.inl (some (ez_v (.inl 0))), g)) : ∀ (m : Nat) (i : Int) (g : cz_H), m = (((hz_sy x).length : Int) - i).toNat → 0 ≤ i → i ≤ ((hz_sy x).length : Int) → ez_B τ g → ez_fr (tx_P r) h g → tx g r (l ++ (hz_sy x).take i.toNat) → ez_W (d + 1) cm_111 2 [(2, .inl (i)), (0, .inl (x)), (1, .inr (.inr (some (r))))] [] g Q := by
  have x0 := hx.1
  have x1 := hx.2
  intro m
  induction m with
  | zero =>
    intro i g hm i0 i1 hBg hf a
    have hlen := hz_sy_len x
    have hal : (l ++ (hz_sy x).take i.toNat).length = l.length + i.toNat := by rw [List.length_append, List.length_take]; omega
    have al := tx_l1 hBg tr
    rw [a.1] at al
    refine ez_go (n := 2) (pc' := 4) (L' := [(2, .inl (i)), (0, .inl (x)), (1, .inr (.inr (some (r))))]) (st' := [.inl (x), .inl (i)]) rfl ?_
    refine ez_cs hBg.2.1 rfl rfl rfl rfl rfl (rd_sylLen hx (ez_K1 ?_))
    refine ez_icmp rfl rfl ⟨by first | omega | exact (sz_i32 _).1, by first | omega | exact (sz_i32 _).2⟩ ⟨by first | omega | exact (sz_i32 _).1, by first | omega | exact (sz_i32 _).2⟩ (fun (c1 : (((hz_sy x).length : Int)) ≤ (i)) => ?_) (fun (c1 : ¬((((hz_sy x).length : Int)) ≤ (i))) => ?_)
    · skip
      refine ez_go (n := 1) (pc' := 31) (L' := [(2, .inl (i)), (0, .inl (x)), (1, .inr (.inr (some (r))))]) (st' := [.inl (1)]) rfl ?_
      exact ez_retZ rfl rfl (by decide) (k1 (by rw [hal] at al; omega) g hBg hf (by rw [List.take_of_length_le (by omega)] at a; exact a))
    · exfalso; omega
  | succ m ih =>
    intro i g hm i0 i1 hBg hf a
    have hlen := hz_sy_len x
    have hal : (l ++ (hz_sy x).take i.toNat).length = l.length + i.toNat := by rw [List.length_append, List.length_take]; omega
    have al := tx_l1 hBg tr
    rw [a.1] at al
    refine ez_go (n := 2) (pc' := 4) (L' := [(2, .inl (i)), (0, .inl (x)), (1, .inr (.inr (some (r))))]) (st' := [.inl (x), .inl (i)]) rfl ?_
    refine ez_cs hBg.2.1 rfl rfl rfl rfl rfl (rd_sylLen hx (ez_K1 ?_))
    refine ez_icmp rfl rfl ⟨by first | omega | exact (sz_i32 _).1, by first | omega | exact (sz_i32 _).2⟩ ⟨by first | omega | exact (sz_i32 _).1, by first | omega | exact (sz_i32 _).2⟩ (fun (c1 : (((hz_sy x).length : Int)) ≤ (i)) => ?_) (fun (c1 : ¬((((hz_sy x).length : Int)) ≤ (i))) => ?_)
    · exfalso; omega
    · skip
      refine ez_go (n := 3) (pc' := 13) (L' := [(2, .inl (i)), (0, .inl (x)), (1, .inr (.inr (some (r))))]) (st' := [.inl (i), .inl (x), .inr (.inr (some (r)))]) rfl ?_
      refine ez_cs hBg.2.1 rfl rfl rfl rfl rfl (rd_sylPart hx i0 (by omega) (fun v hv => ez_K1 ?_))
      have vb := hz_sy_bd hx _ _ hv
      refine ez_cv hBg tr rfl rfl rfl tq_1 rfl rfl rfl (rd_txa hBg tr a ⟨by omega, by omega⟩ (fun lt g2 hB2 f2 a2 => ez_K1 ?_) (fun lt => ez_K1 ?_))
      · skip
        refine ez_if rfl rfl ⟨by decide, by decide⟩ (fun _ => ?_) (fun (c2 : ¬((1 : Int) ≠ (0))) => absurd c2 (by decide))
        refine ez_go (n := 2) (pc' := 2) (L' := [(2, .inl (i + 1)), (0, .inl (x)), (1, .inr (.inr (some (r))))]) (st' := []) rfl ?_
        refine ez_less [(2, .inl (i + 1)), (0, .inl (x)), (1, .inr (.inr (some (r))))] rfl ⟨rfl, rfl, rfl, trivial⟩ ?_
        refine ih (i + 1) g2 (by omega) (by omega) (by omega) hB2 (hf.trans f2) ?_
        rw [show (i + 1).toNat = i.toNat + 1 by omega, List.take_add_one, hv, ← List.append_assoc]; exact a2
      · skip
        refine ez_if rfl rfl ⟨by decide, by decide⟩ (fun (c3 : (0 : Int) ≠ (0)) => absurd c3 (by decide)) (fun _ => ?_)
        refine ez_go (n := 1) (pc' := 23) (L' := [(2, .inl (i)), (0, .inl (x)), (1, .inr (.inr (some (r))))]) (st' := [.inl (0)]) rfl ?_
        exact ez_retZ rfl rfl (by decide) (k0 (by rw [hal] at lt; omega) g hBg hf)
theorem rd_fSyl {x : Int} (hB : ez_B τ h) (tr : τ r = 1) (hx : hz x) (a : tx h r l) (k1 : l.length + (hz_sy x).length ≤ 2000 → ∀ g, ez_B τ g → ez_fr (tx_P r) h g → tx g r (l ++ hz_sy x) → Q (.inl (some (ez_v (.inl 1))), g)) (k0 : 2000 < l.length + (hz_sy x).length → ∀ g, ez_B τ g → ez_fr (tx_P r) h g → Q (.inl (some (ez_v (.inl 0))), g)) : ez_W (d + 1) cm_111 0 [(0, .inl (x)), (1, .inr (.inr (some (r))))] [] h Q := by
  refine ez_go (n := 2) (pc' := 2) (L' := [(2, .inl (0)), (0, .inl (x)), (1, .inr (.inr (some (r))))]) (st' := []) rfl ?_
  refine ez_less [(2, .inl (0)), (0, .inl (x)), (1, .inr (.inr (some (r))))] rfl ⟨rfl, rfl, rfl, trivial⟩ ?_
  exact rd_fSyl_l tr hx k1 k0 _ 0 h rfl (by omega) (by omega) hB (ez_fr.refl _ _) (by rw [show (0 : Int).toNat = 0 from rfl, List.take_zero, List.append_nil]; exact a)

theorem rd_fFull1 {x : Int} (hC : pz_C τ h T F E) (fd : fD h T F) (hw : uz_wf F) (tr : τ r = 1) (x0 : 0 ≤ x) (x1 : x ≤ 1114111) (a : tx h r l) (k1 : ∀ m, uz_F F true x m → l.length + m.length ≤ 2000 → ∀ g, ez_B τ g → ez_fr (tx_P r) h g → tx g r (l ++ m) → Q (.inl (some (ez_v (.inl 1))), g)) (k0 : ∀ m, uz_F F true x m → 2000 < l.length + m.length → ∀ g, ez_B τ g → ez_fr (tx_P r) h g → Q (.inl (some (ez_v (.inl 0))), g)) : ez_W (d + 2) cm_110 0 [(0, .inr (.inr (some (723)))), (1, .inl (x)), (2, .inr (.inr (some (r)))), (3, .inl (1))] [] h Q := by
  have hB := hC.1
  have t723 : τ 723 = 55 := hC.2.1 723 (by decide)
  have t724 : τ 724 = 56 := hC.2.1 724 (by decide)
  have t202 : τ 202 = 48 := hC.2.1 202 (by decide)
  have t203 : τ 203 = 49 := hC.2.1 203 (by decide)
  have al := a.1
  have all := tx_l1 hB tr
  refine ez_go (n := 1) (pc' := 1) (L' := [(0, .inr (.inr (some (723)))), (1, .inl (x)), (2, .inr (.inr (some (r)))), (3, .inl (1))]) (st' := [.inl (x)]) rfl ?_
  refine ez_cs hB.2.1 rfl rfl rfl rfl rfl (rd_isSyl (by omega) (by omega) (fun hx => ez_K1 ?_) (fun hx => ez_K1 ?_))
  · skip
    refine ez_if rfl rfl ⟨by decide, by decide⟩ (fun (c1 : (1 : Int) = (0)) => absurd c1 (by decide)) (fun _ => ?_)
    refine ez_go (n := 2) (pc' := 9) (L' := [(0, .inr (.inr (some (723)))), (1, .inl (x)), (2, .inr (.inr (some (r)))), (3, .inl (1))]) (st' := [.inr (.inr (some (r))), .inl (x)]) rfl ?_
    refine ez_cs hB.2.1 rfl rfl rfl rfl rfl (rd_fSyl hB tr hx a (fun lt g2 hB2 f2 a2 => ez_K1 ?_) (fun lt g2 hB2 f2 => ez_K1 ?_))
    · skip
      exact ez_retZ rfl rfl (by decide) (k1 _ (uz_syl hx) lt g2 hB2 f2 a2)
    · skip
      exact ez_retZ rfl rfl (by decide) (k0 _ ((uz_syl hx)) lt g2 hB2 f2)
  · skip
    refine ez_if rfl rfl ⟨by decide, by decide⟩ (fun _ => ?_) (fun (c2 : ¬((0 : Int) = (0))) => absurd c2 (by decide))
    refine ez_go (n := 1) (pc' := 14) (L' := [(0, .inr (.inr (some (723)))), (1, .inl (x)), (2, .inr (.inr (some (r)))), (3, .inl (1))]) (st' := [.inr (.inr (some (723)))]) rfl ?_
    refine ez_gC (p := 202) (tg := 48) hB t723 rfl rfl tq_55 rfl rfl (fun (t202 : _ = 48) => ?_)
    refine ez_go (n := 1) (pc' := 18) (L' := [(0, .inr (.inr (some (723)))), (1, .inl (x)), (2, .inr (.inr (some (r)))), (3, .inl (1))]) (st' := [.inl (x), .inr (.inr (some (202)))]) rfl ?_
    refine ez_cv hB t202 rfl rfl rfl tq_48 rfl rfl rfl (rd_spanOf hC x0 x1 (fun z tz z1 _ => ez_KA ?_))
    refine ez_gR hB tz rfl rfl tq_4 rfl rfl (fun (t3 : _ = 3) (t3' : 1 ≤ qz_I h z 1) => ?_)
    have eT : qz_P h z 1 = T x := by unfold qz_P; omega
    rw [eT]
    obtain ⟨tT, -, f3, f4⟩ := hC.2.2.2.2 x x0 x1
    refine ez_go (n := 2) (pc' := 28) (L' := [(4, .inr (.inr (some ((T x))))), (0, .inr (.inr (some (723)))), (1, .inl (x)), (2, .inr (.inr (some (r)))), (3, .inl (1))]) (st' := [.inr (.inr (some ((T x))))]) rfl ?_
    refine ez_gN hB tT rfl rfl tq_3 rfl rfl (fun (t4 : qz_I h ((T x)) 3 = 0) => ?_) (fun (t4 : _ = 5) (t4' : 1 ≤ qz_I h ((T x)) 3) => ?_)
    · skip
      refine ez_nonn0 rfl ?_
      have hn9 : (F x).2 = none := Classical.byContradiction fun w => by obtain ⟨q, hq⟩ := Option.ne_none_iff_exists'.mp w; have := (f4 q.1 q.2 hq).2.2.1; omega
      refine ez_go (n := 2) (pc' := 36) (L' := [(4, .inr (.inr (some ((T x))))), (0, .inr (.inr (some (723)))), (1, .inl (x)), (2, .inr (.inr (some (r)))), (3, .inl (1))]) (st' := [.inl (x), .inr (.inr (some (r)))]) rfl ?_
      refine ez_cv hB tr rfl rfl rfl tq_1 rfl rfl rfl (rd_txa hB tr a ⟨by omega, by omega⟩ (fun lt g2 hB2 f2 a2 => ez_K1 ?_) (fun lt => ez_K1 ?_))
      · skip
        exact ez_retZ rfl rfl (by decide) (k1 _ (uz_leaf hx hn9) (by rw [List.length_singleton]; omega) g2 hB2 f2 a2)
      · skip
        exact ez_retZ rfl rfl (by decide) (k0 _ (uz_leaf hx hn9) (by rw [List.length_singleton]; omega) h hB (ez_fr.refl _ _))
    · skip
      refine ez_nonn1 rfl rfl ?_
      refine ez_go (n := 1) (pc' := 41) (L' := [(4, .inr (.inr (some ((T x))))), (0, .inr (.inr (some (723)))), (1, .inl (x)), (2, .inr (.inr (some (r)))), (3, .inl (1))]) (st' := [.inl (1)]) rfl ?_
      refine ez_if rfl rfl ⟨by decide, by decide⟩ (fun (c5 : (1 : Int) = (0)) => absurd c5 (by decide)) (fun _ => ?_)
      refine ez_go (n := 1) (pc' := 46) (L' := [(4, .inr (.inr (some ((T x))))), (0, .inr (.inr (some (723)))), (1, .inl (x)), (2, .inr (.inr (some (r)))), (3, .inl (1))]) (st' := [.inr (.inr (some ((T x))))]) rfl ?_
      refine ez_gI hB tT rfl rfl tq_3 rfl rfl (fun (b6 : 0 ≤ qz_I h ((T x)) 11) (b6' : qz_I h ((T x)) 11 ≤ 20480) => ?_)
      refine ez_go (n := 4) (pc' := 61) (L' := [(5, .inl (qz_I h ((T x)) 11)), (4, .inr (.inr (some ((T x))))), (0, .inr (.inr (some (723)))), (1, .inl (x)), (2, .inr (.inr (some (r)))), (3, .inl (1))]) (st' := [.inr (.inr (some (723))), .inr (.inr (some (r)))]) rfl ?_
      refine ez_gC (p := 724) (tg := 56) hB t723 rfl rfl tq_55 rfl rfl (fun (t724 : _ = 56) => ?_)
      refine ez_go (n := 2) (pc' := 67) (L' := [(5, .inl (qz_I h ((T x)) 11)), (4, .inr (.inr (some ((T x))))), (0, .inr (.inr (some (723)))), (1, .inl (x)), (2, .inr (.inr (some (r)))), (3, .inl (1))]) (st' := [.inl (1), .inl (qz_I h ((T x)) 11), .inr (.inr (some (724))), .inr (.inr (some (r)))]) rfl ?_
      refine ez_if rfl rfl ⟨by decide, by decide⟩ (fun (c7 : (1 : Int) = (0)) => absurd c7 (by decide)) (fun _ => ?_)
      refine ez_go (n := 1) (pc' := 72) (L' := [(5, .inl (qz_I h ((T x)) 11)), (4, .inr (.inr (some ((T x))))), (0, .inr (.inr (some (723)))), (1, .inl (x)), (2, .inr (.inr (some (r)))), (3, .inl (1))]) (st' := [.inr (.inr (some ((T x)))), .inl (qz_I h ((T x)) 11), .inr (.inr (some (724))), .inr (.inr (some (r)))]) rfl ?_
      refine ez_gI hB tT rfl rfl tq_3 rfl rfl (fun (b8 : 0 ≤ qz_I h ((T x)) 12) (b8' : qz_I h ((T x)) 12 ≤ 20480) => ?_)
      refine ez_go (n := 1) (pc' := 83) (L' := [(5, .inl (qz_I h ((T x)) 11)), (4, .inr (.inr (some ((T x))))), (0, .inr (.inr (some (723)))), (1, .inl (x)), (2, .inr (.inr (some (r)))), (3, .inl (1))]) (st' := [.inl (qz_I h ((T x)) 12), .inl (qz_I h ((T x)) 11), .inr (.inr (some (724))), .inr (.inr (some (r)))]) rfl ?_
      obtain ⟨m, m1, ⟨m2, m3, m4, m5⟩, m6⟩ := fd x x0 x1 (fun w => by have := f3 w; omega) true
      have m2 : qz_I h (T x) 12 = (m.length : Int) := m2
      have m3 : 0 ≤ qz_I h (T x) 11 := m3
      have m4 : qz_I h (T x) 11 + (m.length : Int) ≤ qz_I h 723 2 := m4
      have b2 : 0 ≤ qz_I h 723 2 ∧ qz_I h 723 2 ≤ 20480 := ez_fB (cl := 6) (k := 2) hB t723 tq_55 rfl rfl (by decide)
      have n724 : 20480 ≤ qz_N h 724 ∧ qz_N h 724 ≤ 20480 := ez_len hB t724 tq_56 rfl
      have mp := uz_F_ptl hw x0 x1 m1
      refine ez_cv hB tr rfl rfl rfl tq_1 rfl rfl rfl (rd_appRow_p tr t724 a (fun e => by have := tx_p1 hB tr; rw [← e, t724] at this; cases this) m2.symm m3 (by omega) (by omega) m5 (fun j v hv => ⟨by have := ptl_at mp hv; omega, by have := ptl_at mp hv; omega⟩) hB (fun lt g2 hB2 f2 a2 => ez_K1 ?_) (fun lt => ez_K1 ?_))
      · skip
        exact ez_retZ rfl rfl (by decide) (k1 _ m1 lt g2 hB2 f2 a2)
      · skip
        exact ez_retZ rfl rfl (by decide) (k0 _ (m1) lt h hB (ez_fr.refl _ _))

theorem rd_fFull0 {x : Int} (hC : pz_C τ h T F E) (fd : fD h T F) (hw : uz_wf F) (tr : τ r = 1) (x0 : 0 ≤ x) (x1 : x ≤ 1114111) (a : tx h r l) (k1 : ∀ m, uz_F F false x m → l.length + m.length ≤ 2000 → ∀ g, ez_B τ g → ez_fr (tx_P r) h g → tx g r (l ++ m) → Q (.inl (some (ez_v (.inl 1))), g)) (k0 : ∀ m, uz_F F false x m → 2000 < l.length + m.length → ∀ g, ez_B τ g → ez_fr (tx_P r) h g → Q (.inl (some (ez_v (.inl 0))), g)) : ez_W (d + 2) cm_110 0 [(0, .inr (.inr (some (723)))), (1, .inl (x)), (2, .inr (.inr (some (r)))), (3, .inl (0))] [] h Q := by
  have hB := hC.1
  have t723 : τ 723 = 55 := hC.2.1 723 (by decide)
  have t724 : τ 724 = 56 := hC.2.1 724 (by decide)
  have t202 : τ 202 = 48 := hC.2.1 202 (by decide)
  have t203 : τ 203 = 49 := hC.2.1 203 (by decide)
  have al := a.1
  have all := tx_l1 hB tr
  refine ez_go (n := 1) (pc' := 1) (L' := [(0, .inr (.inr (some (723)))), (1, .inl (x)), (2, .inr (.inr (some (r)))), (3, .inl (0))]) (st' := [.inl (x)]) rfl ?_
  refine ez_cs hB.2.1 rfl rfl rfl rfl rfl (rd_isSyl (by omega) (by omega) (fun hx => ez_K1 ?_) (fun hx => ez_K1 ?_))
  · skip
    refine ez_if rfl rfl ⟨by decide, by decide⟩ (fun (c1 : (1 : Int) = (0)) => absurd c1 (by decide)) (fun _ => ?_)
    refine ez_go (n := 2) (pc' := 9) (L' := [(0, .inr (.inr (some (723)))), (1, .inl (x)), (2, .inr (.inr (some (r)))), (3, .inl (0))]) (st' := [.inr (.inr (some (r))), .inl (x)]) rfl ?_
    refine ez_cs hB.2.1 rfl rfl rfl rfl rfl (rd_fSyl hB tr hx a (fun lt g2 hB2 f2 a2 => ez_K1 ?_) (fun lt g2 hB2 f2 => ez_K1 ?_))
    · skip
      exact ez_retZ rfl rfl (by decide) (k1 _ (uz_syl hx) lt g2 hB2 f2 a2)
    · skip
      exact ez_retZ rfl rfl (by decide) (k0 _ ((uz_syl hx)) lt g2 hB2 f2)
  · skip
    refine ez_if rfl rfl ⟨by decide, by decide⟩ (fun _ => ?_) (fun (c2 : ¬((0 : Int) = (0))) => absurd c2 (by decide))
    refine ez_go (n := 1) (pc' := 14) (L' := [(0, .inr (.inr (some (723)))), (1, .inl (x)), (2, .inr (.inr (some (r)))), (3, .inl (0))]) (st' := [.inr (.inr (some (723)))]) rfl ?_
    refine ez_gC (p := 202) (tg := 48) hB t723 rfl rfl tq_55 rfl rfl (fun (t202 : _ = 48) => ?_)
    refine ez_go (n := 1) (pc' := 18) (L' := [(0, .inr (.inr (some (723)))), (1, .inl (x)), (2, .inr (.inr (some (r)))), (3, .inl (0))]) (st' := [.inl (x), .inr (.inr (some (202)))]) rfl ?_
    refine ez_cv hB t202 rfl rfl rfl tq_48 rfl rfl rfl (rd_spanOf hC x0 x1 (fun z tz z1 _ => ez_KA ?_))
    refine ez_gR hB tz rfl rfl tq_4 rfl rfl (fun (t3 : _ = 3) (t3' : 1 ≤ qz_I h z 1) => ?_)
    have eT : qz_P h z 1 = T x := by unfold qz_P; omega
    rw [eT]
    obtain ⟨tT, -, f3, f4⟩ := hC.2.2.2.2 x x0 x1
    refine ez_go (n := 2) (pc' := 28) (L' := [(4, .inr (.inr (some ((T x))))), (0, .inr (.inr (some (723)))), (1, .inl (x)), (2, .inr (.inr (some (r)))), (3, .inl (0))]) (st' := [.inr (.inr (some ((T x))))]) rfl ?_
    refine ez_gN hB tT rfl rfl tq_3 rfl rfl (fun (t4 : qz_I h ((T x)) 3 = 0) => ?_) (fun (t4 : _ = 5) (t4' : 1 ≤ qz_I h ((T x)) 3) => ?_)
    · skip
      refine ez_nonn0 rfl ?_
      have hn9 : (F x).2 = none := Classical.byContradiction fun w => by obtain ⟨q, hq⟩ := Option.ne_none_iff_exists'.mp w; have := (f4 q.1 q.2 hq).2.2.1; omega
      refine ez_go (n := 2) (pc' := 36) (L' := [(4, .inr (.inr (some ((T x))))), (0, .inr (.inr (some (723)))), (1, .inl (x)), (2, .inr (.inr (some (r)))), (3, .inl (0))]) (st' := [.inl (x), .inr (.inr (some (r)))]) rfl ?_
      refine ez_cv hB tr rfl rfl rfl tq_1 rfl rfl rfl (rd_txa hB tr a ⟨by omega, by omega⟩ (fun lt g2 hB2 f2 a2 => ez_K1 ?_) (fun lt => ez_K1 ?_))
      · skip
        exact ez_retZ rfl rfl (by decide) (k1 _ (uz_leaf hx hn9) (by rw [List.length_singleton]; omega) g2 hB2 f2 a2)
      · skip
        exact ez_retZ rfl rfl (by decide) (k0 _ (uz_leaf hx hn9) (by rw [List.length_singleton]; omega) h hB (ez_fr.refl _ _))
    · skip
      refine ez_nonn1 rfl rfl ?_
      refine ez_go (n := 1) (pc' := 41) (L' := [(4, .inr (.inr (some ((T x))))), (0, .inr (.inr (some (723)))), (1, .inl (x)), (2, .inr (.inr (some (r)))), (3, .inl (0))]) (st' := [.inl (0)]) rfl ?_
      refine ez_if rfl rfl ⟨by decide, by decide⟩ (fun _ => ?_) (fun (c5 : ¬((0 : Int) = (0))) => absurd c5 (by decide))
      refine ez_go (n := 1) (pc' := 54) (L' := [(4, .inr (.inr (some ((T x))))), (0, .inr (.inr (some (723)))), (1, .inl (x)), (2, .inr (.inr (some (r)))), (3, .inl (0))]) (st' := [.inr (.inr (some ((T x))))]) rfl ?_
      refine ez_gI hB tT rfl rfl tq_3 rfl rfl (fun (b6 : 0 ≤ qz_I h ((T x)) 9) (b6' : qz_I h ((T x)) 9 ≤ 20480) => ?_)
      refine ez_go (n := 3) (pc' := 61) (L' := [(5, .inl (qz_I h ((T x)) 9)), (4, .inr (.inr (some ((T x))))), (0, .inr (.inr (some (723)))), (1, .inl (x)), (2, .inr (.inr (some (r)))), (3, .inl (0))]) (st' := [.inr (.inr (some (723))), .inr (.inr (some (r)))]) rfl ?_
      refine ez_gC (p := 724) (tg := 56) hB t723 rfl rfl tq_55 rfl rfl (fun (t724 : _ = 56) => ?_)
      refine ez_go (n := 2) (pc' := 67) (L' := [(5, .inl (qz_I h ((T x)) 9)), (4, .inr (.inr (some ((T x))))), (0, .inr (.inr (some (723)))), (1, .inl (x)), (2, .inr (.inr (some (r)))), (3, .inl (0))]) (st' := [.inl (0), .inl (qz_I h ((T x)) 9), .inr (.inr (some (724))), .inr (.inr (some (r)))]) rfl ?_
      refine ez_if rfl rfl ⟨by decide, by decide⟩ (fun _ => ?_) (fun (c7 : ¬((0 : Int) = (0))) => absurd c7 (by decide))
      refine ez_go (n := 1) (pc' := 80) (L' := [(5, .inl (qz_I h ((T x)) 9)), (4, .inr (.inr (some ((T x))))), (0, .inr (.inr (some (723)))), (1, .inl (x)), (2, .inr (.inr (some (r)))), (3, .inl (0))]) (st' := [.inr (.inr (some ((T x)))), .inl (qz_I h ((T x)) 9), .inr (.inr (some (724))), .inr (.inr (some (r)))]) rfl ?_
      refine ez_gI hB tT rfl rfl tq_3 rfl rfl (fun (b8 : 0 ≤ qz_I h ((T x)) 10) (b8' : qz_I h ((T x)) 10 ≤ 20480) => ?_)
      obtain ⟨m, m1, ⟨m2, m3, m4, m5⟩, m6⟩ := fd x x0 x1 (fun w => by have := f3 w; omega) false
      have m2 : qz_I h (T x) 10 = (m.length : Int) := m2
      have m3 : 0 ≤ qz_I h (T x) 9 := m3
      have m4 : qz_I h (T x) 9 + (m.length : Int) ≤ qz_I h 723 2 := m4
      have b2 : 0 ≤ qz_I h 723 2 ∧ qz_I h 723 2 ≤ 20480 := ez_fB (cl := 6) (k := 2) hB t723 tq_55 rfl rfl (by decide)
      have n724 : 20480 ≤ qz_N h 724 ∧ qz_N h 724 ≤ 20480 := ez_len hB t724 tq_56 rfl
      have mp := uz_F_ptl hw x0 x1 m1
      refine ez_cv hB tr rfl rfl rfl tq_1 rfl rfl rfl (rd_appRow_p tr t724 a (fun e => by have := tx_p1 hB tr; rw [← e, t724] at this; cases this) m2.symm m3 (by omega) (by omega) m5 (fun j v hv => ⟨by have := ptl_at mp hv; omega, by have := ptl_at mp hv; omega⟩) hB (fun lt g2 hB2 f2 a2 => ez_K1 ?_) (fun lt => ez_K1 ?_))
      · skip
        exact ez_retZ rfl rfl (by decide) (k1 _ m1 lt g2 hB2 f2 a2)
      · skip
        exact ez_retZ rfl rfl (by decide) (k0 _ (m1) lt h hB (ez_fr.refl _ _))

theorem rd_expand_ls1 {q : Nat} {u : List Int} {fm : Int} (hC : pz_C τ h T F E) (fd : fD h T F) (hw : uz_wf F) (tr : τ r = 1) (tq : τ q = 88) (qr : q ≠ r) (uq : tx h q u) (up : ptl u) (k1 : ∀ m, uz_FL F true u m → l.length + m.length ≤ 2000 → ∀ g, ez_B τ g → ez_fr (tx_P r) h g → tx g r (l ++ m) → Q (.inl (some (ez_v (.inl 1))), g)) (k0 : ∀ m, uz_FL F true u m → 2000 < l.length + m.length → ∀ g, ez_B τ g → ez_fr (tx_P r) h g → Q (.inl (some (ez_v (.inl 0))), g)) : ∀ (n : Nat) (i : Int) (g : cz_H) (m : List Int), n = ((u.length : Int) - i).toNat → 0 ≤ i → i ≤ (u.length : Int) → ez_B τ g → ez_fr (tx_P r) h g → uz_FL F true (u.take i.toNat) m → tx g r (l ++ m) → ez_W (d + 3) cm_139 20 [(5, .inl (i)), (4, .inl (1)), (0, .inr (.inr (some (729)))), (1, .inr (.inr (some (q)))), (2, .inr (.inr (some (r)))), (3, .inl (fm))] [] g Q := by
  have t729 : τ 729 = 61 := hC.2.1 729 (by decide)
  have t723 : τ 723 = 55 := hC.2.1 723 (by decide)
  have t724 : τ 724 = 56 := hC.2.1 724 (by decide)
  intro n
  induction n with
  | zero =>
    intro i g m hn i0 i1 hBg hf um am
    have tq1 := tx_p88 hBg tq
    have cq : g.2.2 q = h.2.2 q := hf.2.2 q (tx_Pn qr (fun e => by rw [e, tx_p1 hBg tr] at tq; cases tq))
    have cq1 : g.2.2 (q + 1) = h.2.2 (q + 1) := hf.2.2 (q + 1) (tx_Pn (fun e => by rw [e, tr] at tq1; cases tq1) (fun e => qr (by omega)))
    have uq := tx_c uq cq cq1
    have uql := uq.1
    have uqb := tx_l88 hBg tq
    have hCg : pz_C τ g T F E := hC.keep hBg (tx_kD hC.1 tr hf)
    have fdg : fD g T F := fd.keep hC (tx_kD hC.1 tr hf) (tx_keep hC.1 tr hf (by rw [t723]; decide) (by rw [t723]; decide)) (tx_keep hC.1 tr hf (by rw [t724]; decide) (by rw [t724]; decide))
    refine ez_go (n := 2) (pc' := 23) (L' := [(5, .inl (i)), (4, .inl (1)), (0, .inr (.inr (some (729)))), (1, .inr (.inr (some (q)))), (2, .inr (.inr (some (r)))), (3, .inl (fm))]) (st' := [.inr (.inr (some (q))), .inl (i)]) rfl ?_
    refine ez_gI hBg tq rfl rfl tq_88 rfl rfl (fun (b1 : 0 ≤ qz_I g q 1) (b1' : qz_I g q 1 ≤ 2000) => ?_)
    refine ez_icmp rfl rfl ⟨by first | omega | exact (sz_i32 _).1, by first | omega | exact (sz_i32 _).2⟩ ⟨by first | omega | exact (sz_i32 _).1, by first | omega | exact (sz_i32 _).2⟩ (fun (c2 : (qz_I g q 1) ≤ (i)) => ?_) (fun (c2 : ¬((qz_I g q 1) ≤ (i))) => ?_)
    · skip
      refine ez_go (n := 1) (pc' := 58) (L' := [(5, .inl (i)), (4, .inl (1)), (0, .inr (.inr (some (729)))), (1, .inr (.inr (some (q)))), (2, .inr (.inr (some (r)))), (3, .inl (fm))]) (st' := [.inl (1)]) rfl ?_
      exact ez_retZ rfl rfl (by decide) (k1 m (by rw [List.take_of_length_le (by omega)] at um; exact um) (by have := am.1; have := tx_l1 hBg tr; rw [List.length_append] at *; omega) g hBg hf am)
    · exfalso; omega
  | succ n ih =>
    intro i g m hn i0 i1 hBg hf um am
    have tq1 := tx_p88 hBg tq
    have cq : g.2.2 q = h.2.2 q := hf.2.2 q (tx_Pn qr (fun e => by rw [e, tx_p1 hBg tr] at tq; cases tq))
    have cq1 : g.2.2 (q + 1) = h.2.2 (q + 1) := hf.2.2 (q + 1) (tx_Pn (fun e => by rw [e, tr] at tq1; cases tq1) (fun e => qr (by omega)))
    have uq := tx_c uq cq cq1
    have uql := uq.1
    have uqb := tx_l88 hBg tq
    have hCg : pz_C τ g T F E := hC.keep hBg (tx_kD hC.1 tr hf)
    have fdg : fD g T F := fd.keep hC (tx_kD hC.1 tr hf) (tx_keep hC.1 tr hf (by rw [t723]; decide) (by rw [t723]; decide)) (tx_keep hC.1 tr hf (by rw [t724]; decide) (by rw [t724]; decide))
    refine ez_go (n := 2) (pc' := 23) (L' := [(5, .inl (i)), (4, .inl (1)), (0, .inr (.inr (some (729)))), (1, .inr (.inr (some (q)))), (2, .inr (.inr (some (r)))), (3, .inl (fm))]) (st' := [.inr (.inr (some (q))), .inl (i)]) rfl ?_
    refine ez_gI hBg tq rfl rfl tq_88 rfl rfl (fun (b1 : 0 ≤ qz_I g q 1) (b1' : qz_I g q 1 ≤ 2000) => ?_)
    refine ez_icmp rfl rfl ⟨by first | omega | exact (sz_i32 _).1, by first | omega | exact (sz_i32 _).2⟩ ⟨by first | omega | exact (sz_i32 _).1, by first | omega | exact (sz_i32 _).2⟩ (fun (c2 : (qz_I g q 1) ≤ (i)) => ?_) (fun (c2 : ¬((qz_I g q 1) ≤ (i))) => ?_)
    · exfalso; omega
    · skip
      refine ez_go (n := 1) (pc' := 30) (L' := [(5, .inl (i)), (4, .inl (1)), (0, .inr (.inr (some (729)))), (1, .inr (.inr (some (q)))), (2, .inr (.inr (some (r)))), (3, .inl (fm))]) (st' := [.inr (.inr (some (729)))]) rfl ?_
      refine ez_gC (p := 723) (tg := 55) hBg t729 rfl rfl tq_61 rfl rfl (fun (t723 : _ = 55) => ?_)
      refine ez_go (n := 1) (pc' := 34) (L' := [(5, .inl (i)), (4, .inl (1)), (0, .inr (.inr (some (729)))), (1, .inr (.inr (some (q)))), (2, .inr (.inr (some (r)))), (3, .inl (fm))]) (st' := [.inr (.inr (some (q))), .inr (.inr (some (723)))]) rfl ?_
      refine ez_g3 hBg tq rfl rfl tq_88 rfl rfl (fun (t3 : _ = 89) => ?_)
      refine ez_go (n := 1) (pc' := 39) (L' := [(5, .inl (i)), (4, .inl (1)), (0, .inr (.inr (some (729)))), (1, .inr (.inr (some (q)))), (2, .inr (.inr (some (r)))), (3, .inl (fm))]) (st' := [.inl (i), .inr (.inr (some (q + 1))), .inr (.inr (some (723)))]) rfl ?_
      have n5 : 2000 ≤ qz_N g (q + 1) ∧ qz_N g (q + 1) ≤ 2000 := ez_len hBg t3 tq_89 rfl
      refine ez_aI hBg t3 rfl tq_89 rfl rfl (by omega) (by omega) (fun (b4 : -2147483648 ≤ qz_I g (q + 1) (i).toNat) (b4' : qz_I g (q + 1) (i).toNat ≤ 2147483647) => ?_)
      refine ez_go (n := 2) (pc' := 43) (L' := [(5, .inl (i)), (4, .inl (1)), (0, .inr (.inr (some (729)))), (1, .inr (.inr (some (q)))), (2, .inr (.inr (some (r)))), (3, .inl (fm))]) (st' := [.inl (1), .inr (.inr (some (r))), .inl (qz_I g (q + 1) (i).toNat), .inr (.inr (some (723)))]) rfl ?_
      have hi9 : i.toNat < u.length := by omega
      have ev := uq.2 _ _ (List.getElem?_eq_getElem hi9)
      have vb := ptl_at up (List.getElem?_eq_getElem hi9)
      rw [← ev] at vb
      have hv : u[i.toNat]? = some (qz_I g (q + 1) (i).toNat) := by rw [ev]; exact List.getElem?_eq_getElem hi9
      refine ez_cv hBg t723 rfl rfl rfl tq_55 rfl rfl rfl (rd_fFull1 hCg fdg hw tr vb.1 vb.2 am (fun m2 u2 lt g2 hB2 f2 a2 => ez_K1 ?_) (fun m2 u2 lt g2 hB2 f2 => ez_K1 ?_))
      · skip
        refine ez_if rfl rfl ⟨by decide, by decide⟩ (fun _ => ?_) (fun (c6 : ¬((1 : Int) ≠ (0))) => absurd c6 (by decide))
        refine ez_go (n := 2) (pc' := 20) (L' := [(5, .inl (i + 1)), (4, .inl (1)), (0, .inr (.inr (some (729)))), (1, .inr (.inr (some (q)))), (2, .inr (.inr (some (r)))), (3, .inl (fm))]) (st' := []) rfl ?_
        refine ez_less [(5, .inl (i + 1)), (4, .inl (1)), (0, .inr (.inr (some (729)))), (1, .inr (.inr (some (q)))), (2, .inr (.inr (some (r)))), (3, .inl (fm))] rfl ⟨rfl, rfl, rfl, rfl, rfl, rfl, trivial⟩ ?_
        refine ih (i + 1) g2 (m ++ m2) (by omega) (by omega) (by omega) hB2 (hf.trans f2) ?_ (by rw [← List.append_assoc]; exact a2)
        rw [show (i + 1).toNat = i.toNat + 1 by omega]; exact uz_FL_take (l := l) hv um u2
      · skip
        refine ez_if rfl rfl ⟨by decide, by decide⟩ (fun (c7 : (0 : Int) ≠ (0)) => absurd c7 (by decide)) (fun _ => ?_)
        refine ez_go (n := 1) (pc' := 50) (L' := [(5, .inl (i)), (4, .inl (1)), (0, .inr (.inr (some (729)))), (1, .inr (.inr (some (q)))), (2, .inr (.inr (some (r)))), (3, .inl (fm))]) (st' := [.inl (0)]) rfl ?_
        obtain ⟨m3, u3⟩ := fd.allL true up
        have le := uz_FL_le (i := i.toNat + 1) (uz_FL_take (l := l) hv um u2) u3
        exact ez_retZ rfl rfl (by decide) (k0 m3 u3 (by rw [List.length_append] at lt le; omega) g2 hB2 (hf.trans f2))
theorem rd_expand_ls0 {q : Nat} {u : List Int} {fm : Int} (hC : pz_C τ h T F E) (fd : fD h T F) (hw : uz_wf F) (tr : τ r = 1) (tq : τ q = 88) (qr : q ≠ r) (uq : tx h q u) (up : ptl u) (k1 : ∀ m, uz_FL F false u m → l.length + m.length ≤ 2000 → ∀ g, ez_B τ g → ez_fr (tx_P r) h g → tx g r (l ++ m) → Q (.inl (some (ez_v (.inl 1))), g)) (k0 : ∀ m, uz_FL F false u m → 2000 < l.length + m.length → ∀ g, ez_B τ g → ez_fr (tx_P r) h g → Q (.inl (some (ez_v (.inl 0))), g)) : ∀ (n : Nat) (i : Int) (g : cz_H) (m : List Int), n = ((u.length : Int) - i).toNat → 0 ≤ i → i ≤ (u.length : Int) → ez_B τ g → ez_fr (tx_P r) h g → uz_FL F false (u.take i.toNat) m → tx g r (l ++ m) → ez_W (d + 3) cm_139 20 [(5, .inl (i)), (4, .inl (0)), (0, .inr (.inr (some (729)))), (1, .inr (.inr (some (q)))), (2, .inr (.inr (some (r)))), (3, .inl (fm))] [] g Q := by
  have t729 : τ 729 = 61 := hC.2.1 729 (by decide)
  have t723 : τ 723 = 55 := hC.2.1 723 (by decide)
  have t724 : τ 724 = 56 := hC.2.1 724 (by decide)
  intro n
  induction n with
  | zero =>
    intro i g m hn i0 i1 hBg hf um am
    have tq1 := tx_p88 hBg tq
    have cq : g.2.2 q = h.2.2 q := hf.2.2 q (tx_Pn qr (fun e => by rw [e, tx_p1 hBg tr] at tq; cases tq))
    have cq1 : g.2.2 (q + 1) = h.2.2 (q + 1) := hf.2.2 (q + 1) (tx_Pn (fun e => by rw [e, tr] at tq1; cases tq1) (fun e => qr (by omega)))
    have uq := tx_c uq cq cq1
    have uql := uq.1
    have uqb := tx_l88 hBg tq
    have hCg : pz_C τ g T F E := hC.keep hBg (tx_kD hC.1 tr hf)
    have fdg : fD g T F := fd.keep hC (tx_kD hC.1 tr hf) (tx_keep hC.1 tr hf (by rw [t723]; decide) (by rw [t723]; decide)) (tx_keep hC.1 tr hf (by rw [t724]; decide) (by rw [t724]; decide))
    refine ez_go (n := 2) (pc' := 23) (L' := [(5, .inl (i)), (4, .inl (0)), (0, .inr (.inr (some (729)))), (1, .inr (.inr (some (q)))), (2, .inr (.inr (some (r)))), (3, .inl (fm))]) (st' := [.inr (.inr (some (q))), .inl (i)]) rfl ?_
    refine ez_gI hBg tq rfl rfl tq_88 rfl rfl (fun (b1 : 0 ≤ qz_I g q 1) (b1' : qz_I g q 1 ≤ 2000) => ?_)
    refine ez_icmp rfl rfl ⟨by first | omega | exact (sz_i32 _).1, by first | omega | exact (sz_i32 _).2⟩ ⟨by first | omega | exact (sz_i32 _).1, by first | omega | exact (sz_i32 _).2⟩ (fun (c2 : (qz_I g q 1) ≤ (i)) => ?_) (fun (c2 : ¬((qz_I g q 1) ≤ (i))) => ?_)
    · skip
      refine ez_go (n := 1) (pc' := 58) (L' := [(5, .inl (i)), (4, .inl (0)), (0, .inr (.inr (some (729)))), (1, .inr (.inr (some (q)))), (2, .inr (.inr (some (r)))), (3, .inl (fm))]) (st' := [.inl (1)]) rfl ?_
      exact ez_retZ rfl rfl (by decide) (k1 m (by rw [List.take_of_length_le (by omega)] at um; exact um) (by have := am.1; have := tx_l1 hBg tr; rw [List.length_append] at *; omega) g hBg hf am)
    · exfalso; omega
  | succ n ih =>
    intro i g m hn i0 i1 hBg hf um am
    have tq1 := tx_p88 hBg tq
    have cq : g.2.2 q = h.2.2 q := hf.2.2 q (tx_Pn qr (fun e => by rw [e, tx_p1 hBg tr] at tq; cases tq))
    have cq1 : g.2.2 (q + 1) = h.2.2 (q + 1) := hf.2.2 (q + 1) (tx_Pn (fun e => by rw [e, tr] at tq1; cases tq1) (fun e => qr (by omega)))
    have uq := tx_c uq cq cq1
    have uql := uq.1
    have uqb := tx_l88 hBg tq
    have hCg : pz_C τ g T F E := hC.keep hBg (tx_kD hC.1 tr hf)
    have fdg : fD g T F := fd.keep hC (tx_kD hC.1 tr hf) (tx_keep hC.1 tr hf (by rw [t723]; decide) (by rw [t723]; decide)) (tx_keep hC.1 tr hf (by rw [t724]; decide) (by rw [t724]; decide))
    refine ez_go (n := 2) (pc' := 23) (L' := [(5, .inl (i)), (4, .inl (0)), (0, .inr (.inr (some (729)))), (1, .inr (.inr (some (q)))), (2, .inr (.inr (some (r)))), (3, .inl (fm))]) (st' := [.inr (.inr (some (q))), .inl (i)]) rfl ?_
    refine ez_gI hBg tq rfl rfl tq_88 rfl rfl (fun (b1 : 0 ≤ qz_I g q 1) (b1' : qz_I g q 1 ≤ 2000) => ?_)
    refine ez_icmp rfl rfl ⟨by first | omega | exact (sz_i32 _).1, by first | omega | exact (sz_i32 _).2⟩ ⟨by first | omega | exact (sz_i32 _).1, by first | omega | exact (sz_i32 _).2⟩ (fun (c2 : (qz_I g q 1) ≤ (i)) => ?_) (fun (c2 : ¬((qz_I g q 1) ≤ (i))) => ?_)
    · exfalso; omega
    · skip
      refine ez_go (n := 1) (pc' := 30) (L' := [(5, .inl (i)), (4, .inl (0)), (0, .inr (.inr (some (729)))), (1, .inr (.inr (some (q)))), (2, .inr (.inr (some (r)))), (3, .inl (fm))]) (st' := [.inr (.inr (some (729)))]) rfl ?_
      refine ez_gC (p := 723) (tg := 55) hBg t729 rfl rfl tq_61 rfl rfl (fun (t723 : _ = 55) => ?_)
      refine ez_go (n := 1) (pc' := 34) (L' := [(5, .inl (i)), (4, .inl (0)), (0, .inr (.inr (some (729)))), (1, .inr (.inr (some (q)))), (2, .inr (.inr (some (r)))), (3, .inl (fm))]) (st' := [.inr (.inr (some (q))), .inr (.inr (some (723)))]) rfl ?_
      refine ez_g3 hBg tq rfl rfl tq_88 rfl rfl (fun (t3 : _ = 89) => ?_)
      refine ez_go (n := 1) (pc' := 39) (L' := [(5, .inl (i)), (4, .inl (0)), (0, .inr (.inr (some (729)))), (1, .inr (.inr (some (q)))), (2, .inr (.inr (some (r)))), (3, .inl (fm))]) (st' := [.inl (i), .inr (.inr (some (q + 1))), .inr (.inr (some (723)))]) rfl ?_
      have n5 : 2000 ≤ qz_N g (q + 1) ∧ qz_N g (q + 1) ≤ 2000 := ez_len hBg t3 tq_89 rfl
      refine ez_aI hBg t3 rfl tq_89 rfl rfl (by omega) (by omega) (fun (b4 : -2147483648 ≤ qz_I g (q + 1) (i).toNat) (b4' : qz_I g (q + 1) (i).toNat ≤ 2147483647) => ?_)
      refine ez_go (n := 2) (pc' := 43) (L' := [(5, .inl (i)), (4, .inl (0)), (0, .inr (.inr (some (729)))), (1, .inr (.inr (some (q)))), (2, .inr (.inr (some (r)))), (3, .inl (fm))]) (st' := [.inl (0), .inr (.inr (some (r))), .inl (qz_I g (q + 1) (i).toNat), .inr (.inr (some (723)))]) rfl ?_
      have hi9 : i.toNat < u.length := by omega
      have ev := uq.2 _ _ (List.getElem?_eq_getElem hi9)
      have vb := ptl_at up (List.getElem?_eq_getElem hi9)
      rw [← ev] at vb
      have hv : u[i.toNat]? = some (qz_I g (q + 1) (i).toNat) := by rw [ev]; exact List.getElem?_eq_getElem hi9
      refine ez_cv hBg t723 rfl rfl rfl tq_55 rfl rfl rfl (rd_fFull0 hCg fdg hw tr vb.1 vb.2 am (fun m2 u2 lt g2 hB2 f2 a2 => ez_K1 ?_) (fun m2 u2 lt g2 hB2 f2 => ez_K1 ?_))
      · skip
        refine ez_if rfl rfl ⟨by decide, by decide⟩ (fun _ => ?_) (fun (c6 : ¬((1 : Int) ≠ (0))) => absurd c6 (by decide))
        refine ez_go (n := 2) (pc' := 20) (L' := [(5, .inl (i + 1)), (4, .inl (0)), (0, .inr (.inr (some (729)))), (1, .inr (.inr (some (q)))), (2, .inr (.inr (some (r)))), (3, .inl (fm))]) (st' := []) rfl ?_
        refine ez_less [(5, .inl (i + 1)), (4, .inl (0)), (0, .inr (.inr (some (729)))), (1, .inr (.inr (some (q)))), (2, .inr (.inr (some (r)))), (3, .inl (fm))] rfl ⟨rfl, rfl, rfl, rfl, rfl, rfl, trivial⟩ ?_
        refine ih (i + 1) g2 (m ++ m2) (by omega) (by omega) (by omega) hB2 (hf.trans f2) ?_ (by rw [← List.append_assoc]; exact a2)
        rw [show (i + 1).toNat = i.toNat + 1 by omega]; exact uz_FL_take (l := l) hv um u2
      · skip
        refine ez_if rfl rfl ⟨by decide, by decide⟩ (fun (c7 : (0 : Int) ≠ (0)) => absurd c7 (by decide)) (fun _ => ?_)
        refine ez_go (n := 1) (pc' := 50) (L' := [(5, .inl (i)), (4, .inl (0)), (0, .inr (.inr (some (729)))), (1, .inr (.inr (some (q)))), (2, .inr (.inr (some (r)))), (3, .inl (fm))]) (st' := [.inl (0)]) rfl ?_
        obtain ⟨m3, u3⟩ := fd.allL false up
        have le := uz_FL_le (i := i.toNat + 1) (uz_FL_take (l := l) hv um u2) u3
        exact ez_retZ rfl rfl (by decide) (k0 m3 u3 (by rw [List.length_append] at lt le; omega) g2 hB2 (hf.trans f2))
theorem rd_expand_s {q : Nat} {u : List Int} {fm : Int} (hC : pz_C τ h T F E) (fd : fD h T F) (hw : uz_wf F) (tr : τ r = 1) (tq : τ q = 88) (qr : q ≠ r) (uq : tx h q u) (up : ptl u) (fr : 0 ≤ fm ∧ fm ≤ 3) (a : tx h r l) (k1 : ∀ m, uz_FL F (decide (fm = 1 ∨ fm = 3)) u m → l.length + m.length ≤ 2000 → ∀ g, ez_B τ g → ez_fr (tx_P r) h g → tx g r (l ++ m) → Q (.inl (some (ez_v (.inl 1))), g)) (k0 : ∀ m, uz_FL F (decide (fm = 1 ∨ fm = 3)) u m → 2000 < l.length + m.length → ∀ g, ez_B τ g → ez_fr (tx_P r) h g → Q (.inl (some (ez_v (.inl 0))), g)) : ez_W (d + 3) cm_139 0 [(0, .inr (.inr (some (729)))), (1, .inr (.inr (some (q)))), (2, .inr (.inr (some (r)))), (3, .inl (fm))] [] h Q := by
  have t729 : τ 729 = 61 := hC.2.1 729 (by decide)
  have t723 : τ 723 = 55 := hC.2.1 723 (by decide)
  have t724 : τ 724 = 56 := hC.2.1 724 (by decide)
  refine ez_go (n := 2) (pc' := 2) (L' := [(0, .inr (.inr (some (729)))), (1, .inr (.inr (some (q)))), (2, .inr (.inr (some (r)))), (3, .inl (fm))]) (st' := [.inl (1), .inl (fm)]) rfl ?_
  refine ez_icmp rfl rfl ⟨by first | omega | exact (sz_i32 _).1, by first | omega | exact (sz_i32 _).2⟩ ⟨by first | omega | exact (sz_i32 _).1, by first | omega | exact (sz_i32 _).2⟩ (fun (c1 : (fm) = (1)) => ?_) (fun (c1 : ¬((fm) = (1))) => ?_)
  · skip
    refine ez_go (n := 5) (pc' := 20) (L' := [(5, .inl (0)), (4, .inl (1)), (0, .inr (.inr (some (729)))), (1, .inr (.inr (some (q)))), (2, .inr (.inr (some (r)))), (3, .inl (fm))]) (st' := []) rfl ?_
    refine ez_less [(5, .inl (0)), (4, .inl (1)), (0, .inr (.inr (some (729)))), (1, .inr (.inr (some (q)))), (2, .inr (.inr (some (r)))), (3, .inl (fm))] rfl ⟨rfl, rfl, rfl, rfl, rfl, rfl, trivial⟩ ?_
    have ec : decide (fm = 1 ∨ fm = 3) = true := decide_eq_true (by omega)
    rw [ec] at k1 k0
    exact rd_expand_ls1 (h := h) hC fd hw tr tq qr uq up k1 k0 _ 0 h [] rfl (by omega) (by omega) hC.1 (ez_fr.refl _ _) (by rw [show (0 : Int).toNat = 0 from rfl, List.take_zero]; exact uz_nil _ _) (by rw [List.append_nil]; exact a)
  · skip
    refine ez_go (n := 2) (pc' := 7) (L' := [(0, .inr (.inr (some (729)))), (1, .inr (.inr (some (q)))), (2, .inr (.inr (some (r)))), (3, .inl (fm))]) (st' := [.inl (3), .inl (fm)]) rfl ?_
    refine ez_icmp rfl rfl ⟨by first | omega | exact (sz_i32 _).1, by first | omega | exact (sz_i32 _).2⟩ ⟨by first | omega | exact (sz_i32 _).1, by first | omega | exact (sz_i32 _).2⟩ (fun (c2 : (fm) ≠ (3)) => ?_) (fun (c2 : ¬((fm) ≠ (3))) => ?_)
    · skip
      refine ez_go (n := 4) (pc' := 20) (L' := [(5, .inl (0)), (4, .inl (0)), (0, .inr (.inr (some (729)))), (1, .inr (.inr (some (q)))), (2, .inr (.inr (some (r)))), (3, .inl (fm))]) (st' := []) rfl ?_
      refine ez_less [(5, .inl (0)), (4, .inl (0)), (0, .inr (.inr (some (729)))), (1, .inr (.inr (some (q)))), (2, .inr (.inr (some (r)))), (3, .inl (fm))] rfl ⟨rfl, rfl, rfl, rfl, rfl, rfl, trivial⟩ ?_
      have ec : decide (fm = 1 ∨ fm = 3) = false := decide_eq_false (by omega)
      rw [ec] at k1 k0
      exact rd_expand_ls0 (h := h) hC fd hw tr tq qr uq up k1 k0 _ 0 h [] rfl (by omega) (by omega) hC.1 (ez_fr.refl _ _) (by rw [show (0 : Int).toNat = 0 from rfl, List.take_zero]; exact uz_nil _ _) (by rw [List.append_nil]; exact a)
    · skip
      refine ez_go (n := 5) (pc' := 20) (L' := [(5, .inl (0)), (4, .inl (1)), (0, .inr (.inr (some (729)))), (1, .inr (.inr (some (q)))), (2, .inr (.inr (some (r)))), (3, .inl (fm))]) (st' := []) rfl ?_
      refine ez_less [(5, .inl (0)), (4, .inl (1)), (0, .inr (.inr (some (729)))), (1, .inr (.inr (some (q)))), (2, .inr (.inr (some (r)))), (3, .inl (fm))] rfl ⟨rfl, rfl, rfl, rfl, rfl, rfl, trivial⟩ ?_
      have ec : decide (fm = 1 ∨ fm = 3) = true := decide_eq_true (by omega)
      rw [ec] at k1 k0
      exact rd_expand_ls1 (h := h) hC fd hw tr tq qr uq up k1 k0 _ 0 h [] rfl (by omega) (by omega) hC.1 (ez_fr.refl _ _) (by rw [show (0 : Int).toNat = 0 from rfl, List.take_zero]; exact uz_nil _ _) (by rw [List.append_nil]; exact a)

theorem rd_expand_lt1 {q : Nat} {u : List Int} {fm : Int} (hC : pz_C τ h T F E) (fd : fD h T F) (hw : uz_wf F) (tr : τ r = 1) (tq : τ q = 1) (qr : q ≠ r) (uq : tx h q u) (up : ptl u) (k1 : ∀ m, uz_FL F true u m → l.length + m.length ≤ 2000 → ∀ g, ez_B τ g → ez_fr (tx_P r) h g → tx g r (l ++ m) → Q (.inl (some (ez_v (.inl 1))), g)) (k0 : ∀ m, uz_FL F true u m → 2000 < l.length + m.length → ∀ g, ez_B τ g → ez_fr (tx_P r) h g → Q (.inl (some (ez_v (.inl 0))), g)) : ∀ (n : Nat) (i : Int) (g : cz_H) (m : List Int), n = ((u.length : Int) - i).toNat → 0 ≤ i → i ≤ (u.length : Int) → ez_B τ g → ez_fr (tx_P r) h g → uz_FL F true (u.take i.toNat) m → tx g r (l ++ m) → ez_W (d + 3) cm_139 20 [(5, .inl (i)), (4, .inl (1)), (0, .inr (.inr (some (729)))), (1, .inr (.inr (some (q)))), (2, .inr (.inr (some (r)))), (3, .inl (fm))] [] g Q := by
  have t729 : τ 729 = 61 := hC.2.1 729 (by decide)
  have t723 : τ 723 = 55 := hC.2.1 723 (by decide)
  have t724 : τ 724 = 56 := hC.2.1 724 (by decide)
  intro n
  induction n with
  | zero =>
    intro i g m hn i0 i1 hBg hf um am
    have tq1 := tx_p1 hBg tq
    have cq : g.2.2 q = h.2.2 q := hf.2.2 q (tx_Pn qr (fun e => by rw [e, tx_p1 hBg tr] at tq; cases tq))
    have cq1 : g.2.2 (q + 1) = h.2.2 (q + 1) := hf.2.2 (q + 1) (tx_Pn (fun e => by rw [e, tr] at tq1; cases tq1) (fun e => qr (by omega)))
    have uq := tx_c uq cq cq1
    have uql := uq.1
    have uqb := tx_l1 hBg tq
    have hCg : pz_C τ g T F E := hC.keep hBg (tx_kD hC.1 tr hf)
    have fdg : fD g T F := fd.keep hC (tx_kD hC.1 tr hf) (tx_keep hC.1 tr hf (by rw [t723]; decide) (by rw [t723]; decide)) (tx_keep hC.1 tr hf (by rw [t724]; decide) (by rw [t724]; decide))
    refine ez_go (n := 2) (pc' := 23) (L' := [(5, .inl (i)), (4, .inl (1)), (0, .inr (.inr (some (729)))), (1, .inr (.inr (some (q)))), (2, .inr (.inr (some (r)))), (3, .inl (fm))]) (st' := [.inr (.inr (some (q))), .inl (i)]) rfl ?_
    refine ez_gI hBg tq rfl rfl tq_1 rfl rfl (fun (b1 : 0 ≤ qz_I g q 1) (b1' : qz_I g q 1 ≤ 2000) => ?_)
    refine ez_icmp rfl rfl ⟨by first | omega | exact (sz_i32 _).1, by first | omega | exact (sz_i32 _).2⟩ ⟨by first | omega | exact (sz_i32 _).1, by first | omega | exact (sz_i32 _).2⟩ (fun (c2 : (qz_I g q 1) ≤ (i)) => ?_) (fun (c2 : ¬((qz_I g q 1) ≤ (i))) => ?_)
    · skip
      refine ez_go (n := 1) (pc' := 58) (L' := [(5, .inl (i)), (4, .inl (1)), (0, .inr (.inr (some (729)))), (1, .inr (.inr (some (q)))), (2, .inr (.inr (some (r)))), (3, .inl (fm))]) (st' := [.inl (1)]) rfl ?_
      exact ez_retZ rfl rfl (by decide) (k1 m (by rw [List.take_of_length_le (by omega)] at um; exact um) (by have := am.1; have := tx_l1 hBg tr; rw [List.length_append] at *; omega) g hBg hf am)
    · exfalso; omega
  | succ n ih =>
    intro i g m hn i0 i1 hBg hf um am
    have tq1 := tx_p1 hBg tq
    have cq : g.2.2 q = h.2.2 q := hf.2.2 q (tx_Pn qr (fun e => by rw [e, tx_p1 hBg tr] at tq; cases tq))
    have cq1 : g.2.2 (q + 1) = h.2.2 (q + 1) := hf.2.2 (q + 1) (tx_Pn (fun e => by rw [e, tr] at tq1; cases tq1) (fun e => qr (by omega)))
    have uq := tx_c uq cq cq1
    have uql := uq.1
    have uqb := tx_l1 hBg tq
    have hCg : pz_C τ g T F E := hC.keep hBg (tx_kD hC.1 tr hf)
    have fdg : fD g T F := fd.keep hC (tx_kD hC.1 tr hf) (tx_keep hC.1 tr hf (by rw [t723]; decide) (by rw [t723]; decide)) (tx_keep hC.1 tr hf (by rw [t724]; decide) (by rw [t724]; decide))
    refine ez_go (n := 2) (pc' := 23) (L' := [(5, .inl (i)), (4, .inl (1)), (0, .inr (.inr (some (729)))), (1, .inr (.inr (some (q)))), (2, .inr (.inr (some (r)))), (3, .inl (fm))]) (st' := [.inr (.inr (some (q))), .inl (i)]) rfl ?_
    refine ez_gI hBg tq rfl rfl tq_1 rfl rfl (fun (b1 : 0 ≤ qz_I g q 1) (b1' : qz_I g q 1 ≤ 2000) => ?_)
    refine ez_icmp rfl rfl ⟨by first | omega | exact (sz_i32 _).1, by first | omega | exact (sz_i32 _).2⟩ ⟨by first | omega | exact (sz_i32 _).1, by first | omega | exact (sz_i32 _).2⟩ (fun (c2 : (qz_I g q 1) ≤ (i)) => ?_) (fun (c2 : ¬((qz_I g q 1) ≤ (i))) => ?_)
    · exfalso; omega
    · skip
      refine ez_go (n := 1) (pc' := 30) (L' := [(5, .inl (i)), (4, .inl (1)), (0, .inr (.inr (some (729)))), (1, .inr (.inr (some (q)))), (2, .inr (.inr (some (r)))), (3, .inl (fm))]) (st' := [.inr (.inr (some (729)))]) rfl ?_
      refine ez_gC (p := 723) (tg := 55) hBg t729 rfl rfl tq_61 rfl rfl (fun (t723 : _ = 55) => ?_)
      refine ez_go (n := 1) (pc' := 34) (L' := [(5, .inl (i)), (4, .inl (1)), (0, .inr (.inr (some (729)))), (1, .inr (.inr (some (q)))), (2, .inr (.inr (some (r)))), (3, .inl (fm))]) (st' := [.inr (.inr (some (q))), .inr (.inr (some (723)))]) rfl ?_
      refine ez_g3 hBg tq rfl rfl tq_1 rfl rfl (fun (t3 : _ = 2) => ?_)
      refine ez_go (n := 1) (pc' := 39) (L' := [(5, .inl (i)), (4, .inl (1)), (0, .inr (.inr (some (729)))), (1, .inr (.inr (some (q)))), (2, .inr (.inr (some (r)))), (3, .inl (fm))]) (st' := [.inl (i), .inr (.inr (some (q + 1))), .inr (.inr (some (723)))]) rfl ?_
      have n5 : 2000 ≤ qz_N g (q + 1) ∧ qz_N g (q + 1) ≤ 2000 := ez_len hBg t3 tq_2 rfl
      refine ez_aI hBg t3 rfl tq_2 rfl rfl (by omega) (by omega) (fun (b4 : -2147483648 ≤ qz_I g (q + 1) (i).toNat) (b4' : qz_I g (q + 1) (i).toNat ≤ 2147483647) => ?_)
      refine ez_go (n := 2) (pc' := 43) (L' := [(5, .inl (i)), (4, .inl (1)), (0, .inr (.inr (some (729)))), (1, .inr (.inr (some (q)))), (2, .inr (.inr (some (r)))), (3, .inl (fm))]) (st' := [.inl (1), .inr (.inr (some (r))), .inl (qz_I g (q + 1) (i).toNat), .inr (.inr (some (723)))]) rfl ?_
      have hi9 : i.toNat < u.length := by omega
      have ev := uq.2 _ _ (List.getElem?_eq_getElem hi9)
      have vb := ptl_at up (List.getElem?_eq_getElem hi9)
      rw [← ev] at vb
      have hv : u[i.toNat]? = some (qz_I g (q + 1) (i).toNat) := by rw [ev]; exact List.getElem?_eq_getElem hi9
      refine ez_cv hBg t723 rfl rfl rfl tq_55 rfl rfl rfl (rd_fFull1 hCg fdg hw tr vb.1 vb.2 am (fun m2 u2 lt g2 hB2 f2 a2 => ez_K1 ?_) (fun m2 u2 lt g2 hB2 f2 => ez_K1 ?_))
      · skip
        refine ez_if rfl rfl ⟨by decide, by decide⟩ (fun _ => ?_) (fun (c6 : ¬((1 : Int) ≠ (0))) => absurd c6 (by decide))
        refine ez_go (n := 2) (pc' := 20) (L' := [(5, .inl (i + 1)), (4, .inl (1)), (0, .inr (.inr (some (729)))), (1, .inr (.inr (some (q)))), (2, .inr (.inr (some (r)))), (3, .inl (fm))]) (st' := []) rfl ?_
        refine ez_less [(5, .inl (i + 1)), (4, .inl (1)), (0, .inr (.inr (some (729)))), (1, .inr (.inr (some (q)))), (2, .inr (.inr (some (r)))), (3, .inl (fm))] rfl ⟨rfl, rfl, rfl, rfl, rfl, rfl, trivial⟩ ?_
        refine ih (i + 1) g2 (m ++ m2) (by omega) (by omega) (by omega) hB2 (hf.trans f2) ?_ (by rw [← List.append_assoc]; exact a2)
        rw [show (i + 1).toNat = i.toNat + 1 by omega]; exact uz_FL_take (l := l) hv um u2
      · skip
        refine ez_if rfl rfl ⟨by decide, by decide⟩ (fun (c7 : (0 : Int) ≠ (0)) => absurd c7 (by decide)) (fun _ => ?_)
        refine ez_go (n := 1) (pc' := 50) (L' := [(5, .inl (i)), (4, .inl (1)), (0, .inr (.inr (some (729)))), (1, .inr (.inr (some (q)))), (2, .inr (.inr (some (r)))), (3, .inl (fm))]) (st' := [.inl (0)]) rfl ?_
        obtain ⟨m3, u3⟩ := fd.allL true up
        have le := uz_FL_le (i := i.toNat + 1) (uz_FL_take (l := l) hv um u2) u3
        exact ez_retZ rfl rfl (by decide) (k0 m3 u3 (by rw [List.length_append] at lt le; omega) g2 hB2 (hf.trans f2))
theorem rd_expand_lt0 {q : Nat} {u : List Int} {fm : Int} (hC : pz_C τ h T F E) (fd : fD h T F) (hw : uz_wf F) (tr : τ r = 1) (tq : τ q = 1) (qr : q ≠ r) (uq : tx h q u) (up : ptl u) (k1 : ∀ m, uz_FL F false u m → l.length + m.length ≤ 2000 → ∀ g, ez_B τ g → ez_fr (tx_P r) h g → tx g r (l ++ m) → Q (.inl (some (ez_v (.inl 1))), g)) (k0 : ∀ m, uz_FL F false u m → 2000 < l.length + m.length → ∀ g, ez_B τ g → ez_fr (tx_P r) h g → Q (.inl (some (ez_v (.inl 0))), g)) : ∀ (n : Nat) (i : Int) (g : cz_H) (m : List Int), n = ((u.length : Int) - i).toNat → 0 ≤ i → i ≤ (u.length : Int) → ez_B τ g → ez_fr (tx_P r) h g → uz_FL F false (u.take i.toNat) m → tx g r (l ++ m) → ez_W (d + 3) cm_139 20 [(5, .inl (i)), (4, .inl (0)), (0, .inr (.inr (some (729)))), (1, .inr (.inr (some (q)))), (2, .inr (.inr (some (r)))), (3, .inl (fm))] [] g Q := by
  have t729 : τ 729 = 61 := hC.2.1 729 (by decide)
  have t723 : τ 723 = 55 := hC.2.1 723 (by decide)
  have t724 : τ 724 = 56 := hC.2.1 724 (by decide)
  intro n
  induction n with
  | zero =>
    intro i g m hn i0 i1 hBg hf um am
    have tq1 := tx_p1 hBg tq
    have cq : g.2.2 q = h.2.2 q := hf.2.2 q (tx_Pn qr (fun e => by rw [e, tx_p1 hBg tr] at tq; cases tq))
    have cq1 : g.2.2 (q + 1) = h.2.2 (q + 1) := hf.2.2 (q + 1) (tx_Pn (fun e => by rw [e, tr] at tq1; cases tq1) (fun e => qr (by omega)))
    have uq := tx_c uq cq cq1
    have uql := uq.1
    have uqb := tx_l1 hBg tq
    have hCg : pz_C τ g T F E := hC.keep hBg (tx_kD hC.1 tr hf)
    have fdg : fD g T F := fd.keep hC (tx_kD hC.1 tr hf) (tx_keep hC.1 tr hf (by rw [t723]; decide) (by rw [t723]; decide)) (tx_keep hC.1 tr hf (by rw [t724]; decide) (by rw [t724]; decide))
    refine ez_go (n := 2) (pc' := 23) (L' := [(5, .inl (i)), (4, .inl (0)), (0, .inr (.inr (some (729)))), (1, .inr (.inr (some (q)))), (2, .inr (.inr (some (r)))), (3, .inl (fm))]) (st' := [.inr (.inr (some (q))), .inl (i)]) rfl ?_
    refine ez_gI hBg tq rfl rfl tq_1 rfl rfl (fun (b1 : 0 ≤ qz_I g q 1) (b1' : qz_I g q 1 ≤ 2000) => ?_)
    refine ez_icmp rfl rfl ⟨by first | omega | exact (sz_i32 _).1, by first | omega | exact (sz_i32 _).2⟩ ⟨by first | omega | exact (sz_i32 _).1, by first | omega | exact (sz_i32 _).2⟩ (fun (c2 : (qz_I g q 1) ≤ (i)) => ?_) (fun (c2 : ¬((qz_I g q 1) ≤ (i))) => ?_)
    · skip
      refine ez_go (n := 1) (pc' := 58) (L' := [(5, .inl (i)), (4, .inl (0)), (0, .inr (.inr (some (729)))), (1, .inr (.inr (some (q)))), (2, .inr (.inr (some (r)))), (3, .inl (fm))]) (st' := [.inl (1)]) rfl ?_
      exact ez_retZ rfl rfl (by decide) (k1 m (by rw [List.take_of_length_le (by omega)] at um; exact um) (by have := am.1; have := tx_l1 hBg tr; rw [List.length_append] at *; omega) g hBg hf am)
    · exfalso; omega
  | succ n ih =>
    intro i g m hn i0 i1 hBg hf um am
    have tq1 := tx_p1 hBg tq
    have cq : g.2.2 q = h.2.2 q := hf.2.2 q (tx_Pn qr (fun e => by rw [e, tx_p1 hBg tr] at tq; cases tq))
    have cq1 : g.2.2 (q + 1) = h.2.2 (q + 1) := hf.2.2 (q + 1) (tx_Pn (fun e => by rw [e, tr] at tq1; cases tq1) (fun e => qr (by omega)))
    have uq := tx_c uq cq cq1
    have uql := uq.1
    have uqb := tx_l1 hBg tq
    have hCg : pz_C τ g T F E := hC.keep hBg (tx_kD hC.1 tr hf)
    have fdg : fD g T F := fd.keep hC (tx_kD hC.1 tr hf) (tx_keep hC.1 tr hf (by rw [t723]; decide) (by rw [t723]; decide)) (tx_keep hC.1 tr hf (by rw [t724]; decide) (by rw [t724]; decide))
    refine ez_go (n := 2) (pc' := 23) (L' := [(5, .inl (i)), (4, .inl (0)), (0, .inr (.inr (some (729)))), (1, .inr (.inr (some (q)))), (2, .inr (.inr (some (r)))), (3, .inl (fm))]) (st' := [.inr (.inr (some (q))), .inl (i)]) rfl ?_
    refine ez_gI hBg tq rfl rfl tq_1 rfl rfl (fun (b1 : 0 ≤ qz_I g q 1) (b1' : qz_I g q 1 ≤ 2000) => ?_)
    refine ez_icmp rfl rfl ⟨by first | omega | exact (sz_i32 _).1, by first | omega | exact (sz_i32 _).2⟩ ⟨by first | omega | exact (sz_i32 _).1, by first | omega | exact (sz_i32 _).2⟩ (fun (c2 : (qz_I g q 1) ≤ (i)) => ?_) (fun (c2 : ¬((qz_I g q 1) ≤ (i))) => ?_)
    · exfalso; omega
    · skip
      refine ez_go (n := 1) (pc' := 30) (L' := [(5, .inl (i)), (4, .inl (0)), (0, .inr (.inr (some (729)))), (1, .inr (.inr (some (q)))), (2, .inr (.inr (some (r)))), (3, .inl (fm))]) (st' := [.inr (.inr (some (729)))]) rfl ?_
      refine ez_gC (p := 723) (tg := 55) hBg t729 rfl rfl tq_61 rfl rfl (fun (t723 : _ = 55) => ?_)
      refine ez_go (n := 1) (pc' := 34) (L' := [(5, .inl (i)), (4, .inl (0)), (0, .inr (.inr (some (729)))), (1, .inr (.inr (some (q)))), (2, .inr (.inr (some (r)))), (3, .inl (fm))]) (st' := [.inr (.inr (some (q))), .inr (.inr (some (723)))]) rfl ?_
      refine ez_g3 hBg tq rfl rfl tq_1 rfl rfl (fun (t3 : _ = 2) => ?_)
      refine ez_go (n := 1) (pc' := 39) (L' := [(5, .inl (i)), (4, .inl (0)), (0, .inr (.inr (some (729)))), (1, .inr (.inr (some (q)))), (2, .inr (.inr (some (r)))), (3, .inl (fm))]) (st' := [.inl (i), .inr (.inr (some (q + 1))), .inr (.inr (some (723)))]) rfl ?_
      have n5 : 2000 ≤ qz_N g (q + 1) ∧ qz_N g (q + 1) ≤ 2000 := ez_len hBg t3 tq_2 rfl
      refine ez_aI hBg t3 rfl tq_2 rfl rfl (by omega) (by omega) (fun (b4 : -2147483648 ≤ qz_I g (q + 1) (i).toNat) (b4' : qz_I g (q + 1) (i).toNat ≤ 2147483647) => ?_)
      refine ez_go (n := 2) (pc' := 43) (L' := [(5, .inl (i)), (4, .inl (0)), (0, .inr (.inr (some (729)))), (1, .inr (.inr (some (q)))), (2, .inr (.inr (some (r)))), (3, .inl (fm))]) (st' := [.inl (0), .inr (.inr (some (r))), .inl (qz_I g (q + 1) (i).toNat), .inr (.inr (some (723)))]) rfl ?_
      have hi9 : i.toNat < u.length := by omega
      have ev := uq.2 _ _ (List.getElem?_eq_getElem hi9)
      have vb := ptl_at up (List.getElem?_eq_getElem hi9)
      rw [← ev] at vb
      have hv : u[i.toNat]? = some (qz_I g (q + 1) (i).toNat) := by rw [ev]; exact List.getElem?_eq_getElem hi9
      refine ez_cv hBg t723 rfl rfl rfl tq_55 rfl rfl rfl (rd_fFull0 hCg fdg hw tr vb.1 vb.2 am (fun m2 u2 lt g2 hB2 f2 a2 => ez_K1 ?_) (fun m2 u2 lt g2 hB2 f2 => ez_K1 ?_))
      · skip
        refine ez_if rfl rfl ⟨by decide, by decide⟩ (fun _ => ?_) (fun (c6 : ¬((1 : Int) ≠ (0))) => absurd c6 (by decide))
        refine ez_go (n := 2) (pc' := 20) (L' := [(5, .inl (i + 1)), (4, .inl (0)), (0, .inr (.inr (some (729)))), (1, .inr (.inr (some (q)))), (2, .inr (.inr (some (r)))), (3, .inl (fm))]) (st' := []) rfl ?_
        refine ez_less [(5, .inl (i + 1)), (4, .inl (0)), (0, .inr (.inr (some (729)))), (1, .inr (.inr (some (q)))), (2, .inr (.inr (some (r)))), (3, .inl (fm))] rfl ⟨rfl, rfl, rfl, rfl, rfl, rfl, trivial⟩ ?_
        refine ih (i + 1) g2 (m ++ m2) (by omega) (by omega) (by omega) hB2 (hf.trans f2) ?_ (by rw [← List.append_assoc]; exact a2)
        rw [show (i + 1).toNat = i.toNat + 1 by omega]; exact uz_FL_take (l := l) hv um u2
      · skip
        refine ez_if rfl rfl ⟨by decide, by decide⟩ (fun (c7 : (0 : Int) ≠ (0)) => absurd c7 (by decide)) (fun _ => ?_)
        refine ez_go (n := 1) (pc' := 50) (L' := [(5, .inl (i)), (4, .inl (0)), (0, .inr (.inr (some (729)))), (1, .inr (.inr (some (q)))), (2, .inr (.inr (some (r)))), (3, .inl (fm))]) (st' := [.inl (0)]) rfl ?_
        obtain ⟨m3, u3⟩ := fd.allL false up
        have le := uz_FL_le (i := i.toNat + 1) (uz_FL_take (l := l) hv um u2) u3
        exact ez_retZ rfl rfl (by decide) (k0 m3 u3 (by rw [List.length_append] at lt le; omega) g2 hB2 (hf.trans f2))
theorem rd_expand_t {q : Nat} {u : List Int} {fm : Int} (hC : pz_C τ h T F E) (fd : fD h T F) (hw : uz_wf F) (tr : τ r = 1) (tq : τ q = 1) (qr : q ≠ r) (uq : tx h q u) (up : ptl u) (fr : 0 ≤ fm ∧ fm ≤ 3) (a : tx h r l) (k1 : ∀ m, uz_FL F (decide (fm = 1 ∨ fm = 3)) u m → l.length + m.length ≤ 2000 → ∀ g, ez_B τ g → ez_fr (tx_P r) h g → tx g r (l ++ m) → Q (.inl (some (ez_v (.inl 1))), g)) (k0 : ∀ m, uz_FL F (decide (fm = 1 ∨ fm = 3)) u m → 2000 < l.length + m.length → ∀ g, ez_B τ g → ez_fr (tx_P r) h g → Q (.inl (some (ez_v (.inl 0))), g)) : ez_W (d + 3) cm_139 0 [(0, .inr (.inr (some (729)))), (1, .inr (.inr (some (q)))), (2, .inr (.inr (some (r)))), (3, .inl (fm))] [] h Q := by
  have t729 : τ 729 = 61 := hC.2.1 729 (by decide)
  have t723 : τ 723 = 55 := hC.2.1 723 (by decide)
  have t724 : τ 724 = 56 := hC.2.1 724 (by decide)
  refine ez_go (n := 2) (pc' := 2) (L' := [(0, .inr (.inr (some (729)))), (1, .inr (.inr (some (q)))), (2, .inr (.inr (some (r)))), (3, .inl (fm))]) (st' := [.inl (1), .inl (fm)]) rfl ?_
  refine ez_icmp rfl rfl ⟨by first | omega | exact (sz_i32 _).1, by first | omega | exact (sz_i32 _).2⟩ ⟨by first | omega | exact (sz_i32 _).1, by first | omega | exact (sz_i32 _).2⟩ (fun (c1 : (fm) = (1)) => ?_) (fun (c1 : ¬((fm) = (1))) => ?_)
  · skip
    refine ez_go (n := 5) (pc' := 20) (L' := [(5, .inl (0)), (4, .inl (1)), (0, .inr (.inr (some (729)))), (1, .inr (.inr (some (q)))), (2, .inr (.inr (some (r)))), (3, .inl (fm))]) (st' := []) rfl ?_
    refine ez_less [(5, .inl (0)), (4, .inl (1)), (0, .inr (.inr (some (729)))), (1, .inr (.inr (some (q)))), (2, .inr (.inr (some (r)))), (3, .inl (fm))] rfl ⟨rfl, rfl, rfl, rfl, rfl, rfl, trivial⟩ ?_
    have ec : decide (fm = 1 ∨ fm = 3) = true := decide_eq_true (by omega)
    rw [ec] at k1 k0
    exact rd_expand_lt1 (h := h) hC fd hw tr tq qr uq up k1 k0 _ 0 h [] rfl (by omega) (by omega) hC.1 (ez_fr.refl _ _) (by rw [show (0 : Int).toNat = 0 from rfl, List.take_zero]; exact uz_nil _ _) (by rw [List.append_nil]; exact a)
  · skip
    refine ez_go (n := 2) (pc' := 7) (L' := [(0, .inr (.inr (some (729)))), (1, .inr (.inr (some (q)))), (2, .inr (.inr (some (r)))), (3, .inl (fm))]) (st' := [.inl (3), .inl (fm)]) rfl ?_
    refine ez_icmp rfl rfl ⟨by first | omega | exact (sz_i32 _).1, by first | omega | exact (sz_i32 _).2⟩ ⟨by first | omega | exact (sz_i32 _).1, by first | omega | exact (sz_i32 _).2⟩ (fun (c2 : (fm) ≠ (3)) => ?_) (fun (c2 : ¬((fm) ≠ (3))) => ?_)
    · skip
      refine ez_go (n := 4) (pc' := 20) (L' := [(5, .inl (0)), (4, .inl (0)), (0, .inr (.inr (some (729)))), (1, .inr (.inr (some (q)))), (2, .inr (.inr (some (r)))), (3, .inl (fm))]) (st' := []) rfl ?_
      refine ez_less [(5, .inl (0)), (4, .inl (0)), (0, .inr (.inr (some (729)))), (1, .inr (.inr (some (q)))), (2, .inr (.inr (some (r)))), (3, .inl (fm))] rfl ⟨rfl, rfl, rfl, rfl, rfl, rfl, trivial⟩ ?_
      have ec : decide (fm = 1 ∨ fm = 3) = false := decide_eq_false (by omega)
      rw [ec] at k1 k0
      exact rd_expand_lt0 (h := h) hC fd hw tr tq qr uq up k1 k0 _ 0 h [] rfl (by omega) (by omega) hC.1 (ez_fr.refl _ _) (by rw [show (0 : Int).toNat = 0 from rfl, List.take_zero]; exact uz_nil _ _) (by rw [List.append_nil]; exact a)
    · skip
      refine ez_go (n := 5) (pc' := 20) (L' := [(5, .inl (0)), (4, .inl (1)), (0, .inr (.inr (some (729)))), (1, .inr (.inr (some (q)))), (2, .inr (.inr (some (r)))), (3, .inl (fm))]) (st' := []) rfl ?_
      refine ez_less [(5, .inl (0)), (4, .inl (1)), (0, .inr (.inr (some (729)))), (1, .inr (.inr (some (q)))), (2, .inr (.inr (some (r)))), (3, .inl (fm))] rfl ⟨rfl, rfl, rfl, rfl, rfl, rfl, trivial⟩ ?_
      have ec : decide (fm = 1 ∨ fm = 3) = true := decide_eq_true (by omega)
      rw [ec] at k1 k0
      exact rd_expand_lt1 (h := h) hC fd hw tr tq qr uq up k1 k0 _ 0 h [] rfl (by omega) (by omega) hC.1 (ez_fr.refl _ _) (by rw [show (0 : Int).toNat = 0 from rfl, List.take_zero]; exact uz_nil _ _) (by rw [List.append_nil]; exact a)

end EzFu
