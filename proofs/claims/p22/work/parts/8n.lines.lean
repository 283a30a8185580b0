/-! The model: collation, II: three numbers. (Written by wip/p2/py/pv78.py.) -/
theorem nz_dot {b : Int → Int} {a e : Int} (h : nz_fr b a) (he : e = 1 ∨ e = 2) : b (a + 1 + 5 * e) = 46 := by
  rcases he with q | q <;> subst q
  · rw [show a + 1 + 5 * 1 = a + 6 by omega]; exact h.2.2.1
  · rw [show a + 1 + 5 * 2 = a + 11 by omega]; exact h.2.2.2.1
section EzCp
variable {d : Nat} {h : cz_H} {τ : Nat → Nat} {Q : cz_F → Prop} {l : Nat}
theorem co.at {τ τ1 : Nat → Nat} {h g : cz_H} {l : Nat} {c x : Int} {A : List Int} (a : co τ h τ1 g l c x A) (hB : ez_B τ1 g) : (pn g ≤ qz_N g (po g) ∧ qz_N g (po g) ≤ 77100) ∧ (pn g = pn h + (A.length : Int) ∧ qz_N h (po h) ≤ qz_N g (po g)) ∧ ((g.2.1 : Int) - h.2.1 ≤ 2 * (qz_N g (po g) - qz_N h (po h)) ∧ 1024 * ((g.1 : Int) - h.1) ≤ qz_N g (po g) - qz_N h (po h)) := by
  obtain ⟨a1, -⟩ := a
  exact ⟨⟨a1.2.2.2.2.2.2.2.1.1, pool_le hB a1.2.2.1⟩, ⟨a1.2.2.2.2.1, a1.2.2.2.2.2.2.2.1.2⟩, a1.2.2.2.2.2.2.2.2.1⟩
theorem co.l2 {τ τ1 : Nat → Nat} {h g : cz_H} {l : Nat} {c x : Int} {A : List Int} (a : co τ h τ1 g l c x A) (x0 : 0 ≤ x) : l2 (qz_P h l 7) (qz_P h l 8) g := by
  obtain ⟨a1, a2, a3, a4, a5, a6⟩ := a
  have := a1.2.2.2.2.2.2.2.1.1
  exact ⟨a2, by rw [a4]; omega⟩
theorem rd_col_e {c a T z : Int} (d5 : cd5 τ h l) (h0 : 0 ≤ pn h) (hpm : pn h + 75 ≤ 38400) (hNh : 1024 ≤ qz_N h (po h)) (hr1 : h.1 + 300 ≤ 600192) (hr2 : h.2.1 + 500000 ≤ 7302232) (tpo : τ (po h) = 17) (t771 : τ 771 = 76) (c0 : 0 ≤ c) (c17 : c ≤ 17) (kx : ∀ g τ1 A, ez_B τ1 g → co τ h τ1 g l c 4 A → qz_I g 770 17 ≤ qz_I g 770 18 → qz_I g 770 17 = a + 16 → qz_I g 770 18 = T → (rz_hex (mb h) 4 (a + 2) 0 ≠ -1 ∧ (mb h (a + 6) = 46 ∧ rz_hex (mb h) 4 (a + 7) 0 ≠ -1) ∧ (mb h (a + 11) = 46 ∧ rz_hex (mb h) 4 (a + 12) 0 ≠ -1)) → qz_I g (qz_P h l 8) 0 = z → ez_W (d + 8) cm_236 225 [(0, .inr (.inr (some (770)))), (1, .inr (.inr (some (l))))] [] g Q) (k0 : ∀ g τ1 c x A, ez_B τ1 g → co τ h τ1 g l c x A → 0 ≤ x → ¬ (a + 17 ≤ T ∧ nz_e1 (mb h) a) → Q (.inr g.1, xc g 1)) : ∀ (n : Nat) (e : Int) (g : cz_H) (τ1 : Nat → Nat) (A : List Int), n = (3 - e).toNat → ez_B τ1 g → co τ h τ1 g l c (1 + e) A → 0 ≤ e → e ≤ 3 → (e = 0 → qz_I g 770 17 < qz_I g 770 18) → qz_I g 770 17 ≤ qz_I g 770 18 → qz_I g 770 17 = a + 1 + 5 * e → qz_I g 770 18 = T → (1 ≤ e → rz_hex (mb h) 4 (a + 2) 0 ≠ -1) → (2 ≤ e → mb h (a + 6) = 46 ∧ rz_hex (mb h) 4 (a + 7) 0 ≠ -1) → (3 ≤ e → mb h (a + 11) = 46 ∧ rz_hex (mb h) 4 (a + 12) 0 ≠ -1) → qz_I g (qz_P h l 8) 0 = z → ez_W (d + 8) cm_236 124 [(2, .inl (e)), (0, .inr (.inr (some (770)))), (1, .inr (.inr (some (l))))] [] g Q := by
  intro n
  induction n with
  | zero =>
    intro e g τ1 A hn hBg hc e0 e39 he hat h17 h18 hx1 hx4 hx6 hz
    have hmb := hc.oc d5 tpo t771
    have q := hc.at hBg
    have q6 := hc.2.2.2.2.2
    have u770 : τ1 770 = 75 := (hc.1.1 770 (by rw [d5.1]; decide)).1.trans d5.1
    have ul : τ1 l = 13 := (hc.1.1 l (by rw [d5.2.1]; decide)).1.trans d5.2.1
    have s18 : qz_I g 770 18 ≤ 4096 := (ez_fB (cl := 11) (k := 18) hBg u770 tq_75 rfl rfl (by decide)).2
    refine ez_go (n := 2) (pc' := 126) (L' := [(2, .inl (e)), (0, .inr (.inr (some (770)))), (1, .inr (.inr (some (l))))]) (st' := [.inl (3), .inl (e)]) rfl ?_
    refine ez_icmp rfl rfl ⟨by first | omega | exact (sz_i32 _).1, by first | omega | exact (sz_i32 _).2⟩ ⟨by first | omega | exact (sz_i32 _).1, by first | omega | exact (sz_i32 _).2⟩ (fun (c1 : (3) ≤ (e)) => ?_) (fun (c1 : ¬((3) ≤ (e))) => ?_)
    · skip
      refine ez_less [(0, .inr (.inr (some (770)))), (1, .inr (.inr (some (l))))] rfl ⟨rfl, rfl, trivial⟩ ?_
      have ek : e = 3 := by omega
      rw [ek] at hc h17
      exact kx g τ1 A hBg hc hat (by omega) h18 ⟨hx1 (by omega), hx4 (by omega), hx6 (by omega)⟩ hz
    · skip
      refine ez_go (n := 2) (pc' := 131) (L' := [(2, .inl (e)), (0, .inr (.inr (some (770)))), (1, .inr (.inr (some (l))))]) (st' := [.inl (e), .inr (.inr (some (770)))]) rfl ?_
      refine ez_if rfl rfl ⟨by first | omega | exact (sz_i32 _).1, by first | omega | exact (sz_i32 _).2⟩ (fun (c2 : (e) = (0)) => ?_) (fun (c2 : ¬((e) = (0))) => ?_)
      · skip
        refine ez_go (n := 2) (pc' := 148) (L' := [(2, .inl (e)), (0, .inr (.inr (some (770)))), (1, .inr (.inr (some (l))))]) (st' := [.inl (1), .inr (.inr (some (770)))]) rfl ?_
        refine ez_cv hBg u770 rfl rfl rfl tq_75 rfl rfl rfl (rd_can1 (by omega) (by omega) (ez_K0 ?_))
        refine ez_go (n := 2) (pc' := 153) (L' := [(2, .inl (e)), (0, .inr (.inr (some (770)))), (1, .inr (.inr (some (l))))]) (st' := [.inr (.inr (some (770))), .inr (.inr (some (770)))]) rfl ?_
        refine ez_gI hBg u770 rfl rfl tq_75 rfl rfl (fun (b3 : 0 ≤ qz_I g 770 17) (b3' : qz_I g 770 17 ≤ 4200) => ?_)
        refine ez_go (n := 2) (pc' := 158) (L' := [(2, .inl (e)), (0, .inr (.inr (some (770)))), (1, .inr (.inr (some (l))))]) (st' := [.inl ((qz_I g 770 17) + (1)), .inr (.inr (some (770)))]) rfl ?_
        refine ez_pf hBg u770 rfl rfl tq_75 rfl rfl rfl rfl (ez_vdI rfl rfl (by omega) (by omega)) (fun hB4 w5 => ?_)
        refine ez_go (n := 4) (pc' := 166) (L' := [(4, .inl (0)), (3, .inl (0)), (2, .inl (e)), (0, .inr (.inr (some (770)))), (1, .inr (.inr (some (l))))]) (st' := []) rfl ?_
        exfalso; omega
      · skip
        refine ez_go (n := 1) (pc' := 135) (L' := [(2, .inl (e)), (0, .inr (.inr (some (770)))), (1, .inr (.inr (some (l))))]) (st' := [.inr (.inr (some (770))), .inr (.inr (some (770)))]) rfl ?_
        refine ez_cv hBg u770 rfl rfl rfl tq_75 rfl rfl rfl (rd_peek hBg u770 (fun b1 b2 => ez_K1 ?_))
        have hpk : mk (mb g) (qz_I g 770 17) (qz_I g 770 18) ≠ -1 → qz_I g 770 17 < qz_I g 770 18 := fun w => by by_cases e : qz_I g 770 17 < qz_I g 770 18; (· exact e); (· exact absurd (mk_out e) w)
        obtain ⟨pk, epk⟩ : ∃ pk, pk = mk (mb g) (qz_I g 770 17) (qz_I g 770 18) := ⟨_, rfl⟩
        rw [← epk] at b1 b2 hpk ⊢
        refine ez_go (n := 1) (pc' := 140) (L' := [(2, .inl (e)), (0, .inr (.inr (some (770)))), (1, .inr (.inr (some (l))))]) (st' := [.inl (46), .inl (pk), .inr (.inr (some (770)))]) rfl ?_
        refine ez_icmp rfl rfl ⟨by first | omega | exact (sz_i32 _).1, by first | omega | exact (sz_i32 _).2⟩ ⟨by first | omega | exact (sz_i32 _).1, by first | omega | exact (sz_i32 _).2⟩ (fun (c6 : (pk) ≠ (46)) => ?_) (fun (c6 : ¬((pk) ≠ (46))) => ?_)
        · skip
          refine ez_go (n := 1) (pc' := 148) (L' := [(2, .inl (e)), (0, .inr (.inr (some (770)))), (1, .inr (.inr (some (l))))]) (st' := [.inl (0), .inr (.inr (some (770)))]) rfl ?_
          refine ez_cv hBg u770 rfl rfl rfl tq_75 rfl rfl rfl (rd_can0 (by omega) (by omega) (ez_Kp (xc_exc hBg rfl) rfl (k0 g τ1 c _ A hBg hc (by omega) (fun w => by have dt := nz_dot w.2.1 (show e = 1 ∨ e = 2 from (by omega)); have w1 := w.1; rw [mk_in (by omega), hmb, h17] at epk; omega))))
        · skip
          refine ez_go (n := 2) (pc' := 148) (L' := [(2, .inl (e)), (0, .inr (.inr (some (770)))), (1, .inr (.inr (some (l))))]) (st' := [.inl (1), .inr (.inr (some (770)))]) rfl ?_
          refine ez_cv hBg u770 rfl rfl rfl tq_75 rfl rfl rfl (rd_can1 (by omega) (by omega) (ez_K0 ?_))
          refine ez_go (n := 2) (pc' := 153) (L' := [(2, .inl (e)), (0, .inr (.inr (some (770)))), (1, .inr (.inr (some (l))))]) (st' := [.inr (.inr (some (770))), .inr (.inr (some (770)))]) rfl ?_
          refine ez_gI hBg u770 rfl rfl tq_75 rfl rfl (fun (b7 : 0 ≤ qz_I g 770 17) (b7' : qz_I g 770 17 ≤ 4200) => ?_)
          refine ez_go (n := 2) (pc' := 158) (L' := [(2, .inl (e)), (0, .inr (.inr (some (770)))), (1, .inr (.inr (some (l))))]) (st' := [.inl ((qz_I g 770 17) + (1)), .inr (.inr (some (770)))]) rfl ?_
          refine ez_pf hBg u770 rfl rfl tq_75 rfl rfl rfl rfl (ez_vdI rfl rfl (by omega) (by omega)) (fun hB8 w9 => ?_)
          refine ez_go (n := 4) (pc' := 166) (L' := [(4, .inl (0)), (3, .inl (0)), (2, .inl (e)), (0, .inr (.inr (some (770)))), (1, .inr (.inr (some (l))))]) (st' := []) rfl ?_
          exfalso; omega
  | succ n ih =>
    intro e g τ1 A hn hBg hc e0 e39 he hat h17 h18 hx1 hx4 hx6 hz
    have hmb := hc.oc d5 tpo t771
    have q := hc.at hBg
    have q6 := hc.2.2.2.2.2
    have u770 : τ1 770 = 75 := (hc.1.1 770 (by rw [d5.1]; decide)).1.trans d5.1
    have ul : τ1 l = 13 := (hc.1.1 l (by rw [d5.2.1]; decide)).1.trans d5.2.1
    have s18 : qz_I g 770 18 ≤ 4096 := (ez_fB (cl := 11) (k := 18) hBg u770 tq_75 rfl rfl (by decide)).2
    refine ez_go (n := 2) (pc' := 126) (L' := [(2, .inl (e)), (0, .inr (.inr (some (770)))), (1, .inr (.inr (some (l))))]) (st' := [.inl (3), .inl (e)]) rfl ?_
    refine ez_icmp rfl rfl ⟨by first | omega | exact (sz_i32 _).1, by first | omega | exact (sz_i32 _).2⟩ ⟨by first | omega | exact (sz_i32 _).1, by first | omega | exact (sz_i32 _).2⟩ (fun (c1 : (3) ≤ (e)) => ?_) (fun (c1 : ¬((3) ≤ (e))) => ?_)
    · skip
      refine ez_less [(0, .inr (.inr (some (770)))), (1, .inr (.inr (some (l))))] rfl ⟨rfl, rfl, trivial⟩ ?_
      have ek : e = 3 := by omega
      rw [ek] at hc h17
      exact kx g τ1 A hBg hc hat (by omega) h18 ⟨hx1 (by omega), hx4 (by omega), hx6 (by omega)⟩ hz
    · skip
      refine ez_go (n := 2) (pc' := 131) (L' := [(2, .inl (e)), (0, .inr (.inr (some (770)))), (1, .inr (.inr (some (l))))]) (st' := [.inl (e), .inr (.inr (some (770)))]) rfl ?_
      refine ez_if rfl rfl ⟨by first | omega | exact (sz_i32 _).1, by first | omega | exact (sz_i32 _).2⟩ (fun (c2 : (e) = (0)) => ?_) (fun (c2 : ¬((e) = (0))) => ?_)
      · skip
        refine ez_go (n := 2) (pc' := 148) (L' := [(2, .inl (e)), (0, .inr (.inr (some (770)))), (1, .inr (.inr (some (l))))]) (st' := [.inl (1), .inr (.inr (some (770)))]) rfl ?_
        refine ez_cv hBg u770 rfl rfl rfl tq_75 rfl rfl rfl (rd_can1 (by omega) (by omega) (ez_K0 ?_))
        refine ez_go (n := 2) (pc' := 153) (L' := [(2, .inl (e)), (0, .inr (.inr (some (770)))), (1, .inr (.inr (some (l))))]) (st' := [.inr (.inr (some (770))), .inr (.inr (some (770)))]) rfl ?_
        refine ez_gI hBg u770 rfl rfl tq_75 rfl rfl (fun (b3 : 0 ≤ qz_I g 770 17) (b3' : qz_I g 770 17 ≤ 4200) => ?_)
        refine ez_go (n := 2) (pc' := 158) (L' := [(2, .inl (e)), (0, .inr (.inr (some (770)))), (1, .inr (.inr (some (l))))]) (st' := [.inl ((qz_I g 770 17) + (1)), .inr (.inr (some (770)))]) rfl ?_
        refine ez_pf hBg u770 rfl rfl tq_75 rfl rfl rfl rfl (ez_vdI rfl rfl (by omega) (by omega)) (fun hB4 w5 => ?_)
        refine ez_go (n := 4) (pc' := 166) (L' := [(4, .inl (0)), (3, .inl (0)), (2, .inl (e)), (0, .inr (.inr (some (770)))), (1, .inr (.inr (some (l))))]) (st' := []) rfl ?_
        refine ez_less [(4, .inl (0)), (3, .inl (0)), (2, .inl (e)), (0, .inr (.inr (some (770)))), (1, .inr (.inr (some (l))))] rfl ⟨rfl, rfl, rfl, rfl, rfl, trivial⟩ ?_
        have e17 : qz_I (dz_put g 770 17 (ez_v (.inl ((qz_I g 770 17) + (1))))) 770 17 = qz_I g 770 17 + 1 := by rw [w5, rz_rd ⟨by omega, by omega⟩]
        have e18 : qz_I (dz_put g 770 17 (ez_v (.inl ((qz_I g 770 17) + (1))))) 770 18 = qz_I g 770 18 := ez_put_I (by omega)
        have hlt : qz_I g 770 17 < qz_I g 770 18 := by omega
        have e3 : e = 0 ∨ e = 1 ∨ e = 2 := by omega
        have hdot : 1 ≤ e → mb h (a + 1 + 5 * e) = 46 := fun w => by omega
        refine rd_col_h (h := g) (e := e) (p0 := a + 2 + 5 * e) u770 (by omega) (by omega) (fun g2 v hB2 m2 v0 v1 ha2 h172 hx2 => ?_) (fun g2 hB2 m2 nh => k0 g2 τ1 c _ A hB2 (hc.put17 d5 m2 h0) (by omega) (fun w => nh ⟨by omega, by rw [hmb]; obtain ⟨-, -, f1, f2, f3⟩ := w; rcases e3 with q | q | q; (· rw [q, show a + 2 + 5 * 0 = a + 2 by omega]; exact f1); (· rw [q, show a + 2 + 5 * 1 = a + 7 by omega]; exact f2); (· rw [q, show a + 2 + 5 * 2 = a + 12 by omega]; exact f3)⟩)) _ 0 0 _ rfl hB4 mz_put (by omega) (by omega) (by omega) (by decide) (by rw [e17, e18]; omega) (by rw [e17, h17]; omega) (fun j j1 j2 => by omega)
        rw [hmb] at hx2
        have hz2 := (hc.z7 d5 m2).trans hz
        have c2 := hc.put17 d5 m2 h0
        have q2 := c2.at hB2
        refine ez_go (n := 2) (pc' := 216) (L' := [(3, .inl (v)), (2, .inl (e)), (0, .inr (.inr (some (770)))), (1, .inr (.inr (some (l))))]) (st' := [.inl (v), .inr (.inr (some (770)))]) rfl ?_
        refine ez_cv hB2 u770 rfl rfl rfl tq_75 rfl rfl rfl (rd_keep hB2 u770 (by omega) (by omega) (by omega) (by omega) (by omega) (by omega) (fun g3 τ3 hB3 k3 => ez_K0 ?_))
        have c3 := c2.keep d5 k3 h0
        have hz3 := (c2.zk d5 k3).trans hz2
        have u3 : τ3 770 = 75 := (k3.1 770 (by rw [u770]; decide)).1.trans u770
        have v3 : τ3 l = 13 := (k3.1 l (by rw [ul]; decide)).1.trans ul
        refine ez_go (n := 2) (pc' := 124) (L' := [(2, .inl (e + 1)), (3, .inl (v)), (0, .inr (.inr (some (770)))), (1, .inr (.inr (some (l))))]) (st' := []) rfl ?_
        refine ez_less [(2, .inl (e + 1)), (0, .inr (.inr (some (770)))), (1, .inr (.inr (some (l))))] rfl ⟨rfl, rfl, rfl, trivial⟩ ?_
        exact ih (e + 1) g3 τ3 _ (by omega) hB3 (by rw [show 1 + (e + 1) = 1 + e + 1 by omega]; exact c3) (by omega) (by omega) (fun w => absurd w (by omega)) (by rw [k3.2.2.2.1 17 (by decide) (by decide), k3.2.2.2.1 18 (by decide) (by decide)]; exact ha2) (by rw [k3.2.2.2.1 17 (by decide) (by decide), h172]; omega) (by rw [k3.2.2.2.1 18 (by decide) (by decide), m2.2 18 (by decide)]; exact h18) (fun w => by rcases e3 with q | q | q; (· rw [q, show a + 2 + 5 * 0 = a + 2 by omega] at hx2; exact hx2); (· exact hx1 (by omega)); (· exact hx1 (by omega))) (fun w => by rcases e3 with q | q | q; (· omega); (· rw [q, show a + 2 + 5 * 1 = a + 7 by omega] at hx2; have hd := hdot (by omega); rw [q, show a + 1 + 5 * 1 = a + 6 by omega] at hd; exact ⟨hd, hx2⟩); (· exact hx4 (by omega))) (fun w => by rcases e3 with q | q | q; (· omega); (· omega); (· rw [q, show a + 2 + 5 * 2 = a + 12 by omega] at hx2; have hd := hdot (by omega); rw [q, show a + 1 + 5 * 2 = a + 11 by omega] at hd; exact ⟨hd, hx2⟩)) hz3
      · skip
        refine ez_go (n := 1) (pc' := 135) (L' := [(2, .inl (e)), (0, .inr (.inr (some (770)))), (1, .inr (.inr (some (l))))]) (st' := [.inr (.inr (some (770))), .inr (.inr (some (770)))]) rfl ?_
        refine ez_cv hBg u770 rfl rfl rfl tq_75 rfl rfl rfl (rd_peek hBg u770 (fun b1 b2 => ez_K1 ?_))
        have hpk : mk (mb g) (qz_I g 770 17) (qz_I g 770 18) ≠ -1 → qz_I g 770 17 < qz_I g 770 18 := fun w => by by_cases e : qz_I g 770 17 < qz_I g 770 18; (· exact e); (· exact absurd (mk_out e) w)
        obtain ⟨pk, epk⟩ : ∃ pk, pk = mk (mb g) (qz_I g 770 17) (qz_I g 770 18) := ⟨_, rfl⟩
        rw [← epk] at b1 b2 hpk ⊢
        refine ez_go (n := 1) (pc' := 140) (L' := [(2, .inl (e)), (0, .inr (.inr (some (770)))), (1, .inr (.inr (some (l))))]) (st' := [.inl (46), .inl (pk), .inr (.inr (some (770)))]) rfl ?_
        refine ez_icmp rfl rfl ⟨by first | omega | exact (sz_i32 _).1, by first | omega | exact (sz_i32 _).2⟩ ⟨by first | omega | exact (sz_i32 _).1, by first | omega | exact (sz_i32 _).2⟩ (fun (c6 : (pk) ≠ (46)) => ?_) (fun (c6 : ¬((pk) ≠ (46))) => ?_)
        · skip
          refine ez_go (n := 1) (pc' := 148) (L' := [(2, .inl (e)), (0, .inr (.inr (some (770)))), (1, .inr (.inr (some (l))))]) (st' := [.inl (0), .inr (.inr (some (770)))]) rfl ?_
          refine ez_cv hBg u770 rfl rfl rfl tq_75 rfl rfl rfl (rd_can0 (by omega) (by omega) (ez_Kp (xc_exc hBg rfl) rfl (k0 g τ1 c _ A hBg hc (by omega) (fun w => by have dt := nz_dot w.2.1 (show e = 1 ∨ e = 2 from (by omega)); have w1 := w.1; rw [mk_in (by omega), hmb, h17] at epk; omega))))
        · skip
          refine ez_go (n := 2) (pc' := 148) (L' := [(2, .inl (e)), (0, .inr (.inr (some (770)))), (1, .inr (.inr (some (l))))]) (st' := [.inl (1), .inr (.inr (some (770)))]) rfl ?_
          refine ez_cv hBg u770 rfl rfl rfl tq_75 rfl rfl rfl (rd_can1 (by omega) (by omega) (ez_K0 ?_))
          refine ez_go (n := 2) (pc' := 153) (L' := [(2, .inl (e)), (0, .inr (.inr (some (770)))), (1, .inr (.inr (some (l))))]) (st' := [.inr (.inr (some (770))), .inr (.inr (some (770)))]) rfl ?_
          refine ez_gI hBg u770 rfl rfl tq_75 rfl rfl (fun (b7 : 0 ≤ qz_I g 770 17) (b7' : qz_I g 770 17 ≤ 4200) => ?_)
          refine ez_go (n := 2) (pc' := 158) (L' := [(2, .inl (e)), (0, .inr (.inr (some (770)))), (1, .inr (.inr (some (l))))]) (st' := [.inl ((qz_I g 770 17) + (1)), .inr (.inr (some (770)))]) rfl ?_
          refine ez_pf hBg u770 rfl rfl tq_75 rfl rfl rfl rfl (ez_vdI rfl rfl (by omega) (by omega)) (fun hB8 w9 => ?_)
          refine ez_go (n := 4) (pc' := 166) (L' := [(4, .inl (0)), (3, .inl (0)), (2, .inl (e)), (0, .inr (.inr (some (770)))), (1, .inr (.inr (some (l))))]) (st' := []) rfl ?_
          refine ez_less [(4, .inl (0)), (3, .inl (0)), (2, .inl (e)), (0, .inr (.inr (some (770)))), (1, .inr (.inr (some (l))))] rfl ⟨rfl, rfl, rfl, rfl, rfl, trivial⟩ ?_
          have e17 : qz_I (dz_put g 770 17 (ez_v (.inl ((qz_I g 770 17) + (1))))) 770 17 = qz_I g 770 17 + 1 := by rw [w9, rz_rd ⟨by omega, by omega⟩]
          have e18 : qz_I (dz_put g 770 17 (ez_v (.inl ((qz_I g 770 17) + (1))))) 770 18 = qz_I g 770 18 := ez_put_I (by omega)
          have hlt : qz_I g 770 17 < qz_I g 770 18 := by omega
          have e3 : e = 0 ∨ e = 1 ∨ e = 2 := by omega
          have hdot : 1 ≤ e → mb h (a + 1 + 5 * e) = 46 := fun w => by rw [mk_in (hpk (by omega)), hmb, h17] at epk; omega
          refine rd_col_h (h := g) (e := e) (p0 := a + 2 + 5 * e) u770 (by omega) (by omega) (fun g2 v hB2 m2 v0 v1 ha2 h172 hx2 => ?_) (fun g2 hB2 m2 nh => k0 g2 τ1 c _ A hB2 (hc.put17 d5 m2 h0) (by omega) (fun w => nh ⟨by omega, by rw [hmb]; obtain ⟨-, -, f1, f2, f3⟩ := w; rcases e3 with q | q | q; (· rw [q, show a + 2 + 5 * 0 = a + 2 by omega]; exact f1); (· rw [q, show a + 2 + 5 * 1 = a + 7 by omega]; exact f2); (· rw [q, show a + 2 + 5 * 2 = a + 12 by omega]; exact f3)⟩)) _ 0 0 _ rfl hB8 mz_put (by omega) (by omega) (by omega) (by decide) (by rw [e17, e18]; omega) (by rw [e17, h17]; omega) (fun j j1 j2 => by omega)
          rw [hmb] at hx2
          have hz2 := (hc.z7 d5 m2).trans hz
          have c2 := hc.put17 d5 m2 h0
          have q2 := c2.at hB2
          refine ez_go (n := 2) (pc' := 216) (L' := [(3, .inl (v)), (2, .inl (e)), (0, .inr (.inr (some (770)))), (1, .inr (.inr (some (l))))]) (st' := [.inl (v), .inr (.inr (some (770)))]) rfl ?_
          refine ez_cv hB2 u770 rfl rfl rfl tq_75 rfl rfl rfl (rd_keep hB2 u770 (by omega) (by omega) (by omega) (by omega) (by omega) (by omega) (fun g3 τ3 hB3 k3 => ez_K0 ?_))
          have c3 := c2.keep d5 k3 h0
          have hz3 := (c2.zk d5 k3).trans hz2
          have u3 : τ3 770 = 75 := (k3.1 770 (by rw [u770]; decide)).1.trans u770
          have v3 : τ3 l = 13 := (k3.1 l (by rw [ul]; decide)).1.trans ul
          refine ez_go (n := 2) (pc' := 124) (L' := [(2, .inl (e + 1)), (3, .inl (v)), (0, .inr (.inr (some (770)))), (1, .inr (.inr (some (l))))]) (st' := []) rfl ?_
          refine ez_less [(2, .inl (e + 1)), (0, .inr (.inr (some (770)))), (1, .inr (.inr (some (l))))] rfl ⟨rfl, rfl, rfl, trivial⟩ ?_
          exact ih (e + 1) g3 τ3 _ (by omega) hB3 (by rw [show 1 + (e + 1) = 1 + e + 1 by omega]; exact c3) (by omega) (by omega) (fun w => absurd w (by omega)) (by rw [k3.2.2.2.1 17 (by decide) (by decide), k3.2.2.2.1 18 (by decide) (by decide)]; exact ha2) (by rw [k3.2.2.2.1 17 (by decide) (by decide), h172]; omega) (by rw [k3.2.2.2.1 18 (by decide) (by decide), m2.2 18 (by decide)]; exact h18) (fun w => by rcases e3 with q | q | q; (· rw [q, show a + 2 + 5 * 0 = a + 2 by omega] at hx2; exact hx2); (· exact hx1 (by omega)); (· exact hx1 (by omega))) (fun w => by rcases e3 with q | q | q; (· omega); (· rw [q, show a + 2 + 5 * 1 = a + 7 by omega] at hx2; have hd := hdot (by omega); rw [q, show a + 1 + 5 * 1 = a + 6 by omega] at hd; exact ⟨hd, hx2⟩); (· exact hx4 (by omega))) (fun w => by rcases e3 with q | q | q; (· omega); (· omega); (· rw [q, show a + 2 + 5 * 2 = a + 12 by omega] at hx2; have hd := hdot (by omega); rw [q, show a + 1 + 5 * 2 = a + 11 by omega] at hd; exact ⟨hd, hx2⟩)) hz3

end EzCp
/-! The model: collation, III: elements; all of it. (Written by wip/p2/py/pv79.py.) -/
theorem els_next {b : Int → Int} {T a c a2 : Int} (c0 : 0 ≤ c) (e4 : a2 = rz_skip b (T - (a + 17)).toNat (a + 17)) (h1 : a + 17 ≤ T) (h2 : nz_e1 b a) : (∃ m : Nat, (1 ≤ c + (m : Int) ∧ c + (m : Int) ≤ 18) ∧ nz_el b T m a) ↔ ∃ m : Nat, (1 ≤ c + 1 + (m : Int) ∧ c + 1 + (m : Int) ≤ 18) ∧ nz_el b T m a2 := by
  constructor
  · rintro ⟨m, w1, w2⟩
    cases m with
    | zero => have w2 : T ≤ a := w2; omega
    | succ m => exact ⟨m, by omega, by rw [e4]; exact w2.2.2⟩
  · rintro ⟨m, w1, w2⟩
    exact ⟨m + 1, by omega, h1, h2, by rw [e4] at w2; exact w2⟩
section EzCq
variable {d : Nat} {h : cz_H} {τ : Nat → Nat} {Q : cz_F → Prop} {l : Nat}
theorem co.inc {τ τ1 : Nat → Nat} {h g g2 : cz_H} {l : Nat} {c : Int} {A : List Int} (a : co τ h τ1 g l c 4 A) (d5 : cd5 τ h l) (h0 : 0 ≤ pn h) (c0 : 0 ≤ c) (f : ez_fr (ez_one (qz_P h l 8)) g g2) (v : qz_I g2 (qz_P h l 8) 1 = c + 1) (w : ∀ j, j ≠ 1 → qz_I g2 (qz_P h l 8) j = qz_I g (qz_P h l 8) j) : co τ h τ1 g2 l (c + 1) 0 A := by
  obtain ⟨a1, a2, a3, a4, a5, a6⟩ := a
  obtain ⟨t770, tl, tsp, tcp⟩ := d5
  have u770 : τ1 770 = 75 := (a1.1 770 (by rw [t770]; decide)).1.trans t770
  have ul : τ1 l = 13 := (a1.1 l (by rw [tl]; decide)).1.trans tl
  have us : τ1 (qz_P h l 7) = 15 := (a1.1 _ (by rw [tsp]; decide)).1.trans tsp
  have uc : τ1 (qz_P h l 8) = 16 := (a1.1 _ (by rw [tcp]; decide)).1.trans tcp
  have up := a1.2.2.1
  have e : ∀ q t, τ1 q = t → Nat.beq t 16 = false → g2.2.2 q = g.2.2 q := fun q t q1 q2 =>
    f.2.2 q (dz_beq_ne (fun e => by rw [e, uc] at q1; rw [← q1] at q2; cases q2))
  have e7 := e 770 _ u770 rfl
  have el := e l _ ul rfl
  have es := e _ _ us rfl
  have ep := e _ _ up rfl
  have i7 : ∀ j, qz_I g2 770 j = qz_I g 770 j := fun j => by unfold qz_I; rw [e7]
  have ep2 : po g2 = po g := by unfold po qz_P; rw [i7]
  have en2 : pn g2 = pn g := i7 10
  have eN2 : qz_N g2 (po g) = qz_N g (po g) := by unfold qz_N; rw [ep]
  have p2 : pj (lX l (qz_P h l 7) (qz_P h l 8)) τ1 g τ1 g2 [] := by
    refine ⟨fun q hq => ⟨rfl, fun q1 q2 q3 => f.2.2 q (dz_beq_ne (fun e => by rw [e] at q3; unfold lX at q3; rw [Nat.beq_refl, Bool.or_true, Bool.or_true] at q3; cases q3))⟩, fun q q1 q2 => absurd q1 q2, by rw [ep2]; exact up, fun j _ _ _ _ => i7 j, by rw [en2]; simp, fun j _ _ => by unfold pl qz_I; rw [ep2, ep], fun j v hv => by simp at hv, by rw [ep2, eN2, en2]; exact ⟨a1.2.2.2.2.2.2.2.1.1, Int.le_refl _⟩, by rw [ep2, eN2, f.1, f.2.1]; omega, by rw [f.1, f.2.1]; omega, Or.inl ep2⟩
  have P := a1.trans p2 h0
  rw [List.append_nil] at P
  have i1 : ∀ j, qz_I g2 (qz_P h l 7) j = qz_I g (qz_P h l 7) j := fun j => by unfold qz_I; rw [es]
  refine ⟨P, fun j => ?_, el.trans a3, v, ?_, ?_⟩
  · rw [i1, ep2, eN2]
    by_cases ej : j = 1
    · rw [ej, v]; have := a1.2.2.2.2.2.2.2.1.1; omega
    · rw [w j ej]; exact a2 j
  · rw [i1, en2]; omega
  · omega
theorem rd_col_b {c a T z : Int} {g : cz_H} {τ1 : Nat → Nat} {A : List Int} (d5 : cd5 τ h l) (h0 : 0 ≤ pn h) (hpm : pn h + 75 ≤ 38400) (hNh : 1024 ≤ qz_N h (po h)) (hr1 : h.1 + 300 ≤ 600192) (hr2 : h.2.1 + 500000 ≤ 7302232) (tpo : τ (po h) = 17) (t771 : τ 771 = 76) (c0 : 0 ≤ c) (c18 : c ≤ 18) (hBg : ez_B τ1 g) (hc : co τ h τ1 g l c 0 A) (kx : c ≤ 17 → mb h a = 91 → (mb h (a + 1) = 42 ∨ mb h (a + 1) = 46) → ∀ g τ1 A, ez_B τ1 g → co τ h τ1 g l c 4 A → qz_I g 770 17 ≤ qz_I g 770 18 → qz_I g 770 17 = a + 16 → qz_I g 770 18 = T → (rz_hex (mb h) 4 (a + 2) 0 ≠ -1 ∧ (mb h (a + 6) = 46 ∧ rz_hex (mb h) 4 (a + 7) 0 ≠ -1) ∧ (mb h (a + 11) = 46 ∧ rz_hex (mb h) 4 (a + 12) 0 ≠ -1)) → qz_I g (qz_P h l 8) 0 = z → ez_W (d + 8) cm_236 225 [(0, .inr (.inr (some (770)))), (1, .inr (.inr (some (l))))] [] g Q) (k0 : ∀ g τ1 A, ez_B τ1 g → (pj (lX l (qz_P h l 7) (qz_P h l 8)) τ h τ1 g A ∧ l2 (qz_P h l 7) (qz_P h l 8) g) → qz_I g l 0 = qz_I h l 0 → ¬ (c ≤ 17 ∧ a + 17 ≤ T ∧ nz_e1 (mb h) a) → Q (.inr g.1, xc g 1)) (hat : qz_I g 770 17 < qz_I g 770 18) (h17 : qz_I g 770 17 = a) (h18 : qz_I g 770 18 = T) (hz : qz_I g (qz_P h l 8) 0 = z) : ez_W (d + 8) cm_236 38 [(0, .inr (.inr (some (770)))), (1, .inr (.inr (some (l))))] [] g Q := by
  have q := hc.at hBg
  have hmb := hc.oc d5 tpo t771
  have q6 := hc.2.2.2.2.2
  have u770 : τ1 770 = 75 := (hc.1.1 770 (by rw [d5.1]; decide)).1.trans d5.1
  have ul : τ1 l = 13 := (hc.1.1 l (by rw [d5.2.1]; decide)).1.trans d5.2.1
  have s18 : qz_I g 770 18 ≤ 4096 := (ez_fB (cl := 11) (k := 18) hBg u770 tq_75 rfl rfl (by decide)).2
  have e8 : qz_P g l 8 = qz_P h l 8 := by unfold qz_P qz_I; rw [hc.2.2.1]
  have ec : qz_I g (qz_P g l 8) (1 : Int).toNat = c := by rw [e8]; exact hc.2.2.2.1
  refine ez_go (n := 2) (pc' := 40) (L' := [(0, .inr (.inr (some (770)))), (1, .inr (.inr (some (l))))]) (st' := [.inr (.inr (some (l))), .inr (.inr (some (770)))]) rfl ?_
  refine ez_gR hBg ul rfl rfl tq_13 rfl rfl (fun (t1 : _ = 16) (t1' : 1 ≤ qz_I g l 8) => ?_)
  refine ez_go (n := 1) (pc' := 44) (L' := [(0, .inr (.inr (some (770)))), (1, .inr (.inr (some (l))))]) (st' := [.inl (1), .inr (.inr (some (qz_P g l 8))), .inr (.inr (some (770)))]) rfl ?_
  have n3 : 3 ≤ qz_N g (qz_P g l 8) ∧ qz_N g (qz_P g l 8) ≤ 3 := ez_len hBg t1 tq_16 rfl
  refine ez_aI hBg t1 rfl tq_16 rfl rfl (by omega) (by omega) (fun (b2 : 0 ≤ qz_I g (qz_P g l 8) (1 : Int).toNat) (b2' : qz_I g (qz_P g l 8) (1 : Int).toNat ≤ 18) => ?_)
  refine ez_go (n := 1) (pc' := 47) (L' := [(0, .inr (.inr (some (770)))), (1, .inr (.inr (some (l))))]) (st' := [.inl (18), .inl (qz_I g (qz_P g l 8) (1 : Int).toNat), .inr (.inr (some (770)))]) rfl ?_
  refine ez_icmp rfl rfl ⟨by first | omega | exact (sz_i32 _).1, by first | omega | exact (sz_i32 _).2⟩ ⟨by first | omega | exact (sz_i32 _).1, by first | omega | exact (sz_i32 _).2⟩ (fun (c4 : (18) ≤ (qz_I g (qz_P g l 8) (1 : Int).toNat)) => ?_) (fun (c4 : ¬((18) ≤ (qz_I g (qz_P g l 8) (1 : Int).toNat))) => ?_)
  · skip
    refine ez_go (n := 1) (pc' := 64) (L' := [(0, .inr (.inr (some (770)))), (1, .inr (.inr (some (l))))]) (st' := [.inl (0), .inr (.inr (some (770)))]) rfl ?_
    refine ez_cv hBg u770 rfl rfl rfl tq_75 rfl rfl rfl (rd_can0 (by omega) (by omega) (ez_Kp (xc_exc hBg rfl) rfl (k0 g τ1 _ hBg ⟨(hc).1, (hc).l2 (by omega)⟩ (by unfold qz_I; rw [(hc).2.2.1]) (fun w => by have w1 := w.1; have w2 := w.2.1; have w3 := w.2.2.1.1;  omega))))
  · skip
    refine ez_go (n := 1) (pc' := 51) (L' := [(0, .inr (.inr (some (770)))), (1, .inr (.inr (some (l))))]) (st' := [.inr (.inr (some (770))), .inr (.inr (some (770)))]) rfl ?_
    refine ez_cv hBg u770 rfl rfl rfl tq_75 rfl rfl rfl (rd_peek hBg u770 (fun b1 b2 => ez_K1 ?_))
    have hpk : mk (mb g) (qz_I g 770 17) (qz_I g 770 18) ≠ -1 → qz_I g 770 17 < qz_I g 770 18 := fun w => by by_cases e : qz_I g 770 17 < qz_I g 770 18; (· exact e); (· exact absurd (mk_out e) w)
    generalize epk : mk (mb g) (qz_I g 770 17) (qz_I g 770 18) = pk at b1 b2 hpk ⊢
    refine ez_go (n := 1) (pc' := 56) (L' := [(0, .inr (.inr (some (770)))), (1, .inr (.inr (some (l))))]) (st' := [.inl (91), .inl (pk), .inr (.inr (some (770)))]) rfl ?_
    refine ez_icmp rfl rfl ⟨by first | omega | exact (sz_i32 _).1, by first | omega | exact (sz_i32 _).2⟩ ⟨by first | omega | exact (sz_i32 _).1, by first | omega | exact (sz_i32 _).2⟩ (fun (c5 : (pk) ≠ (91)) => ?_) (fun (c5 : ¬((pk) ≠ (91))) => ?_)
    · skip
      refine ez_go (n := 1) (pc' := 64) (L' := [(0, .inr (.inr (some (770)))), (1, .inr (.inr (some (l))))]) (st' := [.inl (0), .inr (.inr (some (770)))]) rfl ?_
      refine ez_cv hBg u770 rfl rfl rfl tq_75 rfl rfl rfl (rd_can0 (by omega) (by omega) (ez_Kp (xc_exc hBg rfl) rfl (k0 g τ1 _ hBg ⟨(hc).1, (hc).l2 (by omega)⟩ (by unfold qz_I; rw [(hc).2.2.1]) (fun w => by have w1 := w.1; have w2 := w.2.1; have w3 := w.2.2.1.1; rw [mk_in (by omega), hmb, h17] at epk; omega))))
    · skip
      refine ez_go (n := 2) (pc' := 64) (L' := [(0, .inr (.inr (some (770)))), (1, .inr (.inr (some (l))))]) (st' := [.inl (1), .inr (.inr (some (770)))]) rfl ?_
      refine ez_cv hBg u770 rfl rfl rfl tq_75 rfl rfl rfl (rd_can1 (by omega) (by omega) (ez_K0 ?_))
      have hb0 : mb h a = 91 := by rw [mk_in (hpk (by omega)), hmb, h17] at epk; omega
      refine ez_go (n := 2) (pc' := 69) (L' := [(0, .inr (.inr (some (770)))), (1, .inr (.inr (some (l))))]) (st' := [.inr (.inr (some (770))), .inr (.inr (some (770)))]) rfl ?_
      refine ez_gI hBg u770 rfl rfl tq_75 rfl rfl (fun (b6 : 0 ≤ qz_I g 770 17) (b6' : qz_I g 770 17 ≤ 4200) => ?_)
      refine ez_go (n := 2) (pc' := 74) (L' := [(0, .inr (.inr (some (770)))), (1, .inr (.inr (some (l))))]) (st' := [.inl ((qz_I g 770 17) + (1)), .inr (.inr (some (770)))]) rfl ?_
      refine ez_pf hBg u770 rfl rfl tq_75 rfl rfl rfl rfl (ez_vdI rfl rfl (by omega) (by omega)) (fun hB7 w8 => ?_)
      have hlt : qz_I g 770 17 < qz_I g 770 18 := by omega
      have e17 : qz_I (dz_put g 770 17 (ez_v (.inl ((qz_I g 770 17) + (1))))) 770 17 = qz_I g 770 17 + 1 := by rw [w8, rz_rd ⟨by omega, by omega⟩]
      have m1 : mz g (dz_put g 770 17 (ez_v (.inl ((qz_I g 770 17) + (1))))) := mz_put
      have hB1 := hB7
      generalize (dz_put g 770 17 (ez_v (.inl ((qz_I g 770 17) + (1))))) = g1 at *
      have e18 : qz_I g1 770 18 = qz_I g 770 18 := m1.2 18 (by decide)
      have c1 := hc.put17 d5 m1 h0
      have q1 := c1.at hB1
      refine ez_go (n := 2) (pc' := 79) (L' := [(0, .inr (.inr (some (770)))), (1, .inr (.inr (some (l))))]) (st' := [.inr (.inr (some (770))), .inr (.inr (some (770)))]) rfl ?_
      refine ez_cv hB1 u770 rfl rfl rfl tq_75 rfl rfl rfl (rd_peek hB1 u770 (fun b1 b2 => ez_K1 ?_))
      have hpk : mk (mb g1) (qz_I g1 770 17) (qz_I g1 770 18) ≠ -1 → qz_I g1 770 17 < qz_I g1 770 18 := fun w => by by_cases e : qz_I g1 770 17 < qz_I g1 770 18; (· exact e); (· exact absurd (mk_out e) w)
      generalize epk : mk (mb g1) (qz_I g1 770 17) (qz_I g1 770 18) = pk at b1 b2 hpk ⊢
      refine ez_go (n := 1) (pc' := 84) (L' := [(0, .inr (.inr (some (770)))), (1, .inr (.inr (some (l))))]) (st' := [.inl (46), .inl (pk), .inr (.inr (some (770)))]) rfl ?_
      refine ez_icmp rfl rfl ⟨by first | omega | exact (sz_i32 _).1, by first | omega | exact (sz_i32 _).2⟩ ⟨by first | omega | exact (sz_i32 _).1, by first | omega | exact (sz_i32 _).2⟩ (fun (c9 : (pk) = (46)) => ?_) (fun (c9 : ¬((pk) = (46))) => ?_)
      · skip
        refine ez_go (n := 2) (pc' := 101) (L' := [(0, .inr (.inr (some (770)))), (1, .inr (.inr (some (l))))]) (st' := [.inl (1), .inr (.inr (some (770)))]) rfl ?_
        refine ez_cv hB1 u770 rfl rfl rfl tq_75 rfl rfl rfl (rd_can1 (by omega) (by omega) (ez_K0 ?_))
        have hb1 : mb h (a + 1) = 42 ∨ mb h (a + 1) = 46 := by rw [mk_in (hpk (by omega)), c1.oc d5 tpo t771, e17, h17] at epk; omega
        refine ez_go (n := 2) (pc' := 106) (L' := [(0, .inr (.inr (some (770)))), (1, .inr (.inr (some (l))))]) (st' := [.inr (.inr (some (770))), .inr (.inr (some (770)))]) rfl ?_
        refine ez_cv hB1 u770 rfl rfl rfl tq_75 rfl rfl rfl (rd_peek hB1 u770 (fun b1 b2 => ez_K1 ?_))
        rw [epk] at b1 b2 ⊢
        refine ez_go (n := 1) (pc' := 111) (L' := [(0, .inr (.inr (some (770)))), (1, .inr (.inr (some (l))))]) (st' := [.inl (42), .inl (pk), .inr (.inr (some (770)))]) rfl ?_
        refine ez_icmp rfl rfl ⟨by first | omega | exact (sz_i32 _).1, by first | omega | exact (sz_i32 _).2⟩ ⟨by first | omega | exact (sz_i32 _).1, by first | omega | exact (sz_i32 _).2⟩ (fun (c10 : (pk) ≠ (42)) => ?_) (fun (c10 : ¬((pk) ≠ (42))) => ?_)
        · skip
          refine ez_go (n := 1) (pc' := 119) (L' := [(0, .inr (.inr (some (770)))), (1, .inr (.inr (some (l))))]) (st' := [.inl (0), .inr (.inr (some (770)))]) rfl ?_
          refine ez_cv hB1 u770 rfl rfl rfl tq_75 rfl rfl rfl (rd_keep hB1 u770 (by omega) (by omega) (by omega) (by omega) (by omega) (by omega) (fun g2 τ2 hB2 k2 => ez_K0 ?_))
          have c2 := c1.keep d5 k2 h0
          refine ez_go (n := 2) (pc' := 124) (L' := [(2, .inl (0)), (0, .inr (.inr (some (770)))), (1, .inr (.inr (some (l))))]) (st' := []) rfl ?_
          refine ez_less [(2, .inl (0)), (0, .inr (.inr (some (770)))), (1, .inr (.inr (some (l))))] rfl ⟨rfl, rfl, rfl, trivial⟩ ?_
          have f17 := k2.2.2.2.1 17 (by decide) (by decide)
          have f18 := k2.2.2.2.1 18 (by decide) (by decide)
          exact rd_col_e (a := a) (T := T) d5 h0 hpm hNh hr1 hr2 tpo t771 c0 (by omega) (kx (by omega) hb0 hb1) (fun g3 τ3 c3 x3 A3 hB3 cc cx nE => k0 g3 τ3 _ hB3 ⟨(cc).1, (cc).l2 (by omega)⟩ (by unfold qz_I; rw [(cc).2.2.1]) (fun w => nE w.2)) _ 0 g2 τ2 _ rfl hB2 c2 (by omega) (by omega) (fun _ => by rw [f17, f18]; omega) (by rw [f17, f18]; omega) (by rw [f17, e17, h17]; omega) (by rw [f18, e18]; exact h18) (fun w => by omega) (fun w => by omega) (fun w => by omega) (((c1.zk d5 k2).trans (hc.z7 d5 m1)).trans hz)
        · skip
          refine ez_go (n := 2) (pc' := 119) (L' := [(0, .inr (.inr (some (770)))), (1, .inr (.inr (some (l))))]) (st' := [.inl (1), .inr (.inr (some (770)))]) rfl ?_
          refine ez_cv hB1 u770 rfl rfl rfl tq_75 rfl rfl rfl (rd_keep hB1 u770 (by omega) (by omega) (by omega) (by omega) (by omega) (by omega) (fun g2 τ2 hB2 k2 => ez_K0 ?_))
          have c2 := c1.keep d5 k2 h0
          refine ez_go (n := 2) (pc' := 124) (L' := [(2, .inl (0)), (0, .inr (.inr (some (770)))), (1, .inr (.inr (some (l))))]) (st' := []) rfl ?_
          refine ez_less [(2, .inl (0)), (0, .inr (.inr (some (770)))), (1, .inr (.inr (some (l))))] rfl ⟨rfl, rfl, rfl, trivial⟩ ?_
          have f17 := k2.2.2.2.1 17 (by decide) (by decide)
          have f18 := k2.2.2.2.1 18 (by decide) (by decide)
          exact rd_col_e (a := a) (T := T) d5 h0 hpm hNh hr1 hr2 tpo t771 c0 (by omega) (kx (by omega) hb0 hb1) (fun g3 τ3 c3 x3 A3 hB3 cc cx nE => k0 g3 τ3 _ hB3 ⟨(cc).1, (cc).l2 (by omega)⟩ (by unfold qz_I; rw [(cc).2.2.1]) (fun w => nE w.2)) _ 0 g2 τ2 _ rfl hB2 c2 (by omega) (by omega) (fun _ => by rw [f17, f18]; omega) (by rw [f17, f18]; omega) (by rw [f17, e17, h17]; omega) (by rw [f18, e18]; exact h18) (fun w => by omega) (fun w => by omega) (fun w => by omega) (((c1.zk d5 k2).trans (hc.z7 d5 m1)).trans hz)
      · skip
        refine ez_go (n := 1) (pc' := 88) (L' := [(0, .inr (.inr (some (770)))), (1, .inr (.inr (some (l))))]) (st' := [.inr (.inr (some (770))), .inr (.inr (some (770)))]) rfl ?_
        refine ez_cv hB1 u770 rfl rfl rfl tq_75 rfl rfl rfl (rd_peek hB1 u770 (fun b1 b2 => ez_K1 ?_))
        rw [epk] at b1 b2 ⊢
        refine ez_go (n := 1) (pc' := 93) (L' := [(0, .inr (.inr (some (770)))), (1, .inr (.inr (some (l))))]) (st' := [.inl (42), .inl (pk), .inr (.inr (some (770)))]) rfl ?_
        refine ez_icmp rfl rfl ⟨by first | omega | exact (sz_i32 _).1, by first | omega | exact (sz_i32 _).2⟩ ⟨by first | omega | exact (sz_i32 _).1, by first | omega | exact (sz_i32 _).2⟩ (fun (c11 : (pk) ≠ (42)) => ?_) (fun (c11 : ¬((pk) ≠ (42))) => ?_)
        · skip
          refine ez_go (n := 1) (pc' := 101) (L' := [(0, .inr (.inr (some (770)))), (1, .inr (.inr (some (l))))]) (st' := [.inl (0), .inr (.inr (some (770)))]) rfl ?_
          refine ez_cv hB1 u770 rfl rfl rfl tq_75 rfl rfl rfl (rd_can0 (by omega) (by omega) (ez_Kp (xc_exc hB1 rfl) rfl (k0 g1 τ1 _ hB1 ⟨(c1).1, (c1).l2 (by omega)⟩ (by unfold qz_I; rw [(c1).2.2.1]) (fun w => by have w2 := w.2.1; have w3 := w.2.2.1.2.1; rw [mk_in (by omega), c1.oc d5 tpo t771, e17, h17] at epk; omega))))
        · skip
          refine ez_go (n := 2) (pc' := 101) (L' := [(0, .inr (.inr (some (770)))), (1, .inr (.inr (some (l))))]) (st' := [.inl (1), .inr (.inr (some (770)))]) rfl ?_
          refine ez_cv hB1 u770 rfl rfl rfl tq_75 rfl rfl rfl (rd_can1 (by omega) (by omega) (ez_K0 ?_))
          have hb1 : mb h (a + 1) = 42 ∨ mb h (a + 1) = 46 := by rw [mk_in (hpk (by omega)), c1.oc d5 tpo t771, e17, h17] at epk; omega
          refine ez_go (n := 2) (pc' := 106) (L' := [(0, .inr (.inr (some (770)))), (1, .inr (.inr (some (l))))]) (st' := [.inr (.inr (some (770))), .inr (.inr (some (770)))]) rfl ?_
          refine ez_cv hB1 u770 rfl rfl rfl tq_75 rfl rfl rfl (rd_peek hB1 u770 (fun b1 b2 => ez_K1 ?_))
          rw [epk] at b1 b2 ⊢
          refine ez_go (n := 1) (pc' := 111) (L' := [(0, .inr (.inr (some (770)))), (1, .inr (.inr (some (l))))]) (st' := [.inl (42), .inl (pk), .inr (.inr (some (770)))]) rfl ?_
          refine ez_icmp rfl rfl ⟨by first | omega | exact (sz_i32 _).1, by first | omega | exact (sz_i32 _).2⟩ ⟨by first | omega | exact (sz_i32 _).1, by first | omega | exact (sz_i32 _).2⟩ (fun (c12 : (pk) ≠ (42)) => ?_) (fun (c12 : ¬((pk) ≠ (42))) => ?_)
          · skip
            refine ez_go (n := 1) (pc' := 119) (L' := [(0, .inr (.inr (some (770)))), (1, .inr (.inr (some (l))))]) (st' := [.inl (0), .inr (.inr (some (770)))]) rfl ?_
            refine ez_cv hB1 u770 rfl rfl rfl tq_75 rfl rfl rfl (rd_keep hB1 u770 (by omega) (by omega) (by omega) (by omega) (by omega) (by omega) (fun g2 τ2 hB2 k2 => ez_K0 ?_))
            have c2 := c1.keep d5 k2 h0
            refine ez_go (n := 2) (pc' := 124) (L' := [(2, .inl (0)), (0, .inr (.inr (some (770)))), (1, .inr (.inr (some (l))))]) (st' := []) rfl ?_
            refine ez_less [(2, .inl (0)), (0, .inr (.inr (some (770)))), (1, .inr (.inr (some (l))))] rfl ⟨rfl, rfl, rfl, trivial⟩ ?_
            have f17 := k2.2.2.2.1 17 (by decide) (by decide)
            have f18 := k2.2.2.2.1 18 (by decide) (by decide)
            exact rd_col_e (a := a) (T := T) d5 h0 hpm hNh hr1 hr2 tpo t771 c0 (by omega) (kx (by omega) hb0 hb1) (fun g3 τ3 c3 x3 A3 hB3 cc cx nE => k0 g3 τ3 _ hB3 ⟨(cc).1, (cc).l2 (by omega)⟩ (by unfold qz_I; rw [(cc).2.2.1]) (fun w => nE w.2)) _ 0 g2 τ2 _ rfl hB2 c2 (by omega) (by omega) (fun _ => by rw [f17, f18]; omega) (by rw [f17, f18]; omega) (by rw [f17, e17, h17]; omega) (by rw [f18, e18]; exact h18) (fun w => by omega) (fun w => by omega) (fun w => by omega) (((c1.zk d5 k2).trans (hc.z7 d5 m1)).trans hz)
          · skip
            refine ez_go (n := 2) (pc' := 119) (L' := [(0, .inr (.inr (some (770)))), (1, .inr (.inr (some (l))))]) (st' := [.inl (1), .inr (.inr (some (770)))]) rfl ?_
            refine ez_cv hB1 u770 rfl rfl rfl tq_75 rfl rfl rfl (rd_keep hB1 u770 (by omega) (by omega) (by omega) (by omega) (by omega) (by omega) (fun g2 τ2 hB2 k2 => ez_K0 ?_))
            have c2 := c1.keep d5 k2 h0
            refine ez_go (n := 2) (pc' := 124) (L' := [(2, .inl (0)), (0, .inr (.inr (some (770)))), (1, .inr (.inr (some (l))))]) (st' := []) rfl ?_
            refine ez_less [(2, .inl (0)), (0, .inr (.inr (some (770)))), (1, .inr (.inr (some (l))))] rfl ⟨rfl, rfl, rfl, trivial⟩ ?_
            have f17 := k2.2.2.2.1 17 (by decide) (by decide)
            have f18 := k2.2.2.2.1 18 (by decide) (by decide)
            exact rd_col_e (a := a) (T := T) d5 h0 hpm hNh hr1 hr2 tpo t771 c0 (by omega) (kx (by omega) hb0 hb1) (fun g3 τ3 c3 x3 A3 hB3 cc cx nE => k0 g3 τ3 _ hB3 ⟨(cc).1, (cc).l2 (by omega)⟩ (by unfold qz_I; rw [(cc).2.2.1]) (fun w => nE w.2)) _ 0 g2 τ2 _ rfl hB2 c2 (by omega) (by omega) (fun _ => by rw [f17, f18]; omega) (by rw [f17, f18]; omega) (by rw [f17, e17, h17]; omega) (by rw [f18, e18]; exact h18) (fun w => by omega) (fun w => by omega) (fun w => by omega) (((c1.zk d5 k2).trans (hc.z7 d5 m1)).trans hz)

theorem rd_col_c {c a T z : Int} {g : cz_H} {τ1 : Nat → Nat} {A : List Int} (d5 : cd5 τ h l) (h0 : 0 ≤ pn h) (hpm : pn h + 75 ≤ 38400) (hNh : 1024 ≤ qz_N h (po h)) (hr1 : h.1 + 300 ≤ 600192) (hr2 : h.2.1 + 500000 ≤ 7302232) (tpo : τ (po h) = 17) (t771 : τ 771 = 76) (c0 : 0 ≤ c) (c17 : c ≤ 17) (hBg : ez_B τ1 g) (hc : co τ h τ1 g l c 4 A) (kx : ∀ g τ1 A, ez_B τ1 g → co τ h τ1 g l (c + 1) 0 A → qz_I g 770 17 ≤ qz_I g 770 18 → qz_I g 770 17 = rz_skip (mb h) (T - (a + 17)).toNat (a + 17) → qz_I g 770 18 = T → (a + 17 ≤ T ∧ nz_e1 (mb h) a) → qz_I g (qz_P h l 8) 0 = z → ez_W (d + 8) cm_236 27 [(0, .inr (.inr (some (770)))), (1, .inr (.inr (some (l))))] [] g Q) (k0 : ∀ g τ1 A, ez_B τ1 g → (pj (lX l (qz_P h l 7) (qz_P h l 8)) τ h τ1 g A ∧ l2 (qz_P h l 7) (qz_P h l 8) g) → qz_I g l 0 = qz_I h l 0 → ¬ (c ≤ 17 ∧ a + 17 ≤ T ∧ nz_e1 (mb h) a) → Q (.inr g.1, xc g 1)) (hat : qz_I g 770 17 ≤ qz_I g 770 18) (hb0 : mb h a = 91) (hb1 : mb h (a + 1) = 42 ∨ mb h (a + 1) = 46) (h17 : qz_I g 770 17 = a + 16) (h18 : qz_I g 770 18 = T) (hX : (rz_hex (mb h) 4 (a + 2) 0 ≠ -1 ∧ (mb h (a + 6) = 46 ∧ rz_hex (mb h) 4 (a + 7) 0 ≠ -1) ∧ (mb h (a + 11) = 46 ∧ rz_hex (mb h) 4 (a + 12) 0 ≠ -1))) (hz : qz_I g (qz_P h l 8) 0 = z) : ez_W (d + 8) cm_236 225 [(0, .inr (.inr (some (770)))), (1, .inr (.inr (some (l))))] [] g Q := by
  have q := hc.at hBg
  have hmb := hc.oc d5 tpo t771
  have q6 := hc.2.2.2.2.2
  have u770 : τ1 770 = 75 := (hc.1.1 770 (by rw [d5.1]; decide)).1.trans d5.1
  have ul : τ1 l = 13 := (hc.1.1 l (by rw [d5.2.1]; decide)).1.trans d5.2.1
  have s18 : qz_I g 770 18 ≤ 4096 := (ez_fB (cl := 11) (k := 18) hBg u770 tq_75 rfl rfl (by decide)).2
  have e8 : qz_P g l 8 = qz_P h l 8 := by unfold qz_P qz_I; rw [hc.2.2.1]
  have ec : qz_I g (qz_P g l 8) (1 : Int).toNat = c := by rw [e8]; exact hc.2.2.2.1
  refine ez_go (n := 2) (pc' := 227) (L' := [(0, .inr (.inr (some (770)))), (1, .inr (.inr (some (l))))]) (st' := [.inr (.inr (some (770))), .inr (.inr (some (770)))]) rfl ?_
  refine ez_cv hBg u770 rfl rfl rfl tq_75 rfl rfl rfl (rd_peek hBg u770 (fun b1 b2 => ez_K1 ?_))
  have hpk : mk (mb g) (qz_I g 770 17) (qz_I g 770 18) ≠ -1 → qz_I g 770 17 < qz_I g 770 18 := fun w => by by_cases e : qz_I g 770 17 < qz_I g 770 18; (· exact e); (· exact absurd (mk_out e) w)
  generalize epk : mk (mb g) (qz_I g 770 17) (qz_I g 770 18) = pk at b1 b2 hpk ⊢
  refine ez_go (n := 1) (pc' := 232) (L' := [(0, .inr (.inr (some (770)))), (1, .inr (.inr (some (l))))]) (st' := [.inl (93), .inl (pk), .inr (.inr (some (770)))]) rfl ?_
  refine ez_icmp rfl rfl ⟨by first | omega | exact (sz_i32 _).1, by first | omega | exact (sz_i32 _).2⟩ ⟨by first | omega | exact (sz_i32 _).1, by first | omega | exact (sz_i32 _).2⟩ (fun (c1 : (pk) ≠ (93)) => ?_) (fun (c1 : ¬((pk) ≠ (93))) => ?_)
  · skip
    refine ez_go (n := 1) (pc' := 240) (L' := [(0, .inr (.inr (some (770)))), (1, .inr (.inr (some (l))))]) (st' := [.inl (0), .inr (.inr (some (770)))]) rfl ?_
    refine ez_cv hBg u770 rfl rfl rfl tq_75 rfl rfl rfl (rd_can0 (by omega) (by omega) (ez_Kp (xc_exc hBg rfl) rfl (k0 g τ1 _ hBg ⟨(hc).1, (hc).l2 (by omega)⟩ (by unfold qz_I; rw [(hc).2.2.1]) (fun w => by have w2 := w.2.1; have w3 := w.2.2.1.2.2.2.2; rw [mk_in (by omega), hmb, h17] at epk; omega))))
  · skip
    refine ez_go (n := 2) (pc' := 240) (L' := [(0, .inr (.inr (some (770)))), (1, .inr (.inr (some (l))))]) (st' := [.inl (1), .inr (.inr (some (770)))]) rfl ?_
    refine ez_cv hBg u770 rfl rfl rfl tq_75 rfl rfl rfl (rd_can1 (by omega) (by omega) (ez_K0 ?_))
    have hb16 : mb h (a + 16) = 93 := by rw [mk_in (hpk (by omega)), hmb, h17] at epk; omega
    have hT17 : a + 17 ≤ T := by have := hpk (by omega); omega
    refine ez_go (n := 2) (pc' := 245) (L' := [(0, .inr (.inr (some (770)))), (1, .inr (.inr (some (l))))]) (st' := [.inr (.inr (some (770))), .inr (.inr (some (770)))]) rfl ?_
    refine ez_gI hBg u770 rfl rfl tq_75 rfl rfl (fun (b2 : 0 ≤ qz_I g 770 17) (b2' : qz_I g 770 17 ≤ 4200) => ?_)
    refine ez_go (n := 2) (pc' := 250) (L' := [(0, .inr (.inr (some (770)))), (1, .inr (.inr (some (l))))]) (st' := [.inl ((qz_I g 770 17) + (1)), .inr (.inr (some (770)))]) rfl ?_
    refine ez_pf hBg u770 rfl rfl tq_75 rfl rfl rfl rfl (ez_vdI rfl rfl (by omega) (by omega)) (fun hB3 w4 => ?_)
    have hlt : qz_I g 770 17 < qz_I g 770 18 := by omega
    have e17 : qz_I (dz_put g 770 17 (ez_v (.inl ((qz_I g 770 17) + (1))))) 770 17 = qz_I g 770 17 + 1 := by rw [w4, rz_rd ⟨by omega, by omega⟩]
    have m1 : mz g (dz_put g 770 17 (ez_v (.inl ((qz_I g 770 17) + (1))))) := mz_put
    have hB1 := hB3
    generalize (dz_put g 770 17 (ez_v (.inl ((qz_I g 770 17) + (1))))) = g1 at *
    have e18 : qz_I g1 770 18 = qz_I g 770 18 := m1.2 18 (by decide)
    have c1 := hc.put17 d5 m1 h0
    have q1 := c1.at hB1
    have e81 : qz_P g1 l 8 = qz_P h l 8 := by unfold qz_P qz_I; rw [c1.2.2.1]
    have ec1 : qz_I g1 (qz_P g1 l 8) (1 : Int).toNat = c := by rw [e81]; exact c1.2.2.2.1
    refine ez_go (n := 1) (pc' := 254) (L' := [(0, .inr (.inr (some (770)))), (1, .inr (.inr (some (l))))]) (st' := [.inr (.inr (some (l)))]) rfl ?_
    refine ez_gR hB1 ul rfl rfl tq_13 rfl rfl (fun (t5 : _ = 16) (t5' : 1 ≤ qz_I g1 l 8) => ?_)
    refine ez_go (n := 2) (pc' := 259) (L' := [(0, .inr (.inr (some (770)))), (1, .inr (.inr (some (l))))]) (st' := [.inl (1), .inr (.inr (some (qz_P g1 l 8))), .inl (1), .inr (.inr (some (qz_P g1 l 8)))]) rfl ?_
    have n7 : 3 ≤ qz_N g1 (qz_P g1 l 8) ∧ qz_N g1 (qz_P g1 l 8) ≤ 3 := ez_len hB1 t5 tq_16 rfl
    refine ez_aI hB1 t5 rfl tq_16 rfl rfl (by omega) (by omega) (fun (b6 : 0 ≤ qz_I g1 (qz_P g1 l 8) (1 : Int).toNat) (b6' : qz_I g1 (qz_P g1 l 8) (1 : Int).toNat ≤ 18) => ?_)
    refine ez_go (n := 2) (pc' := 262) (L' := [(0, .inr (.inr (some (770)))), (1, .inr (.inr (some (l))))]) (st' := [.inl ((qz_I g1 (qz_P g1 l 8) (1 : Int).toNat) + (1)), .inl (1), .inr (.inr (some (qz_P g1 l 8)))]) rfl ?_
    have n10 : 3 ≤ qz_N g1 (qz_P g1 l 8) ∧ qz_N g1 (qz_P g1 l 8) ≤ 3 := ez_len hB1 t5 tq_16 rfl
    refine ez_as hB1 t5 rfl tq_16 rfl rfl (by omega) (by omega) (ez_vdI rfl rfl (by omega) (by omega)) (fun hB8 w9 => ?_)
    refine ez_go (n := 1) (pc' := 264) (L' := [(0, .inr (.inr (some (770)))), (1, .inr (.inr (some (l))))]) (st' := [.inr (.inr (some (770)))]) rfl ?_
    have f2 : ez_fr (ez_one (qz_P g1 l 8)) g1 (dz_put g1 (qz_P g1 l 8) (1 : Int).toNat (ez_v (.inl ((qz_I g1 (qz_P g1 l 8) (1 : Int).toNat) + (1))))) := (ez_fr.refl (ez_one (qz_P g1 l 8)) g1).put (show Nat.beq _ _ = true from Nat.beq_refl _) _ _
    have v2 : qz_I (dz_put g1 (qz_P g1 l 8) (1 : Int).toNat (ez_v (.inl ((qz_I g1 (qz_P g1 l 8) (1 : Int).toNat) + (1))))) (qz_P g1 l 8) 1 = c + 1 := by rw [← ec1]; exact (w9).trans (rz_rd ⟨by omega, by omega⟩)
    have w2 : ∀ j, j ≠ 1 → qz_I (dz_put g1 (qz_P g1 l 8) (1 : Int).toNat (ez_v (.inl ((qz_I g1 (qz_P g1 l 8) (1 : Int).toNat) + (1))))) (qz_P g1 l 8) j = qz_I g1 (qz_P g1 l 8) j := fun j hj => ez_put_I (fun w => hj w.2)
    have hB2 := hB8
    generalize (dz_put g1 (qz_P g1 l 8) (1 : Int).toNat (ez_v (.inl ((qz_I g1 (qz_P g1 l 8) (1 : Int).toNat) + (1))))) = g2 at *
    rw [e81] at f2 v2 w2
    have nc7 : qz_P h l 8 ≠ 770 := fun e => by have q := d5.2.2.2; rw [e, d5.1] at q; cases q
    have c2 := c1.inc d5 h0 c0 f2 v2 w2
    have i7 : ∀ j, qz_I g2 770 j = qz_I g1 770 j := fun j => f2.I (dz_beq_ne (Ne.symm nc7)) j
    refine ez_cv hB2 u770 rfl rfl rfl tq_75 rfl rfl rfl (rd_blanks hB2 u770 (by rw [i7, i7]; omega) (fun g6 hB6 m6 a6 => ez_K0 ?_))
    have c6 := c2.put17 d5 m6 h0
    have a69 : qz_I g6 770 17 = rz_skip (mb h) (T - (a + 17)).toNat (a + 17) := by rw [a6, c2.oc d5 tpo t771, i7, i7, e17, e18, h17, h18, show a + 16 + 1 = a + 17 by omega]
    have hz6 : qz_I g6 (qz_P h l 8) 0 = z := (c2.z7 d5 m6).trans ((w2 0 (by decide)).trans ((hc.z7 d5 m1).trans hz))
    have s6 := m6.2 18 (by decide)
    have sl := rz_skip_le (mb g2) (qz_I g2 770 18 - qz_I g2 770 17).toNat (qz_I g2 770 17)
    rw [← a6] at sl; rw [i7] at s6; rw [i7, i7] at sl
    refine ez_go (n := 1) (pc' := 27) (L' := [(0, .inr (.inr (some (770)))), (1, .inr (.inr (some (l))))]) (st' := []) rfl ?_
    refine ez_less [(0, .inr (.inr (some (770)))), (1, .inr (.inr (some (l))))] rfl ⟨rfl, rfl, trivial⟩ ?_
    exact kx g6 τ1 A hB6 c6 (by omega) a69 (by rw [s6, e18]; exact h18) ⟨hT17, ⟨hb0, hb1, hX.2.1.1, hX.2.2.1, hb16⟩, hX.1, hX.2.1.2, hX.2.2.2⟩ hz6

theorem rd_col_l {S T z : Int} (d5 : cd5 τ h l) (h0 : 0 ≤ pn h) (hpm : pn h + 75 ≤ 38400) (hNh : 1024 ≤ qz_N h (po h)) (hr1 : h.1 + 300 ≤ 600192) (hr2 : h.2.1 + 500000 ≤ 7302232) (tpo : τ (po h) = 17) (t771 : τ 771 = 76) (k1 : ∀ g τ1 c A, ez_B τ1 g → co τ h τ1 g l c 0 A → c ≤ 18 → nz_els (mb h) S T → qz_I g (qz_P h l 8) 0 = z → Q (.inl none, g)) (k0 : ∀ g τ1 A, ez_B τ1 g → (pj (lX l (qz_P h l 7) (qz_P h l 8)) τ h τ1 g A ∧ l2 (qz_P h l 7) (qz_P h l 8) g) → qz_I g l 0 = qz_I h l 0 → ¬ nz_els (mb h) S T → Q (.inr g.1, xc g 1)) : ∀ (n : Nat) (c : Int) (g : cz_H) (τ1 : Nat → Nat) (A : List Int), n = (18 - c).toNat → ez_B τ1 g → co τ h τ1 g l c 0 A → 0 ≤ c → c ≤ 18 → qz_I g 770 17 ≤ qz_I g 770 18 → qz_I g 770 18 = T → (nz_els (mb h) S T ↔ ∃ m : Nat, (1 ≤ c + (m : Int) ∧ c + (m : Int) ≤ 18) ∧ nz_el (mb h) T m (qz_I g 770 17)) → qz_I g (qz_P h l 8) 0 = z → ez_W (d + 8) cm_236 27 [(0, .inr (.inr (some (770)))), (1, .inr (.inr (some (l))))] [] g Q := by
  intro n
  induction n with
  | zero =>
    intro c g τ1 A hn hBg hc c0 c18 hat h18 hH hz
    have q := hc.at hBg
    have hmb := hc.oc d5 tpo t771
    have q6 := hc.2.2.2.2.2
    have u770 : τ1 770 = 75 := (hc.1.1 770 (by rw [d5.1]; decide)).1.trans d5.1
    have ul : τ1 l = 13 := (hc.1.1 l (by rw [d5.2.1]; decide)).1.trans d5.2.1
    have s18 : qz_I g 770 18 ≤ 4096 := (ez_fB (cl := 11) (k := 18) hBg u770 tq_75 rfl rfl (by decide)).2
    have e8 : qz_P g l 8 = qz_P h l 8 := by unfold qz_P qz_I; rw [hc.2.2.1]
    have ec : qz_I g (qz_P g l 8) (1 : Int).toNat = c := by rw [e8]; exact hc.2.2.2.1
    refine ez_go (n := 1) (pc' := 28) (L' := [(0, .inr (.inr (some (770)))), (1, .inr (.inr (some (l))))]) (st' := [.inr (.inr (some (770)))]) rfl ?_
    refine ez_gI hBg u770 rfl rfl tq_75 rfl rfl (fun (b1 : 0 ≤ qz_I g 770 17) (b1' : qz_I g 770 17 ≤ 4200) => ?_)
    refine ez_go (n := 1) (pc' := 32) (L' := [(0, .inr (.inr (some (770)))), (1, .inr (.inr (some (l))))]) (st' := [.inr (.inr (some (770))), .inl (qz_I g 770 17)]) rfl ?_
    refine ez_gI hBg u770 rfl rfl tq_75 rfl rfl (fun (b2 : 0 ≤ qz_I g 770 18) (b2' : qz_I g 770 18 ≤ 4096) => ?_)
    refine ez_icmp rfl rfl ⟨by first | omega | exact (sz_i32 _).1, by first | omega | exact (sz_i32 _).2⟩ ⟨by first | omega | exact (sz_i32 _).1, by first | omega | exact (sz_i32 _).2⟩ (fun (c3 : (qz_I g 770 18) ≤ (qz_I g 770 17)) => ?_) (fun (c3 : ¬((qz_I g 770 18) ≤ (qz_I g 770 17))) => ?_)
    · skip
      refine ez_go (n := 2) (pc' := 272) (L' := [(0, .inr (.inr (some (770)))), (1, .inr (.inr (some (l))))]) (st' := [.inr (.inr (some (l))), .inr (.inr (some (770)))]) rfl ?_
      refine ez_gR hBg ul rfl rfl tq_13 rfl rfl (fun (t4 : _ = 16) (t4' : 1 ≤ qz_I g l 8) => ?_)
      refine ez_go (n := 1) (pc' := 276) (L' := [(0, .inr (.inr (some (770)))), (1, .inr (.inr (some (l))))]) (st' := [.inl (1), .inr (.inr (some (qz_P g l 8))), .inr (.inr (some (770)))]) rfl ?_
      have n6 : 3 ≤ qz_N g (qz_P g l 8) ∧ qz_N g (qz_P g l 8) ≤ 3 := ez_len hBg t4 tq_16 rfl
      refine ez_aI hBg t4 rfl tq_16 rfl rfl (by omega) (by omega) (fun (b5 : 0 ≤ qz_I g (qz_P g l 8) (1 : Int).toNat) (b5' : qz_I g (qz_P g l 8) (1 : Int).toNat ≤ 18) => ?_)
      refine ez_if rfl rfl ⟨by first | omega | exact (sz_i32 _).1, by first | omega | exact (sz_i32 _).2⟩ (fun (c7 : (qz_I g (qz_P g l 8) (1 : Int).toNat) ≤ (0)) => ?_) (fun (c7 : ¬((qz_I g (qz_P g l 8) (1 : Int).toNat) ≤ (0))) => ?_)
      · skip
        refine ez_go (n := 1) (pc' := 285) (L' := [(0, .inr (.inr (some (770)))), (1, .inr (.inr (some (l))))]) (st' := [.inl (0), .inr (.inr (some (770)))]) rfl ?_
        refine ez_cv hBg u770 rfl rfl rfl tq_75 rfl rfl rfl (rd_can0 (by omega) (by omega) (ez_Kp (xc_exc hBg rfl) rfl (k0 g τ1 _ hBg ⟨(hc).1, (hc).l2 (by omega)⟩ (by unfold qz_I; rw [(hc).2.2.1]) (fun w => by obtain ⟨m9, w1, w2⟩ := hH.mp w; cases m9 with | zero => omega | succ m9 => have w3 := w2.1; omega))))
      · skip
        refine ez_go (n := 2) (pc' := 285) (L' := [(0, .inr (.inr (some (770)))), (1, .inr (.inr (some (l))))]) (st' := [.inl (1), .inr (.inr (some (770)))]) rfl ?_
        refine ez_cv hBg u770 rfl rfl rfl tq_75 rfl rfl rfl (rd_can1 (by omega) (by omega) (ez_K0 ?_))
        exact ez_ret0 rfl rfl (k1 g τ1 c A hBg hc (by omega) (hH.mpr ⟨0, by omega, (show T ≤ _ by omega)⟩) hz)
    · skip
      exact rd_col_b (a := qz_I g 770 17) (T := T) (z := z) d5 h0 hpm hNh hr1 hr2 tpo t771 c0 (by omega) hBg hc (fun w => absurd w (by omega)) (fun g9 τ9 A9 q1 q2 q3 nE => k0 g9 τ9 A9 q1 q2 q3 (fun w => nE (by obtain ⟨m9, w1, w2⟩ := hH.mp w; cases m9 with | zero => exact absurd w2 (by show ¬ (T ≤ _); omega) | succ m9 => exact ⟨by omega, w2.1, w2.2.1⟩))) (by omega) rfl h18 hz
  | succ n ih =>
    intro c g τ1 A hn hBg hc c0 c18 hat h18 hH hz
    have q := hc.at hBg
    have hmb := hc.oc d5 tpo t771
    have q6 := hc.2.2.2.2.2
    have u770 : τ1 770 = 75 := (hc.1.1 770 (by rw [d5.1]; decide)).1.trans d5.1
    have ul : τ1 l = 13 := (hc.1.1 l (by rw [d5.2.1]; decide)).1.trans d5.2.1
    have s18 : qz_I g 770 18 ≤ 4096 := (ez_fB (cl := 11) (k := 18) hBg u770 tq_75 rfl rfl (by decide)).2
    have e8 : qz_P g l 8 = qz_P h l 8 := by unfold qz_P qz_I; rw [hc.2.2.1]
    have ec : qz_I g (qz_P g l 8) (1 : Int).toNat = c := by rw [e8]; exact hc.2.2.2.1
    refine ez_go (n := 1) (pc' := 28) (L' := [(0, .inr (.inr (some (770)))), (1, .inr (.inr (some (l))))]) (st' := [.inr (.inr (some (770)))]) rfl ?_
    refine ez_gI hBg u770 rfl rfl tq_75 rfl rfl (fun (b1 : 0 ≤ qz_I g 770 17) (b1' : qz_I g 770 17 ≤ 4200) => ?_)
    refine ez_go (n := 1) (pc' := 32) (L' := [(0, .inr (.inr (some (770)))), (1, .inr (.inr (some (l))))]) (st' := [.inr (.inr (some (770))), .inl (qz_I g 770 17)]) rfl ?_
    refine ez_gI hBg u770 rfl rfl tq_75 rfl rfl (fun (b2 : 0 ≤ qz_I g 770 18) (b2' : qz_I g 770 18 ≤ 4096) => ?_)
    refine ez_icmp rfl rfl ⟨by first | omega | exact (sz_i32 _).1, by first | omega | exact (sz_i32 _).2⟩ ⟨by first | omega | exact (sz_i32 _).1, by first | omega | exact (sz_i32 _).2⟩ (fun (c3 : (qz_I g 770 18) ≤ (qz_I g 770 17)) => ?_) (fun (c3 : ¬((qz_I g 770 18) ≤ (qz_I g 770 17))) => ?_)
    · skip
      refine ez_go (n := 2) (pc' := 272) (L' := [(0, .inr (.inr (some (770)))), (1, .inr (.inr (some (l))))]) (st' := [.inr (.inr (some (l))), .inr (.inr (some (770)))]) rfl ?_
      refine ez_gR hBg ul rfl rfl tq_13 rfl rfl (fun (t4 : _ = 16) (t4' : 1 ≤ qz_I g l 8) => ?_)
      refine ez_go (n := 1) (pc' := 276) (L' := [(0, .inr (.inr (some (770)))), (1, .inr (.inr (some (l))))]) (st' := [.inl (1), .inr (.inr (some (qz_P g l 8))), .inr (.inr (some (770)))]) rfl ?_
      have n6 : 3 ≤ qz_N g (qz_P g l 8) ∧ qz_N g (qz_P g l 8) ≤ 3 := ez_len hBg t4 tq_16 rfl
      refine ez_aI hBg t4 rfl tq_16 rfl rfl (by omega) (by omega) (fun (b5 : 0 ≤ qz_I g (qz_P g l 8) (1 : Int).toNat) (b5' : qz_I g (qz_P g l 8) (1 : Int).toNat ≤ 18) => ?_)
      refine ez_if rfl rfl ⟨by first | omega | exact (sz_i32 _).1, by first | omega | exact (sz_i32 _).2⟩ (fun (c7 : (qz_I g (qz_P g l 8) (1 : Int).toNat) ≤ (0)) => ?_) (fun (c7 : ¬((qz_I g (qz_P g l 8) (1 : Int).toNat) ≤ (0))) => ?_)
      · skip
        refine ez_go (n := 1) (pc' := 285) (L' := [(0, .inr (.inr (some (770)))), (1, .inr (.inr (some (l))))]) (st' := [.inl (0), .inr (.inr (some (770)))]) rfl ?_
        refine ez_cv hBg u770 rfl rfl rfl tq_75 rfl rfl rfl (rd_can0 (by omega) (by omega) (ez_Kp (xc_exc hBg rfl) rfl (k0 g τ1 _ hBg ⟨(hc).1, (hc).l2 (by omega)⟩ (by unfold qz_I; rw [(hc).2.2.1]) (fun w => by obtain ⟨m9, w1, w2⟩ := hH.mp w; cases m9 with | zero => omega | succ m9 => have w3 := w2.1; omega))))
      · skip
        refine ez_go (n := 2) (pc' := 285) (L' := [(0, .inr (.inr (some (770)))), (1, .inr (.inr (some (l))))]) (st' := [.inl (1), .inr (.inr (some (770)))]) rfl ?_
        refine ez_cv hBg u770 rfl rfl rfl tq_75 rfl rfl rfl (rd_can1 (by omega) (by omega) (ez_K0 ?_))
        exact ez_ret0 rfl rfl (k1 g τ1 c A hBg hc (by omega) (hH.mpr ⟨0, by omega, (show T ≤ _ by omega)⟩) hz)
    · skip
      exact rd_col_b (a := qz_I g 770 17) (T := T) (z := z) d5 h0 hpm hNh hr1 hr2 tpo t771 c0 (by clear hH; omega) hBg hc (fun c17 p1 p2 g3 τ3 A3 b1 b2 b3 b4 b5 b6 b7 => rd_col_c (a := qz_I g 770 17) (T := T) (z := z) d5 h0 hpm hNh hr1 hr2 tpo t771 c0 (by clear hH; omega) b1 b2 (fun g4 τ4 A4 e1 e2 e3 e4 e5 e6 e7 => ih (c + 1) g4 τ4 A4 (by clear hH; omega) e1 e2 (by clear hH; omega) (by clear hH; omega) e3 e5 (hH.trans (els_next c0 e4 e6.1 e6.2)) e7) (fun g9 τ9 A9 q1 q2 q3 nE => k0 g9 τ9 A9 q1 q2 q3 (fun w => nE (by obtain ⟨m9, w1, w2⟩ := hH.mp w; cases m9 with | zero => exact absurd w2 (by show ¬ (T ≤ _); omega) | succ m9 => exact ⟨by omega, w2.1, w2.2.1⟩))) b3 p1 p2 b4 b5 b6 b7) (fun g9 τ9 A9 q1 q2 q3 nE => k0 g9 τ9 A9 q1 q2 q3 (fun w => nE (by obtain ⟨m9, w1, w2⟩ := hH.mp w; cases m9 with | zero => exact absurd w2 (by show ¬ (T ≤ _); omega) | succ m9 => exact ⟨by omega, w2.1, w2.2.1⟩))) (by clear hH; omega) rfl h18 hz

end EzCq
/-! The model: collation, IV: all of it. (Written by wip/p2/py/pv80.py.) -/
section EzCr
variable {d : Nat} {h : cz_H} {τ : Nat → Nat} {Q : cz_F → Prop} {l : Nat}
theorem rd_collation (hB : ez_B τ h) (t770 : τ 770 = 75) (tl : τ l = 13) (hl : lz l) (usp : τ (qz_P h l 7) = 15) (ucp : τ (qz_P h l 8) = 16) (tpo : τ (po h) = 17) (h0 : 0 ≤ pn h) (hn : pn h ≤ qz_N h (po h)) (hpm : pn h + 75 ≤ 38400) (hNh : 1024 ≤ qz_N h (po h)) (hr1 : h.1 + 300 ≤ 600192) (hr2 : h.2.1 + 500000 ≤ 7302232) (hlg : l2 (qz_P h l 7) (qz_P h l 8) h) (hc0 : ∀ j, qz_I h (qz_P h l 8) j = 0) (hF : ∀ k, 0 ≤ k → k < 2 → (0 ≤ mf h k ∧ mf h k ≤ mt h k) ∧ mt h k ≤ 4096) (hTr : ∀ k, 0 ≤ k → k < 2 → mf h k < mt h k → ¬ bk (mb h (mf h k)) ∧ ¬ bk (mb h (mt h k - 1))) (k1 : ∀ g τ1 c A, ez_B τ1 g → co τ h τ1 g l c 0 A → c ≤ 18 → rz_G4 (mb h) (mf h) (mt h) → (∀ vs, rz_rw (mb h) 3 (mf h 0) (mt h 0) = some vs → qz_I g (qz_P h l 8) 0 = (vs.length : Int)) → Q (.inl none, g)) (k0 : ∀ g τ1 A, ez_B τ1 g → (pj (lX l (qz_P h l 7) (qz_P h l 8)) τ h τ1 g A ∧ l2 (qz_P h l 7) (qz_P h l 8) g) → qz_I g l 0 = qz_I h l 0 → ¬ rz_G4 (mb h) (mf h) (mt h) → Q (.inr g.1, xc g 1)) : ez_W (d + 9) cm_236 0 [(0, .inr (.inr (some (770)))), (1, .inr (.inr (some (l))))] [] h Q := by
  refine ez_go (n := 2) (pc' := 2) (L' := [(0, .inr (.inr (some (770)))), (1, .inr (.inr (some (l))))]) (st' := [.inl (0), .inr (.inr (some (770)))]) rfl ?_
  have F0 := hF 0 (by omega) (by omega)
  have F1 := hF 1 (by omega) (by omega)
  refine ez_cv hB t770 rfl rfl rfl tq_75 rfl rfl rfl (rd_field hB t770 (by omega) (by omega) (fun g1 hB1 m1 a1 s1 => ez_K0 ?_))
  have u1a : (g1).1 = h.1 := m1.1.1
  have u1b : (g1).2.1 = h.2.1 := m1.1.2.1
  have M1 : mw h g1 l := m1.mw
  refine ez_go (n := 4) (pc' := 9) (L' := [(0, .inr (.inr (some (770)))), (1, .inr (.inr (some (l))))]) (st' := [.inl (3), .inl (0), .inr (.inr (some (l))), .inr (.inr (some (770)))]) rfl ?_
  have e7 : qz_P g1 l 7 = qz_P h l 7 := by unfold qz_P; rw [m1.l hl.1 7]
  have e8 : qz_P g1 l 8 = qz_P h l 8 := by unfold qz_P; rw [m1.l hl.1 8]
  have np7 : po h ≠ 770 := fun e => by rw [e, t770] at tpo; cases tpo
  have npl : po h ≠ l := fun e => by rw [e, tl] at tpo; cases tpo
  have nc7 : qz_P h l 8 ≠ 770 := fun e => by rw [e, t770] at ucp; cases ucp
  have ncl : qz_P h l 8 ≠ l := fun e => by rw [e, tl] at ucp; cases ucp
  have eb := M1.b hl.2.1
  have eN : qz_N g1 (po h) = qz_N h (po h) := M1.N np7 npl
  have hsk : mf h 0 = rz_skip (mb h) (mt h 0 - mf h 0).toNat (mf h 0) := by
    by_cases e : mf h 0 < mt h 0
    · exact (skip_id (hTr 0 (by omega) (by omega) e).1).symm
    · rw [show (mt h 0 - mf h 0).toNat = 0 by omega]; rfl
  refine ez_cv hB1 t770 rfl rfl rfl tq_75 rfl rfl rfl (rd_row (s := mf h 0) hB1 t770 (ez_t771 hB t770) tl (by rw [e8]; exact ucp) (by rw [M1.epo]; exact tpo) hl.1 (by omega) (by omega) (by rw [M1.epn]; exact h0) (by rw [M1.epn, M1.epo, eN]; exact hn) (by rw [M1.epn]; omega) (by rw [M1.epo, eN]; exact hNh) (by omega) (by omega) (by omega) (by omega) (by omega) (by omega) (by omega) (by omega) (by rw [a1, s1, eb]; exact hsk) (by rw [a1, s1, eb]; exact fun w => (hTr 0 (by omega) (by omega) w).2) (by rw [e8, M1.I nc7 ncl]; exact hc0 _) (fun A hA g8 τ8 hB8 hk8 a17 hlc hsp hcp => ez_K0 ?_) (fun hA g8 τ8 A hB8 hk8 hlc hsp hcp => ez_Kp (xc_exc hB8 rfl) rfl (k0 g8 τ8 _ hB8 ⟨(M1.jp (lX_l l (qz_P h l 7) (qz_P h l 8)) t770 tl tpo hn).trans (hk8.jp (fun q hq => by rw [e7, e8]; exact lX_r hq)) h0, l2.row (hlg.mw M1 t770 tl usp ucp tpo) (by rw [e7, e8] at hk8; exact hk8) (by rw [e7] at hsp; exact hsp) (by rw [e8] at hcp; exact hcp)⟩ (by unfold qz_I; rw [hlc]; exact m1.l hl.1 0) (fun w => w.1 (by rw [eb, s1] at hA; exact hA)))))
  rw [e7, e8] at hk8; rw [e7] at hsp; rw [e8] at hcp
  have h3 := rw_18 hA
  have hrw : rz_rw (mb h) 3 (mf h 0) (mt h 0) = some A := by rw [eb, s1] at hA; exact hA
  have hp := (M1.jp (lX_l l (qz_P h l 7) (qz_P h l 8)) t770 tl tpo hn).trans (hk8.jp (fun q hq => lX_r hq)) h0
  rw [List.nil_append] at hp
  have hg : lg (qz_P h l 7) (qz_P h l 8) g8 := (l2.row (hlg.mw M1 t770 tl usp ucp tpo) hk8 hsp hcp).1
  have hl8 : g8.2.2 l = h.2.2 l := hlc.trans (m1.1.2.2 l (dz_beq_ne hl.1))
  have u770 : τ8 770 = 75 := (hp.1 770 (by rw [t770]; decide)).1.trans t770
  have ul : τ8 l = 13 := (hp.1 l (by rw [tl]; decide)).1.trans tl
  have ef : mf g8 1 = mf h 1 := by unfold mf qz_I; rw [hp.f tpo usp ucp tl (ez_t789 hB t770) rfl (by decide)]
  have et : mt g8 1 = mt h 1 := by unfold mt qz_I; rw [hp.f tpo usp ucp tl (ez_t790 hB t770) rfl (by decide)]
  have rr := hp.2.2.2.2.2.2.2.2.1
  have rp := pool_le hB8 hp.2.2.1
  have hpn9 := hp.2.2.2.2.1
  have pm : pn g8 = qz_I g8 770 10 := rfl
  refine ez_go (n := 2) (pc' := 14) (L' := [(0, .inr (.inr (some (770)))), (1, .inr (.inr (some (l))))]) (st' := [.inl (1), .inr (.inr (some (770)))]) rfl ?_
  refine ez_cv hB8 u770 rfl rfl rfl tq_75 rfl rfl rfl (rd_field hB8 u770 (by omega) (by omega) (fun g9 hB9 m9 a9 s9 => ez_K0 ?_))
  rw [ef] at a9; rw [et] at s9
  have j9 : ∀ j, qz_I g9 l j = qz_I g8 l j := fun j => m9.l hl.1 j
  have e79 : qz_P g9 l 7 = qz_P h l 7 := by unfold qz_P; rw [j9]; unfold qz_I; rw [hl8]
  have en9 : pn g9 = pn g8 := m9.2 10 (by decide) (by decide)
  refine ez_go (n := 1) (pc' := 18) (L' := [(0, .inr (.inr (some (770)))), (1, .inr (.inr (some (l))))]) (st' := [.inr (.inr (some (l)))]) rfl ?_
  refine ez_gR hB9 ul rfl rfl tq_13 rfl rfl (fun (t1 : _ = 15) (t1' : 1 ≤ qz_I g9 l 7) => ?_)
  refine ez_go (n := 2) (pc' := 23) (L' := [(0, .inr (.inr (some (770)))), (1, .inr (.inr (some (l))))]) (st' := [.inr (.inr (some (770))), .inl (1), .inr (.inr (some (qz_P g9 l 7)))]) rfl ?_
  refine ez_gI hB9 u770 rfl rfl tq_75 rfl rfl (fun (b2 : 0 ≤ qz_I g9 770 10) (b2' : qz_I g9 770 10 ≤ 38500) => ?_)
  have n5 : 3 ≤ qz_N g9 (qz_P g9 l 7) ∧ qz_N g9 (qz_P g9 l 7) ≤ 3 := ez_len hB9 t1 tq_15 rfl
  refine ez_as hB9 t1 rfl tq_15 rfl rfl (by omega) (by omega) (ez_vdI rfl rfl (by omega) (by omega)) (fun hB3 w4 => ?_)
  refine ez_less [(0, .inr (.inr (some (770)))), (1, .inr (.inr (some (l))))] rfl ⟨rfl, rfl, trivial⟩ ?_
  have f2 : ez_fr (ez_one (qz_P g9 l 7)) g9 (dz_put g9 (qz_P g9 l 7) (1 : Int).toNat (ez_v (.inl (qz_I g9 770 10)))) := (ez_fr.refl (ez_one (qz_P g9 l 7)) g9).put (show Nat.beq _ _ = true from Nat.beq_refl _) _ _
  have v2 : qz_I (dz_put g9 (qz_P g9 l 7) (1 : Int).toNat (ez_v (.inl (qz_I g9 770 10)))) (qz_P g9 l 7) 1 = pn g9 := w4.trans (rz_rd ⟨by omega, by omega⟩)
  have w2 : ∀ j, j ≠ 1 → qz_I (dz_put g9 (qz_P g9 l 7) (1 : Int).toNat (ez_v (.inl (qz_I g9 770 10)))) (qz_P g9 l 7) j = qz_I g9 (qz_P g9 l 7) j := fun j hj => ez_put_I (fun w => hj w.2)
  have hB2 := hB3
  generalize (dz_put g9 (qz_P g9 l 7) (1 : Int).toNat (ez_v (.inl (qz_I g9 770 10)))) = g2 at *
  rw [e79] at f2 v2 w2
  have ns7 : qz_P h l 7 ≠ 770 := fun e => by rw [e, t770] at usp; cases usp
  have nsl : qz_P h l 7 ≠ l := fun e => by rw [e, tl] at usp; cases usp
  have nsc : qz_P h l 7 ≠ qz_P h l 8 := fun e => by rw [e, ucp] at usp; cases usp
  have nsp : qz_P h l 7 ≠ po g8 := fun e => by have q := hp.2.2.1; rw [← e, (hp.1 _ (by rw [usp]; decide)).1, usp] at q; cases q
  have np7' : po g8 ≠ 770 := fun e => by have q := hp.2.2.1; rw [e, u770] at q; cases q
  have i0 : ∀ j, j ≠ 17 → j ≠ 18 → qz_I g2 770 j = qz_I g8 770 j := fun j q1 q2 => by rw [f2.I (dz_beq_ne (Ne.symm ns7))]; exact m9.2 j q1 q2
  have ep2 : po g2 = po g8 := by unfold po qz_P; rw [i0 9 (by decide) (by decide)]
  have en2 : pn g2 = pn g8 := i0 10 (by decide) (by decide)
  have oth : ∀ q, q ≠ 770 → q ≠ qz_P h l 7 → g2.2.2 q = g8.2.2 q := fun q q1 q2 => by rw [f2.2.2 q (dz_beq_ne q2)]; exact m9.1.2.2 q (dz_beq_ne q1)
  have eN2 : qz_N g2 (po g8) = qz_N g8 (po g8) := by unfold qz_N; rw [oth _ np7' (Ne.symm nsp)]
  have C2 : ∀ j, qz_I g2 (qz_P h l 8) j = qz_I g8 (qz_P h l 8) j := fun j => by unfold qz_I; rw [oth _ nc7 (Ne.symm nsc)]
  have S2 : ∀ j, j ≠ 1 → qz_I g2 (qz_P h l 7) j = qz_I g8 (qz_P h l 7) j := fun j hj => by rw [w2 j hj]; exact m9.1.I (dz_beq_ne ns7) j
  have r2 : g2.1 = g8.1 ∧ g2.2.1 = g8.2.1 := ⟨f2.1.trans m9.1.1, f2.2.1.trans m9.1.2.1⟩
  have p2 : pj (lX l (qz_P h l 7) (qz_P h l 8)) τ8 g8 τ8 g2 [] := ⟨fun q hq => ⟨rfl, fun q1 q2 q3 => oth q q1 (fun e => by rw [e] at q3; unfold lX at q3; rw [Nat.beq_refl, Bool.true_or, Bool.or_true] at q3; cases q3)⟩, fun q q1 q2 => absurd q1 q2, by rw [ep2]; exact hp.2.2.1, fun j _ _ j1 j2 => i0 j j1 j2, by rw [en2]; simp, fun j _ _ => by unfold pl qz_I; rw [ep2, oth _ np7' (Ne.symm nsp)], fun j v hv => by simp at hv, by rw [ep2, eN2, en2]; exact ⟨hp.2.2.2.2.2.2.2.1.1, Int.le_refl _⟩, by rw [ep2, eN2, r2.1, r2.2]; omega, by rw [r2.1, r2.2]; omega, Or.inl ep2⟩
  have P2 := hp.trans p2 h0
  rw [List.append_nil] at P2
  have z1 : qz_I g8 (qz_P h l 8) 1 = 0 := by rw [hcp 1, if_neg (by decide), M1.I nc7 ncl]; exact hc0 1
  have hN8 := hp.2.2.2.2.2.2.2.1.1
  refine rd_col_l (d := d + 1) (S := mf h 1) (T := mt h 1) (z := (A.length : Int)) ⟨t770, tl, usp, ucp⟩ h0 hpm hNh (by omega) (by omega) tpo (ez_t771 hB t770) (fun g τ1 c A2 b1 b2 b3 b4 b5 => k1 g τ1 c A2 b1 b2 b3 ⟨(fun w => by rw [hrw] at w; cases w), b4⟩ (fun vs w => by rw [hrw] at w; cases w; exact b5)) (fun g τ1 A2 b1 b2 b3 b4 => k0 g τ1 A2 b1 b2 b3 (fun w => b4 w.2)) _ 0 g2 τ8 A rfl hB2 ⟨P2, fun j => ?_, ?_, ?_, ?_, by omega⟩ (by omega) (by omega) ?_ (by rw [f2.I (dz_beq_ne (Ne.symm ns7))]; exact s9) (by rw [show qz_I g2 770 17 = mf h 1 by rw [f2.I (dz_beq_ne (Ne.symm ns7))]; exact a9]; unfold nz_els; exact ⟨fun ⟨q, q1, q2⟩ => ⟨q, by omega, q2⟩, fun ⟨q, q1, q2⟩ => ⟨q, by omega, q2⟩⟩) (by rw [C2, hcp 0]; exact if_pos rfl)
  · rw [C2, ep2, eN2]
    by_cases e : j = 1
    · rw [e, v2, z1, en9]; omega
    · rw [S2 j e]; exact hg j
  · exact (oth l hl.1 (Ne.symm nsl)).trans hl8
  · rw [C2]; exact z1
  · rw [v2, en9, en2]; omega
  · rw [f2.I (dz_beq_ne (Ne.symm ns7)), f2.I (dz_beq_ne (Ne.symm ns7)), a9, s9]; omega

end EzCr
/-! The model: a new Line. (Written by wip/p2/py/pv81.py.) -/
section EzLi
variable {d : Nat} {h : cz_H} {τ : Nat → Nat} {Q : cz_F → Prop} {r : Nat}
theorem rd_lineI (hB : ez_B τ h) (tr : τ r = 14) (hr : h.1 = r + 1) (hr1 : h.1 + 2 ≤ 600192) (hr2 : h.2.1 + 6 ≤ 7302232) (kx : ∀ g τ1, ez_B τ1 g → (∀ q, τ q ≠ 0 → τ1 q = τ q ∧ (q ≠ r → g.2.2 q = h.2.2 q)) → (∀ q, q ≠ r + 1 → q ≠ r + 2 → τ1 q = τ q) → τ1 (r + 1) = 15 → τ1 (r + 2) = 16 → g.1 = r + 3 → h.2.1 ≤ g.2.1 → g.2.1 ≤ h.2.1 + 6 → qz_I g r 7 = (r : Int) + 2 → qz_I g r 8 = (r : Int) + 3 → (∀ j, j ≠ 7 → j ≠ 8 → j ≠ 9 → j ≠ 10 → j ≠ 11 → qz_I g r j = qz_I h r j) → (∀ j, qz_I g (r + 1) j = 0) → (∀ j, qz_I g (r + 2) j = 0) → Q (.inl none, g)) : ez_W (d + 1) cm_313 0 [(0, .inr (.inr (some (r))))] [] h Q := by
  refine ez_go (n := 1) (pc' := 1) (L' := [(0, .inr (.inr (some (r))))]) (st' := [.inr (.inr (some (r)))]) rfl ?_
  refine ez_ob rfl rfl rfl ?_
  refine ez_go (n := 2) (pc' := 6) (L' := [(0, .inr (.inr (some (r))))]) (st' := [.inl (3), .inr (.inr (some (r)))]) rfl ?_
  refine ez_nA' (t := 15) hB rfl rfl rfl tq_15 rfl rfl (by omega) (by show (3 : Int) ≤ _; omega) (by show _ ≤ (3 : Int); omega) (by omega) (by omega) (by omega) (fun g1 τ1 p1 hB1 x1 o1 t1 z1 e1 N1 y1 => ?_)
  have c1 := x1.2
  have trn1 := (x1.1 _ (by rw [tr]; decide)).1.trans tr
  have l1 := dz_here_lt (hB1.1 p1 (by rw [t1]; decide)).1
  refine ez_pf hB1 trn1 rfl rfl tq_14 rfl rfl rfl rfl (ez_vdR rfl t1 (by omega) (by omega)) (fun hB2 w3 => ?_)
  have fA : ez_fr (ez_one r) g1 (dz_put g1 r 7 (ez_v (.inr (.inr (some (p1)))))) := (ez_fr.refl (ez_one r) g1).put (show Nat.beq _ _ = true from Nat.beq_refl _) _ _
  have vA : qz_I (dz_put g1 r 7 (ez_v (.inr (.inr (some (p1)))))) r 7 = (p1 : Int) + 1 := w3
  have iA : ∀ j, j ≠ 7 → qz_I (dz_put g1 r 7 (ez_v (.inr (.inr (some (p1)))))) r j = qz_I g1 r j := fun j hj => ez_put_I (fun w => hj w.2)
  have hA := hB2
  generalize (dz_put g1 r 7 (ez_v (.inr (.inr (some (p1)))))) = A at *
  have cA1 := fA.1; have cA2 := fA.2.1
  refine ez_go (n := 2) (pc' := 13) (L' := [(0, .inr (.inr (some (r))))]) (st' := [.inl (3), .inr (.inr (some (r)))]) rfl ?_
  refine ez_nA' (t := 16) hA rfl rfl rfl tq_16 rfl rfl (by omega) (by show (3 : Int) ≤ _; omega) (by show _ ≤ (3 : Int); omega) (by omega) (by omega) (by omega) (fun g4 τ4 p4 hB4 x4 o4 t4 z4 e4 N4 y4 => ?_)
  have c4 := x4.2
  have trn1n4 := (x4.1 _ (by rw [trn1]; decide)).1.trans trn1
  have t1n4 := (x4.1 _ (by rw [t1]; decide)).1.trans t1
  have l4 := dz_here_lt (hB4.1 p4 (by rw [t4]; decide)).1
  refine ez_pf hB4 trn1n4 rfl rfl tq_14 rfl rfl rfl rfl (ez_vdR rfl t4 (by omega) (by omega)) (fun hB5 w6 => ?_)
  have fB : ez_fr (ez_one r) g4 (dz_put g4 r 8 (ez_v (.inr (.inr (some (p4)))))) := (ez_fr.refl (ez_one r) g4).put (show Nat.beq _ _ = true from Nat.beq_refl _) _ _
  have vB : qz_I (dz_put g4 r 8 (ez_v (.inr (.inr (some (p4)))))) r 8 = (p4 : Int) + 1 := w6
  have iB : ∀ j, j ≠ 8 → qz_I (dz_put g4 r 8 (ez_v (.inr (.inr (some (p4)))))) r j = qz_I g4 r j := fun j hj => ez_put_I (fun w => hj w.2)
  have hB := hB5
  generalize (dz_put g4 r 8 (ez_v (.inr (.inr (some (p4)))))) = B at *
  have cB1 := fB.1; have cB2 := fB.2.1
  refine ez_go (n := 2) (pc' := 20) (L' := [(0, .inr (.inr (some (r))))]) (st' := [.inl (-1), .inr (.inr (some (r)))]) rfl ?_
  refine ez_pf hB trn1n4 rfl rfl tq_14 rfl rfl rfl rfl (ez_vdI rfl rfl (by omega) (by omega)) (fun hB7 w8 => ?_)
  have fC : ez_fr (ez_one r) B (dz_put B r 9 (ez_v (.inl (-1)))) := (ez_fr.refl (ez_one r) B).put (show Nat.beq _ _ = true from Nat.beq_refl _) _ _
  have iC : ∀ j, j ≠ 9 → qz_I (dz_put B r 9 (ez_v (.inl (-1)))) r j = qz_I B r j := fun j hj => ez_put_I (fun w => hj w.2)
  have hC := hB7
  generalize (dz_put B r 9 (ez_v (.inl (-1)))) = C at *
  have cC1 := fC.1; have cC2 := fC.2.1
  refine ez_go (n := 2) (pc' := 25) (L' := [(0, .inr (.inr (some (r))))]) (st' := [.inl (-1), .inr (.inr (some (r)))]) rfl ?_
  refine ez_pf hC trn1n4 rfl rfl tq_14 rfl rfl rfl rfl (ez_vdI rfl rfl (by omega) (by omega)) (fun hB9 w10 => ?_)
  have fD : ez_fr (ez_one r) C (dz_put C r 10 (ez_v (.inl (-1)))) := (ez_fr.refl (ez_one r) C).put (show Nat.beq _ _ = true from Nat.beq_refl _) _ _
  have iD : ∀ j, j ≠ 10 → qz_I (dz_put C r 10 (ez_v (.inl (-1)))) r j = qz_I C r j := fun j hj => ez_put_I (fun w => hj w.2)
  have hD := hB9
  generalize (dz_put C r 10 (ez_v (.inl (-1)))) = D at *
  have cD1 := fD.1; have cD2 := fD.2.1
  refine ez_go (n := 2) (pc' := 30) (L' := [(0, .inr (.inr (some (r))))]) (st' := [.inl (-1), .inr (.inr (some (r)))]) rfl ?_
  refine ez_pf hD trn1n4 rfl rfl tq_14 rfl rfl rfl rfl (ez_vdI rfl rfl (by omega) (by omega)) (fun hB11 w12 => ?_)
  have fE : ez_fr (ez_one r) D (dz_put D r 11 (ez_v (.inl (-1)))) := (ez_fr.refl (ez_one r) D).put (show Nat.beq _ _ = true from Nat.beq_refl _) _ _
  have iE : ∀ j, j ≠ 11 → qz_I (dz_put D r 11 (ez_v (.inl (-1)))) r j = qz_I D r j := fun j hj => ez_put_I (fun w => hj w.2)
  have hE := hB11
  generalize (dz_put D r 11 (ez_v (.inl (-1)))) = E at *
  have cE1 := fE.1; have cE2 := fE.2.1
  have cA1 := fA.1; have cA2 := fA.2.1; have cB1 := fB.1; have cB2 := fB.2.1; have cC1 := fC.1; have cC2 := fC.2.1; have cD1 := fD.1; have cD2 := fD.2.1; have cE1 := fE.1; have cE2 := fE.2.1
  have p1e : p1 = r + 1 := by omega
  have p2e : p4 = r + 2 := by omega
  subst p1e
  subst p2e
  have hnr : τ1 r = 14 := (x1.1 r (by rw [tr]; decide)).1.trans tr
  have F : ∀ q, q ≠ r → E.2.2 q = g4.2.2 q := fun q hq => by
    have e : ez_one r q = false := dz_beq_ne hq
    rw [fE.2.2 q e, fD.2.2 q e, fC.2.2 q e, fB.2.2 q e]
  have I7 : ∀ j, j ≠ 7 → j ≠ 8 → j ≠ 9 → j ≠ 10 → j ≠ 11 → qz_I E r j = qz_I h r j := fun j a b c e f => by
    rw [iE j f, iD j e, iC j c, iB j b]
    have e2 : qz_I g4 r j = qz_I A r j := by unfold qz_I; rw [(x4.1 r (by rw [hnr]; decide)).2]
    have e1 : qz_I g1 r j = qz_I h r j := by unfold qz_I; rw [(x1.1 r (by rw [tr]; decide)).2]
    rw [e2, iA j a, e1]
  refine ez_ret0 rfl rfl (kx E τ4 hE (fun q hq => ?_) (fun q q1 q2 => ?_) ?_ t4 (by omega) (by omega) (by omega) ?_ ?_ I7 (fun j => ?_) (fun j => ?_))
  · have a := x1.1 q hq
    have b := x4.1 q (by rw [a.1]; exact hq)
    exact ⟨b.1.trans a.1, fun hr => by rw [F q hr, b.2, fA.2.2 q (dz_beq_ne hr), a.2]⟩
  · rw [o4 q q2, o1 q q1]
  · exact (x4.1 _ (by rw [t1]; decide)).1.trans t1
  · rw [iE 7 (by decide), iD 7 (by decide), iC 7 (by decide), iB 7 (by decide)]
    have e2 : qz_I g4 r 7 = qz_I A r 7 := by unfold qz_I; rw [(x4.1 r (by rw [hnr]; decide)).2]
    rw [e2, vA]; omega
  · rw [iE 8 (by decide), iD 8 (by decide), iC 8 (by decide), vB]; omega
  · have e2 : qz_I g4 (r + 1) j = qz_I A (r + 1) j := by unfold qz_I; rw [(x4.1 _ (by rw [t1]; decide)).2]
    have e0 : qz_I E (r + 1) j = qz_I g4 (r + 1) j := by unfold qz_I; rw [F _ (by omega)]
    rw [e0, e2, fA.I (dz_beq_ne (by omega))]; exact y1 j
  · have e0 : qz_I E (r + 2) j = qz_I g4 (r + 2) j := by unfold qz_I; rw [F _ (by omega)]
    rw [e0]; exact y4 j

end EzLi
/-! The model: line, its end: one LINE more. (Written by wip/p2/py/pv82.py.) -/
/-- the lines -/
def ls (h : cz_H) : Nat := qz_P h 770 11
def lc (h : cz_H) : Int := qz_I h 770 12
section EzMl
variable {d : Nat} {h : cz_H} {τ : Nat → Nat} {Q : cz_F → Prop} {l : Nat} {kd : Int}
theorem rd_ml_l {q : Nat} (t770 : τ 770 = 75) (tq : τ q = 18) (tpo : τ (ls h) = 18) (n770 : 770 ≠ q) (npo : ls h ≠ q) (hn : lc h ≤ qz_N h q) (hn2 : lc h ≤ qz_N h (ls h)) (hne : ∀ j : Nat, (j : Int) < lc h → 1 ≤ qz_I h (ls h) j) (kx : ∀ g, ez_B τ g → ez_fr (ez_one q) h g → qz_N g q = qz_N h q → (∀ j, 0 ≤ j → j < lc h → qz_I g q j.toNat = qz_I h (ls h) j.toNat) → ez_W d cm_276 221 [(5, .inr (.inr (some (q)))), (1, .inl (kd)), (3, .inr (.inr (some (l)))), (0, .inr (.inr (some (770))))] [] g Q) : ∀ (m : Nat) (i : Int) (g : cz_H), m = (lc h - i).toNat → 0 ≤ i → i ≤ lc h → ez_B τ g → ez_fr (ez_one q) h g → qz_N g q = qz_N h q → (∀ j, 0 ≤ j → j < i → qz_I g q j.toNat = qz_I h (ls h) j.toNat) → ez_W d cm_276 194 [(6, .inl (i)), (5, .inr (.inr (some (q)))), (1, .inl (kd)), (3, .inr (.inr (some (l)))), (0, .inr (.inr (some (770))))] [] g Q := by
  unfold lc at *
  intro m
  induction m with
  | zero =>
    intro i g hm i0 i1 hB hf nq hc
    have f770 : ∀ j, qz_I g 770 j = qz_I h 770 j := fun j => hf.I (dz_beq_ne n770) j
    have ep : qz_P g 770 11 = ls h := by unfold ls qz_P; rw [f770]
    have f12 := f770 12
    have np : qz_N g (ls h) = qz_N h (ls h) := hf.N (dz_beq_ne npo)
    have fpo : ∀ j, qz_I g (ls h) j = qz_I h (ls h) j := fun j => hf.I (dz_beq_ne npo) j
    refine ez_go (n := 2) (pc' := 197) (L' := [(6, .inl (i)), (5, .inr (.inr (some (q)))), (1, .inl (kd)), (3, .inr (.inr (some (l)))), (0, .inr (.inr (some (770))))]) (st' := [.inr (.inr (some (770))), .inl (i)]) rfl ?_
    refine ez_gI hB t770 rfl rfl tq_75 rfl rfl (fun (b1 : 0 ≤ qz_I g 770 12) (b1' : qz_I g 770 12 ≤ 512) => ?_)
    refine ez_icmp rfl rfl ⟨by first | omega | exact (sz_i32 _).1, by first | omega | exact (sz_i32 _).2⟩ ⟨by first | omega | exact (sz_i32 _).1, by first | omega | exact (sz_i32 _).2⟩ (fun (c2 : (qz_I g 770 12) ≤ (i)) => ?_) (fun (c2 : ¬((qz_I g 770 12) ≤ (i))) => ?_)
    · skip
      refine ez_less [(5, .inr (.inr (some (q)))), (1, .inl (kd)), (3, .inr (.inr (some (l)))), (0, .inr (.inr (some (770))))] rfl ⟨rfl, rfl, rfl, rfl, trivial⟩ ?_
      exact kx g hB hf nq (fun j j0 j1 => hc j j0 (by omega))
    · exfalso; omega
  | succ m ih =>
    intro i g hm i0 i1 hB hf nq hc
    have f770 : ∀ j, qz_I g 770 j = qz_I h 770 j := fun j => hf.I (dz_beq_ne n770) j
    have ep : qz_P g 770 11 = ls h := by unfold ls qz_P; rw [f770]
    have f12 := f770 12
    have np : qz_N g (ls h) = qz_N h (ls h) := hf.N (dz_beq_ne npo)
    have fpo : ∀ j, qz_I g (ls h) j = qz_I h (ls h) j := fun j => hf.I (dz_beq_ne npo) j
    refine ez_go (n := 2) (pc' := 197) (L' := [(6, .inl (i)), (5, .inr (.inr (some (q)))), (1, .inl (kd)), (3, .inr (.inr (some (l)))), (0, .inr (.inr (some (770))))]) (st' := [.inr (.inr (some (770))), .inl (i)]) rfl ?_
    refine ez_gI hB t770 rfl rfl tq_75 rfl rfl (fun (b1 : 0 ≤ qz_I g 770 12) (b1' : qz_I g 770 12 ≤ 512) => ?_)
    refine ez_icmp rfl rfl ⟨by first | omega | exact (sz_i32 _).1, by first | omega | exact (sz_i32 _).2⟩ ⟨by first | omega | exact (sz_i32 _).1, by first | omega | exact (sz_i32 _).2⟩ (fun (c2 : (qz_I g 770 12) ≤ (i)) => ?_) (fun (c2 : ¬((qz_I g 770 12) ≤ (i))) => ?_)
    · exfalso; omega
    · skip
      refine ez_go (n := 3) (pc' := 208) (L' := [(6, .inl (i)), (5, .inr (.inr (some (q)))), (1, .inl (kd)), (3, .inr (.inr (some (l)))), (0, .inr (.inr (some (770))))]) (st' := [.inr (.inr (some (770))), .inl (i), .inr (.inr (some (q)))]) rfl ?_
      refine ez_gR hB t770 rfl rfl tq_75 rfl rfl (fun (t3 : _ = 18) (t3' : 1 ≤ qz_I g 770 11) => ?_)
      rw [ep] at *
      refine ez_go (n := 1) (pc' := 213) (L' := [(6, .inl (i)), (5, .inr (.inr (some (q)))), (1, .inl (kd)), (3, .inr (.inr (some (l)))), (0, .inr (.inr (some (770))))]) (st' := [.inl (i), .inr (.inr (some ((ls h)))), .inl (i), .inr (.inr (some (q)))]) rfl ?_
      have n5 : 64 ≤ qz_N g ((ls h)) ∧ qz_N g ((ls h)) ≤ 4096 := ez_len hB t3 tq_18 rfl
      have y6 : 1 ≤ qz_I g ((ls h)) (i).toNat := by rw [fpo]; exact hne i.toNat (by omega)
      have y7 : 0 ≤ qz_I g ((ls h)) (i).toNat ∧ qz_I g ((ls h)) (i).toNat ≤ 1000000 := ez_aB hB t3 tq_18 rfl rfl (by decide) (by omega) (by omega)
      have y7' : ((qz_P g ((ls h)) (i).toNat : Nat) : Int) + 1 = qz_I g ((ls h)) (i).toNat := by unfold qz_P; omega
      refine ez_aR hB t3 rfl tq_18 rfl rfl (by omega) (by omega) (by omega) (fun (t4 : _ = 13) => ?_)
      have n10 : 64 ≤ qz_N g q ∧ qz_N g q ≤ 4096 := ez_len hB tq tq_18 rfl
      refine ez_aa hB tq t4 rfl tq_18 tq_13 rfl rfl rfl (by omega) (by omega) (ez_vdR rfl t4 (by omega) (by omega)) (fun hB8 w9 => ?_)
      refine ez_go (n := 2) (pc' := 194) (L' := [(6, .inl (i + 1)), (5, .inr (.inr (some (q)))), (1, .inl (kd)), (3, .inr (.inr (some (l)))), (0, .inr (.inr (some (770))))]) (st' := []) rfl ?_
      refine ez_less [(6, .inl (i + 1)), (5, .inr (.inr (some (q)))), (1, .inl (kd)), (3, .inr (.inr (some (l)))), (0, .inr (.inr (some (770))))] rfl ⟨rfl, rfl, rfl, rfl, rfl, trivial⟩ ?_
      refine ih (i + 1) _ (by omega) (by omega) (by omega) hB8 (hf.put (show Nat.beq q q = true from Nat.beq_refl q) _ _) (by rw [ez_put_N]; exact nq) (fun j j0 j1 => ?_)
      by_cases e : j = i
      · rw [e, w9, ← fpo]; show ((qz_P g (ls h) i.toNat : Nat) : Int) + 1 = _; unfold qz_P; omega
      · rw [ez_put_I (by omega)]; exact hc j j0 (by omega)
theorem rd_ml_e (hB : ez_B τ h) (t770 : τ 770 = 75) (tl : τ l = 13) (kr : ez_rg kd) (npo : ls h ≠ 770) (tls : τ (ls h) = 18) (hn : lc h < qz_N h (ls h)) (hm : lc h < 500) (h8 : qz_I h 770 8 = qz_I h 770 12) (hr1 : h.1 ≤ 600192) (kx : ∀ g v, ez_B τ g → ez_fr (nz_PL (ls h)) h g → (∀ j, j ≠ 8 → j ≠ 12 → qz_I g 770 j = qz_I h 770 j) → qz_I g 770 12 = qz_I h 770 12 + 1 → qz_I g 770 8 = qz_I h 770 8 + 1 → (∀ j, j ≠ (qz_I h 770 12).toNat → qz_I g (ls h) j = qz_I h (ls h) j) → qz_I g (ls h) (qz_I h 770 12).toNat = (l : Int) + 1 → qz_N g (ls h) = qz_N h (ls h) → v = (if kd = 4 then qz_I h (qz_P h l 8) 0 else qz_I h l 2 - qz_I h l 1 + 1) → Q (.inl (some (ez_v (.inl v))), g)) : ez_W d cm_276 227 [(1, .inl (kd)), (3, .inr (.inr (some (l)))), (0, .inr (.inr (some (770))))] [] h Q := by
  have ll := dz_here_lt (hB.1 l (by rw [tl]; decide)).1
  have b12 : 0 ≤ qz_I h 770 12 ∧ qz_I h 770 12 ≤ 512 := ez_fB (cl := 11) (k := 12) hB t770 tq_75 rfl rfl (by decide)
  have hn' : qz_I h 770 12 < qz_N h (ls h) := hn
  have hm' : qz_I h 770 12 < 500 := hm
  obtain ⟨kr0, kr1⟩ := id kr
  refine ez_go (n := 1) (pc' := 228) (L' := [(1, .inl (kd)), (3, .inr (.inr (some (l)))), (0, .inr (.inr (some (770))))]) (st' := [.inr (.inr (some (770)))]) rfl ?_
  refine ez_gR hB t770 rfl rfl tq_75 rfl rfl (fun (t1 : _ = 18) (t1' : 1 ≤ qz_I h 770 11) => ?_)
  rw [show qz_P h 770 11 = ls h from rfl] at *
  refine ez_go (n := 1) (pc' := 232) (L' := [(1, .inl (kd)), (3, .inr (.inr (some (l)))), (0, .inr (.inr (some (770))))]) (st' := [.inr (.inr (some (770))), .inr (.inr (some ((ls h))))]) rfl ?_
  refine ez_gI hB t770 rfl rfl tq_75 rfl rfl (fun (b2 : 0 ≤ qz_I h 770 12) (b2' : qz_I h 770 12 ≤ 512) => ?_)
  refine ez_go (n := 1) (pc' := 236) (L' := [(1, .inl (kd)), (3, .inr (.inr (some (l)))), (0, .inr (.inr (some (770))))]) (st' := [.inr (.inr (some (l))), .inl (qz_I h 770 12), .inr (.inr (some ((ls h))))]) rfl ?_
  have n5 : 64 ≤ qz_N h ((ls h)) ∧ qz_N h ((ls h)) ≤ 4096 := ez_len hB t1 tq_18 rfl
  refine ez_aa hB t1 tl rfl tq_18 tq_13 rfl rfl rfl (by omega) (by omega) (ez_vdR rfl tl (by omega) (by omega)) (fun hB3 w4 => ?_)
  have fA : ez_fr (ez_one (ls h)) h (dz_put h ((ls h)) (qz_I h 770 12).toNat (ez_v (.inr (.inr (some (l)))))) := (ez_fr.refl (ez_one (ls h)) h).put (show Nat.beq _ _ = true from Nat.beq_refl _) _ _
  have vA : qz_I (dz_put h ((ls h)) (qz_I h 770 12).toNat (ez_v (.inr (.inr (some (l)))))) (ls h) (qz_I h 770 12).toNat = (l : Int) + 1 := w4
  have iA : ∀ j, j ≠ (qz_I h 770 12).toNat → qz_I (dz_put h ((ls h)) (qz_I h 770 12).toNat (ez_v (.inr (.inr (some (l)))))) (ls h) j = qz_I h (ls h) j := fun j hj => ez_put_I (fun w => hj w.2)
  have nA : qz_N (dz_put h ((ls h)) (qz_I h 770 12).toNat (ez_v (.inr (.inr (some (l)))))) (ls h) = qz_N h (ls h) := ez_put_N _
  have hA := hB3
  generalize (dz_put h ((ls h)) (qz_I h 770 12).toNat (ez_v (.inr (.inr (some (l)))))) = gA at *
  have mA : ∀ j, qz_I gA 770 j = qz_I h 770 j := fun j => fA.I (dz_beq_ne (Ne.symm npo)) j
  have mA12 := mA 12
  have mA8 := mA 8
  refine ez_go (n := 2) (pc' := 239) (L' := [(1, .inl (kd)), (3, .inr (.inr (some (l)))), (0, .inr (.inr (some (770))))]) (st' := [.inr (.inr (some (770))), .inr (.inr (some (770)))]) rfl ?_
  refine ez_gI hA t770 rfl rfl tq_75 rfl rfl (fun (b6 : 0 ≤ qz_I gA 770 12) (b6' : qz_I gA 770 12 ≤ 512) => ?_)
  refine ez_go (n := 2) (pc' := 244) (L' := [(1, .inl (kd)), (3, .inr (.inr (some (l)))), (0, .inr (.inr (some (770))))]) (st' := [.inl ((qz_I gA 770 12) + (1)), .inr (.inr (some (770)))]) rfl ?_
  refine ez_pf hA t770 rfl rfl tq_75 rfl rfl rfl rfl (ez_vdI rfl rfl (by omega) (by omega)) (fun hB7 w8 => ?_)
  have fP : ez_fr (ez_one 770) gA (dz_put gA 770 12 (ez_v (.inl ((qz_I gA 770 12) + (1))))) := (ez_fr.refl (ez_one 770) gA).put rfl _ _
  have vP : qz_I (dz_put gA 770 12 (ez_v (.inl ((qz_I gA 770 12) + (1))))) 770 12 = qz_I gA 770 12 + 1 := w8.trans (rz_rd ⟨by omega, by omega⟩)
  have iP : ∀ j, j ≠ 12 → qz_I (dz_put gA 770 12 (ez_v (.inl ((qz_I gA 770 12) + (1))))) 770 j = qz_I gA 770 j := fun j hj => ez_put_I (fun w => hj w.2)
  have hP := hB7
  generalize (dz_put gA 770 12 (ez_v (.inl ((qz_I gA 770 12) + (1))))) = gB at *
  have iP8 := iP 8 (by decide)
  refine ez_go (n := 2) (pc' := 249) (L' := [(1, .inl (kd)), (3, .inr (.inr (some (l)))), (0, .inr (.inr (some (770))))]) (st' := [.inr (.inr (some (770))), .inr (.inr (some (770)))]) rfl ?_
  refine ez_gI hP t770 rfl rfl tq_75 rfl rfl (fun (b9 : -2147483648 ≤ qz_I gB 770 8) (b9' : qz_I gB 770 8 ≤ 2147483647) => ?_)
  refine ez_go (n := 2) (pc' := 254) (L' := [(1, .inl (kd)), (3, .inr (.inr (some (l)))), (0, .inr (.inr (some (770))))]) (st' := [.inl ((qz_I gB 770 8) + (1)), .inr (.inr (some (770)))]) rfl ?_
  refine ez_pf hP t770 rfl rfl tq_75 rfl rfl rfl rfl (ez_vdI rfl rfl (by omega) (by omega)) (fun hB10 w11 => ?_)
  have fR : ez_fr (ez_one 770) gB (dz_put gB 770 8 (ez_v (.inl ((qz_I gB 770 8) + (1))))) := (ez_fr.refl (ez_one 770) gB).put rfl _ _
  have vR : qz_I (dz_put gB 770 8 (ez_v (.inl ((qz_I gB 770 8) + (1))))) 770 8 = qz_I gB 770 8 + 1 := w11.trans (rz_rd ⟨by omega, by omega⟩)
  have iR : ∀ j, j ≠ 8 → qz_I (dz_put gB 770 8 (ez_v (.inl ((qz_I gB 770 8) + (1))))) 770 j = qz_I gB 770 j := fun j hj => ez_put_I (fun w => hj w.2)
  have hR := hB10
  generalize (dz_put gB 770 8 (ez_v (.inl ((qz_I gB 770 8) + (1))))) = gC at *
  refine ez_go (n := 2) (pc' := 259) (L' := [(1, .inl (kd)), (3, .inr (.inr (some (l)))), (0, .inr (.inr (some (770))))]) (st' := [.inl (4), .inl (kd)]) rfl ?_
  refine ez_icmp rfl rfl ⟨by first | omega | exact (sz_i32 _).1, by first | omega | exact (sz_i32 _).2⟩ ⟨by first | omega | exact (sz_i32 _).1, by first | omega | exact (sz_i32 _).2⟩ (fun (c12 : (kd) ≠ (4)) => ?_) (fun (c12 : ¬((kd) ≠ (4))) => ?_)
  · skip
    refine ez_go (n := 1) (pc' := 272) (L' := [(1, .inl (kd)), (3, .inr (.inr (some (l)))), (0, .inr (.inr (some (770))))]) (st' := [.inr (.inr (some (l)))]) rfl ?_
    refine ez_gI hR tl rfl rfl tq_13 rfl rfl (fun (b13 : -2147483648 ≤ qz_I gC l 2) (b13' : qz_I gC l 2 ≤ 2147483647) => ?_)
    refine ez_go (n := 1) (pc' := 276) (L' := [(1, .inl (kd)), (3, .inr (.inr (some (l)))), (0, .inr (.inr (some (770))))]) (st' := [.inr (.inr (some (l))), .inl (qz_I gC l 2)]) rfl ?_
    refine ez_gI hR tl rfl rfl tq_13 rfl rfl (fun (b14 : -2147483648 ≤ qz_I gC l 1) (b14' : qz_I gC l 1 ≤ 2147483647) => ?_)
    refine ez_go (n := 3) (pc' := 282) (L' := [(1, .inl (kd)), (3, .inr (.inr (some (l)))), (0, .inr (.inr (some (770))))]) (st' := [.inl (((qz_I gC l 2) - (qz_I gC l 1)) + (1))]) rfl ?_
    have n7l : l ≠ 770 := fun e => by rw [e, t770] at tl; cases tl
    have nll : l ≠ ls h := fun e => by rw [e, tls] at tl; cases tl
    have cl9 : gC.2.2 l = h.2.2 l := by rw [fR.2.2 l (dz_beq_ne n7l), fP.2.2 l (dz_beq_ne n7l), fA.2.2 l (dz_beq_ne nll)]
    exact ez_retI rfl rfl (kx gC _ hR ⟨by rw [fR.1, fP.1, fA.1], by rw [fR.2.1, fP.2.1, fA.2.1], fun q hq => by rw [fR.2.2 q (Bool.or_eq_false_iff.mp hq).1, fP.2.2 q (Bool.or_eq_false_iff.mp hq).1, fA.2.2 q (Bool.or_eq_false_iff.mp hq).2]⟩ (fun j a b => by rw [iR j a, iP j b, mA]) (by rw [iR 12 (by decide), vP, mA]) (by rw [vR, iP 8 (by decide), mA]) (fun j hj => by rw [fR.I (dz_beq_ne npo), fP.I (dz_beq_ne npo)]; exact iA j hj) (by rw [fR.I (dz_beq_ne npo), fP.I (dz_beq_ne npo)]; exact vA) (by rw [fR.N (dz_beq_ne npo), fP.N (dz_beq_ne npo)]; exact nA) (by rw [if_neg (by assumption)]; unfold qz_I; rw [cl9]))
  · skip
    refine ez_go (n := 1) (pc' := 263) (L' := [(1, .inl (kd)), (3, .inr (.inr (some (l)))), (0, .inr (.inr (some (770))))]) (st' := [.inr (.inr (some (l)))]) rfl ?_
    refine ez_gR hR tl rfl rfl tq_13 rfl rfl (fun (t15 : _ = 16) (t15' : 1 ≤ qz_I gC l 8) => ?_)
    refine ez_go (n := 1) (pc' := 267) (L' := [(1, .inl (kd)), (3, .inr (.inr (some (l)))), (0, .inr (.inr (some (770))))]) (st' := [.inl (0), .inr (.inr (some (qz_P gC l 8)))]) rfl ?_
    have n17 : 3 ≤ qz_N gC (qz_P gC l 8) ∧ qz_N gC (qz_P gC l 8) ≤ 3 := ez_len hR t15 tq_16 rfl
    refine ez_aI hR t15 rfl tq_16 rfl rfl (by omega) (by omega) (fun (b16 : 0 ≤ qz_I gC (qz_P gC l 8) (0 : Int).toNat) (b16' : qz_I gC (qz_P gC l 8) (0 : Int).toNat ≤ 18) => ?_)
    refine ez_go (n := 1) (pc' := 282) (L' := [(1, .inl (kd)), (3, .inr (.inr (some (l)))), (0, .inr (.inr (some (770))))]) (st' := [.inl (qz_I gC (qz_P gC l 8) (0 : Int).toNat)]) rfl ?_
    have n7l : l ≠ 770 := fun e => by rw [e, t770] at tl; cases tl
    have nll : l ≠ ls h := fun e => by rw [e, tls] at tl; cases tl
    have cl9 : gC.2.2 l = h.2.2 l := by rw [fR.2.2 l (dz_beq_ne n7l), fP.2.2 l (dz_beq_ne n7l), fA.2.2 l (dz_beq_ne nll)]
    have cc9 : gC.2.2 (qz_P gC l 8) = h.2.2 (qz_P gC l 8) := by rw [fR.2.2 _ (dz_beq_ne (fun e => by rw [e, t770] at t15; cases t15)), fP.2.2 _ (dz_beq_ne (fun e => by rw [e, t770] at t15; cases t15)), fA.2.2 _ (dz_beq_ne (fun e => by rw [e, tls] at t15; cases t15))]
    have e89 : qz_P gC l 8 = qz_P h l 8 := by unfold qz_P qz_I; rw [cl9]
    exact ez_retI rfl rfl (kx gC _ hR ⟨by rw [fR.1, fP.1, fA.1], by rw [fR.2.1, fP.2.1, fA.2.1], fun q hq => by rw [fR.2.2 q (Bool.or_eq_false_iff.mp hq).1, fP.2.2 q (Bool.or_eq_false_iff.mp hq).1, fA.2.2 q (Bool.or_eq_false_iff.mp hq).2]⟩ (fun j a b => by rw [iR j a, iP j b, mA]) (by rw [iR 12 (by decide), vP, mA]) (by rw [vR, iP 8 (by decide), mA]) (fun j hj => by rw [fR.I (dz_beq_ne npo), fP.I (dz_beq_ne npo)]; exact iA j hj) (by rw [fR.I (dz_beq_ne npo), fP.I (dz_beq_ne npo)]; exact vA) (by rw [fR.N (dz_beq_ne npo), fP.N (dz_beq_ne npo)]; exact nA) (by rw [if_pos (by omega)]; show qz_I gC (qz_P gC l 8) 0 = _; rw [e89] at cc9 ⊢; unfold qz_I; rw [cc9]))

/-- one LINE more -/
def lu (τ : Nat → Nat) (h : cz_H) (τ1 : Nat → Nat) (g : cz_H) (l : Nat) : Prop :=
  (∀ q, τ q ≠ 0 → τ1 q = τ q ∧ (q ≠ 770 → q ≠ ls h → g.2.2 q = h.2.2 q)) ∧ (∀ q, τ q = 0 → τ1 q ≠ 0 → τ1 q = 18) ∧ τ1 (ls g) = 18 ∧
  (∀ j, j ≠ 8 → j ≠ 11 → j ≠ 12 → qz_I g 770 j = qz_I h 770 j) ∧ lc g = lc h + 1 ∧ qz_I g 770 8 = qz_I h 770 8 + 1 ∧ (∀ j : Nat, (j : Int) < lc h → qz_I g (ls g) j = qz_I h (ls h) j) ∧ qz_I g (ls g) (lc h).toNat = (l : Int) + 1 ∧
  (lc g ≤ qz_N g (ls g) ∧ qz_N h (ls h) ≤ qz_N g (ls g)) ∧ ((g.2.1 : Int) - h.2.1 ≤ 2 * (qz_N g (ls g) - qz_N h (ls h)) ∧ 64 * ((g.1 : Int) - h.1) ≤ qz_N g (ls g) - qz_N h (ls h)) ∧ (h.1 ≤ g.1 ∧ h.2.1 ≤ g.2.1)
theorem rd_ml (hB : ez_B τ h) (t770 : τ 770 = 75) (tl : τ l = 13) (tpo : τ (ls h) = 18) (tcp : τ (qz_P h l 8) = 16) (kr : ez_rg kd) (hn : lc h ≤ qz_N h (ls h)) (hm : lc h < 500) (h8 : qz_I h 770 8 = qz_I h 770 12) (hne : ∀ j : Nat, (j : Int) < lc h → 1 ≤ qz_I h (ls h) j) (hr1 : h.1 + 1 ≤ 600192) (hr2 : h.2.1 + 1000 ≤ 7302232) (kx : ∀ g τ1 v, ez_B τ1 g → lu τ h τ1 g l → v = (if kd = 4 then qz_I h (qz_P h l 8) 0 else qz_I h l 2 - qz_I h l 1 + 1) → Q (.inl (some (ez_v (.inl v))), g)) : ez_W d cm_276 168 [(1, .inl (kd)), (3, .inr (.inr (some (l)))), (0, .inr (.inr (some (770))))] [] h Q := by
  have ll := dz_here_lt (hB.1 l (by rw [tl]; decide)).1
  have b12 : 0 ≤ qz_I h 770 12 ∧ qz_I h 770 12 ≤ 512 := ez_fB (cl := 11) (k := 12) hB t770 tq_75 rfl rfl (by decide)
  have hn' : qz_I h 770 12 ≤ qz_N h (ls h) := hn
  have npo : ls h ≠ 770 := fun e => by rw [e, t770] at tpo; cases tpo
  have lls : 64 ≤ qz_N h (ls h) ∧ qz_N h (ls h) ≤ 4096 := ez_len hB tpo tq_18 rfl
  have hm' : qz_I h 770 12 < 500 := hm
  refine ez_go (n := 1) (pc' := 169) (L' := [(1, .inl (kd)), (3, .inr (.inr (some (l)))), (0, .inr (.inr (some (770))))]) (st' := [.inr (.inr (some (770)))]) rfl ?_
  refine ez_gI hB t770 rfl rfl tq_75 rfl rfl (fun (b1 : 0 ≤ qz_I h 770 12) (b1' : qz_I h 770 12 ≤ 512) => ?_)
  refine ez_go (n := 1) (pc' := 173) (L' := [(1, .inl (kd)), (3, .inr (.inr (some (l)))), (0, .inr (.inr (some (770))))]) (st' := [.inr (.inr (some (770))), .inl (qz_I h 770 12)]) rfl ?_
  refine ez_gR hB t770 rfl rfl tq_75 rfl rfl (fun (t2 : _ = 18) (t2' : 1 ≤ qz_I h 770 11) => ?_)
  rw [show qz_P h 770 11 = ls h from rfl] at *
  refine ez_al hB t2 rfl tq_18 rfl (fun (b3 : 64 ≤ qz_N h ((ls h))) (b3' : qz_N h ((ls h)) ≤ 4096) => ?_)
  refine ez_icmp rfl rfl ⟨by first | omega | exact (sz_i32 _).1, by first | omega | exact (sz_i32 _).2⟩ ⟨by first | omega | exact (sz_i32 _).1, by first | omega | exact (sz_i32 _).2⟩ (fun (c4 : (qz_I h 770 12) ≠ (qz_N h ((ls h)))) => ?_) (fun (c4 : ¬((qz_I h 770 12) ≠ (qz_N h ((ls h))))) => ?_)
  · skip
    refine ez_less [(1, .inl (kd)), (3, .inr (.inr (some (l)))), (0, .inr (.inr (some (770))))] rfl ⟨rfl, rfl, rfl, trivial⟩ ?_
    refine rd_ml_e hB t770 tl kr npo tpo (by unfold lc; omega) hm h8 (by omega) (fun g v hBg f hj c12 c8 hl hp hN hv => kx g τ v hBg ?_ hv)
    have ho : ls g = ls h := by unfold ls qz_P; rw [hj 11 (by decide) (by decide)]
    have c12' : lc g = lc h + 1 := c12
    exact ⟨fun q hq => ⟨rfl, fun q1 q2 => f.2.2 q (by unfold nz_PL; rw [dz_beq_ne q1, dz_beq_ne q2]; rfl)⟩, fun q h1 h2 => absurd h1 h2, by rw [ho]; exact tpo, fun j a b c => hj j a c, c12, c8, fun j hj2 => by rw [ho]; exact hl j (by unfold lc at hj2; omega), by rw [ho]; exact hp, ⟨by rw [ho, hN, c12']; unfold lc; omega, by rw [ho, hN]; exact Int.le_refl _⟩, ⟨by rw [ho, hN, f.2.1]; omega, by rw [ho, hN, f.1]; omega⟩, by rw [f.1]; exact Nat.le_refl _, by rw [f.2.1]; exact Nat.le_refl _⟩
  · skip
    refine ez_go (n := 2) (pc' := 182) (L' := [(1, .inl (kd)), (3, .inr (.inr (some (l)))), (0, .inr (.inr (some (770))))]) (st' := [.inr (.inr (some (770))), .inl (2)]) rfl ?_
    refine ez_gI hB t770 rfl rfl tq_75 rfl rfl (fun (b5 : 0 ≤ qz_I h 770 12) (b5' : qz_I h 770 12 ≤ 512) => ?_)
    refine ez_go (n := 1) (pc' := 186) (L' := [(1, .inl (kd)), (3, .inr (.inr (some (l)))), (0, .inr (.inr (some (770))))]) (st' := [.inl ((2) * (qz_I h 770 12))]) rfl ?_
    refine ez_nQ' (t := 18) hB rfl rfl tq_18 rfl rfl (by omega) (by show (64 : Int) ≤ _; omega) (by show _ ≤ (4096 : Int); omega) (by omega) (by omega) (by omega) (fun g6 τ6 p6 hB6 x6 o6 t6 z6 e6 N6 y6 => ?_)
    have c6 := x6.2
    have t770n6 := (x6.1 _ (by rw [t770]; decide)).1.trans t770
    have tln6 := (x6.1 _ (by rw [tl]; decide)).1.trans tl
    have t2n6 := (x6.1 _ (by rw [t2]; decide)).1.trans t2
    have t2n6 := (x6.1 _ (by rw [t2]; decide)).1.trans t2
    have hq770 : 770 ≠ p6 := fun e => by rw [← e, t770] at z6; cases z6
    have hqpo : ls h ≠ p6 := fun e => by rw [← e, tpo] at z6; cases z6
    have f9 : ∀ j, qz_I g6 770 j = qz_I h 770 j := fun j => x6.I (by rw [t770]; decide) j
    have epo : ls g6 = ls h := by unfold ls qz_P; rw [f9]
    have epn : lc g6 = lc h := f9 12
    have epl : ∀ j, qz_I g6 (ls h) j = qz_I h (ls h) j := fun j => x6.I (by rw [tpo]; decide) _
    have eN : qz_N g6 (ls h) = qz_N h (ls h) := x6.N (by rw [tpo]; decide)
    refine ez_go (n := 3) (pc' := 194) (L' := [(6, .inl (0)), (5, .inr (.inr (some (p6)))), (1, .inl (kd)), (3, .inr (.inr (some (l)))), (0, .inr (.inr (some (770))))]) (st' := []) rfl ?_
    refine ez_less [(6, .inl (0)), (5, .inr (.inr (some (p6)))), (1, .inl (kd)), (3, .inr (.inr (some (l)))), (0, .inr (.inr (some (770))))] rfl ⟨rfl, rfl, rfl, rfl, rfl, trivial⟩ ?_
    have hcN : lc h = qz_N h (ls h) := by unfold lc; omega
    refine rd_ml_l (h := g6) t770n6 t6 (by rw [epo]; exact (x6.1 _ (by rw [tpo]; decide)).1.trans tpo) hq770 (by rw [epo]; exact hqpo) (by rw [epn, N6]; unfold lc; omega) (by rw [epn, epo, eN]; omega) (by rw [epn, epo]; exact fun j hj => by rw [epl]; exact hne j hj) (fun g2 hB2 f2 n2 c2 => ?_) _ 0 g6 rfl (by omega) (by rw [epn]; unfold lc; omega) hB6 (ez_fr.refl _ _) rfl (fun j j0 j1 => by omega)
    refine ez_go (n := 2) (pc' := 224) (L' := [(5, .inr (.inr (some (p6)))), (1, .inl (kd)), (3, .inr (.inr (some (l)))), (0, .inr (.inr (some (770))))]) (st' := [.inr (.inr (some (p6))), .inr (.inr (some (770)))]) rfl ?_
    refine ez_pf hB2 t770n6 rfl rfl tq_75 rfl rfl rfl rfl (ez_vdR rfl t6 (by omega) (by omega)) (fun hB7 w8 => ?_)
    refine ez_less [(1, .inl (kd)), (3, .inr (.inr (some (l)))), (0, .inr (.inr (some (770))))] rfl ⟨rfl, rfl, rfl, trivial⟩ ?_
    have hpo3 : ls (dz_put g2 770 11 (ez_v (.inr (.inr (some (p6)))))) = p6 := by unfold ls qz_P; rw [w8]; show ((p6 : Int) + 1 - 1).toNat = p6; omega
    have h3j : ∀ j, j ≠ 11 → qz_I (dz_put g2 770 11 (ez_v (.inr (.inr (some (p6)))))) 770 j = qz_I h 770 j := fun j hj => by rw [ez_put_I (fun w => hj w.2), f2.I (dz_beq_ne hq770)]; exact f9 j
    have hpn3 : lc (dz_put g2 770 11 (ez_v (.inr (.inr (some (p6)))))) = lc h := h3j 12 (by decide)
    have hN3 : qz_N (dz_put g2 770 11 (ez_v (.inr (.inr (some (p6)))))) p6 = 2 * lc h := by rw [ez_put_N, n2, N6]; rfl
    have hpl3 : ∀ j : Nat, (j : Int) < lc h → qz_I (dz_put g2 770 11 (ez_v (.inr (.inr (some (p6)))))) p6 j = qz_I h (ls h) j := fun j j1 => by rw [ez_put_I (fun w => hq770 w.1.symm)]; have := c2 (j : Int) (by omega) (by rw [epn]; exact j1); rw [epo, Int.toNat_natCast, epl] at this; exact this
    have fr3 : ∀ q, q ≠ 770 → q ≠ p6 → ((dz_put g2 770 11 (ez_v (.inr (.inr (some (p6))))))).2.2 q = g6.2.2 q := fun q h1 h2 => by rw [qz_put_at _ _ _ _ h1, f2.2.2 q (dz_beq_ne h2)]
    have c31 : ((dz_put g2 770 11 (ez_v (.inr (.inr (some (p6))))))).1 = g6.1 := f2.1
    have c32 : ((dz_put g2 770 11 (ez_v (.inr (.inr (some (p6))))))).2.1 = g6.2.1 := f2.2.1
    have hB3 := hB7
    generalize (dz_put g2 770 11 (ez_v (.inr (.inr (some (p6)))))) = g3 at *
    refine rd_ml_e hB3 t770n6 tln6 kr (by rw [hpo3]; exact hq770.symm) (by rw [hpo3]; exact t6) (by rw [hpn3, hpo3, hN3]; unfold lc at *; omega) (by rw [hpn3]; exact hm) (by rw [h3j 8 (by decide), h3j 12 (by decide)]; exact h8) (by omega) (fun g4 v hB4 f4 hj4 c12 c8 hl4 hp4 hN4 hv4 => ?_)
    have n7l : l ≠ 770 := fun e => by rw [e, t770] at tl; cases tl
    have nql : l ≠ p6 := fun e => by rw [e, z6] at tl; cases tl
    have cl9 : g3.2.2 l = h.2.2 l := by rw [fr3 l n7l nql, (x6.1 l (by rw [tl]; decide)).2]
    have e89 : qz_P g3 l 8 = qz_P h l 8 := by unfold qz_P qz_I; rw [cl9]
    have cc9 : g3.2.2 (qz_P h l 8) = h.2.2 (qz_P h l 8) := by rw [fr3 _ (fun e => by rw [e, t770] at tcp; cases tcp) (fun e => by rw [e, z6] at tcp; cases tcp), (x6.1 _ (by rw [tcp]; decide)).2]
    have hv9 : v = (if kd = 4 then qz_I h (qz_P h l 8) 0 else qz_I h l 2 - qz_I h l 1 + 1) := by rw [hv4, e89]; unfold qz_I; rw [cl9, cc9]
    rw [hpo3] at f4 hl4 hp4 hN4
    rw [h3j 12 (by decide)] at c12 hl4 hp4
    rw [h3j 8 (by decide)] at c8
    have ho4 : ls g4 = p6 := by rw [← hpo3]; unfold ls qz_P; rw [hj4 11 (by decide) (by decide)]
    have cx := x6.2
    have c12' : lc g4 = lc h + 1 := c12
    have lcd : lc h = qz_I h 770 12 := rfl
    refine kx g4 τ6 v hB4 ⟨fun q hq => ⟨(x6.1 q hq).1, fun q1 q2 => ?_⟩, fun q h1 h2 => ?_, by rw [ho4]; exact t6, fun j j8 j11 j12 => (hj4 j j8 j12).trans (h3j j j11), c12, c8, fun j j1 => by rw [ho4, hl4 j (by omega)]; exact hpl3 j j1, by rw [ho4]; exact hp4, ⟨by rw [ho4, hN4, hN3, c12']; omega, by rw [ho4, hN4, hN3]; omega⟩, ⟨by rw [ho4, hN4, hN3, f4.2.1, c32]; omega, by rw [ho4, hN4, hN3, f4.1, c31]; omega⟩, by rw [f4.1, c31]; omega, by rw [f4.2.1, c32]; omega⟩ hv9
    · have hqp : q ≠ p6 := fun e => by rw [e, z6] at hq; exact hq rfl
      rw [f4.2.2 q (by unfold nz_PL; rw [dz_beq_ne q1, dz_beq_ne hqp]; rfl), fr3 q q1 hqp, (x6.1 q hq).2]
    · by_cases e : q = p6
      · rw [e]; exact t6
      · rw [o6 q e] at h2; exact absurd h1 h2

end EzMl
/-! The model's LINES, and what they tell. -/
abbrev vz : Type := Int × Int × Int × Int × Int × List Int × vy
def vD (x : vz) : Option (Int × List Int) := if x.2.2.2.2.1 = 0 then none else some (x.2.2.2.2.1 - 1, x.2.2.2.2.2.1)
def vf (F : rz_W) (x : vz) : rz_W := fun y => if x.1 = 0 ∧ x.2.1 ≤ y ∧ y ≤ x.2.2.1 then (x.2.2.2.1, vD x) else F y
def ve (E : Int → Prop) (x : vz) : Int → Prop := fun y => E y ∨ (x.1 = 3 ∧ x.2.2.2.2.1 = 0 ∧ x.2.1 ≤ y ∧ y ≤ x.2.2.1)
def vF (Ls : List vz) : rz_W := Ls.foldl vf (fun _ => (0, none))
def vE (Ls : List vz) : Int → Prop := Ls.foldl ve (fun _ => False)
theorem vF_app (Ls : List vz) (x : vz) : vF (Ls ++ [x]) = vf (vF Ls) x := by unfold vF; rw [List.foldl_append]; rfl
theorem vE_app (Ls : List vz) (x : vz) : vE (Ls ++ [x]) = ve (vE Ls) x := by unfold vE; rw [List.foldl_append]; rfl
/-- a Line's cells hold this LINE -/
def vc (h : cz_H) (l : Nat) (x : vz) : Prop := (qz_I h l 0 = x.1 ∧ qz_I h l 1 = x.2.1 ∧ qz_I h l 2 = x.2.2.1 ∧ qz_I h l 4 = x.2.2.2.1 ∧ qz_I h l 5 = x.2.2.2.2.1) ∧ (x.1 = 0 → 0 ≤ x.2.2.2.2.1 ∧ (x.2.2.2.2.1 ≠ 0 → x.2.1 = x.2.2.1 ∧ (qz_I h (l + 2) 0 = (x.2.2.2.2.2.1.length : Int) ∧ qz_I h (l + 1) 0 + (x.2.2.2.2.2.1.length : Int) ≤ pn h ∧ 0 ≤ qz_I h (l + 1) 0) ∧ ∀ (j : Nat) v, x.2.2.2.2.2.1[j]? = some v → pl h (qz_I h (l + 1) 0 + (j : Int)) = v))
/-- and all else that it tells -/
def vx (h : cz_H) (l : Nat) (v : vy) : Prop := qz_I h l 0 = v.1.1 ∧ (v.1.1 = 0 → (qz_I h l 1 = v.1.2.1 ∧ qz_I h l 2 = v.1.2.2) ∧ qz_I h l 3 = v.2.1.1 ∧ qz_I h l 9 = v.2.1.2.1 ∧ qz_I h l 10 = v.2.1.2.2.1 ∧ qz_I h l 11 = v.2.1.2.2.2) ∧ (v.1.1 = 1 → (qz_I h l 1 = v.1.2.1 ∧ v.1.2.2 = v.1.2.1) ∧ qz_I h l 12 = v.2.2.2.1 ∧ mrw h (l + 1) (l + 2) 0 v.2.2.2.2.1 ∧ mrw h (l + 1) (l + 2) 1 v.2.2.2.2.2.1 ∧ mrw h (l + 1) (l + 2) 2 v.2.2.2.2.2.2) ∧ (v.1.1 = 2 → (qz_I h l 1 = v.1.2.1 ∧ v.1.2.2 = v.1.2.1) ∧ qz_I h l 5 = v.2.2.1.1 ∧ mrw h (l + 1) (l + 2) 0 v.2.2.2.2.1) ∧ (v.1.1 = 3 → (qz_I h l 1 = v.1.2.1 ∧ qz_I h l 2 = v.1.2.2) ∧ qz_I h l 5 = (if v.2.2.1.1 = 0 then 6 else if v.2.2.1.1 = 1 then 7 else v.2.2.1.2) ∧ (v.2.2.1.1 ≠ 2 → qz_I h l 6 = v.2.2.1.2) ∧ (0 ≤ v.2.2.1.1 ∧ v.2.2.1.1 ≤ 2) ∧ 0 ≤ v.2.2.1.2 ∧ (v.2.2.1.1 = 2 → v.2.2.1.2 < 6))
theorem vx_tr {h g : cz_H} {l : Nat} {v : vy} (a : vx h l v) (e0 : g.2.2 l = h.2.2 l) (e1 : g.2.2 (l + 1) = h.2.2 (l + 1)) (e2 : g.2.2 (l + 2) = h.2.2 (l + 2)) (hn : pn h ≤ pn g) (hp : ∀ j, 0 ≤ j → j < pn h → pl g j = pl h j) : vx g l v := by
  have i0 : ∀ j, qz_I g l j = qz_I h l j := fun j => by unfold qz_I; rw [e0]
  have i1 : ∀ j, qz_I g (l + 1) j = qz_I h (l + 1) j := fun j => by unfold qz_I; rw [e1]
  have i2 : ∀ j, qz_I g (l + 2) j = qz_I h (l + 2) j := fun j => by unfold qz_I; rw [e2]
  have m : ∀ {k : Nat} {L : List Int}, mrw h (l + 1) (l + 2) k L → mrw g (l + 1) (l + 2) k L := fun {k L} w => w.tr (i1 k) (i2 k) hn hp
  obtain ⟨a0, a1, a2, a3, a4⟩ := a
  unfold vx
  simp only [i0]
  exact ⟨a0, a1, fun w => ⟨(a2 w).1, (a2 w).2.1, m (a2 w).2.2.1, m (a2 w).2.2.2.1, m (a2 w).2.2.2.2⟩, fun w => ⟨(a3 w).1, (a3 w).2.1, m (a3 w).2.2⟩, a4⟩
def vl (h : cz_H) (Ls : List vz) : Prop := (Ls.length : Int) = lc h ∧ ∀ (k : Nat) x, Ls[k]? = some x → vc h (qz_P h (ls h) k) x ∧ vx h (qz_P h (ls h) k) x.2.2.2.2.2.2
theorem vc_tr {h g : cz_H} {l : Nat} {x : vz} (a : vc h l x) (e0 : g.2.2 l = h.2.2 l) (e1 : g.2.2 (l + 1) = h.2.2 (l + 1)) (e2 : g.2.2 (l + 2) = h.2.2 (l + 2)) (hn : pn h ≤ pn g) (hp : ∀ j, 0 ≤ j → j < pn h → pl g j = pl h j) : vc g l x := by
  have i0 : ∀ j, qz_I g l j = qz_I h l j := fun j => by unfold qz_I; rw [e0]
  have i1 : ∀ j, qz_I g (l + 1) j = qz_I h (l + 1) j := fun j => by unfold qz_I; rw [e1]
  have i2 : ∀ j, qz_I g (l + 2) j = qz_I h (l + 2) j := fun j => by unfold qz_I; rw [e2]
  unfold vc at *
  rw [i0, i0, i0, i0, i0, i1, i2]
  refine ⟨a.1, fun k0 => ⟨(a.2 k0).1, fun t0 => ?_⟩⟩
  obtain ⟨b1, ⟨b2, b3, b4⟩, b5⟩ := (a.2 k0).2 t0
  refine ⟨b1, ⟨b2, by omega, b4⟩, fun j v hv => ?_⟩
  have hj : j < x.2.2.2.2.2.1.length := (List.getElem?_eq_some_iff.mp hv).1
  rw [hp _ (by omega) (by omega)]
  exact b5 j v hv
/-- rows lie in the pool -/
def mL (τ : Nat → Nat) (h : cz_H) : Prop := (∀ r, τ r = 15 → τ (r + 1) = 16 ∧ ∀ j, qz_I h r j + qz_I h (r + 1) j ≤ qz_N h (po h)) ∧ ∀ r, τ r = 13 → τ (r + 1) = 15 ∧ τ (r + 2) = 16 ∧ (qz_I h r 0 = 4 → qz_I h (r + 1) 1 + 4 * qz_I h (r + 2) 1 ≤ qz_N h (po h))
/-- the model between lines (b = 0), and within one -/
def mI (τ : Nat → Nat) (h : cz_H) (Ls : List vz) (b : Int) : Prop := ez_B τ h ∧ jz_X τ ∧ ((lc h ≤ qz_N h (ls h) ∧ pn h ≤ qz_N h (po h)) ∧ qz_I h 770 8 = lc h ∧ pn h ≤ 75 * lc h + b) ∧ ((∀ i : Nat, (i : Int) < lc h → 1 ≤ qz_I h (ls h) i) ∧ ∀ i j : Nat, (i : Int) < lc h → (j : Int) < lc h → qz_I h (ls h) i = qz_I h (ls h) j → i = j) ∧ mL τ h ∧ (nz_Z h ∧ nmz h) ∧ vl h Ls
theorem ez_l78 {τ : Nat → Nat} {h : cz_H} {l : Nat} (hB : ez_B τ h) (tl : τ l = 13) : qz_P h l 7 = l + 1 ∧ qz_P h l 8 = l + 2 := by
  obtain ⟨vs, v, -, -, g1, g2, -⟩ := ez_fld (cl := 12) (k := 7) hB tl tq_13 rfl rfl
  obtain ⟨vs', v', -, -, g1', g2', -⟩ := ez_fld (cl := 12) (k := 8) hB tl tq_13 rfl rfl
  have e := g2.2.2.2.2.1.resolve_left (by decide)
  have e' := g2'.2.2.2.2.2.resolve_left (by decide)
  unfold qz_P qz_I
  rw [g1, g1']
  show (dz_n v - 1).toNat = _ ∧ (dz_n v' - 1).toNat = _
  rw [e, e']
  omega
theorem ez_tls {τ : Nat → Nat} {h : cz_H} (hB : ez_B τ h) (t770 : τ 770 = 75) : τ (ls h) = 18 ∧ τ (po h) = 17 := by
  have b11 : 1 ≤ qz_I h 770 11 ∧ qz_I h 770 11 ≤ 1000000 := ez_fB (cl := 11) hB t770 tq_75 rfl rfl (by decide)
  have b9 : 1 ≤ qz_I h 770 9 ∧ qz_I h 770 9 ≤ 1000000 := ez_fB (cl := 11) hB t770 tq_75 rfl rfl (by decide)
  exact ⟨(ez_old (cl := 11) (k := 11) hB t770 tq_75 rfl rfl (by decide) (show qz_I h 770 11 = (ls h : Int) + 1 by unfold ls qz_P; omega)).1, (ez_old (cl := 11) (k := 9) hB t770 tq_75 rfl rfl (by decide) (show qz_I h 770 9 = (po h : Int) + 1 by unfold po qz_P; omega)).1⟩
/-- a line of the array has its tag -/
theorem ez_tll {τ : Nat → Nat} {h : cz_H} {A : Nat} (hB : ez_B τ h) (tA : τ A = 18 ∨ τ A = 20) {i : Nat} (hi : (i : Int) < qz_N h A) (h1 : 1 ≤ qz_I h A i) : τ (qz_P h A i) = 13 := by
  have hr : cz_hereB h A = true ∧ dz_cf tz_T τ h A := hB.1 A (by rcases tA with e | e <;> rw [e] <;> decide)
  obtain ⟨-, ti, a2, a3, a4, a5⟩ := hr
  have hv : ∃ v, dz_get (h.2.2 A) i = some v := by
    cases e : dz_get (h.2.2 A) i with
    | some v => exact ⟨v, rfl⟩
    | none => unfold qz_I at h1; rw [e] at h1; exact absurd h1 (by decide)
  obtain ⟨v, hv⟩ := hv
  obtain ⟨D, d1, d2⟩ := a5 i v hv
  have hn : qz_I h A i = dz_n v := by unfold qz_I; rw [hv]
  have key : D = (3, 0, 1000000, 13, 0) := by
    rcases tA with e | e
    · rw [e] at a2; cases a2; cases d1; rfl
    · rw [e] at a2; cases a2; cases d1; rfl
  subst key
  obtain ⟨-, h2⟩ := ez_slR hv d2 rfl (by decide) (by omega)
  exact h2.1
theorem mI.L {τ : Nat → Nat} {h : cz_H} {Ls : List vz} {b : Int} (hI : mI τ h Ls b) {i : Nat} (hi : (i : Int) < lc h) : τ (qz_P h (ls h) i) = 13 ∧ τ (qz_P h (ls h) i + 1) = 15 ∧ τ (qz_P h (ls h) i + 2) = 16 := by
  obtain ⟨hB, hX, ⟨⟨n1, n2⟩, -⟩, ⟨c1, -⟩, m, -⟩ := hI
  have t := ez_tll hB (Or.inl (ez_tls hB (hX 770 (by decide))).1) (by omega) (c1 i hi)
  exact ⟨t, (m.2 _ t).1, (m.2 _ t).2.1⟩
theorem mI.tr {τ τ1 : Nat → Nat} {h g : cz_H} {Ls : List vz} {b b' : Int} (hI : mI τ h Ls b) (hB : ez_B τ1 g) (ht : ∀ q, τ q ≠ 0 → τ1 q = τ q) (h7 : ∀ j, j = 8 ∨ j = 11 ∨ j = 12 → qz_I g 770 j = qz_I h 770 j) (hl : g.2.2 (ls h) = h.2.2 (ls h)) (hc : ∀ i : Nat, (i : Int) < lc h → g.2.2 (qz_P h (ls h) i) = h.2.2 (qz_P h (ls h) i) ∧ g.2.2 (qz_P h (ls h) i + 1) = h.2.2 (qz_P h (ls h) i + 1) ∧ g.2.2 (qz_P h (ls h) i + 2) = h.2.2 (qz_P h (ls h) i + 2)) (hp : (pn h ≤ pn g ∧ pn g ≤ qz_N g (po g)) ∧ pn g ≤ 75 * lc h + b') (hpl : ∀ j, 0 ≤ j → j < pn h → pl g j = pl h j) (hz : ∀ q, τ q = 26 ∨ τ q = 27 ∨ τ q = 28 → g.2.2 q = h.2.2 q) (hm : mL τ1 g) : mI τ1 g Ls b' := by
  obtain ⟨i1, i2, ⟨⟨n1, n2⟩, n3, n4⟩, ⟨c1, c2⟩, m, ⟨z1, z2⟩, v1, v2⟩ := hI
  have e11 : ls g = ls h := by unfold ls qz_P; rw [h7 11 (by omega)]
  have e12 : lc g = lc h := h7 12 (by omega)
  have e8 := h7 8 (by omega)
  have il : ∀ j, qz_I g (ls h) j = qz_I h (ls h) j := fun j => by unfold qz_I; rw [hl]
  have iP : ∀ j, qz_P g (ls h) j = qz_P h (ls h) j := fun j => by unfold qz_P; rw [il]
  have iN : qz_N g (ls h) = qz_N h (ls h) := by unfold qz_N; rw [hl]
  have t770 := i2 770 (by decide)
  refine ⟨hB, fun r hr => (ht r (by rw [i2 r hr]; exact hr)).trans (i2 r hr), ⟨⟨by rw [e12, e11, iN]; exact n1, hp.1.2⟩, by rw [e8, e12]; exact n3, by rw [e12]; exact hp.2⟩, ⟨fun i hi => ?_, fun i j hi hj => ?_⟩, hm, ⟨fun s l hs => ?_, ?_⟩, ?_, fun k x hx => ?_⟩
  · rw [e11, il]; rw [e12] at hi; exact c1 i hi
  · rw [e11, il, il]; rw [e12] at hi hj; exact c2 i j hi hj
  · obtain ⟨y1, y2, y3⟩ := z1 s l hs
    obtain ⟨w1, w2⟩ := nz_hz i1 i2 s l hs
    have e1 := hz s (by omega)
    have e2 := hz _ (show _ ∨ _ ∨ τ (qz_P h s 0) = 28 from Or.inr (Or.inr w2))
    have e3 : qz_P g s 0 = qz_P h s 0 := by unfold qz_P qz_I; rw [e1]
    refine ⟨?_, y2, by rw [e3]; exact y3⟩
    unfold nz_S at *
    rw [e3]
    unfold qz_N qz_I at *
    rw [e2]
    exact y1
  · have T := ez_tnm i1 t770
    have tt : ∀ p, 785 ≤ p → p ≤ 788 → τ p = 26 := fun p p1 p2 => by
      have : p = 785 ∨ p = 786 ∨ p = 787 ∨ p = 788 := by omega
      rcases this with e | e | e | e <;> subst e
      · exact i2 785 (by decide)
      · exact i2 786 (by decide)
      · exact i2 787 (by decide)
      · exact i2 788 (by decide)
    refine ⟨fun p p1 p2 k hk => ?_, ?_, nmx_c z2.2.2 (fun p p1 p2 => hz p (Or.inl (tt p p1 p2)))⟩
    · have e := hz p (Or.inl (tt p p1 p2))
      have e1 : qz_P g p k = qz_P h p k := by unfold qz_P qz_I; rw [e]
      have e2 : qz_N g p = qz_N h p := by unfold qz_N; rw [e]
      rw [e1]; rw [e2] at hk; exact z2.1 p p1 p2 k hk
    · have e := hz 786 (Or.inl (tt 786 (by decide) (by decide)))
      have e1 : qz_P g 786 0 = qz_P h 786 0 := by unfold qz_P qz_I; rw [e]
      rw [e1]; exact z2.2.1
  · rw [e12]; exact v1
  · have hk : k < Ls.length := (List.getElem?_eq_some_iff.mp hx).1
    rw [e11, iP]
    obtain ⟨a, b, c⟩ := hc k (by omega)
    exact ⟨vc_tr (v2 k x hx).1 a b c hp.1.1 hpl, vx_tr (v2 k x hx).2 a b c hp.1.1 hpl⟩
/-! The model: what the parts of line do to its invariant. -/
/-- a new Line, the fields cut, the tape taken -/
def aq (τ : Nat → Nat) (h : cz_H) (τ1 : Nat → Nat) (g : cz_H) (l : Nat) (kd : Int) : Prop :=
  (τ l = 0 ∧ τ (l + 1) = 0 ∧ τ (l + 2) = 0) ∧ (τ1 l = 13 ∧ τ1 (l + 1) = 15 ∧ τ1 (l + 2) = 16) ∧ (qz_I g l 0 = kd ∧ qz_I g l 4 = 0 ∧ qz_I g l 5 = 0) ∧ (∀ j, qz_I g (l + 1) j = 0) ∧ (∀ j, qz_I g (l + 2) j = 0) ∧
  (∀ q, τ q ≠ 0 → τ1 q = τ q ∧ (q ≠ 770 → q ≠ 789 → q ≠ 790 → g.2.2 q = h.2.2 q)) ∧ (∀ q, τ q = 0 → τ1 q ≠ 0 → q = l ∨ q = l + 1 ∨ q = l + 2) ∧ (∀ j, j ≠ 0 → j ≠ 2 → qz_I g 770 j = qz_I h 770 j) ∧ qz_I g 770 2 = 0 ∧
  (h.1 ≤ g.1 ∧ g.1 ≤ h.1 + 3) ∧ h.2.1 ≤ g.2.1 ∧ g.2.1 ≤ h.2.1 + 19 ∧ qz_I g l 12 = 0 ∧ qz_I g 770 0 = 0
theorem aq.c {τ τ1 : Nat → Nat} {h g : cz_H} {l : Nat} {kd : Int} (a : aq τ h τ1 g l kd) (hX : jz_X τ) {q t : Nat} (hq : τ q = t) (ht : (Nat.beq t 0 || (Nat.beq t 75 || (Nat.beq t 80 || Nat.beq t 81))) = false) : g.2.2 q = h.2.2 q := by
  refine (a.2.2.2.2.2.1 q (fun e => by rw [hq] at e; rw [e] at ht; cases ht)).2 (fun e => ?_) (fun e => ?_) (fun e => ?_)
  · rw [e, hX 770 (by decide)] at hq; rw [← hq] at ht; cases ht
  · rw [e, hX 789 (by decide)] at hq; rw [← hq] at ht; cases ht
  · rw [e, hX 790 (by decide)] at hq; rw [← hq] at ht; cases ht
theorem aq.mI {τ τ1 : Nat → Nat} {h g : cz_H} {l : Nat} {kd b : Int} {Ls : List vz} (a : aq τ h τ1 g l kd) (hI : mI τ h Ls b) (hB : ez_B τ1 g) : mI τ1 g Ls b := by
  have hX := hI.2.1
  have tt := ez_tls hI.1 (hX 770 (by decide))
  have c : ∀ {q t : Nat}, τ q = t → (Nat.beq t 0 || (Nat.beq t 75 || (Nat.beq t 80 || Nat.beq t 81))) = false → g.2.2 q = h.2.2 q := fun hq ht => a.c hX hq ht
  obtain ⟨a1, a2, a3, a4, a5, a6, a7, a8, a9, a10⟩ := a
  have ep : po g = po h := by unfold po qz_P; rw [a8 9 (by decide) (by decide)]
  have en : pn g = pn h := a8 10 (by decide) (by decide)
  have eN : qz_N g (po h) = qz_N h (po h) := by unfold qz_N; rw [c tt.2 rfl]
  have n0 := qz_N_nn g (po h)
  refine hI.tr hB (fun q hq => (a6 q hq).1) (fun j hj => a8 j (by omega) (by omega)) (c tt.1 rfl) (fun i hi => ?_) ⟨⟨by omega, by rw [en, ep, eN]; exact hI.2.2.1.1.2⟩, by rw [en]; exact hI.2.2.1.2.2⟩ (fun j _ _ => by unfold pl qz_I; rw [ep, c tt.2 rfl]) (fun q hq => ?_) ?_
  · obtain ⟨l1, l2, l3⟩ := hI.L hi
    exact ⟨c l1 rfl, c l2 rfl, c l3 rfl⟩
  · rcases hq with e | e | e <;> exact c e rfl
  · have m := hI.2.2.2.2.1
    refine ⟨fun r hr => ?_, fun r hr => ?_⟩
    · by_cases e0 : τ r = 0
      · have : r = l + 1 := by
          rcases a7 r e0 (by rw [hr]; decide) with e | e | e
          · rw [e, a2.1] at hr; cases hr
          · exact e
          · rw [e, a2.2.2] at hr; cases hr
        subst this
        refine ⟨a2.2.2, fun j => ?_⟩
        rw [a4 j, a5 j, ep]; omega
      · have hr' : τ r = 15 := (a6 r e0).1.symm.trans hr
        obtain ⟨m1, m2⟩ := m.1 r hr'
        refine ⟨((a6 (r + 1) (by rw [m1]; decide)).1).trans m1, fun j => ?_⟩
        have := m2 j
        rw [ep, eN]; unfold qz_I at this ⊢; rw [c hr' rfl, c m1 rfl]; exact this
    · by_cases e0 : τ r = 0
      · have : r = l := by
          rcases a7 r e0 (by rw [hr]; decide) with e | e | e
          · exact e
          · rw [e, a2.2.1] at hr; cases hr
          · rw [e, a2.2.2] at hr; cases hr
        subst this
        refine ⟨a2.2.1, a2.2.2, fun _ => ?_⟩
        rw [a4, a5, ep]; omega
      · have hr' : τ r = 13 := (a6 r e0).1.symm.trans hr
        obtain ⟨m1, m2, m3⟩ := m.2 r hr'
        refine ⟨((a6 (r + 1) (by rw [m1]; decide)).1).trans m1, ((a6 (r + 2) (by rw [m2]; decide)).1).trans m2, ?_⟩
        rw [ep, eN]; unfold qz_I at m3 ⊢; rw [c hr' rfl, c m1 rfl, c m2 rfl]; exact m3
theorem lX_tag {τ : Nat → Nat} {l q t : Nat} (hl : τ l = 13 ∧ τ (l + 1) = 15 ∧ τ (l + 2) = 16) (hq : τ q = t) (ht : (Nat.beq t 13 || (Nat.beq t 15 || Nat.beq t 16)) = false) : lX l (l + 1) (l + 2) q = false := by
  unfold lX
  rw [dz_beq_ne (fun e => by rw [e, hl.1] at hq; rw [← hq] at ht; cases ht), dz_beq_ne (fun e => by rw [e, hl.2.1] at hq; rw [← hq] at ht; cases ht), dz_beq_ne (fun e => by rw [e, hl.2.2] at hq; rw [← hq] at ht; cases ht)]; rfl
/-- a cell of another line -/
theorem lX_ln {τ : Nat → Nat} {l q : Nat} (hl : τ l = 13 ∧ τ (l + 1) = 15 ∧ τ (l + 2) = 16) (hq : τ q = 13 ∧ τ (q + 1) = 15 ∧ τ (q + 2) = 16) (hne : q ≠ l) : lX l (l + 1) (l + 2) q = false ∧ lX l (l + 1) (l + 2) (q + 1) = false ∧ lX l (l + 1) (l + 2) (q + 2) = false := by
  unfold lX
  refine ⟨?_, ?_, ?_⟩
  · rw [dz_beq_ne hne, dz_beq_ne (fun e => by have := hq.1; rw [e, hl.2.1] at this; cases this), dz_beq_ne (fun e => by have := hq.1; rw [e, hl.2.2] at this; cases this)]; rfl
  · rw [dz_beq_ne (fun e => by have := hq.2.1; rw [e, hl.1] at this; cases this), dz_beq_ne (by omega), dz_beq_ne (fun e => by have := hq.2.1; rw [e, hl.2.2] at this; cases this)]; rfl
  · rw [dz_beq_ne (fun e => by have := hq.2.2; rw [e, hl.1] at this; cases this), dz_beq_ne (fun e => by have := hq.2.2; rw [e, hl.2.1] at this; cases this), dz_beq_ne (by omega)]; rfl
/-- behind a LINE that was read -/
theorem mI.lq {τ τ1 : Nat → Nat} {h g : cz_H} {Ls : List vz} {l : Nat} {A : List Int} {e : Int} (hI : mI τ h Ls 0) (hl : τ l = 13 ∧ τ (l + 1) = 15 ∧ τ (l + 2) = 16) (hn : ∀ i : Nat, (i : Int) < lc h → qz_P h (ls h) i ≠ l) (q : lq (lX l (l + 1) (l + 2)) τ h τ1 g A e) (hB : ez_B τ1 g) (hg : lg (l + 1) (l + 2) g) (h4 : qz_I g l 0 = 4 → qz_I g (l + 1) 1 + 4 * qz_I g (l + 2) 1 ≤ qz_N g (po g)) : mI τ1 g Ls (A.length : Int) ∧ ∀ k, 0 ≤ k → (∀ g2 : cz_H, ez_B τ1 g2 → (∀ q, τ1 q ≠ 0 → q ≠ 770 → g2.2.2 q = g.2.2 q) → (∀ j, j ≠ 0 → j ≠ 10 → qz_I g2 770 j = qz_I g 770 j) → pn g2 = pn h + k → k ≤ (A.length : Int) → mI τ1 g2 Ls k) := by
  have hX := hI.2.1
  have t770 := hX 770 (by decide)
  have tt := ez_tls hI.1 t770
  obtain ⟨q1, q2, q3, q4, q5, q6, q7, q8, q9, q10, q11⟩ := q
  have c : ∀ {q t : Nat}, τ q = t → (Nat.beq t 0 || (Nat.beq t 75 || (Nat.beq t 17 || (Nat.beq t 30 || (Nat.beq t 31 || (Nat.beq t 13 || (Nat.beq t 15 || Nat.beq t 16))))))) = false → g.2.2 q = h.2.2 q := fun {q t} hq ht => by
    refine (q1 q (fun e => by rw [hq] at e; rw [e] at ht; cases ht)).2 (fun e => ?_) (fun e => ?_) (lX_tag hl hq ?_) (fun e => ?_) (fun e => ?_)
    · rw [e, t770] at hq; rw [← hq] at ht; cases ht
    · rw [e, tt.2] at hq; rw [← hq] at ht; cases ht
    · simp only [Bool.or_eq_false_iff] at ht ⊢; exact ⟨ht.2.2.2.2.2.1, ht.2.2.2.2.2.2.1, ht.2.2.2.2.2.2.2⟩
    · rw [hq] at e; rw [e] at ht; cases ht
    · rw [hq] at e; rw [e] at ht; cases ht
  have cl : ∀ r, τ r = 13 ∧ τ (r + 1) = 15 ∧ τ (r + 2) = 16 → r ≠ l → g.2.2 r = h.2.2 r ∧ g.2.2 (r + 1) = h.2.2 (r + 1) ∧ g.2.2 (r + 2) = h.2.2 (r + 2) := fun r hr hne => by
    obtain ⟨x1, x2, x3⟩ := lX_ln hl hr hne
    have c' : ∀ {q t : Nat}, τ q = t → (Nat.beq t 13 || (Nat.beq t 15 || Nat.beq t 16)) = true → lX l (l + 1) (l + 2) q = false → g.2.2 q = h.2.2 q := fun {q t} hq ht hx => by
      have ht' : t = 13 ∨ t = 15 ∨ t = 16 := by simp only [Bool.or_eq_true] at ht; rcases ht with w | w | w <;> have := Nat.eq_of_beq_eq_true w <;> omega
      refine (q1 q (by omega)).2 (fun e => by rw [e, t770] at hq; rcases ht' with w | w | w <;> rw [w] at hq <;> cases hq) (fun e => by rw [e, tt.2] at hq; rcases ht' with w | w | w <;> rw [w] at hq <;> cases hq) hx (by omega) (by omega)
    exact ⟨c' hr.1 rfl x1, c' hr.2.1 rfl x2, c' hr.2.2 rfl x3⟩
  have hm := hI.2.2.2.2.1
  have n4 := hI.2.2.1.2.2
  have hL : mL τ1 g := by
    have old : ∀ r t, τ1 r = t → (t = 13 ∨ t = 15) → τ r = t := fun r t hr ht => by
      by_cases e0 : τ r = 0
      · have := q2 r e0 (by omega); omega
      · rw [← (q1 r e0).1]; exact hr
    refine ⟨fun r hr => ?_, fun r hr => ?_⟩
    · have hr' := old r _ hr (by omega)
      obtain ⟨m1, m2⟩ := hm.1 r hr'
      refine ⟨((q1 (r + 1) (by rw [m1]; decide)).1).trans m1, fun j => ?_⟩
      by_cases er : r = l + 1
      · subst er; exact hg j
      · have x1 : lX l (l + 1) (l + 2) r = false := by
          unfold lX; rw [dz_beq_ne (fun e => by rw [e, hl.1] at hr'; cases hr'), dz_beq_ne er, dz_beq_ne (fun e => by rw [e, hl.2.2] at hr'; cases hr')]; rfl
        have x2 : lX l (l + 1) (l + 2) (r + 1) = false := by
          unfold lX; rw [dz_beq_ne (fun e => by rw [e, hl.1] at m1; cases m1), dz_beq_ne (fun e => by rw [e, hl.2.1] at m1; cases m1), dz_beq_ne (by omega)]; rfl
        have y1 : g.2.2 r = h.2.2 r := (q1 r (by omega)).2 (fun e => by rw [e, t770] at hr'; cases hr') (fun e => by rw [e, tt.2] at hr'; cases hr') x1 (by omega) (by omega)
        have y2 : g.2.2 (r + 1) = h.2.2 (r + 1) := (q1 (r + 1) (by omega)).2 (fun e => by rw [e, t770] at m1; cases m1) (fun e => by rw [e, tt.2] at m1; cases m1) x2 (by omega) (by omega)
        have := m2 j
        have := q8.2
        have z1 : qz_I g r j = qz_I h r j := by unfold qz_I; rw [y1]
        have z2 : qz_I g (r + 1) j = qz_I h (r + 1) j := by unfold qz_I; rw [y2]
        rw [z1, z2]; omega
    · have hr' := old r _ hr (by omega)
      obtain ⟨m1, m2, m3⟩ := hm.2 r hr'
      refine ⟨((q1 (r + 1) (by rw [m1]; decide)).1).trans m1, ((q1 (r + 2) (by rw [m2]; decide)).1).trans m2, fun k4 => ?_⟩
      by_cases er : r = l
      · subst er; exact h4 k4
      · obtain ⟨y1, y2, y3⟩ := cl r ⟨hr', m1, m2⟩ er
        have z0 : qz_I g r 0 = qz_I h r 0 := by unfold qz_I; rw [y1]
        have z1 : qz_I g (r + 1) 1 = qz_I h (r + 1) 1 := by unfold qz_I; rw [y2]
        have z2 : qz_I g (r + 2) 1 = qz_I h (r + 2) 1 := by unfold qz_I; rw [y3]
        have := m3 (by rw [← z0]; exact k4)
        have := q8.2
        rw [z1, z2]; omega
  refine ⟨hI.tr hB (fun q hq => (q1 q hq).1) (fun j hj => q4 j (by omega) (by omega) (by omega) (by omega)) (c tt.1 rfl) (fun i hi => cl _ (hI.L hi) (hn i hi)) ⟨⟨by omega, q8.1⟩, by omega⟩ q6 (fun q hq => by rcases hq with e | e | e <;> exact c e rfl) hL, fun k k0 g2 hB2 f2 i2 p2 kA => ?_⟩
  have ep : po g2 = po g := by unfold po qz_P; rw [i2 9 (by decide) (by decide)]
  have u : ∀ {q t : Nat}, τ q = t → t ≠ 0 → t ≠ 75 → g2.2.2 q = g.2.2 q := fun {q t} hq h0 h75 => f2 q (by rw [(q1 q (by rw [hq]; exact h0)).1, hq]; exact h0) (fun e => by rw [e, t770] at hq; exact h75 hq.symm)
  have up : g2.2.2 (po g) = g.2.2 (po g) := f2 _ (by rw [q3]; decide) (fun e => by have t7 := (q1 770 (by rw [t770]; decide)).1; rw [e, t7, t770] at q3; cases q3)
  have eN : qz_N g2 (po g) = qz_N g (po g) := by unfold qz_N; rw [up]
  refine hI.tr hB2 (fun q hq => (q1 q hq).1) (fun j hj => (i2 j (by omega) (by omega)).trans (q4 j (by omega) (by omega) (by omega) (by omega))) ((u tt.1 (by decide) (by decide)).trans (c tt.1 rfl)) (fun i hi => ?_) ⟨⟨by omega, by rw [ep, eN]; have := q8.1; omega⟩, by omega⟩ (fun j j0 j1 => ?_) (fun q hq => ?_) ?_
  · obtain ⟨t1, t2, t3⟩ := hI.L hi
    obtain ⟨y1, y2, y3⟩ := cl _ ⟨t1, t2, t3⟩ (hn i hi)
    exact ⟨(u t1 (by decide) (by decide)).trans y1, (u t2 (by decide) (by decide)).trans y2, (u t3 (by decide) (by decide)).trans y3⟩
  · rw [← q6 j j0 j1]; unfold pl qz_I; rw [ep, up]
  · rcases hq with e | e | e <;> exact (u e (by decide) (by decide)).trans (c e rfl)
  · have v : ∀ {q t : Nat}, τ1 q = t → t ≠ 0 → t ≠ 75 → g2.2.2 q = g.2.2 q := fun {q t} hq h0 h75 => f2 q (by rw [hq]; exact h0) (fun e => by have t7 := (q1 770 (by rw [t770]; decide)).1; rw [e, t7, t770] at hq; exact h75 hq.symm)
    refine ⟨fun r hr => ?_, fun r hr => ?_⟩
    · obtain ⟨m1, m2⟩ := hL.1 r hr
      refine ⟨m1, fun j => ?_⟩
      have := m2 j
      rw [ep, eN]; unfold qz_I at this ⊢; rw [v hr (by decide) (by decide), v m1 (by decide) (by decide)]; exact this
    · obtain ⟨m1, m2, m3⟩ := hL.2 r hr
      refine ⟨m1, m2, ?_⟩
      rw [ep, eN]; unfold qz_I at m3 ⊢; rw [v hr (by decide) (by decide), v m1 (by decide) (by decide), v m2 (by decide) (by decide)]; exact m3
/-- behind a LINE that was taken -/
theorem mI.lu {τ τ1 : Nat → Nat} {h g : cz_H} {Ls : List vz} {l : Nat} {b : Int} {x : vz} (hI : mI τ h Ls b) (hb : b ≤ 75) (hl : τ l = 13 ∧ τ (l + 1) = 15 ∧ τ (l + 2) = 16) (hn : ∀ i : Nat, (i : Int) < lc h → qz_P h (ls h) i ≠ l) (u : lu τ h τ1 g l) (hB : ez_B τ1 g) (hx : vc h l x ∧ vx h l x.2.2.2.2.2.2) : mI τ1 g (Ls ++ [x]) 0 := by
  have hX := hI.2.1
  have t770 := hX 770 (by decide)
  have tt := ez_tls hI.1 t770
  have hL := fun {i : Nat} (hi : (i : Int) < lc h) => hI.L hi
  obtain ⟨i1, i2, ⟨⟨n1, n2⟩, n3, n4⟩, ⟨c1, c2⟩, m, ⟨z1, z2⟩, v1, v2⟩ := id hI
  obtain ⟨u1, u2, u3, u4, u5, u6, u7, u8, u9, u10, u11⟩ := u
  have c : ∀ {q t : Nat}, τ q = t → (Nat.beq t 0 || (Nat.beq t 75 || Nat.beq t 18)) = false → g.2.2 q = h.2.2 q := fun {q t} hq ht => by
    refine (u1 q (fun e => by rw [hq] at e; rw [e] at ht; cases ht)).2 (fun e => ?_) (fun e => ?_)
    · rw [e, t770] at hq; rw [← hq] at ht; cases ht
    · rw [e, tt.1] at hq; rw [← hq] at ht; cases ht
  have ep : po g = po h := by unfold po qz_P; rw [u4 9 (by decide) (by decide) (by decide)]
  have en : pn g = pn h := u4 10 (by decide) (by decide) (by decide)
  have eN : qz_N g (po h) = qz_N h (po h) := by unfold qz_N; rw [c tt.2 rfl]
  have hlc0 : 0 ≤ lc h := by rw [← v1]; omega
  have epl : ∀ j, pl g j = pl h j := fun j => by unfold pl qz_I; rw [ep, c tt.2 rfl]
  have vtr : ∀ {r : Nat} {y : vz}, vc h r y ∧ vx h r y.2.2.2.2.2.2 → τ r = 13 ∧ τ (r + 1) = 15 ∧ τ (r + 2) = 16 → vc g r y ∧ vx g r y.2.2.2.2.2.2 := fun {r y} hv ht => ⟨vc_tr hv.1 (c ht.1 rfl) (c ht.2.1 rfl) (c ht.2.2 rfl) (by omega) (fun j _ _ => epl j), vx_tr hv.2 (c ht.1 rfl) (c ht.2.1 rfl) (c ht.2.2 rfl) (by omega) (fun j _ _ => epl j)⟩
  have iP : ∀ k : Nat, (k : Int) < lc h → qz_P g (ls g) k = qz_P h (ls h) k := fun k hk => by unfold qz_P; rw [u7 k hk]
  have iL : qz_P g (ls g) (lc h).toNat = l := by unfold qz_P; rw [u8]; omega
  refine ⟨hB, fun r hr => (u1 r (by rw [i2 r hr]; exact hr)).1.trans (i2 r hr), ⟨⟨u9.1, by rw [en, ep, eN]; exact n2⟩, by rw [u6, u5, n3], by omega⟩, ⟨fun i hi => ?_, fun i j hi hj e => ?_⟩, ?_, ⟨fun s w hs => ?_, ?_⟩, ?_, fun k y hy => ?_⟩
  · by_cases e : (i : Int) < lc h
    · rw [u7 i e]; exact c1 i e
    · have : i = (lc h).toNat := by omega
      rw [this, u8]; omega
  · by_cases ei : (i : Int) < lc h
    · by_cases ej : (j : Int) < lc h
      · rw [u7 i ei, u7 j ej] at e; exact c2 i j ei ej e
      · exfalso
        have : j = (lc h).toNat := by omega
        rw [this, u8, u7 i ei] at e
        exact hn i ei (by unfold qz_P; rw [e]; omega)
    · have e1 : i = (lc h).toNat := by omega
      by_cases ej : (j : Int) < lc h
      · exfalso
        rw [e1, u8, u7 j ej] at e
        exact hn j ej (by unfold qz_P; rw [← e]; omega)
      · omega
  · have old : ∀ r t, τ1 r = t → (t = 13 ∨ t = 15) → τ r = t := fun r t hr ht => by
      by_cases e0 : τ r = 0
      · have := u2 r e0 (by omega); omega
      · rw [← (u1 r e0).1]; exact hr
    refine ⟨fun r hr => ?_, fun r hr => ?_⟩
    · have hr' := old r _ hr (by omega)
      obtain ⟨m1, m2⟩ := m.1 r hr'
      refine ⟨((u1 (r + 1) (by rw [m1]; decide)).1).trans m1, fun j => ?_⟩
      have := m2 j
      rw [ep, eN]; unfold qz_I at this ⊢; rw [c hr' rfl, c m1 rfl]; exact this
    · have hr' := old r _ hr (by omega)
      obtain ⟨m1, m2, m3⟩ := m.2 r hr'
      refine ⟨((u1 (r + 1) (by rw [m1]; decide)).1).trans m1, ((u1 (r + 2) (by rw [m2]; decide)).1).trans m2, ?_⟩
      rw [ep, eN]; unfold qz_I at m3 ⊢; rw [c hr' rfl, c m1 rfl, c m2 rfl]; exact m3
  · obtain ⟨y1, y2, y3⟩ := z1 s w hs
    obtain ⟨w1, w2⟩ := nz_hz i1 i2 s w hs
    have e1 := c w1 rfl
    have e2 := c w2 rfl
    have e3 : qz_P g s 0 = qz_P h s 0 := by unfold qz_P qz_I; rw [e1]
    refine ⟨?_, y2, by rw [e3]; exact y3⟩
    unfold nz_S at *
    rw [e3]
    unfold qz_N qz_I at *
    rw [e2]
    exact y1
  · have tn : ∀ p, 785 ≤ p → p ≤ 788 → τ p = 26 := fun p p1 p2 => by
      have : p = 785 ∨ p = 786 ∨ p = 787 ∨ p = 788 := by omega
      rcases this with e | e | e | e <;> subst e
      · exact i2 785 (by decide)
      · exact i2 786 (by decide)
      · exact i2 787 (by decide)
      · exact i2 788 (by decide)
    refine ⟨fun p p1 p2 k hk => ?_, ?_, nmx_c z2.2.2 (fun p p1 p2 => c (tn p p1 p2) rfl)⟩
    · have e := c (tn p p1 p2) rfl
      have e1 : qz_P g p k = qz_P h p k := by unfold qz_P qz_I; rw [e]
      have e2 : qz_N g p = qz_N h p := by unfold qz_N; rw [e]
      rw [e1]; rw [e2] at hk; exact z2.1 p p1 p2 k hk
    · have e := c (tn 786 (by decide) (by decide)) rfl
      have e1 : qz_P g 786 0 = qz_P h 786 0 := by unfold qz_P qz_I; rw [e]
      rw [e1]; exact z2.2.1
  · rw [List.length_append, u5, ← v1]; rfl
  · by_cases e : k < Ls.length
    · rw [List.getElem?_append_left e] at hy
      have hk : (k : Int) < lc h := by omega
      rw [iP k hk]
      exact vtr (v2 k y hy) (hL hk)
    · rw [List.getElem?_append_right (by omega)] at hy
      have hk : k = (lc h).toNat := by
        have := (List.getElem?_eq_some_iff.mp hy).1
        simp at this
        omega
      have : k - Ls.length = 0 := by omega
      rw [this] at hy
      cases hy
      rw [hk, iL]
      exact vtr hx hl
/-! The model: line, its start. (Written by wip/p2/py/pv83.py.) -/
section EzMa
variable {d : Nat} {h : cz_H} {τ : Nat → Nat} {Q : cz_F → Prop} {Ls : List vz}
theorem ez_hi {τ : Nat → Nat} {h : cz_H} (hB : ez_B τ h) {q : Nat} (hq : h.1 ≤ q) : τ q = 0 := Classical.byContradiction fun e => by have := dz_here_lt (hB.1 q e).1; omega
/-- the model's own fields that are none of its invariant's -/
theorem mI.f7 {τ : Nat → Nat} {h g : cz_H} {Ls : List vz} {b : Int} (hI : mI τ h Ls b) (hB : ez_B τ g) (f : ∀ q, τ q ≠ 0 → q ≠ 770 → g.2.2 q = h.2.2 q) (i : ∀ j, 8 ≤ j → j ≤ 12 → qz_I g 770 j = qz_I h 770 j) : mI τ g Ls b := by
  have hX := hI.2.1
  have t770 := hX 770 (by decide)
  have tt := ez_tls hI.1 t770
  have c : ∀ {q t : Nat}, τ q = t → t ≠ 0 → t ≠ 75 → g.2.2 q = h.2.2 q := fun {q t} hq h0 h75 => f q (by rw [hq]; exact h0) (fun e => by rw [e, t770] at hq; exact h75 hq.symm)
  have ep : po g = po h := by unfold po qz_P; rw [i 9 (by decide) (by decide)]
  have en : pn g = pn h := i 10 (by decide) (by decide)
  have eN : qz_N g (po h) = qz_N h (po h) := by unfold qz_N; rw [c tt.2 (by decide) (by decide)]
  have m := hI.2.2.2.2.1
  refine hI.tr hB (fun q _ => rfl) (fun j hj => i j (by omega) (by omega)) (c tt.1 (by decide) (by decide)) (fun k hk => ?_) ⟨⟨by omega, by rw [en, ep, eN]; exact hI.2.2.1.1.2⟩, by rw [en]; exact hI.2.2.1.2.2⟩ (fun j _ _ => by unfold pl qz_I; rw [ep, c tt.2 (by decide) (by decide)]) (fun q hq => by rcases hq with e | e | e <;> exact c e (by decide) (by decide)) ⟨fun r hr => ?_, fun r hr => ?_⟩
  · obtain ⟨l1, l2, l3⟩ := hI.L hk
    exact ⟨c l1 (by decide) (by decide), c l2 (by decide) (by decide), c l3 (by decide) (by decide)⟩
  · obtain ⟨m1, m2⟩ := m.1 r hr
    refine ⟨m1, fun j => ?_⟩
    have := m2 j
    rw [ep, eN]; unfold qz_I at this ⊢; rw [c hr (by decide) (by decide), c m1 (by decide) (by decide)]; exact this
  · obtain ⟨m1, m2, m3⟩ := m.2 r hr
    refine ⟨m1, m2, ?_⟩
    rw [ep, eN]; unfold qz_I at m3 ⊢; rw [c hr (by decide) (by decide), c m1 (by decide) (by decide), c m2 (by decide) (by decide)]; exact m3
theorem rd_mfail {c : Int} (hB : ez_B τ h) (t770 : τ 770 = 75) (c0 : 0 ≤ c) (c3 : c ≤ 3) (k : ∀ g, ez_B τ g → ez_fr (ez_one 770) h g → (∀ j, j ≠ 0 → qz_I g 770 j = qz_I h 770 j) → qz_I g 770 0 = c → Q (.inl (some (ez_v (.inl 0))), g)) : ez_W d cm_252 0 [(0, .inr (.inr (some (770)))), (1, .inl (c))] [] h Q := by
  refine ez_go (n := 2) (pc' := 2) (L' := [(0, .inr (.inr (some (770)))), (1, .inl (c))]) (st' := [.inl (c), .inr (.inr (some (770)))]) rfl ?_
  refine ez_pf hB t770 rfl rfl tq_75 rfl rfl rfl rfl (ez_vdI rfl rfl (by omega) (by omega)) (fun hB1 w2 => ?_)
  refine ez_go (n := 1) (pc' := 6) (L' := [(0, .inr (.inr (some (770)))), (1, .inl (c))]) (st' := [.inl (0)]) rfl ?_
  exact ez_retI rfl rfl (k _ hB1 ((ez_fr.refl (ez_one 770) h).put rfl _ _) (fun j hj => ez_put_I (fun w => hj w.2)) (w2.trans (rz_rd ⟨by omega, by omega⟩)))

theorem rd_mlA0 (hI : mI τ h Ls 0) (hr1 : h.1 + 10 ≤ 600192) (hr2 : h.2.1 + 40 ≤ 7302232) (kS : qz_I h 770 7 ≠ 0 → ∀ g, mI τ g Ls 0 → ez_fr (ez_one 770) h g → (∀ j, j ≠ 0 → qz_I g 770 j = qz_I h 770 j) → qz_I g 770 0 = 2 → Q (.inl (some (ez_v (.inl 0))), g)) (kx : qz_I h 770 7 = 0 → ∀ l g τ1 A, aq τ h τ1 g l 0 → mI τ1 g Ls 0 → rz_A (mb h) (qz_I h 770 2) (7 : Int).toNat A → (∀ k, 0 ≤ k → k < 7 → mf g k = rz_ff (mb h) A k ∧ mt g k = rz_tt (mb h) A k) → ez_W (d + 8) cm_276 96 [(3, .inr (.inr (some (l)))), (2, .inl (pn h)), (0, .inr (.inr (some (770)))), (1, .inl (0))] [] g Q) (kT : qz_I h 770 7 = 0 → ∀ l g τ1, aq τ h τ1 g l 0 → mI τ1 g Ls 0 → (¬ ∃ A, rz_A (mb h) (qz_I h 770 2) (7 : Int).toNat A) → ez_W (d + 8) cm_276 155 [(3, .inr (.inr (some (l)))), (2, .inl (pn h)), (0, .inr (.inr (some (770)))), (1, .inl (0))] [.inr (.inr (some g.1))] (xc g 1) Q) : ez_W (d + 8) cm_276 0 [(0, .inr (.inr (some (770)))), (1, .inl (0))] [] h Q := by
  have hB := hI.1
  have t770 : τ 770 = 75 := hI.2.1 770 (by decide)
  have b2 : 0 ≤ qz_I h 770 2 ∧ qz_I h 770 2 ≤ 4096 := ez_fB (cl := 11) (k := 2) hB t770 tq_75 rfl rfl (by decide)
  refine ez_go (n := 2) (pc' := 2) (L' := [(0, .inr (.inr (some (770)))), (1, .inl (0))]) (st' := [.inl (0), .inr (.inr (some (770)))]) rfl ?_
  refine ez_pf hB t770 rfl rfl tq_75 rfl rfl rfl rfl (ez_vdI rfl rfl (by omega) (by omega)) (fun hB1 w2 => ?_)
  have fP : ez_fr (ez_one 770) h (dz_put h 770 0 (ez_v (.inl (0)))) := (ez_fr.refl (ez_one 770) h).put rfl _ _
  have vP : qz_I (dz_put h 770 0 (ez_v (.inl (0)))) 770 0 = 0 := w2.trans (rz_rd ⟨by omega, by omega⟩)
  have iP : ∀ j, j ≠ 0 → qz_I (dz_put h 770 0 (ez_v (.inl (0)))) 770 j = qz_I h 770 j := fun j hj => ez_put_I (fun w => hj w.2)
  have hP := hB1
  generalize (dz_put h 770 0 (ez_v (.inl (0)))) = h1 at *
  have cP1 := fP.1; have cP2 := fP.2.1
  refine ez_go (n := 1) (pc' := 6) (L' := [(0, .inr (.inr (some (770)))), (1, .inl (0))]) (st' := [.inl (0)]) rfl ?_
  refine ez_if rfl rfl ⟨by decide, by decide⟩ (fun (c3 : (0 : Int) < (0)) => absurd c3 (by decide)) (fun _ => ?_)
  refine ez_go (n := 2) (pc' := 11) (L' := [(0, .inr (.inr (some (770)))), (1, .inl (0))]) (st' := [.inl (4), .inl (0)]) rfl ?_
  refine ez_icmp rfl rfl ⟨by decide, by decide⟩ ⟨by decide, by decide⟩ (fun _ => ?_) (fun (c4 : ¬((0 : Int) ≤ (4))) => absurd c4 (by decide))
  refine ez_go (n := 1) (pc' := 21) (L' := [(0, .inr (.inr (some (770)))), (1, .inl (0))]) (st' := [.inr (.inr (some (770)))]) rfl ?_
  refine ez_gI hP t770 rfl rfl tq_75 rfl rfl (fun (b5 : 0 ≤ qz_I h1 770 7) (b5' : qz_I h1 770 7 ≤ 1) => ?_)
  refine ez_if rfl rfl ⟨by first | omega | exact (sz_i32 _).1, by first | omega | exact (sz_i32 _).2⟩ (fun (c6 : (qz_I h1 770 7) = (0)) => ?_) (fun (c6 : ¬((qz_I h1 770 7) = (0))) => ?_)
  · skip
    have hs : qz_I h 770 7 = 0 := by rw [← iP 7 (by decide)]; assumption
    refine ez_go (n := 1) (pc' := 34) (L' := [(0, .inr (.inr (some (770)))), (1, .inl (0))]) (st' := [.inr (.inr (some (770)))]) rfl ?_
    refine ez_gI hP t770 rfl rfl tq_75 rfl rfl (fun (b7 : 0 ≤ qz_I h1 770 10) (b7' : qz_I h1 770 10 ≤ 38500) => ?_)
    rw [show qz_I h1 770 10 = pn h from iP 10 (by decide)]
    refine ez_go (n := 1) (pc' := 38) (L' := [(2, .inl (pn h)), (0, .inr (.inr (some (770)))), (1, .inl (0))]) (st' := []) rfl ?_
    refine ez_nw' (t := 14) hP rfl rfl rfl tq_14 rfl rfl (by omega) (by show h1.2.1 + 13 ≤ 7302232; omega) (fun g8 τ8 p8 hB8 x8 o8 t8 z8 e8 y8 => ?_)
    have x8 : ez_xt τ h1 τ8 g8 1 13 := x8
    have c8 := x8.2
    have t770n8 := (x8.1 _ (by rw [t770]; decide)).1.trans t770
    refine ez_go (n := 1) (pc' := 42) (L' := [(2, .inl (pn h)), (0, .inr (.inr (some (770)))), (1, .inl (0))]) (st' := [.inr (.inr (some (p8))), .inr (.inr (some (p8)))]) rfl ?_
    have lp := dz_here_lt (hB8.1 p8 (by rw [t8]; decide)).1
    refine ez_ci hB8.2.1 rfl rfl rfl rfl rfl rfl (rd_lineI (r := p8) hB8 t8 (by omega) (by omega) (by omega) (fun g2 τ2 hB2 x2 o2 u15 u16 g21 g22 g23 v7 v8 I0 z1 z2 => ez_K0 ?_))
    have hB3 := ez_rtLine hB2 ((x2 p8 (by rw [t8]; decide)).1.trans t8) v7 v8
    have n1 : dz_tn τ2 p8 13 p8 = 13 := ez_tn_eq
    have n2 : ∀ q, q ≠ p8 → dz_tn τ2 p8 13 q = τ2 q := fun q hq => ez_tn_ne hq
    generalize dz_tn τ2 p8 13 = τ3 at *
    have np7 : p8 ≠ 770 := fun e => by rw [e, t770] at z8; cases z8
    have np9 : p8 ≠ 789 := fun e => by rw [e, hI.2.1 789 (by decide)] at z8; cases z8
    have np0 : p8 ≠ 790 := fun e => by rw [e, hI.2.1 790 (by decide)] at z8; cases z8
    have w770 : τ3 770 = 75 := by rw [n2 770 (Ne.symm np7), (x2 770 (by rw [(x8.1 770 (by rw [t770]; decide)).1, t770]; decide)).1, (x8.1 770 (by rw [t770]; decide)).1, t770]
    refine ez_go (n := 3) (pc' := 48) (L' := [(3, .inr (.inr (some (p8)))), (2, .inl (pn h)), (0, .inr (.inr (some (770)))), (1, .inl (0))]) (st' := [.inl (0), .inr (.inr (some (p8)))]) rfl ?_
    refine ez_pf hB3 n1 rfl rfl tq_13 rfl rfl rfl rfl (ez_vdI rfl rfl (by omega) (by omega)) (fun hB9 w10 => ?_)
    have fK : ez_fr (ez_one p8) g2 (dz_put g2 p8 0 (ez_v (.inl (0)))) := (ez_fr.refl (ez_one p8) g2).put (show Nat.beq _ _ = true from Nat.beq_refl _) _ _
    have vK : qz_I (dz_put g2 p8 0 (ez_v (.inl (0)))) p8 0 = 0 := w10.trans (rz_rd ⟨by omega, by omega⟩)
    have iK : ∀ j, j ≠ 0 → qz_I (dz_put g2 p8 0 (ez_v (.inl (0)))) p8 j = qz_I g2 p8 j := fun j hj => ez_put_I (fun w => hj w.2)
    have hK := hB9
    generalize (dz_put g2 p8 0 (ez_v (.inl (0)))) = g3 at *
    have cK1 := fK.1; have cK2 := fK.2.1
    have j7 : ∀ j, qz_I g3 770 j = qz_I h1 770 j := fun j => by unfold qz_I; rw [fK.2.2 770 (dz_beq_ne (Ne.symm np7)), (x2 770 (by rw [(x8.1 770 (by rw [t770]; decide)).1, t770]; decide)).2 (Ne.symm np7), (x8.1 770 (by rw [t770]; decide)).2]
    refine ez_go (n := 1) (pc' := 52) (L' := [(3, .inr (.inr (some (p8)))), (2, .inl (pn h)), (0, .inr (.inr (some (770)))), (1, .inl (0))]) (st' := [.inr (.inr (some (770)))]) rfl ?_
    refine ez_gI hK w770 rfl rfl tq_75 rfl rfl (fun (b11 : 0 ≤ qz_I g3 770 2) (b11' : qz_I g3 770 2 ≤ 4096) => ?_)
    rw [show qz_I g3 770 2 = qz_I h 770 2 from (j7 2).trans (iP 2 (by decide))]
    refine ez_go (n := 3) (pc' := 59) (L' := [(4, .inl (qz_I h 770 2)), (3, .inr (.inr (some (p8)))), (2, .inl (pn h)), (0, .inr (.inr (some (770)))), (1, .inl (0))]) (st' := [.inl (0), .inr (.inr (some (770)))]) rfl ?_
    refine ez_pf hK w770 rfl rfl tq_75 rfl rfl rfl rfl (ez_vdI rfl rfl (by omega) (by omega)) (fun hB12 w13 => ?_)
    have fT : ez_fr (ez_one 770) g3 (dz_put g3 770 2 (ez_v (.inl (0)))) := (ez_fr.refl (ez_one 770) g3).put rfl _ _
    have vT : qz_I (dz_put g3 770 2 (ez_v (.inl (0)))) 770 2 = 0 := w13.trans (rz_rd ⟨by omega, by omega⟩)
    have iT : ∀ j, j ≠ 2 → qz_I (dz_put g3 770 2 (ez_v (.inl (0)))) 770 j = qz_I g3 770 j := fun j hj => ez_put_I (fun w => hj w.2)
    have hT := hB12
    generalize (dz_put g3 770 2 (ez_v (.inl (0)))) = g4 at *
    have cT1 := fT.1; have cT2 := fT.2.1
    refine ez_go (n := 2) (pc' := 64) (L' := [(4, .inl (qz_I h 770 2)), (3, .inr (.inr (some (p8)))), (2, .inl (pn h)), (0, .inr (.inr (some (770)))), (1, .inl (0))]) (st' := [.inl (0), .inr (.inr (some (770)))]) rfl ?_
    refine ez_if rfl rfl ⟨by decide, by decide⟩ (fun (c14 : (0 : Int) ≠ (0)) => absurd c14 (by decide)) (fun _ => ?_)
    refine ez_go (n := 3) (pc' := 93) (L' := [(4, .inl (qz_I h 770 2)), (3, .inr (.inr (some (p8)))), (2, .inl (pn h)), (0, .inr (.inr (some (770)))), (1, .inl (0))]) (st' := [.inl (qz_I h 770 2), .inl (7), .inr (.inr (some (770)))]) rfl ?_
    refine ez_cv hT w770 rfl rfl rfl tq_75 rfl rfl rfl (rd_fields hT w770 (by omega) (by omega) (by omega) (by omega) (by omega) (by omega) (fun hno g6 hB6 f6 => ez_Kc (xc_exc hB6 rfl) rfl ?_) (fun g6 A hB6 f6 hA hfl => ez_K0 ?_))
    · skip
      have A0 : ∀ q, τ q ≠ 0 → τ3 q = τ q ∧ (q ≠ 770 → q ≠ 789 → q ≠ 790 → g6.2.2 q = h.2.2 q) := fun q hq => by
        have qp : q ≠ p8 := fun e => by rw [e] at hq; exact hq z8
        have y1 := x8.1 q hq
        have y2 := x2 q (by rw [y1.1]; exact hq)
        refine ⟨by rw [n2 q qp, y2.1, y1.1], fun q1 q2 q3 => ?_⟩
        rw [f6.2.2 q (by unfold nz_PF; rw [dz_beq_ne q2, dz_beq_ne q3]; rfl), fT.2.2 q (dz_beq_ne q1), fK.2.2 q (dz_beq_ne qp), y2.2 qp, y1.2, fP.2.2 q (dz_beq_ne q1)]
      have P0 : ∀ q, q ≠ 770 → q ≠ 789 → q ≠ 790 → q ≠ p8 → g6.2.2 q = g2.2.2 q := fun q q1 q2 q3 q4 => by
        rw [f6.2.2 q (by unfold nz_PF; rw [dz_beq_ne q2, dz_beq_ne q3]; rfl), fT.2.2 q (dz_beq_ne q1), fK.2.2 q (dz_beq_ne q4)]
      have Pp : ∀ j, qz_I g6 p8 j = qz_I g3 p8 j := fun j => by unfold qz_I; rw [f6.2.2 p8 (by unfold nz_PF; rw [dz_beq_ne np9, dz_beq_ne np0]; rfl), fT.2.2 p8 (dz_beq_ne np7)]
      have up : ∀ k, τ (p8 + k) = 0 := fun k => ez_hi hI.1 (by omega)
      have nt : ∀ k r, τ r ≠ 0 → p8 + k ≠ r := fun k r hr e => by have := up k; rw [e] at this; exact hr this
      have t0 : ∀ r, tz_ex r ≠ 0 → τ r ≠ 0 := fun r hr => by rw [hI.2.1 r hr]; exact hr
      have cell : ∀ k, 0 < k → g6.2.2 (p8 + k) = g2.2.2 (p8 + k) := fun k hk => P0 _ (nt k 770 (t0 770 (by decide))) (nt k 789 (t0 789 (by decide))) (nt k 790 (t0 790 (by decide))) (by omega)
      have c61 := f6.1; have c62 := f6.2.1
      have aQ : aq τ h τ3 g6 p8 0 := by
        refine ⟨⟨up 0, up 1, up 2⟩, ⟨n1, by rw [n2 _ (by omega)]; exact u15, by rw [n2 _ (by omega)]; exact u16⟩, ⟨by rw [Pp]; exact vK, by rw [Pp, iK 4 (by decide), I0 4 (by decide) (by decide) (by decide) (by decide) (by decide)]; exact y8 4, by rw [Pp, iK 5 (by decide), I0 5 (by decide) (by decide) (by decide) (by decide) (by decide)]; exact y8 5⟩, fun j => ?_, fun j => ?_, A0, fun q q0 q3 => ?_, fun j j0 j2 => ?_, ?_, by omega, by omega, by omega, by rw [Pp, iK 12 (by decide), I0 12 (by decide) (by decide) (by decide) (by decide) (by decide)]; exact y8 12, by rw [f6.I rfl, iT 0 (by decide), j7]; exact vP⟩
        · unfold qz_I; rw [cell 1 (by decide)]; exact z1 j
        · unfold qz_I; rw [cell 2 (by decide)]; exact z2 j
        · by_cases e0 : q = p8
          · exact Or.inl e0
          · by_cases e1 : q = p8 + 1
            · exact Or.inr (Or.inl e1)
            · by_cases e2 : q = p8 + 2
              · exact Or.inr (Or.inr e2)
              · rw [n2 q e0, o2 q e1 e2, o8 q e0] at q3; exact absurd q0 q3
        · rw [f6.I rfl, iT j j2, j7, iP j j0]
        · rw [f6.I rfl]; exact vT
      have eb : mb g4 = mb h := funext fun k => by
        unfold mb qz_I
        have t1 : τ 771 ≠ 0 := t0 771 (by decide)
        have qp : 771 ≠ p8 := fun e => by rw [← e] at z8; exact t1 z8
        have y1 := x8.1 771 t1
        have y2 := x2 771 (by rw [y1.1]; exact t1)
        rw [fT.2.2 771 rfl, fK.2.2 771 (dz_beq_ne qp), y2.2 qp, y1.2, fP.2.2 771 rfl]
      refine ez_less [(3, .inr (.inr (some (p8)))), (2, .inl (pn h)), (0, .inr (.inr (some (770)))), (1, .inl (0))] rfl ⟨rfl, rfl, rfl, rfl, trivial⟩ ?_
      exact kT hs p8 g6 τ3 aQ (aQ.mI hI hB6) (by rw [← eb]; exact hno)
    · skip
      have A0 : ∀ q, τ q ≠ 0 → τ3 q = τ q ∧ (q ≠ 770 → q ≠ 789 → q ≠ 790 → g6.2.2 q = h.2.2 q) := fun q hq => by
        have qp : q ≠ p8 := fun e => by rw [e] at hq; exact hq z8
        have y1 := x8.1 q hq
        have y2 := x2 q (by rw [y1.1]; exact hq)
        refine ⟨by rw [n2 q qp, y2.1, y1.1], fun q1 q2 q3 => ?_⟩
        rw [f6.2.2 q (by unfold nz_PF; rw [dz_beq_ne q2, dz_beq_ne q3]; rfl), fT.2.2 q (dz_beq_ne q1), fK.2.2 q (dz_beq_ne qp), y2.2 qp, y1.2, fP.2.2 q (dz_beq_ne q1)]
      have P0 : ∀ q, q ≠ 770 → q ≠ 789 → q ≠ 790 → q ≠ p8 → g6.2.2 q = g2.2.2 q := fun q q1 q2 q3 q4 => by
        rw [f6.2.2 q (by unfold nz_PF; rw [dz_beq_ne q2, dz_beq_ne q3]; rfl), fT.2.2 q (dz_beq_ne q1), fK.2.2 q (dz_beq_ne q4)]
      have Pp : ∀ j, qz_I g6 p8 j = qz_I g3 p8 j := fun j => by unfold qz_I; rw [f6.2.2 p8 (by unfold nz_PF; rw [dz_beq_ne np9, dz_beq_ne np0]; rfl), fT.2.2 p8 (dz_beq_ne np7)]
      have up : ∀ k, τ (p8 + k) = 0 := fun k => ez_hi hI.1 (by omega)
      have nt : ∀ k r, τ r ≠ 0 → p8 + k ≠ r := fun k r hr e => by have := up k; rw [e] at this; exact hr this
      have t0 : ∀ r, tz_ex r ≠ 0 → τ r ≠ 0 := fun r hr => by rw [hI.2.1 r hr]; exact hr
      have cell : ∀ k, 0 < k → g6.2.2 (p8 + k) = g2.2.2 (p8 + k) := fun k hk => P0 _ (nt k 770 (t0 770 (by decide))) (nt k 789 (t0 789 (by decide))) (nt k 790 (t0 790 (by decide))) (by omega)
      have c61 := f6.1; have c62 := f6.2.1
      have aQ : aq τ h τ3 g6 p8 0 := by
        refine ⟨⟨up 0, up 1, up 2⟩, ⟨n1, by rw [n2 _ (by omega)]; exact u15, by rw [n2 _ (by omega)]; exact u16⟩, ⟨by rw [Pp]; exact vK, by rw [Pp, iK 4 (by decide), I0 4 (by decide) (by decide) (by decide) (by decide) (by decide)]; exact y8 4, by rw [Pp, iK 5 (by decide), I0 5 (by decide) (by decide) (by decide) (by decide) (by decide)]; exact y8 5⟩, fun j => ?_, fun j => ?_, A0, fun q q0 q3 => ?_, fun j j0 j2 => ?_, ?_, by omega, by omega, by omega, by rw [Pp, iK 12 (by decide), I0 12 (by decide) (by decide) (by decide) (by decide) (by decide)]; exact y8 12, by rw [f6.I rfl, iT 0 (by decide), j7]; exact vP⟩
        · unfold qz_I; rw [cell 1 (by decide)]; exact z1 j
        · unfold qz_I; rw [cell 2 (by decide)]; exact z2 j
        · by_cases e0 : q = p8
          · exact Or.inl e0
          · by_cases e1 : q = p8 + 1
            · exact Or.inr (Or.inl e1)
            · by_cases e2 : q = p8 + 2
              · exact Or.inr (Or.inr e2)
              · rw [n2 q e0, o2 q e1 e2, o8 q e0] at q3; exact absurd q0 q3
        · rw [f6.I rfl, iT j j2, j7, iP j j0]
        · rw [f6.I rfl]; exact vT
      have eb : mb g4 = mb h := funext fun k => by
        unfold mb qz_I
        have t1 : τ 771 ≠ 0 := t0 771 (by decide)
        have qp : 771 ≠ p8 := fun e => by rw [← e] at z8; exact t1 z8
        have y1 := x8.1 771 t1
        have y2 := x2 771 (by rw [y1.1]; exact t1)
        rw [fT.2.2 771 rfl, fK.2.2 771 (dz_beq_ne qp), y2.2 qp, y1.2, fP.2.2 771 rfl]
      refine ez_less [(3, .inr (.inr (some (p8)))), (2, .inl (pn h)), (0, .inr (.inr (some (770)))), (1, .inl (0))] rfl ⟨rfl, rfl, rfl, rfl, trivial⟩ ?_
      exact kx hs p8 g6 τ3 A aQ (aQ.mI hI hB6) (by rw [← eb]; exact hA) (by rw [← eb]; exact hfl)
  · skip
    refine ez_go (n := 2) (pc' := 29) (L' := [(0, .inr (.inr (some (770)))), (1, .inl (0))]) (st' := [.inl (2), .inr (.inr (some (770)))]) rfl ?_
    refine ez_cv hP t770 rfl rfl rfl tq_75 rfl rfl rfl (rd_mfail hP t770 (by omega) (by omega) (fun gf hBf ff jf vf0 => ez_K1 ?_))
    exact ez_retI rfl rfl (kS (by rw [← iP 7 (by decide)]; assumption) gf (hI.f7 hBf (fun q _ hq => by rw [ff.2.2 q (dz_beq_ne hq), fP.2.2 q (dz_beq_ne hq)]) (fun j j1 j2 => by rw [jf j (by omega), iP j (by omega)])) (fP.trans ff) (fun j hj => by rw [jf j hj, iP j hj]) vf0)

theorem rd_mlA1 (hI : mI τ h Ls 0) (hr1 : h.1 + 10 ≤ 600192) (hr2 : h.2.1 + 40 ≤ 7302232) (kS : qz_I h 770 7 ≠ 0 → ∀ g, mI τ g Ls 0 → ez_fr (ez_one 770) h g → (∀ j, j ≠ 0 → qz_I g 770 j = qz_I h 770 j) → qz_I g 770 0 = 2 → Q (.inl (some (ez_v (.inl 0))), g)) (kx : qz_I h 770 7 = 0 → ∀ l g τ1 A, aq τ h τ1 g l 1 → mI τ1 g Ls 0 → rz_A (mb h) (qz_I h 770 2) (5 : Int).toNat A → (∀ k, 0 ≤ k → k < 5 → mf g k = rz_ff (mb h) A k ∧ mt g k = rz_tt (mb h) A k) → ez_W (d + 8) cm_276 96 [(3, .inr (.inr (some (l)))), (2, .inl (pn h)), (0, .inr (.inr (some (770)))), (1, .inl (1))] [] g Q) (kT : qz_I h 770 7 = 0 → ∀ l g τ1, aq τ h τ1 g l 1 → mI τ1 g Ls 0 → (¬ ∃ A, rz_A (mb h) (qz_I h 770 2) (5 : Int).toNat A) → ez_W (d + 8) cm_276 155 [(3, .inr (.inr (some (l)))), (2, .inl (pn h)), (0, .inr (.inr (some (770)))), (1, .inl (1))] [.inr (.inr (some g.1))] (xc g 1) Q) : ez_W (d + 8) cm_276 0 [(0, .inr (.inr (some (770)))), (1, .inl (1))] [] h Q := by
  have hB := hI.1
  have t770 : τ 770 = 75 := hI.2.1 770 (by decide)
  have b2 : 0 ≤ qz_I h 770 2 ∧ qz_I h 770 2 ≤ 4096 := ez_fB (cl := 11) (k := 2) hB t770 tq_75 rfl rfl (by decide)
  refine ez_go (n := 2) (pc' := 2) (L' := [(0, .inr (.inr (some (770)))), (1, .inl (1))]) (st' := [.inl (0), .inr (.inr (some (770)))]) rfl ?_
  refine ez_pf hB t770 rfl rfl tq_75 rfl rfl rfl rfl (ez_vdI rfl rfl (by omega) (by omega)) (fun hB1 w2 => ?_)
  have fP : ez_fr (ez_one 770) h (dz_put h 770 0 (ez_v (.inl (0)))) := (ez_fr.refl (ez_one 770) h).put rfl _ _
  have vP : qz_I (dz_put h 770 0 (ez_v (.inl (0)))) 770 0 = 0 := w2.trans (rz_rd ⟨by omega, by omega⟩)
  have iP : ∀ j, j ≠ 0 → qz_I (dz_put h 770 0 (ez_v (.inl (0)))) 770 j = qz_I h 770 j := fun j hj => ez_put_I (fun w => hj w.2)
  have hP := hB1
  generalize (dz_put h 770 0 (ez_v (.inl (0)))) = h1 at *
  have cP1 := fP.1; have cP2 := fP.2.1
  refine ez_go (n := 1) (pc' := 6) (L' := [(0, .inr (.inr (some (770)))), (1, .inl (1))]) (st' := [.inl (1)]) rfl ?_
  refine ez_if rfl rfl ⟨by decide, by decide⟩ (fun (c3 : (1 : Int) < (0)) => absurd c3 (by decide)) (fun _ => ?_)
  refine ez_go (n := 2) (pc' := 11) (L' := [(0, .inr (.inr (some (770)))), (1, .inl (1))]) (st' := [.inl (4), .inl (1)]) rfl ?_
  refine ez_icmp rfl rfl ⟨by decide, by decide⟩ ⟨by decide, by decide⟩ (fun _ => ?_) (fun (c4 : ¬((1 : Int) ≤ (4))) => absurd c4 (by decide))
  refine ez_go (n := 1) (pc' := 21) (L' := [(0, .inr (.inr (some (770)))), (1, .inl (1))]) (st' := [.inr (.inr (some (770)))]) rfl ?_
  refine ez_gI hP t770 rfl rfl tq_75 rfl rfl (fun (b5 : 0 ≤ qz_I h1 770 7) (b5' : qz_I h1 770 7 ≤ 1) => ?_)
  refine ez_if rfl rfl ⟨by first | omega | exact (sz_i32 _).1, by first | omega | exact (sz_i32 _).2⟩ (fun (c6 : (qz_I h1 770 7) = (0)) => ?_) (fun (c6 : ¬((qz_I h1 770 7) = (0))) => ?_)
  · skip
    have hs : qz_I h 770 7 = 0 := by rw [← iP 7 (by decide)]; assumption
    refine ez_go (n := 1) (pc' := 34) (L' := [(0, .inr (.inr (some (770)))), (1, .inl (1))]) (st' := [.inr (.inr (some (770)))]) rfl ?_
    refine ez_gI hP t770 rfl rfl tq_75 rfl rfl (fun (b7 : 0 ≤ qz_I h1 770 10) (b7' : qz_I h1 770 10 ≤ 38500) => ?_)
    rw [show qz_I h1 770 10 = pn h from iP 10 (by decide)]
    refine ez_go (n := 1) (pc' := 38) (L' := [(2, .inl (pn h)), (0, .inr (.inr (some (770)))), (1, .inl (1))]) (st' := []) rfl ?_
    refine ez_nw' (t := 14) hP rfl rfl rfl tq_14 rfl rfl (by omega) (by show h1.2.1 + 13 ≤ 7302232; omega) (fun g8 τ8 p8 hB8 x8 o8 t8 z8 e8 y8 => ?_)
    have x8 : ez_xt τ h1 τ8 g8 1 13 := x8
    have c8 := x8.2
    have t770n8 := (x8.1 _ (by rw [t770]; decide)).1.trans t770
    refine ez_go (n := 1) (pc' := 42) (L' := [(2, .inl (pn h)), (0, .inr (.inr (some (770)))), (1, .inl (1))]) (st' := [.inr (.inr (some (p8))), .inr (.inr (some (p8)))]) rfl ?_
    have lp := dz_here_lt (hB8.1 p8 (by rw [t8]; decide)).1
    refine ez_ci hB8.2.1 rfl rfl rfl rfl rfl rfl (rd_lineI (r := p8) hB8 t8 (by omega) (by omega) (by omega) (fun g2 τ2 hB2 x2 o2 u15 u16 g21 g22 g23 v7 v8 I0 z1 z2 => ez_K0 ?_))
    have hB3 := ez_rtLine hB2 ((x2 p8 (by rw [t8]; decide)).1.trans t8) v7 v8
    have n1 : dz_tn τ2 p8 13 p8 = 13 := ez_tn_eq
    have n2 : ∀ q, q ≠ p8 → dz_tn τ2 p8 13 q = τ2 q := fun q hq => ez_tn_ne hq
    generalize dz_tn τ2 p8 13 = τ3 at *
    have np7 : p8 ≠ 770 := fun e => by rw [e, t770] at z8; cases z8
    have np9 : p8 ≠ 789 := fun e => by rw [e, hI.2.1 789 (by decide)] at z8; cases z8
    have np0 : p8 ≠ 790 := fun e => by rw [e, hI.2.1 790 (by decide)] at z8; cases z8
    have w770 : τ3 770 = 75 := by rw [n2 770 (Ne.symm np7), (x2 770 (by rw [(x8.1 770 (by rw [t770]; decide)).1, t770]; decide)).1, (x8.1 770 (by rw [t770]; decide)).1, t770]
    refine ez_go (n := 3) (pc' := 48) (L' := [(3, .inr (.inr (some (p8)))), (2, .inl (pn h)), (0, .inr (.inr (some (770)))), (1, .inl (1))]) (st' := [.inl (1), .inr (.inr (some (p8)))]) rfl ?_
    refine ez_pf hB3 n1 rfl rfl tq_13 rfl rfl rfl rfl (ez_vdI rfl rfl (by omega) (by omega)) (fun hB9 w10 => ?_)
    have fK : ez_fr (ez_one p8) g2 (dz_put g2 p8 0 (ez_v (.inl (1)))) := (ez_fr.refl (ez_one p8) g2).put (show Nat.beq _ _ = true from Nat.beq_refl _) _ _
    have vK : qz_I (dz_put g2 p8 0 (ez_v (.inl (1)))) p8 0 = 1 := w10.trans (rz_rd ⟨by omega, by omega⟩)
    have iK : ∀ j, j ≠ 0 → qz_I (dz_put g2 p8 0 (ez_v (.inl (1)))) p8 j = qz_I g2 p8 j := fun j hj => ez_put_I (fun w => hj w.2)
    have hK := hB9
    generalize (dz_put g2 p8 0 (ez_v (.inl (1)))) = g3 at *
    have cK1 := fK.1; have cK2 := fK.2.1
    have j7 : ∀ j, qz_I g3 770 j = qz_I h1 770 j := fun j => by unfold qz_I; rw [fK.2.2 770 (dz_beq_ne (Ne.symm np7)), (x2 770 (by rw [(x8.1 770 (by rw [t770]; decide)).1, t770]; decide)).2 (Ne.symm np7), (x8.1 770 (by rw [t770]; decide)).2]
    refine ez_go (n := 1) (pc' := 52) (L' := [(3, .inr (.inr (some (p8)))), (2, .inl (pn h)), (0, .inr (.inr (some (770)))), (1, .inl (1))]) (st' := [.inr (.inr (some (770)))]) rfl ?_
    refine ez_gI hK w770 rfl rfl tq_75 rfl rfl (fun (b11 : 0 ≤ qz_I g3 770 2) (b11' : qz_I g3 770 2 ≤ 4096) => ?_)
    rw [show qz_I g3 770 2 = qz_I h 770 2 from (j7 2).trans (iP 2 (by decide))]
    refine ez_go (n := 3) (pc' := 59) (L' := [(4, .inl (qz_I h 770 2)), (3, .inr (.inr (some (p8)))), (2, .inl (pn h)), (0, .inr (.inr (some (770)))), (1, .inl (1))]) (st' := [.inl (0), .inr (.inr (some (770)))]) rfl ?_
    refine ez_pf hK w770 rfl rfl tq_75 rfl rfl rfl rfl (ez_vdI rfl rfl (by omega) (by omega)) (fun hB12 w13 => ?_)
    have fT : ez_fr (ez_one 770) g3 (dz_put g3 770 2 (ez_v (.inl (0)))) := (ez_fr.refl (ez_one 770) g3).put rfl _ _
    have vT : qz_I (dz_put g3 770 2 (ez_v (.inl (0)))) 770 2 = 0 := w13.trans (rz_rd ⟨by omega, by omega⟩)
    have iT : ∀ j, j ≠ 2 → qz_I (dz_put g3 770 2 (ez_v (.inl (0)))) 770 j = qz_I g3 770 j := fun j hj => ez_put_I (fun w => hj w.2)
    have hT := hB12
    generalize (dz_put g3 770 2 (ez_v (.inl (0)))) = g4 at *
    have cT1 := fT.1; have cT2 := fT.2.1
    refine ez_go (n := 2) (pc' := 64) (L' := [(4, .inl (qz_I h 770 2)), (3, .inr (.inr (some (p8)))), (2, .inl (pn h)), (0, .inr (.inr (some (770)))), (1, .inl (1))]) (st' := [.inl (1), .inr (.inr (some (770)))]) rfl ?_
    refine ez_if rfl rfl ⟨by decide, by decide⟩ (fun _ => ?_) (fun (c14 : ¬((1 : Int) ≠ (0))) => absurd c14 (by decide))
    refine ez_go (n := 2) (pc' := 74) (L' := [(4, .inl (qz_I h 770 2)), (3, .inr (.inr (some (p8)))), (2, .inl (pn h)), (0, .inr (.inr (some (770)))), (1, .inl (1))]) (st' := [.inl (1), .inl (1), .inr (.inr (some (770)))]) rfl ?_
    refine ez_icmp rfl rfl ⟨by decide, by decide⟩ ⟨by decide, by decide⟩ (fun (c15 : (1 : Int) ≠ (1)) => absurd c15 (by decide)) (fun _ => ?_)
    refine ez_go (n := 3) (pc' := 93) (L' := [(4, .inl (qz_I h 770 2)), (3, .inr (.inr (some (p8)))), (2, .inl (pn h)), (0, .inr (.inr (some (770)))), (1, .inl (1))]) (st' := [.inl (qz_I h 770 2), .inl (5), .inr (.inr (some (770)))]) rfl ?_
    refine ez_cv hT w770 rfl rfl rfl tq_75 rfl rfl rfl (rd_fields hT w770 (by omega) (by omega) (by omega) (by omega) (by omega) (by omega) (fun hno g6 hB6 f6 => ez_Kc (xc_exc hB6 rfl) rfl ?_) (fun g6 A hB6 f6 hA hfl => ez_K0 ?_))
    · skip
      have A0 : ∀ q, τ q ≠ 0 → τ3 q = τ q ∧ (q ≠ 770 → q ≠ 789 → q ≠ 790 → g6.2.2 q = h.2.2 q) := fun q hq => by
        have qp : q ≠ p8 := fun e => by rw [e] at hq; exact hq z8
        have y1 := x8.1 q hq
        have y2 := x2 q (by rw [y1.1]; exact hq)
        refine ⟨by rw [n2 q qp, y2.1, y1.1], fun q1 q2 q3 => ?_⟩
        rw [f6.2.2 q (by unfold nz_PF; rw [dz_beq_ne q2, dz_beq_ne q3]; rfl), fT.2.2 q (dz_beq_ne q1), fK.2.2 q (dz_beq_ne qp), y2.2 qp, y1.2, fP.2.2 q (dz_beq_ne q1)]
      have P0 : ∀ q, q ≠ 770 → q ≠ 789 → q ≠ 790 → q ≠ p8 → g6.2.2 q = g2.2.2 q := fun q q1 q2 q3 q4 => by
        rw [f6.2.2 q (by unfold nz_PF; rw [dz_beq_ne q2, dz_beq_ne q3]; rfl), fT.2.2 q (dz_beq_ne q1), fK.2.2 q (dz_beq_ne q4)]
      have Pp : ∀ j, qz_I g6 p8 j = qz_I g3 p8 j := fun j => by unfold qz_I; rw [f6.2.2 p8 (by unfold nz_PF; rw [dz_beq_ne np9, dz_beq_ne np0]; rfl), fT.2.2 p8 (dz_beq_ne np7)]
      have up : ∀ k, τ (p8 + k) = 0 := fun k => ez_hi hI.1 (by omega)
      have nt : ∀ k r, τ r ≠ 0 → p8 + k ≠ r := fun k r hr e => by have := up k; rw [e] at this; exact hr this
      have t0 : ∀ r, tz_ex r ≠ 0 → τ r ≠ 0 := fun r hr => by rw [hI.2.1 r hr]; exact hr
      have cell : ∀ k, 0 < k → g6.2.2 (p8 + k) = g2.2.2 (p8 + k) := fun k hk => P0 _ (nt k 770 (t0 770 (by decide))) (nt k 789 (t0 789 (by decide))) (nt k 790 (t0 790 (by decide))) (by omega)
      have c61 := f6.1; have c62 := f6.2.1
      have aQ : aq τ h τ3 g6 p8 1 := by
        refine ⟨⟨up 0, up 1, up 2⟩, ⟨n1, by rw [n2 _ (by omega)]; exact u15, by rw [n2 _ (by omega)]; exact u16⟩, ⟨by rw [Pp]; exact vK, by rw [Pp, iK 4 (by decide), I0 4 (by decide) (by decide) (by decide) (by decide) (by decide)]; exact y8 4, by rw [Pp, iK 5 (by decide), I0 5 (by decide) (by decide) (by decide) (by decide) (by decide)]; exact y8 5⟩, fun j => ?_, fun j => ?_, A0, fun q q0 q3 => ?_, fun j j0 j2 => ?_, ?_, by omega, by omega, by omega, by rw [Pp, iK 12 (by decide), I0 12 (by decide) (by decide) (by decide) (by decide) (by decide)]; exact y8 12, by rw [f6.I rfl, iT 0 (by decide), j7]; exact vP⟩
        · unfold qz_I; rw [cell 1 (by decide)]; exact z1 j
        · unfold qz_I; rw [cell 2 (by decide)]; exact z2 j
        · by_cases e0 : q = p8
          · exact Or.inl e0
          · by_cases e1 : q = p8 + 1
            · exact Or.inr (Or.inl e1)
            · by_cases e2 : q = p8 + 2
              · exact Or.inr (Or.inr e2)
              · rw [n2 q e0, o2 q e1 e2, o8 q e0] at q3; exact absurd q0 q3
        · rw [f6.I rfl, iT j j2, j7, iP j j0]
        · rw [f6.I rfl]; exact vT
      have eb : mb g4 = mb h := funext fun k => by
        unfold mb qz_I
        have t1 : τ 771 ≠ 0 := t0 771 (by decide)
        have qp : 771 ≠ p8 := fun e => by rw [← e] at z8; exact t1 z8
        have y1 := x8.1 771 t1
        have y2 := x2 771 (by rw [y1.1]; exact t1)
        rw [fT.2.2 771 rfl, fK.2.2 771 (dz_beq_ne qp), y2.2 qp, y1.2, fP.2.2 771 rfl]
      refine ez_less [(3, .inr (.inr (some (p8)))), (2, .inl (pn h)), (0, .inr (.inr (some (770)))), (1, .inl (1))] rfl ⟨rfl, rfl, rfl, rfl, trivial⟩ ?_
      exact kT hs p8 g6 τ3 aQ (aQ.mI hI hB6) (by rw [← eb]; exact hno)
    · skip
      have A0 : ∀ q, τ q ≠ 0 → τ3 q = τ q ∧ (q ≠ 770 → q ≠ 789 → q ≠ 790 → g6.2.2 q = h.2.2 q) := fun q hq => by
        have qp : q ≠ p8 := fun e => by rw [e] at hq; exact hq z8
        have y1 := x8.1 q hq
        have y2 := x2 q (by rw [y1.1]; exact hq)
        refine ⟨by rw [n2 q qp, y2.1, y1.1], fun q1 q2 q3 => ?_⟩
        rw [f6.2.2 q (by unfold nz_PF; rw [dz_beq_ne q2, dz_beq_ne q3]; rfl), fT.2.2 q (dz_beq_ne q1), fK.2.2 q (dz_beq_ne qp), y2.2 qp, y1.2, fP.2.2 q (dz_beq_ne q1)]
      have P0 : ∀ q, q ≠ 770 → q ≠ 789 → q ≠ 790 → q ≠ p8 → g6.2.2 q = g2.2.2 q := fun q q1 q2 q3 q4 => by
        rw [f6.2.2 q (by unfold nz_PF; rw [dz_beq_ne q2, dz_beq_ne q3]; rfl), fT.2.2 q (dz_beq_ne q1), fK.2.2 q (dz_beq_ne q4)]
      have Pp : ∀ j, qz_I g6 p8 j = qz_I g3 p8 j := fun j => by unfold qz_I; rw [f6.2.2 p8 (by unfold nz_PF; rw [dz_beq_ne np9, dz_beq_ne np0]; rfl), fT.2.2 p8 (dz_beq_ne np7)]
      have up : ∀ k, τ (p8 + k) = 0 := fun k => ez_hi hI.1 (by omega)
      have nt : ∀ k r, τ r ≠ 0 → p8 + k ≠ r := fun k r hr e => by have := up k; rw [e] at this; exact hr this
      have t0 : ∀ r, tz_ex r ≠ 0 → τ r ≠ 0 := fun r hr => by rw [hI.2.1 r hr]; exact hr
      have cell : ∀ k, 0 < k → g6.2.2 (p8 + k) = g2.2.2 (p8 + k) := fun k hk => P0 _ (nt k 770 (t0 770 (by decide))) (nt k 789 (t0 789 (by decide))) (nt k 790 (t0 790 (by decide))) (by omega)
      have c61 := f6.1; have c62 := f6.2.1
      have aQ : aq τ h τ3 g6 p8 1 := by
        refine ⟨⟨up 0, up 1, up 2⟩, ⟨n1, by rw [n2 _ (by omega)]; exact u15, by rw [n2 _ (by omega)]; exact u16⟩, ⟨by rw [Pp]; exact vK, by rw [Pp, iK 4 (by decide), I0 4 (by decide) (by decide) (by decide) (by decide) (by decide)]; exact y8 4, by rw [Pp, iK 5 (by decide), I0 5 (by decide) (by decide) (by decide) (by decide) (by decide)]; exact y8 5⟩, fun j => ?_, fun j => ?_, A0, fun q q0 q3 => ?_, fun j j0 j2 => ?_, ?_, by omega, by omega, by omega, by rw [Pp, iK 12 (by decide), I0 12 (by decide) (by decide) (by decide) (by decide) (by decide)]; exact y8 12, by rw [f6.I rfl, iT 0 (by decide), j7]; exact vP⟩
        · unfold qz_I; rw [cell 1 (by decide)]; exact z1 j
        · unfold qz_I; rw [cell 2 (by decide)]; exact z2 j
        · by_cases e0 : q = p8
          · exact Or.inl e0
          · by_cases e1 : q = p8 + 1
            · exact Or.inr (Or.inl e1)
            · by_cases e2 : q = p8 + 2
              · exact Or.inr (Or.inr e2)
              · rw [n2 q e0, o2 q e1 e2, o8 q e0] at q3; exact absurd q0 q3
        · rw [f6.I rfl, iT j j2, j7, iP j j0]
        · rw [f6.I rfl]; exact vT
      have eb : mb g4 = mb h := funext fun k => by
        unfold mb qz_I
        have t1 : τ 771 ≠ 0 := t0 771 (by decide)
        have qp : 771 ≠ p8 := fun e => by rw [← e] at z8; exact t1 z8
        have y1 := x8.1 771 t1
        have y2 := x2 771 (by rw [y1.1]; exact t1)
        rw [fT.2.2 771 rfl, fK.2.2 771 (dz_beq_ne qp), y2.2 qp, y1.2, fP.2.2 771 rfl]
      refine ez_less [(3, .inr (.inr (some (p8)))), (2, .inl (pn h)), (0, .inr (.inr (some (770)))), (1, .inl (1))] rfl ⟨rfl, rfl, rfl, rfl, trivial⟩ ?_
      exact kx hs p8 g6 τ3 A aQ (aQ.mI hI hB6) (by rw [← eb]; exact hA) (by rw [← eb]; exact hfl)
  · skip
    refine ez_go (n := 2) (pc' := 29) (L' := [(0, .inr (.inr (some (770)))), (1, .inl (1))]) (st' := [.inl (2), .inr (.inr (some (770)))]) rfl ?_
    refine ez_cv hP t770 rfl rfl rfl tq_75 rfl rfl rfl (rd_mfail hP t770 (by omega) (by omega) (fun gf hBf ff jf vf0 => ez_K1 ?_))
    exact ez_retI rfl rfl (kS (by rw [← iP 7 (by decide)]; assumption) gf (hI.f7 hBf (fun q _ hq => by rw [ff.2.2 q (dz_beq_ne hq), fP.2.2 q (dz_beq_ne hq)]) (fun j j1 j2 => by rw [jf j (by omega), iP j (by omega)])) (fP.trans ff) (fun j hj => by rw [jf j hj, iP j hj]) vf0)

theorem rd_mlA2 (hI : mI τ h Ls 0) (hr1 : h.1 + 10 ≤ 600192) (hr2 : h.2.1 + 40 ≤ 7302232) (kS : qz_I h 770 7 ≠ 0 → ∀ g, mI τ g Ls 0 → ez_fr (ez_one 770) h g → (∀ j, j ≠ 0 → qz_I g 770 j = qz_I h 770 j) → qz_I g 770 0 = 2 → Q (.inl (some (ez_v (.inl 0))), g)) (kx : qz_I h 770 7 = 0 → ∀ l g τ1 A, aq τ h τ1 g l 2 → mI τ1 g Ls 0 → rz_A (mb h) (qz_I h 770 2) (3 : Int).toNat A → (∀ k, 0 ≤ k → k < 3 → mf g k = rz_ff (mb h) A k ∧ mt g k = rz_tt (mb h) A k) → ez_W (d + 8) cm_276 96 [(3, .inr (.inr (some (l)))), (2, .inl (pn h)), (0, .inr (.inr (some (770)))), (1, .inl (2))] [] g Q) (kT : qz_I h 770 7 = 0 → ∀ l g τ1, aq τ h τ1 g l 2 → mI τ1 g Ls 0 → (¬ ∃ A, rz_A (mb h) (qz_I h 770 2) (3 : Int).toNat A) → ez_W (d + 8) cm_276 155 [(3, .inr (.inr (some (l)))), (2, .inl (pn h)), (0, .inr (.inr (some (770)))), (1, .inl (2))] [.inr (.inr (some g.1))] (xc g 1) Q) : ez_W (d + 8) cm_276 0 [(0, .inr (.inr (some (770)))), (1, .inl (2))] [] h Q := by
  have hB := hI.1
  have t770 : τ 770 = 75 := hI.2.1 770 (by decide)
  have b2 : 0 ≤ qz_I h 770 2 ∧ qz_I h 770 2 ≤ 4096 := ez_fB (cl := 11) (k := 2) hB t770 tq_75 rfl rfl (by decide)
  refine ez_go (n := 2) (pc' := 2) (L' := [(0, .inr (.inr (some (770)))), (1, .inl (2))]) (st' := [.inl (0), .inr (.inr (some (770)))]) rfl ?_
  refine ez_pf hB t770 rfl rfl tq_75 rfl rfl rfl rfl (ez_vdI rfl rfl (by omega) (by omega)) (fun hB1 w2 => ?_)
  have fP : ez_fr (ez_one 770) h (dz_put h 770 0 (ez_v (.inl (0)))) := (ez_fr.refl (ez_one 770) h).put rfl _ _
  have vP : qz_I (dz_put h 770 0 (ez_v (.inl (0)))) 770 0 = 0 := w2.trans (rz_rd ⟨by omega, by omega⟩)
  have iP : ∀ j, j ≠ 0 → qz_I (dz_put h 770 0 (ez_v (.inl (0)))) 770 j = qz_I h 770 j := fun j hj => ez_put_I (fun w => hj w.2)
  have hP := hB1
  generalize (dz_put h 770 0 (ez_v (.inl (0)))) = h1 at *
  have cP1 := fP.1; have cP2 := fP.2.1
  refine ez_go (n := 1) (pc' := 6) (L' := [(0, .inr (.inr (some (770)))), (1, .inl (2))]) (st' := [.inl (2)]) rfl ?_
  refine ez_if rfl rfl ⟨by decide, by decide⟩ (fun (c3 : (2 : Int) < (0)) => absurd c3 (by decide)) (fun _ => ?_)
  refine ez_go (n := 2) (pc' := 11) (L' := [(0, .inr (.inr (some (770)))), (1, .inl (2))]) (st' := [.inl (4), .inl (2)]) rfl ?_
  refine ez_icmp rfl rfl ⟨by decide, by decide⟩ ⟨by decide, by decide⟩ (fun _ => ?_) (fun (c4 : ¬((2 : Int) ≤ (4))) => absurd c4 (by decide))
  refine ez_go (n := 1) (pc' := 21) (L' := [(0, .inr (.inr (some (770)))), (1, .inl (2))]) (st' := [.inr (.inr (some (770)))]) rfl ?_
  refine ez_gI hP t770 rfl rfl tq_75 rfl rfl (fun (b5 : 0 ≤ qz_I h1 770 7) (b5' : qz_I h1 770 7 ≤ 1) => ?_)
  refine ez_if rfl rfl ⟨by first | omega | exact (sz_i32 _).1, by first | omega | exact (sz_i32 _).2⟩ (fun (c6 : (qz_I h1 770 7) = (0)) => ?_) (fun (c6 : ¬((qz_I h1 770 7) = (0))) => ?_)
  · skip
    have hs : qz_I h 770 7 = 0 := by rw [← iP 7 (by decide)]; assumption
    refine ez_go (n := 1) (pc' := 34) (L' := [(0, .inr (.inr (some (770)))), (1, .inl (2))]) (st' := [.inr (.inr (some (770)))]) rfl ?_
    refine ez_gI hP t770 rfl rfl tq_75 rfl rfl (fun (b7 : 0 ≤ qz_I h1 770 10) (b7' : qz_I h1 770 10 ≤ 38500) => ?_)
    rw [show qz_I h1 770 10 = pn h from iP 10 (by decide)]
    refine ez_go (n := 1) (pc' := 38) (L' := [(2, .inl (pn h)), (0, .inr (.inr (some (770)))), (1, .inl (2))]) (st' := []) rfl ?_
    refine ez_nw' (t := 14) hP rfl rfl rfl tq_14 rfl rfl (by omega) (by show h1.2.1 + 13 ≤ 7302232; omega) (fun g8 τ8 p8 hB8 x8 o8 t8 z8 e8 y8 => ?_)
    have x8 : ez_xt τ h1 τ8 g8 1 13 := x8
    have c8 := x8.2
    have t770n8 := (x8.1 _ (by rw [t770]; decide)).1.trans t770
    refine ez_go (n := 1) (pc' := 42) (L' := [(2, .inl (pn h)), (0, .inr (.inr (some (770)))), (1, .inl (2))]) (st' := [.inr (.inr (some (p8))), .inr (.inr (some (p8)))]) rfl ?_
    have lp := dz_here_lt (hB8.1 p8 (by rw [t8]; decide)).1
    refine ez_ci hB8.2.1 rfl rfl rfl rfl rfl rfl (rd_lineI (r := p8) hB8 t8 (by omega) (by omega) (by omega) (fun g2 τ2 hB2 x2 o2 u15 u16 g21 g22 g23 v7 v8 I0 z1 z2 => ez_K0 ?_))
    have hB3 := ez_rtLine hB2 ((x2 p8 (by rw [t8]; decide)).1.trans t8) v7 v8
    have n1 : dz_tn τ2 p8 13 p8 = 13 := ez_tn_eq
    have n2 : ∀ q, q ≠ p8 → dz_tn τ2 p8 13 q = τ2 q := fun q hq => ez_tn_ne hq
    generalize dz_tn τ2 p8 13 = τ3 at *
    have np7 : p8 ≠ 770 := fun e => by rw [e, t770] at z8; cases z8
    have np9 : p8 ≠ 789 := fun e => by rw [e, hI.2.1 789 (by decide)] at z8; cases z8
    have np0 : p8 ≠ 790 := fun e => by rw [e, hI.2.1 790 (by decide)] at z8; cases z8
    have w770 : τ3 770 = 75 := by rw [n2 770 (Ne.symm np7), (x2 770 (by rw [(x8.1 770 (by rw [t770]; decide)).1, t770]; decide)).1, (x8.1 770 (by rw [t770]; decide)).1, t770]
    refine ez_go (n := 3) (pc' := 48) (L' := [(3, .inr (.inr (some (p8)))), (2, .inl (pn h)), (0, .inr (.inr (some (770)))), (1, .inl (2))]) (st' := [.inl (2), .inr (.inr (some (p8)))]) rfl ?_
    refine ez_pf hB3 n1 rfl rfl tq_13 rfl rfl rfl rfl (ez_vdI rfl rfl (by omega) (by omega)) (fun hB9 w10 => ?_)
    have fK : ez_fr (ez_one p8) g2 (dz_put g2 p8 0 (ez_v (.inl (2)))) := (ez_fr.refl (ez_one p8) g2).put (show Nat.beq _ _ = true from Nat.beq_refl _) _ _
    have vK : qz_I (dz_put g2 p8 0 (ez_v (.inl (2)))) p8 0 = 2 := w10.trans (rz_rd ⟨by omega, by omega⟩)
    have iK : ∀ j, j ≠ 0 → qz_I (dz_put g2 p8 0 (ez_v (.inl (2)))) p8 j = qz_I g2 p8 j := fun j hj => ez_put_I (fun w => hj w.2)
    have hK := hB9
    generalize (dz_put g2 p8 0 (ez_v (.inl (2)))) = g3 at *
    have cK1 := fK.1; have cK2 := fK.2.1
    have j7 : ∀ j, qz_I g3 770 j = qz_I h1 770 j := fun j => by unfold qz_I; rw [fK.2.2 770 (dz_beq_ne (Ne.symm np7)), (x2 770 (by rw [(x8.1 770 (by rw [t770]; decide)).1, t770]; decide)).2 (Ne.symm np7), (x8.1 770 (by rw [t770]; decide)).2]
    refine ez_go (n := 1) (pc' := 52) (L' := [(3, .inr (.inr (some (p8)))), (2, .inl (pn h)), (0, .inr (.inr (some (770)))), (1, .inl (2))]) (st' := [.inr (.inr (some (770)))]) rfl ?_
    refine ez_gI hK w770 rfl rfl tq_75 rfl rfl (fun (b11 : 0 ≤ qz_I g3 770 2) (b11' : qz_I g3 770 2 ≤ 4096) => ?_)
    rw [show qz_I g3 770 2 = qz_I h 770 2 from (j7 2).trans (iP 2 (by decide))]
    refine ez_go (n := 3) (pc' := 59) (L' := [(4, .inl (qz_I h 770 2)), (3, .inr (.inr (some (p8)))), (2, .inl (pn h)), (0, .inr (.inr (some (770)))), (1, .inl (2))]) (st' := [.inl (0), .inr (.inr (some (770)))]) rfl ?_
    refine ez_pf hK w770 rfl rfl tq_75 rfl rfl rfl rfl (ez_vdI rfl rfl (by omega) (by omega)) (fun hB12 w13 => ?_)
    have fT : ez_fr (ez_one 770) g3 (dz_put g3 770 2 (ez_v (.inl (0)))) := (ez_fr.refl (ez_one 770) g3).put rfl _ _
    have vT : qz_I (dz_put g3 770 2 (ez_v (.inl (0)))) 770 2 = 0 := w13.trans (rz_rd ⟨by omega, by omega⟩)
    have iT : ∀ j, j ≠ 2 → qz_I (dz_put g3 770 2 (ez_v (.inl (0)))) 770 j = qz_I g3 770 j := fun j hj => ez_put_I (fun w => hj w.2)
    have hT := hB12
    generalize (dz_put g3 770 2 (ez_v (.inl (0)))) = g4 at *
    have cT1 := fT.1; have cT2 := fT.2.1
    refine ez_go (n := 2) (pc' := 64) (L' := [(4, .inl (qz_I h 770 2)), (3, .inr (.inr (some (p8)))), (2, .inl (pn h)), (0, .inr (.inr (some (770)))), (1, .inl (2))]) (st' := [.inl (2), .inr (.inr (some (770)))]) rfl ?_
    refine ez_if rfl rfl ⟨by decide, by decide⟩ (fun _ => ?_) (fun (c14 : ¬((2 : Int) ≠ (0))) => absurd c14 (by decide))
    refine ez_go (n := 2) (pc' := 74) (L' := [(4, .inl (qz_I h 770 2)), (3, .inr (.inr (some (p8)))), (2, .inl (pn h)), (0, .inr (.inr (some (770)))), (1, .inl (2))]) (st' := [.inl (1), .inl (2), .inr (.inr (some (770)))]) rfl ?_
    refine ez_icmp rfl rfl ⟨by decide, by decide⟩ ⟨by decide, by decide⟩ (fun _ => ?_) (fun (c15 : ¬((2 : Int) ≠ (1))) => absurd c15 (by decide))
    refine ez_go (n := 2) (pc' := 83) (L' := [(4, .inl (qz_I h 770 2)), (3, .inr (.inr (some (p8)))), (2, .inl (pn h)), (0, .inr (.inr (some (770)))), (1, .inl (2))]) (st' := [.inl (2), .inl (2), .inr (.inr (some (770)))]) rfl ?_
    refine ez_icmp rfl rfl ⟨by decide, by decide⟩ ⟨by decide, by decide⟩ (fun (c16 : (2 : Int) ≠ (2)) => absurd c16 (by decide)) (fun _ => ?_)
    refine ez_go (n := 3) (pc' := 93) (L' := [(4, .inl (qz_I h 770 2)), (3, .inr (.inr (some (p8)))), (2, .inl (pn h)), (0, .inr (.inr (some (770)))), (1, .inl (2))]) (st' := [.inl (qz_I h 770 2), .inl (3), .inr (.inr (some (770)))]) rfl ?_
    refine ez_cv hT w770 rfl rfl rfl tq_75 rfl rfl rfl (rd_fields hT w770 (by omega) (by omega) (by omega) (by omega) (by omega) (by omega) (fun hno g6 hB6 f6 => ez_Kc (xc_exc hB6 rfl) rfl ?_) (fun g6 A hB6 f6 hA hfl => ez_K0 ?_))
    · skip
      have A0 : ∀ q, τ q ≠ 0 → τ3 q = τ q ∧ (q ≠ 770 → q ≠ 789 → q ≠ 790 → g6.2.2 q = h.2.2 q) := fun q hq => by
        have qp : q ≠ p8 := fun e => by rw [e] at hq; exact hq z8
        have y1 := x8.1 q hq
        have y2 := x2 q (by rw [y1.1]; exact hq)
        refine ⟨by rw [n2 q qp, y2.1, y1.1], fun q1 q2 q3 => ?_⟩
        rw [f6.2.2 q (by unfold nz_PF; rw [dz_beq_ne q2, dz_beq_ne q3]; rfl), fT.2.2 q (dz_beq_ne q1), fK.2.2 q (dz_beq_ne qp), y2.2 qp, y1.2, fP.2.2 q (dz_beq_ne q1)]
      have P0 : ∀ q, q ≠ 770 → q ≠ 789 → q ≠ 790 → q ≠ p8 → g6.2.2 q = g2.2.2 q := fun q q1 q2 q3 q4 => by
        rw [f6.2.2 q (by unfold nz_PF; rw [dz_beq_ne q2, dz_beq_ne q3]; rfl), fT.2.2 q (dz_beq_ne q1), fK.2.2 q (dz_beq_ne q4)]
      have Pp : ∀ j, qz_I g6 p8 j = qz_I g3 p8 j := fun j => by unfold qz_I; rw [f6.2.2 p8 (by unfold nz_PF; rw [dz_beq_ne np9, dz_beq_ne np0]; rfl), fT.2.2 p8 (dz_beq_ne np7)]
      have up : ∀ k, τ (p8 + k) = 0 := fun k => ez_hi hI.1 (by omega)
      have nt : ∀ k r, τ r ≠ 0 → p8 + k ≠ r := fun k r hr e => by have := up k; rw [e] at this; exact hr this
      have t0 : ∀ r, tz_ex r ≠ 0 → τ r ≠ 0 := fun r hr => by rw [hI.2.1 r hr]; exact hr
      have cell : ∀ k, 0 < k → g6.2.2 (p8 + k) = g2.2.2 (p8 + k) := fun k hk => P0 _ (nt k 770 (t0 770 (by decide))) (nt k 789 (t0 789 (by decide))) (nt k 790 (t0 790 (by decide))) (by omega)
      have c61 := f6.1; have c62 := f6.2.1
      have aQ : aq τ h τ3 g6 p8 2 := by
        refine ⟨⟨up 0, up 1, up 2⟩, ⟨n1, by rw [n2 _ (by omega)]; exact u15, by rw [n2 _ (by omega)]; exact u16⟩, ⟨by rw [Pp]; exact vK, by rw [Pp, iK 4 (by decide), I0 4 (by decide) (by decide) (by decide) (by decide) (by decide)]; exact y8 4, by rw [Pp, iK 5 (by decide), I0 5 (by decide) (by decide) (by decide) (by decide) (by decide)]; exact y8 5⟩, fun j => ?_, fun j => ?_, A0, fun q q0 q3 => ?_, fun j j0 j2 => ?_, ?_, by omega, by omega, by omega, by rw [Pp, iK 12 (by decide), I0 12 (by decide) (by decide) (by decide) (by decide) (by decide)]; exact y8 12, by rw [f6.I rfl, iT 0 (by decide), j7]; exact vP⟩
        · unfold qz_I; rw [cell 1 (by decide)]; exact z1 j
        · unfold qz_I; rw [cell 2 (by decide)]; exact z2 j
        · by_cases e0 : q = p8
          · exact Or.inl e0
          · by_cases e1 : q = p8 + 1
            · exact Or.inr (Or.inl e1)
            · by_cases e2 : q = p8 + 2
              · exact Or.inr (Or.inr e2)
              · rw [n2 q e0, o2 q e1 e2, o8 q e0] at q3; exact absurd q0 q3
        · rw [f6.I rfl, iT j j2, j7, iP j j0]
        · rw [f6.I rfl]; exact vT
      have eb : mb g4 = mb h := funext fun k => by
        unfold mb qz_I
        have t1 : τ 771 ≠ 0 := t0 771 (by decide)
        have qp : 771 ≠ p8 := fun e => by rw [← e] at z8; exact t1 z8
        have y1 := x8.1 771 t1
        have y2 := x2 771 (by rw [y1.1]; exact t1)
        rw [fT.2.2 771 rfl, fK.2.2 771 (dz_beq_ne qp), y2.2 qp, y1.2, fP.2.2 771 rfl]
      refine ez_less [(3, .inr (.inr (some (p8)))), (2, .inl (pn h)), (0, .inr (.inr (some (770)))), (1, .inl (2))] rfl ⟨rfl, rfl, rfl, rfl, trivial⟩ ?_
      exact kT hs p8 g6 τ3 aQ (aQ.mI hI hB6) (by rw [← eb]; exact hno)
    · skip
      have A0 : ∀ q, τ q ≠ 0 → τ3 q = τ q ∧ (q ≠ 770 → q ≠ 789 → q ≠ 790 → g6.2.2 q = h.2.2 q) := fun q hq => by
        have qp : q ≠ p8 := fun e => by rw [e] at hq; exact hq z8
        have y1 := x8.1 q hq
        have y2 := x2 q (by rw [y1.1]; exact hq)
        refine ⟨by rw [n2 q qp, y2.1, y1.1], fun q1 q2 q3 => ?_⟩
        rw [f6.2.2 q (by unfold nz_PF; rw [dz_beq_ne q2, dz_beq_ne q3]; rfl), fT.2.2 q (dz_beq_ne q1), fK.2.2 q (dz_beq_ne qp), y2.2 qp, y1.2, fP.2.2 q (dz_beq_ne q1)]
      have P0 : ∀ q, q ≠ 770 → q ≠ 789 → q ≠ 790 → q ≠ p8 → g6.2.2 q = g2.2.2 q := fun q q1 q2 q3 q4 => by
        rw [f6.2.2 q (by unfold nz_PF; rw [dz_beq_ne q2, dz_beq_ne q3]; rfl), fT.2.2 q (dz_beq_ne q1), fK.2.2 q (dz_beq_ne q4)]
      have Pp : ∀ j, qz_I g6 p8 j = qz_I g3 p8 j := fun j => by unfold qz_I; rw [f6.2.2 p8 (by unfold nz_PF; rw [dz_beq_ne np9, dz_beq_ne np0]; rfl), fT.2.2 p8 (dz_beq_ne np7)]
      have up : ∀ k, τ (p8 + k) = 0 := fun k => ez_hi hI.1 (by omega)
      have nt : ∀ k r, τ r ≠ 0 → p8 + k ≠ r := fun k r hr e => by have := up k; rw [e] at this; exact hr this
      have t0 : ∀ r, tz_ex r ≠ 0 → τ r ≠ 0 := fun r hr => by rw [hI.2.1 r hr]; exact hr
      have cell : ∀ k, 0 < k → g6.2.2 (p8 + k) = g2.2.2 (p8 + k) := fun k hk => P0 _ (nt k 770 (t0 770 (by decide))) (nt k 789 (t0 789 (by decide))) (nt k 790 (t0 790 (by decide))) (by omega)
      have c61 := f6.1; have c62 := f6.2.1
      have aQ : aq τ h τ3 g6 p8 2 := by
        refine ⟨⟨up 0, up 1, up 2⟩, ⟨n1, by rw [n2 _ (by omega)]; exact u15, by rw [n2 _ (by omega)]; exact u16⟩, ⟨by rw [Pp]; exact vK, by rw [Pp, iK 4 (by decide), I0 4 (by decide) (by decide) (by decide) (by decide) (by decide)]; exact y8 4, by rw [Pp, iK 5 (by decide), I0 5 (by decide) (by decide) (by decide) (by decide) (by decide)]; exact y8 5⟩, fun j => ?_, fun j => ?_, A0, fun q q0 q3 => ?_, fun j j0 j2 => ?_, ?_, by omega, by omega, by omega, by rw [Pp, iK 12 (by decide), I0 12 (by decide) (by decide) (by decide) (by decide) (by decide)]; exact y8 12, by rw [f6.I rfl, iT 0 (by decide), j7]; exact vP⟩
        · unfold qz_I; rw [cell 1 (by decide)]; exact z1 j
        · unfold qz_I; rw [cell 2 (by decide)]; exact z2 j
        · by_cases e0 : q = p8
          · exact Or.inl e0
          · by_cases e1 : q = p8 + 1
            · exact Or.inr (Or.inl e1)
            · by_cases e2 : q = p8 + 2
              · exact Or.inr (Or.inr e2)
              · rw [n2 q e0, o2 q e1 e2, o8 q e0] at q3; exact absurd q0 q3
        · rw [f6.I rfl, iT j j2, j7, iP j j0]
        · rw [f6.I rfl]; exact vT
      have eb : mb g4 = mb h := funext fun k => by
        unfold mb qz_I
        have t1 : τ 771 ≠ 0 := t0 771 (by decide)
        have qp : 771 ≠ p8 := fun e => by rw [← e] at z8; exact t1 z8
        have y1 := x8.1 771 t1
        have y2 := x2 771 (by rw [y1.1]; exact t1)
        rw [fT.2.2 771 rfl, fK.2.2 771 (dz_beq_ne qp), y2.2 qp, y1.2, fP.2.2 771 rfl]
      refine ez_less [(3, .inr (.inr (some (p8)))), (2, .inl (pn h)), (0, .inr (.inr (some (770)))), (1, .inl (2))] rfl ⟨rfl, rfl, rfl, rfl, trivial⟩ ?_
      exact kx hs p8 g6 τ3 A aQ (aQ.mI hI hB6) (by rw [← eb]; exact hA) (by rw [← eb]; exact hfl)
  · skip
    refine ez_go (n := 2) (pc' := 29) (L' := [(0, .inr (.inr (some (770)))), (1, .inl (2))]) (st' := [.inl (2), .inr (.inr (some (770)))]) rfl ?_
    refine ez_cv hP t770 rfl rfl rfl tq_75 rfl rfl rfl (rd_mfail hP t770 (by omega) (by omega) (fun gf hBf ff jf vf0 => ez_K1 ?_))
    exact ez_retI rfl rfl (kS (by rw [← iP 7 (by decide)]; assumption) gf (hI.f7 hBf (fun q _ hq => by rw [ff.2.2 q (dz_beq_ne hq), fP.2.2 q (dz_beq_ne hq)]) (fun j j1 j2 => by rw [jf j (by omega), iP j (by omega)])) (fP.trans ff) (fun j hj => by rw [jf j hj, iP j hj]) vf0)

theorem rd_mlA3 (hI : mI τ h Ls 0) (hr1 : h.1 + 10 ≤ 600192) (hr2 : h.2.1 + 40 ≤ 7302232) (kS : qz_I h 770 7 ≠ 0 → ∀ g, mI τ g Ls 0 → ez_fr (ez_one 770) h g → (∀ j, j ≠ 0 → qz_I g 770 j = qz_I h 770 j) → qz_I g 770 0 = 2 → Q (.inl (some (ez_v (.inl 0))), g)) (kx : qz_I h 770 7 = 0 → ∀ l g τ1 A, aq τ h τ1 g l 3 → mI τ1 g Ls 0 → rz_A (mb h) (qz_I h 770 2) (2 : Int).toNat A → (∀ k, 0 ≤ k → k < 2 → mf g k = rz_ff (mb h) A k ∧ mt g k = rz_tt (mb h) A k) → ez_W (d + 8) cm_276 96 [(3, .inr (.inr (some (l)))), (2, .inl (pn h)), (0, .inr (.inr (some (770)))), (1, .inl (3))] [] g Q) (kT : qz_I h 770 7 = 0 → ∀ l g τ1, aq τ h τ1 g l 3 → mI τ1 g Ls 0 → (¬ ∃ A, rz_A (mb h) (qz_I h 770 2) (2 : Int).toNat A) → ez_W (d + 8) cm_276 155 [(3, .inr (.inr (some (l)))), (2, .inl (pn h)), (0, .inr (.inr (some (770)))), (1, .inl (3))] [.inr (.inr (some g.1))] (xc g 1) Q) : ez_W (d + 8) cm_276 0 [(0, .inr (.inr (some (770)))), (1, .inl (3))] [] h Q := by
  have hB := hI.1
  have t770 : τ 770 = 75 := hI.2.1 770 (by decide)
  have b2 : 0 ≤ qz_I h 770 2 ∧ qz_I h 770 2 ≤ 4096 := ez_fB (cl := 11) (k := 2) hB t770 tq_75 rfl rfl (by decide)
  refine ez_go (n := 2) (pc' := 2) (L' := [(0, .inr (.inr (some (770)))), (1, .inl (3))]) (st' := [.inl (0), .inr (.inr (some (770)))]) rfl ?_
  refine ez_pf hB t770 rfl rfl tq_75 rfl rfl rfl rfl (ez_vdI rfl rfl (by omega) (by omega)) (fun hB1 w2 => ?_)
  have fP : ez_fr (ez_one 770) h (dz_put h 770 0 (ez_v (.inl (0)))) := (ez_fr.refl (ez_one 770) h).put rfl _ _
  have vP : qz_I (dz_put h 770 0 (ez_v (.inl (0)))) 770 0 = 0 := w2.trans (rz_rd ⟨by omega, by omega⟩)
  have iP : ∀ j, j ≠ 0 → qz_I (dz_put h 770 0 (ez_v (.inl (0)))) 770 j = qz_I h 770 j := fun j hj => ez_put_I (fun w => hj w.2)
  have hP := hB1
  generalize (dz_put h 770 0 (ez_v (.inl (0)))) = h1 at *
  have cP1 := fP.1; have cP2 := fP.2.1
  refine ez_go (n := 1) (pc' := 6) (L' := [(0, .inr (.inr (some (770)))), (1, .inl (3))]) (st' := [.inl (3)]) rfl ?_
  refine ez_if rfl rfl ⟨by decide, by decide⟩ (fun (c3 : (3 : Int) < (0)) => absurd c3 (by decide)) (fun _ => ?_)
  refine ez_go (n := 2) (pc' := 11) (L' := [(0, .inr (.inr (some (770)))), (1, .inl (3))]) (st' := [.inl (4), .inl (3)]) rfl ?_
  refine ez_icmp rfl rfl ⟨by decide, by decide⟩ ⟨by decide, by decide⟩ (fun _ => ?_) (fun (c4 : ¬((3 : Int) ≤ (4))) => absurd c4 (by decide))
  refine ez_go (n := 1) (pc' := 21) (L' := [(0, .inr (.inr (some (770)))), (1, .inl (3))]) (st' := [.inr (.inr (some (770)))]) rfl ?_
  refine ez_gI hP t770 rfl rfl tq_75 rfl rfl (fun (b5 : 0 ≤ qz_I h1 770 7) (b5' : qz_I h1 770 7 ≤ 1) => ?_)
  refine ez_if rfl rfl ⟨by first | omega | exact (sz_i32 _).1, by first | omega | exact (sz_i32 _).2⟩ (fun (c6 : (qz_I h1 770 7) = (0)) => ?_) (fun (c6 : ¬((qz_I h1 770 7) = (0))) => ?_)
  · skip
    have hs : qz_I h 770 7 = 0 := by rw [← iP 7 (by decide)]; assumption
    refine ez_go (n := 1) (pc' := 34) (L' := [(0, .inr (.inr (some (770)))), (1, .inl (3))]) (st' := [.inr (.inr (some (770)))]) rfl ?_
    refine ez_gI hP t770 rfl rfl tq_75 rfl rfl (fun (b7 : 0 ≤ qz_I h1 770 10) (b7' : qz_I h1 770 10 ≤ 38500) => ?_)
    rw [show qz_I h1 770 10 = pn h from iP 10 (by decide)]
    refine ez_go (n := 1) (pc' := 38) (L' := [(2, .inl (pn h)), (0, .inr (.inr (some (770)))), (1, .inl (3))]) (st' := []) rfl ?_
    refine ez_nw' (t := 14) hP rfl rfl rfl tq_14 rfl rfl (by omega) (by show h1.2.1 + 13 ≤ 7302232; omega) (fun g8 τ8 p8 hB8 x8 o8 t8 z8 e8 y8 => ?_)
    have x8 : ez_xt τ h1 τ8 g8 1 13 := x8
    have c8 := x8.2
    have t770n8 := (x8.1 _ (by rw [t770]; decide)).1.trans t770
    refine ez_go (n := 1) (pc' := 42) (L' := [(2, .inl (pn h)), (0, .inr (.inr (some (770)))), (1, .inl (3))]) (st' := [.inr (.inr (some (p8))), .inr (.inr (some (p8)))]) rfl ?_
    have lp := dz_here_lt (hB8.1 p8 (by rw [t8]; decide)).1
    refine ez_ci hB8.2.1 rfl rfl rfl rfl rfl rfl (rd_lineI (r := p8) hB8 t8 (by omega) (by omega) (by omega) (fun g2 τ2 hB2 x2 o2 u15 u16 g21 g22 g23 v7 v8 I0 z1 z2 => ez_K0 ?_))
    have hB3 := ez_rtLine hB2 ((x2 p8 (by rw [t8]; decide)).1.trans t8) v7 v8
    have n1 : dz_tn τ2 p8 13 p8 = 13 := ez_tn_eq
    have n2 : ∀ q, q ≠ p8 → dz_tn τ2 p8 13 q = τ2 q := fun q hq => ez_tn_ne hq
    generalize dz_tn τ2 p8 13 = τ3 at *
    have np7 : p8 ≠ 770 := fun e => by rw [e, t770] at z8; cases z8
    have np9 : p8 ≠ 789 := fun e => by rw [e, hI.2.1 789 (by decide)] at z8; cases z8
    have np0 : p8 ≠ 790 := fun e => by rw [e, hI.2.1 790 (by decide)] at z8; cases z8
    have w770 : τ3 770 = 75 := by rw [n2 770 (Ne.symm np7), (x2 770 (by rw [(x8.1 770 (by rw [t770]; decide)).1, t770]; decide)).1, (x8.1 770 (by rw [t770]; decide)).1, t770]
    refine ez_go (n := 3) (pc' := 48) (L' := [(3, .inr (.inr (some (p8)))), (2, .inl (pn h)), (0, .inr (.inr (some (770)))), (1, .inl (3))]) (st' := [.inl (3), .inr (.inr (some (p8)))]) rfl ?_
    refine ez_pf hB3 n1 rfl rfl tq_13 rfl rfl rfl rfl (ez_vdI rfl rfl (by omega) (by omega)) (fun hB9 w10 => ?_)
    have fK : ez_fr (ez_one p8) g2 (dz_put g2 p8 0 (ez_v (.inl (3)))) := (ez_fr.refl (ez_one p8) g2).put (show Nat.beq _ _ = true from Nat.beq_refl _) _ _
    have vK : qz_I (dz_put g2 p8 0 (ez_v (.inl (3)))) p8 0 = 3 := w10.trans (rz_rd ⟨by omega, by omega⟩)
    have iK : ∀ j, j ≠ 0 → qz_I (dz_put g2 p8 0 (ez_v (.inl (3)))) p8 j = qz_I g2 p8 j := fun j hj => ez_put_I (fun w => hj w.2)
    have hK := hB9
    generalize (dz_put g2 p8 0 (ez_v (.inl (3)))) = g3 at *
    have cK1 := fK.1; have cK2 := fK.2.1
    have j7 : ∀ j, qz_I g3 770 j = qz_I h1 770 j := fun j => by unfold qz_I; rw [fK.2.2 770 (dz_beq_ne (Ne.symm np7)), (x2 770 (by rw [(x8.1 770 (by rw [t770]; decide)).1, t770]; decide)).2 (Ne.symm np7), (x8.1 770 (by rw [t770]; decide)).2]
    refine ez_go (n := 1) (pc' := 52) (L' := [(3, .inr (.inr (some (p8)))), (2, .inl (pn h)), (0, .inr (.inr (some (770)))), (1, .inl (3))]) (st' := [.inr (.inr (some (770)))]) rfl ?_
    refine ez_gI hK w770 rfl rfl tq_75 rfl rfl (fun (b11 : 0 ≤ qz_I g3 770 2) (b11' : qz_I g3 770 2 ≤ 4096) => ?_)
    rw [show qz_I g3 770 2 = qz_I h 770 2 from (j7 2).trans (iP 2 (by decide))]
    refine ez_go (n := 3) (pc' := 59) (L' := [(4, .inl (qz_I h 770 2)), (3, .inr (.inr (some (p8)))), (2, .inl (pn h)), (0, .inr (.inr (some (770)))), (1, .inl (3))]) (st' := [.inl (0), .inr (.inr (some (770)))]) rfl ?_
    refine ez_pf hK w770 rfl rfl tq_75 rfl rfl rfl rfl (ez_vdI rfl rfl (by omega) (by omega)) (fun hB12 w13 => ?_)
    have fT : ez_fr (ez_one 770) g3 (dz_put g3 770 2 (ez_v (.inl (0)))) := (ez_fr.refl (ez_one 770) g3).put rfl _ _
    have vT : qz_I (dz_put g3 770 2 (ez_v (.inl (0)))) 770 2 = 0 := w13.trans (rz_rd ⟨by omega, by omega⟩)
    have iT : ∀ j, j ≠ 2 → qz_I (dz_put g3 770 2 (ez_v (.inl (0)))) 770 j = qz_I g3 770 j := fun j hj => ez_put_I (fun w => hj w.2)
    have hT := hB12
    generalize (dz_put g3 770 2 (ez_v (.inl (0)))) = g4 at *
    have cT1 := fT.1; have cT2 := fT.2.1
    refine ez_go (n := 2) (pc' := 64) (L' := [(4, .inl (qz_I h 770 2)), (3, .inr (.inr (some (p8)))), (2, .inl (pn h)), (0, .inr (.inr (some (770)))), (1, .inl (3))]) (st' := [.inl (3), .inr (.inr (some (770)))]) rfl ?_
    refine ez_if rfl rfl ⟨by decide, by decide⟩ (fun _ => ?_) (fun (c14 : ¬((3 : Int) ≠ (0))) => absurd c14 (by decide))
    refine ez_go (n := 2) (pc' := 74) (L' := [(4, .inl (qz_I h 770 2)), (3, .inr (.inr (some (p8)))), (2, .inl (pn h)), (0, .inr (.inr (some (770)))), (1, .inl (3))]) (st' := [.inl (1), .inl (3), .inr (.inr (some (770)))]) rfl ?_
    refine ez_icmp rfl rfl ⟨by decide, by decide⟩ ⟨by decide, by decide⟩ (fun _ => ?_) (fun (c15 : ¬((3 : Int) ≠ (1))) => absurd c15 (by decide))
    refine ez_go (n := 2) (pc' := 83) (L' := [(4, .inl (qz_I h 770 2)), (3, .inr (.inr (some (p8)))), (2, .inl (pn h)), (0, .inr (.inr (some (770)))), (1, .inl (3))]) (st' := [.inl (2), .inl (3), .inr (.inr (some (770)))]) rfl ?_
    refine ez_icmp rfl rfl ⟨by decide, by decide⟩ ⟨by decide, by decide⟩ (fun _ => ?_) (fun (c16 : ¬((3 : Int) ≠ (2))) => absurd c16 (by decide))
    refine ez_go (n := 2) (pc' := 93) (L' := [(4, .inl (qz_I h 770 2)), (3, .inr (.inr (some (p8)))), (2, .inl (pn h)), (0, .inr (.inr (some (770)))), (1, .inl (3))]) (st' := [.inl (qz_I h 770 2), .inl (2), .inr (.inr (some (770)))]) rfl ?_
    refine ez_cv hT w770 rfl rfl rfl tq_75 rfl rfl rfl (rd_fields hT w770 (by omega) (by omega) (by omega) (by omega) (by omega) (by omega) (fun hno g6 hB6 f6 => ez_Kc (xc_exc hB6 rfl) rfl ?_) (fun g6 A hB6 f6 hA hfl => ez_K0 ?_))
    · skip
      have A0 : ∀ q, τ q ≠ 0 → τ3 q = τ q ∧ (q ≠ 770 → q ≠ 789 → q ≠ 790 → g6.2.2 q = h.2.2 q) := fun q hq => by
        have qp : q ≠ p8 := fun e => by rw [e] at hq; exact hq z8
        have y1 := x8.1 q hq
        have y2 := x2 q (by rw [y1.1]; exact hq)
        refine ⟨by rw [n2 q qp, y2.1, y1.1], fun q1 q2 q3 => ?_⟩
        rw [f6.2.2 q (by unfold nz_PF; rw [dz_beq_ne q2, dz_beq_ne q3]; rfl), fT.2.2 q (dz_beq_ne q1), fK.2.2 q (dz_beq_ne qp), y2.2 qp, y1.2, fP.2.2 q (dz_beq_ne q1)]
      have P0 : ∀ q, q ≠ 770 → q ≠ 789 → q ≠ 790 → q ≠ p8 → g6.2.2 q = g2.2.2 q := fun q q1 q2 q3 q4 => by
        rw [f6.2.2 q (by unfold nz_PF; rw [dz_beq_ne q2, dz_beq_ne q3]; rfl), fT.2.2 q (dz_beq_ne q1), fK.2.2 q (dz_beq_ne q4)]
      have Pp : ∀ j, qz_I g6 p8 j = qz_I g3 p8 j := fun j => by unfold qz_I; rw [f6.2.2 p8 (by unfold nz_PF; rw [dz_beq_ne np9, dz_beq_ne np0]; rfl), fT.2.2 p8 (dz_beq_ne np7)]
      have up : ∀ k, τ (p8 + k) = 0 := fun k => ez_hi hI.1 (by omega)
      have nt : ∀ k r, τ r ≠ 0 → p8 + k ≠ r := fun k r hr e => by have := up k; rw [e] at this; exact hr this
      have t0 : ∀ r, tz_ex r ≠ 0 → τ r ≠ 0 := fun r hr => by rw [hI.2.1 r hr]; exact hr
      have cell : ∀ k, 0 < k → g6.2.2 (p8 + k) = g2.2.2 (p8 + k) := fun k hk => P0 _ (nt k 770 (t0 770 (by decide))) (nt k 789 (t0 789 (by decide))) (nt k 790 (t0 790 (by decide))) (by omega)
      have c61 := f6.1; have c62 := f6.2.1
      have aQ : aq τ h τ3 g6 p8 3 := by
        refine ⟨⟨up 0, up 1, up 2⟩, ⟨n1, by rw [n2 _ (by omega)]; exact u15, by rw [n2 _ (by omega)]; exact u16⟩, ⟨by rw [Pp]; exact vK, by rw [Pp, iK 4 (by decide), I0 4 (by decide) (by decide) (by decide) (by decide) (by decide)]; exact y8 4, by rw [Pp, iK 5 (by decide), I0 5 (by decide) (by decide) (by decide) (by decide) (by decide)]; exact y8 5⟩, fun j => ?_, fun j => ?_, A0, fun q q0 q3 => ?_, fun j j0 j2 => ?_, ?_, by omega, by omega, by omega, by rw [Pp, iK 12 (by decide), I0 12 (by decide) (by decide) (by decide) (by decide) (by decide)]; exact y8 12, by rw [f6.I rfl, iT 0 (by decide), j7]; exact vP⟩
        · unfold qz_I; rw [cell 1 (by decide)]; exact z1 j
        · unfold qz_I; rw [cell 2 (by decide)]; exact z2 j
        · by_cases e0 : q = p8
          · exact Or.inl e0
          · by_cases e1 : q = p8 + 1
            · exact Or.inr (Or.inl e1)
            · by_cases e2 : q = p8 + 2
              · exact Or.inr (Or.inr e2)
              · rw [n2 q e0, o2 q e1 e2, o8 q e0] at q3; exact absurd q0 q3
        · rw [f6.I rfl, iT j j2, j7, iP j j0]
        · rw [f6.I rfl]; exact vT
      have eb : mb g4 = mb h := funext fun k => by
        unfold mb qz_I
        have t1 : τ 771 ≠ 0 := t0 771 (by decide)
        have qp : 771 ≠ p8 := fun e => by rw [← e] at z8; exact t1 z8
        have y1 := x8.1 771 t1
        have y2 := x2 771 (by rw [y1.1]; exact t1)
        rw [fT.2.2 771 rfl, fK.2.2 771 (dz_beq_ne qp), y2.2 qp, y1.2, fP.2.2 771 rfl]
      refine ez_less [(3, .inr (.inr (some (p8)))), (2, .inl (pn h)), (0, .inr (.inr (some (770)))), (1, .inl (3))] rfl ⟨rfl, rfl, rfl, rfl, trivial⟩ ?_
      exact kT hs p8 g6 τ3 aQ (aQ.mI hI hB6) (by rw [← eb]; exact hno)
    · skip
      have A0 : ∀ q, τ q ≠ 0 → τ3 q = τ q ∧ (q ≠ 770 → q ≠ 789 → q ≠ 790 → g6.2.2 q = h.2.2 q) := fun q hq => by
        have qp : q ≠ p8 := fun e => by rw [e] at hq; exact hq z8
        have y1 := x8.1 q hq
        have y2 := x2 q (by rw [y1.1]; exact hq)
        refine ⟨by rw [n2 q qp, y2.1, y1.1], fun q1 q2 q3 => ?_⟩
        rw [f6.2.2 q (by unfold nz_PF; rw [dz_beq_ne q2, dz_beq_ne q3]; rfl), fT.2.2 q (dz_beq_ne q1), fK.2.2 q (dz_beq_ne qp), y2.2 qp, y1.2, fP.2.2 q (dz_beq_ne q1)]
      have P0 : ∀ q, q ≠ 770 → q ≠ 789 → q ≠ 790 → q ≠ p8 → g6.2.2 q = g2.2.2 q := fun q q1 q2 q3 q4 => by
        rw [f6.2.2 q (by unfold nz_PF; rw [dz_beq_ne q2, dz_beq_ne q3]; rfl), fT.2.2 q (dz_beq_ne q1), fK.2.2 q (dz_beq_ne q4)]
      have Pp : ∀ j, qz_I g6 p8 j = qz_I g3 p8 j := fun j => by unfold qz_I; rw [f6.2.2 p8 (by unfold nz_PF; rw [dz_beq_ne np9, dz_beq_ne np0]; rfl), fT.2.2 p8 (dz_beq_ne np7)]
      have up : ∀ k, τ (p8 + k) = 0 := fun k => ez_hi hI.1 (by omega)
      have nt : ∀ k r, τ r ≠ 0 → p8 + k ≠ r := fun k r hr e => by have := up k; rw [e] at this; exact hr this
      have t0 : ∀ r, tz_ex r ≠ 0 → τ r ≠ 0 := fun r hr => by rw [hI.2.1 r hr]; exact hr
      have cell : ∀ k, 0 < k → g6.2.2 (p8 + k) = g2.2.2 (p8 + k) := fun k hk => P0 _ (nt k 770 (t0 770 (by decide))) (nt k 789 (t0 789 (by decide))) (nt k 790 (t0 790 (by decide))) (by omega)
      have c61 := f6.1; have c62 := f6.2.1
      have aQ : aq τ h τ3 g6 p8 3 := by
        refine ⟨⟨up 0, up 1, up 2⟩, ⟨n1, by rw [n2 _ (by omega)]; exact u15, by rw [n2 _ (by omega)]; exact u16⟩, ⟨by rw [Pp]; exact vK, by rw [Pp, iK 4 (by decide), I0 4 (by decide) (by decide) (by decide) (by decide) (by decide)]; exact y8 4, by rw [Pp, iK 5 (by decide), I0 5 (by decide) (by decide) (by decide) (by decide) (by decide)]; exact y8 5⟩, fun j => ?_, fun j => ?_, A0, fun q q0 q3 => ?_, fun j j0 j2 => ?_, ?_, by omega, by omega, by omega, by rw [Pp, iK 12 (by decide), I0 12 (by decide) (by decide) (by decide) (by decide) (by decide)]; exact y8 12, by rw [f6.I rfl, iT 0 (by decide), j7]; exact vP⟩
        · unfold qz_I; rw [cell 1 (by decide)]; exact z1 j
        · unfold qz_I; rw [cell 2 (by decide)]; exact z2 j
        · by_cases e0 : q = p8
          · exact Or.inl e0
          · by_cases e1 : q = p8 + 1
            · exact Or.inr (Or.inl e1)
            · by_cases e2 : q = p8 + 2
              · exact Or.inr (Or.inr e2)
              · rw [n2 q e0, o2 q e1 e2, o8 q e0] at q3; exact absurd q0 q3
        · rw [f6.I rfl, iT j j2, j7, iP j j0]
        · rw [f6.I rfl]; exact vT
      have eb : mb g4 = mb h := funext fun k => by
        unfold mb qz_I
        have t1 : τ 771 ≠ 0 := t0 771 (by decide)
        have qp : 771 ≠ p8 := fun e => by rw [← e] at z8; exact t1 z8
        have y1 := x8.1 771 t1
        have y2 := x2 771 (by rw [y1.1]; exact t1)
        rw [fT.2.2 771 rfl, fK.2.2 771 (dz_beq_ne qp), y2.2 qp, y1.2, fP.2.2 771 rfl]
      refine ez_less [(3, .inr (.inr (some (p8)))), (2, .inl (pn h)), (0, .inr (.inr (some (770)))), (1, .inl (3))] rfl ⟨rfl, rfl, rfl, rfl, trivial⟩ ?_
      exact kx hs p8 g6 τ3 A aQ (aQ.mI hI hB6) (by rw [← eb]; exact hA) (by rw [← eb]; exact hfl)
  · skip
    refine ez_go (n := 2) (pc' := 29) (L' := [(0, .inr (.inr (some (770)))), (1, .inl (3))]) (st' := [.inl (2), .inr (.inr (some (770)))]) rfl ?_
    refine ez_cv hP t770 rfl rfl rfl tq_75 rfl rfl rfl (rd_mfail hP t770 (by omega) (by omega) (fun gf hBf ff jf vf0 => ez_K1 ?_))
    exact ez_retI rfl rfl (kS (by rw [← iP 7 (by decide)]; assumption) gf (hI.f7 hBf (fun q _ hq => by rw [ff.2.2 q (dz_beq_ne hq), fP.2.2 q (dz_beq_ne hq)]) (fun j j1 j2 => by rw [jf j (by omega), iP j (by omega)])) (fP.trans ff) (fun j hj => by rw [jf j hj, iP j hj]) vf0)

theorem rd_mlA4 (hI : mI τ h Ls 0) (hr1 : h.1 + 10 ≤ 600192) (hr2 : h.2.1 + 40 ≤ 7302232) (kS : qz_I h 770 7 ≠ 0 → ∀ g, mI τ g Ls 0 → ez_fr (ez_one 770) h g → (∀ j, j ≠ 0 → qz_I g 770 j = qz_I h 770 j) → qz_I g 770 0 = 2 → Q (.inl (some (ez_v (.inl 0))), g)) (kx : qz_I h 770 7 = 0 → ∀ l g τ1 A, aq τ h τ1 g l 4 → mI τ1 g Ls 0 → rz_A (mb h) (qz_I h 770 2) (2 : Int).toNat A → (∀ k, 0 ≤ k → k < 2 → mf g k = rz_ff (mb h) A k ∧ mt g k = rz_tt (mb h) A k) → ez_W (d + 8) cm_276 96 [(3, .inr (.inr (some (l)))), (2, .inl (pn h)), (0, .inr (.inr (some (770)))), (1, .inl (4))] [] g Q) (kT : qz_I h 770 7 = 0 → ∀ l g τ1, aq τ h τ1 g l 4 → mI τ1 g Ls 0 → (¬ ∃ A, rz_A (mb h) (qz_I h 770 2) (2 : Int).toNat A) → ez_W (d + 8) cm_276 155 [(3, .inr (.inr (some (l)))), (2, .inl (pn h)), (0, .inr (.inr (some (770)))), (1, .inl (4))] [.inr (.inr (some g.1))] (xc g 1) Q) : ez_W (d + 8) cm_276 0 [(0, .inr (.inr (some (770)))), (1, .inl (4))] [] h Q := by
  have hB := hI.1
  have t770 : τ 770 = 75 := hI.2.1 770 (by decide)
  have b2 : 0 ≤ qz_I h 770 2 ∧ qz_I h 770 2 ≤ 4096 := ez_fB (cl := 11) (k := 2) hB t770 tq_75 rfl rfl (by decide)
  refine ez_go (n := 2) (pc' := 2) (L' := [(0, .inr (.inr (some (770)))), (1, .inl (4))]) (st' := [.inl (0), .inr (.inr (some (770)))]) rfl ?_
  refine ez_pf hB t770 rfl rfl tq_75 rfl rfl rfl rfl (ez_vdI rfl rfl (by omega) (by omega)) (fun hB1 w2 => ?_)
  have fP : ez_fr (ez_one 770) h (dz_put h 770 0 (ez_v (.inl (0)))) := (ez_fr.refl (ez_one 770) h).put rfl _ _
  have vP : qz_I (dz_put h 770 0 (ez_v (.inl (0)))) 770 0 = 0 := w2.trans (rz_rd ⟨by omega, by omega⟩)
  have iP : ∀ j, j ≠ 0 → qz_I (dz_put h 770 0 (ez_v (.inl (0)))) 770 j = qz_I h 770 j := fun j hj => ez_put_I (fun w => hj w.2)
  have hP := hB1
  generalize (dz_put h 770 0 (ez_v (.inl (0)))) = h1 at *
  have cP1 := fP.1; have cP2 := fP.2.1
  refine ez_go (n := 1) (pc' := 6) (L' := [(0, .inr (.inr (some (770)))), (1, .inl (4))]) (st' := [.inl (4)]) rfl ?_
  refine ez_if rfl rfl ⟨by decide, by decide⟩ (fun (c3 : (4 : Int) < (0)) => absurd c3 (by decide)) (fun _ => ?_)
  refine ez_go (n := 2) (pc' := 11) (L' := [(0, .inr (.inr (some (770)))), (1, .inl (4))]) (st' := [.inl (4), .inl (4)]) rfl ?_
  refine ez_icmp rfl rfl ⟨by decide, by decide⟩ ⟨by decide, by decide⟩ (fun _ => ?_) (fun (c4 : ¬((4 : Int) ≤ (4))) => absurd c4 (by decide))
  refine ez_go (n := 1) (pc' := 21) (L' := [(0, .inr (.inr (some (770)))), (1, .inl (4))]) (st' := [.inr (.inr (some (770)))]) rfl ?_
  refine ez_gI hP t770 rfl rfl tq_75 rfl rfl (fun (b5 : 0 ≤ qz_I h1 770 7) (b5' : qz_I h1 770 7 ≤ 1) => ?_)
  refine ez_if rfl rfl ⟨by first | omega | exact (sz_i32 _).1, by first | omega | exact (sz_i32 _).2⟩ (fun (c6 : (qz_I h1 770 7) = (0)) => ?_) (fun (c6 : ¬((qz_I h1 770 7) = (0))) => ?_)
  · skip
    have hs : qz_I h 770 7 = 0 := by rw [← iP 7 (by decide)]; assumption
    refine ez_go (n := 1) (pc' := 34) (L' := [(0, .inr (.inr (some (770)))), (1, .inl (4))]) (st' := [.inr (.inr (some (770)))]) rfl ?_
    refine ez_gI hP t770 rfl rfl tq_75 rfl rfl (fun (b7 : 0 ≤ qz_I h1 770 10) (b7' : qz_I h1 770 10 ≤ 38500) => ?_)
    rw [show qz_I h1 770 10 = pn h from iP 10 (by decide)]
    refine ez_go (n := 1) (pc' := 38) (L' := [(2, .inl (pn h)), (0, .inr (.inr (some (770)))), (1, .inl (4))]) (st' := []) rfl ?_
    refine ez_nw' (t := 14) hP rfl rfl rfl tq_14 rfl rfl (by omega) (by show h1.2.1 + 13 ≤ 7302232; omega) (fun g8 τ8 p8 hB8 x8 o8 t8 z8 e8 y8 => ?_)
    have x8 : ez_xt τ h1 τ8 g8 1 13 := x8
    have c8 := x8.2
    have t770n8 := (x8.1 _ (by rw [t770]; decide)).1.trans t770
    refine ez_go (n := 1) (pc' := 42) (L' := [(2, .inl (pn h)), (0, .inr (.inr (some (770)))), (1, .inl (4))]) (st' := [.inr (.inr (some (p8))), .inr (.inr (some (p8)))]) rfl ?_
    have lp := dz_here_lt (hB8.1 p8 (by rw [t8]; decide)).1
    refine ez_ci hB8.2.1 rfl rfl rfl rfl rfl rfl (rd_lineI (r := p8) hB8 t8 (by omega) (by omega) (by omega) (fun g2 τ2 hB2 x2 o2 u15 u16 g21 g22 g23 v7 v8 I0 z1 z2 => ez_K0 ?_))
    have hB3 := ez_rtLine hB2 ((x2 p8 (by rw [t8]; decide)).1.trans t8) v7 v8
    have n1 : dz_tn τ2 p8 13 p8 = 13 := ez_tn_eq
    have n2 : ∀ q, q ≠ p8 → dz_tn τ2 p8 13 q = τ2 q := fun q hq => ez_tn_ne hq
    generalize dz_tn τ2 p8 13 = τ3 at *
    have np7 : p8 ≠ 770 := fun e => by rw [e, t770] at z8; cases z8
    have np9 : p8 ≠ 789 := fun e => by rw [e, hI.2.1 789 (by decide)] at z8; cases z8
    have np0 : p8 ≠ 790 := fun e => by rw [e, hI.2.1 790 (by decide)] at z8; cases z8
    have w770 : τ3 770 = 75 := by rw [n2 770 (Ne.symm np7), (x2 770 (by rw [(x8.1 770 (by rw [t770]; decide)).1, t770]; decide)).1, (x8.1 770 (by rw [t770]; decide)).1, t770]
    refine ez_go (n := 3) (pc' := 48) (L' := [(3, .inr (.inr (some (p8)))), (2, .inl (pn h)), (0, .inr (.inr (some (770)))), (1, .inl (4))]) (st' := [.inl (4), .inr (.inr (some (p8)))]) rfl ?_
    refine ez_pf hB3 n1 rfl rfl tq_13 rfl rfl rfl rfl (ez_vdI rfl rfl (by omega) (by omega)) (fun hB9 w10 => ?_)
    have fK : ez_fr (ez_one p8) g2 (dz_put g2 p8 0 (ez_v (.inl (4)))) := (ez_fr.refl (ez_one p8) g2).put (show Nat.beq _ _ = true from Nat.beq_refl _) _ _
    have vK : qz_I (dz_put g2 p8 0 (ez_v (.inl (4)))) p8 0 = 4 := w10.trans (rz_rd ⟨by omega, by omega⟩)
    have iK : ∀ j, j ≠ 0 → qz_I (dz_put g2 p8 0 (ez_v (.inl (4)))) p8 j = qz_I g2 p8 j := fun j hj => ez_put_I (fun w => hj w.2)
    have hK := hB9
    generalize (dz_put g2 p8 0 (ez_v (.inl (4)))) = g3 at *
    have cK1 := fK.1; have cK2 := fK.2.1
    have j7 : ∀ j, qz_I g3 770 j = qz_I h1 770 j := fun j => by unfold qz_I; rw [fK.2.2 770 (dz_beq_ne (Ne.symm np7)), (x2 770 (by rw [(x8.1 770 (by rw [t770]; decide)).1, t770]; decide)).2 (Ne.symm np7), (x8.1 770 (by rw [t770]; decide)).2]
    refine ez_go (n := 1) (pc' := 52) (L' := [(3, .inr (.inr (some (p8)))), (2, .inl (pn h)), (0, .inr (.inr (some (770)))), (1, .inl (4))]) (st' := [.inr (.inr (some (770)))]) rfl ?_
    refine ez_gI hK w770 rfl rfl tq_75 rfl rfl (fun (b11 : 0 ≤ qz_I g3 770 2) (b11' : qz_I g3 770 2 ≤ 4096) => ?_)
    rw [show qz_I g3 770 2 = qz_I h 770 2 from (j7 2).trans (iP 2 (by decide))]
    refine ez_go (n := 3) (pc' := 59) (L' := [(4, .inl (qz_I h 770 2)), (3, .inr (.inr (some (p8)))), (2, .inl (pn h)), (0, .inr (.inr (some (770)))), (1, .inl (4))]) (st' := [.inl (0), .inr (.inr (some (770)))]) rfl ?_
    refine ez_pf hK w770 rfl rfl tq_75 rfl rfl rfl rfl (ez_vdI rfl rfl (by omega) (by omega)) (fun hB12 w13 => ?_)
    have fT : ez_fr (ez_one 770) g3 (dz_put g3 770 2 (ez_v (.inl (0)))) := (ez_fr.refl (ez_one 770) g3).put rfl _ _
    have vT : qz_I (dz_put g3 770 2 (ez_v (.inl (0)))) 770 2 = 0 := w13.trans (rz_rd ⟨by omega, by omega⟩)
    have iT : ∀ j, j ≠ 2 → qz_I (dz_put g3 770 2 (ez_v (.inl (0)))) 770 j = qz_I g3 770 j := fun j hj => ez_put_I (fun w => hj w.2)
    have hT := hB12
    generalize (dz_put g3 770 2 (ez_v (.inl (0)))) = g4 at *
    have cT1 := fT.1; have cT2 := fT.2.1
    refine ez_go (n := 2) (pc' := 64) (L' := [(4, .inl (qz_I h 770 2)), (3, .inr (.inr (some (p8)))), (2, .inl (pn h)), (0, .inr (.inr (some (770)))), (1, .inl (4))]) (st' := [.inl (4), .inr (.inr (some (770)))]) rfl ?_
    refine ez_if rfl rfl ⟨by decide, by decide⟩ (fun _ => ?_) (fun (c14 : ¬((4 : Int) ≠ (0))) => absurd c14 (by decide))
    refine ez_go (n := 2) (pc' := 74) (L' := [(4, .inl (qz_I h 770 2)), (3, .inr (.inr (some (p8)))), (2, .inl (pn h)), (0, .inr (.inr (some (770)))), (1, .inl (4))]) (st' := [.inl (1), .inl (4), .inr (.inr (some (770)))]) rfl ?_
    refine ez_icmp rfl rfl ⟨by decide, by decide⟩ ⟨by decide, by decide⟩ (fun _ => ?_) (fun (c15 : ¬((4 : Int) ≠ (1))) => absurd c15 (by decide))
    refine ez_go (n := 2) (pc' := 83) (L' := [(4, .inl (qz_I h 770 2)), (3, .inr (.inr (some (p8)))), (2, .inl (pn h)), (0, .inr (.inr (some (770)))), (1, .inl (4))]) (st' := [.inl (2), .inl (4), .inr (.inr (some (770)))]) rfl ?_
    refine ez_icmp rfl rfl ⟨by decide, by decide⟩ ⟨by decide, by decide⟩ (fun _ => ?_) (fun (c16 : ¬((4 : Int) ≠ (2))) => absurd c16 (by decide))
    refine ez_go (n := 2) (pc' := 93) (L' := [(4, .inl (qz_I h 770 2)), (3, .inr (.inr (some (p8)))), (2, .inl (pn h)), (0, .inr (.inr (some (770)))), (1, .inl (4))]) (st' := [.inl (qz_I h 770 2), .inl (2), .inr (.inr (some (770)))]) rfl ?_
    refine ez_cv hT w770 rfl rfl rfl tq_75 rfl rfl rfl (rd_fields hT w770 (by omega) (by omega) (by omega) (by omega) (by omega) (by omega) (fun hno g6 hB6 f6 => ez_Kc (xc_exc hB6 rfl) rfl ?_) (fun g6 A hB6 f6 hA hfl => ez_K0 ?_))
    · skip
      have A0 : ∀ q, τ q ≠ 0 → τ3 q = τ q ∧ (q ≠ 770 → q ≠ 789 → q ≠ 790 → g6.2.2 q = h.2.2 q) := fun q hq => by
        have qp : q ≠ p8 := fun e => by rw [e] at hq; exact hq z8
        have y1 := x8.1 q hq
        have y2 := x2 q (by rw [y1.1]; exact hq)
        refine ⟨by rw [n2 q qp, y2.1, y1.1], fun q1 q2 q3 => ?_⟩
        rw [f6.2.2 q (by unfold nz_PF; rw [dz_beq_ne q2, dz_beq_ne q3]; rfl), fT.2.2 q (dz_beq_ne q1), fK.2.2 q (dz_beq_ne qp), y2.2 qp, y1.2, fP.2.2 q (dz_beq_ne q1)]
      have P0 : ∀ q, q ≠ 770 → q ≠ 789 → q ≠ 790 → q ≠ p8 → g6.2.2 q = g2.2.2 q := fun q q1 q2 q3 q4 => by
        rw [f6.2.2 q (by unfold nz_PF; rw [dz_beq_ne q2, dz_beq_ne q3]; rfl), fT.2.2 q (dz_beq_ne q1), fK.2.2 q (dz_beq_ne q4)]
      have Pp : ∀ j, qz_I g6 p8 j = qz_I g3 p8 j := fun j => by unfold qz_I; rw [f6.2.2 p8 (by unfold nz_PF; rw [dz_beq_ne np9, dz_beq_ne np0]; rfl), fT.2.2 p8 (dz_beq_ne np7)]
      have up : ∀ k, τ (p8 + k) = 0 := fun k => ez_hi hI.1 (by omega)
      have nt : ∀ k r, τ r ≠ 0 → p8 + k ≠ r := fun k r hr e => by have := up k; rw [e] at this; exact hr this
      have t0 : ∀ r, tz_ex r ≠ 0 → τ r ≠ 0 := fun r hr => by rw [hI.2.1 r hr]; exact hr
      have cell : ∀ k, 0 < k → g6.2.2 (p8 + k) = g2.2.2 (p8 + k) := fun k hk => P0 _ (nt k 770 (t0 770 (by decide))) (nt k 789 (t0 789 (by decide))) (nt k 790 (t0 790 (by decide))) (by omega)
      have c61 := f6.1; have c62 := f6.2.1
      have aQ : aq τ h τ3 g6 p8 4 := by
        refine ⟨⟨up 0, up 1, up 2⟩, ⟨n1, by rw [n2 _ (by omega)]; exact u15, by rw [n2 _ (by omega)]; exact u16⟩, ⟨by rw [Pp]; exact vK, by rw [Pp, iK 4 (by decide), I0 4 (by decide) (by decide) (by decide) (by decide) (by decide)]; exact y8 4, by rw [Pp, iK 5 (by decide), I0 5 (by decide) (by decide) (by decide) (by decide) (by decide)]; exact y8 5⟩, fun j => ?_, fun j => ?_, A0, fun q q0 q3 => ?_, fun j j0 j2 => ?_, ?_, by omega, by omega, by omega, by rw [Pp, iK 12 (by decide), I0 12 (by decide) (by decide) (by decide) (by decide) (by decide)]; exact y8 12, by rw [f6.I rfl, iT 0 (by decide), j7]; exact vP⟩
        · unfold qz_I; rw [cell 1 (by decide)]; exact z1 j
        · unfold qz_I; rw [cell 2 (by decide)]; exact z2 j
        · by_cases e0 : q = p8
          · exact Or.inl e0
          · by_cases e1 : q = p8 + 1
            · exact Or.inr (Or.inl e1)
            · by_cases e2 : q = p8 + 2
              · exact Or.inr (Or.inr e2)
              · rw [n2 q e0, o2 q e1 e2, o8 q e0] at q3; exact absurd q0 q3
        · rw [f6.I rfl, iT j j2, j7, iP j j0]
        · rw [f6.I rfl]; exact vT
      have eb : mb g4 = mb h := funext fun k => by
        unfold mb qz_I
        have t1 : τ 771 ≠ 0 := t0 771 (by decide)
        have qp : 771 ≠ p8 := fun e => by rw [← e] at z8; exact t1 z8
        have y1 := x8.1 771 t1
        have y2 := x2 771 (by rw [y1.1]; exact t1)
        rw [fT.2.2 771 rfl, fK.2.2 771 (dz_beq_ne qp), y2.2 qp, y1.2, fP.2.2 771 rfl]
      refine ez_less [(3, .inr (.inr (some (p8)))), (2, .inl (pn h)), (0, .inr (.inr (some (770)))), (1, .inl (4))] rfl ⟨rfl, rfl, rfl, rfl, trivial⟩ ?_
      exact kT hs p8 g6 τ3 aQ (aQ.mI hI hB6) (by rw [← eb]; exact hno)
    · skip
      have A0 : ∀ q, τ q ≠ 0 → τ3 q = τ q ∧ (q ≠ 770 → q ≠ 789 → q ≠ 790 → g6.2.2 q = h.2.2 q) := fun q hq => by
        have qp : q ≠ p8 := fun e => by rw [e] at hq; exact hq z8
        have y1 := x8.1 q hq
        have y2 := x2 q (by rw [y1.1]; exact hq)
        refine ⟨by rw [n2 q qp, y2.1, y1.1], fun q1 q2 q3 => ?_⟩
        rw [f6.2.2 q (by unfold nz_PF; rw [dz_beq_ne q2, dz_beq_ne q3]; rfl), fT.2.2 q (dz_beq_ne q1), fK.2.2 q (dz_beq_ne qp), y2.2 qp, y1.2, fP.2.2 q (dz_beq_ne q1)]
      have P0 : ∀ q, q ≠ 770 → q ≠ 789 → q ≠ 790 → q ≠ p8 → g6.2.2 q = g2.2.2 q := fun q q1 q2 q3 q4 => by
        rw [f6.2.2 q (by unfold nz_PF; rw [dz_beq_ne q2, dz_beq_ne q3]; rfl), fT.2.2 q (dz_beq_ne q1), fK.2.2 q (dz_beq_ne q4)]
      have Pp : ∀ j, qz_I g6 p8 j = qz_I g3 p8 j := fun j => by unfold qz_I; rw [f6.2.2 p8 (by unfold nz_PF; rw [dz_beq_ne np9, dz_beq_ne np0]; rfl), fT.2.2 p8 (dz_beq_ne np7)]
      have up : ∀ k, τ (p8 + k) = 0 := fun k => ez_hi hI.1 (by omega)
      have nt : ∀ k r, τ r ≠ 0 → p8 + k ≠ r := fun k r hr e => by have := up k; rw [e] at this; exact hr this
      have t0 : ∀ r, tz_ex r ≠ 0 → τ r ≠ 0 := fun r hr => by rw [hI.2.1 r hr]; exact hr
      have cell : ∀ k, 0 < k → g6.2.2 (p8 + k) = g2.2.2 (p8 + k) := fun k hk => P0 _ (nt k 770 (t0 770 (by decide))) (nt k 789 (t0 789 (by decide))) (nt k 790 (t0 790 (by decide))) (by omega)
      have c61 := f6.1; have c62 := f6.2.1
      have aQ : aq τ h τ3 g6 p8 4 := by
        refine ⟨⟨up 0, up 1, up 2⟩, ⟨n1, by rw [n2 _ (by omega)]; exact u15, by rw [n2 _ (by omega)]; exact u16⟩, ⟨by rw [Pp]; exact vK, by rw [Pp, iK 4 (by decide), I0 4 (by decide) (by decide) (by decide) (by decide) (by decide)]; exact y8 4, by rw [Pp, iK 5 (by decide), I0 5 (by decide) (by decide) (by decide) (by decide) (by decide)]; exact y8 5⟩, fun j => ?_, fun j => ?_, A0, fun q q0 q3 => ?_, fun j j0 j2 => ?_, ?_, by omega, by omega, by omega, by rw [Pp, iK 12 (by decide), I0 12 (by decide) (by decide) (by decide) (by decide) (by decide)]; exact y8 12, by rw [f6.I rfl, iT 0 (by decide), j7]; exact vP⟩
        · unfold qz_I; rw [cell 1 (by decide)]; exact z1 j
        · unfold qz_I; rw [cell 2 (by decide)]; exact z2 j
        · by_cases e0 : q = p8
          · exact Or.inl e0
          · by_cases e1 : q = p8 + 1
            · exact Or.inr (Or.inl e1)
            · by_cases e2 : q = p8 + 2
              · exact Or.inr (Or.inr e2)
              · rw [n2 q e0, o2 q e1 e2, o8 q e0] at q3; exact absurd q0 q3
        · rw [f6.I rfl, iT j j2, j7, iP j j0]
        · rw [f6.I rfl]; exact vT
      have eb : mb g4 = mb h := funext fun k => by
        unfold mb qz_I
        have t1 : τ 771 ≠ 0 := t0 771 (by decide)
        have qp : 771 ≠ p8 := fun e => by rw [← e] at z8; exact t1 z8
        have y1 := x8.1 771 t1
        have y2 := x2 771 (by rw [y1.1]; exact t1)
        rw [fT.2.2 771 rfl, fK.2.2 771 (dz_beq_ne qp), y2.2 qp, y1.2, fP.2.2 771 rfl]
      refine ez_less [(3, .inr (.inr (some (p8)))), (2, .inl (pn h)), (0, .inr (.inr (some (770)))), (1, .inl (4))] rfl ⟨rfl, rfl, rfl, rfl, trivial⟩ ?_
      exact kx hs p8 g6 τ3 A aQ (aQ.mI hI hB6) (by rw [← eb]; exact hA) (by rw [← eb]; exact hfl)
  · skip
    refine ez_go (n := 2) (pc' := 29) (L' := [(0, .inr (.inr (some (770)))), (1, .inl (4))]) (st' := [.inl (2), .inr (.inr (some (770)))]) rfl ?_
    refine ez_cv hP t770 rfl rfl rfl tq_75 rfl rfl rfl (rd_mfail hP t770 (by omega) (by omega) (fun gf hBf ff jf vf0 => ez_K1 ?_))
    exact ez_retI rfl rfl (kS (by rw [← iP 7 (by decide)]; assumption) gf (hI.f7 hBf (fun q _ hq => by rw [ff.2.2 q (dz_beq_ne hq), fP.2.2 q (dz_beq_ne hq)]) (fun j j1 j2 => by rw [jf j (by omega), iP j (by omega)])) (fP.trans ff) (fun j hj => by rw [jf j hj, iP j hj]) vf0)

end EzMa
/-! The model: line, where it was no LINE. (Written by wip/p2/py/pv84.py.) -/
section EzMe
variable {d : Nat} {h : cz_H} {τ : Nat → Nat} {Q : cz_F → Prop} {l : Nat} {kd n : Int}
theorem rd_mlE {x : Nat} (hB : ez_B τ h) (t770 : τ 770 = 75) (n0 : 0 ≤ n) (n1 : n ≤ 38500) (k : ∀ g, ez_B τ g → ez_fr (ez_one 770) h g → (∀ j, j ≠ 0 → j ≠ 10 → qz_I g 770 j = qz_I h 770 j) → pn g = n → qz_I g 770 0 = 3 → Q (.inl (some (ez_v (.inl 0))), g)) : ez_W (d + 1) cm_276 155 [(3, .inr (.inr (some (l)))), (2, .inl (n)), (0, .inr (.inr (some (770)))), (1, .inl (kd))] [.inr (.inr (some x))] h Q := by
  refine ez_go (n := 3) (pc' := 159) (L' := [(5, .inr (.inr (some (x)))), (3, .inr (.inr (some (l)))), (2, .inl (n)), (0, .inr (.inr (some (770)))), (1, .inl (kd))]) (st' := [.inl (n), .inr (.inr (some (770)))]) rfl ?_
  refine ez_pf hB t770 rfl rfl tq_75 rfl rfl rfl rfl (ez_vdI rfl rfl (by omega) (by omega)) (fun hB1 w2 => ?_)
  have fP : ez_fr (ez_one 770) h (dz_put h 770 10 (ez_v (.inl (n)))) := (ez_fr.refl (ez_one 770) h).put rfl _ _
  have vP : qz_I (dz_put h 770 10 (ez_v (.inl (n)))) 770 10 = n := w2.trans (rz_rd ⟨by omega, by omega⟩)
  have iP : ∀ j, j ≠ 10 → qz_I (dz_put h 770 10 (ez_v (.inl (n)))) 770 j = qz_I h 770 j := fun j hj => ez_put_I (fun w => hj w.2)
  have hP := hB1
  generalize (dz_put h 770 10 (ez_v (.inl (n)))) = h1 at *
  have cP1 := fP.1; have cP2 := fP.2.1
  refine ez_go (n := 2) (pc' := 164) (L' := [(5, .inr (.inr (some (x)))), (3, .inr (.inr (some (l)))), (2, .inl (n)), (0, .inr (.inr (some (770)))), (1, .inl (kd))]) (st' := [.inl (3), .inr (.inr (some (770)))]) rfl ?_
  refine ez_cv hP t770 rfl rfl rfl tq_75 rfl rfl rfl (rd_mfail hP t770 (by omega) (by omega) (fun gf hBf ff jf vf0 => ez_K1 ?_))
  exact ez_retI rfl rfl (k gf hBf (fP.trans ff) (fun j j0 j1 => by rw [jf j j0, iP j j1]) (by unfold pn; rw [jf 10 (by decide)]; exact vP) vf0)

end EzMe
/-! The model: what a call of line leaves as it was. -/
def fw (τ : Nat → Nat) (h : cz_H) (τ1 : Nat → Nat) (g : cz_H) (e : Int) : Prop :=
  (∀ q, τ q ≠ 0 → τ1 q = τ q ∧ (q ≠ 770 → q ≠ 789 → q ≠ 790 → τ q ≠ 17 → τ q ≠ 18 → τ q ≠ 30 → τ q ≠ 31 → g.2.2 q = h.2.2 q)) ∧ (∀ q, τ q = 0 → τ1 q ≠ 0 → 13 ≤ τ1 q ∧ τ1 q ≤ 33) ∧
  (∀ j, j ≠ 0 → j ≠ 2 → (j < 8 ∨ 12 < j) → j ≠ 17 → j ≠ 18 → qz_I g 770 j = qz_I h 770 j) ∧ qz_I g 770 2 = 0 ∧
  ((g.2.1 : Int) - h.2.1 ≤ 2 * (qz_N g (po g) - qz_N h (po h)) + 2 * (qz_N g (ls g) - qz_N h (ls h)) + e ∧ 1024 * ((g.1 : Int) - h.1) ≤ qz_N g (po g) - qz_N h (po h) + 16 * (qz_N g (ls g) - qz_N h (ls h)) + 128 * e) ∧ (qz_N h (po h) ≤ qz_N g (po g) ∧ qz_N h (ls h) ≤ qz_N g (ls g)) ∧ h.1 ≤ g.1 ∧ h.2.1 ≤ g.2.1
theorem fw_aq {τ τ1 : Nat → Nat} {h g : cz_H} {l : Nat} {kd : Int} (a : aq τ h τ1 g l kd) (hB : ez_B τ h) (hX : jz_X τ) : fw τ h τ1 g 24 := by
  have tt := ez_tls hB (hX 770 (by decide))
  have c1 := a.c hX tt.1 rfl
  have c2 := a.c hX tt.2 rfl
  obtain ⟨a1, a2, a3, a4, a5, a6, a7, a8, a9, ⟨a10, a11⟩, a12, a13⟩ := a
  have ep : po g = po h := by unfold po qz_P; rw [a8 9 (by decide) (by decide)]
  have el : ls g = ls h := by unfold ls qz_P; rw [a8 11 (by decide) (by decide)]
  have eN : qz_N g (po h) = qz_N h (po h) := by unfold qz_N; rw [c2]
  have eM : qz_N g (ls h) = qz_N h (ls h) := by unfold qz_N; rw [c1]
  refine ⟨fun q hq => ⟨(a6 q hq).1, fun q1 q2 q3 _ _ _ _ => (a6 q hq).2 q1 q2 q3⟩, fun q q0 q1 => ?_, fun j j0 j2 _ _ _ => a8 j j0 j2, a9, by rw [ep, el, eN, eM]; omega, by rw [ep, el, eN, eM]; omega, a10, a12⟩
  rcases a7 q q0 q1 with e | e | e <;> rw [e]
  · rw [a2.1]; omega
  · rw [a2.2.1]; omega
  · rw [a2.2.2]; omega
theorem fw_lq {τ τ1 τ2 : Nat → Nat} {h g g2 : cz_H} {l : Nat} {A : List Int} {e f : Int} (a : fw τ h τ1 g f) (b : lq (lX l (l + 1) (l + 2)) τ1 g τ2 g2 A e) (hB : ez_B τ1 g) (t770 : τ1 770 = 75) (hl : τ l = 0 ∧ τ (l + 1) = 0 ∧ τ (l + 2) = 0) (hl1 : τ1 l = 13 ∧ τ1 (l + 1) = 15 ∧ τ1 (l + 2) = 16) : fw τ h τ2 g2 (f + e) := by
  obtain ⟨a1, a2, a3, a4, a5, a6, a7⟩ := a
  have tt := ez_tls hB t770
  obtain ⟨b1, b2, b3, b4, b5, b6, b7, b8, b9, b10, b11⟩ := b
  have el : ls g2 = ls g := by unfold ls qz_P; rw [b4 11 (by decide) (by decide) (by decide) (by decide)]
  have c1 : g2.2.2 (ls g) = g.2.2 (ls g) := (b1 _ (by rw [tt.1]; decide)).2 (fun e => by have t := tt.1; rw [e, t770] at t; cases t) (fun e => by have t := tt.1; rw [e, tt.2] at t; cases t) (lX_tag hl1 tt.1 rfl) (by rw [tt.1]; decide) (by rw [tt.1]; decide)
  have eM : qz_N g2 (ls g) = qz_N g (ls g) := by unfold qz_N; rw [c1]
  refine ⟨fun q hq => ?_, fun q q0 q1 => ?_, fun j j0 j2 j3 j4 j5 => (b4 j (by omega) (by omega) j4 j5).trans (a3 j j0 j2 j3 j4 j5), (b4 2 (by decide) (by decide) (by decide) (by decide)).trans a4, by rw [el, eM]; omega, by rw [el, eM]; omega, by omega⟩
  · have y1 := a1 q hq
    have y2 := b1 q (by rw [y1.1]; exact hq)
    refine ⟨y2.1.trans y1.1, fun q1 q2 q3 q4 q5 q6 q7 => ?_⟩
    rw [y2.2 q1 (fun e => by rw [← y1.1, e, tt.2] at q4; exact q4 rfl) (by unfold lX; rw [dz_beq_ne (fun e => by rw [e] at hq; exact hq hl.1), dz_beq_ne (fun e => by rw [e] at hq; exact hq hl.2.1), dz_beq_ne (fun e => by rw [e] at hq; exact hq hl.2.2)]; rfl) (by rw [y1.1]; exact q6) (by rw [y1.1]; exact q7)]
    exact y1.2 q1 q2 q3 q4 q5 q6 q7
  · by_cases e : τ1 q = 0
    · have := b2 q e q1; omega
    · rw [(b1 q e).1]; exact a2 q q0 e
theorem fw_lu {τ τ1 τ2 : Nat → Nat} {h g g2 : cz_H} {l : Nat} {f : Int} (a : fw τ h τ1 g f) (u : lu τ1 g τ2 g2 l) (hB : ez_B τ1 g) (t770 : τ1 770 = 75) : fw τ h τ2 g2 f := by
  obtain ⟨a1, a2, a3, a4, a5, a6, a7⟩ := a
  have tt := ez_tls hB t770
  obtain ⟨u1, u2, u3, u4, u5, u6, u7, u8, u9, u10, u11⟩ := u
  have ep : po g2 = po g := by unfold po qz_P; rw [u4 9 (by decide) (by decide) (by decide)]
  have c1 : g2.2.2 (po g) = g.2.2 (po g) := (u1 _ (by rw [tt.2]; decide)).2 (fun e => by have t := tt.2; rw [e, t770] at t; cases t) (fun e => by have t := tt.2; rw [e, tt.1] at t; cases t)
  have eM : qz_N g2 (po g) = qz_N g (po g) := by unfold qz_N; rw [c1]
  refine ⟨fun q hq => ?_, fun q q0 q1 => ?_, fun j j0 j2 j3 j4 j5 => (u4 j (by omega) (by omega) (by omega)).trans (a3 j j0 j2 j3 j4 j5), (u4 2 (by decide) (by decide) (by decide)).trans a4, by rw [ep, eM]; omega, by rw [ep, eM]; omega, by omega⟩
  · have y1 := a1 q hq
    have y2 := u1 q (by rw [y1.1]; exact hq)
    refine ⟨y2.1.trans y1.1, fun q1 q2 q3 q4 q5 q6 q7 => ?_⟩
    rw [y2.2 q1 (fun e => by rw [← y1.1, e, tt.1] at q5; exact q5 rfl)]
    exact y1.2 q1 q2 q3 q4 q5 q6 q7
  · by_cases e : τ1 q = 0
    · have := u2 q e q1; omega
    · rw [(u1 q e).1]; exact a2 q q0 e
theorem fw_xc {τ τ1 : Nat → Nat} {h g g2 : cz_H} {k : Nat} {f : Int} (a : fw τ h τ1 g f) (hB : ez_B τ1 g) (t770 : τ1 770 = 75) (fr : ez_fr (ez_one 770) (xc g k) g2) (j2 : ∀ j, j ≠ 0 → j ≠ 10 → qz_I g2 770 j = qz_I (xc g k) 770 j) : fw τ h τ1 g2 (f + 8) := by
  obtain ⟨a1, a2, a3, a4, a5, a6, a7⟩ := a
  have tt := ez_tls hB t770
  have i7 : ∀ j, j ≠ 0 → j ≠ 10 → qz_I g2 770 j = qz_I g 770 j := fun j q1 q2 => by rw [j2 j q1 q2]; unfold qz_I; rw [xc_t hB (by rw [t770]; decide)]
  have c : ∀ q, τ1 q ≠ 0 → q ≠ 770 → g2.2.2 q = g.2.2 q := fun q q0 q1 => by rw [fr.2.2 q (dz_beq_ne q1), xc_t hB q0]
  have ep : po g2 = po g := by unfold po qz_P; rw [i7 9 (by decide) (by decide)]
  have el : ls g2 = ls g := by unfold ls qz_P; rw [i7 11 (by decide) (by decide)]
  have eN : qz_N g2 (po g) = qz_N g (po g) := by unfold qz_N; rw [c _ (by rw [tt.2]; decide) (fun e => by have t := tt.2; rw [e, t770] at t; cases t)]
  have eM : qz_N g2 (ls g) = qz_N g (ls g) := by unfold qz_N; rw [c _ (by rw [tt.1]; decide) (fun e => by have t := tt.1; rw [e, t770] at t; cases t)]
  have r1 : g2.1 = g.1 + 1 := fr.1
  have r2 : g2.2.1 = g.2.1 + 6 := fr.2.1
  refine ⟨fun q hq => ?_, a2, fun j j0 j2 j3 j4 j5 => (i7 j j0 (by omega)).trans (a3 j j0 j2 j3 j4 j5), (i7 2 (by decide) (by decide)).trans a4, by rw [ep, el, eN, eM]; omega, by rw [ep, el, eN, eM]; exact a6, by omega⟩
  have y1 := a1 q hq
  refine ⟨y1.1, fun q1 q2 q3 q4 q5 q6 q7 => ?_⟩
  rw [c q (by rw [y1.1]; exact hq) q1]
  exact y1.2 q1 q2 q3 q4 q5 q6 q7
theorem fw.mono {τ τ1 : Nat → Nat} {h g : cz_H} {e f : Int} (a : fw τ h τ1 g e) (h1 : e ≤ f) : fw τ h τ1 g f := by
  obtain ⟨a1, a2, a3, a4, a5, a6⟩ := a
  exact ⟨a1, a2, a3, a4, by omega, a6⟩
/-- a field that was cut begins and ends with no blank -/
theorem rz_back_nb (b : Int → Int) : ∀ (n : Nat) (e : Int), e - n < rz_back b n e → ¬ bk (b (rz_back b n e - 1))
  | 0, e, h => by unfold rz_back at h; omega
  | n + 1, e, h => by
    unfold rz_back at h ⊢
    by_cases w : b (e - 1) = 9 ∨ b (e - 1) = 32
    · rw [if_pos w] at h ⊢
      exact rz_back_nb b n (e - 1) (by omega)
    · rw [if_neg w] at h ⊢
      exact w
theorem rz_A_fl {b : Int → Int} {n : Int} {w : Nat} {A : List (Int × Int)} (hA : rz_A b n w A) (n1 : n ≤ 4096) {k : Int} (k0 : 0 ≤ k) (k1 : k < (w : Int)) : (0 ≤ rz_ff b A k ∧ rz_ff b A k ≤ rz_tt b A k) ∧ rz_tt b A k ≤ n ∧ (rz_ff b A k < rz_tt b A k → ¬ bk (b (rz_ff b A k)) ∧ ¬ bk (b (rz_tt b A k - 1))) ∧ (∀ j, rz_ff b A k ≤ j → j < rz_tt b A k → 0 ≤ b j ∧ b j ≤ 127) := by
  obtain ⟨c, hp, h2, rfl, h4⟩ := hA
  have hk : k.toNat < (rz_seg b c.toNat 0 0).length := by omega
  have hm : (rz_seg b c.toNat 0 0).getD k.toNat (0, 0) ∈ rz_seg b c.toNat 0 0 := by
    rw [List.getD_eq_getElem?_getD, List.getElem?_eq_getElem hk]
    exact List.getElem_mem hk
  have h0 := rz_seg_le b c.toNat 0 0 (Int.le_refl _) _ hm
  unfold rz_ff rz_tt
  generalize (rz_seg b c.toNat 0 0).getD k.toNat (0, 0) = p at *
  have h3 := rz_tl_tr b p h0.2.1
  have c1 := h2.1
  have c2 := h2.2.1
  refine ⟨⟨by omega, h3.2.1⟩, by omega, fun hlt => ⟨?_, ?_⟩, fun j j0 j1 => ?_⟩
  · have e1 : rz_tl b p = rz_skip b (p.2 - p.1).toNat p.1 := rfl
    rw [e1]
    exact skip_stop b _ _ (by rw [← e1]; omega)
  · have e2 : rz_tr b p = rz_back b (p.2 - rz_tl b p).toNat p.2 := rfl
    rw [e2]
    exact rz_back_nb b _ _ (by rw [← e2]; omega)
  · rcases hp j (by omega) (by omega) with e | e <;> omega
theorem vD_mk {k f t r : Int} {dec : Option (Int × List Int)} {y : vy} (h : ∀ q, dec = some q → 0 ≤ q.1) : vD (k, f, t, r, dT dec, dA dec, y) = dec := by
  unfold vD
  cases dec with
  | none => rfl
  | some q =>
    have := h q rfl
    show (if q.1 + 1 = 0 then none else some (q.1 + 1 - 1, q.2)) = some q
    rw [if_neg (by omega), Int.add_sub_cancel]
theorem nl_lq {τ τ1 : Nat → Nat} {h g : cz_H} {Ls : List vz} {l : Nat} {A : List Int} {b e : Int} (hI : mI τ h Ls b) (hl : τ l = 13 ∧ τ (l + 1) = 15 ∧ τ (l + 2) = 16) (q : lq (lX l (l + 1) (l + 2)) τ h τ1 g A e) (hn : ∀ i : Nat, (i : Int) < lc h → qz_P h (ls h) i ≠ l) : ∀ i : Nat, (i : Int) < lc g → qz_P g (ls g) i ≠ l := by
  have t770 := hI.2.1 770 (by decide)
  have tt := ez_tls hI.1 t770
  have el : ls g = ls h := by unfold ls qz_P; rw [q.2.2.2.1 11 (by decide) (by decide) (by decide) (by decide)]
  have ec : lc g = lc h := q.2.2.2.1 12 (by decide) (by decide) (by decide) (by decide)
  have c1 : g.2.2 (ls h) = h.2.2 (ls h) := (q.1 _ (by rw [tt.1]; decide)).2 (fun e => by have t := tt.1; rw [e, t770] at t; cases t) (fun e => by have t := tt.1; rw [e, tt.2] at t; cases t) (lX_tag hl tt.1 rfl) (by rw [tt.1]; decide) (by rw [tt.1]; decide)
  intro i hi
  rw [ec] at hi
  have := hn i hi
  rw [el]; unfold qz_P qz_I at this ⊢; rw [c1]; exact this
theorem nl_aq {τ τ1 : Nat → Nat} {h g : cz_H} {Ls : List vz} {l : Nat} {kd b : Int} (hI : mI τ h Ls b) (a : aq τ h τ1 g l kd) : ∀ i : Nat, (i : Int) < lc g → qz_P g (ls g) i ≠ l := by
  have tt := ez_tls hI.1 (hI.2.1 770 (by decide))
  have c1 := a.c hI.2.1 tt.1 rfl
  have a8 := a.2.2.2.2.2.2.2.1
  have el : ls g = ls h := by unfold ls qz_P; rw [a8 11 (by decide) (by decide)]
  have ec : lc g = lc h := a8 12 (by decide) (by decide)
  intro i hi e
  rw [ec] at hi
  have t := (hI.L hi).1
  have e2 : qz_P g (ls g) i = qz_P h (ls h) i := by rw [el]; unfold qz_P qz_I; rw [c1]
  rw [← e2, e, a.1.1] at t
  cases t
theorem vf_no {F : rz_W} {x : vz} (h : x.1 ≠ 0) : vf F x = F := funext fun y => by unfold vf; rw [if_neg (fun w => h w.1)]
theorem ve_no {E : Int → Prop} {x : vz} (h : x.1 ≠ 3 ∨ x.2.2.2.2.1 ≠ 0) : ve E x = E := funext fun y => propext ⟨fun w => by
  rcases w with w | w
  · exact w
  · rcases h with h | h
    · exact absurd w.1 h
    · exact absurd w.2.1 h, Or.inl⟩
/-! The model: line. (Written by wip/p2/py/pv85.py.) -/
theorem rz_PV_bd {b : Int → Int} {s t gr nm : Int} (h : rz_PV b s t gr nm) (h2 : rz_PK b s t) : (0 ≤ gr ∧ gr ≤ 2) ∧ 0 ≤ nm ∧ (gr = 2 → nm < 6) := by
  rcases h with ⟨a, e1, e2⟩ | ⟨a, c, e1, e2⟩ | ⟨a, c, e1, e2⟩
  · have q := (nz_ix_bd (nz_w b (s + 4) (t - (s + 4)).toNat) nzN_4).1
    rcases h2 with ⟨-, w⟩ | ⟨w, -⟩ | ⟨w, -⟩
    · exact ⟨by omega, by omega, fun w => by omega⟩
    · exact absurd a w
    · exact absurd a w
  · have q := (nz_ix_bd (nz_w b (s + 3) (t - (s + 3)).toNat) nzN_6).1
    rcases h2 with ⟨w, -⟩ | ⟨-, -, w⟩ | ⟨-, w, -⟩
    · exact absurd w a
    · exact ⟨by omega, by omega, fun w => by omega⟩
    · exact absurd c w
  · have q := nz_ix_bd (nz_w b s (t - s).toNat) nzN_2
    have q2 : nz_ix nzN_2 (nz_w b s (t - s).toNat) < 6 := q.2
    rcases h2 with ⟨w, -⟩ | ⟨-, w, -⟩ | ⟨-, -, w⟩
    · exact absurd w a
    · exact absurd w c
    · exact ⟨by omega, by have := q.1; omega, fun _ => by omega⟩
section EzMz
variable {d : Nat} {h : cz_H} {τ : Nat → Nat} {Q : cz_F → Prop} {Ls : List vz}
theorem rd_mline0 (hI : mI τ h Ls 0) (hlc : qz_I h 770 2 = 0 ∨ lc h ≤ 255) (hr1 : h.1 + 25000 ≤ 600192) (hr2 : h.2.1 + 900000 ≤ 7302232) (kS : qz_I h 770 7 ≠ 0 → ∀ g, mI τ g Ls 0 → ez_fr (ez_one 770) h g → (∀ j, j ≠ 0 → qz_I g 770 j = qz_I h 770 j) → qz_I g 770 0 = 2 → Q (.inl (some (ez_v (.inl 0))), g)) (kC : qz_I h 770 7 = 0 → ∀ g τ1 Ls2 v, mI τ1 g Ls2 0 → fw τ h τ1 g (45 * qz_I h 770 2 + 100) → rz_step (mb h) (qz_I h 770 2) 0 (vF Ls) (vE Ls) (vF Ls2) (vE Ls2) → (lc g = lc h ∨ (lc g = lc h + 1 ∧ 0 < qz_I h 770 2)) → ((qz_I g 770 0 = 0 ∧ v ≠ -1 ∧ rz_an (mb h) (qz_I h 770 2) 7 (rz_g0 (mb h)) v ∧ ∃ x : vz, Ls2 = Ls ++ [x] ∧ lyE (mb h) (qz_I h 770 2) 0 x.2.2.2.2.2.2) ∨ (qz_I g 770 0 = 3 ∧ rz_an (mb h) (qz_I h 770 2) 7 (rz_g0 (mb h)) (-1) ∧ Ls2 = Ls)) → Q (.inl (some (ez_v (.inl v))), g)) : ez_W (d + 10) cm_276 0 [(0, .inr (.inr (some (770)))), (1, .inl (0))] [] h Q := by
  have b2 : 0 ≤ qz_I h 770 2 ∧ qz_I h 770 2 ≤ 4096 := ez_fB (cl := 11) (k := 2) hI.1 (hI.2.1 770 (by decide)) tq_75 rfl rfl (by decide)
  refine rd_mlA0 (d := d + 2) hI (by omega) (by omega) kS (fun hs l g τ1 A a I1 hA hfl => ?_) (fun hs l g τ1 a I1 hno => ?_)
  · skip
    have t7 : τ1 770 = 75 := I1.2.1 770 (by decide)
    have hl3 := a.2.1
    have l78 := ez_l78 I1.1 hl3.1
    have hlz : lz l := ⟨fun e => (by have t := hl3.1; rw [e, t7] at t; cases t), fun e => (by have t := hl3.1; rw [e, I1.2.1 771 (by decide)] at t; cases t), fun e => (by have t := hl3.1; rw [e, I1.2.1 789 (by decide)] at t; cases t), fun e => (by have t := hl3.1; rw [e, I1.2.1 790 (by decide)] at t; cases t)⟩
    have tt := ez_tls I1.1 t7
    have usp : τ1 (qz_P g l 7) = 15 := by rw [l78.1]; exact hl3.2.1
    have ucp : τ1 (qz_P g l 8) = 16 := by rw [l78.2]; exact hl3.2.2
    have eb : mb g = mb h := funext fun k => by unfold mb qz_I; rw [a.c hI.2.1 (hI.2.1 771 (by decide)) rfl]
    have a8 := a.2.2.2.2.2.2.2.1
    have en : pn g = pn h := a8 10 (by decide) (by decide)
    have ec : lc g = lc h := a8 12 (by decide) (by decide)
    have hbn : 0 < qz_I h 770 2 := rz_A_pos (by decide) hA
    have hlc2 : lc h ≤ 255 := by omega
    have b10 : 0 ≤ pn g ∧ pn g ≤ 38500 := ez_fB (cl := 11) (k := 10) I1.1 t7 tq_75 rfl rfl (by decide)
    have nN : 1024 ≤ qz_N g (po g) ∧ qz_N g (po g) ≤ 77100 := ez_len I1.1 tt.2 tq_17 rfl
    have np := I1.2.2.1.2.2
    have FF : ∀ k, 0 ≤ k → k < 7 → (0 ≤ mf g k ∧ mf g k ≤ mt g k) ∧ mt g k ≤ qz_I h 770 2 ∧ (mf g k < mt g k → ¬ bk (mb g (mf g k)) ∧ ¬ bk (mb g (mt g k - 1))) ∧ (∀ j, mf g k ≤ j → j < mt g k → 0 ≤ mb g j ∧ mb g j ≤ 127) := fun k k0 k1 => by rw [(hfl k k0 k1).1, (hfl k k0 k1).2, eb]; exact rz_A_fl hA b2.2 k0 (by show k < ((7 : Nat) : Int); omega)
    have hF : ∀ k, 0 ≤ k → k < 7 → (0 ≤ mf g k ∧ mf g k ≤ mt g k) ∧ mt g k ≤ 4096 := fun k k0 k1 => ⟨(FF k k0 k1).1, by have := (FF k k0 k1).2.1; omega⟩
    have hTr : ∀ k, 0 ≤ k → k < 7 → mf g k < mt g k → ¬ bk (mb g (mf g k)) ∧ ¬ bk (mb g (mt g k - 1)) := fun k k0 k1 => (FF k k0 k1).2.2.1
    have hnl := nl_aq hI a
    have hlg0 : l2 (l + 1) (l + 2) g := ⟨fun j => by rw [a.2.2.2.1, a.2.2.2.2.1]; omega, by rw [a.2.2.2.1, a.2.2.2.2.1]; omega⟩
    have hl2 : l2 (qz_P g l 7) (qz_P g l 8) g := by rw [l78.1, l78.2]; exact hlg0
    have hc0 : ∀ j, qz_I g (qz_P g l 8) j = 0 := fun j => by rw [l78.2]; exact a.2.2.2.2.1 j
    have cr := a.2.2.2.2.2.2.2.2.2
    refine ez_go (n := 1) (pc' := 97) (L' := [(3, .inr (.inr (some (l)))), (2, .inl (pn h)), (0, .inr (.inr (some (770)))), (1, .inl (0))]) (st' := [.inl (0)]) rfl ?_
    refine ez_if rfl rfl ⟨by decide, by decide⟩ (fun (c1 : (0 : Int) ≠ (0)) => absurd c1 (by decide)) (fun _ => ?_)
    refine ez_go (n := 2) (pc' := 102) (L' := [(3, .inr (.inr (some (l)))), (2, .inl (pn h)), (0, .inr (.inr (some (770)))), (1, .inl (0))]) (st' := [.inr (.inr (some (l))), .inr (.inr (some (770)))]) rfl ?_
    refine ez_cv I1.1 t7 rfl rfl rfl tq_75 rfl rfl rfl (rd_points (d := d) I1.1 t7 hl3.1 hlz usp ucp tt.2 b10.1 I1.2.2.1.1.2 (by omega) nN.1 (by omega) (by omega) hl2 (hc0 0) (hTr 3 (by omega) (by omega)) hF a.2.2.1.2.1 a.2.2.1.2.2 (fun first last cls dec hF2 g2 τ2 hB2 hp y1 y2 y4 y5 ys yc yu yo => ez_K0 ?_) (fun hno g2 τ2 A2 hB2 hp => ez_Kc (xc_exc hB2 rfl) rfl ?_))
    · skip
      rw [l78.1, l78.2] at hp; rw [l78.1] at ys; rw [l78.2] at yc
      have q2 := hp.1.lq
      have lg2 := hp.2.1
      have h42 : qz_I g2 l 0 = 4 → qz_I g2 (l + 1) 1 + 4 * qz_I g2 (l + 2) 1 ≤ qz_N g2 (po g2) := fun _ => hp.2.2
      have v7 : τ2 770 = 75 := (q2.1 770 (by rw [t7]; decide)).1.trans t7
      have hl4 : τ2 l = 13 ∧ τ2 (l + 1) = 15 ∧ τ2 (l + 2) = 16 := ⟨(q2.1 l (by rw [hl3.1]; decide)).1.trans hl3.1, (q2.1 _ (by rw [hl3.2.1]; decide)).1.trans hl3.2.1, (q2.1 _ (by rw [hl3.2.2]; decide)).1.trans hl3.2.2⟩
      have II := I1.lq hl3 hnl q2 hB2 lg2 h42
      have rr := q2.2.2.2.2.2.2.2.2.1
      have rp := pool_le hB2 q2.2.2.1
      have fq := fw_lq (fw_aq a hI.1 hI.2.1) q2 I1.1 t7 a.1 hl3
      refine ez_go (n := 2) (pc' := 168) (L' := [(3, .inr (.inr (some (l)))), (2, .inl (pn h)), (0, .inr (.inr (some (770)))), (1, .inl (0))]) (st' := []) rfl ?_
      refine ez_less [(1, .inl (0)), (3, .inr (.inr (some (l)))), (0, .inr (.inr (some (770))))] rfl ⟨rfl, rfl, rfl, trivial⟩ ?_
      have hvx : vx g2 l (((0 : Int), rz_first (mb h) (rz_ff (mb h) A 0) (rz_tt (mb h) A 0), rz_last (mb h) (rz_ff (mb h) A 0) (rz_tt (mb h) A 0)), (mb h (rz_ff (mb h) A 1) * 256 + mb h (rz_ff (mb h) A 1 + 1), rz_code (mb h) (rz_ff (mb h) A 4) (rz_tt (mb h) A 4), rz_code (mb h) (rz_ff (mb h) A 5) (rz_tt (mb h) A 5), rz_code (mb h) (rz_ff (mb h) A 6) (rz_tt (mb h) A 6)), ((0 : Int), (0 : Int)), ((0 : Int), ([] : List Int), ([] : List Int), ([] : List Int))) := by
        refine ⟨(yo 0 (by decide) (by decide) (by decide) (by decide) (by decide) (by decide) (by decide) (by decide)).trans a.2.2.1.1, fun _ => ⟨⟨?_, ?_⟩, ?_⟩, fun e => absurd e (by show ¬ (0 : Int) = 1; decide), fun e => absurd e (by show ¬ (0 : Int) = 2; decide), fun e => absurd e (by show ¬ (0 : Int) = 3; decide)⟩
        · show qz_I g2 l 1 = rz_first (mb h) (rz_ff (mb h) A 0) (rz_tt (mb h) A 0)
          rw [y1, hF2.1.1, eb, (hfl 0 (by omega) (by omega)).1, (hfl 0 (by omega) (by omega)).2]
        · show qz_I g2 l 2 = rz_last (mb h) (rz_ff (mb h) A 0) (rz_tt (mb h) A 0)
          rw [y2, hF2.1.2.1, eb, (hfl 0 (by omega) (by omega)).1, (hfl 0 (by omega) (by omega)).2]
        · rw [eb, (hfl 1 (by omega) (by omega)).1, (hfl 4 (by omega) (by omega)).1, (hfl 4 (by omega) (by omega)).2, (hfl 5 (by omega) (by omega)).1, (hfl 5 (by omega) (by omega)).2, (hfl 6 (by omega) (by omega)).1, (hfl 6 (by omega) (by omega)).2] at yu
          exact yu
      have hly : lyE (mb h) (qz_I h 770 2) 0 (((0 : Int), rz_first (mb h) (rz_ff (mb h) A 0) (rz_tt (mb h) A 0), rz_last (mb h) (rz_ff (mb h) A 0) (rz_tt (mb h) A 0)), (mb h (rz_ff (mb h) A 1) * 256 + mb h (rz_ff (mb h) A 1 + 1), rz_code (mb h) (rz_ff (mb h) A 4) (rz_tt (mb h) A 4), rz_code (mb h) (rz_ff (mb h) A 5) (rz_tt (mb h) A 5), rz_code (mb h) (rz_ff (mb h) A 6) (rz_tt (mb h) A 6)), ((0 : Int), (0 : Int)), ((0 : Int), ([] : List Int), ([] : List Int), ([] : List Int))) := Or.inl ⟨rfl, A, hA, rfl⟩
      have hdc : (dec = none ∨ ∃ cp bg vs, rz_db (mb g) (mf g 3) (mt g 3) = some (cp, bg) ∧ rz_rw (mb g) 18 bg (mt g 3) = some vs ∧ dec = some (cp, vs) ∧ first = last) := by
        rcases hF2.2.2.2.1 with ⟨w1, w2⟩ | ⟨w1, cp, bg, vs, w2, w3, w4⟩
        · exact Or.inl w2
        · refine Or.inr ⟨cp, bg, vs, w2, w3, w4, ?_⟩
          by_cases e : first < last
          · exact absurd (hF2.2.2.2.2.2 e 3 (by omega) (by omega)) w1
          · have := hF2.1.2.2.2; omega
      have dpos : ∀ q, dec = some q → 0 ≤ q.1 := fun q hq => by
        rcases hdc with w | ⟨cp, bg, vs, w2, w3, w4, w5⟩
        · rw [w] at hq; cases hq
        · rw [w4] at hq; cases hq
          rcases rz_db_cp w2 with e | e <;> (show 0 ≤ cp) <;> omega
      have hdl : (dA dec).length ≤ 18 := by
        rcases hdc with w | ⟨cp, bg, vs, w2, w3, w4, w5⟩
        · rw [w]; exact Nat.zero_le _
        · rw [w4]; have := rw_18 w3; show vs.length ≤ 18; omega
      have hA75 : ((dA dec).length : Int) ≤ 75 := by omega
      have hvc : vc g2 l ((0 : Int), first, last, cls, dT dec, dA dec, (((0 : Int), rz_first (mb h) (rz_ff (mb h) A 0) (rz_tt (mb h) A 0), rz_last (mb h) (rz_ff (mb h) A 0) (rz_tt (mb h) A 0)), (mb h (rz_ff (mb h) A 1) * 256 + mb h (rz_ff (mb h) A 1 + 1), rz_code (mb h) (rz_ff (mb h) A 4) (rz_tt (mb h) A 4), rz_code (mb h) (rz_ff (mb h) A 5) (rz_tt (mb h) A 5), rz_code (mb h) (rz_ff (mb h) A 6) (rz_tt (mb h) A 6)), ((0 : Int), (0 : Int)), ((0 : Int), ([] : List Int), ([] : List Int), ([] : List Int)))) := by
        refine ⟨⟨(yo 0 (by decide) (by decide) (by decide) (by decide) (by decide) (by decide) (by decide) (by decide)).trans a.2.2.1.1, y1, y2, y4, y5⟩, fun _ => ⟨?_, fun hne => ?_⟩⟩
        · show 0 ≤ dT dec
          cases dec with
          | none => exact Int.le_refl _
          | some q => have := dpos q rfl; show 0 ≤ q.1 + 1; omega
        · have hdn : dec ≠ none := fun e => hne (by rw [e]; rfl)
          have hfl2 : first = last := by
            rcases hdc with w | ⟨cp, bg, vs, w2, w3, w4, w5⟩
            · exact absurd w hdn
            · exact w5
          have s0 := ys hdn
          have p5 := hp.1.2.2.2.2.1
          refine ⟨hfl2, ⟨yc, ?_, ?_⟩, fun j v hv => ?_⟩
          · show qz_I g2 (l + 1) 0 + ((dA dec).length : Int) ≤ pn g2; rw [s0, p5]; exact Int.le_refl _
          · rw [s0]; exact b10.1
          · rw [s0]; exact hp.1.2.2.2.2.2.2.1 j v hv
      have hF3 : rz_L0 (mb h) (qz_I h 770 2) first last cls dec := ⟨A, hA, by rw [eb] at hF2; exact rz_F_congr (fun k k0 k6 => (hfl k k0 (by omega)).1) (fun k k0 k6 => (hfl k k0 (by omega)).2) hF2⟩
      have hst : rz_step (mb h) (qz_I h 770 2) 0 (vF Ls) (vE Ls) (vF (Ls ++ [((0 : Int), first, last, cls, dT dec, dA dec, (((0 : Int), rz_first (mb h) (rz_ff (mb h) A 0) (rz_tt (mb h) A 0), rz_last (mb h) (rz_ff (mb h) A 0) (rz_tt (mb h) A 0)), (mb h (rz_ff (mb h) A 1) * 256 + mb h (rz_ff (mb h) A 1 + 1), rz_code (mb h) (rz_ff (mb h) A 4) (rz_tt (mb h) A 4), rz_code (mb h) (rz_ff (mb h) A 5) (rz_tt (mb h) A 5), rz_code (mb h) (rz_ff (mb h) A 6) (rz_tt (mb h) A 6)), ((0 : Int), (0 : Int)), ((0 : Int), ([] : List Int), ([] : List Int), ([] : List Int))))])) (vE (Ls ++ [((0 : Int), first, last, cls, dT dec, dA dec, (((0 : Int), rz_first (mb h) (rz_ff (mb h) A 0) (rz_tt (mb h) A 0), rz_last (mb h) (rz_ff (mb h) A 0) (rz_tt (mb h) A 0)), (mb h (rz_ff (mb h) A 1) * 256 + mb h (rz_ff (mb h) A 1 + 1), rz_code (mb h) (rz_ff (mb h) A 4) (rz_tt (mb h) A 4), rz_code (mb h) (rz_ff (mb h) A 5) (rz_tt (mb h) A 5), rz_code (mb h) (rz_ff (mb h) A 6) (rz_tt (mb h) A 6)), ((0 : Int), (0 : Int)), ((0 : Int), ([] : List Int), ([] : List Int), ([] : List Int))))])) := by
        rw [vF_app, vE_app]
        refine ⟨fun _ => Or.inl ⟨first, last, cls, dec, hF3, fun y => ?_, ve_no (Or.inl (by show (0 : Int) ≠ 3; decide))⟩, fun e => absurd e (by decide), fun e => absurd rfl e⟩
        show (if (0 : Int) = 0 ∧ first ≤ y ∧ y ≤ last then (cls, vD ((0 : Int), first, last, cls, dT dec, dA dec, (((0 : Int), rz_first (mb h) (rz_ff (mb h) A 0) (rz_tt (mb h) A 0), rz_last (mb h) (rz_ff (mb h) A 0) (rz_tt (mb h) A 0)), (mb h (rz_ff (mb h) A 1) * 256 + mb h (rz_ff (mb h) A 1 + 1), rz_code (mb h) (rz_ff (mb h) A 4) (rz_tt (mb h) A 4), rz_code (mb h) (rz_ff (mb h) A 5) (rz_tt (mb h) A 5), rz_code (mb h) (rz_ff (mb h) A 6) (rz_tt (mb h) A 6)), ((0 : Int), (0 : Int)), ((0 : Int), ([] : List Int), ([] : List Int), ([] : List Int))))) else vF Ls y) = _
        rw [vD_mk dpos]
        by_cases e : first ≤ y ∧ y ≤ last
        · rw [if_pos ⟨rfl, e⟩, if_pos e]
        · rw [if_neg (fun w => e w.2), if_neg e]
      have hFc : rz_F (mb h) (rz_ff (mb h) A) (rz_tt (mb h) A) first last cls dec := by rw [eb] at hF2; exact rz_F_congr (fun k k0 k6 => (hfl k k0 (by omega)).1) (fun k k0 k6 => (hfl k k0 (by omega)).2) hF2
      have hfl9 := hF2.1.2.2.2
      have hans : ∀ v, v = (if (0 : Int) = 4 then qz_I g2 (qz_P g2 l 8) 0 else qz_I g2 l 2 - qz_I g2 l 1 + 1) → v ≠ -1 ∧ rz_an (mb h) (qz_I h 770 2) 7 (rz_g0 (mb h)) v := fun v hv => by
        rw [if_neg (by decide), y1, y2] at hv
        exact ⟨by omega, Or.inl ⟨A, hA, first, last, cls, dec, hFc, hv⟩⟩
      have I2 := II.1
      have ec2 : lc g2 = lc h := (q2.2.2.2.1 12 (by decide) (by decide) (by decide) (by decide)).trans ec
      have tcp2 : τ2 (qz_P g2 l 8) = 16 := by rw [(ez_l78 hB2 hl4.1).2]; exact hl4.2.2
      refine rd_ml hB2 v7 hl4.1 (ez_tls hB2 v7).1 tcp2 ⟨by omega, by omega⟩ I2.2.2.1.1.1 (by omega) I2.2.2.1.2.1 I2.2.2.2.1.1 (by omega) (by omega) (fun g3 τ3 v hB3 u hv => kC hs g3 τ3 _ v (mI.lu (x := ((0 : Int), first, last, cls, dT dec, dA dec, (((0 : Int), rz_first (mb h) (rz_ff (mb h) A 0) (rz_tt (mb h) A 0), rz_last (mb h) (rz_ff (mb h) A 0) (rz_tt (mb h) A 0)), (mb h (rz_ff (mb h) A 1) * 256 + mb h (rz_ff (mb h) A 1 + 1), rz_code (mb h) (rz_ff (mb h) A 4) (rz_tt (mb h) A 4), rz_code (mb h) (rz_ff (mb h) A 5) (rz_tt (mb h) A 5), rz_code (mb h) (rz_ff (mb h) A 6) (rz_tt (mb h) A 6)), ((0 : Int), (0 : Int)), ((0 : Int), ([] : List Int), ([] : List Int), ([] : List Int))))) I2 hA75 hl4 (nl_lq I1 hl3 q2 hnl) u hB3 ⟨hvc, hvx⟩) ((fw_lu fq u hB2 v7).mono (by omega)) hst (Or.inr ⟨by rw [u.2.2.2.2.1, ec2], hbn⟩) (Or.inl ⟨by rw [u.2.2.2.1 0 (by decide) (by decide) (by decide), q2.2.2.2.1 0 (by decide) (by decide) (by decide) (by decide)]; exact cr.2.2.2.2, (hans v hv).1, (hans v hv).2, ((0 : Int), first, last, cls, dT dec, dA dec, (((0 : Int), rz_first (mb h) (rz_ff (mb h) A 0) (rz_tt (mb h) A 0), rz_last (mb h) (rz_ff (mb h) A 0) (rz_tt (mb h) A 0)), (mb h (rz_ff (mb h) A 1) * 256 + mb h (rz_ff (mb h) A 1 + 1), rz_code (mb h) (rz_ff (mb h) A 4) (rz_tt (mb h) A 4), rz_code (mb h) (rz_ff (mb h) A 5) (rz_tt (mb h) A 5), rz_code (mb h) (rz_ff (mb h) A 6) (rz_tt (mb h) A 6)), ((0 : Int), (0 : Int)), ((0 : Int), ([] : List Int), ([] : List Int), ([] : List Int)))), rfl, hly⟩))
    · skip
      rw [l78.1, l78.2] at hp
      have q2 := hp.1.lq
      have lg2 := hp.2.1
      have h42 : qz_I g2 l 0 = 4 → qz_I g2 (l + 1) 1 + 4 * qz_I g2 (l + 2) 1 ≤ qz_N g2 (po g2) := fun _ => hp.2.2
      have v7 : τ2 770 = 75 := (q2.1 770 (by rw [t7]; decide)).1.trans t7
      have hl4 : τ2 l = 13 ∧ τ2 (l + 1) = 15 ∧ τ2 (l + 2) = 16 := ⟨(q2.1 l (by rw [hl3.1]; decide)).1.trans hl3.1, (q2.1 _ (by rw [hl3.2.1]; decide)).1.trans hl3.2.1, (q2.1 _ (by rw [hl3.2.2]; decide)).1.trans hl3.2.2⟩
      have II := I1.lq hl3 hnl q2 hB2 lg2 h42
      have rr := q2.2.2.2.2.2.2.2.2.1
      have rp := pool_le hB2 q2.2.2.1
      have fq := fw_lq (fw_aq a hI.1 hI.2.1) q2 I1.1 t7 a.1 hl3
      have hst : rz_step (mb h) (qz_I h 770 2) 0 (vF Ls) (vE Ls) (vF Ls) (vE Ls) := by
        refine ⟨fun _ => Or.inr ⟨?_, rfl, rfl⟩, fun e => absurd e (by decide), fun e => absurd rfl e⟩
        rintro ⟨first, last, cls, dec, A', hA', hF'⟩
        rw [rz_A_uniq hA' hA] at hF'
        exact hno first last cls dec (by rw [eb]; exact rz_F_congr (fun k k0 k6 => ((hfl k k0 (by omega)).1).symm) (fun k k0 k6 => ((hfl k k0 (by omega)).2).symm) hF')
      have hnan : rz_an (mb h) (qz_I h 770 2) 7 (rz_g0 (mb h)) (-1) := rz_an_f hA (fun v w => by obtain ⟨first, last, cls, dec, w1, -⟩ := w; exact hno first last cls dec (by rw [eb]; exact rz_F_congr (fun k k0 k6 => ((hfl k k0 (by omega)).1).symm) (fun k k0 k6 => ((hfl k k0 (by omega)).2).symm) w1))
      refine ez_less [(3, .inr (.inr (some (l)))), (2, .inl (pn h)), (0, .inr (.inr (some (770)))), (1, .inl (0))] rfl ⟨rfl, rfl, rfl, rfl, trivial⟩ ?_
      refine rd_mlE (d := d + 9) (n := pn h) (xc_B hB2 (by omega) (by omega)) v7 (by omega) (by omega) (fun g3 hB3 f3 j3 p3 z3 => kC hs g3 τ2 Ls 0 (II.2 0 (by omega) g3 hB3 (fun q hq h7 => by rw [f3.2.2 q (dz_beq_ne h7), xc_t hB2 hq]) (fun j j0 j10 => by rw [j3 j j0 j10]; unfold qz_I; rw [xc_t hB2 (by rw [v7]; decide)]) (by rw [p3, en]; omega) (by omega)) ((fw_xc fq hB2 v7 f3 j3).mono (by omega)) hst (Or.inl ?_) (Or.inr ⟨z3, hnan, rfl⟩))
      show qz_I g3 770 12 = qz_I h 770 12
      rw [j3 12 (by decide) (by decide)]; unfold qz_I; rw [xc_t hB2 (by rw [v7]; decide)]
      exact (q2.2.2.2.1 12 (by decide) (by decide) (by decide) (by decide)).trans ec
  · skip
    have t7 : τ1 770 = 75 := I1.2.1 770 (by decide)
    have en : pn g = pn h := a.2.2.2.2.2.2.2.1 10 (by decide) (by decide)
    have ec : lc g = lc h := a.2.2.2.2.2.2.2.1 12 (by decide) (by decide)
    have b10 : 0 ≤ pn g ∧ pn g ≤ 38500 := ez_fB (cl := 11) (k := 10) I1.1 t7 tq_75 rfl rfl (by decide)
    have cr := a.2.2.2.2.2.2.2.2.2
    refine rd_mlE (d := d + 9) (n := pn h) (xc_B I1.1 (by omega) (by omega)) t7 (by omega) (by omega) (fun g3 hB3 f3 j3 p3 z3 => kC hs g3 τ1 Ls 0 (I1.f7 hB3 (fun q hq h7 => by rw [f3.2.2 q (dz_beq_ne h7), xc_t I1.1 hq]) (fun j j1 j2 => ?_)) ((fw_xc (fw_aq a hI.1 hI.2.1) I1.1 t7 f3 j3).mono (by omega)) ⟨fun _ => Or.inr ⟨fun ⟨f, la, c, dd, A', hA', _⟩ => hno ⟨A', hA'⟩, rfl, rfl⟩, fun e => absurd e (by decide), fun e => absurd rfl e⟩ (Or.inl ?_) (Or.inr ⟨z3, rz_an_n hno, rfl⟩))
    · by_cases e : j = 10
      · subst e; exact p3.trans en.symm
      · rw [j3 j (by omega) e]; unfold qz_I; rw [xc_t I1.1 (by rw [t7]; decide)]
    · show qz_I g3 770 12 = qz_I h 770 12
      rw [j3 12 (by decide) (by decide)]; unfold qz_I; rw [xc_t I1.1 (by rw [t7]; decide)]
      exact ec

theorem rd_mline1 (hI : mI τ h Ls 0) (hlc : qz_I h 770 2 = 0 ∨ lc h ≤ 255) (hr1 : h.1 + 25000 ≤ 600192) (hr2 : h.2.1 + 900000 ≤ 7302232) (kS : qz_I h 770 7 ≠ 0 → ∀ g, mI τ g Ls 0 → ez_fr (ez_one 770) h g → (∀ j, j ≠ 0 → qz_I g 770 j = qz_I h 770 j) → qz_I g 770 0 = 2 → Q (.inl (some (ez_v (.inl 0))), g)) (kC : qz_I h 770 7 = 0 → ∀ g τ1 Ls2 v, mI τ1 g Ls2 0 → fw τ h τ1 g (45 * qz_I h 770 2 + 100) → rz_step (mb h) (qz_I h 770 2) 1 (vF Ls) (vE Ls) (vF Ls2) (vE Ls2) → (lc g = lc h ∨ (lc g = lc h + 1 ∧ 0 < qz_I h 770 2)) → ((qz_I g 770 0 = 0 ∧ v ≠ -1 ∧ rz_an (mb h) (qz_I h 770 2) 5 (rz_g1 (mb h)) v ∧ ∃ x : vz, Ls2 = Ls ++ [x] ∧ lyE (mb h) (qz_I h 770 2) 1 x.2.2.2.2.2.2) ∨ (qz_I g 770 0 = 3 ∧ rz_an (mb h) (qz_I h 770 2) 5 (rz_g1 (mb h)) (-1) ∧ Ls2 = Ls)) → Q (.inl (some (ez_v (.inl v))), g)) : ez_W (d + 10) cm_276 0 [(0, .inr (.inr (some (770)))), (1, .inl (1))] [] h Q := by
  have b2 : 0 ≤ qz_I h 770 2 ∧ qz_I h 770 2 ≤ 4096 := ez_fB (cl := 11) (k := 2) hI.1 (hI.2.1 770 (by decide)) tq_75 rfl rfl (by decide)
  refine rd_mlA1 (d := d + 2) hI (by omega) (by omega) kS (fun hs l g τ1 A a I1 hA hfl => ?_) (fun hs l g τ1 a I1 hno => ?_)
  · skip
    have t7 : τ1 770 = 75 := I1.2.1 770 (by decide)
    have hl3 := a.2.1
    have l78 := ez_l78 I1.1 hl3.1
    have hlz : lz l := ⟨fun e => (by have t := hl3.1; rw [e, t7] at t; cases t), fun e => (by have t := hl3.1; rw [e, I1.2.1 771 (by decide)] at t; cases t), fun e => (by have t := hl3.1; rw [e, I1.2.1 789 (by decide)] at t; cases t), fun e => (by have t := hl3.1; rw [e, I1.2.1 790 (by decide)] at t; cases t)⟩
    have tt := ez_tls I1.1 t7
    have usp : τ1 (qz_P g l 7) = 15 := by rw [l78.1]; exact hl3.2.1
    have ucp : τ1 (qz_P g l 8) = 16 := by rw [l78.2]; exact hl3.2.2
    have eb : mb g = mb h := funext fun k => by unfold mb qz_I; rw [a.c hI.2.1 (hI.2.1 771 (by decide)) rfl]
    have a8 := a.2.2.2.2.2.2.2.1
    have en : pn g = pn h := a8 10 (by decide) (by decide)
    have ec : lc g = lc h := a8 12 (by decide) (by decide)
    have hbn : 0 < qz_I h 770 2 := rz_A_pos (by decide) hA
    have hlc2 : lc h ≤ 255 := by omega
    have b10 : 0 ≤ pn g ∧ pn g ≤ 38500 := ez_fB (cl := 11) (k := 10) I1.1 t7 tq_75 rfl rfl (by decide)
    have nN : 1024 ≤ qz_N g (po g) ∧ qz_N g (po g) ≤ 77100 := ez_len I1.1 tt.2 tq_17 rfl
    have np := I1.2.2.1.2.2
    have FF : ∀ k, 0 ≤ k → k < 5 → (0 ≤ mf g k ∧ mf g k ≤ mt g k) ∧ mt g k ≤ qz_I h 770 2 ∧ (mf g k < mt g k → ¬ bk (mb g (mf g k)) ∧ ¬ bk (mb g (mt g k - 1))) ∧ (∀ j, mf g k ≤ j → j < mt g k → 0 ≤ mb g j ∧ mb g j ≤ 127) := fun k k0 k1 => by rw [(hfl k k0 k1).1, (hfl k k0 k1).2, eb]; exact rz_A_fl hA b2.2 k0 (by show k < ((5 : Nat) : Int); omega)
    have hF : ∀ k, 0 ≤ k → k < 5 → (0 ≤ mf g k ∧ mf g k ≤ mt g k) ∧ mt g k ≤ 4096 := fun k k0 k1 => ⟨(FF k k0 k1).1, by have := (FF k k0 k1).2.1; omega⟩
    have hTr : ∀ k, 0 ≤ k → k < 5 → mf g k < mt g k → ¬ bk (mb g (mf g k)) ∧ ¬ bk (mb g (mt g k - 1)) := fun k k0 k1 => (FF k k0 k1).2.2.1
    have hnl := nl_aq hI a
    have hlg0 : l2 (l + 1) (l + 2) g := ⟨fun j => by rw [a.2.2.2.1, a.2.2.2.2.1]; omega, by rw [a.2.2.2.1, a.2.2.2.2.1]; omega⟩
    have hl2 : l2 (qz_P g l 7) (qz_P g l 8) g := by rw [l78.1, l78.2]; exact hlg0
    have hc0 : ∀ j, qz_I g (qz_P g l 8) j = 0 := fun j => by rw [l78.2]; exact a.2.2.2.2.1 j
    have cr := a.2.2.2.2.2.2.2.2.2
    refine ez_go (n := 1) (pc' := 97) (L' := [(3, .inr (.inr (some (l)))), (2, .inl (pn h)), (0, .inr (.inr (some (770)))), (1, .inl (1))]) (st' := [.inl (1)]) rfl ?_
    refine ez_if rfl rfl ⟨by decide, by decide⟩ (fun _ => ?_) (fun (c1 : ¬((1 : Int) ≠ (0))) => absurd c1 (by decide))
    refine ez_go (n := 2) (pc' := 110) (L' := [(3, .inr (.inr (some (l)))), (2, .inl (pn h)), (0, .inr (.inr (some (770)))), (1, .inl (1))]) (st' := [.inl (1), .inl (1)]) rfl ?_
    refine ez_icmp rfl rfl ⟨by decide, by decide⟩ ⟨by decide, by decide⟩ (fun (c2 : (1 : Int) ≠ (1)) => absurd c2 (by decide)) (fun _ => ?_)
    refine ez_go (n := 2) (pc' := 115) (L' := [(3, .inr (.inr (some (l)))), (2, .inl (pn h)), (0, .inr (.inr (some (770)))), (1, .inl (1))]) (st' := [.inr (.inr (some (l))), .inr (.inr (some (770)))]) rfl ?_
    refine ez_cv I1.1 t7 rfl rfl rfl tq_75 rfl rfl rfl (rd_cases (d := d) I1.1 t7 hl3.1 hlz usp ucp tt.2 b10.1 (by omega) nN.1 (by omega) (by omega) I1.2.2.1.1.2 hl2.1 hc0 hF hTr cr.2.2.2.1 I1.2.2.2.2.2.1.1 I1.2.2.2.2.2.1.2 (FF 4 (by omega) (by omega)).2.2.2 (fun g2 τ2 A2 hB2 hp hA2 hk hG9 h12 hcd hrw => ez_K0 ?_) (fun g2 τ2 A2 hB2 hp hk hnG => ez_Kc (xc_exc hB2 rfl) rfl ?_))
    · skip
      rw [l78.1, l78.2] at hp
      have k2 : qz_I g2 l 0 = 1 := hk.trans a.2.2.1.1
      have q2 := hp.1
      have lg2 := hp.2
      have h42 : qz_I g2 l 0 = 4 → qz_I g2 (l + 1) 1 + 4 * qz_I g2 (l + 2) 1 ≤ qz_N g2 (po g2) := fun w => by omega
      have F4 := FF 4 (by omega) (by omega)
      have v7 : τ2 770 = 75 := (q2.1 770 (by rw [t7]; decide)).1.trans t7
      have hl4 : τ2 l = 13 ∧ τ2 (l + 1) = 15 ∧ τ2 (l + 2) = 16 := ⟨(q2.1 l (by rw [hl3.1]; decide)).1.trans hl3.1, (q2.1 _ (by rw [hl3.2.1]; decide)).1.trans hl3.2.1, (q2.1 _ (by rw [hl3.2.2]; decide)).1.trans hl3.2.2⟩
      have II := I1.lq hl3 hnl q2 hB2 lg2 h42
      have rr := q2.2.2.2.2.2.2.2.2.1
      have rp := pool_le hB2 q2.2.2.1
      have fq := fw_lq (fw_aq a hI.1 hI.2.1) q2 I1.1 t7 a.1 hl3
      refine ez_go (n := 2) (pc' := 168) (L' := [(3, .inr (.inr (some (l)))), (2, .inl (pn h)), (0, .inr (.inr (some (770)))), (1, .inl (1))]) (st' := []) rfl ?_
      refine ez_less [(1, .inl (1)), (3, .inr (.inr (some (l)))), (0, .inr (.inr (some (770))))] rfl ⟨rfl, rfl, rfl, trivial⟩ ?_
      have w0 := h12.2
      rw [eb, (hfl 0 (by omega) (by omega)).1, (hfl 0 (by omega) (by omega)).2] at w0
      rw [eb, (hfl 4 (by omega) (by omega)).1, (hfl 4 (by omega) (by omega)).2] at hcd
      have w1 := hrw 0 (by omega)
      rw [l78.1, l78.2, show (1 + ((0 : Nat) : Int)) = 1 from rfl, eb, (hfl 1 (by omega) (by omega)).1, (hfl 1 (by omega) (by omega)).2] at w1
      have w2 := hrw 1 (by omega)
      rw [l78.1, l78.2, show (1 + ((1 : Nat) : Int)) = 2 from rfl, eb, (hfl 2 (by omega) (by omega)).1, (hfl 2 (by omega) (by omega)).2] at w2
      have w3 := hrw 2 (by omega)
      rw [l78.1, l78.2, show (1 + ((2 : Nat) : Int)) = 3 from rfl, eb, (hfl 3 (by omega) (by omega)).1, (hfl 3 (by omega) (by omega)).2] at w3
      have hvx : vx g2 l (((1 : Int), rz_code (mb h) (rz_ff (mb h) A 0) (rz_tt (mb h) A 0), rz_code (mb h) (rz_ff (mb h) A 0) (rz_tt (mb h) A 0)), ((0 : Int), (0 : Int), (0 : Int), (0 : Int)), ((0 : Int), (0 : Int)), (nz_cd (mb h) (rz_tt (mb h) A 4) (rz_ct (mb h) (rz_ff (mb h) A 4) (rz_tt (mb h) A 4 - rz_ff (mb h) A 4).toNat (rz_ff (mb h) A 4)) (rz_ff (mb h) A 4) 0, rz_rn (mb h) (rz_ff (mb h) A 1) (rz_tt (mb h) A 1), rz_rn (mb h) (rz_ff (mb h) A 2) (rz_tt (mb h) A 2), rz_rn (mb h) (rz_ff (mb h) A 3) (rz_tt (mb h) A 3))) := ⟨k2, fun e => absurd e (by show ¬ (1 : Int) = 0; decide), fun _ => ⟨⟨w0, rfl⟩, hcd, w1, w2, w3⟩, fun e => absurd e (by show ¬ (1 : Int) = 2; decide), fun e => absurd e (by show ¬ (1 : Int) = 3; decide)⟩
      have hly : lyE (mb h) (qz_I h 770 2) 1 (((1 : Int), rz_code (mb h) (rz_ff (mb h) A 0) (rz_tt (mb h) A 0), rz_code (mb h) (rz_ff (mb h) A 0) (rz_tt (mb h) A 0)), ((0 : Int), (0 : Int), (0 : Int), (0 : Int)), ((0 : Int), (0 : Int)), (nz_cd (mb h) (rz_tt (mb h) A 4) (rz_ct (mb h) (rz_ff (mb h) A 4) (rz_tt (mb h) A 4 - rz_ff (mb h) A 4).toNat (rz_ff (mb h) A 4)) (rz_ff (mb h) A 4) 0, rz_rn (mb h) (rz_ff (mb h) A 1) (rz_tt (mb h) A 1), rz_rn (mb h) (rz_ff (mb h) A 2) (rz_tt (mb h) A 2), rz_rn (mb h) (rz_ff (mb h) A 3) (rz_tt (mb h) A 3))) := Or.inr (Or.inl ⟨rfl, A, hA, rfl⟩)
      have hA75 : ((A2).length : Int) ≤ 75 := by omega
      have hvc : vc g2 l ((1 : Int), qz_I g2 l 1, qz_I g2 l 2, qz_I g2 l 4, qz_I g2 l 5, ([] : List Int), (((1 : Int), rz_code (mb h) (rz_ff (mb h) A 0) (rz_tt (mb h) A 0), rz_code (mb h) (rz_ff (mb h) A 0) (rz_tt (mb h) A 0)), ((0 : Int), (0 : Int), (0 : Int), (0 : Int)), ((0 : Int), (0 : Int)), (nz_cd (mb h) (rz_tt (mb h) A 4) (rz_ct (mb h) (rz_ff (mb h) A 4) (rz_tt (mb h) A 4 - rz_ff (mb h) A 4).toNat (rz_ff (mb h) A 4)) (rz_ff (mb h) A 4) 0, rz_rn (mb h) (rz_ff (mb h) A 1) (rz_tt (mb h) A 1), rz_rn (mb h) (rz_ff (mb h) A 2) (rz_tt (mb h) A 2), rz_rn (mb h) (rz_ff (mb h) A 3) (rz_tt (mb h) A 3)))) := ⟨⟨k2, rfl, rfl, rfl, rfl⟩, fun e => absurd e (by show ¬ (1 : Int) = 0; decide)⟩
      have hst : rz_step (mb h) (qz_I h 770 2) 1 (vF Ls) (vE Ls) (vF (Ls ++ [((1 : Int), qz_I g2 l 1, qz_I g2 l 2, qz_I g2 l 4, qz_I g2 l 5, ([] : List Int), (((1 : Int), rz_code (mb h) (rz_ff (mb h) A 0) (rz_tt (mb h) A 0), rz_code (mb h) (rz_ff (mb h) A 0) (rz_tt (mb h) A 0)), ((0 : Int), (0 : Int), (0 : Int), (0 : Int)), ((0 : Int), (0 : Int)), (nz_cd (mb h) (rz_tt (mb h) A 4) (rz_ct (mb h) (rz_ff (mb h) A 4) (rz_tt (mb h) A 4 - rz_ff (mb h) A 4).toNat (rz_ff (mb h) A 4)) (rz_ff (mb h) A 4) 0, rz_rn (mb h) (rz_ff (mb h) A 1) (rz_tt (mb h) A 1), rz_rn (mb h) (rz_ff (mb h) A 2) (rz_tt (mb h) A 2), rz_rn (mb h) (rz_ff (mb h) A 3) (rz_tt (mb h) A 3))))])) (vE (Ls ++ [((1 : Int), qz_I g2 l 1, qz_I g2 l 2, qz_I g2 l 4, qz_I g2 l 5, ([] : List Int), (((1 : Int), rz_code (mb h) (rz_ff (mb h) A 0) (rz_tt (mb h) A 0), rz_code (mb h) (rz_ff (mb h) A 0) (rz_tt (mb h) A 0)), ((0 : Int), (0 : Int), (0 : Int), (0 : Int)), ((0 : Int), (0 : Int)), (nz_cd (mb h) (rz_tt (mb h) A 4) (rz_ct (mb h) (rz_ff (mb h) A 4) (rz_tt (mb h) A 4 - rz_ff (mb h) A 4).toNat (rz_ff (mb h) A 4)) (rz_ff (mb h) A 4) 0, rz_rn (mb h) (rz_ff (mb h) A 1) (rz_tt (mb h) A 1), rz_rn (mb h) (rz_ff (mb h) A 2) (rz_tt (mb h) A 2), rz_rn (mb h) (rz_ff (mb h) A 3) (rz_tt (mb h) A 3))))])) := by
        rw [vF_app, vE_app]
        exact ⟨fun e => absurd e (by decide), fun e => absurd e (by decide), fun _ _ => ⟨vf_no (by show (1 : Int) ≠ 0; decide), ve_no (Or.inl (by show (1 : Int) ≠ 3; decide))⟩⟩
      have hans : ∀ v, v = (if (1 : Int) = 4 then qz_I g2 (qz_P g2 l 8) 0 else qz_I g2 l 2 - qz_I g2 l 1 + 1) → v ≠ -1 ∧ rz_an (mb h) (qz_I h 770 2) 5 (rz_g1 (mb h)) v := fun v hv => by
        rw [if_neg (by decide)] at hv
        unfold rz_G1 at hG9
        rw [eb, (hfl 0 (by omega) (by omega)).1, (hfl 0 (by omega) (by omega)).2, (hfl 1 (by omega) (by omega)).1, (hfl 1 (by omega) (by omega)).2, (hfl 2 (by omega) (by omega)).1, (hfl 2 (by omega) (by omega)).2, (hfl 3 (by omega) (by omega)).1, (hfl 3 (by omega) (by omega)).2, (hfl 4 (by omega) (by omega)).1, (hfl 4 (by omega) (by omega)).2] at hG9
        exact ⟨by omega, Or.inl ⟨A, hA, hG9, by omega⟩⟩
      have I2 := II.1
      have ec2 : lc g2 = lc h := (q2.2.2.2.1 12 (by decide) (by decide) (by decide) (by decide)).trans ec
      have tcp2 : τ2 (qz_P g2 l 8) = 16 := by rw [(ez_l78 hB2 hl4.1).2]; exact hl4.2.2
      refine rd_ml hB2 v7 hl4.1 (ez_tls hB2 v7).1 tcp2 ⟨by omega, by omega⟩ I2.2.2.1.1.1 (by omega) I2.2.2.1.2.1 I2.2.2.2.1.1 (by omega) (by omega) (fun g3 τ3 v hB3 u hv => kC hs g3 τ3 _ v (mI.lu (x := ((1 : Int), qz_I g2 l 1, qz_I g2 l 2, qz_I g2 l 4, qz_I g2 l 5, ([] : List Int), (((1 : Int), rz_code (mb h) (rz_ff (mb h) A 0) (rz_tt (mb h) A 0), rz_code (mb h) (rz_ff (mb h) A 0) (rz_tt (mb h) A 0)), ((0 : Int), (0 : Int), (0 : Int), (0 : Int)), ((0 : Int), (0 : Int)), (nz_cd (mb h) (rz_tt (mb h) A 4) (rz_ct (mb h) (rz_ff (mb h) A 4) (rz_tt (mb h) A 4 - rz_ff (mb h) A 4).toNat (rz_ff (mb h) A 4)) (rz_ff (mb h) A 4) 0, rz_rn (mb h) (rz_ff (mb h) A 1) (rz_tt (mb h) A 1), rz_rn (mb h) (rz_ff (mb h) A 2) (rz_tt (mb h) A 2), rz_rn (mb h) (rz_ff (mb h) A 3) (rz_tt (mb h) A 3))))) I2 hA75 hl4 (nl_lq I1 hl3 q2 hnl) u hB3 ⟨hvc, hvx⟩) ((fw_lu fq u hB2 v7).mono (by omega)) hst (Or.inr ⟨by rw [u.2.2.2.2.1, ec2], hbn⟩) (Or.inl ⟨by rw [u.2.2.2.1 0 (by decide) (by decide) (by decide), q2.2.2.2.1 0 (by decide) (by decide) (by decide) (by decide)]; exact cr.2.2.2.2, (hans v hv).1, (hans v hv).2, ((1 : Int), qz_I g2 l 1, qz_I g2 l 2, qz_I g2 l 4, qz_I g2 l 5, ([] : List Int), (((1 : Int), rz_code (mb h) (rz_ff (mb h) A 0) (rz_tt (mb h) A 0), rz_code (mb h) (rz_ff (mb h) A 0) (rz_tt (mb h) A 0)), ((0 : Int), (0 : Int), (0 : Int), (0 : Int)), ((0 : Int), (0 : Int)), (nz_cd (mb h) (rz_tt (mb h) A 4) (rz_ct (mb h) (rz_ff (mb h) A 4) (rz_tt (mb h) A 4 - rz_ff (mb h) A 4).toNat (rz_ff (mb h) A 4)) (rz_ff (mb h) A 4) 0, rz_rn (mb h) (rz_ff (mb h) A 1) (rz_tt (mb h) A 1), rz_rn (mb h) (rz_ff (mb h) A 2) (rz_tt (mb h) A 2), rz_rn (mb h) (rz_ff (mb h) A 3) (rz_tt (mb h) A 3)))), rfl, hly⟩))
    · skip
      rw [l78.1, l78.2] at hp
      have k2 : qz_I g2 l 0 = 1 := hk.trans a.2.2.1.1
      have q2 := hp.1
      have lg2 := hp.2
      have h42 : qz_I g2 l 0 = 4 → qz_I g2 (l + 1) 1 + 4 * qz_I g2 (l + 2) 1 ≤ qz_N g2 (po g2) := fun w => by omega
      have F4 := FF 4 (by omega) (by omega)
      have v7 : τ2 770 = 75 := (q2.1 770 (by rw [t7]; decide)).1.trans t7
      have hl4 : τ2 l = 13 ∧ τ2 (l + 1) = 15 ∧ τ2 (l + 2) = 16 := ⟨(q2.1 l (by rw [hl3.1]; decide)).1.trans hl3.1, (q2.1 _ (by rw [hl3.2.1]; decide)).1.trans hl3.2.1, (q2.1 _ (by rw [hl3.2.2]; decide)).1.trans hl3.2.2⟩
      have II := I1.lq hl3 hnl q2 hB2 lg2 h42
      have rr := q2.2.2.2.2.2.2.2.2.1
      have rp := pool_le hB2 q2.2.2.1
      have fq := fw_lq (fw_aq a hI.1 hI.2.1) q2 I1.1 t7 a.1 hl3
      have hst : rz_step (mb h) (qz_I h 770 2) 1 (vF Ls) (vE Ls) (vF Ls) (vE Ls) := ⟨fun e => absurd e (by decide), fun e => absurd e (by decide), fun _ _ => ⟨rfl, rfl⟩⟩
      have hnan : rz_an (mb h) (qz_I h 770 2) 5 (rz_g1 (mb h)) (-1) := rz_an_f hA (fun v w => hnG (by have w1 := w.1; unfold rz_G1 at w1 ⊢; rw [eb, (hfl 0 (by omega) (by omega)).1, (hfl 0 (by omega) (by omega)).2, (hfl 1 (by omega) (by omega)).1, (hfl 1 (by omega) (by omega)).2, (hfl 2 (by omega) (by omega)).1, (hfl 2 (by omega) (by omega)).2, (hfl 3 (by omega) (by omega)).1, (hfl 3 (by omega) (by omega)).2, (hfl 4 (by omega) (by omega)).1, (hfl 4 (by omega) (by omega)).2]; exact w1))
      refine ez_less [(3, .inr (.inr (some (l)))), (2, .inl (pn h)), (0, .inr (.inr (some (770)))), (1, .inl (1))] rfl ⟨rfl, rfl, rfl, rfl, trivial⟩ ?_
      refine rd_mlE (d := d + 9) (n := pn h) (xc_B hB2 (by omega) (by omega)) v7 (by omega) (by omega) (fun g3 hB3 f3 j3 p3 z3 => kC hs g3 τ2 Ls 0 (II.2 0 (by omega) g3 hB3 (fun q hq h7 => by rw [f3.2.2 q (dz_beq_ne h7), xc_t hB2 hq]) (fun j j0 j10 => by rw [j3 j j0 j10]; unfold qz_I; rw [xc_t hB2 (by rw [v7]; decide)]) (by rw [p3, en]; omega) (by omega)) ((fw_xc fq hB2 v7 f3 j3).mono (by omega)) hst (Or.inl ?_) (Or.inr ⟨z3, hnan, rfl⟩))
      show qz_I g3 770 12 = qz_I h 770 12
      rw [j3 12 (by decide) (by decide)]; unfold qz_I; rw [xc_t hB2 (by rw [v7]; decide)]
      exact (q2.2.2.2.1 12 (by decide) (by decide) (by decide) (by decide)).trans ec
  · skip
    have t7 : τ1 770 = 75 := I1.2.1 770 (by decide)
    have en : pn g = pn h := a.2.2.2.2.2.2.2.1 10 (by decide) (by decide)
    have ec : lc g = lc h := a.2.2.2.2.2.2.2.1 12 (by decide) (by decide)
    have b10 : 0 ≤ pn g ∧ pn g ≤ 38500 := ez_fB (cl := 11) (k := 10) I1.1 t7 tq_75 rfl rfl (by decide)
    have cr := a.2.2.2.2.2.2.2.2.2
    refine rd_mlE (d := d + 9) (n := pn h) (xc_B I1.1 (by omega) (by omega)) t7 (by omega) (by omega) (fun g3 hB3 f3 j3 p3 z3 => kC hs g3 τ1 Ls 0 (I1.f7 hB3 (fun q hq h7 => by rw [f3.2.2 q (dz_beq_ne h7), xc_t I1.1 hq]) (fun j j1 j2 => ?_)) ((fw_xc (fw_aq a hI.1 hI.2.1) I1.1 t7 f3 j3).mono (by omega)) ⟨fun e => absurd e (by decide), fun e => absurd e (by decide), fun _ _ => ⟨rfl, rfl⟩⟩ (Or.inl ?_) (Or.inr ⟨z3, rz_an_n hno, rfl⟩))
    · by_cases e : j = 10
      · subst e; exact p3.trans en.symm
      · rw [j3 j (by omega) e]; unfold qz_I; rw [xc_t I1.1 (by rw [t7]; decide)]
    · show qz_I g3 770 12 = qz_I h 770 12
      rw [j3 12 (by decide) (by decide)]; unfold qz_I; rw [xc_t I1.1 (by rw [t7]; decide)]
      exact ec

theorem rd_mline2 (hI : mI τ h Ls 0) (hlc : qz_I h 770 2 = 0 ∨ lc h ≤ 255) (hr1 : h.1 + 25000 ≤ 600192) (hr2 : h.2.1 + 900000 ≤ 7302232) (kS : qz_I h 770 7 ≠ 0 → ∀ g, mI τ g Ls 0 → ez_fr (ez_one 770) h g → (∀ j, j ≠ 0 → qz_I g 770 j = qz_I h 770 j) → qz_I g 770 0 = 2 → Q (.inl (some (ez_v (.inl 0))), g)) (kC : qz_I h 770 7 = 0 → ∀ g τ1 Ls2 v, mI τ1 g Ls2 0 → fw τ h τ1 g (45 * qz_I h 770 2 + 100) → rz_step (mb h) (qz_I h 770 2) 2 (vF Ls) (vE Ls) (vF Ls2) (vE Ls2) → (lc g = lc h ∨ (lc g = lc h + 1 ∧ 0 < qz_I h 770 2)) → ((qz_I g 770 0 = 0 ∧ v ≠ -1 ∧ rz_an (mb h) (qz_I h 770 2) 3 (rz_g2 (mb h)) v ∧ ∃ x : vz, Ls2 = Ls ++ [x] ∧ lyE (mb h) (qz_I h 770 2) 2 x.2.2.2.2.2.2) ∨ (qz_I g 770 0 = 3 ∧ rz_an (mb h) (qz_I h 770 2) 3 (rz_g2 (mb h)) (-1) ∧ Ls2 = Ls)) → Q (.inl (some (ez_v (.inl v))), g)) : ez_W (d + 10) cm_276 0 [(0, .inr (.inr (some (770)))), (1, .inl (2))] [] h Q := by
  have b2 : 0 ≤ qz_I h 770 2 ∧ qz_I h 770 2 ≤ 4096 := ez_fB (cl := 11) (k := 2) hI.1 (hI.2.1 770 (by decide)) tq_75 rfl rfl (by decide)
  refine rd_mlA2 (d := d + 2) hI (by omega) (by omega) kS (fun hs l g τ1 A a I1 hA hfl => ?_) (fun hs l g τ1 a I1 hno => ?_)
  · skip
    have t7 : τ1 770 = 75 := I1.2.1 770 (by decide)
    have hl3 := a.2.1
    have l78 := ez_l78 I1.1 hl3.1
    have hlz : lz l := ⟨fun e => (by have t := hl3.1; rw [e, t7] at t; cases t), fun e => (by have t := hl3.1; rw [e, I1.2.1 771 (by decide)] at t; cases t), fun e => (by have t := hl3.1; rw [e, I1.2.1 789 (by decide)] at t; cases t), fun e => (by have t := hl3.1; rw [e, I1.2.1 790 (by decide)] at t; cases t)⟩
    have tt := ez_tls I1.1 t7
    have usp : τ1 (qz_P g l 7) = 15 := by rw [l78.1]; exact hl3.2.1
    have ucp : τ1 (qz_P g l 8) = 16 := by rw [l78.2]; exact hl3.2.2
    have eb : mb g = mb h := funext fun k => by unfold mb qz_I; rw [a.c hI.2.1 (hI.2.1 771 (by decide)) rfl]
    have a8 := a.2.2.2.2.2.2.2.1
    have en : pn g = pn h := a8 10 (by decide) (by decide)
    have ec : lc g = lc h := a8 12 (by decide) (by decide)
    have hbn : 0 < qz_I h 770 2 := rz_A_pos (by decide) hA
    have hlc2 : lc h ≤ 255 := by omega
    have b10 : 0 ≤ pn g ∧ pn g ≤ 38500 := ez_fB (cl := 11) (k := 10) I1.1 t7 tq_75 rfl rfl (by decide)
    have nN : 1024 ≤ qz_N g (po g) ∧ qz_N g (po g) ≤ 77100 := ez_len I1.1 tt.2 tq_17 rfl
    have np := I1.2.2.1.2.2
    have FF : ∀ k, 0 ≤ k → k < 3 → (0 ≤ mf g k ∧ mf g k ≤ mt g k) ∧ mt g k ≤ qz_I h 770 2 ∧ (mf g k < mt g k → ¬ bk (mb g (mf g k)) ∧ ¬ bk (mb g (mt g k - 1))) ∧ (∀ j, mf g k ≤ j → j < mt g k → 0 ≤ mb g j ∧ mb g j ≤ 127) := fun k k0 k1 => by rw [(hfl k k0 k1).1, (hfl k k0 k1).2, eb]; exact rz_A_fl hA b2.2 k0 (by show k < ((3 : Nat) : Int); omega)
    have hF : ∀ k, 0 ≤ k → k < 3 → (0 ≤ mf g k ∧ mf g k ≤ mt g k) ∧ mt g k ≤ 4096 := fun k k0 k1 => ⟨(FF k k0 k1).1, by have := (FF k k0 k1).2.1; omega⟩
    have hTr : ∀ k, 0 ≤ k → k < 3 → mf g k < mt g k → ¬ bk (mb g (mf g k)) ∧ ¬ bk (mb g (mt g k - 1)) := fun k k0 k1 => (FF k k0 k1).2.2.1
    have hnl := nl_aq hI a
    have hlg0 : l2 (l + 1) (l + 2) g := ⟨fun j => by rw [a.2.2.2.1, a.2.2.2.2.1]; omega, by rw [a.2.2.2.1, a.2.2.2.2.1]; omega⟩
    have hl2 : l2 (qz_P g l 7) (qz_P g l 8) g := by rw [l78.1, l78.2]; exact hlg0
    have hc0 : ∀ j, qz_I g (qz_P g l 8) j = 0 := fun j => by rw [l78.2]; exact a.2.2.2.2.1 j
    have cr := a.2.2.2.2.2.2.2.2.2
    refine ez_go (n := 1) (pc' := 97) (L' := [(3, .inr (.inr (some (l)))), (2, .inl (pn h)), (0, .inr (.inr (some (770)))), (1, .inl (2))]) (st' := [.inl (2)]) rfl ?_
    refine ez_if rfl rfl ⟨by decide, by decide⟩ (fun _ => ?_) (fun (c1 : ¬((2 : Int) ≠ (0))) => absurd c1 (by decide))
    refine ez_go (n := 2) (pc' := 110) (L' := [(3, .inr (.inr (some (l)))), (2, .inl (pn h)), (0, .inr (.inr (some (770)))), (1, .inl (2))]) (st' := [.inl (1), .inl (2)]) rfl ?_
    refine ez_icmp rfl rfl ⟨by decide, by decide⟩ ⟨by decide, by decide⟩ (fun _ => ?_) (fun (c2 : ¬((2 : Int) ≠ (1))) => absurd c2 (by decide))
    refine ez_go (n := 2) (pc' := 123) (L' := [(3, .inr (.inr (some (l)))), (2, .inl (pn h)), (0, .inr (.inr (some (770)))), (1, .inl (2))]) (st' := [.inl (2), .inl (2)]) rfl ?_
    refine ez_icmp rfl rfl ⟨by decide, by decide⟩ ⟨by decide, by decide⟩ (fun (c3 : (2 : Int) ≠ (2)) => absurd c3 (by decide)) (fun _ => ?_)
    refine ez_go (n := 2) (pc' := 128) (L' := [(3, .inr (.inr (some (l)))), (2, .inl (pn h)), (0, .inr (.inr (some (770)))), (1, .inl (2))]) (st' := [.inr (.inr (some (l))), .inr (.inr (some (770)))]) rfl ?_
    refine ez_cv I1.1 t7 rfl rfl rfl tq_75 rfl rfl rfl (rd_folding (d := d) I1.1 t7 hl3.1 hlz usp ucp tt.2 b10.1 I1.2.2.1.1.2 (by omega) nN.1 (by omega) (by omega) hl2.1 hc0 hF hTr (fun g2 τ2 A2 hB2 hp hA2 hk hG9 h12 h1c h5c hvs => ez_K0 ?_) (fun g2 τ2 A2 hB2 hp hk hnG => ez_Kc (xc_exc hB2 rfl) rfl ?_))
    · skip
      rw [l78.1, l78.2] at hp
      have k2 : qz_I g2 l 0 = 2 := hk.trans a.2.2.1.1
      have q2 := hp.1.lq
      have lg2 := hp.2
      have h42 : qz_I g2 l 0 = 4 → qz_I g2 (l + 1) 1 + 4 * qz_I g2 (l + 2) 1 ≤ qz_N g2 (po g2) := fun w => by omega
      have v7 : τ2 770 = 75 := (q2.1 770 (by rw [t7]; decide)).1.trans t7
      have hl4 : τ2 l = 13 ∧ τ2 (l + 1) = 15 ∧ τ2 (l + 2) = 16 := ⟨(q2.1 l (by rw [hl3.1]; decide)).1.trans hl3.1, (q2.1 _ (by rw [hl3.2.1]; decide)).1.trans hl3.2.1, (q2.1 _ (by rw [hl3.2.2]; decide)).1.trans hl3.2.2⟩
      have II := I1.lq hl3 hnl q2 hB2 lg2 h42
      have rr := q2.2.2.2.2.2.2.2.2.1
      have rp := pool_le hB2 q2.2.2.1
      have fq := fw_lq (fw_aq a hI.1 hI.2.1) q2 I1.1 t7 a.1 hl3
      refine ez_go (n := 2) (pc' := 168) (L' := [(3, .inr (.inr (some (l)))), (2, .inl (pn h)), (0, .inr (.inr (some (770)))), (1, .inl (2))]) (st' := []) rfl ?_
      refine ez_less [(1, .inl (2)), (3, .inr (.inr (some (l)))), (0, .inr (.inr (some (770))))] rfl ⟨rfl, rfl, rfl, trivial⟩ ?_
      obtain ⟨vs, e9, w2⟩ := hvs
      rw [eb, (hfl 0 (by omega) (by omega)).1, (hfl 0 (by omega) (by omega)).2] at h1c
      rw [eb, (hfl 1 (by omega) (by omega)).1] at h5c
      rw [eb, (hfl 2 (by omega) (by omega)).1, (hfl 2 (by omega) (by omega)).2] at e9
      rw [l78.1, l78.2] at w2
      have hvx : vx g2 l (((2 : Int), rz_code (mb h) (rz_ff (mb h) A 0) (rz_tt (mb h) A 0), rz_code (mb h) (rz_ff (mb h) A 0) (rz_tt (mb h) A 0)), ((0 : Int), (0 : Int), (0 : Int), (0 : Int)), (mb h (rz_ff (mb h) A 1), (0 : Int)), ((0 : Int), vs, ([] : List Int), ([] : List Int))) := ⟨k2, fun e => absurd e (by show ¬ (2 : Int) = 0; decide), fun e => absurd e (by show ¬ (2 : Int) = 1; decide), fun _ => ⟨⟨h1c, rfl⟩, h5c, w2⟩, fun e => absurd e (by show ¬ (2 : Int) = 3; decide)⟩
      have hly : lyE (mb h) (qz_I h 770 2) 2 (((2 : Int), rz_code (mb h) (rz_ff (mb h) A 0) (rz_tt (mb h) A 0), rz_code (mb h) (rz_ff (mb h) A 0) (rz_tt (mb h) A 0)), ((0 : Int), (0 : Int), (0 : Int), (0 : Int)), (mb h (rz_ff (mb h) A 1), (0 : Int)), ((0 : Int), vs, ([] : List Int), ([] : List Int))) := Or.inr (Or.inr (Or.inl ⟨rfl, A, vs, hA, e9, rfl⟩))
      have hA75 : ((A2).length : Int) ≤ 75 := by omega
      have hvc : vc g2 l ((2 : Int), qz_I g2 l 1, qz_I g2 l 2, qz_I g2 l 4, qz_I g2 l 5, ([] : List Int), (((2 : Int), rz_code (mb h) (rz_ff (mb h) A 0) (rz_tt (mb h) A 0), rz_code (mb h) (rz_ff (mb h) A 0) (rz_tt (mb h) A 0)), ((0 : Int), (0 : Int), (0 : Int), (0 : Int)), (mb h (rz_ff (mb h) A 1), (0 : Int)), ((0 : Int), vs, ([] : List Int), ([] : List Int)))) := ⟨⟨k2, rfl, rfl, rfl, rfl⟩, fun e => absurd e (by show ¬ (2 : Int) = 0; decide)⟩
      have hst : rz_step (mb h) (qz_I h 770 2) 2 (vF Ls) (vE Ls) (vF (Ls ++ [((2 : Int), qz_I g2 l 1, qz_I g2 l 2, qz_I g2 l 4, qz_I g2 l 5, ([] : List Int), (((2 : Int), rz_code (mb h) (rz_ff (mb h) A 0) (rz_tt (mb h) A 0), rz_code (mb h) (rz_ff (mb h) A 0) (rz_tt (mb h) A 0)), ((0 : Int), (0 : Int), (0 : Int), (0 : Int)), (mb h (rz_ff (mb h) A 1), (0 : Int)), ((0 : Int), vs, ([] : List Int), ([] : List Int))))])) (vE (Ls ++ [((2 : Int), qz_I g2 l 1, qz_I g2 l 2, qz_I g2 l 4, qz_I g2 l 5, ([] : List Int), (((2 : Int), rz_code (mb h) (rz_ff (mb h) A 0) (rz_tt (mb h) A 0), rz_code (mb h) (rz_ff (mb h) A 0) (rz_tt (mb h) A 0)), ((0 : Int), (0 : Int), (0 : Int), (0 : Int)), (mb h (rz_ff (mb h) A 1), (0 : Int)), ((0 : Int), vs, ([] : List Int), ([] : List Int))))])) := by
        rw [vF_app, vE_app]
        exact ⟨fun e => absurd e (by decide), fun e => absurd e (by decide), fun _ _ => ⟨vf_no (by show (2 : Int) ≠ 0; decide), ve_no (Or.inl (by show (2 : Int) ≠ 3; decide))⟩⟩
      have hans : ∀ v, v = (if (2 : Int) = 4 then qz_I g2 (qz_P g2 l 8) 0 else qz_I g2 l 2 - qz_I g2 l 1 + 1) → v ≠ -1 ∧ rz_an (mb h) (qz_I h 770 2) 3 (rz_g2 (mb h)) v := fun v hv => by
        rw [if_neg (by decide)] at hv
        unfold rz_G2 at hG9
        rw [eb, (hfl 0 (by omega) (by omega)).1, (hfl 0 (by omega) (by omega)).2, (hfl 1 (by omega) (by omega)).1, (hfl 1 (by omega) (by omega)).2, (hfl 2 (by omega) (by omega)).1, (hfl 2 (by omega) (by omega)).2] at hG9
        exact ⟨by omega, Or.inl ⟨A, hA, hG9, by omega⟩⟩
      have I2 := II.1
      have ec2 : lc g2 = lc h := (q2.2.2.2.1 12 (by decide) (by decide) (by decide) (by decide)).trans ec
      have tcp2 : τ2 (qz_P g2 l 8) = 16 := by rw [(ez_l78 hB2 hl4.1).2]; exact hl4.2.2
      refine rd_ml hB2 v7 hl4.1 (ez_tls hB2 v7).1 tcp2 ⟨by omega, by omega⟩ I2.2.2.1.1.1 (by omega) I2.2.2.1.2.1 I2.2.2.2.1.1 (by omega) (by omega) (fun g3 τ3 v hB3 u hv => kC hs g3 τ3 _ v (mI.lu (x := ((2 : Int), qz_I g2 l 1, qz_I g2 l 2, qz_I g2 l 4, qz_I g2 l 5, ([] : List Int), (((2 : Int), rz_code (mb h) (rz_ff (mb h) A 0) (rz_tt (mb h) A 0), rz_code (mb h) (rz_ff (mb h) A 0) (rz_tt (mb h) A 0)), ((0 : Int), (0 : Int), (0 : Int), (0 : Int)), (mb h (rz_ff (mb h) A 1), (0 : Int)), ((0 : Int), vs, ([] : List Int), ([] : List Int))))) I2 hA75 hl4 (nl_lq I1 hl3 q2 hnl) u hB3 ⟨hvc, hvx⟩) ((fw_lu fq u hB2 v7).mono (by omega)) hst (Or.inr ⟨by rw [u.2.2.2.2.1, ec2], hbn⟩) (Or.inl ⟨by rw [u.2.2.2.1 0 (by decide) (by decide) (by decide), q2.2.2.2.1 0 (by decide) (by decide) (by decide) (by decide)]; exact cr.2.2.2.2, (hans v hv).1, (hans v hv).2, ((2 : Int), qz_I g2 l 1, qz_I g2 l 2, qz_I g2 l 4, qz_I g2 l 5, ([] : List Int), (((2 : Int), rz_code (mb h) (rz_ff (mb h) A 0) (rz_tt (mb h) A 0), rz_code (mb h) (rz_ff (mb h) A 0) (rz_tt (mb h) A 0)), ((0 : Int), (0 : Int), (0 : Int), (0 : Int)), (mb h (rz_ff (mb h) A 1), (0 : Int)), ((0 : Int), vs, ([] : List Int), ([] : List Int)))), rfl, hly⟩))
    · skip
      rw [l78.1, l78.2] at hp
      have k2 : qz_I g2 l 0 = 2 := hk.trans a.2.2.1.1
      have q2 := hp.1.lq
      have lg2 := hp.2
      have h42 : qz_I g2 l 0 = 4 → qz_I g2 (l + 1) 1 + 4 * qz_I g2 (l + 2) 1 ≤ qz_N g2 (po g2) := fun w => by omega
      have v7 : τ2 770 = 75 := (q2.1 770 (by rw [t7]; decide)).1.trans t7
      have hl4 : τ2 l = 13 ∧ τ2 (l + 1) = 15 ∧ τ2 (l + 2) = 16 := ⟨(q2.1 l (by rw [hl3.1]; decide)).1.trans hl3.1, (q2.1 _ (by rw [hl3.2.1]; decide)).1.trans hl3.2.1, (q2.1 _ (by rw [hl3.2.2]; decide)).1.trans hl3.2.2⟩
      have II := I1.lq hl3 hnl q2 hB2 lg2 h42
      have rr := q2.2.2.2.2.2.2.2.2.1
      have rp := pool_le hB2 q2.2.2.1
      have fq := fw_lq (fw_aq a hI.1 hI.2.1) q2 I1.1 t7 a.1 hl3
      have hst : rz_step (mb h) (qz_I h 770 2) 2 (vF Ls) (vE Ls) (vF Ls) (vE Ls) := ⟨fun e => absurd e (by decide), fun e => absurd e (by decide), fun _ _ => ⟨rfl, rfl⟩⟩
      have hnan : rz_an (mb h) (qz_I h 770 2) 3 (rz_g2 (mb h)) (-1) := rz_an_f hA (fun v w => hnG (by have w1 := w.1; unfold rz_G2 at w1 ⊢; rw [eb, (hfl 0 (by omega) (by omega)).1, (hfl 0 (by omega) (by omega)).2, (hfl 1 (by omega) (by omega)).1, (hfl 1 (by omega) (by omega)).2, (hfl 2 (by omega) (by omega)).1, (hfl 2 (by omega) (by omega)).2]; exact w1))
      refine ez_less [(3, .inr (.inr (some (l)))), (2, .inl (pn h)), (0, .inr (.inr (some (770)))), (1, .inl (2))] rfl ⟨rfl, rfl, rfl, rfl, trivial⟩ ?_
      refine rd_mlE (d := d + 9) (n := pn h) (xc_B hB2 (by omega) (by omega)) v7 (by omega) (by omega) (fun g3 hB3 f3 j3 p3 z3 => kC hs g3 τ2 Ls 0 (II.2 0 (by omega) g3 hB3 (fun q hq h7 => by rw [f3.2.2 q (dz_beq_ne h7), xc_t hB2 hq]) (fun j j0 j10 => by rw [j3 j j0 j10]; unfold qz_I; rw [xc_t hB2 (by rw [v7]; decide)]) (by rw [p3, en]; omega) (by omega)) ((fw_xc fq hB2 v7 f3 j3).mono (by omega)) hst (Or.inl ?_) (Or.inr ⟨z3, hnan, rfl⟩))
      show qz_I g3 770 12 = qz_I h 770 12
      rw [j3 12 (by decide) (by decide)]; unfold qz_I; rw [xc_t hB2 (by rw [v7]; decide)]
      exact (q2.2.2.2.1 12 (by decide) (by decide) (by decide) (by decide)).trans ec
  · skip
    have t7 : τ1 770 = 75 := I1.2.1 770 (by decide)
    have en : pn g = pn h := a.2.2.2.2.2.2.2.1 10 (by decide) (by decide)
    have ec : lc g = lc h := a.2.2.2.2.2.2.2.1 12 (by decide) (by decide)
    have b10 : 0 ≤ pn g ∧ pn g ≤ 38500 := ez_fB (cl := 11) (k := 10) I1.1 t7 tq_75 rfl rfl (by decide)
    have cr := a.2.2.2.2.2.2.2.2.2
    refine rd_mlE (d := d + 9) (n := pn h) (xc_B I1.1 (by omega) (by omega)) t7 (by omega) (by omega) (fun g3 hB3 f3 j3 p3 z3 => kC hs g3 τ1 Ls 0 (I1.f7 hB3 (fun q hq h7 => by rw [f3.2.2 q (dz_beq_ne h7), xc_t I1.1 hq]) (fun j j1 j2 => ?_)) ((fw_xc (fw_aq a hI.1 hI.2.1) I1.1 t7 f3 j3).mono (by omega)) ⟨fun e => absurd e (by decide), fun e => absurd e (by decide), fun _ _ => ⟨rfl, rfl⟩⟩ (Or.inl ?_) (Or.inr ⟨z3, rz_an_n hno, rfl⟩))
    · by_cases e : j = 10
      · subst e; exact p3.trans en.symm
      · rw [j3 j (by omega) e]; unfold qz_I; rw [xc_t I1.1 (by rw [t7]; decide)]
    · show qz_I g3 770 12 = qz_I h 770 12
      rw [j3 12 (by decide) (by decide)]; unfold qz_I; rw [xc_t I1.1 (by rw [t7]; decide)]
      exact ec

theorem rd_mline3 (hI : mI τ h Ls 0) (hlc : qz_I h 770 2 = 0 ∨ lc h ≤ 255) (hr1 : h.1 + 25000 ≤ 600192) (hr2 : h.2.1 + 900000 ≤ 7302232) (kS : qz_I h 770 7 ≠ 0 → ∀ g, mI τ g Ls 0 → ez_fr (ez_one 770) h g → (∀ j, j ≠ 0 → qz_I g 770 j = qz_I h 770 j) → qz_I g 770 0 = 2 → Q (.inl (some (ez_v (.inl 0))), g)) (kC : qz_I h 770 7 = 0 → ∀ g τ1 Ls2 v, mI τ1 g Ls2 0 → fw τ h τ1 g (45 * qz_I h 770 2 + 100) → rz_step (mb h) (qz_I h 770 2) 3 (vF Ls) (vE Ls) (vF Ls2) (vE Ls2) → (lc g = lc h ∨ (lc g = lc h + 1 ∧ 0 < qz_I h 770 2)) → ((qz_I g 770 0 = 0 ∧ v ≠ -1 ∧ rz_an (mb h) (qz_I h 770 2) 2 (rz_g3 (mb h)) v ∧ ∃ x : vz, Ls2 = Ls ++ [x] ∧ lyE (mb h) (qz_I h 770 2) 3 x.2.2.2.2.2.2) ∨ (qz_I g 770 0 = 3 ∧ rz_an (mb h) (qz_I h 770 2) 2 (rz_g3 (mb h)) (-1) ∧ Ls2 = Ls)) → Q (.inl (some (ez_v (.inl v))), g)) : ez_W (d + 10) cm_276 0 [(0, .inr (.inr (some (770)))), (1, .inl (3))] [] h Q := by
  have b2 : 0 ≤ qz_I h 770 2 ∧ qz_I h 770 2 ≤ 4096 := ez_fB (cl := 11) (k := 2) hI.1 (hI.2.1 770 (by decide)) tq_75 rfl rfl (by decide)
  refine rd_mlA3 (d := d + 2) hI (by omega) (by omega) kS (fun hs l g τ1 A a I1 hA hfl => ?_) (fun hs l g τ1 a I1 hno => ?_)
  · skip
    have t7 : τ1 770 = 75 := I1.2.1 770 (by decide)
    have hl3 := a.2.1
    have l78 := ez_l78 I1.1 hl3.1
    have hlz : lz l := ⟨fun e => (by have t := hl3.1; rw [e, t7] at t; cases t), fun e => (by have t := hl3.1; rw [e, I1.2.1 771 (by decide)] at t; cases t), fun e => (by have t := hl3.1; rw [e, I1.2.1 789 (by decide)] at t; cases t), fun e => (by have t := hl3.1; rw [e, I1.2.1 790 (by decide)] at t; cases t)⟩
    have tt := ez_tls I1.1 t7
    have usp : τ1 (qz_P g l 7) = 15 := by rw [l78.1]; exact hl3.2.1
    have ucp : τ1 (qz_P g l 8) = 16 := by rw [l78.2]; exact hl3.2.2
    have eb : mb g = mb h := funext fun k => by unfold mb qz_I; rw [a.c hI.2.1 (hI.2.1 771 (by decide)) rfl]
    have a8 := a.2.2.2.2.2.2.2.1
    have en : pn g = pn h := a8 10 (by decide) (by decide)
    have ec : lc g = lc h := a8 12 (by decide) (by decide)
    have hbn : 0 < qz_I h 770 2 := rz_A_pos (by decide) hA
    have hlc2 : lc h ≤ 255 := by omega
    have b10 : 0 ≤ pn g ∧ pn g ≤ 38500 := ez_fB (cl := 11) (k := 10) I1.1 t7 tq_75 rfl rfl (by decide)
    have nN : 1024 ≤ qz_N g (po g) ∧ qz_N g (po g) ≤ 77100 := ez_len I1.1 tt.2 tq_17 rfl
    have np := I1.2.2.1.2.2
    have FF : ∀ k, 0 ≤ k → k < 2 → (0 ≤ mf g k ∧ mf g k ≤ mt g k) ∧ mt g k ≤ qz_I h 770 2 ∧ (mf g k < mt g k → ¬ bk (mb g (mf g k)) ∧ ¬ bk (mb g (mt g k - 1))) ∧ (∀ j, mf g k ≤ j → j < mt g k → 0 ≤ mb g j ∧ mb g j ≤ 127) := fun k k0 k1 => by rw [(hfl k k0 k1).1, (hfl k k0 k1).2, eb]; exact rz_A_fl hA b2.2 k0 (by show k < ((2 : Nat) : Int); omega)
    have hF : ∀ k, 0 ≤ k → k < 2 → (0 ≤ mf g k ∧ mf g k ≤ mt g k) ∧ mt g k ≤ 4096 := fun k k0 k1 => ⟨(FF k k0 k1).1, by have := (FF k k0 k1).2.1; omega⟩
    have hTr : ∀ k, 0 ≤ k → k < 2 → mf g k < mt g k → ¬ bk (mb g (mf g k)) ∧ ¬ bk (mb g (mt g k - 1)) := fun k k0 k1 => (FF k k0 k1).2.2.1
    have hnl := nl_aq hI a
    have hlg0 : l2 (l + 1) (l + 2) g := ⟨fun j => by rw [a.2.2.2.1, a.2.2.2.2.1]; omega, by rw [a.2.2.2.1, a.2.2.2.2.1]; omega⟩
    have hl2 : l2 (qz_P g l 7) (qz_P g l 8) g := by rw [l78.1, l78.2]; exact hlg0
    have hc0 : ∀ j, qz_I g (qz_P g l 8) j = 0 := fun j => by rw [l78.2]; exact a.2.2.2.2.1 j
    have cr := a.2.2.2.2.2.2.2.2.2
    refine ez_go (n := 1) (pc' := 97) (L' := [(3, .inr (.inr (some (l)))), (2, .inl (pn h)), (0, .inr (.inr (some (770)))), (1, .inl (3))]) (st' := [.inl (3)]) rfl ?_
    refine ez_if rfl rfl ⟨by decide, by decide⟩ (fun _ => ?_) (fun (c1 : ¬((3 : Int) ≠ (0))) => absurd c1 (by decide))
    refine ez_go (n := 2) (pc' := 110) (L' := [(3, .inr (.inr (some (l)))), (2, .inl (pn h)), (0, .inr (.inr (some (770)))), (1, .inl (3))]) (st' := [.inl (1), .inl (3)]) rfl ?_
    refine ez_icmp rfl rfl ⟨by decide, by decide⟩ ⟨by decide, by decide⟩ (fun _ => ?_) (fun (c2 : ¬((3 : Int) ≠ (1))) => absurd c2 (by decide))
    refine ez_go (n := 2) (pc' := 123) (L' := [(3, .inr (.inr (some (l)))), (2, .inl (pn h)), (0, .inr (.inr (some (770)))), (1, .inl (3))]) (st' := [.inl (2), .inl (3)]) rfl ?_
    refine ez_icmp rfl rfl ⟨by decide, by decide⟩ ⟨by decide, by decide⟩ (fun _ => ?_) (fun (c3 : ¬((3 : Int) ≠ (2))) => absurd c3 (by decide))
    refine ez_go (n := 2) (pc' := 136) (L' := [(3, .inr (.inr (some (l)))), (2, .inl (pn h)), (0, .inr (.inr (some (770)))), (1, .inl (3))]) (st' := [.inl (3), .inl (3)]) rfl ?_
    refine ez_icmp rfl rfl ⟨by decide, by decide⟩ ⟨by decide, by decide⟩ (fun (c4 : (3 : Int) ≠ (3)) => absurd c4 (by decide)) (fun _ => ?_)
    refine ez_go (n := 2) (pc' := 141) (L' := [(3, .inr (.inr (some (l)))), (2, .inl (pn h)), (0, .inr (.inr (some (770)))), (1, .inl (3))]) (st' := [.inr (.inr (some (l))), .inr (.inr (some (770)))]) rfl ?_
    refine ez_cv I1.1 t7 rfl rfl rfl tq_75 rfl rfl rfl (rd_property (d := d) I1.1 t7 hl3.1 hlz I1.2.2.2.2.2.1.1 I1.2.2.2.2.2.1.2 (fun s w hs => (nz_hz I1.1 I1.2.1 s w hs).1) (hF 0 (by omega) (by omega)) (hF 1 (by omega) (by omega)) (FF 1 (by omega) (by omega)).2.2.2 (by omega) (by omega) (fun hrg hG9 g2 τ2 hB2 hp y1 y2 y5 ypv yo r1 r2 => ez_K0 ?_) (fun hno hnG g2 τ2 hB2 hp r1 r2 => ez_Kc (xc_exc hB2 rfl) rfl ?_))
    · skip
      have F1 := FF 1 (by omega) (by omega)
      have q2 := hp.lq (X := lX l (l + 1) (l + 2)) (e := 5 * (mt g 1 - mf g 1) + 40) (lX_l _ _ _) t7 hl3.1 tt.2 I1.2.2.1.1.2 (by omega) (by omega)
      have lg2 := hlg0.1.py hp t7 hl3.1 hl3.2.1 hl3.2.2 tt.2
      have z1 : ∀ j, qz_I g2 (l + 1) j = 0 := fun j => by rw [← a.2.2.2.1 j]; unfold qz_I; rw [(hp.1 (l + 1) (by rw [hl3.2.1]; decide)).2 (fun e => by have t := hl3.2.1; rw [e, t7] at t; cases t) (by omega) (by rw [hl3.2.1]; decide) (by rw [hl3.2.1]; decide)]
      have z2 : ∀ j, qz_I g2 (l + 2) j = 0 := fun j => by rw [← a.2.2.2.2.1 j]; unfold qz_I; rw [(hp.1 (l + 2) (by rw [hl3.2.2]; decide)).2 (fun e => by have t := hl3.2.2; rw [e, t7] at t; cases t) (by omega) (by rw [hl3.2.2]; decide) (by rw [hl3.2.2]; decide)]
      have nn0 := qz_N_nn g2 (po g2)
      have h42 : qz_I g2 l 0 = 4 → qz_I g2 (l + 1) 1 + 4 * qz_I g2 (l + 2) 1 ≤ qz_N g2 (po g2) := fun _ => by rw [z1, z2]; omega
      have v7 : τ2 770 = 75 := (q2.1 770 (by rw [t7]; decide)).1.trans t7
      have hl4 : τ2 l = 13 ∧ τ2 (l + 1) = 15 ∧ τ2 (l + 2) = 16 := ⟨(q2.1 l (by rw [hl3.1]; decide)).1.trans hl3.1, (q2.1 _ (by rw [hl3.2.1]; decide)).1.trans hl3.2.1, (q2.1 _ (by rw [hl3.2.2]; decide)).1.trans hl3.2.2⟩
      have II := I1.lq hl3 hnl q2 hB2 lg2 h42
      have rr := q2.2.2.2.2.2.2.2.2.1
      have rp := pool_le hB2 q2.2.2.1
      have fq := fw_lq (fw_aq a hI.1 hI.2.1) q2 I1.1 t7 a.1 hl3
      refine ez_go (n := 2) (pc' := 168) (L' := [(3, .inr (.inr (some (l)))), (2, .inl (pn h)), (0, .inr (.inr (some (770)))), (1, .inl (3))]) (st' := []) rfl ?_
      refine ez_less [(1, .inl (3)), (3, .inr (.inr (some (l)))), (0, .inr (.inr (some (770))))] rfl ⟨rfl, rfl, rfl, trivial⟩ ?_
      obtain ⟨gr, nm, p1, p2, p3⟩ := ypv
      have pb := rz_PV_bd p1 hG9
      rw [eb, (hfl 1 (by omega) (by omega)).1, (hfl 1 (by omega) (by omega)).2] at p1
      have hvx : vx g2 l (((3 : Int), rz_first (mb h) (rz_ff (mb h) A 0) (rz_tt (mb h) A 0), rz_last (mb h) (rz_ff (mb h) A 0) (rz_tt (mb h) A 0)), ((0 : Int), (0 : Int), (0 : Int), (0 : Int)), (gr, nm), ((0 : Int), ([] : List Int), ([] : List Int), ([] : List Int))) := by
        refine ⟨(yo 0 (by decide) (by decide) (by decide) (by decide)).trans a.2.2.1.1, fun e => absurd e (by show ¬ (3 : Int) = 0; decide), fun e => absurd e (by show ¬ (3 : Int) = 1; decide), fun e => absurd e (by show ¬ (3 : Int) = 2; decide), fun _ => ⟨⟨?_, ?_⟩, p2, p3, pb⟩⟩
        · show qz_I g2 l 1 = rz_first (mb h) (rz_ff (mb h) A 0) (rz_tt (mb h) A 0)
          rw [y1, eb, (hfl 0 (by omega) (by omega)).1, (hfl 0 (by omega) (by omega)).2]
        · show qz_I g2 l 2 = rz_last (mb h) (rz_ff (mb h) A 0) (rz_tt (mb h) A 0)
          rw [y2, eb, (hfl 0 (by omega) (by omega)).1, (hfl 0 (by omega) (by omega)).2]
      have hly : lyE (mb h) (qz_I h 770 2) 3 (((3 : Int), rz_first (mb h) (rz_ff (mb h) A 0) (rz_tt (mb h) A 0), rz_last (mb h) (rz_ff (mb h) A 0) (rz_tt (mb h) A 0)), ((0 : Int), (0 : Int), (0 : Int), (0 : Int)), (gr, nm), ((0 : Int), ([] : List Int), ([] : List Int), ([] : List Int))) := Or.inr (Or.inr (Or.inr (Or.inl ⟨rfl, A, gr, nm, hA, p1, rfl⟩)))
      have hA75 : (([] : List Int).length : Int) ≤ 75 := by decide
      have hvc : vc g2 l ((3 : Int), rz_first (mb g) (mf g 0) (mt g 0), rz_last (mb g) (mf g 0) (mt g 0), qz_I g2 l 4, qz_I g2 l 5, ([] : List Int), (((3 : Int), rz_first (mb h) (rz_ff (mb h) A 0) (rz_tt (mb h) A 0), rz_last (mb h) (rz_ff (mb h) A 0) (rz_tt (mb h) A 0)), ((0 : Int), (0 : Int), (0 : Int), (0 : Int)), (gr, nm), ((0 : Int), ([] : List Int), ([] : List Int), ([] : List Int)))) := ⟨⟨(yo 0 (by decide) (by decide) (by decide) (by decide)).trans a.2.2.1.1, y1, y2, rfl, rfl⟩, fun e => absurd e (by show ¬ (3 : Int) = 0; decide)⟩
      have f0 := hfl 0 (by omega) (by omega)
      have f1 := hfl 1 (by omega) (by omega)
      have hst : rz_step (mb h) (qz_I h 770 2) 3 (vF Ls) (vE Ls) (vF (Ls ++ [((3 : Int), rz_first (mb g) (mf g 0) (mt g 0), rz_last (mb g) (mf g 0) (mt g 0), qz_I g2 l 4, qz_I g2 l 5, ([] : List Int), (((3 : Int), rz_first (mb h) (rz_ff (mb h) A 0) (rz_tt (mb h) A 0), rz_last (mb h) (rz_ff (mb h) A 0) (rz_tt (mb h) A 0)), ((0 : Int), (0 : Int), (0 : Int), (0 : Int)), (gr, nm), ((0 : Int), ([] : List Int), ([] : List Int), ([] : List Int))))])) (vE (Ls ++ [((3 : Int), rz_first (mb g) (mf g 0) (mt g 0), rz_last (mb g) (mf g 0) (mt g 0), qz_I g2 l 4, qz_I g2 l 5, ([] : List Int), (((3 : Int), rz_first (mb h) (rz_ff (mb h) A 0) (rz_tt (mb h) A 0), rz_last (mb h) (rz_ff (mb h) A 0) (rz_tt (mb h) A 0)), ((0 : Int), (0 : Int), (0 : Int), (0 : Int)), (gr, nm), ((0 : Int), ([] : List Int), ([] : List Int), ([] : List Int))))])) := by
        rw [vF_app, vE_app]
        rw [eb, f0.1, f0.2] at hrg
        rw [eb, f1.1, f1.2] at y5
        refine ⟨fun e => absurd e (by decide), fun _ => ?_, fun _ e => absurd rfl e⟩
        by_cases ce : rz_CE (mb h) (rz_ff (mb h) A 1) (rz_tt (mb h) A 1)
        · refine Or.inl ⟨_, _, ⟨A, hA, ⟨rfl, rfl, hrg.1, hrg.2⟩, ce⟩, vf_no (by show (3 : Int) ≠ 0; decide), fun y => ?_⟩
          have z5 := y5.mpr ce
          show (vE Ls y ∨ ((3 : Int) = 3 ∧ qz_I g2 l 5 = 0 ∧ rz_first (mb g) (mf g 0) (mt g 0) ≤ y ∧ y ≤ rz_last (mb g) (mf g 0) (mt g 0))) ↔ _
          rw [eb, f0.1, f0.2]
          exact ⟨fun w => w.imp id (fun w => w.2.2), fun w => w.imp id (fun w => ⟨rfl, z5, w⟩)⟩
        · refine Or.inr ⟨?_, vf_no (by show (3 : Int) ≠ 0; decide), ve_no (Or.inr (fun e => ce (y5.mp e)))⟩
          rintro ⟨first, last, A', hA', -, hc'⟩
          rw [rz_A_uniq hA' hA] at hc'
          exact ce hc'
      have hans : ∀ v, v = (if (3 : Int) = 4 then qz_I g2 (qz_P g2 l 8) 0 else qz_I g2 l 2 - qz_I g2 l 1 + 1) → v ≠ -1 ∧ rz_an (mb h) (qz_I h 770 2) 2 (rz_g3 (mb h)) v := fun v hv => by
        rw [if_neg (by decide), y1, y2] at hv
        rw [eb, f0.1, f0.2] at hv hrg
        rw [eb, f1.1, f1.2] at hG9
        have b9 := rz_last_bd (mb h) (rz_ff (mb h) A 0) (rz_tt (mb h) A 0)
        exact ⟨by omega, Or.inl ⟨A, hA, hrg, hG9, hv⟩⟩
      have I2 := II.1
      have ec2 : lc g2 = lc h := (q2.2.2.2.1 12 (by decide) (by decide) (by decide) (by decide)).trans ec
      have tcp2 : τ2 (qz_P g2 l 8) = 16 := by rw [(ez_l78 hB2 hl4.1).2]; exact hl4.2.2
      refine rd_ml hB2 v7 hl4.1 (ez_tls hB2 v7).1 tcp2 ⟨by omega, by omega⟩ I2.2.2.1.1.1 (by omega) I2.2.2.1.2.1 I2.2.2.2.1.1 (by omega) (by omega) (fun g3 τ3 v hB3 u hv => kC hs g3 τ3 _ v (mI.lu (x := ((3 : Int), rz_first (mb g) (mf g 0) (mt g 0), rz_last (mb g) (mf g 0) (mt g 0), qz_I g2 l 4, qz_I g2 l 5, ([] : List Int), (((3 : Int), rz_first (mb h) (rz_ff (mb h) A 0) (rz_tt (mb h) A 0), rz_last (mb h) (rz_ff (mb h) A 0) (rz_tt (mb h) A 0)), ((0 : Int), (0 : Int), (0 : Int), (0 : Int)), (gr, nm), ((0 : Int), ([] : List Int), ([] : List Int), ([] : List Int))))) I2 hA75 hl4 (nl_lq I1 hl3 q2 hnl) u hB3 ⟨hvc, hvx⟩) ((fw_lu fq u hB2 v7).mono (by omega)) hst (Or.inr ⟨by rw [u.2.2.2.2.1, ec2], hbn⟩) (Or.inl ⟨by rw [u.2.2.2.1 0 (by decide) (by decide) (by decide), q2.2.2.2.1 0 (by decide) (by decide) (by decide) (by decide)]; exact cr.2.2.2.2, (hans v hv).1, (hans v hv).2, ((3 : Int), rz_first (mb g) (mf g 0) (mt g 0), rz_last (mb g) (mf g 0) (mt g 0), qz_I g2 l 4, qz_I g2 l 5, ([] : List Int), (((3 : Int), rz_first (mb h) (rz_ff (mb h) A 0) (rz_tt (mb h) A 0), rz_last (mb h) (rz_ff (mb h) A 0) (rz_tt (mb h) A 0)), ((0 : Int), (0 : Int), (0 : Int), (0 : Int)), (gr, nm), ((0 : Int), ([] : List Int), ([] : List Int), ([] : List Int)))), rfl, hly⟩))
    · skip
      have F1 := FF 1 (by omega) (by omega)
      have q2 := hp.lq (X := lX l (l + 1) (l + 2)) (e := 5 * (mt g 1 - mf g 1) + 40) (lX_l _ _ _) t7 hl3.1 tt.2 I1.2.2.1.1.2 (by omega) (by omega)
      have lg2 := hlg0.1.py hp t7 hl3.1 hl3.2.1 hl3.2.2 tt.2
      have z1 : ∀ j, qz_I g2 (l + 1) j = 0 := fun j => by rw [← a.2.2.2.1 j]; unfold qz_I; rw [(hp.1 (l + 1) (by rw [hl3.2.1]; decide)).2 (fun e => by have t := hl3.2.1; rw [e, t7] at t; cases t) (by omega) (by rw [hl3.2.1]; decide) (by rw [hl3.2.1]; decide)]
      have z2 : ∀ j, qz_I g2 (l + 2) j = 0 := fun j => by rw [← a.2.2.2.2.1 j]; unfold qz_I; rw [(hp.1 (l + 2) (by rw [hl3.2.2]; decide)).2 (fun e => by have t := hl3.2.2; rw [e, t7] at t; cases t) (by omega) (by rw [hl3.2.2]; decide) (by rw [hl3.2.2]; decide)]
      have nn0 := qz_N_nn g2 (po g2)
      have h42 : qz_I g2 l 0 = 4 → qz_I g2 (l + 1) 1 + 4 * qz_I g2 (l + 2) 1 ≤ qz_N g2 (po g2) := fun _ => by rw [z1, z2]; omega
      have v7 : τ2 770 = 75 := (q2.1 770 (by rw [t7]; decide)).1.trans t7
      have hl4 : τ2 l = 13 ∧ τ2 (l + 1) = 15 ∧ τ2 (l + 2) = 16 := ⟨(q2.1 l (by rw [hl3.1]; decide)).1.trans hl3.1, (q2.1 _ (by rw [hl3.2.1]; decide)).1.trans hl3.2.1, (q2.1 _ (by rw [hl3.2.2]; decide)).1.trans hl3.2.2⟩
      have II := I1.lq hl3 hnl q2 hB2 lg2 h42
      have rr := q2.2.2.2.2.2.2.2.2.1
      have rp := pool_le hB2 q2.2.2.1
      have fq := fw_lq (fw_aq a hI.1 hI.2.1) q2 I1.1 t7 a.1 hl3
      have f0 := hfl 0 (by omega) (by omega)
      have f1 := hfl 1 (by omega) (by omega)
      have hst : rz_step (mb h) (qz_I h 770 2) 3 (vF Ls) (vE Ls) (vF Ls) (vE Ls) := by
        refine ⟨fun e => absurd e (by decide), fun _ => Or.inr ⟨?_, rfl, rfl⟩, fun _ e => absurd rfl e⟩
        rintro ⟨first, last, A', hA', ⟨e1, e2, e3, e4⟩, hc'⟩
        rw [rz_A_uniq hA' hA] at hc' e1 e2
        rw [eb, f0.1, f0.2, f1.1, f1.2] at hno
        exact hno ⟨⟨by rw [← e1]; exact e3, by rw [← e1, ← e2]; exact e4⟩, hc'⟩
      have hnan : rz_an (mb h) (qz_I h 770 2) 2 (rz_g3 (mb h)) (-1) := rz_an_f hA (fun v w => hnG (by rw [eb, (hfl 0 (by omega) (by omega)).1, (hfl 0 (by omega) (by omega)).2, (hfl 1 (by omega) (by omega)).1, (hfl 1 (by omega) (by omega)).2]; exact ⟨w.1, w.2.1⟩))
      refine ez_less [(3, .inr (.inr (some (l)))), (2, .inl (pn h)), (0, .inr (.inr (some (770)))), (1, .inl (3))] rfl ⟨rfl, rfl, rfl, rfl, trivial⟩ ?_
      refine rd_mlE (d := d + 9) (n := pn h) (xc_B hB2 (by omega) (by omega)) v7 (by omega) (by omega) (fun g3 hB3 f3 j3 p3 z3 => kC hs g3 τ2 Ls 0 (II.2 0 (by omega) g3 hB3 (fun q hq h7 => by rw [f3.2.2 q (dz_beq_ne h7), xc_t hB2 hq]) (fun j j0 j10 => by rw [j3 j j0 j10]; unfold qz_I; rw [xc_t hB2 (by rw [v7]; decide)]) (by rw [p3, en]; omega) (by omega)) ((fw_xc fq hB2 v7 f3 j3).mono (by omega)) hst (Or.inl ?_) (Or.inr ⟨z3, hnan, rfl⟩))
      show qz_I g3 770 12 = qz_I h 770 12
      rw [j3 12 (by decide) (by decide)]; unfold qz_I; rw [xc_t hB2 (by rw [v7]; decide)]
      exact (q2.2.2.2.1 12 (by decide) (by decide) (by decide) (by decide)).trans ec
  · skip
    have t7 : τ1 770 = 75 := I1.2.1 770 (by decide)
    have en : pn g = pn h := a.2.2.2.2.2.2.2.1 10 (by decide) (by decide)
    have ec : lc g = lc h := a.2.2.2.2.2.2.2.1 12 (by decide) (by decide)
    have b10 : 0 ≤ pn g ∧ pn g ≤ 38500 := ez_fB (cl := 11) (k := 10) I1.1 t7 tq_75 rfl rfl (by decide)
    have cr := a.2.2.2.2.2.2.2.2.2
    refine rd_mlE (d := d + 9) (n := pn h) (xc_B I1.1 (by omega) (by omega)) t7 (by omega) (by omega) (fun g3 hB3 f3 j3 p3 z3 => kC hs g3 τ1 Ls 0 (I1.f7 hB3 (fun q hq h7 => by rw [f3.2.2 q (dz_beq_ne h7), xc_t I1.1 hq]) (fun j j1 j2 => ?_)) ((fw_xc (fw_aq a hI.1 hI.2.1) I1.1 t7 f3 j3).mono (by omega)) ⟨fun e => absurd e (by decide), fun _ => Or.inr ⟨fun ⟨f, la, A', hA', _⟩ => hno ⟨A', hA'⟩, rfl, rfl⟩, fun _ e => absurd rfl e⟩ (Or.inl ?_) (Or.inr ⟨z3, rz_an_n hno, rfl⟩))
    · by_cases e : j = 10
      · subst e; exact p3.trans en.symm
      · rw [j3 j (by omega) e]; unfold qz_I; rw [xc_t I1.1 (by rw [t7]; decide)]
    · show qz_I g3 770 12 = qz_I h 770 12
      rw [j3 12 (by decide) (by decide)]; unfold qz_I; rw [xc_t I1.1 (by rw [t7]; decide)]
      exact ec

theorem rd_mline4 (hI : mI τ h Ls 0) (hlc : qz_I h 770 2 = 0 ∨ lc h ≤ 255) (hr1 : h.1 + 25000 ≤ 600192) (hr2 : h.2.1 + 900000 ≤ 7302232) (kS : qz_I h 770 7 ≠ 0 → ∀ g, mI τ g Ls 0 → ez_fr (ez_one 770) h g → (∀ j, j ≠ 0 → qz_I g 770 j = qz_I h 770 j) → qz_I g 770 0 = 2 → Q (.inl (some (ez_v (.inl 0))), g)) (kC : qz_I h 770 7 = 0 → ∀ g τ1 Ls2 v, mI τ1 g Ls2 0 → fw τ h τ1 g (45 * qz_I h 770 2 + 100) → rz_step (mb h) (qz_I h 770 2) 4 (vF Ls) (vE Ls) (vF Ls2) (vE Ls2) → (lc g = lc h ∨ (lc g = lc h + 1 ∧ 0 < qz_I h 770 2)) → ((qz_I g 770 0 = 0 ∧ v ≠ -1 ∧ rz_an (mb h) (qz_I h 770 2) 2 (rz_g4 (mb h)) v ∧ ∃ x : vz, Ls2 = Ls ++ [x] ∧ lyE (mb h) (qz_I h 770 2) 4 x.2.2.2.2.2.2) ∨ (qz_I g 770 0 = 3 ∧ rz_an (mb h) (qz_I h 770 2) 2 (rz_g4 (mb h)) (-1) ∧ Ls2 = Ls)) → Q (.inl (some (ez_v (.inl v))), g)) : ez_W (d + 10) cm_276 0 [(0, .inr (.inr (some (770)))), (1, .inl (4))] [] h Q := by
  have b2 : 0 ≤ qz_I h 770 2 ∧ qz_I h 770 2 ≤ 4096 := ez_fB (cl := 11) (k := 2) hI.1 (hI.2.1 770 (by decide)) tq_75 rfl rfl (by decide)
  refine rd_mlA4 (d := d + 2) hI (by omega) (by omega) kS (fun hs l g τ1 A a I1 hA hfl => ?_) (fun hs l g τ1 a I1 hno => ?_)
  · skip
    have t7 : τ1 770 = 75 := I1.2.1 770 (by decide)
    have hl3 := a.2.1
    have l78 := ez_l78 I1.1 hl3.1
    have hlz : lz l := ⟨fun e => (by have t := hl3.1; rw [e, t7] at t; cases t), fun e => (by have t := hl3.1; rw [e, I1.2.1 771 (by decide)] at t; cases t), fun e => (by have t := hl3.1; rw [e, I1.2.1 789 (by decide)] at t; cases t), fun e => (by have t := hl3.1; rw [e, I1.2.1 790 (by decide)] at t; cases t)⟩
    have tt := ez_tls I1.1 t7
    have usp : τ1 (qz_P g l 7) = 15 := by rw [l78.1]; exact hl3.2.1
    have ucp : τ1 (qz_P g l 8) = 16 := by rw [l78.2]; exact hl3.2.2
    have eb : mb g = mb h := funext fun k => by unfold mb qz_I; rw [a.c hI.2.1 (hI.2.1 771 (by decide)) rfl]
    have a8 := a.2.2.2.2.2.2.2.1
    have en : pn g = pn h := a8 10 (by decide) (by decide)
    have ec : lc g = lc h := a8 12 (by decide) (by decide)
    have hbn : 0 < qz_I h 770 2 := rz_A_pos (by decide) hA
    have hlc2 : lc h ≤ 255 := by omega
    have b10 : 0 ≤ pn g ∧ pn g ≤ 38500 := ez_fB (cl := 11) (k := 10) I1.1 t7 tq_75 rfl rfl (by decide)
    have nN : 1024 ≤ qz_N g (po g) ∧ qz_N g (po g) ≤ 77100 := ez_len I1.1 tt.2 tq_17 rfl
    have np := I1.2.2.1.2.2
    have FF : ∀ k, 0 ≤ k → k < 2 → (0 ≤ mf g k ∧ mf g k ≤ mt g k) ∧ mt g k ≤ qz_I h 770 2 ∧ (mf g k < mt g k → ¬ bk (mb g (mf g k)) ∧ ¬ bk (mb g (mt g k - 1))) ∧ (∀ j, mf g k ≤ j → j < mt g k → 0 ≤ mb g j ∧ mb g j ≤ 127) := fun k k0 k1 => by rw [(hfl k k0 k1).1, (hfl k k0 k1).2, eb]; exact rz_A_fl hA b2.2 k0 (by show k < ((2 : Nat) : Int); omega)
    have hF : ∀ k, 0 ≤ k → k < 2 → (0 ≤ mf g k ∧ mf g k ≤ mt g k) ∧ mt g k ≤ 4096 := fun k k0 k1 => ⟨(FF k k0 k1).1, by have := (FF k k0 k1).2.1; omega⟩
    have hTr : ∀ k, 0 ≤ k → k < 2 → mf g k < mt g k → ¬ bk (mb g (mf g k)) ∧ ¬ bk (mb g (mt g k - 1)) := fun k k0 k1 => (FF k k0 k1).2.2.1
    have hnl := nl_aq hI a
    have hlg0 : l2 (l + 1) (l + 2) g := ⟨fun j => by rw [a.2.2.2.1, a.2.2.2.2.1]; omega, by rw [a.2.2.2.1, a.2.2.2.2.1]; omega⟩
    have hl2 : l2 (qz_P g l 7) (qz_P g l 8) g := by rw [l78.1, l78.2]; exact hlg0
    have hc0 : ∀ j, qz_I g (qz_P g l 8) j = 0 := fun j => by rw [l78.2]; exact a.2.2.2.2.1 j
    have cr := a.2.2.2.2.2.2.2.2.2
    refine ez_go (n := 1) (pc' := 97) (L' := [(3, .inr (.inr (some (l)))), (2, .inl (pn h)), (0, .inr (.inr (some (770)))), (1, .inl (4))]) (st' := [.inl (4)]) rfl ?_
    refine ez_if rfl rfl ⟨by decide, by decide⟩ (fun _ => ?_) (fun (c1 : ¬((4 : Int) ≠ (0))) => absurd c1 (by decide))
    refine ez_go (n := 2) (pc' := 110) (L' := [(3, .inr (.inr (some (l)))), (2, .inl (pn h)), (0, .inr (.inr (some (770)))), (1, .inl (4))]) (st' := [.inl (1), .inl (4)]) rfl ?_
    refine ez_icmp rfl rfl ⟨by decide, by decide⟩ ⟨by decide, by decide⟩ (fun _ => ?_) (fun (c2 : ¬((4 : Int) ≠ (1))) => absurd c2 (by decide))
    refine ez_go (n := 2) (pc' := 123) (L' := [(3, .inr (.inr (some (l)))), (2, .inl (pn h)), (0, .inr (.inr (some (770)))), (1, .inl (4))]) (st' := [.inl (2), .inl (4)]) rfl ?_
    refine ez_icmp rfl rfl ⟨by decide, by decide⟩ ⟨by decide, by decide⟩ (fun _ => ?_) (fun (c3 : ¬((4 : Int) ≠ (2))) => absurd c3 (by decide))
    refine ez_go (n := 2) (pc' := 136) (L' := [(3, .inr (.inr (some (l)))), (2, .inl (pn h)), (0, .inr (.inr (some (770)))), (1, .inl (4))]) (st' := [.inl (3), .inl (4)]) rfl ?_
    refine ez_icmp rfl rfl ⟨by decide, by decide⟩ ⟨by decide, by decide⟩ (fun _ => ?_) (fun (c4 : ¬((4 : Int) ≠ (3))) => absurd c4 (by decide))
    refine ez_go (n := 2) (pc' := 149) (L' := [(3, .inr (.inr (some (l)))), (2, .inl (pn h)), (0, .inr (.inr (some (770)))), (1, .inl (4))]) (st' := [.inr (.inr (some (l))), .inr (.inr (some (770)))]) rfl ?_
    refine ez_cv I1.1 t7 rfl rfl rfl tq_75 rfl rfl rfl (rd_collation (d := d) I1.1 t7 hl3.1 hlz usp ucp tt.2 b10.1 I1.2.2.1.1.2 (by omega) nN.1 (by omega) (by omega) hl2 hc0 hF hTr (fun g2 τ2 c2 A2 hB2 hp c18 hG9 hv9 => ez_K0 ?_) (fun g2 τ2 A2 hB2 hp hk hnG => ez_Kc (xc_exc hB2 rfl) rfl ?_))
    · skip
      have hp2 := hp.l2 (by omega)
      have q2 := hp.1.lq
      rw [l78.1, l78.2] at q2 hp2
      have lg2 := hp2.1
      have h42 : qz_I g2 l 0 = 4 → qz_I g2 (l + 1) 1 + 4 * qz_I g2 (l + 2) 1 ≤ qz_N g2 (po g2) := fun _ => hp2.2
      have v7 : τ2 770 = 75 := (q2.1 770 (by rw [t7]; decide)).1.trans t7
      have hl4 : τ2 l = 13 ∧ τ2 (l + 1) = 15 ∧ τ2 (l + 2) = 16 := ⟨(q2.1 l (by rw [hl3.1]; decide)).1.trans hl3.1, (q2.1 _ (by rw [hl3.2.1]; decide)).1.trans hl3.2.1, (q2.1 _ (by rw [hl3.2.2]; decide)).1.trans hl3.2.2⟩
      have II := I1.lq hl3 hnl q2 hB2 lg2 h42
      have rr := q2.2.2.2.2.2.2.2.2.1
      have rp := pool_le hB2 q2.2.2.1
      have fq := fw_lq (fw_aq a hI.1 hI.2.1) q2 I1.1 t7 a.1 hl3
      refine ez_go (n := 1) (pc' := 168) (L' := [(3, .inr (.inr (some (l)))), (2, .inl (pn h)), (0, .inr (.inr (some (770)))), (1, .inl (4))]) (st' := []) rfl ?_
      refine ez_less [(1, .inl (4)), (3, .inr (.inr (some (l)))), (0, .inr (.inr (some (770))))] rfl ⟨rfl, rfl, rfl, trivial⟩ ?_
      have hvx : vx g2 l (((4 : Int), (0 : Int), (0 : Int)), ((0 : Int), (0 : Int), (0 : Int), (0 : Int)), ((0 : Int), (0 : Int)), ((0 : Int), ([] : List Int), ([] : List Int), ([] : List Int))) := ⟨(by unfold qz_I; rw [hp.2.2.1]; exact a.2.2.1.1), fun e => absurd e (by show ¬ (4 : Int) = 0; decide), fun e => absurd e (by show ¬ (4 : Int) = 1; decide), fun e => absurd e (by show ¬ (4 : Int) = 2; decide), fun e => absurd e (by show ¬ (4 : Int) = 3; decide)⟩
      have hly : lyE (mb h) (qz_I h 770 2) 4 (((4 : Int), (0 : Int), (0 : Int)), ((0 : Int), (0 : Int), (0 : Int), (0 : Int)), ((0 : Int), (0 : Int)), ((0 : Int), ([] : List Int), ([] : List Int), ([] : List Int))) := Or.inr (Or.inr (Or.inr (Or.inr ⟨rfl, rfl⟩)))
      have hA75 : ((A2).length : Int) ≤ 75 := by have := hp.2.2.2.2.2; omega
      have hvc : vc g2 l ((4 : Int), qz_I g2 l 1, qz_I g2 l 2, qz_I g2 l 4, qz_I g2 l 5, ([] : List Int), (((4 : Int), (0 : Int), (0 : Int)), ((0 : Int), (0 : Int), (0 : Int), (0 : Int)), ((0 : Int), (0 : Int)), ((0 : Int), ([] : List Int), ([] : List Int), ([] : List Int)))) := ⟨⟨(by unfold qz_I; rw [hp.2.2.1]; exact a.2.2.1.1), rfl, rfl, rfl, rfl⟩, fun e => absurd e (by show ¬ (4 : Int) = 0; decide)⟩
      have hst : rz_step (mb h) (qz_I h 770 2) 4 (vF Ls) (vE Ls) (vF (Ls ++ [((4 : Int), qz_I g2 l 1, qz_I g2 l 2, qz_I g2 l 4, qz_I g2 l 5, ([] : List Int), (((4 : Int), (0 : Int), (0 : Int)), ((0 : Int), (0 : Int), (0 : Int), (0 : Int)), ((0 : Int), (0 : Int)), ((0 : Int), ([] : List Int), ([] : List Int), ([] : List Int))))])) (vE (Ls ++ [((4 : Int), qz_I g2 l 1, qz_I g2 l 2, qz_I g2 l 4, qz_I g2 l 5, ([] : List Int), (((4 : Int), (0 : Int), (0 : Int)), ((0 : Int), (0 : Int), (0 : Int), (0 : Int)), ((0 : Int), (0 : Int)), ((0 : Int), ([] : List Int), ([] : List Int), ([] : List Int))))])) := by
        rw [vF_app, vE_app]
        exact ⟨fun e => absurd e (by decide), fun e => absurd e (by decide), fun _ _ => ⟨vf_no (by show (4 : Int) ≠ 0; decide), ve_no (Or.inl (by show (4 : Int) ≠ 3; decide))⟩⟩
      have hans : ∀ v, v = (if (4 : Int) = 4 then qz_I g2 (qz_P g2 l 8) 0 else qz_I g2 l 2 - qz_I g2 l 1 + 1) → v ≠ -1 ∧ rz_an (mb h) (qz_I h 770 2) 2 (rz_g4 (mb h)) v := fun v hv => by
        rw [if_pos rfl, (ez_l78 hB2 hl4.1).2, ← l78.2] at hv
        unfold rz_G4 at hG9
        rw [eb, (hfl 0 (by omega) (by omega)).1, (hfl 0 (by omega) (by omega)).2, (hfl 1 (by omega) (by omega)).1, (hfl 1 (by omega) (by omega)).2] at hG9
        rw [eb, (hfl 0 (by omega) (by omega)).1, (hfl 0 (by omega) (by omega)).2] at hv9
        obtain ⟨vs, hvs⟩ : ∃ vs, rz_rw (mb h) 3 (rz_ff (mb h) A 0) (rz_tt (mb h) A 0) = some vs := by
          cases e9 : rz_rw (mb h) 3 (rz_ff (mb h) A 0) (rz_tt (mb h) A 0) with
          | none => exact absurd e9 hG9.1
          | some vs => exact ⟨vs, rfl⟩
        have := hv9 vs hvs
        exact ⟨by omega, Or.inl ⟨A, hA, hG9, fun vs2 w => by rw [hv]; exact hv9 vs2 w⟩⟩
      have I2 := II.1
      have ec2 : lc g2 = lc h := (q2.2.2.2.1 12 (by decide) (by decide) (by decide) (by decide)).trans ec
      have tcp2 : τ2 (qz_P g2 l 8) = 16 := by rw [(ez_l78 hB2 hl4.1).2]; exact hl4.2.2
      refine rd_ml hB2 v7 hl4.1 (ez_tls hB2 v7).1 tcp2 ⟨by omega, by omega⟩ I2.2.2.1.1.1 (by omega) I2.2.2.1.2.1 I2.2.2.2.1.1 (by omega) (by omega) (fun g3 τ3 v hB3 u hv => kC hs g3 τ3 _ v (mI.lu (x := ((4 : Int), qz_I g2 l 1, qz_I g2 l 2, qz_I g2 l 4, qz_I g2 l 5, ([] : List Int), (((4 : Int), (0 : Int), (0 : Int)), ((0 : Int), (0 : Int), (0 : Int), (0 : Int)), ((0 : Int), (0 : Int)), ((0 : Int), ([] : List Int), ([] : List Int), ([] : List Int))))) I2 hA75 hl4 (nl_lq I1 hl3 q2 hnl) u hB3 ⟨hvc, hvx⟩) ((fw_lu fq u hB2 v7).mono (by omega)) hst (Or.inr ⟨by rw [u.2.2.2.2.1, ec2], hbn⟩) (Or.inl ⟨by rw [u.2.2.2.1 0 (by decide) (by decide) (by decide), q2.2.2.2.1 0 (by decide) (by decide) (by decide) (by decide)]; exact cr.2.2.2.2, (hans v hv).1, (hans v hv).2, ((4 : Int), qz_I g2 l 1, qz_I g2 l 2, qz_I g2 l 4, qz_I g2 l 5, ([] : List Int), (((4 : Int), (0 : Int), (0 : Int)), ((0 : Int), (0 : Int), (0 : Int), (0 : Int)), ((0 : Int), (0 : Int)), ((0 : Int), ([] : List Int), ([] : List Int), ([] : List Int)))), rfl, hly⟩))
    · skip
      rw [l78.1, l78.2] at hp
      have q2 := hp.1.lq
      have lg2 := hp.2.1
      have h42 : qz_I g2 l 0 = 4 → qz_I g2 (l + 1) 1 + 4 * qz_I g2 (l + 2) 1 ≤ qz_N g2 (po g2) := fun _ => hp.2.2
      have v7 : τ2 770 = 75 := (q2.1 770 (by rw [t7]; decide)).1.trans t7
      have hl4 : τ2 l = 13 ∧ τ2 (l + 1) = 15 ∧ τ2 (l + 2) = 16 := ⟨(q2.1 l (by rw [hl3.1]; decide)).1.trans hl3.1, (q2.1 _ (by rw [hl3.2.1]; decide)).1.trans hl3.2.1, (q2.1 _ (by rw [hl3.2.2]; decide)).1.trans hl3.2.2⟩
      have II := I1.lq hl3 hnl q2 hB2 lg2 h42
      have rr := q2.2.2.2.2.2.2.2.2.1
      have rp := pool_le hB2 q2.2.2.1
      have fq := fw_lq (fw_aq a hI.1 hI.2.1) q2 I1.1 t7 a.1 hl3
      have hst : rz_step (mb h) (qz_I h 770 2) 4 (vF Ls) (vE Ls) (vF Ls) (vE Ls) := ⟨fun e => absurd e (by decide), fun e => absurd e (by decide), fun _ _ => ⟨rfl, rfl⟩⟩
      have hnan : rz_an (mb h) (qz_I h 770 2) 2 (rz_g4 (mb h)) (-1) := rz_an_f hA (fun v w => hnG (by have w1 := w.1; unfold rz_G4 at w1 ⊢; rw [eb, (hfl 0 (by omega) (by omega)).1, (hfl 0 (by omega) (by omega)).2, (hfl 1 (by omega) (by omega)).1, (hfl 1 (by omega) (by omega)).2]; exact w1))
      refine ez_less [(3, .inr (.inr (some (l)))), (2, .inl (pn h)), (0, .inr (.inr (some (770)))), (1, .inl (4))] rfl ⟨rfl, rfl, rfl, rfl, trivial⟩ ?_
      refine rd_mlE (d := d + 9) (n := pn h) (xc_B hB2 (by omega) (by omega)) v7 (by omega) (by omega) (fun g3 hB3 f3 j3 p3 z3 => kC hs g3 τ2 Ls 0 (II.2 0 (by omega) g3 hB3 (fun q hq h7 => by rw [f3.2.2 q (dz_beq_ne h7), xc_t hB2 hq]) (fun j j0 j10 => by rw [j3 j j0 j10]; unfold qz_I; rw [xc_t hB2 (by rw [v7]; decide)]) (by rw [p3, en]; omega) (by omega)) ((fw_xc fq hB2 v7 f3 j3).mono (by omega)) hst (Or.inl ?_) (Or.inr ⟨z3, hnan, rfl⟩))
      show qz_I g3 770 12 = qz_I h 770 12
      rw [j3 12 (by decide) (by decide)]; unfold qz_I; rw [xc_t hB2 (by rw [v7]; decide)]
      exact (q2.2.2.2.1 12 (by decide) (by decide) (by decide) (by decide)).trans ec
  · skip
    have t7 : τ1 770 = 75 := I1.2.1 770 (by decide)
    have en : pn g = pn h := a.2.2.2.2.2.2.2.1 10 (by decide) (by decide)
    have ec : lc g = lc h := a.2.2.2.2.2.2.2.1 12 (by decide) (by decide)
    have b10 : 0 ≤ pn g ∧ pn g ≤ 38500 := ez_fB (cl := 11) (k := 10) I1.1 t7 tq_75 rfl rfl (by decide)
    have cr := a.2.2.2.2.2.2.2.2.2
    refine rd_mlE (d := d + 9) (n := pn h) (xc_B I1.1 (by omega) (by omega)) t7 (by omega) (by omega) (fun g3 hB3 f3 j3 p3 z3 => kC hs g3 τ1 Ls 0 (I1.f7 hB3 (fun q hq h7 => by rw [f3.2.2 q (dz_beq_ne h7), xc_t I1.1 hq]) (fun j j1 j2 => ?_)) ((fw_xc (fw_aq a hI.1 hI.2.1) I1.1 t7 f3 j3).mono (by omega)) ⟨fun e => absurd e (by decide), fun e => absurd e (by decide), fun _ _ => ⟨rfl, rfl⟩⟩ (Or.inl ?_) (Or.inr ⟨z3, rz_an_n hno, rfl⟩))
    · by_cases e : j = 10
      · subst e; exact p3.trans en.symm
      · rw [j3 j (by omega) e]; unfold qz_I; rw [xc_t I1.1 (by rw [t7]; decide)]
    · show qz_I g3 770 12 = qz_I h 770 12
      rw [j3 12 (by decide) (by decide)]; unfold qz_I; rw [xc_t I1.1 (by rw [t7]; decide)]
      exact ec

end EzMz
/-! The model: the LINE that tells a point. -/
def cov (x : vz) (p : Int) : Prop := x.1 = 0 ∧ x.2.1 ≤ p ∧ p ≤ x.2.2.1
theorem vf_fold {p : Int} : ∀ (Ls : List vz) (F : rz_W), (∀ x ∈ Ls, ¬ cov x p) → Ls.foldl vf F p = F p
  | [], F, _ => rfl
  | x :: Ls, F, h => by
    rw [List.foldl_cons, vf_fold Ls (vf F x) (fun y hy => h y (List.mem_cons_of_mem _ hy))]
    exact if_neg (h x List.mem_cons_self)
theorem vF_none {p : Int} {Ls : List vz} (h : ∀ (k : Nat) x, Ls[k]? = some x → ¬ cov x p) : vF Ls p = (0, none) :=
  vf_fold Ls _ (fun x hx => by
    obtain ⟨k, hk⟩ := List.getElem?_of_mem hx
    exact h k x hk)
theorem vF_at {p : Int} {Ls : List vz} {k : Nat} {x : vz} (hk : Ls[k]? = some x) (hc : cov x p) (h : ∀ (j : Nat) y, k < j → Ls[j]? = some y → ¬ cov y p) : vF Ls p = (x.2.2.2.1, vD x) := by
  obtain ⟨hl, he⟩ := List.getElem?_eq_some_iff.mp hk
  have e : Ls = Ls.take k ++ x :: Ls.drop (k + 1) := by
    rw [← he, ← List.drop_eq_getElem_cons hl, List.take_append_drop]
  have hd : ∀ y ∈ Ls.drop (k + 1), ¬ cov y p := fun y hy => by
    obtain ⟨j, hj⟩ := List.getElem?_of_mem hy
    rw [List.getElem?_drop] at hj
    exact h (k + 1 + j) y (by omega) hj
  unfold vF
  rw [e, List.foldl_append, List.foldl_cons, vf_fold _ _ hd]
  exact if_pos hc
theorem ve_fold {p : Int} : ∀ (Ls : List vz) (E : Int → Prop), Ls.foldl ve E p ↔ (E p ∨ ∃ x ∈ Ls, x.1 = 3 ∧ x.2.2.2.2.1 = 0 ∧ x.2.1 ≤ p ∧ p ≤ x.2.2.1)
  | [], E => ⟨Or.inl, fun h => h.elim id (fun ⟨x, hx, _⟩ => by cases hx)⟩
  | x :: Ls, E => by
    rw [List.foldl_cons, ve_fold Ls (ve E x)]
    constructor
    · rintro ((h | h) | ⟨y, hy, h⟩)
      · exact Or.inl h
      · exact Or.inr ⟨x, List.mem_cons_self, h⟩
      · exact Or.inr ⟨y, List.mem_cons_of_mem _ hy, h⟩
    · rintro (h | ⟨y, hy, h⟩)
      · exact Or.inl (Or.inl h)
      · rcases List.mem_cons.mp hy with rfl | hy
        · exact Or.inl (Or.inr h)
        · exact Or.inr ⟨y, hy, h⟩
def exc3 (x : vz) (p : Int) : Prop := x.1 = 3 ∧ x.2.2.2.2.1 = 0 ∧ x.2.1 ≤ p ∧ p ≤ x.2.2.1
theorem vE_iff {p : Int} {Ls : List vz} : vE Ls p ↔ ∃ (k : Nat) (x : vz), Ls[k]? = some x ∧ exc3 x p := by
  unfold vE
  rw [ve_fold]
  constructor
  · rintro (h | ⟨x, hx, h⟩)
    · exact h.elim
    · obtain ⟨k, hk⟩ := List.getElem?_of_mem hx
      exact ⟨k, x, hk, h⟩
  · rintro ⟨k, x, hk, h⟩
    exact Or.inr ⟨x, List.mem_of_getElem? hk, h⟩
section EzAc
variable {d : Nat} {M : cz_M} {pc : Nat} {L : List (Nat × ez_V)} {st : List ez_V} {h : cz_H} {Q : cz_F → Prop}
theorem ez_acq {off : Int} {t a b : Nat} (hc : cz_code M pc = some (.if_acmp .eq off, 3)) (ht : cz_to pc off = some t) (ha : 192 ≤ a) (hb : 192 ≤ b) (k1 : a = b → ez_W d M t L st h Q) (k0 : a ≠ b → ez_W d M (pc + 3) L st h Q) : ez_W d M pc L (.inr (.inr (some b)) :: .inr (.inr (some a)) :: st) h Q := by
  have hs : cz_same (some a) (some b) = some (Nat.beq a b) := by
    show (bif Nat.ble 192 a && Nat.ble 192 b then some (Nat.beq a b) else none) = _
    rw [Nat.ble_eq.mpr ha, Nat.ble_eq.mpr hb]; rfl
  by_cases e : a = b
  · refine dz_wp_br (q := (t, st.map ez_v)) hc rfl rfl ?_ (k1 e)
    show (match cz_to pc off, cz_same (some a) (some b) with
      | some t, some y => some (bif y then t else pc + 3, st.map ez_v)
      | _, _ => none) = _
    rw [ht, hs, e, Nat.beq_refl]; rfl
  · refine dz_wp_br (q := (pc + 3, st.map ez_v)) hc rfl rfl ?_ (k0 e)
    show (match cz_to pc off, cz_same (some a) (some b) with
      | some t, some y => some (bif y then t else pc + 3, st.map ez_v)
      | _, _ => none) = _
    rw [ht, hs, dz_beq_ne e]; rfl
end EzAc
theorem ez_192 {τ : Nat → Nat} {h : cz_H} {l : Nat} (hB : ez_B τ h) (tl : τ l = 13) : 192 ≤ l := by
  obtain ⟨-, ti, a2, -, a4, -⟩ := hB.1 l (by rw [tl]; decide)
  rw [tl] at a2
  cases a2
  exact a4.resolve_left (by decide)
/-- the LINE of index k -/
theorem mI.at {τ : Nat → Nat} {h : cz_H} {Ls : List vz} {b : Int} (hI : mI τ h Ls b) {k : Int} (k0 : 0 ≤ k) (k1 : k < lc h) : ∃ x, Ls[k.toNat]? = some x ∧ vc h (qz_P h (ls h) k.toNat) x ∧ τ (qz_P h (ls h) k.toNat) = 13 ∧ 1 ≤ qz_I h (ls h) k.toNat := by
  have v := hI.2.2.2.2.2.2
  have hk : k.toNat < Ls.length := by have := v.1; omega
  exact ⟨Ls[k.toNat], List.getElem?_eq_getElem hk, (v.2 _ _ (List.getElem?_eq_getElem hk)).1, (hI.L (by omega)).1, hI.2.2.2.1.1 _ (by omega)⟩
theorem ez_ldcV {d : Nat} {M : cz_M} {pc : Nat} {L : List (Nat × ez_V)} {st : List ez_V} {h : cz_H} {Q : cz_F → Prop} {x a b z : Nat} (n : Int) (hc : cz_code M pc = some (.ldc_w x, 3)) (hq : cz_lk M x = some (11, a, b, z)) (hn : (a : Int) - (b : Int) = n) (kk : ez_W d M (pc + 3) L (.inl n :: st) h Q) : ez_W d M pc L st h Q := by
  refine dz_wp_hp (q := (pc + 3, ez_v (.inl n) :: st.map ez_v, h)) hc rfl rfl rfl rfl rfl ?_ kk
  show cz_hldc 3 M x pc (st.map ez_v) h = _
  unfold cz_hldc
  simp only [hq, show Nat.beq 11 11 = true from rfl, cond_true]
  rw [hn]
  rfl
/-! The model: told, rank, has, hangul, where. (Written by wip/p2/py/pv86.py.) -/
section EzTd
variable {d : Nat} {h : cz_H} {τ : Nat → Nat} {Q : cz_F → Prop} {Ls : List vz} {b : Int}
theorem rd_told_l {p : Int} (hI : mI τ h Ls b) (pr : ez_rg p) (kN : (∀ (j : Nat) y, Ls[j]? = some y → ¬ cov y p) → Q (.inl (some (.inr (.inr none))), h)) (kS : ∀ (k : Nat) x, Ls[k]? = some x → cov x p → (∀ (j : Nat) y, k < j → Ls[j]? = some y → ¬ cov y p) → Q (.inl (some (.inr (.inr (some (qz_P h (ls h) k))))), h)) : ∀ (n : Nat) (k : Int), n = (k + 1).toNat → -1 ≤ k → k < lc h → (∀ (j : Nat) y, k < (j : Int) → Ls[j]? = some y → ¬ cov y p) → ez_W d cm_306 7 [(2, .inl (k)), (0, .inr (.inr (some (770)))), (1, .inl (p))] [] h Q := by
  have hB := hI.1
  have t770 : τ 770 = 75 := hI.2.1 770 (by decide)
  have b12 : 0 ≤ qz_I h 770 12 ∧ qz_I h 770 12 ≤ 512 := ez_fB (cl := 11) (k := 12) hB t770 tq_75 rfl rfl (by decide)
  have lce : lc h = qz_I h 770 12 := rfl
  have nls : lc h ≤ qz_N h (ls h) := hI.2.2.1.1.1
  obtain ⟨pr0, pr1⟩ := id pr
  intro n
  induction n with
  | zero =>
    intro k hn k0 k1 hno
    refine ez_go (n := 1) (pc' := 8) (L' := [(2, .inl (k)), (0, .inr (.inr (some (770)))), (1, .inl (p))]) (st' := [.inl (k)]) rfl ?_
    refine ez_if rfl rfl ⟨by first | omega | exact (sz_i32 _).1, by first | omega | exact (sz_i32 _).2⟩ (fun (c1 : (k) < (0)) => ?_) (fun (c1 : ¬((k) < (0))) => ?_)
    · skip
      refine ez_go (n := 1) (pc' := 50) (L' := [(2, .inl (k)), (0, .inr (.inr (some (770)))), (1, .inl (p))]) (st' := [.inr (.inr none)]) rfl ?_
      exact ez_retA rfl rfl rfl (kN (fun j y hy => hno j y (by omega) hy))
    · skip
      refine ez_go (n := 1) (pc' := 12) (L' := [(2, .inl (k)), (0, .inr (.inr (some (770)))), (1, .inl (p))]) (st' := [.inr (.inr (some (770)))]) rfl ?_
      refine ez_gR hB t770 rfl rfl tq_75 rfl rfl (fun (t2 : _ = 18) (t2' : 1 ≤ qz_I h 770 11) => ?_)
      rw [show qz_P h 770 11 = ls h from rfl] at *
      refine ez_go (n := 1) (pc' := 16) (L' := [(2, .inl (k)), (0, .inr (.inr (some (770)))), (1, .inl (p))]) (st' := [.inl (k), .inr (.inr (some ((ls h))))]) rfl ?_
      have n4 : 64 ≤ qz_N h ((ls h)) ∧ qz_N h ((ls h)) ≤ 4096 := ez_len hB t2 tq_18 rfl
      have y5 : 1 ≤ qz_I h ((ls h)) (k).toNat := (hI.at (k := k) (by omega) (by omega)).choose_spec.2.2.2
      have y6 : 0 ≤ qz_I h ((ls h)) (k).toNat ∧ qz_I h ((ls h)) (k).toNat ≤ 1000000 := ez_aB hB t2 tq_18 rfl rfl (by decide) (by omega) (by omega)
      have y6' : ((qz_P h ((ls h)) (k).toNat : Nat) : Int) + 1 = qz_I h ((ls h)) (k).toNat := by unfold qz_P; omega
      refine ez_aR hB t2 rfl tq_18 rfl rfl (by omega) (by omega) (by omega) (fun (t3 : _ = 13) => ?_)
      obtain ⟨x, hx, ⟨⟨x0, x1, x2, x4, x5⟩, -⟩, -, -⟩ := hI.at (k := k) (by omega) (by omega)
      have x0a : qz_I h (qz_P h (ls h) (k).toNat) 0 = x.1 := x0
      have x1a : qz_I h (qz_P h (ls h) (k).toNat) 1 = x.2.1 := x1
      have x2a : qz_I h (qz_P h (ls h) (k).toNat) 2 = x.2.2.1 := x2
      refine ez_go (n := 2) (pc' := 19) (L' := [(3, .inr (.inr (some (qz_P h ((ls h)) (k).toNat)))), (2, .inl (k)), (0, .inr (.inr (some (770)))), (1, .inl (p))]) (st' := [.inr (.inr (some (qz_P h ((ls h)) (k).toNat)))]) rfl ?_
      refine ez_gI hB t3 rfl rfl tq_13 rfl rfl (fun (b7 : 0 ≤ qz_I h (qz_P h ((ls h)) (k).toNat) 0) (b7' : qz_I h (qz_P h ((ls h)) (k).toNat) 0 ≤ 4) => ?_)
      refine ez_if rfl rfl ⟨by first | omega | exact (sz_i32 _).1, by first | omega | exact (sz_i32 _).2⟩ (fun (c8 : (qz_I h (qz_P h ((ls h)) (k).toNat) 0) ≠ (0)) => ?_) (fun (c8 : ¬((qz_I h (qz_P h ((ls h)) (k).toNat) 0) ≠ (0))) => ?_)
      · skip
        refine ez_go (n := 2) (pc' := 7) (L' := [(2, .inl (k + (-1))), (3, .inr (.inr (some (qz_P h ((ls h)) (k).toNat)))), (0, .inr (.inr (some (770)))), (1, .inl (p))]) (st' := []) rfl ?_
        exfalso; omega
      · skip
        refine ez_go (n := 1) (pc' := 26) (L' := [(3, .inr (.inr (some (qz_P h ((ls h)) (k).toNat)))), (2, .inl (k)), (0, .inr (.inr (some (770)))), (1, .inl (p))]) (st' := [.inr (.inr (some (qz_P h ((ls h)) (k).toNat)))]) rfl ?_
        refine ez_gI hB t3 rfl rfl tq_13 rfl rfl (fun (b9 : -2147483648 ≤ qz_I h (qz_P h ((ls h)) (k).toNat) 1) (b9' : qz_I h (qz_P h ((ls h)) (k).toNat) 1 ≤ 2147483647) => ?_)
        refine ez_go (n := 1) (pc' := 30) (L' := [(3, .inr (.inr (some (qz_P h ((ls h)) (k).toNat)))), (2, .inl (k)), (0, .inr (.inr (some (770)))), (1, .inl (p))]) (st' := [.inl (p), .inl (qz_I h (qz_P h ((ls h)) (k).toNat) 1)]) rfl ?_
        refine ez_icmp rfl rfl ⟨by first | omega | exact (sz_i32 _).1, by first | omega | exact (sz_i32 _).2⟩ ⟨by first | omega | exact (sz_i32 _).1, by first | omega | exact (sz_i32 _).2⟩ (fun (c10 : (p) < (qz_I h (qz_P h ((ls h)) (k).toNat) 1)) => ?_) (fun (c10 : ¬((p) < (qz_I h (qz_P h ((ls h)) (k).toNat) 1))) => ?_)
        · skip
          refine ez_go (n := 2) (pc' := 7) (L' := [(2, .inl (k + (-1))), (3, .inr (.inr (some (qz_P h ((ls h)) (k).toNat)))), (0, .inr (.inr (some (770)))), (1, .inl (p))]) (st' := []) rfl ?_
          exfalso; omega
        · skip
          refine ez_go (n := 2) (pc' := 35) (L' := [(3, .inr (.inr (some (qz_P h ((ls h)) (k).toNat)))), (2, .inl (k)), (0, .inr (.inr (some (770)))), (1, .inl (p))]) (st' := [.inr (.inr (some (qz_P h ((ls h)) (k).toNat))), .inl (p)]) rfl ?_
          refine ez_gI hB t3 rfl rfl tq_13 rfl rfl (fun (b11 : -2147483648 ≤ qz_I h (qz_P h ((ls h)) (k).toNat) 2) (b11' : qz_I h (qz_P h ((ls h)) (k).toNat) 2 ≤ 2147483647) => ?_)
          refine ez_icmp rfl rfl ⟨by first | omega | exact (sz_i32 _).1, by first | omega | exact (sz_i32 _).2⟩ ⟨by first | omega | exact (sz_i32 _).1, by first | omega | exact (sz_i32 _).2⟩ (fun (c12 : (qz_I h (qz_P h ((ls h)) (k).toNat) 2) < (p)) => ?_) (fun (c12 : ¬((qz_I h (qz_P h ((ls h)) (k).toNat) 2) < (p))) => ?_)
          · skip
            refine ez_go (n := 2) (pc' := 7) (L' := [(2, .inl (k + (-1))), (3, .inr (.inr (some (qz_P h ((ls h)) (k).toNat)))), (0, .inr (.inr (some (770)))), (1, .inl (p))]) (st' := []) rfl ?_
            exfalso; omega
          · skip
            refine ez_go (n := 1) (pc' := 42) (L' := [(3, .inr (.inr (some (qz_P h ((ls h)) (k).toNat)))), (2, .inl (k)), (0, .inr (.inr (some (770)))), (1, .inl (p))]) (st' := [.inr (.inr (some (qz_P h ((ls h)) (k).toNat)))]) rfl ?_
            exact ez_retA rfl rfl rfl (kS k.toNat x hx ⟨by omega, by omega, by omega⟩ (fun j y hj hy => hno j y (by omega) hy))
  | succ n ih =>
    intro k hn k0 k1 hno
    refine ez_go (n := 1) (pc' := 8) (L' := [(2, .inl (k)), (0, .inr (.inr (some (770)))), (1, .inl (p))]) (st' := [.inl (k)]) rfl ?_
    refine ez_if rfl rfl ⟨by first | omega | exact (sz_i32 _).1, by first | omega | exact (sz_i32 _).2⟩ (fun (c1 : (k) < (0)) => ?_) (fun (c1 : ¬((k) < (0))) => ?_)
    · skip
      refine ez_go (n := 1) (pc' := 50) (L' := [(2, .inl (k)), (0, .inr (.inr (some (770)))), (1, .inl (p))]) (st' := [.inr (.inr none)]) rfl ?_
      exact ez_retA rfl rfl rfl (kN (fun j y hy => hno j y (by omega) hy))
    · skip
      refine ez_go (n := 1) (pc' := 12) (L' := [(2, .inl (k)), (0, .inr (.inr (some (770)))), (1, .inl (p))]) (st' := [.inr (.inr (some (770)))]) rfl ?_
      refine ez_gR hB t770 rfl rfl tq_75 rfl rfl (fun (t2 : _ = 18) (t2' : 1 ≤ qz_I h 770 11) => ?_)
      rw [show qz_P h 770 11 = ls h from rfl] at *
      refine ez_go (n := 1) (pc' := 16) (L' := [(2, .inl (k)), (0, .inr (.inr (some (770)))), (1, .inl (p))]) (st' := [.inl (k), .inr (.inr (some ((ls h))))]) rfl ?_
      have n4 : 64 ≤ qz_N h ((ls h)) ∧ qz_N h ((ls h)) ≤ 4096 := ez_len hB t2 tq_18 rfl
      have y5 : 1 ≤ qz_I h ((ls h)) (k).toNat := (hI.at (k := k) (by omega) (by omega)).choose_spec.2.2.2
      have y6 : 0 ≤ qz_I h ((ls h)) (k).toNat ∧ qz_I h ((ls h)) (k).toNat ≤ 1000000 := ez_aB hB t2 tq_18 rfl rfl (by decide) (by omega) (by omega)
      have y6' : ((qz_P h ((ls h)) (k).toNat : Nat) : Int) + 1 = qz_I h ((ls h)) (k).toNat := by unfold qz_P; omega
      refine ez_aR hB t2 rfl tq_18 rfl rfl (by omega) (by omega) (by omega) (fun (t3 : _ = 13) => ?_)
      obtain ⟨x, hx, ⟨⟨x0, x1, x2, x4, x5⟩, -⟩, -, -⟩ := hI.at (k := k) (by omega) (by omega)
      have x0a : qz_I h (qz_P h (ls h) (k).toNat) 0 = x.1 := x0
      have x1a : qz_I h (qz_P h (ls h) (k).toNat) 1 = x.2.1 := x1
      have x2a : qz_I h (qz_P h (ls h) (k).toNat) 2 = x.2.2.1 := x2
      refine ez_go (n := 2) (pc' := 19) (L' := [(3, .inr (.inr (some (qz_P h ((ls h)) (k).toNat)))), (2, .inl (k)), (0, .inr (.inr (some (770)))), (1, .inl (p))]) (st' := [.inr (.inr (some (qz_P h ((ls h)) (k).toNat)))]) rfl ?_
      refine ez_gI hB t3 rfl rfl tq_13 rfl rfl (fun (b7 : 0 ≤ qz_I h (qz_P h ((ls h)) (k).toNat) 0) (b7' : qz_I h (qz_P h ((ls h)) (k).toNat) 0 ≤ 4) => ?_)
      refine ez_if rfl rfl ⟨by first | omega | exact (sz_i32 _).1, by first | omega | exact (sz_i32 _).2⟩ (fun (c8 : (qz_I h (qz_P h ((ls h)) (k).toNat) 0) ≠ (0)) => ?_) (fun (c8 : ¬((qz_I h (qz_P h ((ls h)) (k).toNat) 0) ≠ (0))) => ?_)
      · skip
        refine ez_go (n := 2) (pc' := 7) (L' := [(2, .inl (k + (-1))), (3, .inr (.inr (some (qz_P h ((ls h)) (k).toNat)))), (0, .inr (.inr (some (770)))), (1, .inl (p))]) (st' := []) rfl ?_
        refine ez_less [(2, .inl (k + (-1))), (0, .inr (.inr (some (770)))), (1, .inl (p))] rfl ⟨rfl, rfl, rfl, trivial⟩ ?_
        refine ih (k + (-1)) (by omega) (by omega) (by omega) (fun j y hj hy => ?_)
        by_cases e : j = k.toNat
        · subst e; rw [hx] at hy; cases hy; intro w; have w1 := w.1; have w2 := w.2.1; have w3 := w.2.2; omega
        · exact hno j y (by omega) hy
      · skip
        refine ez_go (n := 1) (pc' := 26) (L' := [(3, .inr (.inr (some (qz_P h ((ls h)) (k).toNat)))), (2, .inl (k)), (0, .inr (.inr (some (770)))), (1, .inl (p))]) (st' := [.inr (.inr (some (qz_P h ((ls h)) (k).toNat)))]) rfl ?_
        refine ez_gI hB t3 rfl rfl tq_13 rfl rfl (fun (b9 : -2147483648 ≤ qz_I h (qz_P h ((ls h)) (k).toNat) 1) (b9' : qz_I h (qz_P h ((ls h)) (k).toNat) 1 ≤ 2147483647) => ?_)
        refine ez_go (n := 1) (pc' := 30) (L' := [(3, .inr (.inr (some (qz_P h ((ls h)) (k).toNat)))), (2, .inl (k)), (0, .inr (.inr (some (770)))), (1, .inl (p))]) (st' := [.inl (p), .inl (qz_I h (qz_P h ((ls h)) (k).toNat) 1)]) rfl ?_
        refine ez_icmp rfl rfl ⟨by first | omega | exact (sz_i32 _).1, by first | omega | exact (sz_i32 _).2⟩ ⟨by first | omega | exact (sz_i32 _).1, by first | omega | exact (sz_i32 _).2⟩ (fun (c10 : (p) < (qz_I h (qz_P h ((ls h)) (k).toNat) 1)) => ?_) (fun (c10 : ¬((p) < (qz_I h (qz_P h ((ls h)) (k).toNat) 1))) => ?_)
        · skip
          refine ez_go (n := 2) (pc' := 7) (L' := [(2, .inl (k + (-1))), (3, .inr (.inr (some (qz_P h ((ls h)) (k).toNat)))), (0, .inr (.inr (some (770)))), (1, .inl (p))]) (st' := []) rfl ?_
          refine ez_less [(2, .inl (k + (-1))), (0, .inr (.inr (some (770)))), (1, .inl (p))] rfl ⟨rfl, rfl, rfl, trivial⟩ ?_
          refine ih (k + (-1)) (by omega) (by omega) (by omega) (fun j y hj hy => ?_)
          by_cases e : j = k.toNat
          · subst e; rw [hx] at hy; cases hy; intro w; have w1 := w.1; have w2 := w.2.1; have w3 := w.2.2; omega
          · exact hno j y (by omega) hy
        · skip
          refine ez_go (n := 2) (pc' := 35) (L' := [(3, .inr (.inr (some (qz_P h ((ls h)) (k).toNat)))), (2, .inl (k)), (0, .inr (.inr (some (770)))), (1, .inl (p))]) (st' := [.inr (.inr (some (qz_P h ((ls h)) (k).toNat))), .inl (p)]) rfl ?_
          refine ez_gI hB t3 rfl rfl tq_13 rfl rfl (fun (b11 : -2147483648 ≤ qz_I h (qz_P h ((ls h)) (k).toNat) 2) (b11' : qz_I h (qz_P h ((ls h)) (k).toNat) 2 ≤ 2147483647) => ?_)
          refine ez_icmp rfl rfl ⟨by first | omega | exact (sz_i32 _).1, by first | omega | exact (sz_i32 _).2⟩ ⟨by first | omega | exact (sz_i32 _).1, by first | omega | exact (sz_i32 _).2⟩ (fun (c12 : (qz_I h (qz_P h ((ls h)) (k).toNat) 2) < (p)) => ?_) (fun (c12 : ¬((qz_I h (qz_P h ((ls h)) (k).toNat) 2) < (p))) => ?_)
          · skip
            refine ez_go (n := 2) (pc' := 7) (L' := [(2, .inl (k + (-1))), (3, .inr (.inr (some (qz_P h ((ls h)) (k).toNat)))), (0, .inr (.inr (some (770)))), (1, .inl (p))]) (st' := []) rfl ?_
            refine ez_less [(2, .inl (k + (-1))), (0, .inr (.inr (some (770)))), (1, .inl (p))] rfl ⟨rfl, rfl, rfl, trivial⟩ ?_
            refine ih (k + (-1)) (by omega) (by omega) (by omega) (fun j y hj hy => ?_)
            by_cases e : j = k.toNat
            · subst e; rw [hx] at hy; cases hy; intro w; have w1 := w.1; have w2 := w.2.1; have w3 := w.2.2; omega
            · exact hno j y (by omega) hy
          · skip
            refine ez_go (n := 1) (pc' := 42) (L' := [(3, .inr (.inr (some (qz_P h ((ls h)) (k).toNat)))), (2, .inl (k)), (0, .inr (.inr (some (770)))), (1, .inl (p))]) (st' := [.inr (.inr (some (qz_P h ((ls h)) (k).toNat)))]) rfl ?_
            exact ez_retA rfl rfl rfl (kS k.toNat x hx ⟨by omega, by omega, by omega⟩ (fun j y hj hy => hno j y (by omega) hy))

theorem rd_told {p : Int} (hI : mI τ h Ls b) (pr : ez_rg p) (kN : (∀ (j : Nat) y, Ls[j]? = some y → ¬ cov y p) → Q (.inl (some (.inr (.inr none))), h)) (kS : ∀ (k : Nat) x, Ls[k]? = some x → cov x p → (∀ (j : Nat) y, k < j → Ls[j]? = some y → ¬ cov y p) → Q (.inl (some (.inr (.inr (some (qz_P h (ls h) k))))), h)) : ez_W d cm_306 0 [(0, .inr (.inr (some (770)))), (1, .inl (p))] [] h Q := by
  have hB := hI.1
  have t770 : τ 770 = 75 := hI.2.1 770 (by decide)
  have b12 : 0 ≤ qz_I h 770 12 ∧ qz_I h 770 12 ≤ 512 := ez_fB (cl := 11) (k := 12) hB t770 tq_75 rfl rfl (by decide)
  have lce : lc h = qz_I h 770 12 := rfl
  have nls : lc h ≤ qz_N h (ls h) := hI.2.2.1.1.1
  refine ez_go (n := 1) (pc' := 1) (L' := [(0, .inr (.inr (some (770)))), (1, .inl (p))]) (st' := [.inr (.inr (some (770)))]) rfl ?_
  refine ez_gI hB t770 rfl rfl tq_75 rfl rfl (fun (b1 : 0 ≤ qz_I h 770 12) (b1' : qz_I h 770 12 ≤ 512) => ?_)
  refine ez_go (n := 3) (pc' := 7) (L' := [(2, .inl ((qz_I h 770 12) - (1))), (0, .inr (.inr (some (770)))), (1, .inl (p))]) (st' := []) rfl ?_
  refine ez_less [(2, .inl ((qz_I h 770 12) - (1))), (0, .inr (.inr (some (770)))), (1, .inl (p))] rfl ⟨rfl, rfl, rfl, trivial⟩ ?_
  refine rd_told_l hI pr kN kS _ (lc h - 1) rfl (by omega) (by omega) (fun j y hj hy => ?_)
  have := (List.getElem?_eq_some_iff.mp hy).1; have := hI.2.2.2.2.2.2.1; omega

theorem rd_mrank {p : Int} (hI : mI τ h Ls b) (pr : ez_rg p) (kx : ez_rg (vF Ls p).1 → Q (.inl (some (ez_v (.inl (vF Ls p).1))), h)) : ez_W (d + 1) cm_295 0 [(0, .inr (.inr (some (770)))), (1, .inl (p))] [] h Q := by
  have hB := hI.1
  have t770 : τ 770 = 75 := hI.2.1 770 (by decide)
  have b12 : 0 ≤ qz_I h 770 12 ∧ qz_I h 770 12 ≤ 512 := ez_fB (cl := 11) (k := 12) hB t770 tq_75 rfl rfl (by decide)
  have lce : lc h = qz_I h 770 12 := rfl
  have nls : lc h ≤ qz_N h (ls h) := hI.2.2.1.1.1
  refine ez_go (n := 2) (pc' := 2) (L' := [(0, .inr (.inr (some (770)))), (1, .inl (p))]) (st' := [.inl (p), .inr (.inr (some (770)))]) rfl ?_
  refine ez_cv hB t770 rfl rfl rfl tq_75 rfl rfl rfl (rd_told hI pr (fun hno => ez_KA ?_) (fun k x hx hc hno => ez_KA ?_))
  · skip
    refine ez_go (n := 2) (pc' := 7) (L' := [(2, .inr (.inr none)), (0, .inr (.inr (some (770)))), (1, .inl (p))]) (st' := [.inr (.inr none)]) rfl ?_
    refine ez_nonn0 rfl ?_
    refine ez_go (n := 2) (pc' := 18) (L' := [(2, .inr (.inr none)), (0, .inr (.inr (some (770)))), (1, .inl (p))]) (st' := [.inl (0)]) rfl ?_
    exact ez_retI rfl rfl (by have e := vF_none hno; rw [e] at kx; exact kx ⟨by decide, by decide⟩)
  · skip
    have hk : (k : Int) < lc h := by have := (List.getElem?_eq_some_iff.mp hx).1; have := hI.2.2.2.2.2.2.1; omega
    have tl := (hI.L hk).1
    refine ez_go (n := 2) (pc' := 7) (L' := [(2, .inr (.inr (some (qz_P h (ls h) k)))), (0, .inr (.inr (some (770)))), (1, .inl (p))]) (st' := [.inr (.inr (some (qz_P h (ls h) k)))]) rfl ?_
    refine ez_nonn1 rfl rfl ?_
    refine ez_go (n := 1) (pc' := 15) (L' := [(2, .inr (.inr (some (qz_P h (ls h) k)))), (0, .inr (.inr (some (770)))), (1, .inl (p))]) (st' := [.inr (.inr (some (qz_P h (ls h) k)))]) rfl ?_
    refine ez_gI hB tl rfl rfl tq_13 rfl rfl (fun (b1 : -2147483648 ≤ qz_I h (qz_P h (ls h) k) 4) (b1' : qz_I h (qz_P h (ls h) k) 4 ≤ 2147483647) => ?_)
    exact ez_retI rfl rfl (by have e := vF_at hx hc hno; rw [e] at kx; have v := (hI.2.2.2.2.2.2.2 k x hx).1.1.2.2.2.1; rw [v]; exact kx ⟨by rw [← v]; omega, by rw [← v]; omega⟩)

theorem rd_has_l {p : Int} (hI : mI τ h Ls b) (pr : ez_rg p) (k1 : vE Ls p → Q (.inl (some (ez_v (.inl 1))), h)) (k0 : ¬ vE Ls p → Q (.inl (some (ez_v (.inl 0))), h)) : ∀ (n : Nat) (k : Int), n = (lc h - k).toNat → 0 ≤ k → k ≤ lc h → (∀ (j : Nat) y, (j : Int) < k → Ls[j]? = some y → ¬ exc3 y p) → ez_W d cm_264 2 [(3, .inl (k)), (0, .inr (.inr (some (770)))), (1, .inl (p)), (2, .inl (0))] [] h Q := by
  have hB := hI.1
  have t770 : τ 770 = 75 := hI.2.1 770 (by decide)
  have b12 : 0 ≤ qz_I h 770 12 ∧ qz_I h 770 12 ≤ 512 := ez_fB (cl := 11) (k := 12) hB t770 tq_75 rfl rfl (by decide)
  have lce : lc h = qz_I h 770 12 := rfl
  have nls : lc h ≤ qz_N h (ls h) := hI.2.2.1.1.1
  obtain ⟨pr0, pr1⟩ := id pr
  intro n
  induction n with
  | zero =>
    intro k hn kk0 kk1 hno
    refine ez_go (n := 2) (pc' := 4) (L' := [(3, .inl (k)), (0, .inr (.inr (some (770)))), (1, .inl (p)), (2, .inl (0))]) (st' := [.inr (.inr (some (770))), .inl (k)]) rfl ?_
    refine ez_gI hB t770 rfl rfl tq_75 rfl rfl (fun (b1 : 0 ≤ qz_I h 770 12) (b1' : qz_I h 770 12 ≤ 512) => ?_)
    refine ez_icmp rfl rfl ⟨by first | omega | exact (sz_i32 _).1, by first | omega | exact (sz_i32 _).2⟩ ⟨by first | omega | exact (sz_i32 _).1, by first | omega | exact (sz_i32 _).2⟩ (fun (c2 : (qz_I h 770 12) ≤ (k)) => ?_) (fun (c2 : ¬((qz_I h 770 12) ≤ (k))) => ?_)
    · skip
      refine ez_go (n := 1) (pc' := 63) (L' := [(3, .inl (k)), (0, .inr (.inr (some (770)))), (1, .inl (p)), (2, .inl (0))]) (st' := [.inl (0)]) rfl ?_
      exact ez_retZ rfl rfl (Or.inl rfl) (k0 (fun w => by obtain ⟨j, y, hj, hy⟩ := vE_iff.mp w; exact hno j y (by have := (List.getElem?_eq_some_iff.mp hj).1; have := hI.2.2.2.2.2.2.1; omega) hj hy))
    · skip
      refine ez_go (n := 1) (pc' := 11) (L' := [(3, .inl (k)), (0, .inr (.inr (some (770)))), (1, .inl (p)), (2, .inl (0))]) (st' := [.inr (.inr (some (770)))]) rfl ?_
      refine ez_gR hB t770 rfl rfl tq_75 rfl rfl (fun (t3 : _ = 18) (t3' : 1 ≤ qz_I h 770 11) => ?_)
      rw [show qz_P h 770 11 = ls h from rfl] at *
      refine ez_go (n := 1) (pc' := 15) (L' := [(3, .inl (k)), (0, .inr (.inr (some (770)))), (1, .inl (p)), (2, .inl (0))]) (st' := [.inl (k), .inr (.inr (some ((ls h))))]) rfl ?_
      have n5 : 64 ≤ qz_N h ((ls h)) ∧ qz_N h ((ls h)) ≤ 4096 := ez_len hB t3 tq_18 rfl
      have y6 : 1 ≤ qz_I h ((ls h)) (k).toNat := (hI.at (k := k) (by omega) (by omega)).choose_spec.2.2.2
      have y7 : 0 ≤ qz_I h ((ls h)) (k).toNat ∧ qz_I h ((ls h)) (k).toNat ≤ 1000000 := ez_aB hB t3 tq_18 rfl rfl (by decide) (by omega) (by omega)
      have y7' : ((qz_P h ((ls h)) (k).toNat : Nat) : Int) + 1 = qz_I h ((ls h)) (k).toNat := by unfold qz_P; omega
      refine ez_aR hB t3 rfl tq_18 rfl rfl (by omega) (by omega) (by omega) (fun (t4 : _ = 13) => ?_)
      obtain ⟨x, hx, ⟨⟨x0, x1, x2, x4, x5⟩, -⟩, -, -⟩ := hI.at (k := k) (by omega) (by omega)
      have x0a : qz_I h (qz_P h (ls h) (k).toNat) 0 = x.1 := x0
      have x1a : qz_I h (qz_P h (ls h) (k).toNat) 1 = x.2.1 := x1
      have x2a : qz_I h (qz_P h (ls h) (k).toNat) 2 = x.2.2.1 := x2
      have x5a : qz_I h (qz_P h (ls h) (k).toNat) 5 = x.2.2.2.2.1 := x5
      refine ez_go (n := 2) (pc' := 20) (L' := [(4, .inr (.inr (some (qz_P h ((ls h)) (k).toNat)))), (3, .inl (k)), (0, .inr (.inr (some (770)))), (1, .inl (p)), (2, .inl (0))]) (st' := [.inr (.inr (some (qz_P h ((ls h)) (k).toNat)))]) rfl ?_
      refine ez_gI hB t4 rfl rfl tq_13 rfl rfl (fun (b8 : 0 ≤ qz_I h (qz_P h ((ls h)) (k).toNat) 0) (b8' : qz_I h (qz_P h ((ls h)) (k).toNat) 0 ≤ 4) => ?_)
      refine ez_go (n := 1) (pc' := 24) (L' := [(4, .inr (.inr (some (qz_P h ((ls h)) (k).toNat)))), (3, .inl (k)), (0, .inr (.inr (some (770)))), (1, .inl (p)), (2, .inl (0))]) (st' := [.inl (3), .inl (qz_I h (qz_P h ((ls h)) (k).toNat) 0)]) rfl ?_
      refine ez_icmp rfl rfl ⟨by first | omega | exact (sz_i32 _).1, by first | omega | exact (sz_i32 _).2⟩ ⟨by first | omega | exact (sz_i32 _).1, by first | omega | exact (sz_i32 _).2⟩ (fun (c9 : (qz_I h (qz_P h ((ls h)) (k).toNat) 0) ≠ (3)) => ?_) (fun (c9 : ¬((qz_I h (qz_P h ((ls h)) (k).toNat) 0) ≠ (3))) => ?_)
      · skip
        refine ez_go (n := 2) (pc' := 2) (L' := [(3, .inl (k + 1)), (4, .inr (.inr (some (qz_P h ((ls h)) (k).toNat)))), (0, .inr (.inr (some (770)))), (1, .inl (p)), (2, .inl (0))]) (st' := []) rfl ?_
        exfalso; omega
      · skip
        refine ez_go (n := 1) (pc' := 29) (L' := [(4, .inr (.inr (some (qz_P h ((ls h)) (k).toNat)))), (3, .inl (k)), (0, .inr (.inr (some (770)))), (1, .inl (p)), (2, .inl (0))]) (st' := [.inr (.inr (some (qz_P h ((ls h)) (k).toNat)))]) rfl ?_
        refine ez_gI hB t4 rfl rfl tq_13 rfl rfl (fun (b10 : -2147483648 ≤ qz_I h (qz_P h ((ls h)) (k).toNat) 5) (b10' : qz_I h (qz_P h ((ls h)) (k).toNat) 5 ≤ 2147483647) => ?_)
        refine ez_go (n := 1) (pc' := 33) (L' := [(4, .inr (.inr (some (qz_P h ((ls h)) (k).toNat)))), (3, .inl (k)), (0, .inr (.inr (some (770)))), (1, .inl (p)), (2, .inl (0))]) (st' := [.inl (0), .inl (qz_I h (qz_P h ((ls h)) (k).toNat) 5)]) rfl ?_
        refine ez_icmp rfl rfl ⟨by first | omega | exact (sz_i32 _).1, by first | omega | exact (sz_i32 _).2⟩ ⟨by first | omega | exact (sz_i32 _).1, by first | omega | exact (sz_i32 _).2⟩ (fun (c11 : (qz_I h (qz_P h ((ls h)) (k).toNat) 5) ≠ (0)) => ?_) (fun (c11 : ¬((qz_I h (qz_P h ((ls h)) (k).toNat) 5) ≠ (0))) => ?_)
        · skip
          refine ez_go (n := 2) (pc' := 2) (L' := [(3, .inl (k + 1)), (4, .inr (.inr (some (qz_P h ((ls h)) (k).toNat)))), (0, .inr (.inr (some (770)))), (1, .inl (p)), (2, .inl (0))]) (st' := []) rfl ?_
          exfalso; omega
        · skip
          refine ez_go (n := 1) (pc' := 38) (L' := [(4, .inr (.inr (some (qz_P h ((ls h)) (k).toNat)))), (3, .inl (k)), (0, .inr (.inr (some (770)))), (1, .inl (p)), (2, .inl (0))]) (st' := [.inr (.inr (some (qz_P h ((ls h)) (k).toNat)))]) rfl ?_
          refine ez_gI hB t4 rfl rfl tq_13 rfl rfl (fun (b12 : -2147483648 ≤ qz_I h (qz_P h ((ls h)) (k).toNat) 1) (b12' : qz_I h (qz_P h ((ls h)) (k).toNat) 1 ≤ 2147483647) => ?_)
          refine ez_go (n := 1) (pc' := 42) (L' := [(4, .inr (.inr (some (qz_P h ((ls h)) (k).toNat)))), (3, .inl (k)), (0, .inr (.inr (some (770)))), (1, .inl (p)), (2, .inl (0))]) (st' := [.inl (p), .inl (qz_I h (qz_P h ((ls h)) (k).toNat) 1)]) rfl ?_
          refine ez_icmp rfl rfl ⟨by first | omega | exact (sz_i32 _).1, by first | omega | exact (sz_i32 _).2⟩ ⟨by first | omega | exact (sz_i32 _).1, by first | omega | exact (sz_i32 _).2⟩ (fun (c13 : (p) < (qz_I h (qz_P h ((ls h)) (k).toNat) 1)) => ?_) (fun (c13 : ¬((p) < (qz_I h (qz_P h ((ls h)) (k).toNat) 1))) => ?_)
          · skip
            refine ez_go (n := 2) (pc' := 2) (L' := [(3, .inl (k + 1)), (4, .inr (.inr (some (qz_P h ((ls h)) (k).toNat)))), (0, .inr (.inr (some (770)))), (1, .inl (p)), (2, .inl (0))]) (st' := []) rfl ?_
            exfalso; omega
          · skip
            refine ez_go (n := 2) (pc' := 48) (L' := [(4, .inr (.inr (some (qz_P h ((ls h)) (k).toNat)))), (3, .inl (k)), (0, .inr (.inr (some (770)))), (1, .inl (p)), (2, .inl (0))]) (st' := [.inr (.inr (some (qz_P h ((ls h)) (k).toNat))), .inl (p)]) rfl ?_
            refine ez_gI hB t4 rfl rfl tq_13 rfl rfl (fun (b14 : -2147483648 ≤ qz_I h (qz_P h ((ls h)) (k).toNat) 2) (b14' : qz_I h (qz_P h ((ls h)) (k).toNat) 2 ≤ 2147483647) => ?_)
            refine ez_icmp rfl rfl ⟨by first | omega | exact (sz_i32 _).1, by first | omega | exact (sz_i32 _).2⟩ ⟨by first | omega | exact (sz_i32 _).1, by first | omega | exact (sz_i32 _).2⟩ (fun (c15 : (qz_I h (qz_P h ((ls h)) (k).toNat) 2) < (p)) => ?_) (fun (c15 : ¬((qz_I h (qz_P h ((ls h)) (k).toNat) 2) < (p))) => ?_)
            · skip
              refine ez_go (n := 2) (pc' := 2) (L' := [(3, .inl (k + 1)), (4, .inr (.inr (some (qz_P h ((ls h)) (k).toNat)))), (0, .inr (.inr (some (770)))), (1, .inl (p)), (2, .inl (0))]) (st' := []) rfl ?_
              exfalso; omega
            · skip
              refine ez_go (n := 1) (pc' := 55) (L' := [(4, .inr (.inr (some (qz_P h ((ls h)) (k).toNat)))), (3, .inl (k)), (0, .inr (.inr (some (770)))), (1, .inl (p)), (2, .inl (0))]) (st' := [.inl (1)]) rfl ?_
              exact ez_retZ rfl rfl (Or.inr rfl) (k1 (vE_iff.mpr ⟨k.toNat, x, hx, by omega, by omega, by omega, by omega⟩))
  | succ n ih =>
    intro k hn kk0 kk1 hno
    refine ez_go (n := 2) (pc' := 4) (L' := [(3, .inl (k)), (0, .inr (.inr (some (770)))), (1, .inl (p)), (2, .inl (0))]) (st' := [.inr (.inr (some (770))), .inl (k)]) rfl ?_
    refine ez_gI hB t770 rfl rfl tq_75 rfl rfl (fun (b1 : 0 ≤ qz_I h 770 12) (b1' : qz_I h 770 12 ≤ 512) => ?_)
    refine ez_icmp rfl rfl ⟨by first | omega | exact (sz_i32 _).1, by first | omega | exact (sz_i32 _).2⟩ ⟨by first | omega | exact (sz_i32 _).1, by first | omega | exact (sz_i32 _).2⟩ (fun (c2 : (qz_I h 770 12) ≤ (k)) => ?_) (fun (c2 : ¬((qz_I h 770 12) ≤ (k))) => ?_)
    · skip
      refine ez_go (n := 1) (pc' := 63) (L' := [(3, .inl (k)), (0, .inr (.inr (some (770)))), (1, .inl (p)), (2, .inl (0))]) (st' := [.inl (0)]) rfl ?_
      exact ez_retZ rfl rfl (Or.inl rfl) (k0 (fun w => by obtain ⟨j, y, hj, hy⟩ := vE_iff.mp w; exact hno j y (by have := (List.getElem?_eq_some_iff.mp hj).1; have := hI.2.2.2.2.2.2.1; omega) hj hy))
    · skip
      refine ez_go (n := 1) (pc' := 11) (L' := [(3, .inl (k)), (0, .inr (.inr (some (770)))), (1, .inl (p)), (2, .inl (0))]) (st' := [.inr (.inr (some (770)))]) rfl ?_
      refine ez_gR hB t770 rfl rfl tq_75 rfl rfl (fun (t3 : _ = 18) (t3' : 1 ≤ qz_I h 770 11) => ?_)
      rw [show qz_P h 770 11 = ls h from rfl] at *
      refine ez_go (n := 1) (pc' := 15) (L' := [(3, .inl (k)), (0, .inr (.inr (some (770)))), (1, .inl (p)), (2, .inl (0))]) (st' := [.inl (k), .inr (.inr (some ((ls h))))]) rfl ?_
      have n5 : 64 ≤ qz_N h ((ls h)) ∧ qz_N h ((ls h)) ≤ 4096 := ez_len hB t3 tq_18 rfl
      have y6 : 1 ≤ qz_I h ((ls h)) (k).toNat := (hI.at (k := k) (by omega) (by omega)).choose_spec.2.2.2
      have y7 : 0 ≤ qz_I h ((ls h)) (k).toNat ∧ qz_I h ((ls h)) (k).toNat ≤ 1000000 := ez_aB hB t3 tq_18 rfl rfl (by decide) (by omega) (by omega)
      have y7' : ((qz_P h ((ls h)) (k).toNat : Nat) : Int) + 1 = qz_I h ((ls h)) (k).toNat := by unfold qz_P; omega
      refine ez_aR hB t3 rfl tq_18 rfl rfl (by omega) (by omega) (by omega) (fun (t4 : _ = 13) => ?_)
      obtain ⟨x, hx, ⟨⟨x0, x1, x2, x4, x5⟩, -⟩, -, -⟩ := hI.at (k := k) (by omega) (by omega)
      have x0a : qz_I h (qz_P h (ls h) (k).toNat) 0 = x.1 := x0
      have x1a : qz_I h (qz_P h (ls h) (k).toNat) 1 = x.2.1 := x1
      have x2a : qz_I h (qz_P h (ls h) (k).toNat) 2 = x.2.2.1 := x2
      have x5a : qz_I h (qz_P h (ls h) (k).toNat) 5 = x.2.2.2.2.1 := x5
      refine ez_go (n := 2) (pc' := 20) (L' := [(4, .inr (.inr (some (qz_P h ((ls h)) (k).toNat)))), (3, .inl (k)), (0, .inr (.inr (some (770)))), (1, .inl (p)), (2, .inl (0))]) (st' := [.inr (.inr (some (qz_P h ((ls h)) (k).toNat)))]) rfl ?_
      refine ez_gI hB t4 rfl rfl tq_13 rfl rfl (fun (b8 : 0 ≤ qz_I h (qz_P h ((ls h)) (k).toNat) 0) (b8' : qz_I h (qz_P h ((ls h)) (k).toNat) 0 ≤ 4) => ?_)
      refine ez_go (n := 1) (pc' := 24) (L' := [(4, .inr (.inr (some (qz_P h ((ls h)) (k).toNat)))), (3, .inl (k)), (0, .inr (.inr (some (770)))), (1, .inl (p)), (2, .inl (0))]) (st' := [.inl (3), .inl (qz_I h (qz_P h ((ls h)) (k).toNat) 0)]) rfl ?_
      refine ez_icmp rfl rfl ⟨by first | omega | exact (sz_i32 _).1, by first | omega | exact (sz_i32 _).2⟩ ⟨by first | omega | exact (sz_i32 _).1, by first | omega | exact (sz_i32 _).2⟩ (fun (c9 : (qz_I h (qz_P h ((ls h)) (k).toNat) 0) ≠ (3)) => ?_) (fun (c9 : ¬((qz_I h (qz_P h ((ls h)) (k).toNat) 0) ≠ (3))) => ?_)
      · skip
        refine ez_go (n := 2) (pc' := 2) (L' := [(3, .inl (k + 1)), (4, .inr (.inr (some (qz_P h ((ls h)) (k).toNat)))), (0, .inr (.inr (some (770)))), (1, .inl (p)), (2, .inl (0))]) (st' := []) rfl ?_
        refine ez_less [(3, .inl (k + 1)), (0, .inr (.inr (some (770)))), (1, .inl (p)), (2, .inl (0))] rfl ⟨rfl, rfl, rfl, rfl, trivial⟩ ?_
        refine ih (k + 1) (by omega) (by omega) (by omega) (fun j y hj hy => ?_)
        by_cases e : j = k.toNat
        · subst e; rw [hx] at hy; cases hy; intro w; have w1 := w.1; have w2 := w.2.1; have w3 := w.2.2.1; have w4 := w.2.2.2; omega
        · exact hno j y (by omega) hy
      · skip
        refine ez_go (n := 1) (pc' := 29) (L' := [(4, .inr (.inr (some (qz_P h ((ls h)) (k).toNat)))), (3, .inl (k)), (0, .inr (.inr (some (770)))), (1, .inl (p)), (2, .inl (0))]) (st' := [.inr (.inr (some (qz_P h ((ls h)) (k).toNat)))]) rfl ?_
        refine ez_gI hB t4 rfl rfl tq_13 rfl rfl (fun (b10 : -2147483648 ≤ qz_I h (qz_P h ((ls h)) (k).toNat) 5) (b10' : qz_I h (qz_P h ((ls h)) (k).toNat) 5 ≤ 2147483647) => ?_)
        refine ez_go (n := 1) (pc' := 33) (L' := [(4, .inr (.inr (some (qz_P h ((ls h)) (k).toNat)))), (3, .inl (k)), (0, .inr (.inr (some (770)))), (1, .inl (p)), (2, .inl (0))]) (st' := [.inl (0), .inl (qz_I h (qz_P h ((ls h)) (k).toNat) 5)]) rfl ?_
        refine ez_icmp rfl rfl ⟨by first | omega | exact (sz_i32 _).1, by first | omega | exact (sz_i32 _).2⟩ ⟨by first | omega | exact (sz_i32 _).1, by first | omega | exact (sz_i32 _).2⟩ (fun (c11 : (qz_I h (qz_P h ((ls h)) (k).toNat) 5) ≠ (0)) => ?_) (fun (c11 : ¬((qz_I h (qz_P h ((ls h)) (k).toNat) 5) ≠ (0))) => ?_)
        · skip
          refine ez_go (n := 2) (pc' := 2) (L' := [(3, .inl (k + 1)), (4, .inr (.inr (some (qz_P h ((ls h)) (k).toNat)))), (0, .inr (.inr (some (770)))), (1, .inl (p)), (2, .inl (0))]) (st' := []) rfl ?_
          refine ez_less [(3, .inl (k + 1)), (0, .inr (.inr (some (770)))), (1, .inl (p)), (2, .inl (0))] rfl ⟨rfl, rfl, rfl, rfl, trivial⟩ ?_
          refine ih (k + 1) (by omega) (by omega) (by omega) (fun j y hj hy => ?_)
          by_cases e : j = k.toNat
          · subst e; rw [hx] at hy; cases hy; intro w; have w1 := w.1; have w2 := w.2.1; have w3 := w.2.2.1; have w4 := w.2.2.2; omega
          · exact hno j y (by omega) hy
        · skip
          refine ez_go (n := 1) (pc' := 38) (L' := [(4, .inr (.inr (some (qz_P h ((ls h)) (k).toNat)))), (3, .inl (k)), (0, .inr (.inr (some (770)))), (1, .inl (p)), (2, .inl (0))]) (st' := [.inr (.inr (some (qz_P h ((ls h)) (k).toNat)))]) rfl ?_
          refine ez_gI hB t4 rfl rfl tq_13 rfl rfl (fun (b12 : -2147483648 ≤ qz_I h (qz_P h ((ls h)) (k).toNat) 1) (b12' : qz_I h (qz_P h ((ls h)) (k).toNat) 1 ≤ 2147483647) => ?_)
          refine ez_go (n := 1) (pc' := 42) (L' := [(4, .inr (.inr (some (qz_P h ((ls h)) (k).toNat)))), (3, .inl (k)), (0, .inr (.inr (some (770)))), (1, .inl (p)), (2, .inl (0))]) (st' := [.inl (p), .inl (qz_I h (qz_P h ((ls h)) (k).toNat) 1)]) rfl ?_
          refine ez_icmp rfl rfl ⟨by first | omega | exact (sz_i32 _).1, by first | omega | exact (sz_i32 _).2⟩ ⟨by first | omega | exact (sz_i32 _).1, by first | omega | exact (sz_i32 _).2⟩ (fun (c13 : (p) < (qz_I h (qz_P h ((ls h)) (k).toNat) 1)) => ?_) (fun (c13 : ¬((p) < (qz_I h (qz_P h ((ls h)) (k).toNat) 1))) => ?_)
          · skip
            refine ez_go (n := 2) (pc' := 2) (L' := [(3, .inl (k + 1)), (4, .inr (.inr (some (qz_P h ((ls h)) (k).toNat)))), (0, .inr (.inr (some (770)))), (1, .inl (p)), (2, .inl (0))]) (st' := []) rfl ?_
            refine ez_less [(3, .inl (k + 1)), (0, .inr (.inr (some (770)))), (1, .inl (p)), (2, .inl (0))] rfl ⟨rfl, rfl, rfl, rfl, trivial⟩ ?_
            refine ih (k + 1) (by omega) (by omega) (by omega) (fun j y hj hy => ?_)
            by_cases e : j = k.toNat
            · subst e; rw [hx] at hy; cases hy; intro w; have w1 := w.1; have w2 := w.2.1; have w3 := w.2.2.1; have w4 := w.2.2.2; omega
            · exact hno j y (by omega) hy
          · skip
            refine ez_go (n := 2) (pc' := 48) (L' := [(4, .inr (.inr (some (qz_P h ((ls h)) (k).toNat)))), (3, .inl (k)), (0, .inr (.inr (some (770)))), (1, .inl (p)), (2, .inl (0))]) (st' := [.inr (.inr (some (qz_P h ((ls h)) (k).toNat))), .inl (p)]) rfl ?_
            refine ez_gI hB t4 rfl rfl tq_13 rfl rfl (fun (b14 : -2147483648 ≤ qz_I h (qz_P h ((ls h)) (k).toNat) 2) (b14' : qz_I h (qz_P h ((ls h)) (k).toNat) 2 ≤ 2147483647) => ?_)
            refine ez_icmp rfl rfl ⟨by first | omega | exact (sz_i32 _).1, by first | omega | exact (sz_i32 _).2⟩ ⟨by first | omega | exact (sz_i32 _).1, by first | omega | exact (sz_i32 _).2⟩ (fun (c15 : (qz_I h (qz_P h ((ls h)) (k).toNat) 2) < (p)) => ?_) (fun (c15 : ¬((qz_I h (qz_P h ((ls h)) (k).toNat) 2) < (p))) => ?_)
            · skip
              refine ez_go (n := 2) (pc' := 2) (L' := [(3, .inl (k + 1)), (4, .inr (.inr (some (qz_P h ((ls h)) (k).toNat)))), (0, .inr (.inr (some (770)))), (1, .inl (p)), (2, .inl (0))]) (st' := []) rfl ?_
              refine ez_less [(3, .inl (k + 1)), (0, .inr (.inr (some (770)))), (1, .inl (p)), (2, .inl (0))] rfl ⟨rfl, rfl, rfl, rfl, trivial⟩ ?_
              refine ih (k + 1) (by omega) (by omega) (by omega) (fun j y hj hy => ?_)
              by_cases e : j = k.toNat
              · subst e; rw [hx] at hy; cases hy; intro w; have w1 := w.1; have w2 := w.2.1; have w3 := w.2.2.1; have w4 := w.2.2.2; omega
              · exact hno j y (by omega) hy
            · skip
              refine ez_go (n := 1) (pc' := 55) (L' := [(4, .inr (.inr (some (qz_P h ((ls h)) (k).toNat)))), (3, .inl (k)), (0, .inr (.inr (some (770)))), (1, .inl (p)), (2, .inl (0))]) (st' := [.inl (1)]) rfl ?_
              exact ez_retZ rfl rfl (Or.inr rfl) (k1 (vE_iff.mpr ⟨k.toNat, x, hx, by omega, by omega, by omega, by omega⟩))

theorem rd_has {p : Int} (hI : mI τ h Ls b) (pr : ez_rg p) (k1 : vE Ls p → Q (.inl (some (ez_v (.inl 1))), h)) (k0 : ¬ vE Ls p → Q (.inl (some (ez_v (.inl 0))), h)) : ez_W d cm_264 0 [(0, .inr (.inr (some (770)))), (1, .inl (p)), (2, .inl (0))] [] h Q := by
  have hB := hI.1
  have t770 : τ 770 = 75 := hI.2.1 770 (by decide)
  have b12 : 0 ≤ qz_I h 770 12 ∧ qz_I h 770 12 ≤ 512 := ez_fB (cl := 11) (k := 12) hB t770 tq_75 rfl rfl (by decide)
  have lce : lc h = qz_I h 770 12 := rfl
  have nls : lc h ≤ qz_N h (ls h) := hI.2.2.1.1.1
  refine ez_go (n := 2) (pc' := 2) (L' := [(3, .inl (0)), (0, .inr (.inr (some (770)))), (1, .inl (p)), (2, .inl (0))]) (st' := []) rfl ?_
  refine ez_less [(3, .inl (0)), (0, .inr (.inr (some (770)))), (1, .inl (p)), (2, .inl (0))] rfl ⟨rfl, rfl, rfl, rfl, trivial⟩ ?_
  exact rd_has_l hI pr k1 k0 _ 0 rfl (by omega) (by omega) (fun j y hj hy => by omega)

theorem rd_hangul {p : Int} (pr : ez_rg p) (k1 : hz p → Q (.inl (some (ez_v (.inl 1))), h)) (k0 : ¬ hz p → Q (.inl (some (ez_v (.inl 0))), h)) : ez_W d cm_262 0 [(0, .inr (.inr (some (770)))), (1, .inl (p))] [] h Q := by
  obtain ⟨pr0, pr1⟩ := id pr
  refine ez_go (n := 1) (pc' := 1) (L' := [(0, .inr (.inr (some (770)))), (1, .inl (p))]) (st' := [.inl (p)]) rfl ?_
  refine ez_ldcV (44032) rfl rfl rfl ?_
  refine ez_icmp rfl rfl ⟨by first | omega | exact (sz_i32 _).1, by first | omega | exact (sz_i32 _).2⟩ ⟨by first | omega | exact (sz_i32 _).1, by first | omega | exact (sz_i32 _).2⟩ (fun (c1 : (p) < (44032)) => ?_) (fun (c1 : ¬((p) < (44032))) => ?_)
  · skip
    refine ez_go (n := 1) (pc' := 19) (L' := [(0, .inr (.inr (some (770)))), (1, .inl (p))]) (st' := [.inl (0)]) rfl ?_
    exact ez_retZ rfl rfl (Or.inl rfl) (k0 (by unfold hz; omega))
  · skip
    refine ez_go (n := 1) (pc' := 8) (L' := [(0, .inr (.inr (some (770)))), (1, .inl (p))]) (st' := [.inl (p)]) rfl ?_
    refine ez_ldcV (55203) rfl rfl rfl ?_
    refine ez_icmp rfl rfl ⟨by first | omega | exact (sz_i32 _).1, by first | omega | exact (sz_i32 _).2⟩ ⟨by first | omega | exact (sz_i32 _).1, by first | omega | exact (sz_i32 _).2⟩ (fun (c2 : (55203) < (p)) => ?_) (fun (c2 : ¬((55203) < (p))) => ?_)
    · skip
      refine ez_go (n := 1) (pc' := 19) (L' := [(0, .inr (.inr (some (770)))), (1, .inl (p))]) (st' := [.inl (0)]) rfl ?_
      exact ez_retZ rfl rfl (Or.inl rfl) (k0 (by unfold hz; omega))
    · skip
      refine ez_go (n := 2) (pc' := 19) (L' := [(0, .inr (.inr (some (770)))), (1, .inl (p))]) (st' := [.inl (1)]) rfl ?_
      exact ez_retZ rfl rfl (Or.inr rfl) (k1 (by unfold hz; omega))

theorem rd_hangulPair {p q : Int} (hB : ez_B τ h) (t770 : τ 770 = 75) (pr : ez_rg p) (qr : ez_rg q) (k1 : hz_pair p q → Q (.inl (some (ez_v (.inl 1))), h)) (k0 : ¬ hz_pair p q → Q (.inl (some (ez_v (.inl 0))), h)) : ez_W (d + 1) cm_263 0 [(0, .inr (.inr (some (770)))), (1, .inl (p)), (2, .inl (q))] [] h Q := by
  obtain ⟨pr0, pr1⟩ := id pr
  obtain ⟨qr0, qr1⟩ := id qr
  refine ez_go (n := 2) (pc' := 4) (L' := [(0, .inr (.inr (some (770)))), (1, .inl (p)), (2, .inl (q))]) (st' := [.inl (4352), .inl (p)]) rfl ?_
  refine ez_icmp rfl rfl ⟨by first | omega | exact (sz_i32 _).1, by first | omega | exact (sz_i32 _).2⟩ ⟨by first | omega | exact (sz_i32 _).1, by first | omega | exact (sz_i32 _).2⟩ (fun (c1 : (p) < (4352)) => ?_) (fun (c1 : ¬((p) < (4352))) => ?_)
  · skip
    refine ez_go (n := 2) (pc' := 30) (L' := [(0, .inr (.inr (some (770)))), (1, .inl (p)), (2, .inl (q))]) (st' := [.inl (p), .inr (.inr (some (770)))]) rfl ?_
    refine ez_cv hB t770 rfl rfl rfl tq_75 rfl rfl rfl (rd_hangul pr (fun hh => ez_K1 ?_) (fun hh => ez_K1 ?_))
    · skip
      have hh2 := hh; unfold hz at hh2
      refine ez_if rfl rfl ⟨by decide, by decide⟩ (fun (c2 : (1 : Int) = (0)) => absurd c2 (by decide)) (fun _ => ?_)
      refine ez_go (n := 1) (pc' := 37) (L' := [(0, .inr (.inr (some (770)))), (1, .inl (p)), (2, .inl (q))]) (st' := [.inl (p)]) rfl ?_
      refine ez_ldcV (44032) rfl rfl rfl ?_
      refine ez_go (n := 2) (pc' := 43) (L' := [(0, .inr (.inr (some (770)))), (1, .inl (p)), (2, .inl (q))]) (st' := [.inl (28), .inl ((p) - (44032))]) rfl ?_
      refine ez_rem rfl (by omega) (by omega) (by omega) (by omega) ?_
      refine ez_if rfl rfl ⟨by first | omega | exact (sz_i32 _).1, by first | omega | exact (sz_i32 _).2⟩ (fun (c3 : (((p) - (44032)) % (28)) ≠ (0)) => ?_) (fun (c3 : ¬((((p) - (44032)) % (28)) ≠ (0))) => ?_)
      · skip
        refine ez_go (n := 1) (pc' := 66) (L' := [(0, .inr (.inr (some (770)))), (1, .inl (p)), (2, .inl (q))]) (st' := [.inl (0)]) rfl ?_
        exact ez_retZ rfl rfl (Or.inl rfl) (k0 (by unfold hz_pair; (try unfold hz at *); omega))
      · skip
        refine ez_go (n := 2) (pc' := 51) (L' := [(0, .inr (.inr (some (770)))), (1, .inl (p)), (2, .inl (q))]) (st' := [.inl (4520), .inl (q)]) rfl ?_
        refine ez_icmp rfl rfl ⟨by first | omega | exact (sz_i32 _).1, by first | omega | exact (sz_i32 _).2⟩ ⟨by first | omega | exact (sz_i32 _).1, by first | omega | exact (sz_i32 _).2⟩ (fun (c4 : (q) < (4520)) => ?_) (fun (c4 : ¬((q) < (4520))) => ?_)
        · skip
          refine ez_go (n := 1) (pc' := 66) (L' := [(0, .inr (.inr (some (770)))), (1, .inl (p)), (2, .inl (q))]) (st' := [.inl (0)]) rfl ?_
          exact ez_retZ rfl rfl (Or.inl rfl) (k0 (by unfold hz_pair; (try unfold hz at *); omega))
        · skip
          refine ez_go (n := 2) (pc' := 58) (L' := [(0, .inr (.inr (some (770)))), (1, .inl (p)), (2, .inl (q))]) (st' := [.inl (4546), .inl (q)]) rfl ?_
          refine ez_icmp rfl rfl ⟨by first | omega | exact (sz_i32 _).1, by first | omega | exact (sz_i32 _).2⟩ ⟨by first | omega | exact (sz_i32 _).1, by first | omega | exact (sz_i32 _).2⟩ (fun (c5 : (4546) < (q)) => ?_) (fun (c5 : ¬((4546) < (q))) => ?_)
          · skip
            refine ez_go (n := 1) (pc' := 66) (L' := [(0, .inr (.inr (some (770)))), (1, .inl (p)), (2, .inl (q))]) (st' := [.inl (0)]) rfl ?_
            exact ez_retZ rfl rfl (Or.inl rfl) (k0 (by unfold hz_pair; (try unfold hz at *); omega))
          · skip
            refine ez_go (n := 2) (pc' := 66) (L' := [(0, .inr (.inr (some (770)))), (1, .inl (p)), (2, .inl (q))]) (st' := [.inl (1)]) rfl ?_
            exact ez_retZ rfl rfl (Or.inr rfl) (k1 (by unfold hz_pair hz; omega))
    · skip
      refine ez_if rfl rfl ⟨by decide, by decide⟩ (fun _ => ?_) (fun (c6 : ¬((0 : Int) = (0))) => absurd c6 (by decide))
      refine ez_go (n := 1) (pc' := 66) (L' := [(0, .inr (.inr (some (770)))), (1, .inl (p)), (2, .inl (q))]) (st' := [.inl (0)]) rfl ?_
      exact ez_retZ rfl rfl (Or.inl rfl) (k0 (by unfold hz_pair; (try unfold hz at *); omega))
  · skip
    refine ez_go (n := 2) (pc' := 11) (L' := [(0, .inr (.inr (some (770)))), (1, .inl (p)), (2, .inl (q))]) (st' := [.inl (4370), .inl (p)]) rfl ?_
    refine ez_icmp rfl rfl ⟨by first | omega | exact (sz_i32 _).1, by first | omega | exact (sz_i32 _).2⟩ ⟨by first | omega | exact (sz_i32 _).1, by first | omega | exact (sz_i32 _).2⟩ (fun (c7 : (4370) < (p)) => ?_) (fun (c7 : ¬((4370) < (p))) => ?_)
    · skip
      refine ez_go (n := 2) (pc' := 30) (L' := [(0, .inr (.inr (some (770)))), (1, .inl (p)), (2, .inl (q))]) (st' := [.inl (p), .inr (.inr (some (770)))]) rfl ?_
      refine ez_cv hB t770 rfl rfl rfl tq_75 rfl rfl rfl (rd_hangul pr (fun hh => ez_K1 ?_) (fun hh => ez_K1 ?_))
      · skip
        have hh2 := hh; unfold hz at hh2
        refine ez_if rfl rfl ⟨by decide, by decide⟩ (fun (c8 : (1 : Int) = (0)) => absurd c8 (by decide)) (fun _ => ?_)
        refine ez_go (n := 1) (pc' := 37) (L' := [(0, .inr (.inr (some (770)))), (1, .inl (p)), (2, .inl (q))]) (st' := [.inl (p)]) rfl ?_
        refine ez_ldcV (44032) rfl rfl rfl ?_
        refine ez_go (n := 2) (pc' := 43) (L' := [(0, .inr (.inr (some (770)))), (1, .inl (p)), (2, .inl (q))]) (st' := [.inl (28), .inl ((p) - (44032))]) rfl ?_
        refine ez_rem rfl (by omega) (by omega) (by omega) (by omega) ?_
        refine ez_if rfl rfl ⟨by first | omega | exact (sz_i32 _).1, by first | omega | exact (sz_i32 _).2⟩ (fun (c9 : (((p) - (44032)) % (28)) ≠ (0)) => ?_) (fun (c9 : ¬((((p) - (44032)) % (28)) ≠ (0))) => ?_)
        · skip
          refine ez_go (n := 1) (pc' := 66) (L' := [(0, .inr (.inr (some (770)))), (1, .inl (p)), (2, .inl (q))]) (st' := [.inl (0)]) rfl ?_
          exact ez_retZ rfl rfl (Or.inl rfl) (k0 (by unfold hz_pair; (try unfold hz at *); omega))
        · skip
          refine ez_go (n := 2) (pc' := 51) (L' := [(0, .inr (.inr (some (770)))), (1, .inl (p)), (2, .inl (q))]) (st' := [.inl (4520), .inl (q)]) rfl ?_
          refine ez_icmp rfl rfl ⟨by first | omega | exact (sz_i32 _).1, by first | omega | exact (sz_i32 _).2⟩ ⟨by first | omega | exact (sz_i32 _).1, by first | omega | exact (sz_i32 _).2⟩ (fun (c10 : (q) < (4520)) => ?_) (fun (c10 : ¬((q) < (4520))) => ?_)
          · skip
            refine ez_go (n := 1) (pc' := 66) (L' := [(0, .inr (.inr (some (770)))), (1, .inl (p)), (2, .inl (q))]) (st' := [.inl (0)]) rfl ?_
            exact ez_retZ rfl rfl (Or.inl rfl) (k0 (by unfold hz_pair; (try unfold hz at *); omega))
          · skip
            refine ez_go (n := 2) (pc' := 58) (L' := [(0, .inr (.inr (some (770)))), (1, .inl (p)), (2, .inl (q))]) (st' := [.inl (4546), .inl (q)]) rfl ?_
            refine ez_icmp rfl rfl ⟨by first | omega | exact (sz_i32 _).1, by first | omega | exact (sz_i32 _).2⟩ ⟨by first | omega | exact (sz_i32 _).1, by first | omega | exact (sz_i32 _).2⟩ (fun (c11 : (4546) < (q)) => ?_) (fun (c11 : ¬((4546) < (q))) => ?_)
            · skip
              refine ez_go (n := 1) (pc' := 66) (L' := [(0, .inr (.inr (some (770)))), (1, .inl (p)), (2, .inl (q))]) (st' := [.inl (0)]) rfl ?_
              exact ez_retZ rfl rfl (Or.inl rfl) (k0 (by unfold hz_pair; (try unfold hz at *); omega))
            · skip
              refine ez_go (n := 2) (pc' := 66) (L' := [(0, .inr (.inr (some (770)))), (1, .inl (p)), (2, .inl (q))]) (st' := [.inl (1)]) rfl ?_
              exact ez_retZ rfl rfl (Or.inr rfl) (k1 (by unfold hz_pair hz; omega))
      · skip
        refine ez_if rfl rfl ⟨by decide, by decide⟩ (fun _ => ?_) (fun (c12 : ¬((0 : Int) = (0))) => absurd c12 (by decide))
        refine ez_go (n := 1) (pc' := 66) (L' := [(0, .inr (.inr (some (770)))), (1, .inl (p)), (2, .inl (q))]) (st' := [.inl (0)]) rfl ?_
        exact ez_retZ rfl rfl (Or.inl rfl) (k0 (by unfold hz_pair; (try unfold hz at *); omega))
    · skip
      refine ez_go (n := 2) (pc' := 18) (L' := [(0, .inr (.inr (some (770)))), (1, .inl (p)), (2, .inl (q))]) (st' := [.inl (4449), .inl (q)]) rfl ?_
      refine ez_icmp rfl rfl ⟨by first | omega | exact (sz_i32 _).1, by first | omega | exact (sz_i32 _).2⟩ ⟨by first | omega | exact (sz_i32 _).1, by first | omega | exact (sz_i32 _).2⟩ (fun (c13 : (q) < (4449)) => ?_) (fun (c13 : ¬((q) < (4449))) => ?_)
      · skip
        refine ez_go (n := 2) (pc' := 30) (L' := [(0, .inr (.inr (some (770)))), (1, .inl (p)), (2, .inl (q))]) (st' := [.inl (p), .inr (.inr (some (770)))]) rfl ?_
        refine ez_cv hB t770 rfl rfl rfl tq_75 rfl rfl rfl (rd_hangul pr (fun hh => ez_K1 ?_) (fun hh => ez_K1 ?_))
        · skip
          have hh2 := hh; unfold hz at hh2
          refine ez_if rfl rfl ⟨by decide, by decide⟩ (fun (c14 : (1 : Int) = (0)) => absurd c14 (by decide)) (fun _ => ?_)
          refine ez_go (n := 1) (pc' := 37) (L' := [(0, .inr (.inr (some (770)))), (1, .inl (p)), (2, .inl (q))]) (st' := [.inl (p)]) rfl ?_
          refine ez_ldcV (44032) rfl rfl rfl ?_
          refine ez_go (n := 2) (pc' := 43) (L' := [(0, .inr (.inr (some (770)))), (1, .inl (p)), (2, .inl (q))]) (st' := [.inl (28), .inl ((p) - (44032))]) rfl ?_
          refine ez_rem rfl (by omega) (by omega) (by omega) (by omega) ?_
          refine ez_if rfl rfl ⟨by first | omega | exact (sz_i32 _).1, by first | omega | exact (sz_i32 _).2⟩ (fun (c15 : (((p) - (44032)) % (28)) ≠ (0)) => ?_) (fun (c15 : ¬((((p) - (44032)) % (28)) ≠ (0))) => ?_)
          · skip
            refine ez_go (n := 1) (pc' := 66) (L' := [(0, .inr (.inr (some (770)))), (1, .inl (p)), (2, .inl (q))]) (st' := [.inl (0)]) rfl ?_
            exact ez_retZ rfl rfl (Or.inl rfl) (k0 (by unfold hz_pair; (try unfold hz at *); omega))
          · skip
            refine ez_go (n := 2) (pc' := 51) (L' := [(0, .inr (.inr (some (770)))), (1, .inl (p)), (2, .inl (q))]) (st' := [.inl (4520), .inl (q)]) rfl ?_
            refine ez_icmp rfl rfl ⟨by first | omega | exact (sz_i32 _).1, by first | omega | exact (sz_i32 _).2⟩ ⟨by first | omega | exact (sz_i32 _).1, by first | omega | exact (sz_i32 _).2⟩ (fun (c16 : (q) < (4520)) => ?_) (fun (c16 : ¬((q) < (4520))) => ?_)
            · skip
              refine ez_go (n := 1) (pc' := 66) (L' := [(0, .inr (.inr (some (770)))), (1, .inl (p)), (2, .inl (q))]) (st' := [.inl (0)]) rfl ?_
              exact ez_retZ rfl rfl (Or.inl rfl) (k0 (by unfold hz_pair; (try unfold hz at *); omega))
            · skip
              refine ez_go (n := 2) (pc' := 58) (L' := [(0, .inr (.inr (some (770)))), (1, .inl (p)), (2, .inl (q))]) (st' := [.inl (4546), .inl (q)]) rfl ?_
              refine ez_icmp rfl rfl ⟨by first | omega | exact (sz_i32 _).1, by first | omega | exact (sz_i32 _).2⟩ ⟨by first | omega | exact (sz_i32 _).1, by first | omega | exact (sz_i32 _).2⟩ (fun (c17 : (4546) < (q)) => ?_) (fun (c17 : ¬((4546) < (q))) => ?_)
              · skip
                refine ez_go (n := 1) (pc' := 66) (L' := [(0, .inr (.inr (some (770)))), (1, .inl (p)), (2, .inl (q))]) (st' := [.inl (0)]) rfl ?_
                exact ez_retZ rfl rfl (Or.inl rfl) (k0 (by unfold hz_pair; (try unfold hz at *); omega))
              · skip
                refine ez_go (n := 2) (pc' := 66) (L' := [(0, .inr (.inr (some (770)))), (1, .inl (p)), (2, .inl (q))]) (st' := [.inl (1)]) rfl ?_
                exact ez_retZ rfl rfl (Or.inr rfl) (k1 (by unfold hz_pair hz; omega))
        · skip
          refine ez_if rfl rfl ⟨by decide, by decide⟩ (fun _ => ?_) (fun (c18 : ¬((0 : Int) = (0))) => absurd c18 (by decide))
          refine ez_go (n := 1) (pc' := 66) (L' := [(0, .inr (.inr (some (770)))), (1, .inl (p)), (2, .inl (q))]) (st' := [.inl (0)]) rfl ?_
          exact ez_retZ rfl rfl (Or.inl rfl) (k0 (by unfold hz_pair; (try unfold hz at *); omega))
      · skip
        refine ez_go (n := 2) (pc' := 25) (L' := [(0, .inr (.inr (some (770)))), (1, .inl (p)), (2, .inl (q))]) (st' := [.inl (4469), .inl (q)]) rfl ?_
        refine ez_icmp rfl rfl ⟨by first | omega | exact (sz_i32 _).1, by first | omega | exact (sz_i32 _).2⟩ ⟨by first | omega | exact (sz_i32 _).1, by first | omega | exact (sz_i32 _).2⟩ (fun (c19 : (q) ≤ (4469)) => ?_) (fun (c19 : ¬((q) ≤ (4469))) => ?_)
        · skip
          refine ez_go (n := 2) (pc' := 66) (L' := [(0, .inr (.inr (some (770)))), (1, .inl (p)), (2, .inl (q))]) (st' := [.inl (1)]) rfl ?_
          exact ez_retZ rfl rfl (Or.inr rfl) (k1 (by unfold hz_pair hz; omega))
        · skip
          refine ez_go (n := 2) (pc' := 30) (L' := [(0, .inr (.inr (some (770)))), (1, .inl (p)), (2, .inl (q))]) (st' := [.inl (p), .inr (.inr (some (770)))]) rfl ?_
          refine ez_cv hB t770 rfl rfl rfl tq_75 rfl rfl rfl (rd_hangul pr (fun hh => ez_K1 ?_) (fun hh => ez_K1 ?_))
          · skip
            have hh2 := hh; unfold hz at hh2
            refine ez_if rfl rfl ⟨by decide, by decide⟩ (fun (c20 : (1 : Int) = (0)) => absurd c20 (by decide)) (fun _ => ?_)
            refine ez_go (n := 1) (pc' := 37) (L' := [(0, .inr (.inr (some (770)))), (1, .inl (p)), (2, .inl (q))]) (st' := [.inl (p)]) rfl ?_
            refine ez_ldcV (44032) rfl rfl rfl ?_
            refine ez_go (n := 2) (pc' := 43) (L' := [(0, .inr (.inr (some (770)))), (1, .inl (p)), (2, .inl (q))]) (st' := [.inl (28), .inl ((p) - (44032))]) rfl ?_
            refine ez_rem rfl (by omega) (by omega) (by omega) (by omega) ?_
            refine ez_if rfl rfl ⟨by first | omega | exact (sz_i32 _).1, by first | omega | exact (sz_i32 _).2⟩ (fun (c21 : (((p) - (44032)) % (28)) ≠ (0)) => ?_) (fun (c21 : ¬((((p) - (44032)) % (28)) ≠ (0))) => ?_)
            · skip
              refine ez_go (n := 1) (pc' := 66) (L' := [(0, .inr (.inr (some (770)))), (1, .inl (p)), (2, .inl (q))]) (st' := [.inl (0)]) rfl ?_
              exact ez_retZ rfl rfl (Or.inl rfl) (k0 (by unfold hz_pair; (try unfold hz at *); omega))
            · skip
              refine ez_go (n := 2) (pc' := 51) (L' := [(0, .inr (.inr (some (770)))), (1, .inl (p)), (2, .inl (q))]) (st' := [.inl (4520), .inl (q)]) rfl ?_
              refine ez_icmp rfl rfl ⟨by first | omega | exact (sz_i32 _).1, by first | omega | exact (sz_i32 _).2⟩ ⟨by first | omega | exact (sz_i32 _).1, by first | omega | exact (sz_i32 _).2⟩ (fun (c22 : (q) < (4520)) => ?_) (fun (c22 : ¬((q) < (4520))) => ?_)
              · skip
                refine ez_go (n := 1) (pc' := 66) (L' := [(0, .inr (.inr (some (770)))), (1, .inl (p)), (2, .inl (q))]) (st' := [.inl (0)]) rfl ?_
                exact ez_retZ rfl rfl (Or.inl rfl) (k0 (by unfold hz_pair; (try unfold hz at *); omega))
              · skip
                refine ez_go (n := 2) (pc' := 58) (L' := [(0, .inr (.inr (some (770)))), (1, .inl (p)), (2, .inl (q))]) (st' := [.inl (4546), .inl (q)]) rfl ?_
                refine ez_icmp rfl rfl ⟨by first | omega | exact (sz_i32 _).1, by first | omega | exact (sz_i32 _).2⟩ ⟨by first | omega | exact (sz_i32 _).1, by first | omega | exact (sz_i32 _).2⟩ (fun (c23 : (4546) < (q)) => ?_) (fun (c23 : ¬((4546) < (q))) => ?_)
                · skip
                  refine ez_go (n := 1) (pc' := 66) (L' := [(0, .inr (.inr (some (770)))), (1, .inl (p)), (2, .inl (q))]) (st' := [.inl (0)]) rfl ?_
                  exact ez_retZ rfl rfl (Or.inl rfl) (k0 (by unfold hz_pair; (try unfold hz at *); omega))
                · skip
                  refine ez_go (n := 2) (pc' := 66) (L' := [(0, .inr (.inr (some (770)))), (1, .inl (p)), (2, .inl (q))]) (st' := [.inl (1)]) rfl ?_
                  exact ez_retZ rfl rfl (Or.inr rfl) (k1 (by unfold hz_pair hz; omega))
          · skip
            refine ez_if rfl rfl ⟨by decide, by decide⟩ (fun _ => ?_) (fun (c24 : ¬((0 : Int) = (0))) => absurd c24 (by decide))
            refine ez_go (n := 1) (pc' := 66) (L' := [(0, .inr (.inr (some (770)))), (1, .inl (p)), (2, .inl (q))]) (st' := [.inl (0)]) rfl ?_
            exact ez_retZ rfl rfl (Or.inl rfl) (k0 (by unfold hz_pair; (try unfold hz at *); omega))

end EzTd
