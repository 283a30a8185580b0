/-! The reader of the class: takeFact, all of it. (Written by wip/p2/py/pv16.py.) -/
theorem ez_xr.bft {τ τ' : Nat → Nat} {h g : cz_H} {dc ds : Nat} (hx : ez_xr τ h τ' g 720 dc ds) (t193 : τ 193 = 45) (t721 : τ 721 = 53) (t722 : τ 722 = 54) : rz_b g = rz_b h ∧ rz_f g = rz_f h ∧ rz_t g = rz_t h :=
  ⟨funext fun i => hx.I (by rw [t193]; decide) (by decide) _, funext fun i => hx.I (by rw [t721]; decide) (by decide) _, funext fun i => hx.I (by rw [t722]; decide) (by decide) _⟩
theorem ez_xr_new {τ : Nat → Nat} {h : cz_H} (hB : ez_B τ h) {t n x dc ds : Nat} {c : cz_C} (hd : 1 ≤ dc) (hn : n ≤ ds) : ez_xr τ h (dz_tn τ h.1 t) (cz_push h n c) x dc ds :=
  have x0 := ez_xt_new (t := t) (c := c) hB hd hn (ez_fr.refl _ _)
  ⟨fun q hq => ⟨(x0.1 q hq).1, fun _ => (x0.1 q hq).2⟩, x0.2⟩
/-- a Fact's decomposition -/
def rz_D (τ : Nat → Nat) (h : cz_H) (r : Nat) (dec : Option (Int × List Int)) : Prop := match dec with
  | none => qz_I h r 3 = 0
  | some (cp, vs) => ∃ p : Nat, τ p = 5 ∧ qz_I h r 3 = (p : Int) + 1 ∧ qz_I h r 4 = cp ∧ qz_N h p = (vs.length : Int) ∧ ∀ (j : Nat) v, vs[j]? = some v → qz_I h p j = v
theorem rz_db_cp {b : Int → Int} {s t cp bg : Int} (h : rz_db b s t = some (cp, bg)) : cp = 0 ∨ cp = 1 := by
  unfold rz_db at h
  split at h
  · split at h
    · cases h
    · cases h; exact Or.inr rfl
  · cases h; exact Or.inl rfl
theorem rz_rw_len {b : Int → Int} {m s t : Int} {vs : List Int} (h : rz_rw b m s t = some vs) : vs.length = rz_ct b s (t - s).toNat s := by
  unfold rz_rw at h
  split at h
  · exact rz_row_len b _ _ _ _ h
  · cases h
/-- the same at another heap -/
theorem rz_D_fr {τ : Nat → Nat} {h g : cz_H} {r : Nat} {dec : Option (Int × List Int)} (hD : rz_D τ h r dec) (e3 : qz_I g r 3 = qz_I h r 3) (e4 : qz_I g r 4 = qz_I h r 4) (ep : ∀ p, τ p = 5 → g.2.2 p = h.2.2 p) : rz_D τ g r dec := by
  match dec with
  | none => exact e3.trans hD
  | some (cp, vs) =>
    obtain ⟨p, p1, p2, p3, p4, p5⟩ := hD
    exact ⟨p, p1, e3.trans p2, e4.trans p3, by unfold qz_N; rw [ep p p1]; exact p4, fun j v hj => by unfold qz_I; rw [ep p p1]; exact p5 j v hj⟩
section EzTl
variable {d : Nat} {h : cz_H} {τ : Nat → Nat} {Q : cz_F → Prop} {r : Nat}
theorem rd_takeFact_s {τ0 : Nat → Nat} {h0 : cz_H} {first last cls : Int} {dec : Option (Int × List Int)} (hB0 : ez_B τ0 h0) (u193 : τ0 193 = 45) (u202 : τ0 202 = 48) (u203 : τ0 203 = 49) (u720 : τ0 720 = 52) (u721 : τ0 721 = 53) (u722 : τ0 722 = 54) (hs : sz_ok h0) (hinj : sz_inj h0) (hft : ∀ k, 0 ≤ k → k ≤ 6 → rz_f h0 k ≤ rz_t h0 k) (hn : qz_I h0 202 1 + 2 ≤ 513) (hB : ez_B τ h) (hx : ez_xr τ0 h0 τ h 720 2 31) (r0 : τ0 r = 0) (tr : τ r = 3) (hr : (r : Int) + 1 ≤ 1000000) (e4 : qz_I h 720 4 = first) (e5 : qz_I h 720 5 = last) (ef : first = rz_first (rz_b h0) (rz_f h0 0) (rz_t h0 0)) (el : last = rz_last (rz_b h0) (rz_f h0 0) (rz_t h0 0)) (f1 : first ≠ -1) (fl : first ≤ last) (hcat : rz_cat (rz_b h0) (rz_f h0 1) (rz_t h0 1)) (hcl : (1 ≤ rz_t h0 2 - rz_f h0 2 ∧ rz_t h0 2 - rz_f h0 2 ≤ 3) ∧ (0 ≤ cls ∧ cls ≤ 254) ∧ cls = rz_dec (rz_b h0) (rz_t h0 2 - rz_f h0 2).toNat (rz_f h0 2) 0) (hdec : (rz_f h0 3 = rz_t h0 3 ∧ dec = none) ∨ (rz_f h0 3 ≠ rz_t h0 3 ∧ ∃ cp bg vs, rz_db (rz_b h0) (rz_f h0 3) (rz_t h0 3) = some (cp, bg) ∧ rz_rw (rz_b h0) 18 bg (rz_t h0 3) = some vs ∧ dec = some (cp, vs))) (e2 : qz_I h r 2 = cls) (hD : rz_D τ h r dec) (kN : ∀ g τ1, ez_B τ1 g → ez_xr τ0 h0 τ1 g 720 2 31 → ¬(∃ first last cls dec, rz_F (rz_b h0) (rz_f h0) (rz_t h0) first last cls dec) → Q (.inl (some (ez_v (.inl (-1)))), g)) (kS : ∀ g h1 τ1 first last cls dec, ez_B τ1 g → ez_xr τ0 h0 τ1 h1 720 2 31 → τ1 r = 3 → rz_F (rz_b h0) (rz_f h0) (rz_t h0) first last cls dec → qz_I h1 r 0 = first → qz_I h1 r 2 = cls → rz_D τ1 h1 r dec → sz_told τ1 h1 g first last r → Q (.inl (some (ez_v (.inl (last - first + 1)))), g)) : ez_W (d + 3) cm_176 41 [(0, .inr (.inr (some (720)))), (1, .inr (.inr (some (r))))] [] h Q := by
  have t720 := hx.t u720 rfl
  have t721 := hx.t u721 rfl
  have t722 := hx.t u722 rfl
  have t202 := hx.t u202 rfl
  have t203 := hx.t u203 rfl
  obtain ⟨xb, xf, xt⟩ := hx.bft u193 u721 u722
  have bl : -1 ≤ last ∧ last ≤ 1114111 := by
    rw [el]; unfold rz_last rz_first
    split
    · split
      · exact rz_code_bd _ _ _
      · omega
    · exact rz_code_bd _ _ _
  have bf : -1 ≤ first ∧ first ≤ 1114111 := by rw [ef]; unfold rz_first; exact rz_code_bd _ _ _
  refine rd_takeFact_b1 hB t720 (by rw [xf, xt]; exact hft) (fun hno => kN h τ hB hx (fun ⟨_, _, _, _, w⟩ => hno (by rw [xb, xf, xt]; exact w.2.2.2.2.1))) (fun hok => ?_)
  rw [xb, xf, xt] at hok
  refine rd_takeFact_b2 hB t720 t721 t722 tr (by rw [xf, xt]; exact hft) (fun g hB1 hf1 hk1 => ?_)
  have hx1 := hx.fr hf1 (Or.inl r0)
  obtain ⟨-, xf1, xt1⟩ := hx1.bft u193 u721 u722
  have v4 : qz_I g 720 4 = first := (hf1.I (rz_ne t720 tr rfl) 4).trans e4
  have v5 : qz_I g 720 5 = last := (hf1.I (rz_ne t720 tr rfl) 5).trans e5
  refine rd_takeFact_c hB1 t720 (fun hlt hno => kN g τ hB1 hx1 (fun ⟨_, _, _, _, w⟩ => hno (by rw [xf1, xt1]; refine w.2.2.2.2.2 ?_; rw [w.1.1, w.1.2.1, ← ef, ← el]; omega))) (fun hem => ?_)
  rw [xf1, xt1] at hem
  obtain ⟨hs1, hi1⟩ := sz_same_ok hB0 u203 u202 ((hx1.1 202 (by rw [u202]; decide)).2 (by decide)) ((hx1.1 203 (by rw [u203]; decide)).2 (by decide)) (fun q hq => (hx1.1 q (by rw [hq]; decide)).2 (fun e => by rw [e, u720] at hq; cases hq)) hs hinj
  have c1 : qz_I g 202 1 = qz_I h0 202 1 := hx1.I (by rw [u202]; decide) (by decide) 1
  refine rd_takeFact_d hB1 t720 t202 t203 tr hr hs1 hi1 v4 v5 (by omega) fl bl.2 (by omega) (fun g2 h1 hB2 hf2 a0 aj htl => ?_)
  refine kS g2 h1 τ first last cls dec hB2 (hx1.fr hf2 (Or.inl r0)) tr ⟨⟨ef, el, f1, fl⟩, hcat, hcl, hdec, hok, fun hlt => hem (by omega)⟩ a0 (by rw [aj 2 (by decide), hk1 2 (by decide) (by decide) (by decide)]; exact e2) ?_ htl
  refine rz_D_fr hD (by rw [aj 3 (by decide), hk1 3 (by decide) (by decide) (by decide)]) (by rw [aj 4 (by decide), hk1 4 (by decide) (by decide) (by decide)]) (fun p hp => ?_)
  have hpr : ez_one r p = false := dz_beq_ne (fun e => by rw [e, tr] at hp; cases hp)
  rw [hf2.2.2 p hpr, hf1.2.2 p hpr]
theorem rd_takeFact_a {τ0 : Nat → Nat} {h0 : cz_H} (hB0 : ez_B τ0 h0) (u193 : τ0 193 = 45) (u202 : τ0 202 = 48) (u203 : τ0 203 = 49) (u720 : τ0 720 = 52) (u721 : τ0 721 = 53) (u722 : τ0 722 = 54) (hs : sz_ok h0) (hinj : sz_inj h0) (hft : ∀ k, 0 ≤ k → k ≤ 6 → rz_f h0 k ≤ rz_t h0 k) (hn : qz_I h0 202 1 + 2 ≤ 513) (hB : ez_B τ h) (hx : ez_xr τ0 h0 τ h 720 1 13) (r0 : τ0 r = 0) (tr : τ r = 3) (hz : ∀ j, qz_I h r j = 0) (hr : (r : Int) + 1 ≤ 1000000) (hr1 : h0.1 + 2 ≤ 600192) (hr2 : h0.2.1 + 31 ≤ 7302232) (kN : ∀ g τ1, ez_B τ1 g → ez_xr τ0 h0 τ1 g 720 2 31 → ¬(∃ first last cls dec, rz_F (rz_b h0) (rz_f h0) (rz_t h0) first last cls dec) → Q (.inl (some (ez_v (.inl (-1)))), g)) (kS : ∀ g h1 τ1 first last cls dec, ez_B τ1 g → ez_xr τ0 h0 τ1 h1 720 2 31 → τ1 r = 3 → rz_F (rz_b h0) (rz_f h0) (rz_t h0) first last cls dec → qz_I h1 r 0 = first → qz_I h1 r 2 = cls → rz_D τ1 h1 r dec → sz_told τ1 h1 g first last r → Q (.inl (some (ez_v (.inl (last - first + 1)))), g)) : ez_W (d + 4) cm_176 4 [(0, .inr (.inr (some (720))))] [.inr (.inr (some (r))), .inr (.inr (some (r)))] h Q := by
  have t720 := hx.t u720 rfl
  have t721 := hx.t u721 rfl
  have t722 := hx.t u722 rfl
  have t193 := hx.t u193 rfl
  have t202 := hx.t u202 rfl
  have t203 := hx.t u203 rfl
  have hxc := hx.2
  refine ez_ci hB.2.1 rfl rfl rfl rfl rfl rfl (rd_Fact_init hB tr (fun g1 hB1 x1 z1 => ez_K0 ?_))
  have hx1 := hx.fr x1 (Or.inl r0)
  obtain ⟨b1, f1, t1⟩ := hx1.bft u193 u721 u722
  have q0 := hft 0 (by omega) (by omega)
  have n721 : 7 ≤ qz_N h0 721 ∧ qz_N h0 721 ≤ 7 := ez_len hB0 u721 tq_53 rfl
  have n722 : 7 ≤ qz_N h0 722 ∧ qz_N h0 722 ≤ 7 := ez_len hB0 u722 tq_54 rfl
  have q1 : 0 ≤ rz_f h0 0 ∧ rz_f h0 0 ≤ 4096 := ez_aB (i := 0) hB0 u721 tq_53 rfl rfl (by decide) (by omega) (by omega)
  have q2 : 0 ≤ rz_t h0 0 ∧ rz_t h0 0 ≤ 4096 := ez_aB (i := 0) hB0 u722 tq_54 rfl rfl (by decide) (by omega) (by omega)
  refine ez_go (n := 2) (pc' := 9) (L' := [(1, .inr (.inr (some (r)))), (0, .inr (.inr (some (720))))]) (st' := [.inr (.inr (some (720)))]) rfl ?_
  refine ez_cv hB1 t720 rfl rfl rfl tq_52 rfl rfl rfl (rd_readCodes hB1 t720 (congrFun f1 0) (congrFun t1 0) (by omega) (by omega) (by omega) (fun g2 hB2 x2 v4 v5 y1 y2 => ez_K1 ?_) (fun g2 hB2 x2 y1 => ez_K1 ?_))
  · skip
    rw [b1] at v4 v5 y1 y2
    have hx2 := hx1.fr x2 (Or.inr rfl)
    obtain ⟨b2, f2, t2⟩ := hx2.bft u193 u721 u722
    have z2 : ∀ j, qz_I g2 r j = qz_I g1 r j := fun j => x2.I (rz_ne tr t720 rfl) j
    refine ez_if rfl rfl ⟨by decide, by decide⟩ (fun (c1 : (1 : Int) = (0)) => absurd c1 (by decide)) (fun _ => ?_)
    refine ez_go (n := 2) (pc' := 17) (L' := [(1, .inr (.inr (some (r)))), (0, .inr (.inr (some (720))))]) (st' := [.inr (.inr (some (r))), .inr (.inr (some (720)))]) rfl ?_
    refine ez_cv hB2 t720 rfl rfl rfl tq_52 rfl rfl rfl (rd_readCategory hB2 t720 tr (fun g3 hB3 x3 z3 y3 => ez_K1 ?_) (fun g3 hB3 x3 z3 y3 => ez_K1 ?_))
    · skip
      rw [b2, f2, t2] at y3
      have hx3 := hx2.fr x3 (Or.inl r0)
      obtain ⟨b3, f3, t3⟩ := hx3.bft u193 u721 u722
      have w3 : ∀ j, qz_I g3 720 j = qz_I g2 720 j := fun j => x3.I (rz_ne t720 tr rfl) j
      refine ez_if rfl rfl ⟨by decide, by decide⟩ (fun (c2 : (1 : Int) = (0)) => absurd c2 (by decide)) (fun _ => ?_)
      refine ez_go (n := 2) (pc' := 25) (L' := [(1, .inr (.inr (some (r)))), (0, .inr (.inr (some (720))))]) (st' := [.inr (.inr (some (r))), .inr (.inr (some (720)))]) rfl ?_
      refine ez_cv hB3 t720 rfl rfl rfl tq_52 rfl rfl rfl (rd_readClass hB3 t720 tr (fun g4 hB4 x4 z4 y4 y5 y6 y7 y8 => ez_K1 ?_) (fun g4 hB4 x4 z4 y4 => ez_K1 ?_))
      · skip
        rw [f3, t3, b3] at y4 y7 y8
        rw [f3, t3] at y5 y6
        have hx4 := hx3.fr x4 (Or.inl r0)
        obtain ⟨b4, f4, t4⟩ := hx4.bft u193 u721 u722
        have w4 : ∀ j, qz_I g4 720 j = qz_I g3 720 j := fun j => x4.I (rz_ne t720 tr rfl) j
        refine ez_if rfl rfl ⟨by decide, by decide⟩ (fun (c3 : (1 : Int) = (0)) => absurd c3 (by decide)) (fun _ => ?_)
        refine ez_go (n := 2) (pc' := 33) (L' := [(1, .inr (.inr (some (r)))), (0, .inr (.inr (some (720))))]) (st' := [.inr (.inr (some (r))), .inr (.inr (some (720)))]) rfl ?_
        have hx4c := hx4.2
        refine ez_cv hB4 t720 rfl rfl rfl tq_52 rfl rfl rfl (rd_readDecomposition hB4 t720 t722 tr (by rw [f4, t4]; exact hft 3 (by omega) (by omega)) (by omega) (by omega) (fun ye => ez_K1 ?_) (fun g5 τ5 vs cp bg p ye yd hB5 x5 t5 yr yN yv ar3 ar4 arj => ez_K1 ?_) (fun g5 τ5 hB5 x5 ye yn => ez_K1 ?_))
        · skip
          rw [f4, t4] at ye
          refine ez_if rfl rfl ⟨by decide, by decide⟩ (fun _ => ?_) (fun (c4 : ¬((1 : Int) ≠ (0))) => absurd c4 (by decide))
          refine ez_less [(0, .inr (.inr (some (720)))), (1, .inr (.inr (some (r))))] rfl ⟨rfl, rfl, trivial⟩ ?_
          exact rd_takeFact_s hB0 u193 u202 u203 u720 u721 u722 hs hinj hft hn hB4 (hx4.mono (by omega) (by omega)) r0 tr hr (by rw [w4, w3]; exact v4) (by rw [w4, w3]; exact v5) rfl rfl y1 y2 y3 ⟨⟨y5, y6⟩, ⟨y7, y8⟩, rfl⟩ (Or.inl ⟨ye, rfl⟩) y4 (show qz_I g4 r 3 = 0 by rw [z4 3 (by decide), z3 3 (by decide), z2, z1 3 (by decide) (by decide) (by decide) (by decide)]; exact hz 3) kN kS
        · skip
          rw [f4, t4] at ye
          rw [b4, f4, t4] at yd
          rw [b4, t4] at yr
          rw [b4, t4] at yN
          have hx5 := hx4.xr x5 r0
          refine ez_if rfl rfl ⟨by decide, by decide⟩ (fun _ => ?_) (fun (c5 : ¬((1 : Int) ≠ (0))) => absurd c5 (by decide))
          refine ez_less [(0, .inr (.inr (some (720)))), (1, .inr (.inr (some (r))))] rfl ⟨rfl, rfl, trivial⟩ ?_
          have w5 : ∀ j, qz_I g5 720 j = qz_I g4 720 j := fun j => x5.I (by rw [t720]; decide) (fun e => by rw [← e, t720] at tr; cases tr) j
          exact rd_takeFact_s hB0 u193 u202 u203 u720 u721 u722 hs hinj hft hn hB5 (hx5.mono (by omega) (by omega)) r0 (x5.t tr rfl) hr (by rw [w5, w4, w3]; exact v4) (by rw [w5, w4, w3]; exact v5) rfl rfl y1 y2 y3 ⟨⟨y5, y6⟩, ⟨y7, y8⟩, rfl⟩ (Or.inr ⟨ye, cp, bg, vs, yd, yr, rfl⟩) (by rw [arj 2 (by decide) (by decide)]; exact y4) ⟨p, t5, ar3, (by rw [ar4]; rcases rz_db_cp yd with w | w; (· rw [if_neg (by omega), z4 4 (by decide), z3 4 (by decide), z2, z1 4 (by decide) (by decide) (by decide) (by decide), hz 4]; exact w.symm); (· rw [if_pos w]; exact w.symm)), (by rw [yN, rz_rw_len yr]), yv⟩ kN kS
        · skip
          rw [f4, t4] at ye
          rw [b4, f4, t4] at yn
          have hx5 := hx4.xr x5 r0
          refine ez_if rfl rfl ⟨by decide, by decide⟩ (fun (c6 : (0 : Int) ≠ (0)) => absurd c6 (by decide)) (fun _ => ?_)
          refine ez_go (n := 1) (pc' := 40) (L' := [(1, .inr (.inr (some (r)))), (0, .inr (.inr (some (720))))]) (st' := [.inl (-1)]) rfl ?_
          exact ez_retI rfl rfl (kN g5 τ5 hB5 (hx5.mono (by omega) (by omega)) (fun ⟨_, _, _, _, w⟩ => by rcases w.2.2.2.1 with w | w; (· exact ye w.1); (· obtain ⟨-, cp, bg, vs, w1, w2, -⟩ := w; rcases yn with yn | ⟨cp2, bg2, yn1, yn2⟩; (· rw [yn] at w1; cases w1); (· rw [w1] at yn1; cases yn1; rw [w2] at yn2; cases yn2))))
      · skip
        rw [f3, t3, b3] at y4
        have hx4 := hx3.fr x4 (Or.inl r0)
        obtain ⟨b4, f4, t4⟩ := hx4.bft u193 u721 u722
        refine ez_if rfl rfl ⟨by decide, by decide⟩ (fun _ => ?_) (fun (c7 : ¬((0 : Int) = (0))) => absurd c7 (by decide))
        refine ez_go (n := 1) (pc' := 40) (L' := [(1, .inr (.inr (some (r)))), (0, .inr (.inr (some (720))))]) (st' := [.inl (-1)]) rfl ?_
        exact ez_retI rfl rfl (kN g4 τ hB4 (hx4.mono (by omega) (by omega)) (fun ⟨_, _, _, _, w⟩ => y4 ⟨w.2.2.1.1, by rw [← w.2.2.1.2.2]; exact w.2.2.1.2.1⟩))
    · skip
      rw [b2, f2, t2] at y3
      have hx3 := hx2.fr x3 (Or.inl r0)
      obtain ⟨b3, f3, t3⟩ := hx3.bft u193 u721 u722
      refine ez_if rfl rfl ⟨by decide, by decide⟩ (fun _ => ?_) (fun (c8 : ¬((0 : Int) = (0))) => absurd c8 (by decide))
      refine ez_go (n := 1) (pc' := 40) (L' := [(1, .inr (.inr (some (r)))), (0, .inr (.inr (some (720))))]) (st' := [.inl (-1)]) rfl ?_
      exact ez_retI rfl rfl (kN g3 τ hB3 (hx3.mono (by omega) (by omega)) (fun ⟨_, _, _, _, w⟩ => y3 w.2.1))
  · skip
    rw [b1] at y1
    have hx2 := hx1.fr x2 (Or.inr rfl)
    obtain ⟨b2, f2, t2⟩ := hx2.bft u193 u721 u722
    refine ez_if rfl rfl ⟨by decide, by decide⟩ (fun _ => ?_) (fun (c9 : ¬((0 : Int) = (0))) => absurd c9 (by decide))
    refine ez_go (n := 1) (pc' := 40) (L' := [(1, .inr (.inr (some (r)))), (0, .inr (.inr (some (720))))]) (st' := [.inl (-1)]) rfl ?_
    exact ez_retI rfl rfl (kN g2 τ hB2 (hx2.mono (by omega) (by omega)) (fun ⟨_, _, _, _, w⟩ => y1 (by rw [← w.1.1]; exact w.1.2.2.1) (by rw [← w.1.1, ← w.1.2.1]; exact w.1.2.2.2)))

theorem rd_takeFact {τ0 : Nat → Nat} {h0 : cz_H} (hB0 : ez_B τ0 h0) (u193 : τ0 193 = 45) (u202 : τ0 202 = 48) (u203 : τ0 203 = 49) (u720 : τ0 720 = 52) (u721 : τ0 721 = 53) (u722 : τ0 722 = 54) (hs : sz_ok h0) (hinj : sz_inj h0) (hft : ∀ k, 0 ≤ k → k ≤ 6 → rz_f h0 k ≤ rz_t h0 k) (hn : qz_I h0 202 1 + 2 ≤ 513) (hr1 : h0.1 + 2 ≤ 600192) (hr2 : h0.2.1 + 31 ≤ 7302232) (kN : ∀ g τ1, ez_B τ1 g → ez_xr τ0 h0 τ1 g 720 2 31 → ¬(∃ first last cls dec, rz_F (rz_b h0) (rz_f h0) (rz_t h0) first last cls dec) → Q (.inl (some (ez_v (.inl (-1)))), g)) (kS : ∀ g h1 τ1 first last cls dec, ez_B τ1 g → ez_xr τ0 h0 τ1 h1 720 2 31 → τ1 h0.1 = 3 → rz_F (rz_b h0) (rz_f h0) (rz_t h0) first last cls dec → qz_I h1 h0.1 0 = first → qz_I h1 h0.1 2 = cls → rz_D τ1 h1 h0.1 dec → sz_told τ1 h1 g first last h0.1 → Q (.inl (some (ez_v (.inl (last - first + 1)))), g)) : ez_W (d + 4) cm_176 0 [(0, .inr (.inr (some (720))))] [] h0 Q := by
  refine ez_nw (t := 3) hB0 rfl rfl rfl tq_3 rfl rfl (by omega) (by show h0.2.1 + 13 ≤ 7302232; omega) (fun hB1 hz => ?_)
  refine ez_go (n := 1) (pc' := 4) (L' := [(0, .inr (.inr (some (720))))]) (st' := [.inr (.inr (some h0.1)), .inr (.inr (some h0.1))]) rfl ?_
  exact rd_takeFact_a hB0 u193 u202 u203 u720 u721 u722 hs hinj hft hn hB1 (ez_xr_new hB0 (Nat.le_refl _) (show 13 ≤ 13 from Nat.le_refl _)) (ez_fresh hB0) (by unfold dz_tn; simp) hz (by omega) hr1 hr2 kN kS
end EzTl
