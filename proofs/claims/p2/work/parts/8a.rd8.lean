/-! The reader of the class, functionally, VII: DECOMPOSITIONS. (Written by wip/p2/py/pv8.py.) -/
/-- bounds of what lies in an array -/
theorem ez_aB {τ : Nat → Nat} {h : cz_H} {r t : Nat} {ti : dz_I} {c : Nat} {lo hi : Int} {tg md : Nat} {i : Int} (hB : ez_B τ h) (hτ : τ r = t) (hti : tz_T t = some ti) (hb : (Nat.beq ti.1 1 && Nat.blt ti.2.1 11) = true) (hD : dz_nth ti.2.2.2.2 0 = some (c, lo, hi, tg, md)) (hc : c ≠ 2) (h0 : 0 ≤ i) (h1 : i < qz_N h r) : lo ≤ qz_I h r i.toNat ∧ qz_I h r i.toNat ≤ hi := by
  obtain ⟨n, f, o1, o2, o3, o4, -, o6⟩ := ez_arr hB hτ hti hb hD
  rw [o3] at h1
  obtain ⟨g1, g2⟩ := o6 i.toNat (by omega)
  exact ez_slB g1 g2 hc
/-- where the ROW of a decomposition begins, and whether it is a compatible one -/
noncomputable def rz_db (b : Int → Int) (s t : Int) : Option (Int × Int) := if b s = 60 then (if rz_lets b (t - (s + 1)).toNat (s + 1) = s + 1 ∨ rz_lets b (t - (s + 1)).toNat (s + 1) = t ∨ b (rz_lets b (t - (s + 1)).toNat (s + 1)) ≠ 62 then none else some (1, rz_lets b (t - (s + 1)).toNat (s + 1) + 1)) else some (0, s)
/-- a ROW of at most m POINTS from s to t -/
noncomputable def rz_rw (b : Int → Int) (m : Int) (s t : Int) : Option (List Int) := if 1 ≤ rz_ct b s (t - s).toNat s ∧ ((rz_ct b s (t - s).toNat s : Nat) : Int) ≤ m then rz_row b (rz_ct b s (t - s).toNat s) s t else none
/-- cells more, and one that was written -/
def ez_xr (τ : Nat → Nat) (h : cz_H) (τ' : Nat → Nat) (g : cz_H) (r dc ds : Nat) : Prop := (∀ q, τ q ≠ 0 → τ' q = τ q ∧ (q ≠ r → g.2.2 q = h.2.2 q)) ∧ (h.1 ≤ g.1 ∧ g.1 ≤ h.1 + dc) ∧ (h.2.1 ≤ g.2.1 ∧ g.2.1 ≤ h.2.1 + ds)
theorem ez_xr.I {τ τ' : Nat → Nat} {h g : cz_H} {r dc ds : Nat} (hx : ez_xr τ h τ' g r dc ds) {q : Nat} (hq : τ q ≠ 0) (hr : q ≠ r) (j : Nat) : qz_I g q j = qz_I h q j := by unfold qz_I; rw [(hx.1 q hq).2 hr]
theorem ez_xr_of {τ τ' : Nat → Nat} {h h1 g g1 : cz_H} {r dc ds : Nat} (a : ez_fr (ez_one r) h h1) (b : ez_xt τ h1 τ' g dc ds) (c : ez_fr (ez_one r) g g1) : ez_xr τ h τ' g1 r dc ds := by
  refine ⟨fun q hq => ⟨(b.1 q hq).1, fun hr => ?_⟩, ?_, ?_⟩
  · have e : ez_one r q = false := by unfold ez_one; exact dz_beq_ne hr
    rw [c.2.2 q e, (b.1 q hq).2, a.2.2 q e]
  · rw [c.1, ← a.1]; exact b.2.1
  · rw [c.2.1, ← a.2.1]; exact b.2.2
section EzRd8
variable {d : Nat} {h : cz_H} {τ : Nat → Nat} {Q : cz_F → Prop} {r : Nat}
theorem rd_readDecomposition_b {h0 : cz_H} {bg : Int} (hB : ez_B τ h) (t720 : τ 720 = 52) (t193 : τ 193 = 45) (tr : τ r = 3) (hf : ez_fr (ez_one r) h0 h) (hrl : r < h.1) (b0 : 0 ≤ bg) (b1 : bg ≤ rz_t h 3) (hr1 : h.1 + 1 ≤ 600192) (hr2 : h.2.1 + 18 ≤ 7302232) (k1 : ∀ g τ1 vs, ez_B τ1 g → ez_xr τ h0 τ1 g r 1 18 → τ1 h.1 = 5 → rz_rw (rz_b h) 18 bg (rz_t h 3) = some vs → qz_N g h.1 = ((rz_ct (rz_b h) bg (rz_t h 3 - bg).toNat bg : Nat) : Int) → (∀ (j : Nat) v, vs[j]? = some v → qz_I g h.1 j = v) → qz_I g r 3 = (h.1 : Int) + 1 → (∀ j, j ≠ 3 → qz_I g r j = qz_I h r j) → Q (.inl (some (ez_v (.inl 1))), g)) (k0 : ∀ g τ1, ez_B τ1 g → ez_xr τ h0 τ1 g r 1 18 → rz_rw (rz_b h) 18 bg (rz_t h 3) = none → Q (.inl (some (ez_v (.inl 0))), g)) : ez_W (d + 3) cm_162 81 [(2, .inl (bg)), (0, .inr (.inr (some (720)))), (1, .inr (.inr (some (r))))] [] h Q := by
  unfold rz_t at b1
  refine ez_go (n := 4) (pc' := 85) (L' := [(2, .inl (bg)), (0, .inr (.inr (some (720)))), (1, .inr (.inr (some (r))))]) (st' := [.inr (.inr (some (720))), .inl (bg), .inr (.inr (some (720))), .inr (.inr (some (r)))]) rfl ?_
  refine ez_gC (p := 722) (tg := 54) hB t720 rfl rfl tq_52 rfl rfl (fun (t722 : _ = 54) => ?_)
  refine ez_go (n := 1) (pc' := 89) (L' := [(2, .inl (bg)), (0, .inr (.inr (some (720)))), (1, .inr (.inr (some (r))))]) (st' := [.inl (3), .inr (.inr (some (722))), .inl (bg), .inr (.inr (some (720))), .inr (.inr (some (r)))]) rfl ?_
  have n2 : 7 ≤ qz_N h 722 ∧ qz_N h 722 ≤ 7 := ez_len hB t722 tq_54 rfl
  refine ez_aI hB t722 rfl tq_54 rfl rfl (by omega) (by omega) (fun (b1 : 0 ≤ qz_I h 722 (3 : Int).toNat) (b1' : qz_I h 722 (3 : Int).toNat ≤ 4096) => ?_)
  refine ez_go (n := 1) (pc' := 92) (L' := [(2, .inl (bg)), (0, .inr (.inr (some (720)))), (1, .inr (.inr (some (r))))]) (st' := [.inl (18), .inl (qz_I h 722 (3 : Int).toNat), .inl (bg), .inr (.inr (some (720))), .inr (.inr (some (r)))]) rfl ?_
  refine ez_cv hB t720 rfl rfl rfl tq_52 rfl rfl rfl (rd_readRow hB t720 t193 (by omega) (by omega) (by omega) (by omega) (by omega) hr1 hr2 (fun g τ1 hB1 hx hn => ez_KA ?_) (fun g τ1 vs hB1 hx up hc1 hc2 hrow hN hel => ez_KA ?_))
  · skip
    have ur : τ1 r = 3 := (hx.1 r (by rw [tr]; decide)).1.trans tr
    have ht3 : qz_I h 722 (3 : Int).toNat = rz_t h 3 := rfl
    rw [ht3] at hn
    refine ez_pf hB1 ur rfl rfl tq_3 rfl rfl rfl rfl (ez_vdN rfl) (fun hB3 w4 => ?_)
    refine ez_go (n := 1) (pc' := 99) (L' := [(2, .inl (bg)), (0, .inr (.inr (some (720)))), (1, .inr (.inr (some (r))))]) (st' := [.inr (.inr (some (r)))]) rfl ?_
    refine ez_gN hB3 ur rfl rfl tq_3 rfl rfl (fun (t5 : qz_I (dz_put g r 3 (ez_v (.inr (.inr none)))) r 3 = 0) => ?_) (fun (t5 : _ = 5) (t5' : 1 ≤ qz_I (dz_put g r 3 (ez_v (.inr (.inr none)))) r 3) => ?_)
    · skip
      refine ez_null0 rfl rfl ?_
      refine ez_go (n := 1) (pc' := 110) (L' := [(2, .inl (bg)), (0, .inr (.inr (some (720)))), (1, .inr (.inr (some (r))))]) (st' := [.inl (0)]) rfl ?_
      exact ez_retZ rfl rfl (by decide) (k0 _ τ1 hB3 (ez_xr_of hf hx ((ez_fr.refl (ez_one r) g).put (show Nat.beq r r = true from Nat.beq_refl r) _ _)) (by unfold rz_rw; rcases hn with hn | hn; (· rw [if_neg hn]); (· split; (· exact hn); (· rfl))))
    · skip
      exfalso; have w2 : qz_I (dz_put g r 3 (ez_v (.inr (.inr none)))) r 3 = 0 := w4; omega
  · skip
    have ur : τ1 r = 3 := (hx.1 r (by rw [tr]; decide)).1.trans tr
    have ht3 : qz_I h 722 (3 : Int).toNat = rz_t h 3 := rfl
    rw [ht3] at hc1 hc2 hrow hN
    have hlt : (h.1 : Int) + 1 ≤ 1000000 := by omega
    refine ez_pf hB1 ur rfl rfl tq_3 rfl rfl rfl rfl (ez_vdR rfl up (by omega) (by omega)) (fun hB6 w7 => ?_)
    refine ez_go (n := 1) (pc' := 99) (L' := [(2, .inl (bg)), (0, .inr (.inr (some (720)))), (1, .inr (.inr (some (r))))]) (st' := [.inr (.inr (some (r)))]) rfl ?_
    refine ez_gN hB6 ur rfl rfl tq_3 rfl rfl (fun (t8 : qz_I (dz_put g r 3 (ez_v (.inr (.inr (some (h.1)))))) r 3 = 0) => ?_) (fun (t8 : _ = 5) (t8' : 1 ≤ qz_I (dz_put g r 3 (ez_v (.inr (.inr (some (h.1)))))) r 3) => ?_)
    · skip
      exfalso; have w2 : qz_I (dz_put g r 3 (ez_v (.inr (.inr (some (h.1)))))) r 3 = (h.1 : Int) + 1 := w7; omega
    · skip
      refine ez_null1 rfl ?_
      refine ez_go (n := 2) (pc' := 110) (L' := [(2, .inl (bg)), (0, .inr (.inr (some (720)))), (1, .inr (.inr (some (r))))]) (st' := [.inl (1)]) rfl ?_
      exact ez_retZ rfl rfl (by decide) (k1 _ τ1 vs hB6 (ez_xr_of hf hx ((ez_fr.refl (ez_one r) g).put (show Nat.beq r r = true from Nat.beq_refl r) _ _)) up (by unfold rz_rw; rw [if_pos ⟨hc1, hc2⟩]; exact hrow) (by rw [ez_put_N]; exact hN) (fun j v hj => by rw [ez_put_I (fun w => absurd w.1 (Nat.ne_of_gt hrl))]; exact hel j v hj) (by rw [w7]; rfl) (fun j hj => by rw [ez_put_I (fun w => hj w.2)]; exact hx.I (by rw [tr]; decide) _))

theorem rd_readDecomposition (hB : ez_B τ h) (t720 : τ 720 = 52) (t722 : τ 722 = 54) (tr : τ r = 3) (hft : rz_f h 3 ≤ rz_t h 3) (hr1 : h.1 + 1 ≤ 600192) (hr2 : h.2.1 + 18 ≤ 7302232) (kE : rz_f h 3 = rz_t h 3 → Q (.inl (some (ez_v (.inl 1))), h)) (k1 : ∀ g τ1 vs cp bg p, ¬ rz_f h 3 = rz_t h 3 → rz_db (rz_b h) (rz_f h 3) (rz_t h 3) = some (cp, bg) → ez_B τ1 g → ez_xr τ h τ1 g r 1 18 → τ1 p = 5 → rz_rw (rz_b h) 18 bg (rz_t h 3) = some vs → qz_N g p = ((rz_ct (rz_b h) bg (rz_t h 3 - bg).toNat bg : Nat) : Int) → (∀ (j : Nat) v, vs[j]? = some v → qz_I g p j = v) → qz_I g r 3 = (p : Int) + 1 → qz_I g r 4 = (if cp = 1 then 1 else qz_I h r 4) → (∀ j, j ≠ 3 → j ≠ 4 → qz_I g r j = qz_I h r j) → Q (.inl (some (ez_v (.inl 1))), g)) (k0 : ∀ g τ1, ez_B τ1 g → ez_xr τ h τ1 g r 1 18 → ¬ rz_f h 3 = rz_t h 3 → (rz_db (rz_b h) (rz_f h 3) (rz_t h 3) = none ∨ ∃ cp bg, rz_db (rz_b h) (rz_f h 3) (rz_t h 3) = some (cp, bg) ∧ rz_rw (rz_b h) 18 bg (rz_t h 3) = none) → Q (.inl (some (ez_v (.inl 0))), g)) : ez_W (d + 3) cm_162 0 [(0, .inr (.inr (some (720)))), (1, .inr (.inr (some (r))))] [] h Q := by
  unfold rz_f rz_t at hft
  refine ez_go (n := 2) (pc' := 2) (L' := [(0, .inr (.inr (some (720)))), (1, .inr (.inr (some (r))))]) (st' := [.inl (3), .inr (.inr (some (720)))]) rfl ?_
  refine ez_cv hB t720 rfl rfl rfl tq_52 rfl rfl rfl (rd_isEmptyField hB t720 (by omega) (by omega) (fun (e : rz_f h 3 = rz_t h 3) => ez_K1 ?_) (fun (e : ¬ rz_f h 3 = rz_t h 3) => ez_K1 ?_))
  · skip
    refine ez_if rfl rfl ⟨by decide, by decide⟩ (fun (c1 : (1 : Int) = (0)) => absurd c1 (by decide)) (fun _ => ?_)
    refine ez_go (n := 1) (pc' := 9) (L' := [(0, .inr (.inr (some (720)))), (1, .inr (.inr (some (r))))]) (st' := [.inl (1)]) rfl ?_
    exact ez_retZ rfl rfl (by decide) (kE e)
  · skip
    have n722 : 7 ≤ qz_N h 722 ∧ qz_N h 722 ≤ 7 := ez_len hB t722 tq_54 rfl
    have bt : 0 ≤ qz_I h 722 (3 : Int).toNat ∧ qz_I h 722 (3 : Int).toNat ≤ 4096 := ez_aB (i := 3) hB t722 tq_54 rfl rfl (by decide) (by omega) (by omega)
    have e2 : qz_I h 721 (3 : Int).toNat < qz_I h 722 (3 : Int).toNat := by have : qz_I h 721 (3 : Int).toNat = rz_f h 3 := rfl; have : qz_I h 722 (3 : Int).toNat = rz_t h 3 := rfl; omega
    refine ez_if rfl rfl ⟨by decide, by decide⟩ (fun _ => ?_) (fun (c2 : ¬((0 : Int) = (0))) => absurd c2 (by decide))
    refine ez_go (n := 1) (pc' := 11) (L' := [(0, .inr (.inr (some (720)))), (1, .inr (.inr (some (r))))]) (st' := [.inr (.inr (some (720)))]) rfl ?_
    refine ez_gC (p := 721) (tg := 53) hB t720 rfl rfl tq_52 rfl rfl (fun (t721 : _ = 53) => ?_)
    refine ez_go (n := 1) (pc' := 15) (L' := [(0, .inr (.inr (some (720)))), (1, .inr (.inr (some (r))))]) (st' := [.inl (3), .inr (.inr (some (721)))]) rfl ?_
    have n4 : 7 ≤ qz_N h 721 ∧ qz_N h 721 ≤ 7 := ez_len hB t721 tq_53 rfl
    refine ez_aI hB t721 rfl tq_53 rfl rfl (by omega) (by omega) (fun (b3 : 0 ≤ qz_I h 721 (3 : Int).toNat) (b3' : qz_I h 721 (3 : Int).toNat ≤ 4096) => ?_)
    refine ez_go (n := 2) (pc' := 18) (L' := [(2, .inl (qz_I h 721 (3 : Int).toNat)), (0, .inr (.inr (some (720)))), (1, .inr (.inr (some (r))))]) (st' := [.inr (.inr (some (720)))]) rfl ?_
    refine ez_gC (p := 193) (tg := 45) hB t720 rfl rfl tq_52 rfl rfl (fun (t193 : _ = 45) => ?_)
    refine ez_go (n := 1) (pc' := 22) (L' := [(2, .inl (qz_I h 721 (3 : Int).toNat)), (0, .inr (.inr (some (720)))), (1, .inr (.inr (some (r))))]) (st' := [.inl (qz_I h 721 (3 : Int).toNat), .inr (.inr (some (193)))]) rfl ?_
    have n6 : 4096 ≤ qz_N h 193 ∧ qz_N h 193 ≤ 4096 := ez_len hB t193 tq_45 rfl
    refine ez_aI hB t193 rfl tq_45 rfl rfl (by omega) (by omega) (fun (b5 : -128 ≤ qz_I h 193 (qz_I h 721 (3 : Int).toNat).toNat) (b5' : qz_I h 193 (qz_I h 721 (3 : Int).toNat).toNat ≤ 127) => ?_)
    refine ez_go (n := 1) (pc' := 25) (L' := [(2, .inl (qz_I h 721 (3 : Int).toNat)), (0, .inr (.inr (some (720)))), (1, .inr (.inr (some (r))))]) (st' := [.inl (60), .inl (qz_I h 193 (qz_I h 721 (3 : Int).toNat).toNat)]) rfl ?_
    refine ez_icmp rfl rfl ⟨by omega, by omega⟩ ⟨by omega, by omega⟩ (fun (c7 : (qz_I h 193 (qz_I h 721 (3 : Int).toNat).toNat) ≠ (60)) => ?_) (fun (c7 : ¬((qz_I h 193 (qz_I h 721 (3 : Int).toNat).toNat) ≠ (60))) => ?_)
    · skip
      refine ez_less [(2, .inl (qz_I h 721 (3 : Int).toNat)), (0, .inr (.inr (some (720)))), (1, .inr (.inr (some (r))))] rfl ⟨rfl, rfl, rfl, trivial⟩ ?_
      have hrl : r < h.1 := dz_here_lt (hB.1 r (by rw [tr]; decide)).1
      have hdb : rz_db (rz_b h) (rz_f h 3) (rz_t h 3) = some (0, rz_f h 3) := by unfold rz_db; rw [if_neg (by show ¬ qz_I h 193 (qz_I h 721 (3 : Int).toNat).toNat = 60; omega)]
      exact rd_readDecomposition_b hB t720 t193 tr (ez_fr.refl _ h) hrl (by omega) (by unfold rz_t; omega) hr1 hr2 (fun g τ1 vs a1 a2 a3 a4 a5 a6 a7 a8 => k1 g τ1 vs 0 _ _ e hdb a1 a2 a3 a4 a5 a6 a7 (by rw [a8 4 (by decide), if_neg (by decide)]) (fun j j1 j2 => a8 j j1)) (fun g τ1 a1 a2 a3 => k0 g τ1 a1 a2 e (Or.inr ⟨0, _, hdb, a3⟩))
    · skip
      refine ez_go (n := 5) (pc' := 33) (L' := [(2, .inl (qz_I h 721 (3 : Int).toNat)), (0, .inr (.inr (some (720)))), (1, .inr (.inr (some (r))))]) (st' := [.inr (.inr (some (720))), .inl ((qz_I h 721 (3 : Int).toNat) + (1)), .inr (.inr (some (720)))]) rfl ?_
      refine ez_gC (p := 722) (tg := 54) hB t720 rfl rfl tq_52 rfl rfl (fun (t722 : _ = 54) => ?_)
      refine ez_go (n := 1) (pc' := 37) (L' := [(2, .inl (qz_I h 721 (3 : Int).toNat)), (0, .inr (.inr (some (720)))), (1, .inr (.inr (some (r))))]) (st' := [.inl (3), .inr (.inr (some (722))), .inl ((qz_I h 721 (3 : Int).toNat) + (1)), .inr (.inr (some (720)))]) rfl ?_
      have n9 : 7 ≤ qz_N h 722 ∧ qz_N h 722 ≤ 7 := ez_len hB t722 tq_54 rfl
      refine ez_aI hB t722 rfl tq_54 rfl rfl (by omega) (by omega) (fun (b8 : 0 ≤ qz_I h 722 (3 : Int).toNat) (b8' : qz_I h 722 (3 : Int).toNat ≤ 4096) => ?_)
      have xl := rz_lets_le (rz_b h) (qz_I h 722 (3 : Int).toNat - (qz_I h 721 (3 : Int).toNat + 1)).toNat (qz_I h 721 (3 : Int).toNat + 1)
      refine ez_cv hB t720 rfl rfl rfl tq_52 rfl rfl rfl (rd_skipLetters hB t720 (by omega) (by omega) (by omega) (ez_K1 ?_))
      refine ez_go (n := 5) (pc' := 46) (L' := [(3, .inl (rz_lets (rz_b h) (qz_I h 722 (3 : Int).toNat - (qz_I h 721 (3 : Int).toNat + 1)).toNat (qz_I h 721 (3 : Int).toNat + 1))), (2, .inl (qz_I h 721 (3 : Int).toNat)), (0, .inr (.inr (some (720)))), (1, .inr (.inr (some (r))))]) (st' := [.inl ((qz_I h 721 (3 : Int).toNat) + (1)), .inl (rz_lets (rz_b h) (qz_I h 722 (3 : Int).toNat - (qz_I h 721 (3 : Int).toNat + 1)).toNat (qz_I h 721 (3 : Int).toNat + 1))]) rfl ?_
      refine ez_icmp rfl rfl ⟨by omega, by omega⟩ ⟨by omega, by omega⟩ (fun (c10 : (rz_lets (rz_b h) (qz_I h 722 (3 : Int).toNat - (qz_I h 721 (3 : Int).toNat + 1)).toNat (qz_I h 721 (3 : Int).toNat + 1)) = ((qz_I h 721 (3 : Int).toNat) + (1))) => ?_) (fun (c10 : ¬((rz_lets (rz_b h) (qz_I h 722 (3 : Int).toNat - (qz_I h 721 (3 : Int).toNat + 1)).toNat (qz_I h 721 (3 : Int).toNat + 1)) = ((qz_I h 721 (3 : Int).toNat) + (1)))) => ?_)
      · skip
        refine ez_go (n := 1) (pc' := 71) (L' := [(3, .inl (rz_lets (rz_b h) (qz_I h 722 (3 : Int).toNat - (qz_I h 721 (3 : Int).toNat + 1)).toNat (qz_I h 721 (3 : Int).toNat + 1))), (2, .inl (qz_I h 721 (3 : Int).toNat)), (0, .inr (.inr (some (720)))), (1, .inr (.inr (some (r))))]) (st' := [.inl (0)]) rfl ?_
        exact ez_retZ rfl rfl (by decide) (k0 h τ hB ⟨fun _ _ => ⟨rfl, fun _ => rfl⟩, ⟨Nat.le_refl _, Nat.le_add_right _ _⟩, Nat.le_refl _, Nat.le_add_right _ _⟩ e (Or.inl (by unfold rz_db; rw [if_pos (by show qz_I h 193 (qz_I h 721 (3 : Int).toNat).toNat = 60; omega), if_pos (by show rz_lets (rz_b h) (qz_I h 722 (3 : Int).toNat - (qz_I h 721 (3 : Int).toNat + 1)).toNat (qz_I h 721 (3 : Int).toNat + 1) = qz_I h 721 (3 : Int).toNat + 1 ∨ rz_lets (rz_b h) (qz_I h 722 (3 : Int).toNat - (qz_I h 721 (3 : Int).toNat + 1)).toNat (qz_I h 721 (3 : Int).toNat + 1) = qz_I h 722 (3 : Int).toNat ∨ qz_I h 193 (rz_lets (rz_b h) (qz_I h 722 (3 : Int).toNat - (qz_I h 721 (3 : Int).toNat + 1)).toNat (qz_I h 721 (3 : Int).toNat + 1)).toNat ≠ 62; omega)])))
      · skip
        refine ez_go (n := 2) (pc' := 51) (L' := [(3, .inl (rz_lets (rz_b h) (qz_I h 722 (3 : Int).toNat - (qz_I h 721 (3 : Int).toNat + 1)).toNat (qz_I h 721 (3 : Int).toNat + 1))), (2, .inl (qz_I h 721 (3 : Int).toNat)), (0, .inr (.inr (some (720)))), (1, .inr (.inr (some (r))))]) (st' := [.inr (.inr (some (720))), .inl (rz_lets (rz_b h) (qz_I h 722 (3 : Int).toNat - (qz_I h 721 (3 : Int).toNat + 1)).toNat (qz_I h 721 (3 : Int).toNat + 1))]) rfl ?_
        refine ez_gC (p := 722) (tg := 54) hB t720 rfl rfl tq_52 rfl rfl (fun (t722 : _ = 54) => ?_)
        refine ez_go (n := 1) (pc' := 55) (L' := [(3, .inl (rz_lets (rz_b h) (qz_I h 722 (3 : Int).toNat - (qz_I h 721 (3 : Int).toNat + 1)).toNat (qz_I h 721 (3 : Int).toNat + 1))), (2, .inl (qz_I h 721 (3 : Int).toNat)), (0, .inr (.inr (some (720)))), (1, .inr (.inr (some (r))))]) (st' := [.inl (3), .inr (.inr (some (722))), .inl (rz_lets (rz_b h) (qz_I h 722 (3 : Int).toNat - (qz_I h 721 (3 : Int).toNat + 1)).toNat (qz_I h 721 (3 : Int).toNat + 1))]) rfl ?_
        have n12 : 7 ≤ qz_N h 722 ∧ qz_N h 722 ≤ 7 := ez_len hB t722 tq_54 rfl
        refine ez_aI hB t722 rfl tq_54 rfl rfl (by omega) (by omega) (fun (b11 : 0 ≤ qz_I h 722 (3 : Int).toNat) (b11' : qz_I h 722 (3 : Int).toNat ≤ 4096) => ?_)
        refine ez_icmp rfl rfl ⟨by omega, by omega⟩ ⟨by omega, by omega⟩ (fun (c13 : (rz_lets (rz_b h) (qz_I h 722 (3 : Int).toNat - (qz_I h 721 (3 : Int).toNat + 1)).toNat (qz_I h 721 (3 : Int).toNat + 1)) = (qz_I h 722 (3 : Int).toNat)) => ?_) (fun (c13 : ¬((rz_lets (rz_b h) (qz_I h 722 (3 : Int).toNat - (qz_I h 721 (3 : Int).toNat + 1)).toNat (qz_I h 721 (3 : Int).toNat + 1)) = (qz_I h 722 (3 : Int).toNat))) => ?_)
        · skip
          refine ez_go (n := 1) (pc' := 71) (L' := [(3, .inl (rz_lets (rz_b h) (qz_I h 722 (3 : Int).toNat - (qz_I h 721 (3 : Int).toNat + 1)).toNat (qz_I h 721 (3 : Int).toNat + 1))), (2, .inl (qz_I h 721 (3 : Int).toNat)), (0, .inr (.inr (some (720)))), (1, .inr (.inr (some (r))))]) (st' := [.inl (0)]) rfl ?_
          exact ez_retZ rfl rfl (by decide) (k0 h τ hB ⟨fun _ _ => ⟨rfl, fun _ => rfl⟩, ⟨Nat.le_refl _, Nat.le_add_right _ _⟩, Nat.le_refl _, Nat.le_add_right _ _⟩ e (Or.inl (by unfold rz_db; rw [if_pos (by show qz_I h 193 (qz_I h 721 (3 : Int).toNat).toNat = 60; omega), if_pos (by show rz_lets (rz_b h) (qz_I h 722 (3 : Int).toNat - (qz_I h 721 (3 : Int).toNat + 1)).toNat (qz_I h 721 (3 : Int).toNat + 1) = qz_I h 721 (3 : Int).toNat + 1 ∨ rz_lets (rz_b h) (qz_I h 722 (3 : Int).toNat - (qz_I h 721 (3 : Int).toNat + 1)).toNat (qz_I h 721 (3 : Int).toNat + 1) = qz_I h 722 (3 : Int).toNat ∨ qz_I h 193 (rz_lets (rz_b h) (qz_I h 722 (3 : Int).toNat - (qz_I h 721 (3 : Int).toNat + 1)).toNat (qz_I h 721 (3 : Int).toNat + 1)).toNat ≠ 62; omega)])))
        · skip
          refine ez_go (n := 1) (pc' := 60) (L' := [(3, .inl (rz_lets (rz_b h) (qz_I h 722 (3 : Int).toNat - (qz_I h 721 (3 : Int).toNat + 1)).toNat (qz_I h 721 (3 : Int).toNat + 1))), (2, .inl (qz_I h 721 (3 : Int).toNat)), (0, .inr (.inr (some (720)))), (1, .inr (.inr (some (r))))]) (st' := [.inr (.inr (some (720)))]) rfl ?_
          refine ez_gC (p := 193) (tg := 45) hB t720 rfl rfl tq_52 rfl rfl (fun (t193 : _ = 45) => ?_)
          refine ez_go (n := 1) (pc' := 64) (L' := [(3, .inl (rz_lets (rz_b h) (qz_I h 722 (3 : Int).toNat - (qz_I h 721 (3 : Int).toNat + 1)).toNat (qz_I h 721 (3 : Int).toNat + 1))), (2, .inl (qz_I h 721 (3 : Int).toNat)), (0, .inr (.inr (some (720)))), (1, .inr (.inr (some (r))))]) (st' := [.inl (rz_lets (rz_b h) (qz_I h 722 (3 : Int).toNat - (qz_I h 721 (3 : Int).toNat + 1)).toNat (qz_I h 721 (3 : Int).toNat + 1)), .inr (.inr (some (193)))]) rfl ?_
          have n15 : 4096 ≤ qz_N h 193 ∧ qz_N h 193 ≤ 4096 := ez_len hB t193 tq_45 rfl
          refine ez_aI hB t193 rfl tq_45 rfl rfl (by omega) (by omega) (fun (b14 : -128 ≤ qz_I h 193 (rz_lets (rz_b h) (qz_I h 722 (3 : Int).toNat - (qz_I h 721 (3 : Int).toNat + 1)).toNat (qz_I h 721 (3 : Int).toNat + 1)).toNat) (b14' : qz_I h 193 (rz_lets (rz_b h) (qz_I h 722 (3 : Int).toNat - (qz_I h 721 (3 : Int).toNat + 1)).toNat (qz_I h 721 (3 : Int).toNat + 1)).toNat ≤ 127) => ?_)
          refine ez_go (n := 1) (pc' := 67) (L' := [(3, .inl (rz_lets (rz_b h) (qz_I h 722 (3 : Int).toNat - (qz_I h 721 (3 : Int).toNat + 1)).toNat (qz_I h 721 (3 : Int).toNat + 1))), (2, .inl (qz_I h 721 (3 : Int).toNat)), (0, .inr (.inr (some (720)))), (1, .inr (.inr (some (r))))]) (st' := [.inl (62), .inl (qz_I h 193 (rz_lets (rz_b h) (qz_I h 722 (3 : Int).toNat - (qz_I h 721 (3 : Int).toNat + 1)).toNat (qz_I h 721 (3 : Int).toNat + 1)).toNat)]) rfl ?_
          refine ez_icmp rfl rfl ⟨by omega, by omega⟩ ⟨by omega, by omega⟩ (fun (c16 : (qz_I h 193 (rz_lets (rz_b h) (qz_I h 722 (3 : Int).toNat - (qz_I h 721 (3 : Int).toNat + 1)).toNat (qz_I h 721 (3 : Int).toNat + 1)).toNat) = (62)) => ?_) (fun (c16 : ¬((qz_I h 193 (rz_lets (rz_b h) (qz_I h 722 (3 : Int).toNat - (qz_I h 721 (3 : Int).toNat + 1)).toNat (qz_I h 721 (3 : Int).toNat + 1)).toNat) = (62))) => ?_)
          · skip
            refine ez_go (n := 2) (pc' := 74) (L' := [(3, .inl (rz_lets (rz_b h) (qz_I h 722 (3 : Int).toNat - (qz_I h 721 (3 : Int).toNat + 1)).toNat (qz_I h 721 (3 : Int).toNat + 1))), (2, .inl (qz_I h 721 (3 : Int).toNat)), (0, .inr (.inr (some (720)))), (1, .inr (.inr (some (r))))]) (st' := [.inl (1), .inr (.inr (some (r)))]) rfl ?_
            refine ez_pf hB tr rfl rfl tq_3 rfl rfl rfl rfl (ez_vdI rfl rfl (by omega) (by omega)) (fun hB17 w18 => ?_)
            refine ez_go (n := 4) (pc' := 81) (L' := [(2, .inl ((rz_lets (rz_b h) (qz_I h 722 (3 : Int).toNat - (qz_I h 721 (3 : Int).toNat + 1)).toNat (qz_I h 721 (3 : Int).toNat + 1)) + (1))), (3, .inl (rz_lets (rz_b h) (qz_I h 722 (3 : Int).toNat - (qz_I h 721 (3 : Int).toNat + 1)).toNat (qz_I h 721 (3 : Int).toNat + 1))), (0, .inr (.inr (some (720)))), (1, .inr (.inr (some (r))))]) (st' := []) rfl ?_
            refine ez_less [(2, .inl ((rz_lets (rz_b h) (qz_I h 722 (3 : Int).toNat - (qz_I h 721 (3 : Int).toNat + 1)).toNat (qz_I h 721 (3 : Int).toNat + 1)) + (1))), (0, .inr (.inr (some (720)))), (1, .inr (.inr (some (r))))] rfl ⟨rfl, rfl, rfl, trivial⟩ ?_
            have hrl : r < h.1 := dz_here_lt (hB.1 r (by rw [tr]; decide)).1
            have hf1 : ez_fr (ez_one r) h (dz_put h r 4 (ez_v (.inl (1)))) := (ez_fr.refl (ez_one r) h).put (show Nat.beq r r = true from Nat.beq_refl r) _ _
            have hb1 := rz_b_fr hf1 (rz_ne t193 tr rfl)
            have ht1 : rz_t (dz_put h r 4 (ez_v (.inl (1)))) 3 = rz_t h 3 := hf1.I (rz_ne t722 tr rfl) _
            have hdb : rz_db (rz_b h) (rz_f h 3) (rz_t h 3) = some (1, rz_lets (rz_b h) (rz_t h 3 - (rz_f h 3 + 1)).toNat (rz_f h 3 + 1) + 1) := by unfold rz_db; rw [if_pos (by show qz_I h 193 (qz_I h 721 (3 : Int).toNat).toNat = 60; omega), if_neg (by show ¬(rz_lets (rz_b h) (qz_I h 722 (3 : Int).toNat - (qz_I h 721 (3 : Int).toNat + 1)).toNat (qz_I h 721 (3 : Int).toNat + 1) = qz_I h 721 (3 : Int).toNat + 1 ∨ rz_lets (rz_b h) (qz_I h 722 (3 : Int).toNat - (qz_I h 721 (3 : Int).toNat + 1)).toNat (qz_I h 721 (3 : Int).toNat + 1) = qz_I h 722 (3 : Int).toNat ∨ qz_I h 193 (rz_lets (rz_b h) (qz_I h 722 (3 : Int).toNat - (qz_I h 721 (3 : Int).toNat + 1)).toNat (qz_I h 721 (3 : Int).toNat + 1)).toNat ≠ 62); omega)]
            refine rd_readDecomposition_b hB17 t720 t193 tr hf1 hrl (by omega) (by rw [ht1]; unfold rz_t; omega) hr1 hr2 (fun g τ1 vs a1 a2 a3 a4 a5 a6 a7 a8 => k1 g τ1 vs 1 _ _ e hdb a1 a2 a3 (by rw [hb1, ht1] at a4; exact a4) (by rw [hb1, ht1] at a5; exact a5) a6 a7 (by rw [a8 4 (by decide), w18, if_pos rfl]; rfl) (fun j j1 j2 => (a8 j j1).trans (ez_put_I (fun w => j2 w.2)))) (fun g τ1 a1 a2 a3 => k0 g τ1 a1 a2 e (Or.inr ⟨1, _, hdb, by rw [hb1, ht1] at a3; exact a3⟩))
          · skip
            refine ez_go (n := 1) (pc' := 71) (L' := [(3, .inl (rz_lets (rz_b h) (qz_I h 722 (3 : Int).toNat - (qz_I h 721 (3 : Int).toNat + 1)).toNat (qz_I h 721 (3 : Int).toNat + 1))), (2, .inl (qz_I h 721 (3 : Int).toNat)), (0, .inr (.inr (some (720)))), (1, .inr (.inr (some (r))))]) (st' := [.inl (0)]) rfl ?_
            exact ez_retZ rfl rfl (by decide) (k0 h τ hB ⟨fun _ _ => ⟨rfl, fun _ => rfl⟩, ⟨Nat.le_refl _, Nat.le_add_right _ _⟩, Nat.le_refl _, Nat.le_add_right _ _⟩ e (Or.inl (by unfold rz_db; rw [if_pos (by show qz_I h 193 (qz_I h 721 (3 : Int).toNat).toNat = 60; omega), if_pos (by show rz_lets (rz_b h) (qz_I h 722 (3 : Int).toNat - (qz_I h 721 (3 : Int).toNat + 1)).toNat (qz_I h 721 (3 : Int).toNat + 1) = qz_I h 721 (3 : Int).toNat + 1 ∨ rz_lets (rz_b h) (qz_I h 722 (3 : Int).toNat - (qz_I h 721 (3 : Int).toNat + 1)).toNat (qz_I h 721 (3 : Int).toNat + 1) = qz_I h 722 (3 : Int).toNat ∨ qz_I h 193 (rz_lets (rz_b h) (qz_I h 722 (3 : Int).toNat - (qz_I h 721 (3 : Int).toNat + 1)).toNat (qz_I h 721 (3 : Int).toNat + 1)).toNat ≠ 62; omega)])))

end EzRd8
