/-! The reader of the class, functionally, VII: DECOMPOSITIONS. (Written by wip/p2/py/pv8.py.) -/
/-- where the ROW of a decomposition begins, and whether it is a compatible one -/
noncomputable def rz_db (b : Int → Int) (s t : Int) : Option (Int × Int) := if b s = 60 then (if rz_lets b (t - (s + 1)).toNat (s + 1) = s + 1 ∨ rz_lets b (t - (s + 1)).toNat (s + 1) = t ∨ b (rz_lets b (t - (s + 1)).toNat (s + 1)) ≠ 62 then none else some (1, rz_lets b (t - (s + 1)).toNat (s + 1) + 1)) else some (0, s)
/-- a ROW of at most m POINTS from s to t -/
noncomputable def rz_rw (b : Int → Int) (m : Int) (s t : Int) : Option (List Int) := if 1 ≤ rz_ct b s (t - s).toNat s ∧ ((rz_ct b s (t - s).toNat s : Nat) : Int) ≤ m then rz_row b (rz_ct b s (t - s).toNat s) s t else none
/-- cells more, and one that was written -/
def ez_xr (τ : Nat → Nat) (h : cz_H) (τ' : Nat → Nat) (g : cz_H) (r dc ds : Nat) : Prop := (∀ q, τ q ≠ 0 → τ' q = τ q ∧ (q ≠ r → g.2.2 q = h.2.2 q)) ∧ (h.1 ≤ g.1 ∧ g.1 ≤ h.1 + dc) ∧ (h.2.1 ≤ g.2.1 ∧ g.2.1 ≤ h.2.1 + ds)
theorem ez_xr.I {τ τ' : Nat → Nat} {h g : cz_H} {r dc ds : Nat} (hx : ez_xr τ h τ' g r dc ds) {q : Nat} (hq : τ q ≠ 0) (hr : q ≠ r) (j : Nat) : qz_I g q j = qz_I h q j := by unfold qz_I; rw [(hx.1 q hq).2 hr]
theorem ez_xr_of {τ τ' : Nat → Nat} {h h1 g g1 : cz_H} {r dc ds : Nat} (a : ez_fr (ez_one r) h h1) (b : ez_xt τ h1 τ' g dc ds) (c : ez_fr (ez_one r) g g1) : ez_xr τ h τ' g1 r dc ds := by
  refine ⟨fun q hq => ⟨(b.1 q hq).1, fun hr => ?_⟩, ?_, ?_⟩
  · have e : ez_one r q = false := by unfold ez_one; exact dz_beq_ne hr
    rw [c.2.2 q e, (b.1 q hq).2, a.2.2 q e]
  · rw [c.1, ← a.1]; exact b.2.1
  · rw [c.2.1, ← a.2.1]; exact b.2.2
section EzRd8
variable {d : Nat} {h : cz_H} {τ : Nat → Nat} {Q : cz_F → Prop} {r : Nat}
theorem rd_readDecomposition_b {h0 : cz_H} {bg : Int} (hB : ez_B τ h) (t720 : τ 720 = 52) (t193 : τ 193 = 45) (tr : τ r = 3) (hf : ez_fr (ez_one r) h0 h) (hrl : r < h.1) (b0 : 0 ≤ bg) (b1 : bg ≤ rz_t h 3) (hr1 : h.1 + 1 ≤ 600192) (hr2 : h.2.1 + 18 ≤ 7302232) (k1 : ∀ g τ1 vs, ez_B τ1 g → ez_xr τ h0 τ1 g r 1 18 → τ1 h.1 = 5 → rz_rw (rz_b h) 18 bg (rz_t h 3) = some vs → qz_N g h.1 = ((rz_ct (rz_b h) bg (rz_t h 3 - bg).toNat bg : Nat) : Int) → (∀ (j : Nat) v, vs[j]? = some v → qz_I g h.1 j = v) → qz_I g r 3 = (h.1 : Int) + 1 → (∀ j, j ≠ 3 → qz_I g r j = qz_I h r j) → Q (.inl (some (ez_v (.inl 1))), g)) (k0 : ∀ g τ1, ez_B τ1 g → ez_xr τ h0 τ1 g r 1 18 → rz_rw (rz_b h) 18 bg (rz_t h 3) = none → Q (.inl (some (ez_v (.inl 0))), g)) : ez_W (d + 3) cm_162 81 [(2, .inl (bg)), (0, .inr (.inr (some (720)))), (1, .inr (.inr (some (r))))] [] h Q := by
  unfold rz_t at b1
  refine ez_go (n := 4) (pc' := 85) (L' := [(2, .inl (bg)), (0, .inr (.inr (some (720)))), (1, .inr (.inr (some (r))))]) (st' := [.inr (.inr (some (720))), .inl (bg), .inr (.inr (some (720))), .inr (.inr (some (r)))]) rfl ?_
  refine ez_gC (p := 722) (tg := 54) hB t720 rfl rfl tq_52 rfl rfl (fun (t722 : _ = 54) => ?_)
  refine ez_go (n := 1) (pc' := 89) (L' := [(2, .inl (bg)), (0, .inr (.inr (some (720)))), (1, .inr (.inr (some (r))))]) (st' := [.inl (3), .inr (.inr (some (722))), .inl (bg), .inr (.inr (some (720))), .inr (.inr (some (r)))]) rfl ?_
  have n2 : 7 ≤ qz_N h 722 ∧ qz_N h 722 ≤ 7 := ez_len hB t722 tq_54 rfl
  refine ez_aI hB t722 rfl tq_54 rfl rfl (by omega) (by omega) (fun (b1 : 0 ≤ qz_I h 722 (3 : Int).toNat) (b1' : qz_I h 722 (3 : Int).toNat ≤ 4096) => ?_)
  refine ez_go (n := 1) (pc' := 92) (L' := [(2, .inl (bg)), (0, .inr (.inr (some (720)))), (1, .inr (.inr (some (r))))]) (st' := [.inl (18), .inl (qz_I h 722 (3 : Int).toNat), .inl (bg), .inr (.inr (some (720))), .inr (.inr (some (r)))]) rfl ?_
  refine ez_cv hB t720 rfl rfl rfl tq_52 rfl rfl rfl (rd_readRow hB t720 t193 (by omega) (by omega) (by omega) (by omega) (by omega) hr1 hr2 (fun g τ1 hB1 hx hn => ez_KA ?_) (fun g τ1 vs hB1 hx up hc1 hc2 hrow hN hel => ez_KA ?_))
  · skip
    have ur : τ1 r = 3 := (hx.1 r (by rw [tr]; decide)).1.trans tr
    have ivN : (0 : Int) ≤ 0 := by omega
    refine ez_pf hB1 ur rfl rfl tq_3 rfl rfl rfl rfl (ez_vdN rfl) (fun hB3 w4 => ?_)
    refine ez_go (n := 1) (pc' := 99) (L' := [(2, .inl (bg)), (0, .inr (.inr (some (720)))), (1, .inr (.inr (some (r))))]) (st' := [.inr (.inr (some (r)))]) rfl ?_
    refine ez_gN hB3 ur rfl rfl tq_3 rfl rfl (fun (t5 : qz_I (dz_put g r 3 (ez_v (.inr (.inr none)))) r 3 = 0) => ?_) (fun (t5 : _ = 5) (t5' : 1 ≤ qz_I (dz_put g r 3 (ez_v (.inr (.inr none)))) r 3) => ?_)
    · skip
      refine ez_null0 rfl rfl ?_
      refine ez_go (n := 1) (pc' := 110) (L' := [(2, .inl (bg)), (0, .inr (.inr (some (720)))), (1, .inr (.inr (some (r))))]) (st' := [.inl (0)]) rfl ?_
      exact ez_retZ rfl rfl (by decide) (k0 _ τ1 hB3 (ez_xr_of hf hx ((ez_fr.refl (ez_one r) g).put (show Nat.beq r r = true from Nat.beq_refl r) _ _)) (by unfold rz_rw; rcases hn with hn | hn; (· rw [if_neg hn]); (· split; (· exact hn); (· rfl))))
    · skip
      refine ez_null1 rfl ?_
      refine ez_go (n := 2) (pc' := 110) (L' := [(2, .inl (bg)), (0, .inr (.inr (some (720)))), (1, .inr (.inr (some (r))))]) (st' := [.inl (1)]) rfl ?_
      exact ez_retZ rfl rfl (by decide) (k1 _ τ1 vs hB3 (ez_xr_of hf hx ((ez_fr.refl (ez_one r) g).put (show Nat.beq r r = true from Nat.beq_refl r) _ _)) up (by unfold rz_rw; rw [if_pos ⟨hc1, hc2⟩]; exact hrow) hN (fun j v hj => by rw [ez_put_I (fun w => absurd w.1 (Nat.ne_of_gt hrl))]; exact hel j v hj) (by rw [w4]; rfl) (fun j hj => by rw [ez_put_I (fun w => hj w.2)]; exact hx.I (by rw [tr]; decide) _))
  · skip
    have ur : τ1 r = 3 := (hx.1 r (by rw [tr]; decide)).1.trans tr
    have hlt : (h.1 : Int) + 1 ≤ 1000000 := by omega
    refine ez_pf hB1 ur rfl rfl tq_3 rfl rfl rfl rfl (ez_vdR rfl up (by omega) (by omega)) (fun hB6 w7 => ?_)
    refine ez_go (n := 1) (pc' := 99) (L' := [(2, .inl (bg)), (0, .inr (.inr (some (720)))), (1, .inr (.inr (some (r))))]) (st' := [.inr (.inr (some (r)))]) rfl ?_
    refine ez_gN hB6 ur rfl rfl tq_3 rfl rfl (fun (t8 : qz_I (dz_put g r 3 (ez_v (.inr (.inr (some (h.1)))))) r 3 = 0) => ?_) (fun (t8 : _ = 5) (t8' : 1 ≤ qz_I (dz_put g r 3 (ez_v (.inr (.inr (some (h.1)))))) r 3) => ?_)
    · skip
      refine ez_null0 rfl rfl ?_
      refine ez_go (n := 1) (pc' := 110) (L' := [(2, .inl (bg)), (0, .inr (.inr (some (720)))), (1, .inr (.inr (some (r))))]) (st' := [.inl (0)]) rfl ?_
      exact ez_retZ rfl rfl (by decide) (k0 _ τ1 hB6 (ez_xr_of hf hx ((ez_fr.refl (ez_one r) g).put (show Nat.beq r r = true from Nat.beq_refl r) _ _)) (by unfold rz_rw; rcases hn with hn | hn; (· rw [if_neg hn]); (· split; (· exact hn); (· rfl))))
    · skip
      refine ez_null1 rfl ?_
      refine ez_go (n := 2) (pc' := 110) (L' := [(2, .inl (bg)), (0, .inr (.inr (some (720)))), (1, .inr (.inr (some (r))))]) (st' := [.inl (1)]) rfl ?_
      exact ez_retZ rfl rfl (by decide) (k1 _ τ1 vs hB6 (ez_xr_of hf hx ((ez_fr.refl (ez_one r) g).put (show Nat.beq r r = true from Nat.beq_refl r) _ _)) up (by unfold rz_rw; rw [if_pos ⟨hc1, hc2⟩]; exact hrow) hN (fun j v hj => by rw [ez_put_I (fun w => absurd w.1 (Nat.ne_of_gt hrl))]; exact hel j v hj) (by rw [w7]; rfl) (fun j hj => by rw [ez_put_I (fun w => hj w.2)]; exact hx.I (by rw [tr]; decide) _))

end EzRd8
