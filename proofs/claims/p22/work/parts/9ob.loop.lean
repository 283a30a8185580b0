/-! The law: the loop. (Written by wip/p2/py/pv110.py.) -/
/-- between calls -/
def LI (τ : Nat → Nat) (h : cz_H) (i : Int) : Prop := dz_B tz_T (qz_X rR) τ h ∧ qz_I h 192 1 = qz_I h 770 2 ∧ psi h + 45 * qz_I h 192 1 ≤ 320000 + 172 * i ∧ phc h + 360 * qz_I h 192 1 ≤ 52000 + 1211 * i ∧ lnb h i
theorem LI_step {τ τ2 : Nat → Nat} {h g : cz_H} {i : Int} (L : LI τ h i) (hb : dz_B tz_T (qz_X rR) τ2 g) (s : stp h g) : LI τ2 g (i + 6) := by
  obtain ⟨-, -, l3, l4, l5⟩ := L
  obtain ⟨-, s2, s3, s4, s5⟩ := s
  exact ⟨hb, s2, by omega, by omega, s5 i l5⟩
theorem LI_room {τ : Nat → Nat} {h : cz_H} {i : Int} (L : LI τ h i) (i1 : i ≤ 3066) : h.1 ≤ 100000 ∧ (h.2.1 : Int) ≤ 1029900 + 2 * qz_N h (sk h) + 2 * qz_N h (gel h) + 2 * qz_N h (gfo h) + 2 * qz_N h (got h) + 2 * qz_N h (gke h) ∧ h.2.1 ≤ 4500000 := by
  obtain ⟨hb, -, l3, l4, l5⟩ := L
  have hB := dz_ezB hb
  have hX := hb.2.1.1
  have t770 : τ 770 = 75 := hX 770 (by decide)
  have b1 : 0 ≤ qz_I h 192 1 ∧ qz_I h 192 1 ≤ 4096 := ez_fB (cl := 0) hB (hX 192 (by decide)) tq_44 rfl rfl (by decide)
  obtain ⟨-, t24, t35, t38, t39, t40⟩ := ez_tg5 hB t770
  have tt := ez_tls hB t770
  have td := (ez_tdb hB t770).2
  have n1 : 1024 ≤ qz_N h (po h) ∧ qz_N h (po h) ≤ 77100 := ez_len hB tt.2 tq_17 rfl
  have n2 : 64 ≤ qz_N h (ls h) ∧ qz_N h (ls h) ≤ 4096 := ez_len hB tt.1 tq_18 rfl
  have n3 : 64 ≤ qz_N h (bw h) ∧ qz_N h (bw h) ≤ 4096 := ez_len hB td tq_20 rfl
  have n4 : 64 ≤ qz_N h (sk h) ∧ qz_N h (sk h) ≤ 18700 := ez_len hB t24 tq_21 rfl
  have n5 : 1024 ≤ qz_N h (gel h) ∧ qz_N h (gel h) ≤ 300000 := ez_len hB t35 tq_23 rfl
  have n6 : 1024 ≤ qz_N h (gfo h) ∧ qz_N h (gfo h) ≤ 200000 := ez_len hB t38 tq_24 rfl
  have n7 : 1024 ≤ qz_N h (got h) ∧ qz_N h (got h) ≤ 600100 := ez_len hB t39 tq_25 rfl
  have n8 : 1024 ≤ qz_N h (gke h) ∧ qz_N h (gke h) ≤ 600100 := ez_len hB t40 tq_25 rfl
  unfold psi at l3
  unfold phc at l4
  exact ⟨by omega, by omega, by omega⟩
section EzLo
variable {d : Nat} {Q : cz_F → Prop}
/-- a call by its number -/
theorem lw_call {τ : Nat → Nat} {h : cz_H} {i : Int} (L : LI τ h i) (i0 : 0 ≤ i) (i1 : i + 6 ≤ qz_N h 0) (a : Int) (a0 : 0 ≤ a) (a1 : a ≤ 31) (k : ∀ τ2 g, LI τ2 g (i + 6) → qz_N g 0 = qz_N h 0 → ez_W (d + 18) cm_0 1213 [(4, .inl (i)), (0, .inr (.inr (some (0)))), (1, .inr (.inr (some (192)))), (2, .inr (.inr (some (770)))), (3, .inr (.inr (some (805))))] [] g Q) : ez_W (d + 18) cm_0 40 [(4, .inl (i)), (0, .inr (.inr (some (0)))), (1, .inr (.inr (some (192)))), (2, .inr (.inr (some (770)))), (3, .inr (.inr (some (805))))] [.inl a] h Q := by
  have hb := L.1
  have hn := L.2.1
  have l5 := L.2.2.2.2
  have hB := dz_ezB hb
  have hX := hb.2.1.1
  have t0 : τ 0 = 34 := hX 0 (by decide)
  have n0 : 0 ≤ qz_N h 0 ∧ qz_N h 0 ≤ 3072 := ez_len hB t0 tq_34 rfl
  have b1 : 0 ≤ qz_I h 192 1 ∧ qz_I h 192 1 ≤ 4096 := ez_fB (cl := 0) hB (hX 192 (by decide)) tq_44 rfl rfl (by decide)
  obtain ⟨r1, r2, r3⟩ := LI_room L (by omega)
  have K : ∀ τ2 g, dz_B tz_T (qz_X rR) τ2 g → stp h g → ez_W (d + 18) cm_0 1213 [(4, .inl (i)), (0, .inr (.inr (some (0)))), (1, .inr (.inr (some (192)))), (2, .inr (.inr (some (770)))), (3, .inr (.inr (some (805))))] [] g Q := fun τ2 g b s => k τ2 g (LI_step L b s) s.1
  unfold lnb at l5
  have hw : a = 0 ∨ a = 1 ∨ a = 2 ∨ a = 3 ∨ a = 4 ∨ a = 5 ∨ a = 6 ∨ a = 7 ∨ a = 8 ∨ a = 9 ∨ a = 10 ∨ a = 11 ∨ a = 12 ∨ a = 13 ∨ a = 14 ∨ a = 15 ∨ a = 16 ∨ a = 17 ∨ a = 18 ∨ a = 19 ∨ a = 20 ∨ a = 21 ∨ a = 22 ∨ a = 23 ∨ a = 24 ∨ a = 25 ∨ a = 26 ∨ a = 27 ∨ a = 28 ∨ a = 29 ∨ a = 30 ∨ a = 31 := by omega
  rcases hw with e | e | e | e | e | e | e | e | e | e | e | e | e | e | e | e | e | e | e | e | e | e | e | e | e | e | e | e | e | e | e | e
  · subst e
    refine ez_sw (t := 148) rfl ⟨by decide, by decide⟩ ⟨_, rfl, rfl⟩ ?_
    refine lw_feed (d := d + 7) (n := qz_I h 192 1) hb t0 rfl hn.symm i0 i1 (by omega) (by omega) (by omega) (fun w g gb g1 g2 gc => K τ g gb ?_) (fun w g gb gc => K τ g gb ?_)
    · obtain ⟨c1, c2, c3, c4⟩ := gc
      have t770 : τ 770 = 75 := hX 770 (by decide)
      have cc : ∀ q tg, τ q = tg → (!(Nat.beq tg 44) && (!(Nat.beq tg 45) && (!(Nat.beq tg 35) && (!(Nat.beq tg 75) && !(Nat.beq tg 76))))) = true → g.2.2 q = h.2.2 q := fun q tg hq ht => by
        simp only [Bool.and_eq_true, Bool.not_eq_true'] at ht
        have nq : ∀ p, tz_ex p ≠ 0 → Nat.beq tg (tz_ex p) = false → q ≠ p := fun p w1 w2 e => by rw [e, hX p w1] at hq; rw [hq, Nat.beq_refl] at w2; cases w2
        exact c1 q (nq 192 (by decide) ht.1) (nq 193 (by decide) ht.2.1) (nq 805 (by decide) ht.2.2.1) (nq 770 (by decide) ht.2.2.2.1) (nq 771 (by decide) ht.2.2.2.2)
      obtain ⟨a1, a2, a3, a4, a5, a6⟩ := n6 (g := g) hB t770 (fun j hj => c2 j (by omega) (by omega)) (fun q q1 q2 q3 => by
        have : τ q = 20 ∨ τ q = 21 ∨ τ q = 23 ∨ τ q = 24 ∨ τ q = 25 := by omega
        rcases this with e | e | e | e | e <;> exact cc q _ e rfl)
      obtain ⟨a7, a8⟩ := n2 (g := g) hB t770 (c2 9 (by decide) (by decide)) (c2 11 (by decide) (by decide)) (fun q hq => by rcases hq with e | e <;> exact cc q _ e rfl)
      have i5 : qz_I g 202 5 = qz_I h 202 5 := by unfold qz_I; rw [cc 202 48 (hX 202 (by decide)) rfl]
      have i12 : qz_I g 770 12 = qz_I h 770 12 := c2 12 (by decide) (by decide)
      refine ⟨by unfold qz_N; rw [cc 0 34 t0 rfl], by rw [g1, g2], ?_, ?_, fun k hk => ?_⟩
      · unfold psi; rw [a1, a2, a3, a4, a5, a6, a7, a8, g1, c4]; omega
      · unfold phc; rw [a1, a2, a3, a4, a5, a6, a7, a8, g1, c3]; omega
      · unfold lnb at hk ⊢; rw [g1, i5, i12]; omega
    · obtain ⟨c1, c2, c3, c4⟩ := gc
      exact stp_x hX hB hn c1 c2 (by omega) (by omega)
  · subst e
    refine ez_sw (t := 224) rfl ⟨by decide, by decide⟩ ⟨_, rfl, rfl⟩ ?_
    exact lw_q lwt_1 lwh_1 (by omega) hb i0 i1 (by omega) hn (by omega) r2 (fun τ2 g a1 a2 a3 a4 a5 a6 a7 a8 => K τ2 g a1 (stp_q a2 a3 a4 a5 a6 a7 a8))
  · subst e
    refine ez_sw (t := 252) rfl ⟨by decide, by decide⟩ ⟨_, rfl, rfl⟩ ?_
    exact lw_line (d := d + 7) hb hn (by omega) (by unfold lc; omega) i0 i1 (by omega) (by omega) (by omega) K
  · subst e
    refine ez_sw (t := 280) rfl ⟨by decide, by decide⟩ ⟨_, rfl, rfl⟩ ?_
    exact lw_seal (d := d + 7) hb hn (by unfold lc; omega) (by omega) (by omega) K
  · subst e
    refine ez_sw (t := 296) rfl ⟨by decide, by decide⟩ ⟨_, rfl, rfl⟩ ?_
    exact lw_reset (d := d + 7) hb hn K
  · subst e
    refine ez_sw (t := 309) rfl ⟨by decide, by decide⟩ ⟨_, rfl, rfl⟩ ?_
    exact lw_text (d := d + 7) hb hn i0 i1 (by omega) (by omega) (by omega) K
  · subst e
    refine ez_sw (t := 337) rfl ⟨by decide, by decide⟩ ⟨_, rfl, rfl⟩ ?_
    exact lw_add (d := d + 7) hb hn i0 i1 (by omega) (by omega) (by omega) K
  · subst e
    refine ez_sw (t := 377) rfl ⟨by decide, by decide⟩ ⟨_, rfl, rfl⟩ ?_
    exact lw_part (d := d + 7) hb hn i0 i1 (by omega) (by omega) (by omega) K
  · subst e
    refine ez_sw (t := 441) rfl ⟨by decide, by decide⟩ ⟨_, rfl, rfl⟩ ?_
    exact lw_q lwt_8 lwh_8 (by omega) hb i0 i1 (by omega) hn (by omega) r2 (fun τ2 g a1 a2 a3 a4 a5 a6 a7 a8 => K τ2 g a1 (stp_q a2 a3 a4 a5 a6 a7 a8))
  · subst e
    refine ez_sw (t := 481) rfl ⟨by decide, by decide⟩ ⟨_, rfl, rfl⟩ ?_
    exact lw_q lwt_9 lwh_9 (by omega) hb i0 i1 (by omega) hn (by omega) r2 (fun τ2 g a1 a2 a3 a4 a5 a6 a7 a8 => K τ2 g a1 (stp_q a2 a3 a4 a5 a6 a7 a8))
  · subst e
    refine ez_sw (t := 509) rfl ⟨by decide, by decide⟩ ⟨_, rfl, rfl⟩ ?_
    exact lw_normal (d := d + 7) hb hn i0 i1 (by omega) (by omega) (by omega) K
  · subst e
    refine ez_sw (t := 561) rfl ⟨by decide, by decide⟩ ⟨_, rfl, rfl⟩ ?_
    exact lw_q lwt_11 lwh_11 (by omega) hb i0 i1 (by omega) hn (by omega) r2 (fun τ2 g a1 a2 a3 a4 a5 a6 a7 a8 => K τ2 g a1 (stp_q a2 a3 a4 a5 a6 a7 a8))
  · subst e
    refine ez_sw (t := 601) rfl ⟨by decide, by decide⟩ ⟨_, rfl, rfl⟩ ?_
    exact lw_join (d := d + 7) hb hn i0 i1 (by omega) (by omega) (by omega) K
  · subst e
    refine ez_sw (t := 665) rfl ⟨by decide, by decide⟩ ⟨_, rfl, rfl⟩ ?_
    exact lw_change (d := d + 7) hb hn i0 i1 (by omega) (by omega) (by omega) K
  · subst e
    refine ez_sw (t := 729) rfl ⟨by decide, by decide⟩ ⟨_, rfl, rfl⟩ ?_
    exact lw_q lwt_14 lwh_14 (by omega) hb i0 i1 (by omega) hn (by omega) r2 (fun τ2 g a1 a2 a3 a4 a5 a6 a7 a8 => K τ2 g a1 (stp_q a2 a3 a4 a5 a6 a7 a8))
  · subst e
    refine ez_sw (t := 781) rfl ⟨by decide, by decide⟩ ⟨_, rfl, rfl⟩ ?_
    exact lw_edge (d := d + 7) hb hn i0 i1 (by omega) (by omega) (by omega) K
  · subst e
    refine ez_sw (t := 833) rfl ⟨by decide, by decide⟩ ⟨_, rfl, rfl⟩ ?_
    exact lw_next (d := d + 7) hb hn i0 i1 (by omega) (by omega) (by omega) K
  · subst e
    refine ez_sw (t := 913) rfl ⟨by decide, by decide⟩ ⟨_, rfl, rfl⟩ ?_
    exact lw_q lwt_17 lwh_17 (by omega) hb i0 i1 (by omega) hn (by omega) r2 (fun τ2 g a1 a2 a3 a4 a5 a6 a7 a8 => K τ2 g a1 (stp_q a2 a3 a4 a5 a6 a7 a8))
  · subst e
    refine ez_sw (t := 981) rfl ⟨by decide, by decide⟩ ⟨_, rfl, rfl⟩ ?_
    exact lw_q lwt_18 lwh_18 (by omega) hb i0 i1 (by omega) hn (by omega) r2 (fun τ2 g a1 a2 a3 a4 a5 a6 a7 a8 => K τ2 g a1 (stp_q a2 a3 a4 a5 a6 a7 a8))
  · subst e
    refine ez_sw (t := 1061) rfl ⟨by decide, by decide⟩ ⟨_, rfl, rfl⟩ ?_
    exact lw_q lwt_19 lwh_19 (by omega) hb i0 i1 (by omega) hn (by omega) r2 (fun τ2 g a1 a2 a3 a4 a5 a6 a7 a8 => K τ2 g a1 (stp_q a2 a3 a4 a5 a6 a7 a8))
  · subst e
    refine ez_sw (t := 1101) rfl ⟨by decide, by decide⟩ ⟨_, rfl, rfl⟩ ?_
    exact lw_bytes (d := d + 7) hb hn i0 i1 (by omega) (by omega) (by omega) K
  · subst e
    refine ez_sw (t := 1157) rfl ⟨by decide, by decide⟩ ⟨_, rfl, rfl⟩ ?_
    exact lw_q lwt_21 lwh_21 (by omega) hb i0 i1 (by omega) hn (by omega) r2 (fun τ2 g a1 a2 a3 a4 a5 a6 a7 a8 => K τ2 g a1 (stp_q a2 a3 a4 a5 a6 a7 a8))
  · subst e
    refine ez_sw (t := 1185) rfl ⟨by decide, by decide⟩ ⟨_, rfl, rfl⟩ ?_
    exact lw_q lwt_22 lwh_22 (by omega) hb i0 i1 (by omega) hn (by omega) r2 (fun τ2 g a1 a2 a3 a4 a5 a6 a7 a8 => K τ2 g a1 (stp_q a2 a3 a4 a5 a6 a7 a8))
  · subst e
    refine ez_sw (t := 1213) rfl ⟨by decide, by decide⟩ ⟨_, rfl, rfl⟩ ?_
    exact K τ h hb (stp_x hX hB hn (fun _ _ _ => rfl) (fun _ _ => rfl) (by omega) (by omega))
  · subst e
    refine ez_sw (t := 1213) rfl ⟨by decide, by decide⟩ ⟨_, rfl, rfl⟩ ?_
    exact K τ h hb (stp_x hX hB hn (fun _ _ _ => rfl) (fun _ _ => rfl) (by omega) (by omega))
  · subst e
    refine ez_sw (t := 1213) rfl ⟨by decide, by decide⟩ ⟨_, rfl, rfl⟩ ?_
    exact K τ h hb (stp_x hX hB hn (fun _ _ _ => rfl) (fun _ _ => rfl) (by omega) (by omega))
  · subst e
    refine ez_sw (t := 1213) rfl ⟨by decide, by decide⟩ ⟨_, rfl, rfl⟩ ?_
    exact K τ h hb (stp_x hX hB hn (fun _ _ _ => rfl) (fun _ _ => rfl) (by omega) (by omega))
  · subst e
    refine ez_sw (t := 1213) rfl ⟨by decide, by decide⟩ ⟨_, rfl, rfl⟩ ?_
    exact K τ h hb (stp_x hX hB hn (fun _ _ _ => rfl) (fun _ _ => rfl) (by omega) (by omega))
  · subst e
    refine ez_sw (t := 1213) rfl ⟨by decide, by decide⟩ ⟨_, rfl, rfl⟩ ?_
    exact K τ h hb (stp_x hX hB hn (fun _ _ _ => rfl) (fun _ _ => rfl) (by omega) (by omega))
  · subst e
    refine ez_sw (t := 1213) rfl ⟨by decide, by decide⟩ ⟨_, rfl, rfl⟩ ?_
    exact K τ h hb (stp_x hX hB hn (fun _ _ _ => rfl) (fun _ _ => rfl) (by omega) (by omega))
  · subst e
    refine ez_sw (t := 1213) rfl ⟨by decide, by decide⟩ ⟨_, rfl, rfl⟩ ?_
    exact K τ h hb (stp_x hX hB hn (fun _ _ _ => rfl) (fun _ _ => rfl) (by omega) (by omega))
  · subst e
    refine ez_sw (t := 1213) rfl ⟨by decide, by decide⟩ ⟨_, rfl, rfl⟩ ?_
    exact K τ h hb (stp_x hX hB hn (fun _ _ _ => rfl) (fun _ _ => rfl) (by omega) (by omega))
theorem lw_loop (kx : ∀ h, cz_room h 0 0 = true → Q (.inl (some (ez_v (.inl 1))), h)) : ∀ (n : Nat) (i : Int) (τ : Nat → Nat) (h : cz_H), (qz_N h 0 - i).toNat ≤ n → 0 ≤ i → i ≤ qz_N h 0 + 6 → LI τ h i → ez_W (d + 18) cm_0 23 [(4, .inl (i)), (0, .inr (.inr (some (0)))), (1, .inr (.inr (some (192)))), (2, .inr (.inr (some (770)))), (3, .inr (.inr (some (805))))] [] h Q := by
  intro n
  induction n using Nat.strongRecOn with
  | _ n ih0 =>
    intro i τ h hle i0 i9 L
    have hB := dz_ezB L.1
    have hX := L.1.2.1.1
    have t0 : τ 0 = 34 := hX 0 (by decide)
    have n0 : 0 ≤ qz_N h 0 ∧ qz_N h 0 ≤ 3072 := ez_len hB t0 tq_34 rfl
    refine ez_go (n := 2) (pc' := 26) (L' := [(4, .inl (i)), (0, .inr (.inr (some (0)))), (1, .inr (.inr (some (192)))), (2, .inr (.inr (some (770)))), (3, .inr (.inr (some (805))))]) (st' := [.inr (.inr (some (0))), .inl (i)]) rfl ?_
    refine ez_al hB t0 rfl tq_34 rfl (fun (b1 : 0 ≤ qz_N h 0) (b1' : qz_N h 0 ≤ 3072) => ?_)
    refine ez_go (n := 2) (pc' := 30) (L' := [(4, .inl (i)), (0, .inr (.inr (some (0)))), (1, .inr (.inr (some (192)))), (2, .inr (.inr (some (770)))), (3, .inr (.inr (some (805))))]) (st' := [.inl ((qz_N h 0) - (6)), .inl (i)]) rfl ?_
    refine ez_icmp rfl rfl ⟨by first | omega | exact (sz_i32 _).1, by first | omega | exact (sz_i32 _).2⟩ ⟨by first | omega | exact (sz_i32 _).1, by first | omega | exact (sz_i32 _).2⟩ (fun (c2 : ((qz_N h 0) - (6)) < (i)) => ?_) (fun (c2 : ¬(((qz_N h 0) - (6)) < (i))) => ?_)
    · skip
      refine ez_go (n := 1) (pc' := 1220) (L' := [(4, .inl (i)), (0, .inr (.inr (some (0)))), (1, .inr (.inr (some (192)))), (2, .inr (.inr (some (770)))), (3, .inr (.inr (some (805))))]) (st' := [.inl (1)]) rfl ?_
      exact ez_retZ rfl rfl (by decide) (kx h L.1.2.1.2.1)
    · skip
      refine ez_go (n := 2) (pc' := 36) (L' := [(4, .inl (i)), (0, .inr (.inr (some (0)))), (1, .inr (.inr (some (192)))), (2, .inr (.inr (some (770)))), (3, .inr (.inr (some (805))))]) (st' := [.inl (i), .inr (.inr (some (0)))]) rfl ?_
      have n4 : 0 ≤ qz_N h 0 ∧ qz_N h 0 ≤ 3072 := ez_len hB t0 tq_34 rfl
      refine ez_aI hB t0 rfl tq_34 rfl rfl (by omega) (by omega) (fun (b3 : -2147483648 ≤ qz_I h 0 (i).toNat) (b3' : qz_I h 0 (i).toNat ≤ 2147483647) => ?_)
      refine ez_go (n := 2) (pc' := 40) (L' := [(4, .inl (i)), (0, .inr (.inr (some (0)))), (1, .inr (.inr (some (192)))), (2, .inr (.inr (some (770)))), (3, .inr (.inr (some (805))))]) (st' := [.inl ((Int32.ofInt (qz_I h 0 (i).toNat) &&& Int32.ofInt (31)).toInt)]) rfl ?_
      have ab := dz_and_r (a := Int32.ofInt (qz_I h 0 (i).toNat)) (b := Int32.ofInt (31)) (by decide)
      have a31 : (Int32.ofInt (31)).toInt = 31 := by decide
      refine lw_call L i0 (by omega) _ (by omega) (by omega) (fun τ2 g L2 e2 => ?_)
      refine ez_go (n := 2) (pc' := 23) (L' := [(4, .inl (i + 6)), (0, .inr (.inr (some (0)))), (1, .inr (.inr (some (192)))), (2, .inr (.inr (some (770)))), (3, .inr (.inr (some (805))))]) (st' := []) rfl ?_
      exact ih0 (qz_N h 0 - (i + 6)).toNat (by omega) (i + 6) τ2 g (by rw [e2]; omega) (by omega) (by rw [e2]; omega) L2

end EzLo
/-! The constructors: a machine of few instructions whose cells lie in a tree, for the kernel to run. -/
/-- a cell: an array (type, length, what was written, the latest first), or an object -/
abbrev yC : Type := (Nat × Nat × List (Nat × cz_V)) ⊕ (Nat × List cz_V)
def yz_T : Nat → Type
  | 0 => yC
  | d + 1 => yz_T d × yz_T d
noncomputable def yz_tg (d : Nat) : yz_T d → Nat → yC := Nat.rec (motive := fun d => yz_T d → Nat → yC) (fun t _ => t) (fun d ih t i => bif Nat.beq (Nat.mod i 2) 0 then ih (Prod.fst (α := yz_T d) (β := yz_T d) t) (Nat.div i 2) else ih (Prod.snd (α := yz_T d) (β := yz_T d) t) (Nat.div i 2)) d
noncomputable def yz_ts (d : Nat) : yz_T d → Nat → yC → yz_T d := Nat.rec (motive := fun d => yz_T d → Nat → yC → yz_T d) (fun _ _ c => c) (fun d ih t i c => bif Nat.beq (Nat.mod i 2) 0 then Prod.mk (α := yz_T d) (β := yz_T d) (ih (Prod.fst (α := yz_T d) (β := yz_T d) t) (Nat.div i 2) c) (Prod.snd (α := yz_T d) (β := yz_T d) t) else Prod.mk (α := yz_T d) (β := yz_T d) (Prod.fst (α := yz_T d) (β := yz_T d) t) (ih (Prod.snd (α := yz_T d) (β := yz_T d) t) (Nat.div i 2) c)) d
noncomputable def yz_t0 : (d : Nat) → yz_T d
  | 0 => (.inr (99, []) : yC)
  | d + 1 => Prod.mk (α := yz_T d) (β := yz_T d) (yz_t0 d) (yz_t0 d)
theorem yz_beq_t {a b : Nat} (h : a = b) : Nat.beq a b = true := Nat.beq_eq.mpr h
theorem yz_beq_f {a b : Nat} (h : ¬ a = b) : Nat.beq a b = false := Bool.eq_false_iff.mpr (fun q => h (Nat.beq_eq.mp q))
theorem yz_tg_e {d : Nat} (t : yz_T (d + 1)) {j : Nat} (h : j % 2 = 0) : yz_tg (d + 1) t j = yz_tg d (Prod.fst (α := yz_T d) (β := yz_T d) t) (j / 2) := by
  show (bif Nat.beq (j % 2) 0 then yz_tg d (Prod.fst (α := yz_T d) (β := yz_T d) t) (j / 2) else yz_tg d (Prod.snd (α := yz_T d) (β := yz_T d) t) (j / 2)) = _
  rw [yz_beq_t h]; rfl
theorem yz_tg_o {d : Nat} (t : yz_T (d + 1)) {j : Nat} (h : ¬ j % 2 = 0) : yz_tg (d + 1) t j = yz_tg d (Prod.snd (α := yz_T d) (β := yz_T d) t) (j / 2) := by
  show (bif Nat.beq (j % 2) 0 then yz_tg d (Prod.fst (α := yz_T d) (β := yz_T d) t) (j / 2) else yz_tg d (Prod.snd (α := yz_T d) (β := yz_T d) t) (j / 2)) = _
  rw [yz_beq_f h]; rfl
theorem yz_ts_e {d : Nat} (t : yz_T (d + 1)) {i : Nat} (c : yC) (h : i % 2 = 0) : yz_ts (d + 1) t i c = Prod.mk (α := yz_T d) (β := yz_T d) (yz_ts d (Prod.fst (α := yz_T d) (β := yz_T d) t) (i / 2) c) (Prod.snd (α := yz_T d) (β := yz_T d) t) := by
  show (bif Nat.beq (i % 2) 0 then Prod.mk (α := yz_T d) (β := yz_T d) (yz_ts d (Prod.fst (α := yz_T d) (β := yz_T d) t) (i / 2) c) (Prod.snd (α := yz_T d) (β := yz_T d) t) else Prod.mk (α := yz_T d) (β := yz_T d) (Prod.fst (α := yz_T d) (β := yz_T d) t) (yz_ts d (Prod.snd (α := yz_T d) (β := yz_T d) t) (i / 2) c)) = _
  rw [yz_beq_t h]; rfl
theorem yz_ts_o {d : Nat} (t : yz_T (d + 1)) {i : Nat} (c : yC) (h : ¬ i % 2 = 0) : yz_ts (d + 1) t i c = Prod.mk (α := yz_T d) (β := yz_T d) (Prod.fst (α := yz_T d) (β := yz_T d) t) (yz_ts d (Prod.snd (α := yz_T d) (β := yz_T d) t) (i / 2) c) := by
  show (bif Nat.beq (i % 2) 0 then Prod.mk (α := yz_T d) (β := yz_T d) (yz_ts d (Prod.fst (α := yz_T d) (β := yz_T d) t) (i / 2) c) (Prod.snd (α := yz_T d) (β := yz_T d) t) else Prod.mk (α := yz_T d) (β := yz_T d) (Prod.fst (α := yz_T d) (β := yz_T d) t) (yz_ts d (Prod.snd (α := yz_T d) (β := yz_T d) t) (i / 2) c)) = _
  rw [yz_beq_f h]; rfl
theorem yz_tg_ts : ∀ (d : Nat) (t : yz_T d) (i j : Nat) (c : yC), i < 2 ^ d → j < 2 ^ d → yz_tg d (yz_ts d t i c) j = if i = j then c else yz_tg d t j
  | 0, t, i, j, c, hi, hj => by
    have h1 : i = 0 := by simpa using hi
    have h2 : j = 0 := by simpa using hj
    rw [h1, h2, if_pos rfl]
    rfl
  | d + 1, t, i, j, c, hi, hj => by
    have hi' : i / 2 < 2 ^ d := by rw [Nat.pow_succ] at hi; omega
    have hj' : j / 2 < 2 ^ d := by rw [Nat.pow_succ] at hj; omega
    by_cases mi : i % 2 = 0
    · rw [yz_ts_e t c mi]
      by_cases mj : j % 2 = 0
      · refine (yz_tg_e _ mj).trans ((yz_tg_ts d (Prod.fst (α := yz_T d) (β := yz_T d) t) (i / 2) (j / 2) c hi' hj').trans ?_)
        by_cases e : i = j
        · rw [if_pos e, if_pos (by rw [e])]
        · rw [if_neg e, if_neg (by omega)]
          exact (yz_tg_e t mj).symm
      · refine (yz_tg_o _ mj).trans ?_
        rw [if_neg (by omega)]
        exact (yz_tg_o t mj).symm
    · rw [yz_ts_o t c mi]
      by_cases mj : j % 2 = 0
      · refine (yz_tg_e _ mj).trans ?_
        rw [if_neg (by omega)]
        exact (yz_tg_e t mj).symm
      · refine (yz_tg_o _ mj).trans ((yz_tg_ts d (Prod.snd (α := yz_T d) (β := yz_T d) t) (i / 2) (j / 2) c hi' hj').trans ?_)
        by_cases e : i = j
        · rw [if_pos e, if_pos (by rw [e])]
        · rw [if_neg e, if_neg (by omega)]
          exact (yz_tg_o t mj).symm
/-- the next place (from 192 on), how many slots were made, the cells -/
abbrev yH : Type := Nat × Nat × yz_T 10
noncomputable def yzDf (t : Nat) : cz_V := match dz_nth cz_td t with
  | some y => cz_dflt y.1
  | none => .inl 0
noncomputable def yz_at (z : cz_V) (j : Nat) (ws : List (Nat × cz_V)) : cz_V := List.rec z (fun q _ ih => bif Nat.beq j q.1 then q.2 else ih) ws
theorem yz_at_c (z : cz_V) (k : Nat) (v : cz_V) (ws : List (Nat × cz_V)) : (fun j => yz_at z j ((k, v) :: ws)) = fun j => if j = k then v else yz_at z j ws := by
  funext j
  show (bif Nat.beq j k then v else yz_at z j ws) = _
  by_cases e : j = k
  · rw [if_pos e, yz_beq_t e]; rfl
  · rw [if_neg e, yz_beq_f e]; rfl
noncomputable def yz_e (c : yC) : cz_C := match c with
  | .inl q => .inl (q.1, q.2.1, fun j => yz_at (yzDf q.1) j q.2.2)
  | .inr q => .inr (.inl q)
noncomputable def yz_b (m : Nat → cz_C) (y : yH) : cz_H := (y.1, y.2.1, fun q => if q < 192 then m q else if q < 1216 then yz_e (yz_tg 10 y.2.2 (q - 192)) else .inr (.inr 9))
def yz_k (y : yH) : Prop := 192 ≤ y.1 ∧ y.1 ≤ 1216
noncomputable def yz_set (y : yH) (r : Nat) (c : yC) : yH := (y.1, y.2.1, yz_ts 10 y.2.2 (Nat.sub r 192) c)
noncomputable def yz_push (y : yH) (n : Nat) (c : yC) : yH := dz_fn (Nat.add y.1 1) (fun a => dz_fn (Nat.add y.2.1 n) (fun b => (a, b, yz_ts 10 y.2.2 (Nat.sub y.1 192) c)))
set_option maxRecDepth 20000 in
theorem yz_set_b {m : Nat → cz_C} {y : yH} {r : Nat} {c : yC} (h1 : 192 ≤ r) (h2 : r < 1216) : cz_setc (yz_b m y) r (yz_e c) = yz_b m (yz_set y r c) := by
  unfold cz_setc yz_b yz_set
  refine Prod.ext rfl (Prod.ext rfl ?_)
  funext q
  show (if q = r then yz_e c else if q < 192 then m q else if q < 1216 then yz_e (yz_tg 10 y.2.2 (q - 192)) else _) = if q < 192 then m q else if q < 1216 then yz_e (yz_tg 10 (yz_ts 10 y.2.2 (r - 192) c) (q - 192)) else _
  by_cases e : q = r
  · subst e
    rw [if_pos rfl, if_neg (by omega), if_pos h2, yz_tg_ts 10 _ _ _ _ (by show _ < 1024; omega) (by show _ < 1024; omega), if_pos rfl]
  · rw [if_neg e]
    by_cases a : q < 192
    · rw [if_pos a, if_pos a]
    · rw [if_neg a, if_neg a]
      by_cases b : q < 1216
      · rw [if_pos b, if_pos b, yz_tg_ts 10 _ _ _ _ (by show _ < 1024; omega) (by show _ < 1024; omega), if_neg (by omega)]
      · rw [if_neg b, if_neg b]
set_option maxRecDepth 20000 in
theorem yz_push_b {m : Nat → cz_C} {y : yH} {n : Nat} {c : yC} (h1 : 192 ≤ y.1) (h2 : y.1 < 1216) : cz_push (yz_b m y) n (yz_e c) = yz_b m (yz_push y n c) := by
  unfold cz_push yz_push
  rw [dz_fn_eq, dz_fn_eq]
  unfold yz_b
  refine Prod.ext rfl (Prod.ext rfl ?_)
  funext q
  show (if q = y.1 then yz_e c else if q < 192 then m q else if q < 1216 then yz_e (yz_tg 10 y.2.2 (q - 192)) else _) = if q < 192 then m q else if q < 1216 then yz_e (yz_tg 10 (yz_ts 10 y.2.2 (y.1 - 192) c) (q - 192)) else _
  by_cases e : q = y.1
  · subst e
    rw [if_pos rfl, if_neg (by omega), if_pos h2, yz_tg_ts 10 _ _ _ _ (by show _ < 1024; omega) (by show _ < 1024; omega), if_pos rfl]
  · rw [if_neg e]
    by_cases a : q < 192
    · rw [if_pos a, if_pos a]
    · rw [if_neg a, if_neg a]
      by_cases b : q < 1216
      · rw [if_pos b, if_pos b, yz_tg_ts 10 _ _ _ _ (by show _ < 1024; omega) (by show _ < 1024; omega), if_neg (by omega)]
      · rw [if_neg b, if_neg b]
noncomputable def yz_in (y : yH) (r : Nat) : Bool := Nat.ble 192 r && Nat.blt r y.1
noncomputable def yz_obj (y : yH) (r : Nat) : Option (Nat × List cz_V) := bif yz_in y r then (match yz_tg 10 y.2.2 (Nat.sub r 192) with
  | .inr q => some q
  | .inl _ => none) else none
noncomputable def yz_arr (y : yH) (r : Nat) : Option (Nat × Nat × List (Nat × cz_V)) := bif yz_in y r then (match yz_tg 10 y.2.2 (Nat.sub r 192) with
  | .inl q => bif Nat.blt q.1 11 then some q else none
  | .inr _ => none) else none
noncomputable def yz_room (y : yH) (k n : Nat) : Bool := Nat.ble (Nat.add y.1 k) 1216 && Nat.ble (Nat.add y.2.1 n) 7302232
theorem yz_room_ok {m : Nat → cz_C} {y : yH} {k n : Nat} (h : yz_room y k n = true) : cz_room (yz_b m y) k n = true ∧ y.1 + k ≤ 1216 := by
  simp only [yz_room, Bool.and_eq_true, Nat.ble_eq] at h
  have h1 : y.1 + k ≤ 1216 := h.1
  have h2 : y.2.1 + n ≤ 7302232 := h.2
  refine ⟨?_, h1⟩
  unfold cz_room
  rw [Bool.and_eq_true, Nat.ble_eq, Nat.ble_eq]
  exact ⟨by show y.1 + k ≤ 600192; omega, h2⟩
theorem yz_in_ok {m : Nat → cz_C} {y : yH} {r : Nat} (hk : yz_k y) (h : yz_in y r = true) : cz_hereB (yz_b m y) r = true ∧ 192 ≤ r ∧ r < y.1 ∧ (yz_b m y).2.2 r = yz_e (yz_tg 10 y.2.2 (r - 192)) := by
  simp only [yz_in, Bool.and_eq_true, Nat.ble_eq, Nat.blt_eq] at h
  obtain ⟨h1, h2⟩ := h
  have h3 := hk.2
  refine ⟨?_, h1, h2, ?_⟩
  · unfold cz_hereB
    rw [Bool.and_eq_true, Bool.or_eq_true, Nat.blt_eq, Nat.ble_eq]
    exact ⟨h2, Or.inl h1⟩
  · show (if r < 192 then _ else if r < 1216 then _ else _) = _
    rw [if_neg (by omega), if_pos (by omega)]
set_option maxRecDepth 20000 in
theorem yz_obj_ok {m : Nat → cz_C} {y : yH} {r : Nat} {o : Nat × List cz_V} (hk : yz_k y) (h : yz_obj y r = some o) : cz_obj (yz_b m y) r = some o ∧ 192 ≤ r ∧ r < y.1 := by
  unfold yz_obj at h
  cases hi : yz_in y r with
  | false => rw [hi] at h; cases h
  | true =>
    rw [hi, cond_true] at h
    obtain ⟨a1, a2, a3, a4⟩ := yz_in_ok (m := m) hk hi
    refine ⟨?_, a2, a3⟩
    unfold cz_obj
    rw [a1, a4]
    have h : (match yz_tg 10 y.2.2 (r - 192) with
      | .inr q => some q
      | .inl _ => none) = some o := h
    split at h
    · rename_i q hq
      rw [hq]
      exact h
    · cases h
set_option maxRecDepth 20000 in
theorem yz_arr_ok {m : Nat → cz_C} {y : yH} {r : Nat} {o : Nat × Nat × List (Nat × cz_V)} (hk : yz_k y) (h : yz_arr y r = some o) : cz_arr (yz_b m y) r = some (o.1, o.2.1, fun j => yz_at (yzDf o.1) j o.2.2) ∧ 192 ≤ r ∧ r < y.1 := by
  unfold yz_arr at h
  cases hi : yz_in y r with
  | false => rw [hi] at h; cases h
  | true =>
    rw [hi, cond_true] at h
    obtain ⟨a1, a2, a3, a4⟩ := yz_in_ok (m := m) hk hi
    refine ⟨?_, a2, a3⟩
    unfold cz_arr
    rw [a1, a4]
    have h : (match yz_tg 10 y.2.2 (r - 192) with
      | .inl q => bif Nat.blt q.1 11 then some q else none
      | .inr _ => none) = some o := h
    split at h
    · rename_i q hq
      rw [hq]
      cases hb : Nat.blt q.1 11 with
      | false => rw [hb] at h; cases h
      | true =>
        rw [hb] at h
        cases h
        show (bif Nat.blt o.1 11 then some (o.1, o.2.1, fun j => yz_at (yzDf o.1) j o.2.2) else none) = _
        rw [hb]
        rfl
    · cases h
abbrev yN : Type := Nat × List cz_V × yH
noncomputable def yz_null (v : cz_V) : Bool := match v with
  | .inr (.inr none) => true
  | _ => false
theorem yz_null_ok {v : cz_V} (h : yz_null v = true) : v = .inr (.inr none) := by
  unfold yz_null at h
  split at h
  · rfl
  · cases h
noncomputable def yz_hget (M : cz_M) (x pc : Nat) (st : List cz_V) (y : yH) : Option yN := match st with
  | .inr (.inr (some r)) :: rest => (match cz_lk M x with
    | some q => bif Nat.ble q.1 1 then (match yz_obj y r with
      | some o => bif Nat.beq o.1 q.2.1 then (match o.2[q.2.2.1]? with
        | some v => some (pc + 3, v :: rest, y)
        | none => none) else none
      | none => none) else none
    | none => none)
  | _ => none
noncomputable def yz_hput (M : cz_M) (x pc : Nat) (st : List cz_V) (y : yH) : Option yN := match st with
  | v :: .inr (.inr (some r)) :: rest => (match cz_lk M x with
    | some q => bif Nat.ble q.1 1 && Nat.beq q.2.2.2 1 && Nat.ble 192 r then (match yz_obj y r with
      | some o => (match cz_tl[q.2.1]? with
        | some ks => bif Nat.beq o.1 q.2.1 && (o.2[q.2.2.1]?).isSome then (match ks[q.2.2.1]? with
          | some k => bif cz_fitc k v then some (pc + 3, rest, yz_set y r (.inr (o.1, o.2.set q.2.2.1 v))) else none
          | none => none) else none
        | none => none)
      | none => none) else none
    | none => none)
  | _ => none
noncomputable def yz_hnew (M : cz_M) (x pc : Nat) (st : List cz_V) (y : yH) : Option yN := match cz_lk M x with
  | some q => bif Nat.beq q.1 8 then (match cz_tl[q.2.1]? with
    | some ks => bif yz_room y 1 ks.length then some (pc + 3, .inr (.inr (some y.1)) :: st, yz_push y ks.length (.inr (q.2.1, ks.map cz_dflt))) else none
    | none => none) else none
  | none => none
noncomputable def yz_hna (t : ArrayType) (pc : Nat) (st : List cz_V) (y : yH) : Option yN := match st with
  | .inl n :: rest => (match cz_atn t with
    | some k => dz_fn n.toInt.toNat (fun m => bif decide (0 ≤ n.toInt) && yz_room y 1 m && Nat.ble (m * 8) 536870912 then (match cz_td[k]? with
      | some _ => some (pc + 2, .inr (.inr (some y.1)) :: rest, yz_push y m (.inl (k, m, [])))
      | none => none) else none)
    | none => none)
  | _ => none
noncomputable def yz_hnq (M : cz_M) (x pc : Nat) (st : List cz_V) (y : yH) : Option yN := match st with
  | .inl n :: rest => (match cz_lk M (x + 65536) with
    | some q => dz_fn n.toInt.toNat (fun m => bif (Nat.beq q.1 10 && yz_null (yzDf q.2.1)) && (decide (0 ≤ n.toInt) && yz_room y 1 m && Nat.ble (m * 8) 536870912) then some (pc + 3, .inr (.inr (some y.1)) :: rest, yz_push y m (.inl (q.2.1, m, []))) else none)
    | none => none)
  | _ => none
noncomputable def yz_gr (r : Nat) : List Nat → List (Nat × cz_V) → yH → yH
  | [], _, y => y
  | i :: t, ws, y => dz_fn y.1 (fun n => yz_gr r t ((i, .inr (.inr (some n))) :: ws) (yz_set (yz_push y 2000 (.inl (1, 2000, []))) r (.inl (10, 8, (i, .inr (.inr (some n))) :: ws))))
noncomputable def yz_hmul (M : cz_M) (x z pc : Nat) (st : List cz_V) (y : yH) : Option yN := match st with
  | .inl k :: .inl n :: rest => (match cz_lk M x with
    | some q => bif Nat.beq q.1 14 && Nat.beq z 2 && (decide (n = 8) && decide (k = 2000) && yz_room y 9 16008) then some (pc + 4, .inr (.inr (some y.1)) :: rest, yz_gr y.1 [0, 1, 2, 3, 4, 5, 6, 7] [] (yz_push y 8 (.inl (10, 8, [])))) else none
    | none => none)
  | _ => none
noncomputable def yz_hal (pc : Nat) (st : List cz_V) (y : yH) : Option yN := match st with
  | .inl a :: .inr (.inr (some r)) :: rest => (match yz_arr y r with
    | some c => bif cz_ix a c.2.1 && Nat.ble 4 c.1 then dz_fn a.toInt.toNat (fun j => some (pc + 1, yz_at (yzDf c.1) j c.2.2 :: rest, y)) else none
    | none => none)
  | _ => none
noncomputable def yz_elem (y : yH) (v t : Nat) : Bool := match cz_td[t]? with
  | some k => bif Nat.ble 192 v then (match yz_obj y v with
    | some o => Nat.beq k.2 o.1
    | none => false) else (Nat.ble 1 v && Nat.ble v 51) && (Nat.beq k.2 15 && Nat.ble 192 y.1)
  | none => false
noncomputable def yz_hst (pc : Nat) (st : List cz_V) (y : yH) : Option yN := match st with
  | .inr (.inr (some w)) :: .inl a :: .inr (.inr (some r)) :: rest => (match yz_arr y r with
    | some c => bif Nat.ble 192 r && cz_ix a c.2.1 && yz_elem y w c.1 then dz_fn a.toInt.toNat (fun j => some (pc + 1, rest, yz_set y r (.inl (c.1, c.2.1, (j, .inr (.inr (some w))) :: c.2.2)))) else none
    | none => none)
  | _ => none
noncomputable def yz_hldc (w : Nat) (M : cz_M) (x pc : Nat) (st : List cz_V) (y : yH) : Option yN := match cz_lk M x with
  | some q => bif Nat.beq q.1 11 then some (pc + w, .inl (Int32.ofInt ((q.2.1 : Int) - (q.2.2.1 : Int))) :: st, y) else bif Nat.beq q.1 12 then some (pc + w, .inr (.inr (some q.2.1)) :: st, y) else none
  | none => none
noncomputable def yz_hobj (M : cz_M) (d x pc : Nat) (st : List cz_V) (y : yH) : Option yN := match st with
  | .inr (.inr (some _)) :: rest => (match cz_lk M x with
    | some q => bif Nat.beq q.1 6 && (Nat.blt 0 d && Nat.ble rest.length 20) then some (pc + 3, rest, y) else none
    | none => none)
  | _ => none
noncomputable def yz_hp (M : cz_M) (d pc : Nat) (st : List cz_V) (y : yH) (i : Instr) : Option yN := match i with
  | .getfield x => yz_hget M x pc st y
  | .putfield x => yz_hput M x pc st y
  | .new x => yz_hnew M x pc st y
  | .newarray t => yz_hna t pc st y
  | .anewarray x => yz_hnq M x pc st y
  | .aaload => yz_hal pc st y
  | .aastore => yz_hst pc st y
  | .ldc x => yz_hldc 2 M x pc st y
  | .invokespecial x => yz_hobj M d x pc st y
  | .multianewarray x z => yz_hmul M x z pc st y
  | _ => none
noncomputable def yz_call (i : Instr) (M : cz_M) (st : List cz_V) (y : yH) : Option (Nat × List cz_V × List cz_V) := match i with
  | .invokespecial x => cz_cI x M st
  | .invokevirtual x => (match cz_lk M x with
    | some q => bif Nat.beq q.1 3 then (match cz_take q.2.2.1 st with
      | some w => (match w.2 with
        | .inr (.inr (some r)) :: rest => (match yz_obj y r with
          | some o => bif Nat.beq o.1 q.2.2.2 then some (q.2.1, .inr (.inr (some r)) :: w.1.reverse, rest) else none
          | none => none)
        | _ => none)
      | none => none) else none
    | none => none)
  | _ => none
section YzOps
variable {m : Nat → cz_C} {M : cz_M} {d pc x : Nat} {st : List cz_V} {y : yH} {S : yN}
/-- what is asked of an instruction on cells -/
def yz_gd (m : Nat → cz_C) (o : Option cz_N) (S : yN) : Prop := o = some (S.1, S.2.1, yz_b m S.2.2) ∧ yz_k S.2.2
set_option maxRecDepth 20000 in
theorem yz_push_k {n : Nat} {c : yC} (hk : yz_k y) (h : y.1 + 1 ≤ 1216) : yz_k (yz_push y n c) := by
  unfold yz_push
  rw [dz_fn_eq, dz_fn_eq]
  exact ⟨by show 192 ≤ y.1 + 1; have := hk.1; omega, h⟩
set_option maxRecDepth 20000 in
theorem yz_hget_ok (hk : yz_k y) (h : yz_hget M x pc st y = some S) : yz_gd m (cz_hget M x pc st (yz_b m y)) S := by
  unfold yz_hget at h
  split at h
  · rename_i r rest
    split at h
    · rename_i q hq
      cases h1 : Nat.ble q.1 1 with
      | false => rw [h1] at h; cases h
      | true =>
        rw [h1, cond_true] at h
        split at h
        · rename_i o ho
          cases h2 : Nat.beq o.1 q.2.1 with
          | false => rw [h2] at h; cases h
          | true =>
            rw [h2, cond_true] at h
            split at h
            · rename_i v hv
              cases h
              refine ⟨?_, hk⟩
              simp only [cz_hget, hq, h1, cond_true, (yz_obj_ok (m := m) hk ho).1, h2, hv]
            · cases h
        · cases h
    · cases h
  · cases h
set_option maxRecDepth 20000 in
theorem yz_hput_ok (hk : yz_k y) (h : yz_hput M x pc st y = some S) : yz_gd m (cz_hput cz_pg M x pc st (yz_b m y)) S := by
  unfold yz_hput at h
  split at h
  · rename_i v r rest
    split at h
    · rename_i q hq
      cases h1 : (Nat.ble q.1 1 && Nat.beq q.2.2.2 1 && Nat.ble 192 r) with
      | false => rw [h1] at h; cases h
      | true =>
        rw [h1, cond_true] at h
        split at h
        · rename_i o ho
          split at h
          · rename_i ks hks
            cases h2 : (Nat.beq o.1 q.2.1 && (o.2[q.2.2.1]?).isSome) with
            | false => rw [h2] at h; cases h
            | true =>
              rw [h2, cond_true] at h
              split at h
              · rename_i k hkk
                cases h3 : cz_fitc k v with
                | false => rw [h3] at h; cases h
                | true =>
                  rw [h3, cond_true] at h
                  cases h
                  obtain ⟨a1, a2, a3⟩ := yz_obj_ok (m := m) hk ho
                  have hks' : cz_pg.2.1[q.2.1]? = some ks := hks
                  refine ⟨?_, hk⟩
                  simp only [cz_hput, hq, h1, cond_true, a1, hks', h2, hkk, h3]
                  rw [← yz_set_b a2 (Nat.lt_of_lt_of_le a3 hk.2)]
                  rfl
              · cases h
          · cases h
        · cases h
    · cases h
  · cases h
set_option maxRecDepth 20000 in
theorem yz_hnew_ok (hk : yz_k y) (h : yz_hnew M x pc st y = some S) : yz_gd m (cz_hnew cz_pg M x pc st (yz_b m y)) S := by
  unfold yz_hnew at h
  split at h
  · rename_i q hq
    cases h1 : Nat.beq q.1 8 with
    | false => rw [h1] at h; cases h
    | true =>
      rw [h1, cond_true] at h
      split at h
      · rename_i ks hks
        cases h2 : yz_room y 1 ks.length with
        | false => rw [h2] at h; cases h
        | true =>
          rw [h2, cond_true] at h
          cases h
          obtain ⟨a1, a2⟩ := yz_room_ok (m := m) h2
          have hks' : cz_pg.2.1[q.2.1]? = some ks := hks
          refine ⟨?_, yz_push_k hk a2⟩
          simp only [cz_hnew, hq, h1, cond_true, hks', a1]
          rw [← yz_push_b hk.1 (by omega)]
          rfl
      · cases h
  · cases h
theorem yD_of {k : Nat} {z : Nat × Nat} (h : cz_td[k]? = some z) : yzDf k = cz_dflt z.1 := by
  unfold yzDf
  rw [dz_nth_eq, h]
set_option maxRecDepth 20000 in
theorem yz_hna_ok {t : ArrayType} (hk : yz_k y) (h : yz_hna t pc st y = some S) : yz_gd m (cz_hna cz_pg t pc st (yz_b m y)) S := by
  unfold yz_hna at h
  split at h
  · rename_i n rest
    split at h
    · rename_i k hkk
      rw [dz_fn_eq] at h
      cases h1 : (decide (0 ≤ n.toInt) && yz_room y 1 n.toInt.toNat && Nat.ble (n.toInt.toNat * 8) 536870912) with
      | false => rw [h1] at h; cases h
      | true =>
        rw [h1, cond_true] at h
        split at h
        · rename_i z hz
          cases h
          simp only [Bool.and_eq_true] at h1
          obtain ⟨a1, a2⟩ := yz_room_ok (m := m) h1.1.2
          have hz' : cz_pg.2.2[k]? = some z := hz
          refine ⟨?_, yz_push_k hk a2⟩
          simp only [cz_hna, hkk, h1.1.1, a1, h1.2, Bool.and_self, cond_true, hz']
          rw [← yz_push_b hk.1 (by omega), ← yD_of hz]
          rfl
        · cases h
    · cases h
  · cases h
set_option maxRecDepth 20000 in
theorem yz_hnq_ok (hk : yz_k y) (h : yz_hnq M x pc st y = some S) : yz_gd m (cz_hnq M x pc st (yz_b m y)) S := by
  unfold yz_hnq at h
  split at h
  · rename_i n rest
    split at h
    · rename_i q hq
      rw [dz_fn_eq] at h
      cases h1 : ((Nat.beq q.1 10 && yz_null (yzDf q.2.1)) && (decide (0 ≤ n.toInt) && yz_room y 1 n.toInt.toNat && Nat.ble (n.toInt.toNat * 8) 536870912)) with
      | false => rw [h1] at h; cases h
      | true =>
        rw [h1, cond_true] at h
        cases h
        simp only [Bool.and_eq_true] at h1
        obtain ⟨⟨b1, b2⟩, ⟨b3, b4⟩, b5⟩ := h1
        obtain ⟨a1, a2⟩ := yz_room_ok (m := m) b4
        have e := yz_null_ok b2
        refine ⟨?_, yz_push_k hk a2⟩
        simp only [cz_hnq, hq, b1, b3, a1, b5, Bool.and_self, cond_true]
        rw [← yz_push_b hk.1 (by omega)]
        rw [show yz_e (.inl (q.2.1, n.toInt.toNat, [])) = .inl (q.2.1, n.toInt.toNat, fun _ => yzDf q.2.1) from rfl, e]
        rfl
    · cases h
  · cases h
theorem yD_10 : yzDf 10 = .inr (.inr none) := rfl
theorem yD_1 : yzDf 1 = .inl 0 := rfl
set_option maxRecDepth 20000 in
theorem yz_gr_ok {r : Nat} : ∀ (is : List Nat) (ws : List (Nat × cz_V)) (y : yH), yz_k y → 192 ≤ r → r < y.1 → y.1 + is.length ≤ 1216 → cz_gr r is (fun j => yz_at (yzDf 10) j ws) (yz_b m y) = yz_b m (yz_gr r is ws y) ∧ yz_k (yz_gr r is ws y)
  | [], ws, y, hk, _, _, _ => ⟨rfl, hk⟩
  | i :: is, ws, y, hk, h1, h2, h3 => by
    have hl : (i :: is).length = is.length + 1 := rfl
    rw [hl] at h3
    have kp : yz_k (yz_push y 2000 (.inl (1, 2000, []))) := yz_push_k hk (by omega)
    have e1 : (yz_push y 2000 (.inl (1, 2000, []))).1 = y.1 + 1 := rfl
    have ks : yz_k (yz_set (yz_push y 2000 (.inl (1, 2000, []))) r (.inl (10, 8, (i, .inr (.inr (some y.1))) :: ws))) := kp
    obtain ⟨a1, a2⟩ := yz_gr_ok is ((i, .inr (.inr (some y.1))) :: ws) (yz_set (yz_push y 2000 (.inl (1, 2000, []))) r (.inl (10, 8, (i, .inr (.inr (some y.1))) :: ws))) ks h1 (by show r < y.1 + 1; omega) (by show y.1 + 1 + is.length ≤ 1216; omega)
    refine ⟨?_, a2⟩
    refine Eq.trans ?_ a1
    have hb : (yz_b m y).1 = y.1 := rfl
    show cz_gr r is (fun j => if j = i then .inr (.inr (some (yz_b m y).1)) else yz_at (yzDf 10) j ws) (cz_setc (cz_push (yz_b m y) 2000 (.inl (1, 2000, fun _ => .inl 0))) r (.inl (10, 8, fun j => if j = i then .inr (.inr (some (yz_b m y).1)) else yz_at (yzDf 10) j ws))) = _
    rw [hb, ← yz_at_c, ← yz_set_b h1 (by omega), ← yz_push_b hk.1 (by omega)]
    rfl
set_option maxRecDepth 20000 in
theorem yz_hmul_ok {z : Nat} (hk : yz_k y) (h : yz_hmul M x z pc st y = some S) : yz_gd m (cz_hmul M x z pc st (yz_b m y)) S := by
  unfold yz_hmul at h
  split at h
  · rename_i k n rest
    split at h
    · rename_i q hq
      cases h1 : (Nat.beq q.1 14 && Nat.beq z 2 && (decide (n = 8) && decide (k = 2000) && yz_room y 9 16008)) with
      | false => rw [h1] at h; cases h
      | true =>
        rw [h1, cond_true] at h
        cases h
        simp only [Bool.and_eq_true] at h1
        obtain ⟨⟨b1, b2⟩, ⟨b3, b4⟩, b5⟩ := h1
        obtain ⟨a1, a2⟩ := yz_room_ok (m := m) b5
        have kp : yz_k (yz_push y 8 (.inl (10, 8, []))) := yz_push_k hk (by omega)
        obtain ⟨g1, g2⟩ := yz_gr_ok (m := m) (r := y.1) [0, 1, 2, 3, 4, 5, 6, 7] [] (yz_push y 8 (.inl (10, 8, []))) kp hk.1 (by show y.1 < y.1 + 1; omega) (by show y.1 + 1 + 8 ≤ 1216; omega)
        refine ⟨?_, g2⟩
        simp only [cz_hmul, hq, b1, b2, b3, b4, a1, Bool.and_self, cond_true]
        rw [← g1, ← yz_push_b hk.1 (by omega)]
        rfl
    · cases h
  · cases h
set_option maxRecDepth 20000 in
theorem yz_hal_ok (hk : yz_k y) (h : yz_hal pc st y = some S) : yz_gd m (cz_hal (fun t => Nat.ble 4 t) pc st (yz_b m y)) S := by
  unfold yz_hal at h
  split at h
  · rename_i a r rest
    split at h
    · rename_i c hc
      cases h1 : (cz_ix a c.2.1 && Nat.ble 4 c.1) with
      | false => rw [h1] at h; cases h
      | true =>
        rw [h1, cond_true, dz_fn_eq] at h
        cases h
        refine ⟨?_, hk⟩
        simp only [cz_hal, cz_aload, (yz_arr_ok (m := m) hk hc).1, h1, cond_true]
    · cases h
  · cases h
set_option maxRecDepth 20000 in
theorem yz_elem_ok {w t : Nat} (hm : ∀ v, 1 ≤ v → v ≤ 51 → ∃ l, m v = .inr (.inl (15, l))) (hk : yz_k y) (h : yz_elem y w t = true) : cz_elem cz_pg (yz_b m y) (some w) t = true := by
  unfold yz_elem at h
  split at h
  · rename_i k hkk
    have hk' : cz_pg.2.2[t]? = some k := hkk
    simp only [cz_elem, hk']
    cases h1 : Nat.ble 192 w with
    | true =>
      rw [h1, cond_true] at h
      split at h
      · rename_i o ho
        rw [(yz_obj_ok (m := m) hk ho).1]
        exact h
      · cases h
    | false =>
      rw [h1, cond_false] at h
      simp only [Bool.and_eq_true, Nat.ble_eq] at h
      obtain ⟨⟨c1, c2⟩, c3, c4⟩ := h
      obtain ⟨l, hl⟩ := hm w c1 c2
      have e1 : cz_hereB (yz_b m y) w = true := by
        unfold cz_hereB
        rw [Bool.and_eq_true, Bool.or_eq_true, Nat.blt_eq]
        refine ⟨by show w < y.1; omega, Or.inr ?_⟩
        unfold cz_ext
        rw [Bool.or_eq_true, Nat.ble_eq]
        exact Or.inl c2
      have e2 : (yz_b m y).2.2 w = .inr (.inl (15, l)) := by
        show (if w < 192 then m w else _) = _
        rw [if_pos (by omega), hl]
      have e3 : cz_obj (yz_b m y) w = some (15, l) := by
        unfold cz_obj
        rw [e1, e2]
        rfl
      rw [e3]
      exact c3
  · cases h
set_option maxRecDepth 20000 in
theorem yz_hst_ok (hm : ∀ v, 1 ≤ v → v ≤ 51 → ∃ l, m v = .inr (.inl (15, l))) (hk : yz_k y) (h : yz_hst pc st y = some S) : yz_gd m (cz_hst cz_pg 3 pc st (yz_b m y)) S := by
  unfold yz_hst at h
  split at h
  · rename_i w a r rest
    split at h
    · rename_i c hc
      cases h1 : (Nat.ble 192 r && cz_ix a c.2.1 && yz_elem y w c.1) with
      | false => rw [h1] at h; cases h
      | true =>
        rw [h1, cond_true, dz_fn_eq] at h
        cases h
        simp only [Bool.and_eq_true] at h1
        obtain ⟨a1, a2, a3⟩ := yz_arr_ok (m := m) hk hc
        refine ⟨?_, hk⟩
        simp only [cz_hst, cz_astore, a1, h1.1.1, h1.1.2, yz_elem_ok hm hk h1.2, Bool.and_self, cond_true]
        rw [← yz_set_b a2 (Nat.lt_of_lt_of_le a3 hk.2)]
        rw [show yz_e (.inl (c.1, c.2.1, (a.toInt.toNat, .inr (.inr (some w))) :: c.2.2)) = .inl (c.1, c.2.1, fun j => yz_at (yzDf c.1) j ((a.toInt.toNat, .inr (.inr (some w))) :: c.2.2)) from rfl, yz_at_c]
    · cases h
  · cases h
theorem yz_hldc_ok {w : Nat} (hk : yz_k y) (h : yz_hldc w M x pc st y = some S) : yz_gd m (cz_hldc w M x pc st (yz_b m y)) S := by
  unfold yz_hldc at h
  split at h
  · rename_i q hq
    cases h1 : Nat.beq q.1 11 with
    | true =>
      rw [h1, cond_true] at h
      cases h
      refine ⟨?_, hk⟩
      simp only [cz_hldc, hq, h1, cond_true]
    | false =>
      rw [h1, cond_false] at h
      cases h2 : Nat.beq q.1 12 with
      | false => rw [h2] at h; cases h
      | true =>
        rw [h2, cond_true] at h
        cases h
        refine ⟨?_, hk⟩
        simp only [cz_hldc, hq, h1, h2, cond_true, cond_false]
  · cases h
theorem yz_hobj_ok (hk : yz_k y) (h : yz_hobj M d x pc st y = some S) : yz_gd m (cz_hobj M d x pc st (yz_b m y)) S := by
  unfold yz_hobj at h
  split at h
  · rename_i r rest
    split at h
    · rename_i q hq
      cases h1 : (Nat.beq q.1 6 && (Nat.blt 0 d && Nat.ble rest.length 20)) with
      | false => rw [h1] at h; cases h
      | true =>
        rw [h1, cond_true] at h
        cases h
        refine ⟨?_, hk⟩
        simp only [cz_hobj, hq, h1, cond_true]
    · cases h
  · cases h
theorem yz_hp_ok {i : Instr} (hm : ∀ v, 1 ≤ v → v ≤ 51 → ∃ l, m v = .inr (.inl (15, l))) (hk : yz_k y) (h : yz_hp M d pc st y i = some S) : yz_gd m (cz_hp cz_pg M d pc st (yz_b m y) i) S := by
  cases i
  case getfield x => exact yz_hget_ok hk h
  case putfield x => exact yz_hput_ok hk h
  case new x => exact yz_hnew_ok hk h
  case newarray t => exact yz_hna_ok hk h
  case anewarray x => exact yz_hnq_ok hk h
  case aaload => exact yz_hal_ok hk h
  case aastore => exact yz_hst_ok hm hk h
  case ldc x => exact yz_hldc_ok hk h
  case invokespecial x => exact yz_hobj_ok hk h
  case multianewarray x z => exact yz_hmul_ok hk h
  all_goals (exact absurd h (by simp [yz_hp]))
theorem yz_call_ok {i : Instr} {q : Nat × List cz_V × List cz_V} (hk : yz_k y) (h : yz_call i M st y = some q) : cz_hp cz_pg M d pc st (yz_b m y) i = none ∧ cz_call i M st (yz_b m y) = some q := by
  cases i
  case invokespecial x =>
    have h : cz_cI x M st = some q := h
    refine ⟨?_, ?_⟩
    · show cz_hobj M d x pc st (yz_b m y) = none
      unfold cz_cI at h
      split at h
      · rename_i w hw
        cases h1 : (Nat.beq w.1 4 || Nat.beq w.1 5) with
        | false => rw [h1] at h; cases h
        | true =>
          have h6 : Nat.beq w.1 6 = false := by
            rw [Bool.or_eq_true] at h1
            rcases h1 with e | e <;> (rw [Nat.eq_of_beq_eq_true e]; rfl)
          unfold cz_hobj
          split
          · rw [hw]
            show (bif Nat.beq w.1 6 && _ then _ else none) = none
            rw [h6]
            rfl
          · rfl
      · cases h
    · show (match cz_cI x M st with
        | some v => some v
        | none => cz_cU x M st (yz_b m y)) = some q
      rw [h]
  case invokevirtual x =>
    simp only [yz_call] at h
    split at h
    · rename_i w hw
      cases h1 : Nat.beq w.1 3 with
      | false => rw [h1] at h; cases h
      | true =>
        rw [h1, cond_true] at h
        refine ⟨?_, ?_⟩
        · show cz_hcl M d x pc st (yz_b m y) = none
          have h19 : Nat.beq w.1 19 = false := by rw [Nat.eq_of_beq_eq_true h1]; rfl
          unfold cz_hcl
          split
          · rw [hw]
            show (bif Nat.beq w.1 19 && _ then _ else none) = none
            rw [h19]
            rfl
          · rfl
        · show cz_cV x M st (yz_b m y) = some q
          split at h
          · rename_i v hv
            split at h
            · rename_i r rest hr
              split at h
              · rename_i o ho
                simp only [cz_cV, hw, h1, cond_true, hv, hr, (yz_obj_ok (m := m) hk ho).1]
                exact h
              · cases h
            · cases h
          · cases h
    · cases h
  all_goals (exact absurd h (by simp [yz_call]))
end YzOps
/-! The constructors: the run, and that it is the machine's. -/
noncomputable def yz_fv {α : Type} (v : cz_V) (k : cz_V → α) : α := match v with
  | .inl a => dz_fi a.toInt (fun n => k (.inl (Int32.ofInt n)))
  | .inr w => k (.inr w)
theorem yz_fv_eq {α : Type} (v : cz_V) (k : cz_V → α) : yz_fv v k = k v := by
  unfold yz_fv
  split
  · rename_i a
    rw [dz_fi_eq, Int32.ofInt_toInt]
  · rfl
/-- the newest local and the top of the stack in plain form -/
noncomputable def yz_fs {α : Type} (L : List (Nat × cz_V)) (st : List cz_V) (k : List (Nat × cz_V) → List cz_V → α) : α := match L with
  | [] => (match st with
    | [] => k [] []
    | w :: r => yz_fv w (fun w => k [] (w :: r)))
  | q :: L => yz_fv q.2 (fun v => match st with
    | [] => k ((q.1, v) :: L) []
    | w :: r => yz_fv w (fun w => k ((q.1, v) :: L) (w :: r)))
theorem yz_fs_eq {α : Type} (L : List (Nat × cz_V)) (st : List cz_V) (k : List (Nat × cz_V) → List cz_V → α) : yz_fs L st k = k L st := by
  unfold yz_fs
  split
  · split
    · rfl
    · rw [yz_fv_eq]
  · rw [yz_fv_eq]
    split
    · rfl
    · rw [yz_fv_eq]
/-- returned, or stopped where the law's loop begins -/
abbrev yR : Type := (Option cz_V × yH) ⊕ (List (Nat × cz_V) × List cz_V × yH)
abbrev yIh : Type := Nat → cz_M → Nat → List (Nat × cz_V) → List cz_V → yH → Option yR
noncomputable def yz_s (ih : yIh) (d : Nat) (M : cz_M) (pc : Nat) (L : List (Nat × cz_V)) (st : List cz_V) (y : yH) (i : Instr) (len : Nat) : Option yR :=
  match cz_pure i M.2.1.2.1 L st with
  | some q => bif Nat.beq len (cz_len i) then dz_fn (Nat.add pc (cz_len i)) (fun p => yz_fs q.1 q.2 (fun L' st' => ih d M p L' st' y)) else none
  | none => match cz_br i pc st with
    | some q => bif Nat.beq len (cz_len i) || cz_isw i then dz_fn q.1 (fun p => ih d M p L q.2 y) else none
    | none => bif Nat.beq len (cz_len i) then (match cz_ret i M.2.1.2.2.1 st with
      | some v => some (.inl (v, y))
      | none => match cz_throw M pc i with
        | some _ => none
        | none => match yz_hp M d pc st y i with
          | some q => dz_fn q.1 (fun p => ih d M p L q.2.1 q.2.2)
          | none => match yz_call i M st y with
            | some q => (match dz_nth cz_ms q.1 with
              | some M' => bif ((Nat.blt 0 d && yz_room y 0 0) && Nat.ble (cz_cat2 q.2.2 + (M'.2.1.2.1 + 11)) 100) && Nat.ble (cz_cat2 q.2.1) M'.2.1.2.1 then (match ih (Nat.pred d) M' 0 (cz_argl 0 q.2.1) [] y with
                | some (.inl (none, y')) => dz_fn (Nat.add pc 3) (fun p => ih d M p L q.2.2 y')
                | some (.inl (some w, y')) => dz_fn (Nat.add pc 3) (fun p => ih d M p L (w :: q.2.2) y')
                | _ => none) else none
              | none => none)
            | none => none) else none
/-! The step, told by the instruction's kind: the kernel keeps what it knows of an instruction, and copies little. -/
def yz_dc (i : Instr) : Nat × Nat := match i with
  | .aload_n k => (1, k)
  | .aload k => (1, k)
  | .iload_n k => (2, k)
  | .iload k => (2, k)
  | .dup => (3, 0)
  | .iconst _ => (4, 0)
  | .bipush _ => (4, 0)
  | .sipush _ => (4, 0)
  | .aconst_null => (4, 0)
  | .astore_n k => (5, k)
  | .getfield x => (8, x)
  | .putfield x => (9, x)
  | .new x => (10, x)
  | .anewarray x => (11, x)
  | .aastore => (13, 0)
  | .invokespecial x => (14, x)
  | .if_icmp _ _ => (15, 0)
  | .goto _ => (15, 0)
  | .return_ => (17, 0)
  | _ => (0, 0)
noncomputable def yz_cv (i : Instr) : cz_V := match i with
  | .iconst n => .inl (Int32.ofInt n)
  | .bipush n => .inl (Int8.ofInt n).toInt32
  | .sipush n => .inl (Int16.ofInt n).toInt32
  | _ => .inr (.inr none)
section YzS
variable (ih : yIh) (d : Nat) (M : cz_M) (pc : Nat) (L : List (Nat × cz_V)) (st : List cz_V) (y : yH) (i : Instr) (len : Nat)
noncomputable def yz_g : Option yR := bif Nat.beq len (cz_len i) then dz_fn (Nat.add pc (cz_len i)) (fun p => yz_fs L st (fun L' st' => ih d M p L' st' y)) else none
noncomputable def yz_a1 (k : Nat) : Option yR := match cz_ld L k cz_isR with
  | some v => yz_g ih d M pc L (v :: st) y i len
  | none => none
noncomputable def yz_a2 (k : Nat) : Option yR := match cz_ld L k cz_isI with
  | some v => yz_g ih d M pc L (v :: st) y i len
  | none => none
noncomputable def yz_a3 : Option yR := match st with
  | v :: r => bif cz_lg v then none else yz_g ih d M pc L (v :: v :: r) y i len
  | _ => none
noncomputable def yz_a5 (k : Nat) : Option yR := match st with
  | .inr (.inr a) :: r => bif Nat.blt k M.2.1.2.1 then yz_g ih d M pc (cz_sto L k (.inr (.inr a))) r y i len else none
  | _ => none
noncomputable def yz_h (q : Option yN) : Option yR := bif Nat.beq len (cz_len i) then (match q with
  | some q => dz_fn q.1 (fun p => ih d M p L q.2.1 q.2.2)
  | none => none) else none
noncomputable def yz_cl (q : Nat × List cz_V × List cz_V) : Option yR := match dz_nth cz_ms q.1 with
  | some M' => bif ((Nat.blt 0 d && yz_room y 0 0) && Nat.ble (cz_cat2 q.2.2 + (M'.2.1.2.1 + 11)) 100) && Nat.ble (cz_cat2 q.2.1) M'.2.1.2.1 then (match ih (Nat.pred d) M' 0 (cz_argl 0 q.2.1) [] y with
    | some (.inl (none, y')) => dz_fn (Nat.add pc 3) (fun p => ih d M p L q.2.2 y')
    | some (.inl (some w, y')) => dz_fn (Nat.add pc 3) (fun p => ih d M p L (w :: q.2.2) y')
    | _ => none) else none
  | none => none
noncomputable def yz_a10 (x : Nat) : Option yR := match cz_throw M pc i with
  | some _ => none
  | none => yz_h ih d M L i len (yz_hnew M x pc st y)
noncomputable def yz_a14 (x : Nat) : Option yR := bif Nat.beq len (cz_len i) then (match yz_hobj M d x pc st y with
  | some q => dz_fn q.1 (fun p => ih d M p L q.2.1 q.2.2)
  | none => match cz_cI x M st with
    | some q => yz_cl ih d M pc L y q
    | none => none) else none
noncomputable def yz_a15 : Option yR := match cz_br i pc st with
  | some q => bif Nat.beq len (cz_len i) || cz_isw i then dz_fn q.1 (fun p => ih d M p L q.2 y) else none
  | none => none
noncomputable def yz_a17 : Option yR := bif Nat.beq len (cz_len i) then (match cz_ret i M.2.1.2.2.1 st with
  | some v => some (.inl (v, y))
  | none => none) else none
noncomputable def yz_da (k x : Nat) : Option yR := bif Nat.beq k 1 then yz_a1 ih d M pc L st y i len x else bif Nat.beq k 2 then yz_a2 ih d M pc L st y i len x else bif Nat.beq k 3 then yz_a3 ih d M pc L st y i len else bif Nat.beq k 4 then yz_g ih d M pc L (yz_cv i :: st) y i len else bif Nat.beq k 5 then yz_a5 ih d M pc L st y i len x else yz_s ih d M pc L st y i len
noncomputable def yz_db (k x : Nat) : Option yR := bif Nat.beq k 8 then yz_h ih d M L i len (yz_hget M x pc st y) else bif Nat.beq k 9 then yz_h ih d M L i len (yz_hput M x pc st y) else bif Nat.beq k 10 then yz_a10 ih d M pc L st y i len x else bif Nat.beq k 11 then yz_h ih d M L i len (yz_hnq M x pc st y) else yz_s ih d M pc L st y i len
noncomputable def yz_dd (k x : Nat) : Option yR := bif Nat.beq k 13 then yz_h ih d M L i len (yz_hst pc st y) else bif Nat.beq k 14 then yz_a14 ih d M pc L st y i len x else bif Nat.beq k 15 then yz_a15 ih d M pc L st y i len else bif Nat.beq k 17 then yz_a17 M st y i len else yz_s ih d M pc L st y i len
noncomputable def yz_s2 : Option yR := bif Nat.ble (yz_dc i).1 5 then yz_da ih d M pc L st y i len (yz_dc i).1 (yz_dc i).2 else bif Nat.ble (yz_dc i).1 12 then yz_db ih d M pc L st y i len (yz_dc i).1 (yz_dc i).2 else yz_dd ih d M pc L st y i len (yz_dc i).1 (yz_dc i).2
end YzS
section YzS2
variable {ih : yIh} {d : Nat} {M : cz_M} {pc : Nat} {L : List (Nat × cz_V)} {st : List cz_V} {y : yH} {i : Instr} {len : Nat} {R : yR}
/-- an instruction of plain values -/
theorem yz_gp {q : List (Nat × cz_V) × List cz_V} (h : yz_g ih d M pc q.1 q.2 y i len = some R) (e : cz_pure i M.2.1.2.1 L st = some q) : yz_s ih d M pc L st y i len = some R := by
  unfold yz_s
  rw [e]
  exact h
/-- an instruction on cells -/
theorem yz_gh {o : Option yN} (h : yz_h ih d M L i len o = some R) (e1 : cz_pure i M.2.1.2.1 L st = none) (e2 : cz_br i pc st = none) (e3 : cz_ret i M.2.1.2.2.1 st = none) (e4 : cz_throw M pc i = none) (e5 : yz_hp M d pc st y i = o) : yz_s ih d M pc L st y i len = some R := by
  unfold yz_h at h
  unfold yz_s
  rw [e1, e2]
  cases hl : Nat.beq len (cz_len i) with
  | false => rw [hl] at h; cases h
  | true =>
    rw [hl, cond_true] at h
    simp only [cond_true]
    rw [e3, e4, e5]
    cases o with
    | none => cases h
    | some q => exact h
theorem yz_s2_ok (h : yz_s2 ih d M pc L st y i len = some R) : yz_s ih d M pc L st y i len = some R := by
  cases i
  case aload_n k =>
    have h : yz_a1 ih d M pc L st y (.aload_n k) len k = some R := h
    unfold yz_a1 at h
    split at h
    · rename_i v hv
      exact yz_gp (q := (L, v :: st)) h (by show (cz_ld L k cz_isR).map (fun v => (L, v :: st)) = _; rw [hv]; rfl)
    · cases h
  case aload k =>
    have h : yz_a1 ih d M pc L st y (.aload k) len k = some R := h
    unfold yz_a1 at h
    split at h
    · rename_i v hv
      exact yz_gp (q := (L, v :: st)) h (by show (cz_ld L k cz_isR).map (fun v => (L, v :: st)) = _; rw [hv]; rfl)
    · cases h
  case iload_n k =>
    have h : yz_a2 ih d M pc L st y (.iload_n k) len k = some R := h
    unfold yz_a2 at h
    split at h
    · rename_i v hv
      exact yz_gp (q := (L, v :: st)) h (by show (cz_ld L k cz_isI).map (fun v => (L, v :: st)) = _; rw [hv]; rfl)
    · cases h
  case iload k =>
    have h : yz_a2 ih d M pc L st y (.iload k) len k = some R := h
    unfold yz_a2 at h
    split at h
    · rename_i v hv
      exact yz_gp (q := (L, v :: st)) h (by show (cz_ld L k cz_isI).map (fun v => (L, v :: st)) = _; rw [hv]; rfl)
    · cases h
  case dup =>
    have h : yz_a3 ih d M pc L st y .dup len = some R := h
    cases st with
    | nil => cases h
    | cons v r =>
      have h : (bif cz_lg v then none else yz_g ih d M pc L (v :: v :: r) y .dup len) = some R := h
      cases hg : cz_lg v with
      | true => rw [hg] at h; cases h
      | false =>
        rw [hg] at h
        exact yz_gp (q := (L, v :: v :: r)) h (by show (bif cz_lg v then none else some (L, v :: v :: r)) = _; rw [hg]; rfl)
  case iconst n =>
    have h : yz_g ih d M pc L (yz_cv (.iconst n) :: st) y (.iconst n) len = some R := h
    exact yz_gp (q := (L, yz_cv (.iconst n) :: st)) h rfl
  case bipush n =>
    have h : yz_g ih d M pc L (yz_cv (.bipush n) :: st) y (.bipush n) len = some R := h
    exact yz_gp (q := (L, yz_cv (.bipush n) :: st)) h rfl
  case sipush n =>
    have h : yz_g ih d M pc L (yz_cv (.sipush n) :: st) y (.sipush n) len = some R := h
    exact yz_gp (q := (L, yz_cv (.sipush n) :: st)) h rfl
  case aconst_null =>
    have h : yz_g ih d M pc L (yz_cv .aconst_null :: st) y .aconst_null len = some R := h
    exact yz_gp (q := (L, yz_cv .aconst_null :: st)) h rfl
  case astore_n k =>
    have h : yz_a5 ih d M pc L st y (.astore_n k) len k = some R := h
    cases st with
    | nil => cases h
    | cons v r =>
      obtain a | a | a := v
      · cases h
      · cases h
      · have h : (bif Nat.blt k M.2.1.2.1 then yz_g ih d M pc (cz_sto L k (.inr (.inr a))) r y (.astore_n k) len else none) = some R := h
        cases hg : Nat.blt k M.2.1.2.1 with
        | false => rw [hg] at h; cases h
        | true =>
          rw [hg] at h
          exact yz_gp (q := (cz_sto L k (.inr (.inr a)), r)) h (by show (bif Nat.blt k M.2.1.2.1 then some (cz_sto L k (.inr (.inr a)), r) else none) = _; rw [hg]; rfl)
  case getfield x => exact yz_gh (o := yz_hget M x pc st y) h rfl rfl (by cases st <;> rfl) rfl rfl
  case putfield x => exact yz_gh (o := yz_hput M x pc st y) h rfl rfl (by cases st <;> rfl) rfl rfl
  case anewarray x => exact yz_gh (o := yz_hnq M x pc st y) h rfl rfl (by cases st <;> rfl) rfl rfl
  case aastore => exact yz_gh (o := yz_hst pc st y) h rfl rfl (by cases st <;> rfl) rfl rfl
  case new x =>
    have h : yz_a10 ih d M pc L st y (.new x) len x = some R := h
    unfold yz_a10 at h
    split at h
    · cases h
    · rename_i ht
      exact yz_gh (o := yz_hnew M x pc st y) h rfl rfl (by cases st <;> rfl) ht rfl
  case invokespecial x =>
    have h : yz_a14 ih d M pc L st y (.invokespecial x) len x = some R := h
    unfold yz_a14 at h
    unfold yz_s
    rw [show cz_pure (.invokespecial x) M.2.1.2.1 L st = none from rfl, show cz_br (.invokespecial x) pc st = none from rfl]
    cases hl : Nat.beq len (cz_len (.invokespecial x)) with
    | false => rw [hl] at h; cases h
    | true =>
      rw [hl, cond_true] at h
      simp only [cond_true]
      rw [show cz_ret (.invokespecial x) M.2.1.2.2.1 st = none by cases st <;> rfl, show cz_throw M pc (.invokespecial x) = none from rfl, show yz_hp M d pc st y (.invokespecial x) = yz_hobj M d x pc st y from rfl, show yz_call (.invokespecial x) M st y = cz_cI x M st from rfl]
      exact h
  case if_icmp c o =>
    have h : yz_a15 ih d M pc L st y (.if_icmp c o) len = some R := h
    unfold yz_a15 at h
    split at h
    · rename_i q hq
      unfold yz_s
      rw [show cz_pure (.if_icmp c o) M.2.1.2.1 L st = none from rfl, hq]
      exact h
    · cases h
  case goto o =>
    have h : yz_a15 ih d M pc L st y (.goto o) len = some R := h
    unfold yz_a15 at h
    split at h
    · rename_i q hq
      unfold yz_s
      rw [show cz_pure (.goto o) M.2.1.2.1 L st = none from rfl, hq]
      exact h
    · cases h
  case return_ =>
    have h : yz_a17 M st y .return_ len = some R := h
    unfold yz_a17 at h
    unfold yz_s
    rw [show cz_pure .return_ M.2.1.2.1 L st = none from rfl, show cz_br .return_ pc st = none from rfl]
    cases hl : Nat.beq len (cz_len .return_) with
    | false => rw [hl] at h; cases h
    | true =>
      rw [hl, cond_true] at h
      simp only [cond_true]
      split at h
      · exact h
      · cases h
  all_goals exact h
end YzS2
noncomputable def yz_x (sp : Nat) (n : Nat) : yIh := Nat.rec (motive := fun _ => yIh) (fun _ _ _ _ _ _ => none) (fun _ ih d M pc L st y => bif Nat.beq d sp && Nat.beq pc 23 then some (.inr (L, st, y)) else (match cz_code M pc with
  | some q => yz_s2 ih d M pc L st y q.1 q.2
  | none => none)) n
def yz_P (m : Nat → cz_C) (d : Nat) (M : cz_M) (pc : Nat) (L : List (Nat × cz_V)) (st : List cz_V) (y : yH) (R : yR) : Prop := match R with
  | .inl F => yz_k F.2 ∧ ∀ Q : cz_F → Prop, Q (.inl F.1, yz_b m F.2) → dz_WP cz_pg d M pc L st (yz_b m y) Q
  | .inr S => yz_k S.2.2 ∧ ∀ Q : cz_F → Prop, dz_WP cz_pg d M 23 S.1 S.2.1 (yz_b m S.2.2) Q → dz_WP cz_pg d M pc L st (yz_b m y) Q
theorem yz_P.via {m : Nat → cz_C} {d : Nat} {M : cz_M} {pc pc' : Nat} {L L' : List (Nat × cz_V)} {st st' : List cz_V} {y y' : yH} {R : yR} (h : yz_P m d M pc' L' st' y' R) (k : ∀ Q, dz_WP cz_pg d M pc' L' st' (yz_b m y') Q → dz_WP cz_pg d M pc L st (yz_b m y) Q) : yz_P m d M pc L st y R := by
  cases R with
  | inl F => exact ⟨h.1, fun Q q => k Q (h.2 Q q)⟩
  | inr S => exact ⟨h.1, fun Q q => k Q (h.2 Q q)⟩
theorem yz_ok {m : Nat → cz_C} {sp : Nat} (hm : ∀ v, 1 ≤ v → v ≤ 51 → ∃ l, m v = .inr (.inl (15, l))) : ∀ (n d : Nat) (M : cz_M) (pc : Nat) (L : List (Nat × cz_V)) (st : List cz_V) (y : yH) (R : yR), yz_k y → yz_x sp n d M pc L st y = some R → yz_P m d M pc L st y R
  | 0, d, M, pc, L, st, y, R, _, h => by cases h
  | n + 1, d, M, pc, L, st, y, R, hk, h => by
    have ih := yz_ok (sp := sp) hm n
    have h : (bif Nat.beq d sp && Nat.beq pc 23 then some (.inr (L, st, y)) else (match cz_code M pc with
      | some q => yz_s2 (yz_x sp n) d M pc L st y q.1 q.2
      | none => none)) = some R := h
    cases hs : (Nat.beq d sp && Nat.beq pc 23) with
    | true =>
      rw [hs, cond_true] at h
      cases h
      rw [Bool.and_eq_true] at hs
      have := Nat.eq_of_beq_eq_true hs.2
      subst this
      exact ⟨hk, fun Q q => q⟩
    | false =>
      rw [hs, cond_false] at h
      split at h
      · rename_i q hc
        obtain ⟨i, len⟩ := q
        have h := yz_s2_ok h
        unfold yz_s at h
        dsimp only at h
        split at h
        · rename_i q hp
          cases hl : Nat.beq len (cz_len i) with
          | false => rw [hl] at h; cases h
          | true =>
            rw [hl, cond_true, dz_fn_eq, yz_fs_eq] at h
            exact (ih _ _ _ _ _ _ _ hk h).via (fun Q w => dz_wp_pure hc hl hp w)
        · rename_i hp
          split at h
          · rename_i q hb
            cases hl : (Nat.beq len (cz_len i) || cz_isw i) with
            | false => rw [hl] at h; cases h
            | true =>
              rw [hl, cond_true, dz_fn_eq] at h
              exact (ih _ _ _ _ _ _ _ hk h).via (fun Q w => dz_wp_br hc hl hp hb w)
          · rename_i hb
            cases hl : Nat.beq len (cz_len i) with
            | false => rw [hl] at h; cases h
            | true =>
              rw [hl, cond_true] at h
              split at h
              · rename_i v hr
                cases h
                exact ⟨hk, fun Q w => dz_wp_ret hc hl hp hb hr w⟩
              · rename_i hr
                split at h
                · cases h
                · rename_i ht
                  split at h
                  · rename_i q hh
                    rw [dz_fn_eq] at h
                    obtain ⟨g1, g2⟩ := yz_hp_ok (m := m) hm hk hh
                    exact (ih _ _ _ _ _ _ _ g2 h).via (fun Q w => dz_wp_hp hc hl hp hb hr ht g1 w)
                  · split at h
                    · rename_i q hca
                      obtain ⟨c1, c2⟩ := yz_call_ok (m := m) (d := d) (pc := pc) hk hca
                      split at h
                      · rename_i M' hM
                        rw [dz_nth_eq] at hM
                        have hM : cz_pg.1[q.1]? = some M' := hM
                        cases hz : (((Nat.blt 0 d && yz_room y 0 0) && Nat.ble (cz_cat2 q.2.2 + (M'.2.1.2.1 + 11)) 100) && Nat.ble (cz_cat2 q.2.1) M'.2.1.2.1) with
                        | false => rw [hz] at h; cases h
                        | true =>
                          rw [hz, cond_true] at h
                          simp only [Bool.and_eq_true] at hz
                          obtain ⟨⟨⟨z1, z2⟩, z3⟩, z4⟩ := hz
                          have hcond : ((Nat.blt 0 d && cz_room (yz_b m y) 0 0) && Nat.ble (cz_cat2 q.2.2 + (M'.2.1.2.1 + 11)) 100 && Nat.ble (cz_cat2 q.2.1) M'.2.1.2.1) = true := by
                            rw [z1, (yz_room_ok (m := m) z2).1, z3, z4]; rfl
                          split at h
                          · rename_i y' hx
                            rw [dz_fn_eq] at h
                            obtain ⟨k1, k2⟩ := ih _ _ _ _ _ _ _ hk hx
                            exact (ih _ _ _ _ _ _ _ k1 h).via (fun Q w => dz_wp_call hc hl hp hb hr ht c1 (as := q.2.1) (rest := q.2.2) c2 hM hcond (k2 _ (dz_wp_back (o := none) w)))
                          · rename_i v y' hx
                            rw [dz_fn_eq] at h
                            obtain ⟨k1, k2⟩ := ih _ _ _ _ _ _ _ hk hx
                            exact (ih _ _ _ _ _ _ _ k1 h).via (fun Q w => dz_wp_call hc hl hp hb hr ht c1 (as := q.2.1) (rest := q.2.2) c2 hM hcond (k2 _ (dz_wp_back (o := some v) w)))
                          · cases h
                      · cases h
                    · cases h
      · cases h
/-! The law's start: the cells that the constructors leave. -/
noncomputable def yz_c (y : yH) (r : Nat) : yC := yz_tg 10 y.2.2 (Nat.sub r 192)
set_option maxRecDepth 20000 in
theorem yz_b_at {m : Nat → cz_C} {y : yH} {r : Nat} (h1 : 192 ≤ r) (h2 : r < 1216) : (yz_b m y).2.2 r = yz_e (yz_c y r) := by
  show (if r < 192 then _ else if r < 1216 then _ else _) = _
  rw [if_neg (by omega), if_pos h2]
  rfl
noncomputable def yI (y : yH) (r i : Nat) : Int := match yz_c y r with
  | .inl q => bif Nat.blt i q.2.1 then dz_n (yz_at (yzDf q.1) i q.2.2) else 0
  | .inr q => (match q.2[i]? with
    | some v => dz_n v
    | none => 0)
noncomputable def yNn (y : yH) (r : Nat) : Int := match yz_c y r with
  | .inl q => (q.2.1 : Int)
  | .inr _ => 0
theorem yI_ok {m : Nat → cz_C} {y : yH} {r i : Nat} (h1 : 192 ≤ r) (h2 : r < 1216) : qz_I (yz_b m y) r i = yI y r i := by
  unfold qz_I yI
  rw [yz_b_at h1 h2]
  cases yz_c y r with
  | inl q =>
    show (match (if i < q.2.1 then some (yz_at (yzDf q.1) i q.2.2) else none) with
      | some v => dz_n v
      | none => 0) = bif Nat.blt i q.2.1 then dz_n (yz_at (yzDf q.1) i q.2.2) else 0
    by_cases e : i < q.2.1
    · rw [if_pos e, Nat.blt_eq.mpr e]; rfl
    · rw [if_neg e, show Nat.blt i q.2.1 = false from Bool.eq_false_iff.mpr (fun w => e (Nat.blt_eq.mp w))]; rfl
  | inr q => rfl
theorem yN_ok {m : Nat → cz_C} {y : yH} {r : Nat} (h1 : 192 ≤ r) (h2 : r < 1216) : qz_N (yz_b m y) r = yNn y r := by
  unfold qz_N yNn
  rw [yz_b_at h1 h2]
  cases yz_c y r with
  | inl q => rfl
  | inr q => rfl
noncomputable def yz_m4 (k r : Nat) (x : Int) : Bool := (!(Nat.beq k 1) || (decide (x = 0) || decide ((r : Int) + 1 < x))) && ((!(Nat.beq k 3) || decide (x = (r : Int) + 2)) && (!(Nat.beq k 4) || decide (x = (r : Int) + 3)))
noncomputable def yz_tg1 (t : Nat) (v : cz_V) : Bool := match v with
  | .inr (.inr (some p)) => Nat.beq (tz_ex p) t && !(Nat.beq t 0)
  | _ => true
noncomputable def yz_vd (r : Nat) (D : dz_D) (v : cz_V) : Bool := (cz_fitc D.1 v && (Nat.beq D.1 2 || (decide (D.2.1 ≤ dz_n v) && decide (dz_n v ≤ D.2.2.1)))) && ((Nat.beq D.2.2.2.2 2 || yz_tg1 D.2.2.2.1 v) && yz_m4 D.2.2.2.2 r (dz_n v))
theorem yz_vd_ok {r : Nat} {D : dz_D} {v : cz_V} (h : yz_vd r D v = true) : dz_vd tz_ex r D v := by
  simp only [yz_vd, yz_m4, Bool.and_eq_true, Bool.or_eq_true, Bool.not_eq_true', decide_eq_true_eq] at h
  obtain ⟨⟨h1, h2⟩, h3, h4, h5, h6⟩ := h
  refine ⟨h1, h2.imp Nat.eq_of_beq_eq_true id, h3.imp Nat.eq_of_beq_eq_true (fun w p hp => ?_), ?_, ?_, ?_⟩
  · subst hp
    have w : (Nat.beq (tz_ex p) D.2.2.2.1 && !(Nat.beq D.2.2.2.1 0)) = true := w
    rw [Bool.and_eq_true, Bool.not_eq_true'] at w
    exact ⟨Nat.eq_of_beq_eq_true w.1, fun e => by rw [e] at w; cases w.2⟩
  · rcases h4 with e | e
    · exact Or.inl (fun w => by rw [w] at e; cases e)
    · exact Or.inr e
  · rcases h5 with e | e
    · exact Or.inl (fun w => by rw [w] at e; cases e)
    · exact Or.inr e
  · rcases h6 with e | e
    · exact Or.inl (fun w => by rw [w] at e; cases e)
    · exact Or.inr e
noncomputable def yz_zip (r : Nat) (ds : List dz_D) : List cz_V → Bool := List.rec (fun vs => vs.isEmpty) (fun D _ ih vs => match vs with
  | v :: vs => yz_vd r D v && ih vs
  | [] => false) ds
theorem yz_zip_ok {r : Nat} : ∀ {ds : List dz_D} {vs : List cz_V}, yz_zip r ds vs = true → vs.length = ds.length ∧ ∀ (i : Nat) v, vs[i]? = some v → ∃ D, ds[i]? = some D ∧ dz_vd tz_ex r D v
  | [], vs, h => by
    have h : vs.isEmpty = true := h
    rw [List.isEmpty_iff] at h
    subst h
    exact ⟨rfl, fun i v hv => by cases hv⟩
  | D :: ds, vs, h => by
    cases vs with
    | nil => cases h
    | cons v vs =>
      have h : (yz_vd r D v && yz_zip r ds vs) = true := h
      rw [Bool.and_eq_true] at h
      obtain ⟨h1, h2⟩ := yz_zip_ok h.2
      refine ⟨by rw [List.length_cons, List.length_cons, h1], fun i w hw => ?_⟩
      cases i with
      | zero => cases hw; exact ⟨D, rfl, yz_vd_ok h.1⟩
      | succ i => exact h2 i w hw
theorem yz_at_mem {z : cz_V} {j : Nat} : ∀ {ws : List (Nat × cz_V)}, yz_at z j ws = z ∨ ∃ w ∈ ws, yz_at z j ws = w.2
  | [] => Or.inl rfl
  | q :: ws => by
    have e : yz_at z j (q :: ws) = (bif Nat.beq j q.1 then q.2 else yz_at z j ws) := rfl
    cases hb : Nat.beq j q.1 with
    | true => rw [e, hb]; exact Or.inr ⟨q, List.mem_cons_self, rfl⟩
    | false =>
      rw [e, hb]
      rcases yz_at_mem (z := z) (j := j) (ws := ws) with w | ⟨w, w1, w2⟩
      · exact Or.inl w
      · exact Or.inr ⟨w, List.mem_cons_of_mem _ w1, w2⟩
noncomputable def yz_cok (r : Nat) (c : yC) : Bool := match tz_T (tz_ex r) with
  | some ti => (match c with
    | .inl q => (Nat.beq ti.1 1 && Nat.beq q.1 ti.2.1) && ((decide (ti.2.2.2.1.1 ≤ (q.2.1 : Int)) && decide ((q.2.1 : Int) ≤ ti.2.2.2.1.2)) && (match dz_nth ti.2.2.2.2 0 with
      | some D => (yz_vd r D (yzDf q.1) && q.2.2.all (fun w => yz_vd r D w.2)) || (List.range q.2.1).all (fun i => yz_vd r D (yz_at (yzDf q.1) i q.2.2))
      | none => false))
    | .inr q => (Nat.beq ti.1 0 && Nat.beq q.1 ti.2.1) && yz_zip r ti.2.2.2.2 q.2)
  | none => false
set_option maxRecDepth 20000 in
theorem yz_cok_ok {m : Nat → cz_C} {y : yH} {r : Nat} (h1 : 192 ≤ r) (h2 : r < 1216) (h : yz_cok r (yz_c y r) = true) : dz_cf tz_T tz_ex (yz_b m y) r := by
  unfold yz_cok at h
  split at h
  · rename_i ti hti
    refine ⟨ti, hti, ?_⟩
    rw [yz_b_at h1 h2]
    cases hc : yz_c y r with
    | inl q =>
      rw [hc] at h
      have h : ((Nat.beq ti.1 1 && Nat.beq q.1 ti.2.1) && ((decide (ti.2.2.2.1.1 ≤ (q.2.1 : Int)) && decide ((q.2.1 : Int) ≤ ti.2.2.2.1.2)) && (match dz_nth ti.2.2.2.2 0 with
        | some D => (yz_vd r D (yzDf q.1) && q.2.2.all (fun w => yz_vd r D w.2)) || (List.range q.2.1).all (fun i => yz_vd r D (yz_at (yzDf q.1) i q.2.2))
        | none => false))) = true := h
      simp only [Bool.and_eq_true, decide_eq_true_eq] at h
      obtain ⟨⟨a1, a2⟩, ⟨a3, a4⟩, a5⟩ := h
      have a1 := Nat.eq_of_beq_eq_true a1
      refine ⟨⟨a1, Nat.eq_of_beq_eq_true a2, a3, a4⟩, Or.inr h1, fun i v hv => ?_⟩
      split at a5
      · rename_i D hD
        rw [Bool.or_eq_true] at a5
        refine ⟨D, ?_, ?_⟩
        · unfold dz_ds
          rw [a1]
          exact hD
        · have hv : (if i < q.2.1 then some (yz_at (yzDf q.1) i q.2.2) else none) = some v := hv
          by_cases e : i < q.2.1
          · rw [if_pos e] at hv
            cases hv
            rcases a5 with a5 | a5
            · rw [Bool.and_eq_true] at a5
              rcases yz_at_mem (z := yzDf q.1) (j := i) (ws := q.2.2) with w | ⟨w, w1, w2⟩
              · rw [w]; exact yz_vd_ok a5.1
              · rw [w2]; exact yz_vd_ok (List.all_eq_true.mp a5.2 w w1)
            · exact yz_vd_ok (List.all_eq_true.mp a5 i (List.mem_range.mpr e))
          · rw [if_neg e] at hv; cases hv
      · cases a5
    | inr q =>
      rw [hc] at h
      have h : ((Nat.beq ti.1 0 && Nat.beq q.1 ti.2.1) && yz_zip r ti.2.2.2.2 q.2) = true := h
      simp only [Bool.and_eq_true] at h
      obtain ⟨⟨a1, a2⟩, a3⟩ := h
      have a1 := Nat.eq_of_beq_eq_true a1
      obtain ⟨z1, z2⟩ := yz_zip_ok a3
      refine ⟨⟨a1, Nat.eq_of_beq_eq_true a2, z1⟩, Or.inr h1, fun i v hv => ?_⟩
      obtain ⟨D, d1, d2⟩ := z2 i v hv
      refine ⟨D, ?_, d2⟩
      unfold dz_ds
      rw [a1]
      show dz_nth _ i = _
      rw [dz_nth_eq]
      exact d1
  · cases h
noncomputable def yz_lq (L : List (Nat × cz_V)) (j p : Nat) : Bool := match cz_find j L with
  | some (.inr (.inr (some r))) => Nat.beq r p
  | _ => false
theorem yz_lq_ok {L : List (Nat × cz_V)} {j p : Nat} (h : yz_lq L j p = true) : cz_find j L = some (.inr (.inr (some p))) := by
  unfold yz_lq at h
  split at h
  · rename_i r hr
    rw [hr, Nat.eq_of_beq_eq_true h]
  · cases h
noncomputable def yz_l0 (L : List (Nat × cz_V)) (j : Nat) : Bool := match cz_find j L with
  | some (.inl a) => decide (a = 0)
  | _ => false
theorem yz_l0_ok {L : List (Nat × cz_V)} {j : Nat} (h : yz_l0 L j = true) : cz_find j L = some (.inl 0) := by
  unfold yz_l0 at h
  split at h
  · rename_i a ha
    rw [ha, of_decide_eq_true h]
  · cases h
noncomputable def yz_nw (y : yH) (r : Nat) : Bool := match yz_c y r with
  | .inl q => q.2.2.isEmpty && Nat.beq q.1 0
  | .inr _ => false
theorem yz_nw_ok {y : yH} {r : Nat} (h : yz_nw y r = true) (j : Nat) : yI y r j = 0 := by
  unfold yz_nw at h
  unfold yI
  split at h
  · rename_i q hq
    rw [Bool.and_eq_true] at h
    have e1 := List.isEmpty_iff.mp h.1
    have e2 := Nat.eq_of_beq_eq_true h.2
    show (bif Nat.blt j q.2.1 then dz_n (yz_at (yzDf q.1) j q.2.2) else 0) = 0
    rw [e1, e2]
    cases Nat.blt j q.2.1 <;> rfl
  · cases h
def yz_i : List (Nat × Nat × Int) := [(192, 1, 0), (202, 1, 1), (202, 4, 0), (202, 5, 0), (202, 6, 0), (206, 2, 0), (206, 3, 0), (207, 0, 0), (207, 1, 207), (207, 2, 0), (770, 2, 0), (770, 7, 0), (770, 8, 0), (770, 9, 784), (770, 10, 0), (770, 11, 785), (770, 12, 0), (770, 21, 792), (770, 22, 793), (770, 23, 0), (770, 24, 794), (770, 25, 0), (770, 27, 796), (770, 28, 0), (770, 35, 801), (770, 36, 0), (770, 38, 803), (770, 39, 804), (770, 40, 805), (206, 1, 17262), (206, 5, (-1)), (206, 6, (-1)), (206, 7, (-1)), (207, 3, 0), (207, 4, 0), (207, 5, 0), (207, 6, 0), (207, 7, 0), (207, 8, 0), (195, 0, 755), (195, 1, 757), (195, 2, 759), (195, 3, 761), (195, 4, 763), (195, 5, 765), (195, 6, 767), (195, 7, 769), (773, 0, 775), (773, 1, 776), (773, 2, 777), (773, 3, 778), (773, 4, 779), (773, 5, 780), (773, 6, 781), (773, 7, 782), (754, 1, 0), (756, 1, 0), (758, 1, 0), (760, 1, 0), (762, 1, 0), (764, 1, 0), (766, 1, 0), (768, 1, 0), (782, 0, 0), (782, 1, 0), (782, 2, 0), (782, 3, 0), (782, 4, 0), (782, 5, 0), (782, 6, 0), (782, 7, 0), (785, 0, 8), (785, 1, 9), (785, 2, 10), (785, 3, 11), (785, 4, 12), (785, 5, 13), (785, 6, 14), (785, 7, 15), (785, 8, 16), (786, 0, 17), (786, 1, 18), (786, 2, 19), (786, 3, 20), (786, 4, 21), (786, 5, 22), (787, 0, 23), (787, 1, 24), (787, 2, 25), (787, 3, 26), (787, 4, 27), (787, 5, 28), (787, 6, 29), (787, 7, 30), (787, 8, 31), (787, 9, 32), (787, 10, 33), (787, 11, 34), (787, 12, 35), (787, 13, 36), (788, 0, 23), (788, 1, 24), (788, 2, 25), (788, 3, 37), (788, 4, 27), (788, 5, 28), (788, 6, 29), (788, 7, 38), (788, 8, 39), (788, 9, 40), (788, 10, 41), (788, 11, 42), (788, 12, 43), (788, 13, 44), (788, 14, 45), (788, 15, 46), (788, 16, 47), (788, 17, 48), (788, 18, 49)]
theorem yzsl1 : ∀ t : Fin 8, (195, t.val, 755 + 2 * (t.val : Int)) ∈ yz_i := by decide +kernel
theorem yzsl2 : ∀ t : Fin 8, (773, t.val, 775 + (t.val : Int)) ∈ yz_i := by decide +kernel
theorem yzsl3 : ∀ t : Fin 8, (754 + 2 * t.val, 1, 0) ∈ yz_i := by decide +kernel
theorem yzsl4 : ∀ t : Fin 8, (782, t.val, 0) ∈ yz_i := by decide +kernel
theorem yz_sl (t : Nat) (ht : t < 8) : (195, t, 755 + 2 * (t : Int)) ∈ yz_i ∧ (773, t, 775 + (t : Int)) ∈ yz_i ∧ (754 + 2 * t, 1, 0) ∈ yz_i ∧ (782, t, 0) ∈ yz_i := ⟨yzsl1 ⟨t, ht⟩, yzsl2 ⟨t, ht⟩, yzsl3 ⟨t, ht⟩, yzsl4 ⟨t, ht⟩⟩
theorem nmx_l : ∀ i : Fin 4, ∀ k, k < (nmN (785 + i.val)).length → (785 + i.val, k, ((nmN (785 + i.val)).getD k 0 : Int) + 1) ∈ yz_i := by decide +kernel
def yz_n : List (Nat × Int) := [(783, 1024), (784, 64), (785, 9), (786, 6), (787, 14), (788, 19), (791, 64), (792, 64), (793, 64), (795, 64), (800, 1024), (802, 1024), (803, 1024), (804, 1024)]
noncomputable def yz_chk (S : List (Nat × cz_V) × List cz_V × yH) : Bool :=
  (S.2.1.isEmpty && (yz_lq S.1 1 192 && (yz_lq S.1 2 770 && (yz_lq S.1 3 805 && (yz_lq S.1 0 0 && yz_l0 S.1 4))))) && ((Nat.beq S.2.2.1 806 && Nat.beq S.2.2.2.1 329378) && ((List.range 614).all (fun k => yz_cok (Nat.add 192 k) (yz_c S.2.2 (Nat.add 192 k))) && (yz_i.all (fun q => decide (yI S.2.2 q.1 q.2.1 = q.2.2)) && (yz_n.all (fun q => decide (yNn S.2.2 q.1 = q.2)) && ((List.range 513).all (fun k => decide (yI S.2.2 203 k = (((Nat.add 208 k) : Nat) : Int))) && (([(785, 9), (786, 6), (787, 14), (788, 19)] : List (Nat × Nat)).all (fun q => (List.range q.2).all (fun k => (nzL (yI S.2.2 q.1 k - 1).toNat).isSome)) && (yz_nw S.2.2 193 && yz_nw S.2.2 771)))))))
noncomputable def yz_0 : yH := (192, 9199, yz_t0 10)
/-! The law's start: what lies below the constructors, and the whole run. -/
def yp (r : Nat) : Nat := if r ≤ 50 then 63 + r else 113
def yl (r : Nat) : List Int := (nzL (if r ≤ 113 then r - 63 else 50)).getD []
/-- the script, the strings, their bytes -/
def ym (L : Nat) (xs : Nat → Int32) (hs hz : Nat → Int32) : Nat → cz_C := fun r => if r = 0 then .inl (1, L, fun j => .inl (xs j)) else if r ≤ 51 then .inr (.inl (15, [.inr (.inr (some (yp r))), .inl 0, .inl (hs r), .inl (hz r)])) else if 64 ≤ r ∧ r ≤ 114 then .inl (0, (yl r).length, fun j => .inl (Int32.ofInt ((yl r).getD j 0))) else .inr (.inr 9)
theorem yl_all : ∀ r, r < 51 → (((nzL r).getD []).all (fun v => decide (0 ≤ v) && decide (v ≤ 127)) && Nat.ble ((nzL r).getD []).length 200) = true := by decide +kernel
theorem yl_ok (r : Nat) : (∀ v ∈ yl r, 0 ≤ v ∧ v ≤ 127) ∧ (yl r).length ≤ 200 := by
  have key : ∀ k, k < 51 → (∀ v ∈ (nzL k).getD [], 0 ≤ v ∧ v ≤ 127) ∧ ((nzL k).getD []).length ≤ 200 := fun k hk => by
    have w := yl_all k hk
    rw [Bool.and_eq_true, Nat.ble_eq] at w
    refine ⟨fun v hv => ?_, w.2⟩
    have := List.all_eq_true.mp w.1 v hv
    rw [Bool.and_eq_true, decide_eq_true_eq, decide_eq_true_eq] at this
    exact this
  unfold yl
  by_cases e : r ≤ 113
  · rw [if_pos e]; exact key _ (by omega)
  · rw [if_neg e]; exact key 50 (by decide)
theorem yl_get (r j : Nat) : 0 ≤ (yl r).getD j 0 ∧ (yl r).getD j 0 ≤ 127 := by
  rw [List.getD_eq_getElem?_getD]
  cases h : (yl r)[j]? with
  | none => exact ⟨Int.le_refl 0, by decide⟩
  | some v => exact (yl_ok r).1 v (List.mem_of_getElem? h)
theorem ex_low : ∀ r, r < 192 → tz_ex r ≠ 0 → (r = 0 ∧ tz_ex r = 34) ∨ ((1 ≤ r ∧ r ≤ 50) ∧ tz_ex r = 27) ∨ ((64 ≤ r ∧ r ≤ 113) ∧ tz_ex r = 28) := by decide +kernel
theorem ex_b : ∀ r, r < 51 → 1 ≤ r → tz_ex (63 + r) = 28 := by decide +kernel
def exL : List (Nat × Nat) := [(0, 34), (1, 27), (2, 27), (3, 27), (4, 27), (5, 27), (6, 27), (7, 27), (8, 27), (9, 27), (10, 27), (11, 27), (12, 27), (13, 27), (14, 27), (15, 27), (16, 27), (17, 27), (18, 27), (19, 27), (20, 27), (21, 27), (22, 27), (23, 27), (24, 27), (25, 27), (26, 27), (27, 27), (28, 27), (29, 27), (30, 27), (31, 27), (32, 27), (33, 27), (34, 27), (35, 27), (36, 27), (37, 27), (38, 27), (39, 27), (40, 27), (41, 27), (42, 27), (43, 27), (44, 27), (45, 27), (46, 27), (47, 27), (48, 27), (49, 27), (50, 27), (64, 28), (65, 28), (66, 28), (67, 28), (68, 28), (69, 28), (70, 28), (71, 28), (72, 28), (73, 28), (74, 28), (75, 28), (76, 28), (77, 28), (78, 28), (79, 28), (80, 28), (81, 28), (82, 28), (83, 28), (84, 28), (85, 28), (86, 28), (87, 28), (88, 28), (89, 28), (90, 28), (91, 28), (92, 28), (93, 28), (94, 28), (95, 28), (96, 28), (97, 28), (98, 28), (99, 28), (100, 28), (101, 28), (102, 28), (103, 28), (104, 28), (105, 28), (106, 28), (107, 28), (108, 28), (109, 28), (110, 28), (111, 28), (112, 28), (113, 28), (192, 44), (193, 45), (194, 46), (195, 47), (196, 1), (197, 2), (198, 1), (199, 2), (200, 1), (201, 2), (202, 48), (203, 49), (204, 50), (205, 51), (206, 3), (720, 52), (721, 53), (722, 54), (723, 55), (724, 56), (725, 57), (726, 58), (727, 59), (728, 60), (729, 61), (730, 62), (731, 63), (732, 64), (733, 65), (734, 66), (735, 67), (736, 68), (737, 69), (738, 70), (739, 71), (740, 72), (741, 73), (742, 74), (743, 38), (744, 10), (745, 1), (746, 2), (747, 11), (748, 12), (749, 10), (750, 1), (751, 2), (752, 11), (753, 12), (754, 88), (755, 89), (756, 88), (757, 89), (758, 88), (759, 89), (760, 88), (761, 89), (762, 88), (763, 89), (764, 88), (765, 89), (766, 88), (767, 89), (768, 88), (769, 89), (770, 75), (771, 76), (772, 77), (773, 78), (774, 37), (775, 37), (776, 37), (777, 37), (778, 37), (779, 37), (780, 37), (781, 37), (782, 79), (783, 17), (784, 18), (785, 26), (786, 26), (787, 26), (788, 26), (789, 80), (790, 81), (791, 19), (792, 20), (793, 21), (794, 82), (795, 22), (796, 83), (797, 84), (798, 85), (799, 86), (800, 23), (801, 87), (802, 24), (803, 25), (804, 25), (805, 35)]
theorem ex_eq (r : Nat) : tz_ex r = bif Nat.ble 207 r && Nat.ble r 719 then 4 else (match exL.find? (fun q => Nat.beq q.1 r) with
  | some q => q.2
  | none => 0) := rfl
set_option maxRecDepth 20000 in
theorem ex_hi (r : Nat) (hr : 806 ≤ r) : tz_ex r = 0 := by
  rw [ex_eq, show (Nat.ble 207 r && Nat.ble r 719) = false by rw [show Nat.ble r 719 = false from Bool.eq_false_iff.mpr (fun w => by have := Nat.ble_eq.mp w; omega), Bool.and_false], cond_false]
  split
  · rename_i q hq
    have h0 := List.find?_some hq
    have h1 := Nat.eq_of_beq_eq_true h0
    have h2 := List.mem_of_find?_eq_some hq
    exfalso
    have key : ∀ q ∈ exL, q.1 < 806 := by decide
    have := key q h2
    omega
  · rfl
set_option maxRecDepth 20000 in
theorem ex_13 (r : Nat) : tz_ex r ≠ 13 ∧ tz_ex r ≠ 15 := by
  rw [ex_eq]
  cases hb : (Nat.ble 207 r && Nat.ble r 719) with
  | true => rw [cond_true]; exact ⟨by decide, by decide⟩
  | false =>
    rw [cond_false]
    split
    · rename_i q hq
      have h2 := List.mem_of_find?_eq_some hq
      have key : ∀ q ∈ exL, q.2 ≠ 13 ∧ q.2 ≠ 15 := by decide
      exact key q h2
    · exact ⟨by decide, by decide⟩
section YzStart
variable {L : Nat} {xs hs hz : Nat → Int32} {S : List (Nat × cz_V) × List cz_V × yH}
theorem ym_str (v : Nat) (h1 : 1 ≤ v) (h2 : v ≤ 51) : ∃ l, ym L xs hs hz v = .inr (.inl (15, l)) := ⟨_, by unfold ym; rw [if_neg (by omega), if_pos h2]⟩
set_option maxRecDepth 20000 in
theorem yb_low {y : yH} {r : Nat} (h : r < 192) : (yz_b (ym L xs hs hz) y).2.2 r = ym L xs hs hz r := by
  show (if r < 192 then _ else _) = _
  rw [if_pos h]
theorem yz_B (hL : L ≤ 3072) (h01 : ∀ r, hz r = 0 ∨ hz r = 1) (hc : yz_chk S = true) : ez_B tz_ex (yz_b (ym L xs hs hz) S.2.2) := by
  simp only [yz_chk, Bool.and_eq_true] at hc
  obtain ⟨-, ⟨c1, c2⟩, c3, -⟩ := hc
  have c1 := Nat.eq_of_beq_eq_true c1
  have c2 := Nat.eq_of_beq_eq_true c2
  have hb1 : (yz_b (ym L xs hs hz) S.2.2).1 = 806 := c1
  refine ⟨fun r hr => ?_, ?_, by rw [hb1]; decide⟩
  · by_cases hlo : r < 192
    · have hh : cz_hereB (yz_b (ym L xs hs hz) S.2.2) r = true := by
        unfold cz_hereB
        rw [Bool.and_eq_true, Bool.or_eq_true, Nat.blt_eq, hb1]
        refine ⟨by omega, Or.inr ?_⟩
        unfold cz_ext
        rw [Bool.or_eq_true, Bool.and_eq_true, Nat.ble_eq, Nat.ble_eq, Nat.ble_eq]
        rcases ex_low r hlo hr with w | w | w <;> omega
      refine ⟨hh, ?_⟩
      rcases ex_low r hlo hr with ⟨w, e⟩ | ⟨⟨w1, w2⟩, e⟩ | ⟨⟨w1, w2⟩, e⟩
      · subst w
        refine ⟨_, by rw [e]; exact tq_34, ?_, Or.inl rfl, fun i v hv => ?_⟩
        · rw [yb_low hlo]
          refine ⟨rfl, rfl, ?_, ?_⟩
          · show (0 : Int) ≤ (L : Int); omega
          · show (L : Int) ≤ 3072; omega
        · rw [yb_low hlo] at hv
          have hv : (if i < L then some (.inl (xs i)) else none) = some v := hv
          by_cases e2 : i < L
          · rw [if_pos e2] at hv
            cases hv
            have b := sz_i32 (xs i)
            exact ⟨_, rfl, rfl, Or.inr b, Or.inr (fun p hp => by cases hp), Or.inl (by decide), Or.inl (by decide), Or.inl (by decide)⟩
          · rw [if_neg e2] at hv; cases hv
      · have em : ym L xs hs hz r = .inr (.inl (15, [.inr (.inr (some (63 + r))), .inl 0, .inl (hs r), .inl (hz r)])) := by
          unfold ym yp
          rw [if_neg (by omega), if_pos (by omega), if_pos w2]
        refine ⟨_, by rw [e]; exact tq_27, ?_, Or.inl rfl, fun i v hv => ?_⟩
        · rw [yb_low hlo, em]
          exact ⟨rfl, rfl, rfl⟩
        · rw [yb_low hlo, em] at hv
          have hv : ([.inr (.inr (some (63 + r))), .inl 0, .inl (hs r), .inl (hz r)] : List cz_V)[i]? = some v := hv
          match i, hv with
          | 0, hv =>
            cases hv
            exact ⟨_, rfl, rfl, Or.inr ⟨by show (1 : Int) ≤ ((63 + r : Nat) : Int) + 1; omega, by show ((63 + r : Nat) : Int) + 1 ≤ 1000000; omega⟩, Or.inr (fun p hp => by cases hp; exact ⟨ex_b r (by omega) w1, by decide⟩), Or.inl (by decide), Or.inl (by decide), Or.inl (by decide)⟩
          | 1, hv =>
            cases hv
            exact ⟨_, rfl, rfl, Or.inr ⟨by decide, by decide⟩, Or.inr (fun p hp => by cases hp), Or.inl (by decide), Or.inl (by decide), Or.inl (by decide)⟩
          | 2, hv =>
            cases hv
            have b := sz_i32 (hs r)
            exact ⟨_, rfl, rfl, Or.inr b, Or.inr (fun p hp => by cases hp), Or.inl (by decide), Or.inl (by decide), Or.inl (by decide)⟩
          | 3, hv =>
            cases hv
            refine ⟨_, rfl, ?_, Or.inr ?_, Or.inr (fun p hp => by cases hp), Or.inl (by decide), Or.inl (by decide), Or.inl (by decide)⟩
            · rcases h01 r with w | w <;> (rw [w]; rfl)
            · rcases h01 r with w | w <;> (rw [w]; exact ⟨by decide, by decide⟩)
          | n + 4, hv => cases hv
      · have em : ym L xs hs hz r = .inl (0, (yl r).length, fun j => .inl (Int32.ofInt ((yl r).getD j 0))) := by
          unfold ym
          rw [if_neg (by omega), if_neg (by omega), if_pos ⟨w1, by omega⟩]
        refine ⟨_, by rw [e]; exact tq_28, ?_, Or.inl rfl, fun i v hv => ?_⟩
        · rw [yb_low hlo, em]
          refine ⟨rfl, rfl, ?_, ?_⟩
          · show (0 : Int) ≤ ((yl r).length : Int); omega
          · show ((yl r).length : Int) ≤ 200; have := (yl_ok r).2; omega
        · rw [yb_low hlo, em] at hv
          have hv : (if i < (yl r).length then some (.inl (Int32.ofInt ((yl r).getD i 0))) else none) = some v := hv
          by_cases e2 : i < (yl r).length
          · rw [if_pos e2] at hv
            cases hv
            have b := yl_get r i
            have bv : (Int32.ofInt ((yl r).getD i 0)).toInt = (yl r).getD i 0 := ez_rg.v ⟨by omega, by omega⟩
            refine ⟨_, rfl, ?_, Or.inr ⟨?_, ?_⟩, Or.inr (fun p hp => by cases hp), Or.inl (by decide), Or.inl (by decide), Or.inl (by decide)⟩
            · show decide ((Int32.ofInt ((yl r).getD i 0)).toInt8.toInt32 = Int32.ofInt ((yl r).getD i 0)) = true
              exact decide_eq_true (dz_i2b_s (by omega) (by omega))
            · show (-128 : Int) ≤ (Int32.ofInt ((yl r).getD i 0)).toInt; omega
            · show (Int32.ofInt ((yl r).getD i 0)).toInt ≤ 127; omega
          · rw [if_neg e2] at hv; cases hv
    · have h806 : r < 806 := Classical.byContradiction fun w => hr (ex_hi r (by omega))
      have w := List.all_eq_true.mp c3 (r - 192) (List.mem_range.mpr (by omega))
      have er : Nat.add 192 (r - 192) = r := by show 192 + (r - 192) = r; omega
      rw [er] at w
      refine ⟨?_, yz_cok_ok (by omega) (by omega) w⟩
      unfold cz_hereB
      rw [Bool.and_eq_true, Bool.or_eq_true, Nat.blt_eq, Nat.ble_eq, hb1]
      exact ⟨h806, Or.inl (by omega)⟩
  · show cz_room (yz_b (ym L xs hs hz) S.2.2) 0 0 = true
    unfold cz_room
    rw [hb1, show (yz_b (ym L xs hs hz) S.2.2).2.1 = 329378 from c2]
    rfl
theorem yz_ints (hc : yz_chk S = true) {r i : Nat} {x : Int} (hq : (r, i, x) ∈ yz_i) (h1 : 192 ≤ r) (h2 : r < 1216) : qz_I (yz_b (ym L xs hs hz) S.2.2) r i = x := by
  simp only [yz_chk, Bool.and_eq_true] at hc
  obtain ⟨-, -, -, c4, -⟩ := hc
  have := of_decide_eq_true (List.all_eq_true.mp c4 _ hq)
  rw [yI_ok h1 h2]
  exact this
theorem yz_lens (hc : yz_chk S = true) {r : Nat} {x : Int} (hq : (r, x) ∈ yz_n) (h1 : 192 ≤ r) (h2 : r < 1216) : qz_N (yz_b (ym L xs hs hz) S.2.2) r = x := by
  simp only [yz_chk, Bool.and_eq_true] at hc
  obtain ⟨-, -, -, -, c5, -⟩ := hc
  have := of_decide_eq_true (List.all_eq_true.mp c5 _ hq)
  rw [yN_ok h1 h2]
  exact this
theorem yz_sp (hc : yz_chk S = true) {k : Nat} (hk : k < 513) : qz_P (yz_b (ym L xs hs hz) S.2.2) 203 k = 207 + k := by
  simp only [yz_chk, Bool.and_eq_true] at hc
  obtain ⟨-, -, -, -, -, c6, -⟩ := hc
  have := of_decide_eq_true (List.all_eq_true.mp c6 k (List.mem_range.mpr hk))
  unfold qz_P
  rw [yI_ok (by decide) (by decide), this]
  show (((208 + k : Nat) : Int) - 1).toNat = 207 + k
  omega
theorem yz_nm (hc : yz_chk S = true) {p n k : Nat} (hp : (p, n) ∈ ([(785, 9), (786, 6), (787, 14), (788, 19)] : List (Nat × Nat))) (h1 : 192 ≤ p) (h2 : p < 1216) (hk : k < n) : ∃ l, nzL (qz_P (yz_b (ym L xs hs hz) S.2.2) p k) = some l := by
  simp only [yz_chk, Bool.and_eq_true] at hc
  obtain ⟨-, -, -, -, -, -, c7, -⟩ := hc
  have := List.all_eq_true.mp (List.all_eq_true.mp c7 _ hp) k (List.mem_range.mpr hk)
  unfold qz_P
  rw [yI_ok h1 h2]
  exact Option.isSome_iff_exists.mp this
theorem yz_tp (hc : yz_chk S = true) (j : Nat) : qz_I (yz_b (ym L xs hs hz) S.2.2) 193 j = 0 ∧ qz_I (yz_b (ym L xs hs hz) S.2.2) 771 j = 0 := by
  simp only [yz_chk, Bool.and_eq_true] at hc
  obtain ⟨-, -, -, -, -, -, -, c8, c9⟩ := hc
  exact ⟨by rw [yI_ok (by decide) (by decide)]; exact yz_nw_ok c8 j, by rw [yI_ok (by decide) (by decide)]; exact yz_nw_ok c9 j⟩
theorem yz_Z : nz_Z (yz_b (ym L xs hs hz) S.2.2) := by
  intro s l hl
  have h1 := nzL_lt hl
  have em : ym L xs hs hz s = .inr (.inl (15, [.inr (.inr (some (63 + s))), .inl 0, .inl (hs s), .inl (hz s)])) := by
    unfold ym yp
    rw [if_neg (by omega), if_pos (by omega), if_pos (by omega)]
  have eP : qz_P (yz_b (ym L xs hs hz) S.2.2) s 0 = 63 + s := by
    unfold qz_P qz_I
    rw [yb_low (by omega), em]
    show (((63 + s : Nat) : Int) + 1 - 1).toNat = 63 + s
    omega
  have el : yl (63 + s) = l := by
    unfold yl
    rw [if_pos (by omega), show 63 + s - 63 = s by omega, hl]
    rfl
  have em2 : ym L xs hs hz (63 + s) = .inl (0, l.length, fun j => .inl (Int32.ofInt (l.getD j 0))) := by
    unfold ym
    rw [if_neg (by omega), if_neg (by omega), if_pos ⟨by omega, by omega⟩, el]
  refine ⟨⟨?_, fun j v hv => ?_⟩, by omega, by rw [eP]; omega⟩
  · rw [eP]
    unfold qz_N
    rw [yb_low (by omega), em2]
  · have b := (yl_ok (63 + s)).1 v (by rw [el]; exact List.mem_of_getElem? hv)
    refine ⟨?_, b⟩
    rw [eP]
    unfold qz_I
    rw [yb_low (by omega), em2]
    have hj : j < l.length := (List.getElem?_eq_some_iff.mp hv).1
    have hg : l.getD j 0 = v := by rw [List.getD_eq_getElem?_getD, hv]; rfl
    show (match (if j < l.length then some (.inl (Int32.ofInt (l.getD j 0))) else none : Option cz_V) with
      | some v => dz_n v
      | none => 0) = v
    rw [if_pos hj, hg]
    exact ez_rg.v ⟨by omega, by omega⟩
theorem yz_LI (hL : L ≤ 3072) (h01 : ∀ r, hz r = 0 ∨ hz r = 1) (hc : yz_chk S = true) : LI tz_ex (yz_b (ym L xs hs hz) S.2.2) 0 := by
  have hB := yz_B (L := L) (xs := xs) (hs := hs) (hz := hz) hL h01 hc
  have I := fun {r i : Nat} {x : Int} (hq : (r, i, x) ∈ yz_i) (h1 : 192 ≤ r) (h2 : r < 1216) => yz_ints (L := L) (xs := xs) (hs := hs) (hz := hz) hc hq h1 h2
  have NN := fun {r : Nat} {x : Int} (hq : (r, x) ∈ yz_n) (h1 : 192 ≤ r) (h2 : r < 1216) => yz_lens (L := L) (xs := xs) (hs := hs) (hz := hz) hc hq h1 h2
  have sp := fun {k : Nat} (hk : k < 513) => yz_sp (L := L) (xs := xs) (hs := hs) (hz := hz) hc hk
  have nm := fun {p n k : Nat} (hp : (p, n) ∈ ([(785, 9), (786, 6), (787, 14), (788, 19)] : List (Nat × Nat))) (h1 : 192 ≤ p) (h2 : p < 1216) (hk : k < n) => yz_nm (L := L) (xs := xs) (hs := hs) (hz := hz) hc hp h1 h2 hk
  have tp := yz_tp (L := L) (xs := xs) (hs := hs) (hz := hz) hc
  have Z := yz_Z (L := L) (xs := xs) (hs := hs) (hz := hz) (S := S)
  have hsl : ((yz_b (ym L xs hs hz) S.2.2).1 = 806 ∧ (yz_b (ym L xs hs hz) S.2.2).2.1 = 329378) := by
    simp only [yz_chk, Bool.and_eq_true] at hc
    exact ⟨Nat.eq_of_beq_eq_true hc.2.1.1, Nat.eq_of_beq_eq_true hc.2.1.2⟩
  generalize yz_b (ym L xs hs hz) S.2.2 = h at *
  have i1 : qz_I h 202 1 = 1 := I (by decide) (by decide) (by decide)
  have i4 : qz_I h 202 4 = 0 := I (by decide) (by decide) (by decide)
  have i5 : qz_I h 202 5 = 0 := I (by decide) (by decide) (by decide)
  have i6 : qz_I h 202 6 = 0 := I (by decide) (by decide) (by decide)
  have u2 : qz_I h 206 2 = 0 := I (by decide) (by decide) (by decide)
  have u3 : qz_I h 206 3 = 0 := I (by decide) (by decide) (by decide)
  have k0 : qz_I h 207 0 = 0 := I (by decide) (by decide) (by decide)
  have k1 : qz_I h 207 1 = 207 := I (by decide) (by decide) (by decide)
  have k2 : qz_I h 207 2 = 0 := I (by decide) (by decide) (by decide)
  have t1 : qz_I h 192 1 = 0 := I (by decide) (by decide) (by decide)
  have t2 : qz_I h 770 2 = 0 := I (by decide) (by decide) (by decide)
  have m7 : qz_I h 770 7 = 0 := I (by decide) (by decide) (by decide)
  have m8 : qz_I h 770 8 = 0 := I (by decide) (by decide) (by decide)
  have m9 : qz_I h 770 9 = 784 := I (by decide) (by decide) (by decide)
  have m10 : qz_I h 770 10 = 0 := I (by decide) (by decide) (by decide)
  have m11 : qz_I h 770 11 = 785 := I (by decide) (by decide) (by decide)
  have m12 : qz_I h 770 12 = 0 := I (by decide) (by decide) (by decide)
  have m21 : qz_I h 770 21 = 792 := I (by decide) (by decide) (by decide)
  have m22 : qz_I h 770 22 = 793 := I (by decide) (by decide) (by decide)
  have m23 : qz_I h 770 23 = 0 := I (by decide) (by decide) (by decide)
  have m24 : qz_I h 770 24 = 794 := I (by decide) (by decide) (by decide)
  have m25 : qz_I h 770 25 = 0 := I (by decide) (by decide) (by decide)
  have m35 : qz_I h 770 35 = 801 := I (by decide) (by decide) (by decide)
  have m36 : qz_I h 770 36 = 0 := I (by decide) (by decide) (by decide)
  have m38 : qz_I h 770 38 = 803 := I (by decide) (by decide) (by decide)
  have m39 : qz_I h 770 39 = 804 := I (by decide) (by decide) (by decide)
  have m40 : qz_I h 770 40 = 805 := I (by decide) (by decide) (by decide)
  have j0 : qz_I h 786 0 = 17 := I (by decide) (by decide) (by decide)
  have epo : po h = 783 := by unfold po qz_P; rw [m9]; rfl
  have els : ls h = 784 := by unfold ls qz_P; rw [m11]; rfl
  have edc : dc h = 791 := by unfold dc qz_P; rw [m21]; rfl
  have ebw : bw h = 792 := by unfold bw qz_P; rw [m22]; rfl
  have esk : sk h = 793 := by unfold sk qz_P; rw [m24]; rfl
  have eel : gel h = 800 := by unfold gel qz_P; rw [m35]; rfl
  have efo : gfo h = 802 := by unfold gfo qz_P; rw [m38]; rfl
  have eot : got h = 803 := by unfold got qz_P; rw [m39]; rfl
  have eke : gke h = 804 := by unfold gke qz_P; rw [m40]; rfl
  have npo : qz_N h (po h) = 1024 := by rw [epo]; exact NN (by decide) (by decide) (by decide)
  have nls : qz_N h (ls h) = 64 := by rw [els]; exact NN (by decide) (by decide) (by decide)
  have ndc : qz_N h (dc h) = 64 := by rw [edc]; exact NN (by decide) (by decide) (by decide)
  have nbw : qz_N h (bw h) = 64 := by rw [ebw]; exact NN (by decide) (by decide) (by decide)
  have nsk : qz_N h (sk h) = 64 := by rw [esk]; exact NN (by decide) (by decide) (by decide)
  have nel : qz_N h (gel h) = 1024 := by rw [eel]; exact NN (by decide) (by decide) (by decide)
  have nfo : qz_N h (gfo h) = 1024 := by rw [efo]; exact NN (by decide) (by decide) (by decide)
  have nott : qz_N h (got h) = 1024 := by rw [eot]; exact NN (by decide) (by decide) (by decide)
  have nke : qz_N h (gke h) = 1024 := by rw [eke]; exact NN (by decide) (by decide) (by decide)
  have hX : jz_X tz_ex := fun _ _ => rfl
  have ecn : cn h = 0 := m23
  have elc : lc h = 0 := m12
  have epn : pn h = 0 := m10
  have sp0 : sz_p h 0 = 207 := sp (k := 0) (by decide)
  have fp0 : sz_fp h 0 = 206 := by unfold sz_fp qz_P; rw [sp0, k1]; rfl
  have hI : jz_I tz_ex h (vF []) (vE []) := by
    refine ⟨hB, hX, ⟨⟨?_, fun i j i0 ij jn => ?_⟩, fun i j a b c d e => ?_⟩, fun i hi => ?_, by rw [i1, i5]; decide, Z, fun x k x0 x1 hk => ?_, [], by rw [i5]; exact Int.le_refl 0, fun x hx => absurd rfl hx⟩
    · unfold sz_f; rw [sp0]; exact k0
    · rw [i1] at jn; omega
    · have e1 : sz_p h i = 207 + i.toNat := sp (by omega)
      have e2 : sz_p h j = 207 + j.toNat := sp (by omega)
      omega
    · rw [i4] at hi; omega
    · obtain ⟨a, b, c, d⟩ := hk
      rw [i1] at b
      have e : k = 0 := by omega
      subst e
      refine ⟨⟨?_, ?_, fun w => absurd rfl w⟩, ?_⟩
      · rw [fp0]; exact u2
      · show qz_I h (sz_fp h 0) 3 = 0; rw [fp0]; exact u3
      · rw [sp0, k2]
        exact ⟨fun w => absurd (by decide : (Int32.ofInt 0 &&& Int32.ofInt 1).toInt = 0) w, fun w => w.elim⟩
  have hx : nmx h := by
    have key : ∀ (i : Fin 4), qz_N h (785 + i.val) = ((nmN (785 + i.val)).length : Int) → qz_N h (785 + i.val) = ((nmN (785 + i.val)).length : Int) ∧ ∀ k : Nat, k < (nmN (785 + i.val)).length → qz_P h (785 + i.val) k = (nmN (785 + i.val)).getD k 0 := fun i e => ⟨e, fun k hk => by
      have hi := i.isLt
      have := I (nmx_l i k hk) (by omega) (by omega)
      unfold qz_P; rw [this]; omega⟩
    intro p p0 p1
    have : p = 785 ∨ p = 786 ∨ p = 787 ∨ p = 788 := by omega
    rcases this with e | e | e | e <;> subst e
    · exact key 0 (NN (r := 785) (x := 9) (by decide) (by decide) (by decide))
    · exact key 1 (NN (r := 786) (x := 6) (by decide) (by decide) (by decide))
    · exact key 2 (NN (r := 787) (x := 14) (by decide) (by decide) (by decide))
    · exact key 3 (NN (r := 788) (x := 19) (by decide) (by decide) (by decide))
  have hM : mI tz_ex h [] 0 := by
    refine ⟨hB, hX, ⟨⟨by rw [elc, nls]; decide, by rw [epn, npo]; decide⟩, by rw [elc]; exact m8, by rw [epn, elc]; decide⟩, ⟨fun i hi => by rw [elc] at hi; omega, fun i j hi => by rw [elc] at hi; omega⟩, ⟨fun r hr => absurd hr (ex_13 r).2, fun r hr => absurd hr (ex_13 r).1⟩, ⟨Z, fun p p0 p1 k hk => ?_, by unfold qz_P; rw [j0]; rfl, hx⟩, by rw [elc]; rfl, fun k x hx => by cases hx⟩
    have : p = 785 ∨ p = 786 ∨ p = 787 ∨ p = 788 := by omega
    rcases this with e | e | e | e <;> subst e
    · rw [NN (r := 785) (x := 9) (by decide) (by decide) (by decide)] at hk; exact nm (n := 9) (by decide) (by decide) (by decide) (by omega)
    · rw [NN (r := 786) (x := 6) (by decide) (by decide) (by decide)] at hk; exact nm (n := 6) (by decide) (by decide) (by decide) (by omega)
    · rw [NN (r := 787) (x := 14) (by decide) (by decide) (by decide)] at hk; exact nm (n := 14) (by decide) (by decide) (by decide) (by omega)
    · rw [NN (r := 788) (x := 19) (by decide) (by decide) (by decide)] at hk; exact nm (n := 19) (by decide) (by decide) (by decide) (by omega)
  have v1 : qz_I h 206 1 = 17262 := I (by decide) (by decide) (by decide)
  have v5 : qz_I h 206 5 = -1 := I (by decide) (by decide) (by decide)
  have v6 : qz_I h 206 6 = -1 := I (by decide) (by decide) (by decide)
  have v7 : qz_I h 206 7 = -1 := I (by decide) (by decide) (by decide)
  have k3 : qz_I h 207 3 = 0 := I (by decide) (by decide) (by decide)
  have k4 : qz_I h 207 4 = 0 := I (by decide) (by decide) (by decide)
  have k5 : qz_I h 207 5 = 0 := I (by decide) (by decide) (by decide)
  have k6 : qz_I h 207 6 = 0 := I (by decide) (by decide) (by decide)
  have k7 : qz_I h 207 7 = 0 := I (by decide) (by decide) (by decide)
  have k8 : qz_I h 207 8 = 0 := I (by decide) (by decide) (by decide)
  have ww : rW tz_ex h [] := by
    refine ⟨rU_of hX, fun t ht => ⟨I (yz_sl t ht).1 (by decide) (by decide), I (yz_sl t ht).2.1 (by decide) (by decide)⟩, ⟨fun _ => 0, fun x k x0 x1 hk => ?_⟩, dok_0, fun z => absurd m7 z, v1, v5, v6, v7⟩
    obtain ⟨a, b, c, d⟩ := hk
    rw [i1] at b
    have e : k = 0 := by omega
    subst e
    rw [fp0, sp0]
    exact ⟨⟨v1, v5, v6, v7⟩, ⟨k2, k3, k4⟩, ⟨⟨fun _ => k5, fun l e => (by cases e)⟩, ⟨fun _ => k6, fun l e => (by cases e)⟩, ⟨fun _ => k7, fun l e => (by cases e)⟩⟩, k8⟩
  have xx : rXt h := ⟨fun _ => [], fun t ht => ⟨⟨I (yz_sl t ht).2.2.1 (by omega) (by omega), fun j v hv => by cases hv⟩, ptl_nil, Nat.zero_le _⟩, fun t ht => ⟨⟨I (yz_sl t ht).2.2.2 (by decide) (by decide), fun j v hv => by cases hv⟩, ptl_nil, Nat.zero_le _⟩⟩
  have wf0 : uz_wf (vF []) := fun x => ⟨Int.le_refl 0, fun cp vs e => by cases e⟩
  refine ⟨X_new hI hM ⟨⟨?_, ?_⟩, ?_, ?_⟩ (fun i hi => by rw [ecn] at hi; omega) (by rw [ecn, nbw]; decide) (by rw [nbw, ndc]; decide) wf0 ⟨fun _ => m7, fun _ => i6⟩ (fun z => absurd m7 z) ⟨u2, u3⟩ (fun j => by rw [(tp j).1, (tp j).2]) ww xx, by rw [t1, t2], ?_, ?_, ?_⟩
  · show tz_ex (sk h) = 21; rw [esk]; rfl
  · show qz_I h 770 25 ≤ qz_N h (sk h); rw [m25, nsk]; decide
  · show tz_ex (gel h) = 23; rw [eel]; rfl
  · show 4 * qz_I h 770 36 ≤ qz_N h (gel h); rw [m36, nel]; decide
  · unfold psi; rw [npo, nls, nbw, nsk, nel, nfo, nott, nke, t1, hsl.2]; decide
  · unfold phc; rw [npo, nls, nbw, nsk, nel, nfo, nott, nke, t1, hsl.1]; decide
  · unfold lnb; rw [i5, m12, t1]; omega
end YzStart
/-! The whole run of the law. -/
set_option maxRecDepth 100000 in
theorem yz_run : (match yz_x 18 40000 18 cm_0 0 [(0, .inr (.inr (some 0)))] [] yz_0 with
  | some (.inr S) => yz_chk S
  | _ => false) = true := by decide +kernel
section YzLaw
variable {L : Nat} {xs hs hz : Nat → Int32}
/-- the whole run of the law -/
theorem yz_law (hL : L ≤ 3072) (h01 : ∀ r, hz r = 0 ∨ hz r = 1) : dz_WP cz_pg 18 cm_0 0 [(0, .inr (.inr (some 0)))] [] (yz_b (ym L xs hs hz) yz_0) (fun F => F.1 = .inl (some (.inl 1)) ∧ cz_room F.2 0 0 = true) := by
  have hrun := yz_run
  split at hrun
  · rename_i S hS
    have hk0 : yz_k yz_0 := ⟨Nat.le_refl _, by decide⟩
    obtain ⟨k1, k2⟩ := yz_ok (m := ym L xs hs hz) (sp := 18) (fun v h1 h2 => ym_str v h1 h2) 40000 18 cm_0 0 _ [] yz_0 _ hk0 hS
    have hLI := yz_LI (L := L) (xs := xs) (hs := hs) (hz := hz) hL h01 hrun
    refine k2 _ ?_
    have hc := hrun
    simp only [yz_chk, Bool.and_eq_true] at hc
    obtain ⟨⟨a0, a1, a2, a3, a4, a5⟩, -⟩ := hc
    rw [List.isEmpty_iff.mp a0]
    have n0 : qz_N (yz_b (ym L xs hs hz) S.2.2) 0 = (L : Int) := by
      unfold qz_N
      rw [yb_low (by decide)]
      rfl
    refine ez_from (L := [(4, .inl 0), (0, .inr (.inr (some 0))), (1, .inr (.inr (some 192))), (2, .inr (.inr (some 770))), (3, .inr (.inr (some 805)))]) (st := []) rfl (fun q hq => ?_) (lw_loop (d := 0) (fun h hr => ⟨rfl, hr⟩) _ 0 tz_ex _ (Nat.le_refl _) (Int.le_refl 0) (by rw [n0]; omega) hLI)
    simp only [List.mem_cons, List.not_mem_nil, or_false] at hq
    rcases hq with e | e | e | e | e <;> subst e
    · exact yz_l0_ok a5
    · exact yz_lq_ok a4
    · exact yz_lq_ok a1
    · exact yz_lq_ok a2
    · exact yz_lq_ok a3
  · cases hrun
end YzLaw
