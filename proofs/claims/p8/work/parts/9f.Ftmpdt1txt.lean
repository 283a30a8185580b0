section EzRd6
variable {d : Nat} {h : cz_H} {τ : Nat → Nat} {Q : cz_F → Prop} {r : Nat}
theorem rd_readCategory_b9 {a : Int} (hB : ez_B τ h) (t720 : τ 720 = 52) (a0 : 0 ≤ a) (a1 : a + 1 < 4096) (k1 : (65 ≤ rz_b h a ∧ rz_b h a ≤ 90) ∧ (97 ≤ rz_b h (a + 1) ∧ rz_b h (a + 1) ≤ 122) → Q (.inl (some (ez_v (.inl 1))), h)) (k0 : ¬((65 ≤ rz_b h a ∧ rz_b h a ≤ 90) ∧ (97 ≤ rz_b h (a + 1) ∧ rz_b h (a + 1) ≤ 122)) → Q (.inl (some (ez_v (.inl 0))), h)) : ez_W d cm_157 44 [(2, .inl (a)), (0, .inr (.inr (some (720)))), (1, .inr (.inr (some (r))))] [] h Q := by
  refine ez_go (n := 1) (pc' := 45) (L' := [(2, .inl (a)), (0, .inr (.inr (some (720)))), (1, .inr (.inr (some (r))))]) (st' := [.inr (.inr (some (720)))]) rfl ?_
  refine ez_gC (p := 193) (tg := 45) hB t720 rfl rfl tq_52 rfl rfl (fun (t193 : _ = 45) => ?_)
  refine ez_go (n := 1) (pc' := 49) (L' := [(2, .inl (a)), (0, .inr (.inr (some (720)))), (1, .inr (.inr (some (r))))]) (st' := [.inl (a), .inr (.inr (some (193)))]) rfl ?_
  have n2 : 4096 ≤ qz_N h 193 ∧ qz_N h 193 ≤ 4096 := ez_len hB t193 tq_45 rfl
  refine ez_aI hB t193 rfl tq_45 rfl rfl (by omega) (by omega) (fun (b1 : -128 ≤ qz_I h 193 (a).toNat) (b1' : qz_I h 193 (a).toNat ≤ 127) => ?_)
  refine ez_go (n := 1) (pc' := 52) (L' := [(2, .inl (a)), (0, .inr (.inr (some (720)))), (1, .inr (.inr (some (r))))]) (st' := [.inl (65), .inl (qz_I h 193 (a).toNat)]) rfl ?_
  refine ez_icmp rfl rfl ⟨by first | omega | exact (sz_i32 _).1, by first | omega | exact (sz_i32 _).2⟩ ⟨by first | omega | exact (sz_i32 _).1, by first | omega | exact (sz_i32 _).2⟩ (fun (c3 : (qz_I h 193 (a).toNat) < (65)) => ?_) (fun (c3 : ¬((qz_I h 193 (a).toNat) < (65))) => ?_)
  · skip
    refine ez_go (n := 1) (pc' := 97) (L' := [(2, .inl (a)), (0, .inr (.inr (some (720)))), (1, .inr (.inr (some (r))))]) (st' := [.inl (0)]) rfl ?_
    exact ez_retZ rfl rfl (by decide) (k0 (fun w => by unfold rz_b at w; omega))
  · skip
    refine ez_go (n := 1) (pc' := 56) (L' := [(2, .inl (a)), (0, .inr (.inr (some (720)))), (1, .inr (.inr (some (r))))]) (st' := [.inr (.inr (some (720)))]) rfl ?_
    refine ez_gC (p := 193) (tg := 45) hB t720 rfl rfl tq_52 rfl rfl (fun (t193 : _ = 45) => ?_)
    refine ez_go (n := 1) (pc' := 60) (L' := [(2, .inl (a)), (0, .inr (.inr (some (720)))), (1, .inr (.inr (some (r))))]) (st' := [.inl (a), .inr (.inr (some (193)))]) rfl ?_
    have n5 : 4096 ≤ qz_N h 193 ∧ qz_N h 193 ≤ 4096 := ez_len hB t193 tq_45 rfl
    refine ez_aI hB t193 rfl tq_45 rfl rfl (by omega) (by omega) (fun (b4 : -128 ≤ qz_I h 193 (a).toNat) (b4' : qz_I h 193 (a).toNat ≤ 127) => ?_)
    refine ez_go (n := 1) (pc' := 63) (L' := [(2, .inl (a)), (0, .inr (.inr (some (720)))), (1, .inr (.inr (some (r))))]) (st' := [.inl (90), .inl (qz_I h 193 (a).toNat)]) rfl ?_
    refine ez_icmp rfl rfl ⟨by first | omega | exact (sz_i32 _).1, by first | omega | exact (sz_i32 _).2⟩ ⟨by first | omega | exact (sz_i32 _).1, by first | omega | exact (sz_i32 _).2⟩ (fun (c6 : (90) < (qz_I h 193 (a).toNat)) => ?_) (fun (c6 : ¬((90) < (qz_I h 193 (a).toNat))) => ?_)
    · skip
      refine ez_go (n := 1) (pc' := 97) (L' := [(2, .inl (a)), (0, .inr (.inr (some (720)))), (1, .inr (.inr (some (r))))]) (st' := [.inl (0)]) rfl ?_
      exact ez_retZ rfl rfl (by decide) (k0 (fun w => by unfold rz_b at w; omega))
    · skip
      refine ez_go (n := 1) (pc' := 67) (L' := [(2, .inl (a)), (0, .inr (.inr (some (720)))), (1, .inr (.inr (some (r))))]) (st' := [.inr (.inr (some (720)))]) rfl ?_
      refine ez_gC (p := 193) (tg := 45) hB t720 rfl rfl tq_52 rfl rfl (fun (t193 : _ = 45) => ?_)
      refine ez_go (n := 3) (pc' := 73) (L' := [(2, .inl (a)), (0, .inr (.inr (some (720)))), (1, .inr (.inr (some (r))))]) (st' := [.inl ((a) + (1)), .inr (.inr (some (193)))]) rfl ?_
      have n8 : 4096 ≤ qz_N h 193 ∧ qz_N h 193 ≤ 4096 := ez_len hB t193 tq_45 rfl
      refine ez_aI hB t193 rfl tq_45 rfl rfl (by omega) (by omega) (fun (b7 : -128 ≤ qz_I h 193 ((a) + (1)).toNat) (b7' : qz_I h 193 ((a) + (1)).toNat ≤ 127) => ?_)
      refine ez_go (n := 1) (pc' := 76) (L' := [(2, .inl (a)), (0, .inr (.inr (some (720)))), (1, .inr (.inr (some (r))))]) (st' := [.inl (97), .inl (qz_I h 193 ((a) + (1)).toNat)]) rfl ?_
      refine ez_icmp rfl rfl ⟨by first | omega | exact (sz_i32 _).1, by first | omega | exact (sz_i32 _).2⟩ ⟨by first | omega | exact (sz_i32 _).1, by first | omega | exact (sz_i32 _).2⟩ (fun (c9 : (qz_I h 193 ((a) + (1)).toNat) < (97)) => ?_) (fun (c9 : ¬((qz_I h 193 ((a) + (1)).toNat) < (97))) => ?_)
      · skip
        refine ez_go (n := 1) (pc' := 97) (L' := [(2, .inl (a)), (0, .inr (.inr (some (720)))), (1, .inr (.inr (some (r))))]) (st' := [.inl (0)]) rfl ?_
        exact ez_retZ rfl rfl (by decide) (k0 (fun w => by unfold rz_b at w; omega))
      · skip
        refine ez_go (n := 1) (pc' := 80) (L' := [(2, .inl (a)), (0, .inr (.inr (some (720)))), (1, .inr (.inr (some (r))))]) (st' := [.inr (.inr (some (720)))]) rfl ?_
        refine ez_gC (p := 193) (tg := 45) hB t720 rfl rfl tq_52 rfl rfl (fun (t193 : _ = 45) => ?_)
        refine ez_go (n := 3) (pc' := 86) (L' := [(2, .inl (a)), (0, .inr (.inr (some (720)))), (1, .inr (.inr (some (r))))]) (st' := [.inl ((a) + (1)), .inr (.inr (some (193)))]) rfl ?_
        have n11 : 4096 ≤ qz_N h 193 ∧ qz_N h 193 ≤ 4096 := ez_len hB t193 tq_45 rfl
        refine ez_aI hB t193 rfl tq_45 rfl rfl (by omega) (by omega) (fun (b10 : -128 ≤ qz_I h 193 ((a) + (1)).toNat) (b10' : qz_I h 193 ((a) + (1)).toNat ≤ 127) => ?_)
        refine ez_go (n := 1) (pc' := 89) (L' := [(2, .inl (a)), (0, .inr (.inr (some (720)))), (1, .inr (.inr (some (r))))]) (st' := [.inl (122), .inl (qz_I h 193 ((a) + (1)).toNat)]) rfl ?_
        refine ez_icmp rfl rfl ⟨by first | omega | exact (sz_i32 _).1, by first | omega | exact (sz_i32 _).2⟩ ⟨by first | omega | exact (sz_i32 _).1, by first | omega | exact (sz_i32 _).2⟩ (fun (c12 : (122) < (qz_I h 193 ((a) + (1)).toNat)) => ?_) (fun (c12 : ¬((122) < (qz_I h 193 ((a) + (1)).toNat))) => ?_)
        · skip
          refine ez_go (n := 1) (pc' := 97) (L' := [(2, .inl (a)), (0, .inr (.inr (some (720)))), (1, .inr (.inr (some (r))))]) (st' := [.inl (0)]) rfl ?_
          exact ez_retZ rfl rfl (by decide) (k0 (fun w => by unfold rz_b at w; omega))
        · skip
          refine ez_go (n := 2) (pc' := 97) (L' := [(2, .inl (a)), (0, .inr (.inr (some (720)))), (1, .inr (.inr (some (r))))]) (st' := [.inl (1)]) rfl ?_
          exact ez_retZ rfl rfl (by decide) (k1 ⟨by unfold rz_b; omega, by unfold rz_b; omega⟩)
theorem rd_readCategory9 (hB : ez_B τ h) (t720 : τ 720 = 52) (tr : τ r = 3) (k1 : ∀ g, ez_B τ g → ez_fr (ez_one r) h g → (∀ j, j ≠ 1 → qz_I g r j = qz_I h r j) → qz_I g r 1 = rz_b h (rz_f h 1) * 256 + rz_b h (rz_f h 1 + 1) → rz_cat (rz_b h) (rz_f h 1) (rz_t h 1) → Q (.inl (some (ez_v (.inl 1))), g)) (k0 : ∀ g, ez_B τ g → ez_fr (ez_one r) h g → (∀ j, j ≠ 1 → qz_I g r j = qz_I h r j) → ¬ rz_cat (rz_b h) (rz_f h 1) (rz_t h 1) → Q (.inl (some (ez_v (.inl 0))), g)) : ez_W d cm_157 0 [(0, .inr (.inr (some (720)))), (1, .inr (.inr (some (r))))] [] h Q := by
  refine ez_go (n := 1) (pc' := 1) (L' := [(0, .inr (.inr (some (720)))), (1, .inr (.inr (some (r))))]) (st' := [.inr (.inr (some (720)))]) rfl ?_
  refine ez_gC (p := 721) (tg := 53) hB t720 rfl rfl tq_52 rfl rfl (fun (t721 : _ = 53) => ?_)
  refine ez_go (n := 1) (pc' := 5) (L' := [(0, .inr (.inr (some (720)))), (1, .inr (.inr (some (r))))]) (st' := [.inl (1), .inr (.inr (some (721)))]) rfl ?_
  have n2 : 7 ≤ qz_N h 721 ∧ qz_N h 721 ≤ 7 := ez_len hB t721 tq_53 rfl
  refine ez_aI hB t721 rfl tq_53 rfl rfl (by omega) (by omega) (fun (b1 : 0 ≤ qz_I h 721 (1 : Int).toNat) (b1' : qz_I h 721 (1 : Int).toNat ≤ 4096) => ?_)
  refine ez_go (n := 2) (pc' := 8) (L' := [(2, .inl (qz_I h 721 (1 : Int).toNat)), (0, .inr (.inr (some (720)))), (1, .inr (.inr (some (r))))]) (st' := [.inr (.inr (some (720)))]) rfl ?_
  refine ez_gC (p := 722) (tg := 54) hB t720 rfl rfl tq_52 rfl rfl (fun (t722 : _ = 54) => ?_)
  refine ez_go (n := 1) (pc' := 12) (L' := [(2, .inl (qz_I h 721 (1 : Int).toNat)), (0, .inr (.inr (some (720)))), (1, .inr (.inr (some (r))))]) (st' := [.inl (1), .inr (.inr (some (722)))]) rfl ?_
  have n4 : 7 ≤ qz_N h 722 ∧ qz_N h 722 ≤ 7 := ez_len hB t722 tq_54 rfl
  refine ez_aI hB t722 rfl tq_54 rfl rfl (by omega) (by omega) (fun (b3 : 0 ≤ qz_I h 722 (1 : Int).toNat) (b3' : qz_I h 722 (1 : Int).toNat ≤ 4096) => ?_)
  refine ez_go (n := 3) (pc' := 16) (L' := [(2, .inl (qz_I h 721 (1 : Int).toNat)), (0, .inr (.inr (some (720)))), (1, .inr (.inr (some (r))))]) (st' := [.inl (2), .inl ((qz_I h 722 (1 : Int).toNat) - (qz_I h 721 (1 : Int).toNat))]) rfl ?_
  refine ez_icmp rfl rfl ⟨by first | omega | exact (sz_i32 _).1, by first | omega | exact (sz_i32 _).2⟩ ⟨by first | omega | exact (sz_i32 _).1, by first | omega | exact (sz_i32 _).2⟩ (fun (c5 : ((qz_I h 722 (1 : Int).toNat) - (qz_I h 721 (1 : Int).toNat)) = (2)) => ?_) (fun (c5 : ¬(((qz_I h 722 (1 : Int).toNat) - (qz_I h 721 (1 : Int).toNat)) = (2))) => ?_)
  · skip
    refine ez_go (n := 2) (pc' := 23) (L' := [(2, .inl (qz_I h 721 (1 : Int).toNat)), (0, .inr (.inr (some (720)))), (1, .inr (.inr (some (r))))]) (st' := [.inr (.inr (some (720))), .inr (.inr (some (r)))]) rfl ?_
    refine ez_gC (p := 193) (tg := 45) hB t720 rfl rfl tq_52 rfl rfl (fun (t193 : _ = 45) => ?_)
    refine ez_go (n := 1) (pc' := 27) (L' := [(2, .inl (qz_I h 721 (1 : Int).toNat)), (0, .inr (.inr (some (720)))), (1, .inr (.inr (some (r))))]) (st' := [.inl (qz_I h 721 (1 : Int).toNat), .inr (.inr (some (193))), .inr (.inr (some (r)))]) rfl ?_
    have n7 : 4096 ≤ qz_N h 193 ∧ qz_N h 193 ≤ 4096 := ez_len hB t193 tq_45 rfl
    refine ez_aI hB t193 rfl tq_45 rfl rfl (by omega) (by omega) (fun (b6 : -128 ≤ qz_I h 193 (qz_I h 721 (1 : Int).toNat).toNat) (b6' : qz_I h 193 (qz_I h 721 (1 : Int).toNat).toNat ≤ 127) => ?_)
    refine ez_go (n := 3) (pc' := 33) (L' := [(2, .inl (qz_I h 721 (1 : Int).toNat)), (0, .inr (.inr (some (720)))), (1, .inr (.inr (some (r))))]) (st' := [.inr (.inr (some (720))), .inl ((qz_I h 193 (qz_I h 721 (1 : Int).toNat).toNat) * (256)), .inr (.inr (some (r)))]) rfl ?_
    refine ez_gC (p := 193) (tg := 45) hB t720 rfl rfl tq_52 rfl rfl (fun (t193 : _ = 45) => ?_)
    refine ez_go (n := 3) (pc' := 39) (L' := [(2, .inl (qz_I h 721 (1 : Int).toNat)), (0, .inr (.inr (some (720)))), (1, .inr (.inr (some (r))))]) (st' := [.inl ((qz_I h 721 (1 : Int).toNat) + (1)), .inr (.inr (some (193))), .inl ((qz_I h 193 (qz_I h 721 (1 : Int).toNat).toNat) * (256)), .inr (.inr (some (r)))]) rfl ?_
    have n9 : 4096 ≤ qz_N h 193 ∧ qz_N h 193 ≤ 4096 := ez_len hB t193 tq_45 rfl
    refine ez_aI hB t193 rfl tq_45 rfl rfl (by omega) (by omega) (fun (b8 : -128 ≤ qz_I h 193 ((qz_I h 721 (1 : Int).toNat) + (1)).toNat) (b8' : qz_I h 193 ((qz_I h 721 (1 : Int).toNat) + (1)).toNat ≤ 127) => ?_)
    refine ez_go (n := 1) (pc' := 41) (L' := [(2, .inl (qz_I h 721 (1 : Int).toNat)), (0, .inr (.inr (some (720)))), (1, .inr (.inr (some (r))))]) (st' := [.inl (((qz_I h 193 (qz_I h 721 (1 : Int).toNat).toNat) * (256)) + (qz_I h 193 ((qz_I h 721 (1 : Int).toNat) + (1)).toNat)), .inr (.inr (some (r)))]) rfl ?_
    refine ez_pf hB tr rfl rfl tq_3 rfl rfl rfl rfl (ez_vdI rfl rfl (by omega) (by omega)) (fun hB10 w11 => ?_)
    have ne := rz_ne t193 tr rfl
    have hf : ez_fr (ez_one r) h (dz_put h r 1 (ez_v (.inl (((qz_I h 193 (qz_I h 721 (1 : Int).toNat).toNat) * (256)) + (qz_I h 193 ((qz_I h 721 (1 : Int).toNat) + (1)).toNat))))) := (ez_fr.refl (ez_one r) h).put (show Nat.beq r r = true from Nat.beq_refl r) _ _
    have hb := rz_b_fr hf ne
    have hcv : qz_I (dz_put h r 1 (ez_v (.inl (((qz_I h 193 (qz_I h 721 (1 : Int).toNat).toNat) * (256)) + (qz_I h 193 ((qz_I h 721 (1 : Int).toNat) + (1)).toNat))))) r 1 = rz_b h (rz_f h 1) * 256 + rz_b h (rz_f h 1 + 1) := w11.trans (rz_rd ⟨by omega, by omega⟩)
    refine rd_readCategory_b9 hB10 t720 (by omega) (by omega) (fun e => k1 _ hB10 hf (fun j hj => ez_put_I (fun w => hj w.2)) hcv ?_) (fun e => k0 _ hB10 hf (fun j hj => ez_put_I (fun w => hj w.2)) ?_)
    · rw [hb] at e; exact ⟨by unfold rz_f rz_t; omega, e⟩
    · rw [hb] at e; exact fun w => e w.2
  · skip
    refine ez_go (n := 1) (pc' := 20) (L' := [(2, .inl (qz_I h 721 (1 : Int).toNat)), (0, .inr (.inr (some (720)))), (1, .inr (.inr (some (r))))]) (st' := [.inl (0)]) rfl ?_
    exact ez_retZ rfl rfl (by decide) (k0 h hB (ez_fr.refl _ _) (fun _ _ => rfl) (fun w => by have := w.1; unfold rz_f rz_t at this; omega))
theorem rd_readClass_l9 {s t dg : Int} (hB : ez_B τ h) (t720 : τ 720 = 52) (tr : τ r = 3) (hs : rz_f h 2 = s) (ht : rz_t h 2 = t) (s0 : 0 ≤ s) (t1 : t ≤ 4096) : ∀ (n : Nat) (i v : Int), s ≤ i → i ≤ t → n = (t - i).toNat → n ≤ 3 → 0 ≤ v → (n = 3 → v ≤ 0) → (n = 2 → v ≤ 9) → (n = 1 → v ≤ 99) → (n = 0 → v ≤ 999) → (∀ g, ez_B τ g → ez_fr (ez_one r) h g → (∀ j, j ≠ 2 → qz_I g r j = qz_I h r j) → qz_I g r 2 = (rz_dec (rz_b h) n i v) → 0 ≤ (rz_dec (rz_b h) n i v) → (rz_dec (rz_b h) n i v) ≤ 254 → Q (.inl (some (ez_v (.inl 1))), g)) → (∀ g, ez_B τ g → ez_fr (ez_one r) h g → (∀ j, j ≠ 2 → qz_I g r j = qz_I h r j) → ¬(0 ≤ (rz_dec (rz_b h) n i v) ∧ (rz_dec (rz_b h) n i v) ≤ 254) → Q (.inl (some (ez_v (.inl 0))), g)) → ez_W d cm_158 36 [(4, .inl (i)), (3, .inl (v)), (0, .inr (.inr (some (720)))), (1, .inr (.inr (some (r)))), (2, .inl (dg))] [] h Q := by
  unfold rz_t at ht
  intro n
  induction n with
  | zero =>
    intro i v i1 i2 hn hn3 v0 b3 b2 b1 b0 k1 k0
    unfold rz_dec at k1 k0
    refine ez_go (n := 2) (pc' := 39) (L' := [(4, .inl (i)), (3, .inl (v)), (0, .inr (.inr (some (720)))), (1, .inr (.inr (some (r)))), (2, .inl (dg))]) (st' := [.inr (.inr (some (720))), .inl (i)]) rfl ?_
    refine ez_gC (p := 722) (tg := 54) hB t720 rfl rfl tq_52 rfl rfl (fun (t722 : _ = 54) => ?_)
    refine ez_go (n := 1) (pc' := 43) (L' := [(4, .inl (i)), (3, .inl (v)), (0, .inr (.inr (some (720)))), (1, .inr (.inr (some (r)))), (2, .inl (dg))]) (st' := [.inl (2), .inr (.inr (some (722))), .inl (i)]) rfl ?_
    have n2 : 7 ≤ qz_N h 722 ∧ qz_N h 722 ≤ 7 := ez_len hB t722 tq_54 rfl
    refine ez_aI hB t722 rfl tq_54 rfl rfl (by omega) (by omega) (fun (b1 : 0 ≤ qz_I h 722 (2 : Int).toNat) (b1' : qz_I h 722 (2 : Int).toNat ≤ 4096) => ?_)
    refine ez_icmp rfl rfl ⟨by first | omega | exact (sz_i32 _).1, by first | omega | exact (sz_i32 _).2⟩ ⟨by first | omega | exact (sz_i32 _).1, by first | omega | exact (sz_i32 _).2⟩ (fun (c3 : (qz_I h 722 (2 : Int).toNat) ≤ (i)) => ?_) (fun (c3 : ¬((qz_I h 722 (2 : Int).toNat) ≤ (i))) => ?_)
    · skip
      refine ez_go (n := 2) (pc' := 97) (L' := [(4, .inl (i)), (3, .inl (v)), (0, .inr (.inr (some (720)))), (1, .inr (.inr (some (r)))), (2, .inl (dg))]) (st' := [.inl (v), .inr (.inr (some (r)))]) rfl ?_
      refine ez_pf hB tr rfl rfl tq_3 rfl rfl rfl rfl (ez_vdI rfl rfl (by omega) (by omega)) (fun hB4 w5 => ?_)
      refine ez_go (n := 2) (pc' := 104) (L' := [(4, .inl (i)), (3, .inl (v)), (0, .inr (.inr (some (720)))), (1, .inr (.inr (some (r)))), (2, .inl (dg))]) (st' := [.inl (254), .inl (v)]) rfl ?_
      refine ez_icmp rfl rfl ⟨by first | omega | exact (sz_i32 _).1, by first | omega | exact (sz_i32 _).2⟩ ⟨by first | omega | exact (sz_i32 _).1, by first | omega | exact (sz_i32 _).2⟩ (fun (c6 : (254) < (v)) => ?_) (fun (c6 : ¬((254) < (v))) => ?_)
      · skip
        refine ez_go (n := 1) (pc' := 112) (L' := [(4, .inl (i)), (3, .inl (v)), (0, .inr (.inr (some (720)))), (1, .inr (.inr (some (r)))), (2, .inl (dg))]) (st' := [.inl (0)]) rfl ?_
        exact ez_retZ rfl rfl (by decide) (k0 _ hB4 ((ez_fr.refl (ez_one r) h).put (show Nat.beq r r = true from Nat.beq_refl r) _ _) (fun j hj => ez_put_I (fun w => hj w.2)) (by omega))
      · skip
        refine ez_go (n := 2) (pc' := 112) (L' := [(4, .inl (i)), (3, .inl (v)), (0, .inr (.inr (some (720)))), (1, .inr (.inr (some (r)))), (2, .inl (dg))]) (st' := [.inl (1)]) rfl ?_
        exact ez_retZ rfl rfl (by decide) (k1 _ hB4 ((ez_fr.refl (ez_one r) h).put (show Nat.beq r r = true from Nat.beq_refl r) _ _) (fun j hj => ez_put_I (fun w => hj w.2)) (by rw [w5]; exact rz_rd ⟨by omega, by omega⟩) (by omega) (by omega))
    · exfalso; omega
  | succ n ih =>
    intro i v i1 i2 hn hn3 v0 b3 b2 b1 b0 k1 k0
    unfold rz_dec at k1 k0
    refine ez_go (n := 2) (pc' := 39) (L' := [(4, .inl (i)), (3, .inl (v)), (0, .inr (.inr (some (720)))), (1, .inr (.inr (some (r)))), (2, .inl (dg))]) (st' := [.inr (.inr (some (720))), .inl (i)]) rfl ?_
    refine ez_gC (p := 722) (tg := 54) hB t720 rfl rfl tq_52 rfl rfl (fun (t722 : _ = 54) => ?_)
    refine ez_go (n := 1) (pc' := 43) (L' := [(4, .inl (i)), (3, .inl (v)), (0, .inr (.inr (some (720)))), (1, .inr (.inr (some (r)))), (2, .inl (dg))]) (st' := [.inl (2), .inr (.inr (some (722))), .inl (i)]) rfl ?_
    have n2 : 7 ≤ qz_N h 722 ∧ qz_N h 722 ≤ 7 := ez_len hB t722 tq_54 rfl
    refine ez_aI hB t722 rfl tq_54 rfl rfl (by omega) (by omega) (fun (b1 : 0 ≤ qz_I h 722 (2 : Int).toNat) (b1' : qz_I h 722 (2 : Int).toNat ≤ 4096) => ?_)
    refine ez_icmp rfl rfl ⟨by first | omega | exact (sz_i32 _).1, by first | omega | exact (sz_i32 _).2⟩ ⟨by first | omega | exact (sz_i32 _).1, by first | omega | exact (sz_i32 _).2⟩ (fun (c3 : (qz_I h 722 (2 : Int).toNat) ≤ (i)) => ?_) (fun (c3 : ¬((qz_I h 722 (2 : Int).toNat) ≤ (i))) => ?_)
    · exfalso; omega
    · skip
      refine ez_go (n := 1) (pc' := 48) (L' := [(4, .inl (i)), (3, .inl (v)), (0, .inr (.inr (some (720)))), (1, .inr (.inr (some (r)))), (2, .inl (dg))]) (st' := [.inr (.inr (some (720)))]) rfl ?_
      refine ez_gC (p := 193) (tg := 45) hB t720 rfl rfl tq_52 rfl rfl (fun (t193 : _ = 45) => ?_)
      refine ez_go (n := 1) (pc' := 53) (L' := [(4, .inl (i)), (3, .inl (v)), (0, .inr (.inr (some (720)))), (1, .inr (.inr (some (r)))), (2, .inl (dg))]) (st' := [.inl (i), .inr (.inr (some (193)))]) rfl ?_
      have n5 : 4096 ≤ qz_N h 193 ∧ qz_N h 193 ≤ 4096 := ez_len hB t193 tq_45 rfl
      refine ez_aI hB t193 rfl tq_45 rfl rfl (by omega) (by omega) (fun (b4 : -128 ≤ qz_I h 193 (i).toNat) (b4' : qz_I h 193 (i).toNat ≤ 127) => ?_)
      refine ez_go (n := 1) (pc' := 56) (L' := [(4, .inl (i)), (3, .inl (v)), (0, .inr (.inr (some (720)))), (1, .inr (.inr (some (r)))), (2, .inl (dg))]) (st' := [.inl (48), .inl (qz_I h 193 (i).toNat)]) rfl ?_
      refine ez_icmp rfl rfl ⟨by first | omega | exact (sz_i32 _).1, by first | omega | exact (sz_i32 _).2⟩ ⟨by first | omega | exact (sz_i32 _).1, by first | omega | exact (sz_i32 _).2⟩ (fun (c6 : (qz_I h 193 (i).toNat) < (48)) => ?_) (fun (c6 : ¬((qz_I h 193 (i).toNat) < (48))) => ?_)
      · skip
        refine ez_go (n := 1) (pc' := 72) (L' := [(4, .inl (i)), (3, .inl (v)), (0, .inr (.inr (some (720)))), (1, .inr (.inr (some (r)))), (2, .inl (dg))]) (st' := [.inl (0)]) rfl ?_
        rw [if_neg (by unfold rz_b; omega)] at k0
        exact ez_retZ rfl rfl (by decide) (k0 h hB (ez_fr.refl _ _) (fun _ _ => rfl) (by omega))
      · skip
        refine ez_go (n := 1) (pc' := 60) (L' := [(4, .inl (i)), (3, .inl (v)), (0, .inr (.inr (some (720)))), (1, .inr (.inr (some (r)))), (2, .inl (dg))]) (st' := [.inr (.inr (some (720)))]) rfl ?_
        refine ez_gC (p := 193) (tg := 45) hB t720 rfl rfl tq_52 rfl rfl (fun (t193 : _ = 45) => ?_)
        refine ez_go (n := 1) (pc' := 65) (L' := [(4, .inl (i)), (3, .inl (v)), (0, .inr (.inr (some (720)))), (1, .inr (.inr (some (r)))), (2, .inl (dg))]) (st' := [.inl (i), .inr (.inr (some (193)))]) rfl ?_
        have n8 : 4096 ≤ qz_N h 193 ∧ qz_N h 193 ≤ 4096 := ez_len hB t193 tq_45 rfl
        refine ez_aI hB t193 rfl tq_45 rfl rfl (by omega) (by omega) (fun (b7 : -128 ≤ qz_I h 193 (i).toNat) (b7' : qz_I h 193 (i).toNat ≤ 127) => ?_)
        refine ez_go (n := 1) (pc' := 68) (L' := [(4, .inl (i)), (3, .inl (v)), (0, .inr (.inr (some (720)))), (1, .inr (.inr (some (r)))), (2, .inl (dg))]) (st' := [.inl (57), .inl (qz_I h 193 (i).toNat)]) rfl ?_
        refine ez_icmp rfl rfl ⟨by first | omega | exact (sz_i32 _).1, by first | omega | exact (sz_i32 _).2⟩ ⟨by first | omega | exact (sz_i32 _).1, by first | omega | exact (sz_i32 _).2⟩ (fun (c9 : (qz_I h 193 (i).toNat) ≤ (57)) => ?_) (fun (c9 : ¬((qz_I h 193 (i).toNat) ≤ (57))) => ?_)
        · skip
          refine ez_go (n := 4) (pc' := 78) (L' := [(4, .inl (i)), (3, .inl (v)), (0, .inr (.inr (some (720)))), (1, .inr (.inr (some (r)))), (2, .inl (dg))]) (st' := [.inr (.inr (some (720))), .inl ((v) * (10))]) rfl ?_
          refine ez_gC (p := 193) (tg := 45) hB t720 rfl rfl tq_52 rfl rfl (fun (t193 : _ = 45) => ?_)
          refine ez_go (n := 1) (pc' := 83) (L' := [(4, .inl (i)), (3, .inl (v)), (0, .inr (.inr (some (720)))), (1, .inr (.inr (some (r)))), (2, .inl (dg))]) (st' := [.inl (i), .inr (.inr (some (193))), .inl ((v) * (10))]) rfl ?_
          have n11 : 4096 ≤ qz_N h 193 ∧ qz_N h 193 ≤ 4096 := ez_len hB t193 tq_45 rfl
          refine ez_aI hB t193 rfl tq_45 rfl rfl (by omega) (by omega) (fun (b10 : -128 ≤ qz_I h 193 (i).toNat) (b10' : qz_I h 193 (i).toNat ≤ 127) => ?_)
          refine ez_go (n := 6) (pc' := 36) (L' := [(4, .inl (i + 1)), (3, .inl ((((v) * (10)) + (qz_I h 193 (i).toNat)) - (48))), (0, .inr (.inr (some (720)))), (1, .inr (.inr (some (r)))), (2, .inl (dg))]) (st' := []) rfl ?_
          refine ez_less [(4, .inl (i + 1)), (3, .inl ((((v) * (10)) + (qz_I h 193 (i).toNat)) - (48))), (0, .inr (.inr (some (720)))), (1, .inr (.inr (some (r)))), (2, .inl (dg))] rfl ⟨rfl, rfl, rfl, rfl, rfl, trivial⟩ ?_
          rw [if_pos (by unfold rz_b; omega)] at k1 k0
          exact ih _ _ (by omega) (by omega) (by omega) (by omega) (by omega) (by omega) (by omega) (by omega) (by omega) k1 k0
        · skip
          refine ez_go (n := 1) (pc' := 72) (L' := [(4, .inl (i)), (3, .inl (v)), (0, .inr (.inr (some (720)))), (1, .inr (.inr (some (r)))), (2, .inl (dg))]) (st' := [.inl (0)]) rfl ?_
          rw [if_neg (by unfold rz_b; omega)] at k0
          exact ez_retZ rfl rfl (by decide) (k0 h hB (ez_fr.refl _ _) (fun _ _ => rfl) (by omega))
theorem rd_readClass9 (hB : ez_B τ h) (t720 : τ 720 = 52) (tr : τ r = 3) (k1 : ∀ g, ez_B τ g → ez_fr (ez_one r) h g → (∀ j, j ≠ 2 → qz_I g r j = qz_I h r j) → qz_I g r 2 = (rz_dec (rz_b h) (rz_t h 2 - rz_f h 2).toNat (rz_f h 2) 0) → 1 ≤ rz_t h 2 - rz_f h 2 → rz_t h 2 - rz_f h 2 ≤ 3 → 0 ≤ (rz_dec (rz_b h) (rz_t h 2 - rz_f h 2).toNat (rz_f h 2) 0) → (rz_dec (rz_b h) (rz_t h 2 - rz_f h 2).toNat (rz_f h 2) 0) ≤ 254 → Q (.inl (some (ez_v (.inl 1))), g)) (k0 : ∀ g, ez_B τ g → ez_fr (ez_one r) h g → (∀ j, j ≠ 2 → qz_I g r j = qz_I h r j) → ¬((1 ≤ rz_t h 2 - rz_f h 2 ∧ rz_t h 2 - rz_f h 2 ≤ 3) ∧ (0 ≤ (rz_dec (rz_b h) (rz_t h 2 - rz_f h 2).toNat (rz_f h 2) 0) ∧ (rz_dec (rz_b h) (rz_t h 2 - rz_f h 2).toNat (rz_f h 2) 0) ≤ 254)) → Q (.inl (some (ez_v (.inl 0))), g)) : ez_W d cm_158 0 [(0, .inr (.inr (some (720)))), (1, .inr (.inr (some (r))))] [] h Q := by
  refine ez_go (n := 1) (pc' := 1) (L' := [(0, .inr (.inr (some (720)))), (1, .inr (.inr (some (r))))]) (st' := [.inr (.inr (some (720)))]) rfl ?_
  refine ez_gC (p := 722) (tg := 54) hB t720 rfl rfl tq_52 rfl rfl (fun (t722 : _ = 54) => ?_)
  refine ez_go (n := 1) (pc' := 5) (L' := [(0, .inr (.inr (some (720)))), (1, .inr (.inr (some (r))))]) (st' := [.inl (2), .inr (.inr (some (722)))]) rfl ?_
  have n2 : 7 ≤ qz_N h 722 ∧ qz_N h 722 ≤ 7 := ez_len hB t722 tq_54 rfl
  refine ez_aI hB t722 rfl tq_54 rfl rfl (by omega) (by omega) (fun (b1 : 0 ≤ qz_I h 722 (2 : Int).toNat) (b1' : qz_I h 722 (2 : Int).toNat ≤ 4096) => ?_)
  refine ez_go (n := 1) (pc' := 7) (L' := [(0, .inr (.inr (some (720)))), (1, .inr (.inr (some (r))))]) (st' := [.inr (.inr (some (720))), .inl (qz_I h 722 (2 : Int).toNat)]) rfl ?_
  refine ez_gC (p := 721) (tg := 53) hB t720 rfl rfl tq_52 rfl rfl (fun (t721 : _ = 53) => ?_)
  refine ez_go (n := 1) (pc' := 11) (L' := [(0, .inr (.inr (some (720)))), (1, .inr (.inr (some (r))))]) (st' := [.inl (2), .inr (.inr (some (721))), .inl (qz_I h 722 (2 : Int).toNat)]) rfl ?_
  have n4 : 7 ≤ qz_N h 721 ∧ qz_N h 721 ≤ 7 := ez_len hB t721 tq_53 rfl
  refine ez_aI hB t721 rfl tq_53 rfl rfl (by omega) (by omega) (fun (b3 : 0 ≤ qz_I h 721 (2 : Int).toNat) (b3' : qz_I h 721 (2 : Int).toNat ≤ 4096) => ?_)
  refine ez_go (n := 4) (pc' := 16) (L' := [(2, .inl ((qz_I h 722 (2 : Int).toNat) - (qz_I h 721 (2 : Int).toNat))), (0, .inr (.inr (some (720)))), (1, .inr (.inr (some (r))))]) (st' := [.inl (1), .inl ((qz_I h 722 (2 : Int).toNat) - (qz_I h 721 (2 : Int).toNat))]) rfl ?_
  refine ez_icmp rfl rfl ⟨by first | omega | exact (sz_i32 _).1, by first | omega | exact (sz_i32 _).2⟩ ⟨by first | omega | exact (sz_i32 _).1, by first | omega | exact (sz_i32 _).2⟩ (fun (c5 : ((qz_I h 722 (2 : Int).toNat) - (qz_I h 721 (2 : Int).toNat)) < (1)) => ?_) (fun (c5 : ¬(((qz_I h 722 (2 : Int).toNat) - (qz_I h 721 (2 : Int).toNat)) < (1))) => ?_)
  · skip
    refine ez_go (n := 1) (pc' := 25) (L' := [(2, .inl ((qz_I h 722 (2 : Int).toNat) - (qz_I h 721 (2 : Int).toNat))), (0, .inr (.inr (some (720)))), (1, .inr (.inr (some (r))))]) (st' := [.inl (0)]) rfl ?_
    exact ez_retZ rfl rfl (by decide) (k0 h hB (ez_fr.refl _ _) (fun _ _ => rfl) (fun w => by have := w.1; unfold rz_f rz_t at this; omega))
  · skip
    refine ez_go (n := 2) (pc' := 21) (L' := [(2, .inl ((qz_I h 722 (2 : Int).toNat) - (qz_I h 721 (2 : Int).toNat))), (0, .inr (.inr (some (720)))), (1, .inr (.inr (some (r))))]) (st' := [.inl (3), .inl ((qz_I h 722 (2 : Int).toNat) - (qz_I h 721 (2 : Int).toNat))]) rfl ?_
    refine ez_icmp rfl rfl ⟨by first | omega | exact (sz_i32 _).1, by first | omega | exact (sz_i32 _).2⟩ ⟨by first | omega | exact (sz_i32 _).1, by first | omega | exact (sz_i32 _).2⟩ (fun (c6 : ((qz_I h 722 (2 : Int).toNat) - (qz_I h 721 (2 : Int).toNat)) ≤ (3)) => ?_) (fun (c6 : ¬(((qz_I h 722 (2 : Int).toNat) - (qz_I h 721 (2 : Int).toNat)) ≤ (3))) => ?_)
    · skip
      refine ez_go (n := 3) (pc' := 29) (L' := [(3, .inl (0)), (2, .inl ((qz_I h 722 (2 : Int).toNat) - (qz_I h 721 (2 : Int).toNat))), (0, .inr (.inr (some (720)))), (1, .inr (.inr (some (r))))]) (st' := [.inr (.inr (some (720)))]) rfl ?_
      refine ez_gC (p := 721) (tg := 53) hB t720 rfl rfl tq_52 rfl rfl (fun (t721 : _ = 53) => ?_)
      refine ez_go (n := 1) (pc' := 33) (L' := [(3, .inl (0)), (2, .inl ((qz_I h 722 (2 : Int).toNat) - (qz_I h 721 (2 : Int).toNat))), (0, .inr (.inr (some (720)))), (1, .inr (.inr (some (r))))]) (st' := [.inl (2), .inr (.inr (some (721)))]) rfl ?_
      have n8 : 7 ≤ qz_N h 721 ∧ qz_N h 721 ≤ 7 := ez_len hB t721 tq_53 rfl
      refine ez_aI hB t721 rfl tq_53 rfl rfl (by omega) (by omega) (fun (b7 : 0 ≤ qz_I h 721 (2 : Int).toNat) (b7' : qz_I h 721 (2 : Int).toNat ≤ 4096) => ?_)
      refine ez_go (n := 1) (pc' := 36) (L' := [(4, .inl (qz_I h 721 (2 : Int).toNat)), (3, .inl (0)), (2, .inl ((qz_I h 722 (2 : Int).toNat) - (qz_I h 721 (2 : Int).toNat))), (0, .inr (.inr (some (720)))), (1, .inr (.inr (some (r))))]) (st' := []) rfl ?_
      refine ez_less [(4, .inl (qz_I h 721 (2 : Int).toNat)), (3, .inl (0)), (0, .inr (.inr (some (720)))), (1, .inr (.inr (some (r)))), (2, .inl ((qz_I h 722 (2 : Int).toNat) - (qz_I h 721 (2 : Int).toNat)))] rfl ⟨rfl, rfl, rfl, rfl, rfl, trivial⟩ ?_
      have hs2 : qz_I h 721 (2 : Int).toNat = rz_f h 2 := rfl
      have ht2 : qz_I h 722 (2 : Int).toNat = rz_t h 2 := rfl
      rw [hs2]
      exact rd_readClass_l9 hB t720 tr rfl rfl (by omega) (by omega) _ _ _ (by omega) (by omega) rfl (by omega) (by omega) (by omega) (by omega) (by omega) (by omega) (fun g e1 e2 e3 e4 e5 e6 => k1 g e1 e2 e3 e4 (by omega) (by omega) e5 e6) (fun g e1 e2 e3 e4 => k0 g e1 e2 e3 (fun w => e4 w.2))
    · skip
      refine ez_go (n := 1) (pc' := 25) (L' := [(2, .inl ((qz_I h 722 (2 : Int).toNat) - (qz_I h 721 (2 : Int).toNat))), (0, .inr (.inr (some (720)))), (1, .inr (.inr (some (r))))]) (st' := [.inl (0)]) rfl ?_
      exact ez_retZ rfl rfl (by decide) (k0 h hB (ez_fr.refl _ _) (fun _ _ => rfl) (fun w => by have := w.1; unfold rz_f rz_t at this; omega))
end EzRd6
section EzTk
variable {d : Nat} {h : cz_H} {τ : Nat → Nat} {Q : cz_F → Prop} {r : Nat}
theorem rd_takeFact_b29 (hB : ez_B τ h) (t193 : τ 193 = 45) (t720 : τ 720 = 52) (t721 : τ 721 = 53) (t722 : τ 722 = 54) (tr : τ r = 3) (hft : ∀ k, 0 ≤ k → k ≤ 6 → rz_f h k ≤ rz_t h k) (k : ∀ g, ez_B τ g → ez_fr (ez_one r) h g → (∀ j, j ≠ 5 → j ≠ 6 → j ≠ 7 → qz_I g r j = qz_I h r j) → qz_I g r 5 = rz_code (rz_b h) (rz_f h 4) (rz_t h 4) → qz_I g r 6 = rz_code (rz_b h) (rz_f h 5) (rz_t h 5) → qz_I g r 7 = rz_code (rz_b h) (rz_f h 6) (rz_t h 6) → ez_W (d + 3) cm_176 130 [(0, .inr (.inr (some (720)))), (1, .inr (.inr (some (r))))] [] g Q) : ez_W (d + 3) cm_176 68 [(0, .inr (.inr (some (720)))), (1, .inr (.inr (some (r))))] [] h Q := by
  refine ez_go (n := 3) (pc' := 71) (L' := [(0, .inr (.inr (some (720)))), (1, .inr (.inr (some (r))))]) (st' := [.inr (.inr (some (720))), .inr (.inr (some (720))), .inr (.inr (some (r)))]) rfl ?_
  refine ez_gC (p := 721) (tg := 53) hB t720 rfl rfl tq_52 rfl rfl (fun (t721 : _ = 53) => ?_)
  refine ez_go (n := 1) (pc' := 75) (L' := [(0, .inr (.inr (some (720)))), (1, .inr (.inr (some (r))))]) (st' := [.inl (4), .inr (.inr (some (721))), .inr (.inr (some (720))), .inr (.inr (some (r)))]) rfl ?_
  have n2 : 7 ≤ qz_N h 721 ∧ qz_N h 721 ≤ 7 := ez_len hB t721 tq_53 rfl
  refine ez_aI hB t721 rfl tq_53 rfl rfl (by omega) (by omega) (fun (b1 : 0 ≤ qz_I h 721 (4 : Int).toNat) (b1' : qz_I h 721 (4 : Int).toNat ≤ 4096) => ?_)
  refine ez_go (n := 1) (pc' := 77) (L' := [(0, .inr (.inr (some (720)))), (1, .inr (.inr (some (r))))]) (st' := [.inr (.inr (some (720))), .inl (qz_I h 721 (4 : Int).toNat), .inr (.inr (some (720))), .inr (.inr (some (r)))]) rfl ?_
  refine ez_gC (p := 722) (tg := 54) hB t720 rfl rfl tq_52 rfl rfl (fun (t722 : _ = 54) => ?_)
  refine ez_go (n := 1) (pc' := 81) (L' := [(0, .inr (.inr (some (720)))), (1, .inr (.inr (some (r))))]) (st' := [.inl (4), .inr (.inr (some (722))), .inl (qz_I h 721 (4 : Int).toNat), .inr (.inr (some (720))), .inr (.inr (some (r)))]) rfl ?_
  have n4 : 7 ≤ qz_N h 722 ∧ qz_N h 722 ≤ 7 := ez_len hB t722 tq_54 rfl
  refine ez_aI hB t722 rfl tq_54 rfl rfl (by omega) (by omega) (fun (b3 : 0 ≤ qz_I h 722 (4 : Int).toNat) (b3' : qz_I h 722 (4 : Int).toNat ≤ 4096) => ?_)
  have xf4 : qz_I h 721 (4 : Int).toNat = rz_f h 4 := rfl
  have xt4 : qz_I h 722 (4 : Int).toNat = rz_t h 4 := rfl
  have xl4 := hft 4 (by omega) (by omega)
  have xb4 := rz_code_bd (rz_b h) (qz_I h 721 (4 : Int).toNat) (qz_I h 722 (4 : Int).toNat)
  refine ez_cv hB t720 rfl rfl rfl tq_52 rfl rfl rfl (rd_readCode hB t720 (by omega) (by omega) (by omega) (ez_K1 ?_))
  refine ez_pf hB tr rfl rfl tq_3 rfl rfl rfl rfl (ez_vdI rfl rfl (by omega) (by omega)) (fun hB5 w6 => ?_)
  refine ez_go (n := 3) (pc' := 91) (L' := [(0, .inr (.inr (some (720)))), (1, .inr (.inr (some (r))))]) (st' := [.inr (.inr (some (720))), .inr (.inr (some (720))), .inr (.inr (some (r)))]) rfl ?_
  refine ez_gC (p := 721) (tg := 53) hB5 t720 rfl rfl tq_52 rfl rfl (fun (t721 : _ = 53) => ?_)
  refine ez_go (n := 1) (pc' := 95) (L' := [(0, .inr (.inr (some (720)))), (1, .inr (.inr (some (r))))]) (st' := [.inl (5), .inr (.inr (some (721))), .inr (.inr (some (720))), .inr (.inr (some (r)))]) rfl ?_
  have n8 : 7 ≤ qz_N (dz_put h r 5 (ez_v (.inl (rz_code (rz_b h) (qz_I h 721 (4 : Int).toNat) (qz_I h 722 (4 : Int).toNat))))) 721 ∧ qz_N (dz_put h r 5 (ez_v (.inl (rz_code (rz_b h) (qz_I h 721 (4 : Int).toNat) (qz_I h 722 (4 : Int).toNat))))) 721 ≤ 7 := ez_len hB5 t721 tq_53 rfl
  refine ez_aI hB5 t721 rfl tq_53 rfl rfl (by omega) (by omega) (fun (b7 : 0 ≤ qz_I (dz_put h r 5 (ez_v (.inl (rz_code (rz_b h) (qz_I h 721 (4 : Int).toNat) (qz_I h 722 (4 : Int).toNat))))) 721 (5 : Int).toNat) (b7' : qz_I (dz_put h r 5 (ez_v (.inl (rz_code (rz_b h) (qz_I h 721 (4 : Int).toNat) (qz_I h 722 (4 : Int).toNat))))) 721 (5 : Int).toNat ≤ 4096) => ?_)
  refine ez_go (n := 1) (pc' := 97) (L' := [(0, .inr (.inr (some (720)))), (1, .inr (.inr (some (r))))]) (st' := [.inr (.inr (some (720))), .inl (qz_I (dz_put h r 5 (ez_v (.inl (rz_code (rz_b h) (qz_I h 721 (4 : Int).toNat) (qz_I h 722 (4 : Int).toNat))))) 721 (5 : Int).toNat), .inr (.inr (some (720))), .inr (.inr (some (r)))]) rfl ?_
  refine ez_gC (p := 722) (tg := 54) hB5 t720 rfl rfl tq_52 rfl rfl (fun (t722 : _ = 54) => ?_)
  refine ez_go (n := 1) (pc' := 101) (L' := [(0, .inr (.inr (some (720)))), (1, .inr (.inr (some (r))))]) (st' := [.inl (5), .inr (.inr (some (722))), .inl (qz_I (dz_put h r 5 (ez_v (.inl (rz_code (rz_b h) (qz_I h 721 (4 : Int).toNat) (qz_I h 722 (4 : Int).toNat))))) 721 (5 : Int).toNat), .inr (.inr (some (720))), .inr (.inr (some (r)))]) rfl ?_
  have n10 : 7 ≤ qz_N (dz_put h r 5 (ez_v (.inl (rz_code (rz_b h) (qz_I h 721 (4 : Int).toNat) (qz_I h 722 (4 : Int).toNat))))) 722 ∧ qz_N (dz_put h r 5 (ez_v (.inl (rz_code (rz_b h) (qz_I h 721 (4 : Int).toNat) (qz_I h 722 (4 : Int).toNat))))) 722 ≤ 7 := ez_len hB5 t722 tq_54 rfl
  refine ez_aI hB5 t722 rfl tq_54 rfl rfl (by omega) (by omega) (fun (b9 : 0 ≤ qz_I (dz_put h r 5 (ez_v (.inl (rz_code (rz_b h) (qz_I h 721 (4 : Int).toNat) (qz_I h 722 (4 : Int).toNat))))) 722 (5 : Int).toNat) (b9' : qz_I (dz_put h r 5 (ez_v (.inl (rz_code (rz_b h) (qz_I h 721 (4 : Int).toNat) (qz_I h 722 (4 : Int).toNat))))) 722 (5 : Int).toNat ≤ 4096) => ?_)
  have fr5 : ez_fr (ez_one r) h (dz_put h r 5 (ez_v (.inl (rz_code (rz_b h) (qz_I h 721 (4 : Int).toNat) (qz_I h 722 (4 : Int).toNat))))) := (ez_fr.refl (ez_one r) h).put (show Nat.beq r r = true from Nat.beq_refl r) _ _
  have xf5 : qz_I (dz_put h r 5 (ez_v (.inl (rz_code (rz_b h) (qz_I h 721 (4 : Int).toNat) (qz_I h 722 (4 : Int).toNat))))) 721 (5 : Int).toNat = rz_f h 5 := fr5.I (rz_ne t721 tr rfl) _
  have xt5 : qz_I (dz_put h r 5 (ez_v (.inl (rz_code (rz_b h) (qz_I h 721 (4 : Int).toNat) (qz_I h 722 (4 : Int).toNat))))) 722 (5 : Int).toNat = rz_t h 5 := fr5.I (rz_ne t722 tr rfl) _
  have xl5 := hft 5 (by omega) (by omega)
  have xb5 := rz_code_bd (rz_b (dz_put h r 5 (ez_v (.inl (rz_code (rz_b h) (qz_I h 721 (4 : Int).toNat) (qz_I h 722 (4 : Int).toNat)))))) (qz_I (dz_put h r 5 (ez_v (.inl (rz_code (rz_b h) (qz_I h 721 (4 : Int).toNat) (qz_I h 722 (4 : Int).toNat))))) 721 (5 : Int).toNat) (qz_I (dz_put h r 5 (ez_v (.inl (rz_code (rz_b h) (qz_I h 721 (4 : Int).toNat) (qz_I h 722 (4 : Int).toNat))))) 722 (5 : Int).toNat)
  refine ez_cv hB5 t720 rfl rfl rfl tq_52 rfl rfl rfl (rd_readCode hB5 t720 (by omega) (by omega) (by omega) (ez_K1 ?_))
  refine ez_pf hB5 tr rfl rfl tq_3 rfl rfl rfl rfl (ez_vdI rfl rfl (by omega) (by omega)) (fun hB11 w12 => ?_)
  refine ez_go (n := 3) (pc' := 111) (L' := [(0, .inr (.inr (some (720)))), (1, .inr (.inr (some (r))))]) (st' := [.inr (.inr (some (720))), .inr (.inr (some (720))), .inr (.inr (some (r)))]) rfl ?_
  refine ez_gC (p := 721) (tg := 53) hB11 t720 rfl rfl tq_52 rfl rfl (fun (t721 : _ = 53) => ?_)
  refine ez_go (n := 1) (pc' := 116) (L' := [(0, .inr (.inr (some (720)))), (1, .inr (.inr (some (r))))]) (st' := [.inl (6), .inr (.inr (some (721))), .inr (.inr (some (720))), .inr (.inr (some (r)))]) rfl ?_
  have n14 : 7 ≤ qz_N (dz_put (dz_put h r 5 (ez_v (.inl (rz_code (rz_b h) (qz_I h 721 (4 : Int).toNat) (qz_I h 722 (4 : Int).toNat))))) r 6 (ez_v (.inl (rz_code (rz_b (dz_put h r 5 (ez_v (.inl (rz_code (rz_b h) (qz_I h 721 (4 : Int).toNat) (qz_I h 722 (4 : Int).toNat)))))) (qz_I (dz_put h r 5 (ez_v (.inl (rz_code (rz_b h) (qz_I h 721 (4 : Int).toNat) (qz_I h 722 (4 : Int).toNat))))) 721 (5 : Int).toNat) (qz_I (dz_put h r 5 (ez_v (.inl (rz_code (rz_b h) (qz_I h 721 (4 : Int).toNat) (qz_I h 722 (4 : Int).toNat))))) 722 (5 : Int).toNat))))) 721 ∧ qz_N (dz_put (dz_put h r 5 (ez_v (.inl (rz_code (rz_b h) (qz_I h 721 (4 : Int).toNat) (qz_I h 722 (4 : Int).toNat))))) r 6 (ez_v (.inl (rz_code (rz_b (dz_put h r 5 (ez_v (.inl (rz_code (rz_b h) (qz_I h 721 (4 : Int).toNat) (qz_I h 722 (4 : Int).toNat)))))) (qz_I (dz_put h r 5 (ez_v (.inl (rz_code (rz_b h) (qz_I h 721 (4 : Int).toNat) (qz_I h 722 (4 : Int).toNat))))) 721 (5 : Int).toNat) (qz_I (dz_put h r 5 (ez_v (.inl (rz_code (rz_b h) (qz_I h 721 (4 : Int).toNat) (qz_I h 722 (4 : Int).toNat))))) 722 (5 : Int).toNat))))) 721 ≤ 7 := ez_len hB11 t721 tq_53 rfl
  refine ez_aI hB11 t721 rfl tq_53 rfl rfl (by omega) (by omega) (fun (b13 : 0 ≤ qz_I (dz_put (dz_put h r 5 (ez_v (.inl (rz_code (rz_b h) (qz_I h 721 (4 : Int).toNat) (qz_I h 722 (4 : Int).toNat))))) r 6 (ez_v (.inl (rz_code (rz_b (dz_put h r 5 (ez_v (.inl (rz_code (rz_b h) (qz_I h 721 (4 : Int).toNat) (qz_I h 722 (4 : Int).toNat)))))) (qz_I (dz_put h r 5 (ez_v (.inl (rz_code (rz_b h) (qz_I h 721 (4 : Int).toNat) (qz_I h 722 (4 : Int).toNat))))) 721 (5 : Int).toNat) (qz_I (dz_put h r 5 (ez_v (.inl (rz_code (rz_b h) (qz_I h 721 (4 : Int).toNat) (qz_I h 722 (4 : Int).toNat))))) 722 (5 : Int).toNat))))) 721 (6 : Int).toNat) (b13' : qz_I (dz_put (dz_put h r 5 (ez_v (.inl (rz_code (rz_b h) (qz_I h 721 (4 : Int).toNat) (qz_I h 722 (4 : Int).toNat))))) r 6 (ez_v (.inl (rz_code (rz_b (dz_put h r 5 (ez_v (.inl (rz_code (rz_b h) (qz_I h 721 (4 : Int).toNat) (qz_I h 722 (4 : Int).toNat)))))) (qz_I (dz_put h r 5 (ez_v (.inl (rz_code (rz_b h) (qz_I h 721 (4 : Int).toNat) (qz_I h 722 (4 : Int).toNat))))) 721 (5 : Int).toNat) (qz_I (dz_put h r 5 (ez_v (.inl (rz_code (rz_b h) (qz_I h 721 (4 : Int).toNat) (qz_I h 722 (4 : Int).toNat))))) 722 (5 : Int).toNat))))) 721 (6 : Int).toNat ≤ 4096) => ?_)
  refine ez_go (n := 1) (pc' := 118) (L' := [(0, .inr (.inr (some (720)))), (1, .inr (.inr (some (r))))]) (st' := [.inr (.inr (some (720))), .inl (qz_I (dz_put (dz_put h r 5 (ez_v (.inl (rz_code (rz_b h) (qz_I h 721 (4 : Int).toNat) (qz_I h 722 (4 : Int).toNat))))) r 6 (ez_v (.inl (rz_code (rz_b (dz_put h r 5 (ez_v (.inl (rz_code (rz_b h) (qz_I h 721 (4 : Int).toNat) (qz_I h 722 (4 : Int).toNat)))))) (qz_I (dz_put h r 5 (ez_v (.inl (rz_code (rz_b h) (qz_I h 721 (4 : Int).toNat) (qz_I h 722 (4 : Int).toNat))))) 721 (5 : Int).toNat) (qz_I (dz_put h r 5 (ez_v (.inl (rz_code (rz_b h) (qz_I h 721 (4 : Int).toNat) (qz_I h 722 (4 : Int).toNat))))) 722 (5 : Int).toNat))))) 721 (6 : Int).toNat), .inr (.inr (some (720))), .inr (.inr (some (r)))]) rfl ?_
  refine ez_gC (p := 722) (tg := 54) hB11 t720 rfl rfl tq_52 rfl rfl (fun (t722 : _ = 54) => ?_)
  refine ez_go (n := 1) (pc' := 123) (L' := [(0, .inr (.inr (some (720)))), (1, .inr (.inr (some (r))))]) (st' := [.inl (6), .inr (.inr (some (722))), .inl (qz_I (dz_put (dz_put h r 5 (ez_v (.inl (rz_code (rz_b h) (qz_I h 721 (4 : Int).toNat) (qz_I h 722 (4 : Int).toNat))))) r 6 (ez_v (.inl (rz_code (rz_b (dz_put h r 5 (ez_v (.inl (rz_code (rz_b h) (qz_I h 721 (4 : Int).toNat) (qz_I h 722 (4 : Int).toNat)))))) (qz_I (dz_put h r 5 (ez_v (.inl (rz_code (rz_b h) (qz_I h 721 (4 : Int).toNat) (qz_I h 722 (4 : Int).toNat))))) 721 (5 : Int).toNat) (qz_I (dz_put h r 5 (ez_v (.inl (rz_code (rz_b h) (qz_I h 721 (4 : Int).toNat) (qz_I h 722 (4 : Int).toNat))))) 722 (5 : Int).toNat))))) 721 (6 : Int).toNat), .inr (.inr (some (720))), .inr (.inr (some (r)))]) rfl ?_
  have n16 : 7 ≤ qz_N (dz_put (dz_put h r 5 (ez_v (.inl (rz_code (rz_b h) (qz_I h 721 (4 : Int).toNat) (qz_I h 722 (4 : Int).toNat))))) r 6 (ez_v (.inl (rz_code (rz_b (dz_put h r 5 (ez_v (.inl (rz_code (rz_b h) (qz_I h 721 (4 : Int).toNat) (qz_I h 722 (4 : Int).toNat)))))) (qz_I (dz_put h r 5 (ez_v (.inl (rz_code (rz_b h) (qz_I h 721 (4 : Int).toNat) (qz_I h 722 (4 : Int).toNat))))) 721 (5 : Int).toNat) (qz_I (dz_put h r 5 (ez_v (.inl (rz_code (rz_b h) (qz_I h 721 (4 : Int).toNat) (qz_I h 722 (4 : Int).toNat))))) 722 (5 : Int).toNat))))) 722 ∧ qz_N (dz_put (dz_put h r 5 (ez_v (.inl (rz_code (rz_b h) (qz_I h 721 (4 : Int).toNat) (qz_I h 722 (4 : Int).toNat))))) r 6 (ez_v (.inl (rz_code (rz_b (dz_put h r 5 (ez_v (.inl (rz_code (rz_b h) (qz_I h 721 (4 : Int).toNat) (qz_I h 722 (4 : Int).toNat)))))) (qz_I (dz_put h r 5 (ez_v (.inl (rz_code (rz_b h) (qz_I h 721 (4 : Int).toNat) (qz_I h 722 (4 : Int).toNat))))) 721 (5 : Int).toNat) (qz_I (dz_put h r 5 (ez_v (.inl (rz_code (rz_b h) (qz_I h 721 (4 : Int).toNat) (qz_I h 722 (4 : Int).toNat))))) 722 (5 : Int).toNat))))) 722 ≤ 7 := ez_len hB11 t722 tq_54 rfl
  refine ez_aI hB11 t722 rfl tq_54 rfl rfl (by omega) (by omega) (fun (b15 : 0 ≤ qz_I (dz_put (dz_put h r 5 (ez_v (.inl (rz_code (rz_b h) (qz_I h 721 (4 : Int).toNat) (qz_I h 722 (4 : Int).toNat))))) r 6 (ez_v (.inl (rz_code (rz_b (dz_put h r 5 (ez_v (.inl (rz_code (rz_b h) (qz_I h 721 (4 : Int).toNat) (qz_I h 722 (4 : Int).toNat)))))) (qz_I (dz_put h r 5 (ez_v (.inl (rz_code (rz_b h) (qz_I h 721 (4 : Int).toNat) (qz_I h 722 (4 : Int).toNat))))) 721 (5 : Int).toNat) (qz_I (dz_put h r 5 (ez_v (.inl (rz_code (rz_b h) (qz_I h 721 (4 : Int).toNat) (qz_I h 722 (4 : Int).toNat))))) 722 (5 : Int).toNat))))) 722 (6 : Int).toNat) (b15' : qz_I (dz_put (dz_put h r 5 (ez_v (.inl (rz_code (rz_b h) (qz_I h 721 (4 : Int).toNat) (qz_I h 722 (4 : Int).toNat))))) r 6 (ez_v (.inl (rz_code (rz_b (dz_put h r 5 (ez_v (.inl (rz_code (rz_b h) (qz_I h 721 (4 : Int).toNat) (qz_I h 722 (4 : Int).toNat)))))) (qz_I (dz_put h r 5 (ez_v (.inl (rz_code (rz_b h) (qz_I h 721 (4 : Int).toNat) (qz_I h 722 (4 : Int).toNat))))) 721 (5 : Int).toNat) (qz_I (dz_put h r 5 (ez_v (.inl (rz_code (rz_b h) (qz_I h 721 (4 : Int).toNat) (qz_I h 722 (4 : Int).toNat))))) 722 (5 : Int).toNat))))) 722 (6 : Int).toNat ≤ 4096) => ?_)
  have fr6 : ez_fr (ez_one r) h (dz_put (dz_put h r 5 (ez_v (.inl (rz_code (rz_b h) (qz_I h 721 (4 : Int).toNat) (qz_I h 722 (4 : Int).toNat))))) r 6 (ez_v (.inl (rz_code (rz_b (dz_put h r 5 (ez_v (.inl (rz_code (rz_b h) (qz_I h 721 (4 : Int).toNat) (qz_I h 722 (4 : Int).toNat)))))) (qz_I (dz_put h r 5 (ez_v (.inl (rz_code (rz_b h) (qz_I h 721 (4 : Int).toNat) (qz_I h 722 (4 : Int).toNat))))) 721 (5 : Int).toNat) (qz_I (dz_put h r 5 (ez_v (.inl (rz_code (rz_b h) (qz_I h 721 (4 : Int).toNat) (qz_I h 722 (4 : Int).toNat))))) 722 (5 : Int).toNat))))) := ((ez_fr.refl (ez_one r) h).put (show Nat.beq r r = true from Nat.beq_refl r) _ _).put (show Nat.beq r r = true from Nat.beq_refl r) _ _
  have xf6 : qz_I (dz_put (dz_put h r 5 (ez_v (.inl (rz_code (rz_b h) (qz_I h 721 (4 : Int).toNat) (qz_I h 722 (4 : Int).toNat))))) r 6 (ez_v (.inl (rz_code (rz_b (dz_put h r 5 (ez_v (.inl (rz_code (rz_b h) (qz_I h 721 (4 : Int).toNat) (qz_I h 722 (4 : Int).toNat)))))) (qz_I (dz_put h r 5 (ez_v (.inl (rz_code (rz_b h) (qz_I h 721 (4 : Int).toNat) (qz_I h 722 (4 : Int).toNat))))) 721 (5 : Int).toNat) (qz_I (dz_put h r 5 (ez_v (.inl (rz_code (rz_b h) (qz_I h 721 (4 : Int).toNat) (qz_I h 722 (4 : Int).toNat))))) 722 (5 : Int).toNat))))) 721 (6 : Int).toNat = rz_f h 6 := fr6.I (rz_ne t721 tr rfl) _
  have xt6 : qz_I (dz_put (dz_put h r 5 (ez_v (.inl (rz_code (rz_b h) (qz_I h 721 (4 : Int).toNat) (qz_I h 722 (4 : Int).toNat))))) r 6 (ez_v (.inl (rz_code (rz_b (dz_put h r 5 (ez_v (.inl (rz_code (rz_b h) (qz_I h 721 (4 : Int).toNat) (qz_I h 722 (4 : Int).toNat)))))) (qz_I (dz_put h r 5 (ez_v (.inl (rz_code (rz_b h) (qz_I h 721 (4 : Int).toNat) (qz_I h 722 (4 : Int).toNat))))) 721 (5 : Int).toNat) (qz_I (dz_put h r 5 (ez_v (.inl (rz_code (rz_b h) (qz_I h 721 (4 : Int).toNat) (qz_I h 722 (4 : Int).toNat))))) 722 (5 : Int).toNat))))) 722 (6 : Int).toNat = rz_t h 6 := fr6.I (rz_ne t722 tr rfl) _
  have xl6 := hft 6 (by omega) (by omega)
  have xb6 := rz_code_bd (rz_b (dz_put (dz_put h r 5 (ez_v (.inl (rz_code (rz_b h) (qz_I h 721 (4 : Int).toNat) (qz_I h 722 (4 : Int).toNat))))) r 6 (ez_v (.inl (rz_code (rz_b (dz_put h r 5 (ez_v (.inl (rz_code (rz_b h) (qz_I h 721 (4 : Int).toNat) (qz_I h 722 (4 : Int).toNat)))))) (qz_I (dz_put h r 5 (ez_v (.inl (rz_code (rz_b h) (qz_I h 721 (4 : Int).toNat) (qz_I h 722 (4 : Int).toNat))))) 721 (5 : Int).toNat) (qz_I (dz_put h r 5 (ez_v (.inl (rz_code (rz_b h) (qz_I h 721 (4 : Int).toNat) (qz_I h 722 (4 : Int).toNat))))) 722 (5 : Int).toNat)))))) (qz_I (dz_put (dz_put h r 5 (ez_v (.inl (rz_code (rz_b h) (qz_I h 721 (4 : Int).toNat) (qz_I h 722 (4 : Int).toNat))))) r 6 (ez_v (.inl (rz_code (rz_b (dz_put h r 5 (ez_v (.inl (rz_code (rz_b h) (qz_I h 721 (4 : Int).toNat) (qz_I h 722 (4 : Int).toNat)))))) (qz_I (dz_put h r 5 (ez_v (.inl (rz_code (rz_b h) (qz_I h 721 (4 : Int).toNat) (qz_I h 722 (4 : Int).toNat))))) 721 (5 : Int).toNat) (qz_I (dz_put h r 5 (ez_v (.inl (rz_code (rz_b h) (qz_I h 721 (4 : Int).toNat) (qz_I h 722 (4 : Int).toNat))))) 722 (5 : Int).toNat))))) 721 (6 : Int).toNat) (qz_I (dz_put (dz_put h r 5 (ez_v (.inl (rz_code (rz_b h) (qz_I h 721 (4 : Int).toNat) (qz_I h 722 (4 : Int).toNat))))) r 6 (ez_v (.inl (rz_code (rz_b (dz_put h r 5 (ez_v (.inl (rz_code (rz_b h) (qz_I h 721 (4 : Int).toNat) (qz_I h 722 (4 : Int).toNat)))))) (qz_I (dz_put h r 5 (ez_v (.inl (rz_code (rz_b h) (qz_I h 721 (4 : Int).toNat) (qz_I h 722 (4 : Int).toNat))))) 721 (5 : Int).toNat) (qz_I (dz_put h r 5 (ez_v (.inl (rz_code (rz_b h) (qz_I h 721 (4 : Int).toNat) (qz_I h 722 (4 : Int).toNat))))) 722 (5 : Int).toNat))))) 722 (6 : Int).toNat)
  refine ez_cv hB11 t720 rfl rfl rfl tq_52 rfl rfl rfl (rd_readCode hB11 t720 (by omega) (by omega) (by omega) (ez_K1 ?_))
  refine ez_pf hB11 tr rfl rfl tq_3 rfl rfl rfl rfl (ez_vdI rfl rfl (by omega) (by omega)) (fun hB17 w18 => ?_)
  refine ez_less [(0, .inr (.inr (some (720)))), (1, .inr (.inr (some (r))))] rfl ⟨rfl, rfl, trivial⟩ ?_
  have e5 : qz_I (dz_put (dz_put (dz_put h r 5 (ez_v (.inl (rz_code (rz_b h) (qz_I h 721 (4 : Int).toNat) (qz_I h 722 (4 : Int).toNat))))) r 6 (ez_v (.inl (rz_code (rz_b (dz_put h r 5 (ez_v (.inl (rz_code (rz_b h) (qz_I h 721 (4 : Int).toNat) (qz_I h 722 (4 : Int).toNat)))))) (qz_I (dz_put h r 5 (ez_v (.inl (rz_code (rz_b h) (qz_I h 721 (4 : Int).toNat) (qz_I h 722 (4 : Int).toNat))))) 721 (5 : Int).toNat) (qz_I (dz_put h r 5 (ez_v (.inl (rz_code (rz_b h) (qz_I h 721 (4 : Int).toNat) (qz_I h 722 (4 : Int).toNat))))) 722 (5 : Int).toNat))))) r 7 (ez_v (.inl (rz_code (rz_b (dz_put (dz_put h r 5 (ez_v (.inl (rz_code (rz_b h) (qz_I h 721 (4 : Int).toNat) (qz_I h 722 (4 : Int).toNat))))) r 6 (ez_v (.inl (rz_code (rz_b (dz_put h r 5 (ez_v (.inl (rz_code (rz_b h) (qz_I h 721 (4 : Int).toNat) (qz_I h 722 (4 : Int).toNat)))))) (qz_I (dz_put h r 5 (ez_v (.inl (rz_code (rz_b h) (qz_I h 721 (4 : Int).toNat) (qz_I h 722 (4 : Int).toNat))))) 721 (5 : Int).toNat) (qz_I (dz_put h r 5 (ez_v (.inl (rz_code (rz_b h) (qz_I h 721 (4 : Int).toNat) (qz_I h 722 (4 : Int).toNat))))) 722 (5 : Int).toNat)))))) (qz_I (dz_put (dz_put h r 5 (ez_v (.inl (rz_code (rz_b h) (qz_I h 721 (4 : Int).toNat) (qz_I h 722 (4 : Int).toNat))))) r 6 (ez_v (.inl (rz_code (rz_b (dz_put h r 5 (ez_v (.inl (rz_code (rz_b h) (qz_I h 721 (4 : Int).toNat) (qz_I h 722 (4 : Int).toNat)))))) (qz_I (dz_put h r 5 (ez_v (.inl (rz_code (rz_b h) (qz_I h 721 (4 : Int).toNat) (qz_I h 722 (4 : Int).toNat))))) 721 (5 : Int).toNat) (qz_I (dz_put h r 5 (ez_v (.inl (rz_code (rz_b h) (qz_I h 721 (4 : Int).toNat) (qz_I h 722 (4 : Int).toNat))))) 722 (5 : Int).toNat))))) 721 (6 : Int).toNat) (qz_I (dz_put (dz_put h r 5 (ez_v (.inl (rz_code (rz_b h) (qz_I h 721 (4 : Int).toNat) (qz_I h 722 (4 : Int).toNat))))) r 6 (ez_v (.inl (rz_code (rz_b (dz_put h r 5 (ez_v (.inl (rz_code (rz_b h) (qz_I h 721 (4 : Int).toNat) (qz_I h 722 (4 : Int).toNat)))))) (qz_I (dz_put h r 5 (ez_v (.inl (rz_code (rz_b h) (qz_I h 721 (4 : Int).toNat) (qz_I h 722 (4 : Int).toNat))))) 721 (5 : Int).toNat) (qz_I (dz_put h r 5 (ez_v (.inl (rz_code (rz_b h) (qz_I h 721 (4 : Int).toNat) (qz_I h 722 (4 : Int).toNat))))) 722 (5 : Int).toNat))))) 722 (6 : Int).toNat))))) r 5 = rz_code (rz_b h) (rz_f h 4) (rz_t h 4) := by rw [ez_put_I (by omega), ez_put_I (by omega), w6, rz_rd ⟨by omega, by omega⟩]; rfl
  have b5 : rz_b (dz_put h r 5 (ez_v (.inl (rz_code (rz_b h) (qz_I h 721 (4 : Int).toNat) (qz_I h 722 (4 : Int).toNat))))) = rz_b h := rz_b_fr fr5 (rz_ne t193 tr rfl)
  have b6 : rz_b (dz_put (dz_put h r 5 (ez_v (.inl (rz_code (rz_b h) (qz_I h 721 (4 : Int).toNat) (qz_I h 722 (4 : Int).toNat))))) r 6 (ez_v (.inl (rz_code (rz_b (dz_put h r 5 (ez_v (.inl (rz_code (rz_b h) (qz_I h 721 (4 : Int).toNat) (qz_I h 722 (4 : Int).toNat)))))) (qz_I (dz_put h r 5 (ez_v (.inl (rz_code (rz_b h) (qz_I h 721 (4 : Int).toNat) (qz_I h 722 (4 : Int).toNat))))) 721 (5 : Int).toNat) (qz_I (dz_put h r 5 (ez_v (.inl (rz_code (rz_b h) (qz_I h 721 (4 : Int).toNat) (qz_I h 722 (4 : Int).toNat))))) 722 (5 : Int).toNat))))) = rz_b h := rz_b_fr fr6 (rz_ne t193 tr rfl)
  have e6 : qz_I (dz_put (dz_put (dz_put h r 5 (ez_v (.inl (rz_code (rz_b h) (qz_I h 721 (4 : Int).toNat) (qz_I h 722 (4 : Int).toNat))))) r 6 (ez_v (.inl (rz_code (rz_b (dz_put h r 5 (ez_v (.inl (rz_code (rz_b h) (qz_I h 721 (4 : Int).toNat) (qz_I h 722 (4 : Int).toNat)))))) (qz_I (dz_put h r 5 (ez_v (.inl (rz_code (rz_b h) (qz_I h 721 (4 : Int).toNat) (qz_I h 722 (4 : Int).toNat))))) 721 (5 : Int).toNat) (qz_I (dz_put h r 5 (ez_v (.inl (rz_code (rz_b h) (qz_I h 721 (4 : Int).toNat) (qz_I h 722 (4 : Int).toNat))))) 722 (5 : Int).toNat))))) r 7 (ez_v (.inl (rz_code (rz_b (dz_put (dz_put h r 5 (ez_v (.inl (rz_code (rz_b h) (qz_I h 721 (4 : Int).toNat) (qz_I h 722 (4 : Int).toNat))))) r 6 (ez_v (.inl (rz_code (rz_b (dz_put h r 5 (ez_v (.inl (rz_code (rz_b h) (qz_I h 721 (4 : Int).toNat) (qz_I h 722 (4 : Int).toNat)))))) (qz_I (dz_put h r 5 (ez_v (.inl (rz_code (rz_b h) (qz_I h 721 (4 : Int).toNat) (qz_I h 722 (4 : Int).toNat))))) 721 (5 : Int).toNat) (qz_I (dz_put h r 5 (ez_v (.inl (rz_code (rz_b h) (qz_I h 721 (4 : Int).toNat) (qz_I h 722 (4 : Int).toNat))))) 722 (5 : Int).toNat)))))) (qz_I (dz_put (dz_put h r 5 (ez_v (.inl (rz_code (rz_b h) (qz_I h 721 (4 : Int).toNat) (qz_I h 722 (4 : Int).toNat))))) r 6 (ez_v (.inl (rz_code (rz_b (dz_put h r 5 (ez_v (.inl (rz_code (rz_b h) (qz_I h 721 (4 : Int).toNat) (qz_I h 722 (4 : Int).toNat)))))) (qz_I (dz_put h r 5 (ez_v (.inl (rz_code (rz_b h) (qz_I h 721 (4 : Int).toNat) (qz_I h 722 (4 : Int).toNat))))) 721 (5 : Int).toNat) (qz_I (dz_put h r 5 (ez_v (.inl (rz_code (rz_b h) (qz_I h 721 (4 : Int).toNat) (qz_I h 722 (4 : Int).toNat))))) 722 (5 : Int).toNat))))) 721 (6 : Int).toNat) (qz_I (dz_put (dz_put h r 5 (ez_v (.inl (rz_code (rz_b h) (qz_I h 721 (4 : Int).toNat) (qz_I h 722 (4 : Int).toNat))))) r 6 (ez_v (.inl (rz_code (rz_b (dz_put h r 5 (ez_v (.inl (rz_code (rz_b h) (qz_I h 721 (4 : Int).toNat) (qz_I h 722 (4 : Int).toNat)))))) (qz_I (dz_put h r 5 (ez_v (.inl (rz_code (rz_b h) (qz_I h 721 (4 : Int).toNat) (qz_I h 722 (4 : Int).toNat))))) 721 (5 : Int).toNat) (qz_I (dz_put h r 5 (ez_v (.inl (rz_code (rz_b h) (qz_I h 721 (4 : Int).toNat) (qz_I h 722 (4 : Int).toNat))))) 722 (5 : Int).toNat))))) 722 (6 : Int).toNat))))) r 6 = rz_code (rz_b h) (rz_f h 5) (rz_t h 5) := by rw [ez_put_I (by omega), w12, rz_rd ⟨by omega, by omega⟩, b5, xf5, xt5]
  have e7 : qz_I (dz_put (dz_put (dz_put h r 5 (ez_v (.inl (rz_code (rz_b h) (qz_I h 721 (4 : Int).toNat) (qz_I h 722 (4 : Int).toNat))))) r 6 (ez_v (.inl (rz_code (rz_b (dz_put h r 5 (ez_v (.inl (rz_code (rz_b h) (qz_I h 721 (4 : Int).toNat) (qz_I h 722 (4 : Int).toNat)))))) (qz_I (dz_put h r 5 (ez_v (.inl (rz_code (rz_b h) (qz_I h 721 (4 : Int).toNat) (qz_I h 722 (4 : Int).toNat))))) 721 (5 : Int).toNat) (qz_I (dz_put h r 5 (ez_v (.inl (rz_code (rz_b h) (qz_I h 721 (4 : Int).toNat) (qz_I h 722 (4 : Int).toNat))))) 722 (5 : Int).toNat))))) r 7 (ez_v (.inl (rz_code (rz_b (dz_put (dz_put h r 5 (ez_v (.inl (rz_code (rz_b h) (qz_I h 721 (4 : Int).toNat) (qz_I h 722 (4 : Int).toNat))))) r 6 (ez_v (.inl (rz_code (rz_b (dz_put h r 5 (ez_v (.inl (rz_code (rz_b h) (qz_I h 721 (4 : Int).toNat) (qz_I h 722 (4 : Int).toNat)))))) (qz_I (dz_put h r 5 (ez_v (.inl (rz_code (rz_b h) (qz_I h 721 (4 : Int).toNat) (qz_I h 722 (4 : Int).toNat))))) 721 (5 : Int).toNat) (qz_I (dz_put h r 5 (ez_v (.inl (rz_code (rz_b h) (qz_I h 721 (4 : Int).toNat) (qz_I h 722 (4 : Int).toNat))))) 722 (5 : Int).toNat)))))) (qz_I (dz_put (dz_put h r 5 (ez_v (.inl (rz_code (rz_b h) (qz_I h 721 (4 : Int).toNat) (qz_I h 722 (4 : Int).toNat))))) r 6 (ez_v (.inl (rz_code (rz_b (dz_put h r 5 (ez_v (.inl (rz_code (rz_b h) (qz_I h 721 (4 : Int).toNat) (qz_I h 722 (4 : Int).toNat)))))) (qz_I (dz_put h r 5 (ez_v (.inl (rz_code (rz_b h) (qz_I h 721 (4 : Int).toNat) (qz_I h 722 (4 : Int).toNat))))) 721 (5 : Int).toNat) (qz_I (dz_put h r 5 (ez_v (.inl (rz_code (rz_b h) (qz_I h 721 (4 : Int).toNat) (qz_I h 722 (4 : Int).toNat))))) 722 (5 : Int).toNat))))) 721 (6 : Int).toNat) (qz_I (dz_put (dz_put h r 5 (ez_v (.inl (rz_code (rz_b h) (qz_I h 721 (4 : Int).toNat) (qz_I h 722 (4 : Int).toNat))))) r 6 (ez_v (.inl (rz_code (rz_b (dz_put h r 5 (ez_v (.inl (rz_code (rz_b h) (qz_I h 721 (4 : Int).toNat) (qz_I h 722 (4 : Int).toNat)))))) (qz_I (dz_put h r 5 (ez_v (.inl (rz_code (rz_b h) (qz_I h 721 (4 : Int).toNat) (qz_I h 722 (4 : Int).toNat))))) 721 (5 : Int).toNat) (qz_I (dz_put h r 5 (ez_v (.inl (rz_code (rz_b h) (qz_I h 721 (4 : Int).toNat) (qz_I h 722 (4 : Int).toNat))))) 722 (5 : Int).toNat))))) 722 (6 : Int).toNat))))) r 7 = rz_code (rz_b h) (rz_f h 6) (rz_t h 6) := by rw [w18, rz_rd ⟨by omega, by omega⟩, b6, xf6, xt6]
  exact k _ hB17 ((((ez_fr.refl (ez_one r) h).put (show Nat.beq r r = true from Nat.beq_refl r) _ _).put (show Nat.beq r r = true from Nat.beq_refl r) _ _).put (show Nat.beq r r = true from Nat.beq_refl r) _ _) (fun j j5 j6 j7 => by rw [ez_put_I (by omega), ez_put_I (by omega), ez_put_I (by omega)]) e5 e6 e7
end EzTk
def rz_E (b f t : Int → Int) (h : cz_H) (r : Nat) : Prop := qz_I h r 1 = b (f 1) * 256 + b (f 1 + 1) ∧ qz_I h r 5 = rz_code b (f 4) (t 4) ∧ qz_I h r 6 = rz_code b (f 5) (t 5) ∧ qz_I h r 7 = rz_code b (f 6) (t 6)
section EzTl
variable {d : Nat} {h : cz_H} {τ : Nat → Nat} {Q : cz_F → Prop} {r : Nat}
theorem rd_takeFact_s9 {τ0 : Nat → Nat} {h0 : cz_H} {first last cls : Int} {dec : Option (Int × List Int)} (hB0 : ez_B τ0 h0) (u193 : τ0 193 = 45) (u202 : τ0 202 = 48) (u203 : τ0 203 = 49) (u720 : τ0 720 = 52) (u721 : τ0 721 = 53) (u722 : τ0 722 = 54) (hs : sz_ok h0) (hinj : sz_inj h0) (hft : ∀ k, 0 ≤ k → k ≤ 6 → rz_f h0 k ≤ rz_t h0 k) (hn : qz_I h0 202 1 + 2 ≤ 513) (hB : ez_B τ h) (hx : ez_xr τ0 h0 τ h 720 2 31) (r0 : τ0 r = 0) (tr : τ r = 3) (hr : (r : Int) + 1 ≤ 1000000) (e4 : qz_I h 720 4 = first) (e5 : qz_I h 720 5 = last) (ef : first = rz_first (rz_b h0) (rz_f h0 0) (rz_t h0 0)) (el : last = rz_last (rz_b h0) (rz_f h0 0) (rz_t h0 0)) (f1 : first ≠ -1) (fl : first ≤ last) (hcat : rz_cat (rz_b h0) (rz_f h0 1) (rz_t h0 1)) (hcl : (1 ≤ rz_t h0 2 - rz_f h0 2 ∧ rz_t h0 2 - rz_f h0 2 ≤ 3) ∧ (0 ≤ cls ∧ cls ≤ 254) ∧ cls = rz_dec (rz_b h0) (rz_t h0 2 - rz_f h0 2).toNat (rz_f h0 2) 0) (hdec : (rz_f h0 3 = rz_t h0 3 ∧ dec = none) ∨ (rz_f h0 3 ≠ rz_t h0 3 ∧ ∃ cp bg vs, rz_db (rz_b h0) (rz_f h0 3) (rz_t h0 3) = some (cp, bg) ∧ rz_rw (rz_b h0) 18 bg (rz_t h0 3) = some vs ∧ dec = some (cp, vs))) (e2 : qz_I h r 2 = cls) (hD : rz_D τ h r dec) (ecat : qz_I h r 1 = rz_b h0 (rz_f h0 1) * 256 + rz_b h0 (rz_f h0 1 + 1)) (kN : ∀ g τ1, ez_B τ1 g → ez_xr τ0 h0 τ1 g 720 2 31 → ¬(∃ first last cls dec, rz_F (rz_b h0) (rz_f h0) (rz_t h0) first last cls dec) → Q (.inl (some (ez_v (.inl (-1)))), g)) (kS : ∀ g h1 τ1 first last cls dec, ez_B τ1 g → ez_B τ1 h1 → ez_xr τ0 h0 τ1 h1 720 2 31 → τ1 r = 3 → rz_F (rz_b h0) (rz_f h0) (rz_t h0) first last cls dec → qz_I h1 r 0 = first → qz_I h1 r 2 = cls → rz_D τ1 h1 r dec → rz_E (rz_b h0) (rz_f h0) (rz_t h0) h1 r → sz_told τ1 h1 g first last r → Q (.inl (some (ez_v (.inl (last - first + 1)))), g)) : ez_W (d + 3) cm_176 41 [(0, .inr (.inr (some (720)))), (1, .inr (.inr (some (r))))] [] h Q := by
  have t720 := hx.t u720 rfl
  have t721 := hx.t u721 rfl
  have t722 := hx.t u722 rfl
  have t202 := hx.t u202 rfl
  have t203 := hx.t u203 rfl
  obtain ⟨xb, xf, xt⟩ := hx.bft u193 u721 u722
  have bl : -1 ≤ last ∧ last ≤ 1114111 := by
    rw [el]; unfold rz_last rz_first
    split
    · split
      · exact rz_code_bd _ _ _
      · omega
    · exact rz_code_bd _ _ _
  have bf : -1 ≤ first ∧ first ≤ 1114111 := by rw [ef]; unfold rz_first; exact rz_code_bd _ _ _
  refine rd_takeFact_b1 hB t720 (by rw [xf, xt]; exact hft) (fun hno => kN h τ hB hx (fun ⟨_, _, _, _, w⟩ => hno (by rw [xb, xf, xt]; exact w.2.2.2.2.1))) (fun hok => ?_)
  rw [xb, xf, xt] at hok
  refine rd_takeFact_b29 hB (hx.t u193 rfl) t720 t721 t722 tr (by rw [xf, xt]; exact hft) (fun g hB1 hf1 hk1 ev5 ev6 ev7 => ?_)
  rw [xb, xf, xt] at ev5 ev6 ev7
  have hx1 := hx.fr hf1 (Or.inl r0)
  obtain ⟨-, xf1, xt1⟩ := hx1.bft u193 u721 u722
  have v4 : qz_I g 720 4 = first := (hf1.I (rz_ne t720 tr rfl) 4).trans e4
  have v5 : qz_I g 720 5 = last := (hf1.I (rz_ne t720 tr rfl) 5).trans e5
  refine rd_takeFact_c hB1 t720 (fun hlt hno => kN g τ hB1 hx1 (fun ⟨_, _, _, _, w⟩ => hno (by rw [xf1, xt1]; refine w.2.2.2.2.2 ?_; rw [w.1.1, w.1.2.1, ← ef, ← el]; omega))) (fun hem => ?_)
  rw [xf1, xt1] at hem
  obtain ⟨hs1, hi1⟩ := sz_same_ok hB0 u203 u202 ((hx1.1 202 (by rw [u202]; decide)).2 (by decide)) ((hx1.1 203 (by rw [u203]; decide)).2 (by decide)) (fun q hq => (hx1.1 q (by rw [hq]; decide)).2 (fun e => by rw [e, u720] at hq; cases hq)) hs hinj
  have c1 : qz_I g 202 1 = qz_I h0 202 1 := hx1.I (by rw [u202]; decide) (by decide) 1
  refine rd_takeFact_d hB1 t720 t202 t203 tr hr hs1 hi1 v4 v5 (by omega) fl bl.2 (by omega) (fun g2 h1 hB2 hBh hf2 a0 aj htl => ?_)
  refine kS g2 h1 τ first last cls dec hB2 hBh (hx1.fr hf2 (Or.inl r0)) tr ⟨⟨ef, el, f1, fl⟩, hcat, hcl, hdec, hok, fun hlt => hem (by omega)⟩ a0 (by rw [aj 2 (by decide), hk1 2 (by decide) (by decide) (by decide)]; exact e2) ?_ ⟨by rw [aj 1 (by decide), hk1 1 (by decide) (by decide) (by decide)]; exact ecat, by rw [aj 5 (by decide)]; exact ev5, by rw [aj 6 (by decide)]; exact ev6, by rw [aj 7 (by decide)]; exact ev7⟩ htl
  refine rz_D_fr hD (by rw [aj 3 (by decide), hk1 3 (by decide) (by decide) (by decide)]) (by rw [aj 4 (by decide), hk1 4 (by decide) (by decide) (by decide)]) (fun p hp => ?_)
  have hpr : ez_one r p = false := dz_beq_ne (fun e => by rw [e, tr] at hp; cases hp)
  rw [hf2.2.2 p hpr, hf1.2.2 p hpr]
theorem rd_takeFact_a9 {τ0 : Nat → Nat} {h0 : cz_H} (hB0 : ez_B τ0 h0) (u193 : τ0 193 = 45) (u202 : τ0 202 = 48) (u203 : τ0 203 = 49) (u720 : τ0 720 = 52) (u721 : τ0 721 = 53) (u722 : τ0 722 = 54) (hs : sz_ok h0) (hinj : sz_inj h0) (hft : ∀ k, 0 ≤ k → k ≤ 6 → rz_f h0 k ≤ rz_t h0 k) (hn : qz_I h0 202 1 + 2 ≤ 513) (hB : ez_B τ h) (hx : ez_xr τ0 h0 τ h 720 1 13) (r0 : τ0 r = 0) (tr : τ r = 3) (hz : ∀ j, qz_I h r j = 0) (hr : (r : Int) + 1 ≤ 1000000) (hr1 : h0.1 + 2 ≤ 600192) (hr2 : h0.2.1 + 31 ≤ 7302232) (kN : ∀ g τ1, ez_B τ1 g → ez_xr τ0 h0 τ1 g 720 2 31 → ¬(∃ first last cls dec, rz_F (rz_b h0) (rz_f h0) (rz_t h0) first last cls dec) → Q (.inl (some (ez_v (.inl (-1)))), g)) (kS : ∀ g h1 τ1 first last cls dec, ez_B τ1 g → ez_B τ1 h1 → ez_xr τ0 h0 τ1 h1 720 2 31 → τ1 r = 3 → rz_F (rz_b h0) (rz_f h0) (rz_t h0) first last cls dec → qz_I h1 r 0 = first → qz_I h1 r 2 = cls → rz_D τ1 h1 r dec → rz_E (rz_b h0) (rz_f h0) (rz_t h0) h1 r → sz_told τ1 h1 g first last r → Q (.inl (some (ez_v (.inl (last - first + 1)))), g)) : ez_W (d + 4) cm_176 4 [(0, .inr (.inr (some (720))))] [.inr (.inr (some (r))), .inr (.inr (some (r)))] h Q := by
  have t720 := hx.t u720 rfl
  have t721 := hx.t u721 rfl
  have t722 := hx.t u722 rfl
  have t193 := hx.t u193 rfl
  have t202 := hx.t u202 rfl
  have t203 := hx.t u203 rfl
  have hxc := hx.2
  refine ez_ci hB.2.1 rfl rfl rfl rfl rfl rfl (rd_Fact_init hB tr (fun g1 hB1 x1 z1 => ez_K0 ?_))
  have hx1 := hx.fr x1 (Or.inl r0)
  obtain ⟨b1, f1, t1⟩ := hx1.bft u193 u721 u722
  have q0 := hft 0 (by omega) (by omega)
  have n721 : 7 ≤ qz_N h0 721 ∧ qz_N h0 721 ≤ 7 := ez_len hB0 u721 tq_53 rfl
  have n722 : 7 ≤ qz_N h0 722 ∧ qz_N h0 722 ≤ 7 := ez_len hB0 u722 tq_54 rfl
  have q1 : 0 ≤ rz_f h0 0 ∧ rz_f h0 0 ≤ 4096 := ez_aB (i := 0) hB0 u721 tq_53 rfl rfl (by decide) (by omega) (by omega)
  have q2 : 0 ≤ rz_t h0 0 ∧ rz_t h0 0 ≤ 4096 := ez_aB (i := 0) hB0 u722 tq_54 rfl rfl (by decide) (by omega) (by omega)
  refine ez_go (n := 2) (pc' := 9) (L' := [(1, .inr (.inr (some (r)))), (0, .inr (.inr (some (720))))]) (st' := [.inr (.inr (some (720)))]) rfl ?_
  refine ez_cv hB1 t720 rfl rfl rfl tq_52 rfl rfl rfl (rd_readCodes hB1 t720 (congrFun f1 0) (congrFun t1 0) (by omega) (by omega) (by omega) (fun g2 hB2 x2 v4 v5 y1 y2 => ez_K1 ?_) (fun g2 hB2 x2 y1 => ez_K1 ?_))
  · skip
    rw [b1] at v4 v5 y1 y2
    have hx2 := hx1.fr x2 (Or.inr rfl)
    obtain ⟨b2, f2, t2⟩ := hx2.bft u193 u721 u722
    have z2 : ∀ j, qz_I g2 r j = qz_I g1 r j := fun j => x2.I (rz_ne tr t720 rfl) j
    refine ez_if rfl rfl ⟨by decide, by decide⟩ (fun (c1 : (1 : Int) = (0)) => absurd c1 (by decide)) (fun _ => ?_)
    refine ez_go (n := 2) (pc' := 17) (L' := [(1, .inr (.inr (some (r)))), (0, .inr (.inr (some (720))))]) (st' := [.inr (.inr (some (r))), .inr (.inr (some (720)))]) rfl ?_
    refine ez_cv hB2 t720 rfl rfl rfl tq_52 rfl rfl rfl (rd_readCategory9 hB2 t720 tr (fun g3 hB3 x3 z3 yc y3 => ez_K1 ?_) (fun g3 hB3 x3 z3 y3 => ez_K1 ?_))
    · skip
      rw [b2, f2, t2] at y3
      rw [b2, f2] at yc
      have hx3 := hx2.fr x3 (Or.inl r0)
      obtain ⟨b3, f3, t3⟩ := hx3.bft u193 u721 u722
      have w3 : ∀ j, qz_I g3 720 j = qz_I g2 720 j := fun j => x3.I (rz_ne t720 tr rfl) j
      refine ez_if rfl rfl ⟨by decide, by decide⟩ (fun (c2 : (1 : Int) = (0)) => absurd c2 (by decide)) (fun _ => ?_)
      refine ez_go (n := 2) (pc' := 25) (L' := [(1, .inr (.inr (some (r)))), (0, .inr (.inr (some (720))))]) (st' := [.inr (.inr (some (r))), .inr (.inr (some (720)))]) rfl ?_
      refine ez_cv hB3 t720 rfl rfl rfl tq_52 rfl rfl rfl (rd_readClass9 hB3 t720 tr (fun g4 hB4 x4 z4 y4 y5 y6 y7 y8 => ez_K1 ?_) (fun g4 hB4 x4 z4 y4 => ez_K1 ?_))
      · skip
        rw [f3, t3, b3] at y4 y7 y8
        rw [f3, t3] at y5 y6
        have hx4 := hx3.fr x4 (Or.inl r0)
        obtain ⟨b4, f4, t4⟩ := hx4.bft u193 u721 u722
        have w4 : ∀ j, qz_I g4 720 j = qz_I g3 720 j := fun j => x4.I (rz_ne t720 tr rfl) j
        refine ez_if rfl rfl ⟨by decide, by decide⟩ (fun (c3 : (1 : Int) = (0)) => absurd c3 (by decide)) (fun _ => ?_)
        refine ez_go (n := 2) (pc' := 33) (L' := [(1, .inr (.inr (some (r)))), (0, .inr (.inr (some (720))))]) (st' := [.inr (.inr (some (r))), .inr (.inr (some (720)))]) rfl ?_
        have hx4c := hx4.2
        refine ez_cv hB4 t720 rfl rfl rfl tq_52 rfl rfl rfl (rd_readDecomposition hB4 t720 t722 tr (by rw [f4, t4]; exact hft 3 (by omega) (by omega)) (by omega) (by omega) (fun ye => ez_K1 ?_) (fun g5 τ5 vs cp bg p ye yd hB5 x5 t5 yr yN yv ar3 ar4 arj => ez_K1 ?_) (fun g5 τ5 hB5 x5 ye yn => ez_K1 ?_))
        · skip
          rw [f4, t4] at ye
          refine ez_if rfl rfl ⟨by decide, by decide⟩ (fun _ => ?_) (fun (c4 : ¬((1 : Int) ≠ (0))) => absurd c4 (by decide))
          refine ez_less [(0, .inr (.inr (some (720)))), (1, .inr (.inr (some (r))))] rfl ⟨rfl, rfl, trivial⟩ ?_
          exact rd_takeFact_s9 hB0 u193 u202 u203 u720 u721 u722 hs hinj hft hn hB4 (hx4.mono (by omega) (by omega)) r0 tr hr (by rw [w4, w3]; exact v4) (by rw [w4, w3]; exact v5) rfl rfl y1 y2 y3 ⟨⟨y5, y6⟩, ⟨y7, y8⟩, rfl⟩ (Or.inl ⟨ye, rfl⟩) y4 (show qz_I g4 r 3 = 0 by rw [z4 3 (by decide), z3 3 (by decide), z2, z1 3 (by decide) (by decide) (by decide) (by decide)]; exact hz 3) (by rw [z4 1 (by decide)]; exact yc) kN kS
        · skip
          rw [f4, t4] at ye
          rw [b4, f4, t4] at yd
          rw [b4, t4] at yr
          rw [b4, t4] at yN
          have hx5 := hx4.xr x5 r0
          refine ez_if rfl rfl ⟨by decide, by decide⟩ (fun _ => ?_) (fun (c5 : ¬((1 : Int) ≠ (0))) => absurd c5 (by decide))
          refine ez_less [(0, .inr (.inr (some (720)))), (1, .inr (.inr (some (r))))] rfl ⟨rfl, rfl, trivial⟩ ?_
          have w5 : ∀ j, qz_I g5 720 j = qz_I g4 720 j := fun j => x5.I (by rw [t720]; decide) (fun e => by rw [← e, t720] at tr; cases tr) j
          exact rd_takeFact_s9 hB0 u193 u202 u203 u720 u721 u722 hs hinj hft hn hB5 (hx5.mono (by omega) (by omega)) r0 (x5.t tr rfl) hr (by rw [w5, w4, w3]; exact v4) (by rw [w5, w4, w3]; exact v5) rfl rfl y1 y2 y3 ⟨⟨y5, y6⟩, ⟨y7, y8⟩, rfl⟩ (Or.inr ⟨ye, cp, bg, vs, yd, yr, rfl⟩) (by rw [arj 2 (by decide) (by decide)]; exact y4) ⟨p, t5, ar3, (by rw [ar4]; rcases rz_db_cp yd with w | w; (· rw [if_neg (by omega), z4 4 (by decide), z3 4 (by decide), z2, z1 4 (by decide) (by decide) (by decide) (by decide), hz 4]; exact w.symm); (· rw [if_pos w]; exact w.symm)), (by rw [yN, rz_rw_len yr]), yv⟩ (by rw [arj 1 (by decide) (by decide), z4 1 (by decide)]; exact yc) kN kS
        · skip
          rw [f4, t4] at ye
          rw [b4, f4, t4] at yn
          have hx5 := hx4.xr x5 r0
          refine ez_if rfl rfl ⟨by decide, by decide⟩ (fun (c6 : (0 : Int) ≠ (0)) => absurd c6 (by decide)) (fun _ => ?_)
          refine ez_go (n := 1) (pc' := 40) (L' := [(1, .inr (.inr (some (r)))), (0, .inr (.inr (some (720))))]) (st' := [.inl (-1)]) rfl ?_
          exact ez_retI rfl rfl (kN g5 τ5 hB5 (hx5.mono (by omega) (by omega)) (fun ⟨_, _, _, _, w⟩ => by rcases w.2.2.2.1 with w | w; (· exact ye w.1); (· obtain ⟨-, cp, bg, vs, w1, w2, -⟩ := w; rcases yn with yn | ⟨cp2, bg2, yn1, yn2⟩; (· rw [yn] at w1; cases w1); (· rw [w1] at yn1; cases yn1; rw [w2] at yn2; cases yn2))))
      · skip
        rw [f3, t3, b3] at y4
        have hx4 := hx3.fr x4 (Or.inl r0)
        obtain ⟨b4, f4, t4⟩ := hx4.bft u193 u721 u722
        refine ez_if rfl rfl ⟨by decide, by decide⟩ (fun _ => ?_) (fun (c7 : ¬((0 : Int) = (0))) => absurd c7 (by decide))
        refine ez_go (n := 1) (pc' := 40) (L' := [(1, .inr (.inr (some (r)))), (0, .inr (.inr (some (720))))]) (st' := [.inl (-1)]) rfl ?_
        exact ez_retI rfl rfl (kN g4 τ hB4 (hx4.mono (by omega) (by omega)) (fun ⟨_, _, _, _, w⟩ => y4 ⟨w.2.2.1.1, by rw [← w.2.2.1.2.2]; exact w.2.2.1.2.1⟩))
    · skip
      rw [b2, f2, t2] at y3
      have hx3 := hx2.fr x3 (Or.inl r0)
      refine ez_if rfl rfl ⟨by decide, by decide⟩ (fun _ => ?_) (fun (c8 : ¬((0 : Int) = (0))) => absurd c8 (by decide))
      refine ez_go (n := 1) (pc' := 40) (L' := [(1, .inr (.inr (some (r)))), (0, .inr (.inr (some (720))))]) (st' := [.inl (-1)]) rfl ?_
      exact ez_retI rfl rfl (kN g3 τ hB3 (hx3.mono (by omega) (by omega)) (fun ⟨_, _, _, _, w⟩ => y3 w.2.1))
  · skip
    rw [b1] at y1
    have hx2 := hx1.fr x2 (Or.inr rfl)
    obtain ⟨b2, f2, t2⟩ := hx2.bft u193 u721 u722
    refine ez_if rfl rfl ⟨by decide, by decide⟩ (fun _ => ?_) (fun (c9 : ¬((0 : Int) = (0))) => absurd c9 (by decide))
    refine ez_go (n := 1) (pc' := 40) (L' := [(1, .inr (.inr (some (r)))), (0, .inr (.inr (some (720))))]) (st' := [.inl (-1)]) rfl ?_
    exact ez_retI rfl rfl (kN g2 τ hB2 (hx2.mono (by omega) (by omega)) (fun ⟨_, _, _, _, w⟩ => y1 (by rw [← w.1.1]; exact w.1.2.2.1) (by rw [← w.1.1, ← w.1.2.1]; exact w.1.2.2.2)))
theorem rd_takeFact9 {τ0 : Nat → Nat} {h0 : cz_H} (hB0 : ez_B τ0 h0) (u193 : τ0 193 = 45) (u202 : τ0 202 = 48) (u203 : τ0 203 = 49) (u720 : τ0 720 = 52) (u721 : τ0 721 = 53) (u722 : τ0 722 = 54) (hs : sz_ok h0) (hinj : sz_inj h0) (hft : ∀ k, 0 ≤ k → k ≤ 6 → rz_f h0 k ≤ rz_t h0 k) (hn : qz_I h0 202 1 + 2 ≤ 513) (hr1 : h0.1 + 2 ≤ 600192) (hr2 : h0.2.1 + 31 ≤ 7302232) (kN : ∀ g τ1, ez_B τ1 g → ez_xr τ0 h0 τ1 g 720 2 31 → ¬(∃ first last cls dec, rz_F (rz_b h0) (rz_f h0) (rz_t h0) first last cls dec) → Q (.inl (some (ez_v (.inl (-1)))), g)) (kS : ∀ g h1 τ1 first last cls dec, ez_B τ1 g → ez_B τ1 h1 → ez_xr τ0 h0 τ1 h1 720 2 31 → τ1 h0.1 = 3 → rz_F (rz_b h0) (rz_f h0) (rz_t h0) first last cls dec → qz_I h1 h0.1 0 = first → qz_I h1 h0.1 2 = cls → rz_D τ1 h1 h0.1 dec → rz_E (rz_b h0) (rz_f h0) (rz_t h0) h1 h0.1 → sz_told τ1 h1 g first last h0.1 → Q (.inl (some (ez_v (.inl (last - first + 1)))), g)) : ez_W (d + 4) cm_176 0 [(0, .inr (.inr (some (720))))] [] h0 Q := by
  refine ez_nw (t := 3) hB0 rfl rfl rfl tq_3 rfl rfl (by omega) (by show h0.2.1 + 13 ≤ 7302232; omega) (fun hB1 hz => ?_)
  refine ez_go (n := 1) (pc' := 4) (L' := [(0, .inr (.inr (some (720))))]) (st' := [.inr (.inr (some h0.1)), .inr (.inr (some h0.1))]) rfl ?_
  exact rd_takeFact_a9 hB0 u193 u202 u203 u720 u721 u722 hs hinj hft hn hB1 (ez_xr_new hB0 (Nat.le_refl _) (show 13 ≤ 13 from Nat.le_refl _)) (ez_fresh hB0) (by unfold dz_tn; simp) hz (by omega) hr1 hr2 kN kS
end EzTl
def rz_PV (b : Int → Int) (s t gr nm : Int) : Prop := (rz_sw b nzs_3 s t ∧ gr = 0 ∧ nm = nz_ix nzN_4 (nz_w b (s + 4) (t - (s + 4)).toNat)) ∨ (¬ rz_sw b nzs_3 s t ∧ rz_sw b nzs_5 s t ∧ gr = 1 ∧ nm = nz_ix nzN_6 (nz_w b (s + 3) (t - (s + 3)).toNat)) ∨ (¬ rz_sw b nzs_3 s t ∧ ¬ rz_sw b nzs_5 s t ∧ gr = 2 ∧ nm = nz_ix nzN_2 (nz_w b s (t - s).toNat))
section EzTpp
variable {d : Nat} {h : cz_H} {τ : Nat → Nat} {Q : cz_F → Prop}
theorem rd_takeProperty9 (hB : ez_B τ h) (hZ : nz_Z h) (ts2 : τ 2 = 27) (ts3 : τ 3 = 27) (ts4 : τ 4 = 27) (ts5 : τ 5 = 27) (ts6 : τ 6 = 27) (t193 : τ 193 = 45) (t202 : τ 202 = 48) (t203 : τ 203 = 49) (t720 : τ 720 = 52) (t721 : τ 721 = 53) (t722 : τ 722 = 54) (hs : sz_ok h) (hinj : sz_inj h) (hft : ∀ k, 0 ≤ k → k ≤ 1 → rz_f h k ≤ rz_t h k) (hn : qz_I h 202 1 + 2 ≤ 513) (kN : ∀ g, ez_B τ g → ez_fr (ez_one 720) h g → ¬ ((rz_first (rz_b h) (rz_f h 0) (rz_t h 0) ≠ -1 ∧ rz_first (rz_b h) (rz_f h 0) (rz_t h 0) ≤ rz_last (rz_b h) (rz_f h 0) (rz_t h 0)) ∧ rz_CE (rz_b h) (rz_f h 1) (rz_t h 1)) → ¬ ((rz_first (rz_b h) (rz_f h 0) (rz_t h 0) ≠ -1 ∧ rz_first (rz_b h) (rz_f h 0) (rz_t h 0) ≤ rz_last (rz_b h) (rz_f h 0) (rz_t h 0)) ∧ rz_PK (rz_b h) (rz_f h 1) (rz_t h 1)) → Q (.inl (some (ez_v (.inl (-1)))), g)) (kS : ∀ g h1 first last, ez_B τ g → ez_B τ h1 → ez_fr (ez_one 720) h h1 → first = rz_first (rz_b h) (rz_f h 0) (rz_t h 0) → last = rz_last (rz_b h) (rz_f h 0) (rz_t h 0) → first ≠ -1 → first ≤ last → sz_toldR τ h1 g first last (sz_RC (rz_CE (rz_b h) (rz_f h 1) (rz_t h 1))) → rz_PK (rz_b h) (rz_f h 1) (rz_t h 1) → ∀ gr nm, rz_PV (rz_b h) (rz_f h 1) (rz_t h 1) gr nm → 0 ≤ nm → nm < 32 → sz_toldR τ h1 g first last (sz_RP gr nm) → Q (.inl (some (ez_v (.inl (last - first + 1)))), g)) : ez_W (d + 6) cm_178 0 [(0, .inr (.inr (some (720))))] [] h Q := by
  have n721 : 7 ≤ qz_N h 721 ∧ qz_N h 721 ≤ 7 := ez_len hB t721 tq_53 rfl
  have n722 : 7 ≤ qz_N h 722 ∧ qz_N h 722 ≤ 7 := ez_len hB t722 tq_54 rfl
  have q0 := hft 0 (by omega) (by omega)
  have q9 := hft 1 (by omega) (by omega)
  have q1 : 0 ≤ rz_f h 0 ∧ rz_f h 0 ≤ 4096 := ez_aB (i := 0) hB t721 tq_53 rfl rfl (by decide) (by omega) (by omega)
  have q2 : 0 ≤ rz_t h 0 ∧ rz_t h 0 ≤ 4096 := ez_aB (i := 0) hB t722 tq_54 rfl rfl (by decide) (by omega) (by omega)
  have q3 : 0 ≤ rz_f h 1 ∧ rz_f h 1 ≤ 4096 := ez_aB (i := 1) hB t721 tq_53 rfl rfl (by decide) (by omega) (by omega)
  have q4 : 0 ≤ rz_t h 1 ∧ rz_t h 1 ≤ 4096 := ez_aB (i := 1) hB t722 tq_54 rfl rfl (by decide) (by omega) (by omega)
  refine ez_go (n := 1) (pc' := 1) (L' := [(0, .inr (.inr (some (720))))]) (st' := [.inr (.inr (some (720)))]) rfl ?_
  refine ez_cv hB t720 rfl rfl rfl tq_52 rfl rfl rfl (rd_readCodes hB t720 rfl rfl (by omega) (by omega) (by omega) (fun g hB1 x1 v4 v5 y1 y2 => ez_K1 ?_) (fun g hB1 x1 y1 => ez_K1 ?_))
  · skip
    have hZ1 : nz_Z g := nz_Z_same hZ (fun q hq => x1.2.2 q (dz_beq_ne (by omega)))
    have bg : rz_b g = rz_b h := rz_b_fr x1 (rz_ne t193 t720 rfl)
    have ef : qz_I g 721 (1 : Int).toNat = rz_f h 1 := x1.I (rz_ne t721 t720 rfl) _
    have et : qz_I g 722 (1 : Int).toNat = rz_t h 1 := x1.I (rz_ne t722 t720 rfl) _
    have bl : -1 ≤ rz_last (rz_b h) (rz_f h 0) (rz_t h 0) ∧ rz_last (rz_b h) (rz_f h 0) (rz_t h 0) ≤ 1114111 := rz_last_bd _ _ _
    have bf : -1 ≤ rz_first (rz_b h) (rz_f h 0) (rz_t h 0) ∧ rz_first (rz_b h) (rz_f h 0) (rz_t h 0) ≤ 1114111 := rz_code_bd _ _ _
    have c1 : qz_I g 202 1 = qz_I h 202 1 := x1.I (rz_ne t202 t720 rfl) 1
    obtain ⟨hs1, hi1⟩ := sz_same_ok hB t203 t202 (x1.2.2 202 (by decide)) (x1.2.2 203 (by decide)) (fun q hq => x1.2.2 q (rz_ne hq t720 rfl)) hs hinj
    refine ez_if rfl rfl ⟨by decide, by decide⟩ (fun _ => ?_) (fun (c1 : ¬((1 : Int) ≠ (0))) => absurd c1 (by decide))
    refine ez_go (n := 3) (pc' := 12) (L' := [(1, .inl (2)), (0, .inr (.inr (some (720))))]) (st' := [.inr (.inr (some (720)))]) rfl ?_
    refine ez_ldcS rfl rfl ?_
    refine ez_go (n := 1) (pc' := 15) (L' := [(1, .inl (2)), (0, .inr (.inr (some (720))))]) (st' := [.inr (.inr (some (720))), .inr (.inr (some (2))), .inr (.inr (some (720)))]) rfl ?_
    refine ez_gC (p := 721) (tg := 53) hB1 t720 rfl rfl tq_52 rfl rfl (fun (t721 : _ = 53) => ?_)
    refine ez_go (n := 1) (pc' := 19) (L' := [(1, .inl (2)), (0, .inr (.inr (some (720))))]) (st' := [.inl (1), .inr (.inr (some (721))), .inr (.inr (some (2))), .inr (.inr (some (720)))]) rfl ?_
    have n3 : 7 ≤ qz_N g 721 ∧ qz_N g 721 ≤ 7 := ez_len hB1 t721 tq_53 rfl
    refine ez_aI hB1 t721 rfl tq_53 rfl rfl (by omega) (by omega) (fun (b2 : 0 ≤ qz_I g 721 (1 : Int).toNat) (b2' : qz_I g 721 (1 : Int).toNat ≤ 4096) => ?_)
    refine ez_go (n := 1) (pc' := 21) (L' := [(1, .inl (2)), (0, .inr (.inr (some (720))))]) (st' := [.inr (.inr (some (720))), .inl (qz_I g 721 (1 : Int).toNat), .inr (.inr (some (2))), .inr (.inr (some (720)))]) rfl ?_
    refine ez_gC (p := 722) (tg := 54) hB1 t720 rfl rfl tq_52 rfl rfl (fun (t722 : _ = 54) => ?_)
    refine ez_go (n := 1) (pc' := 25) (L' := [(1, .inl (2)), (0, .inr (.inr (some (720))))]) (st' := [.inl (1), .inr (.inr (some (722))), .inl (qz_I g 721 (1 : Int).toNat), .inr (.inr (some (2))), .inr (.inr (some (720)))]) rfl ?_
    have n5 : 7 ≤ qz_N g 722 ∧ qz_N g 722 ≤ 7 := ez_len hB1 t722 tq_54 rfl
    refine ez_aI hB1 t722 rfl tq_54 rfl rfl (by omega) (by omega) (fun (b4 : 0 ≤ qz_I g 722 (1 : Int).toNat) (b4' : qz_I g 722 (1 : Int).toNat ≤ 4096) => ?_)
    have hl2 := nzl_2
    refine ez_cv hB1 t720 rfl rfl rfl tq_52 rfl rfl rfl (rd_nameIndex (l := nzs_2) 21 hB1 t720 ts2 (hZ1 2 nzs_2 rfl).1 (by omega) (by omega) (by omega) (by omega) (by omega) (by omega) (nz_fst (n := 21) (by decide)) (Or.inr (by decide)) (fun nm2 w0 w1 wv wn => ez_K1 ?_))
    have wi2 := nz_ni_ix nzT_2 (by omega) wn
    rw [bg, ef, et] at wi2
    rw [hl2.2] at w1
    rw [bg, ef, et] at wv
    refine ez_go (n := 2) (pc' := 31) (L' := [(2, .inl (nm2)), (1, .inl (2)), (0, .inr (.inr (some (720))))]) (st' := [.inr (.inr (some (720)))]) rfl ?_
    refine ez_ldcS rfl rfl ?_
    refine ez_go (n := 1) (pc' := 34) (L' := [(2, .inl (nm2)), (1, .inl (2)), (0, .inr (.inr (some (720))))]) (st' := [.inr (.inr (some (720))), .inr (.inr (some (3))), .inr (.inr (some (720)))]) rfl ?_
    refine ez_gC (p := 721) (tg := 53) hB1 t720 rfl rfl tq_52 rfl rfl (fun (t721 : _ = 53) => ?_)
    refine ez_go (n := 1) (pc' := 38) (L' := [(2, .inl (nm2)), (1, .inl (2)), (0, .inr (.inr (some (720))))]) (st' := [.inl (1), .inr (.inr (some (721))), .inr (.inr (some (3))), .inr (.inr (some (720)))]) rfl ?_
    have n7 : 7 ≤ qz_N g 721 ∧ qz_N g 721 ≤ 7 := ez_len hB1 t721 tq_53 rfl
    refine ez_aI hB1 t721 rfl tq_53 rfl rfl (by omega) (by omega) (fun (b6 : 0 ≤ qz_I g 721 (1 : Int).toNat) (b6' : qz_I g 721 (1 : Int).toNat ≤ 4096) => ?_)
    refine ez_go (n := 1) (pc' := 40) (L' := [(2, .inl (nm2)), (1, .inl (2)), (0, .inr (.inr (some (720))))]) (st' := [.inr (.inr (some (720))), .inl (qz_I g 721 (1 : Int).toNat), .inr (.inr (some (3))), .inr (.inr (some (720)))]) rfl ?_
    refine ez_gC (p := 722) (tg := 54) hB1 t720 rfl rfl tq_52 rfl rfl (fun (t722 : _ = 54) => ?_)
    refine ez_go (n := 1) (pc' := 44) (L' := [(2, .inl (nm2)), (1, .inl (2)), (0, .inr (.inr (some (720))))]) (st' := [.inl (1), .inr (.inr (some (722))), .inl (qz_I g 721 (1 : Int).toNat), .inr (.inr (some (3))), .inr (.inr (some (720)))]) rfl ?_
    have n9 : 7 ≤ qz_N g 722 ∧ qz_N g 722 ≤ 7 := ez_len hB1 t722 tq_54 rfl
    refine ez_aI hB1 t722 rfl tq_54 rfl rfl (by omega) (by omega) (fun (b8 : 0 ≤ qz_I g 722 (1 : Int).toNat) (b8' : qz_I g 722 (1 : Int).toNat ≤ 4096) => ?_)
    have hm3 : nzs_3.length = 4 := by decide
    refine ez_cv hB1 t720 rfl rfl rfl tq_52 rfl rfl rfl (rd_startsWith (l := nzs_3) hB1 t720 ts3 (hZ1 3 nzs_3 rfl).1 (by omega) (by omega) (by omega) (by omega) (fun e3 => ez_K1 ?_) (fun e3 => ez_K1 ?_))
    · skip
      have sw3 : rz_sw (rz_b h) nzs_3 (rz_f h 1) (rz_t h 1) := by have := e3; rw [bg, ef, et] at this; exact this
      rw [hm3] at e3
      have hno : ¬ rz_CE (rz_b h) (rz_f h 1) (rz_t h 1) := fun w => by have q1 := w.2 0 (by omega) (by omega); have q2 := e3.2 0 (by omega) (by omega); rw [bg, ef] at q2; rw [← q2] at q1; exact absurd q1 (by decide)
      refine ez_if rfl rfl ⟨by decide, by decide⟩ (fun (c10 : (1 : Int) = (0)) => absurd c10 (by decide)) (fun _ => ?_)
      refine ez_go (n := 3) (pc' := 54) (L' := [(1, .inl (0)), (2, .inl (nm2)), (0, .inr (.inr (some (720))))]) (st' := [.inr (.inr (some (720)))]) rfl ?_
      refine ez_ldcS rfl rfl ?_
      refine ez_go (n := 1) (pc' := 57) (L' := [(1, .inl (0)), (2, .inl (nm2)), (0, .inr (.inr (some (720))))]) (st' := [.inr (.inr (some (720))), .inr (.inr (some (4))), .inr (.inr (some (720)))]) rfl ?_
      refine ez_gC (p := 721) (tg := 53) hB1 t720 rfl rfl tq_52 rfl rfl (fun (t721 : _ = 53) => ?_)
      refine ez_go (n := 1) (pc' := 61) (L' := [(1, .inl (0)), (2, .inl (nm2)), (0, .inr (.inr (some (720))))]) (st' := [.inl (1), .inr (.inr (some (721))), .inr (.inr (some (4))), .inr (.inr (some (720)))]) rfl ?_
      have n12 : 7 ≤ qz_N g 721 ∧ qz_N g 721 ≤ 7 := ez_len hB1 t721 tq_53 rfl
      refine ez_aI hB1 t721 rfl tq_53 rfl rfl (by omega) (by omega) (fun (b11 : 0 ≤ qz_I g 721 (1 : Int).toNat) (b11' : qz_I g 721 (1 : Int).toNat ≤ 4096) => ?_)
      refine ez_go (n := 3) (pc' := 65) (L' := [(1, .inl (0)), (2, .inl (nm2)), (0, .inr (.inr (some (720))))]) (st' := [.inr (.inr (some (720))), .inl ((qz_I g 721 (1 : Int).toNat) + (4)), .inr (.inr (some (4))), .inr (.inr (some (720)))]) rfl ?_
      refine ez_gC (p := 722) (tg := 54) hB1 t720 rfl rfl tq_52 rfl rfl (fun (t722 : _ = 54) => ?_)
      refine ez_go (n := 1) (pc' := 69) (L' := [(1, .inl (0)), (2, .inl (nm2)), (0, .inr (.inr (some (720))))]) (st' := [.inl (1), .inr (.inr (some (722))), .inl ((qz_I g 721 (1 : Int).toNat) + (4)), .inr (.inr (some (4))), .inr (.inr (some (720)))]) rfl ?_
      have n14 : 7 ≤ qz_N g 722 ∧ qz_N g 722 ≤ 7 := ez_len hB1 t722 tq_54 rfl
      refine ez_aI hB1 t722 rfl tq_54 rfl rfl (by omega) (by omega) (fun (b13 : 0 ≤ qz_I g 722 (1 : Int).toNat) (b13' : qz_I g 722 (1 : Int).toNat ≤ 4096) => ?_)
      have hl4 := nzl_4
      refine ez_cv hB1 t720 rfl rfl rfl tq_52 rfl rfl rfl (rd_nameIndex (l := nzs_4) 5 hB1 t720 ts4 (hZ1 4 nzs_4 rfl).1 (by omega) (by omega) (by omega) (by omega) (by omega) (by omega) (nz_fst (n := 5) (by decide)) (Or.inr (by decide)) (fun nm4 w0 w1 wv wn => ez_K1 ?_))
      have wi4 := nz_ni_ix nzT_4 (by omega) wn
      rw [bg, ef, et] at wi4
      rw [hl4.2] at w1
      refine ez_go (n := 4) (pc' := 123) (L' := [(2, .inl (nm4)), (1, .inl (0)), (0, .inr (.inr (some (720))))]) (st' := [.inl (-1), .inl (nm4)]) rfl ?_
      refine ez_icmp rfl rfl ⟨by first | omega | exact (sz_i32 _).1, by first | omega | exact (sz_i32 _).2⟩ ⟨by first | omega | exact (sz_i32 _).1, by first | omega | exact (sz_i32 _).2⟩ (fun (c15 : (nm4) ≠ (-1)) => ?_) (fun (c15 : ¬((nm4) ≠ (-1))) => ?_)
      · skip
        refine ez_go (n := 1) (pc' := 129) (L' := [(2, .inl (nm4)), (1, .inl (0)), (0, .inr (.inr (some (720))))]) (st' := [.inr (.inr (some (720)))]) rfl ?_
        refine ez_gC (p := 202) (tg := 48) hB1 t720 rfl rfl tq_52 rfl rfl (fun (t202 : _ = 48) => ?_)
        refine ez_go (n := 1) (pc' := 133) (L' := [(2, .inl (nm4)), (1, .inl (0)), (0, .inr (.inr (some (720))))]) (st' := [.inr (.inr (some (720))), .inr (.inr (some (202)))]) rfl ?_
        refine ez_gI hB1 t720 rfl rfl tq_52 rfl rfl (fun (b16 : -2147483648 ≤ qz_I g 720 4) (b16' : qz_I g 720 4 ≤ 2147483647) => ?_)
        refine ez_go (n := 1) (pc' := 137) (L' := [(2, .inl (nm4)), (1, .inl (0)), (0, .inr (.inr (some (720))))]) (st' := [.inr (.inr (some (720))), .inl (qz_I g 720 4), .inr (.inr (some (202)))]) rfl ?_
        refine ez_gI hB1 t720 rfl rfl tq_52 rfl rfl (fun (b17 : -2147483648 ≤ qz_I g 720 5) (b17' : qz_I g 720 5 ≤ 2147483647) => ?_)
        refine ez_go (n := 2) (pc' := 142) (L' := [(2, .inl (nm4)), (1, .inl (0)), (0, .inr (.inr (some (720))))]) (st' := [.inl (nm4), .inl (0), .inl (qz_I g 720 5), .inl (qz_I g 720 4), .inr (.inr (some (202)))]) rfl ?_
        refine ez_cv hB1 t202 rfl rfl rfl tq_48 rfl rfl rfl (rd_tellProperty hB1 t202 t203 hs1 hi1 (by omega) (by omega) (by omega) (by omega) (by omega) (by omega) (by omega) (by omega) (fun g2 hB2 ht => ez_K0 ?_))
        have p720 : sz_PS τ 720 = false := by unfold sz_PS; rw [t720]; rfl
        have u4 : qz_I g2 720 4 = qz_I g 720 4 := ht.2.2.1.I p720 4
        have u5 : qz_I g2 720 5 = qz_I g 720 5 := ht.2.2.1.I p720 5
        have hce : ((0 : Int) = 2 ∧ nm4 = 0) ↔ rz_CE (rz_b h) (rz_f h 1) (rz_t h 1) := ⟨fun w => absurd w.1 (by decide), fun w => absurd w hno⟩
        refine ez_go (n := 1) (pc' := 146) (L' := [(2, .inl (nm4)), (1, .inl (0)), (0, .inr (.inr (some (720))))]) (st' := [.inr (.inr (some (720)))]) rfl ?_
        refine ez_gI hB2 t720 rfl rfl tq_52 rfl rfl (fun (b18 : -2147483648 ≤ qz_I g2 720 5) (b18' : qz_I g2 720 5 ≤ 2147483647) => ?_)
        refine ez_go (n := 1) (pc' := 150) (L' := [(2, .inl (nm4)), (1, .inl (0)), (0, .inr (.inr (some (720))))]) (st' := [.inr (.inr (some (720))), .inl (qz_I g2 720 5)]) rfl ?_
        refine ez_gI hB2 t720 rfl rfl tq_52 rfl rfl (fun (b19 : -2147483648 ≤ qz_I g2 720 4) (b19' : qz_I g2 720 4 ≤ 2147483647) => ?_)
        refine ez_go (n := 3) (pc' := 156) (L' := [(2, .inl (nm4)), (1, .inl (0)), (0, .inr (.inr (some (720))))]) (st' := [.inl (((qz_I g2 720 5) - (qz_I g2 720 4)) + (1))]) rfl ?_
        rw [u4, u5, v4, v5]
        rw [v4, v5] at ht
        refine ez_retI rfl rfl (kS g2 g _ _ hB2 hB1 x1 rfl rfl y1 y2 (sz_told_CE (by omega) (by omega) hce ht) (Or.inl ⟨sw3, by omega⟩) 0 nm4 (Or.inl ⟨sw3, rfl, by omega⟩) (by omega) (by omega) ht)
      · skip
        refine ez_go (n := 1) (pc' := 127) (L' := [(2, .inl (nm4)), (1, .inl (0)), (0, .inr (.inr (some (720))))]) (st' := [.inl (-1)]) rfl ?_
        refine ez_retI rfl rfl (kN g hB1 x1 (fun w => by first | exact hno w.2 | (have q := wv.mpr w.2; omega)) (fun w => ?_))
        rcases w.2 with ⟨a1, a2⟩ | ⟨a1, a2, a3⟩ | ⟨a1, a2, a3⟩
        · exact a2 (by omega)
        · exact a1 sw3
        · exact a1 sw3
    · skip
      have sw3 : ¬ rz_sw (rz_b h) nzs_3 (rz_f h 1) (rz_t h 1) := by have := e3; rw [bg, ef, et] at this; exact this
      refine ez_if rfl rfl ⟨by decide, by decide⟩ (fun _ => ?_) (fun (c20 : ¬((0 : Int) = (0))) => absurd c20 (by decide))
      refine ez_go (n := 1) (pc' := 78) (L' := [(2, .inl (nm2)), (1, .inl (2)), (0, .inr (.inr (some (720))))]) (st' := [.inr (.inr (some (720)))]) rfl ?_
      refine ez_ldcS rfl rfl ?_
      refine ez_go (n := 1) (pc' := 81) (L' := [(2, .inl (nm2)), (1, .inl (2)), (0, .inr (.inr (some (720))))]) (st' := [.inr (.inr (some (720))), .inr (.inr (some (5))), .inr (.inr (some (720)))]) rfl ?_
      refine ez_gC (p := 721) (tg := 53) hB1 t720 rfl rfl tq_52 rfl rfl (fun (t721 : _ = 53) => ?_)
      refine ez_go (n := 1) (pc' := 85) (L' := [(2, .inl (nm2)), (1, .inl (2)), (0, .inr (.inr (some (720))))]) (st' := [.inl (1), .inr (.inr (some (721))), .inr (.inr (some (5))), .inr (.inr (some (720)))]) rfl ?_
      have n22 : 7 ≤ qz_N g 721 ∧ qz_N g 721 ≤ 7 := ez_len hB1 t721 tq_53 rfl
      refine ez_aI hB1 t721 rfl tq_53 rfl rfl (by omega) (by omega) (fun (b21 : 0 ≤ qz_I g 721 (1 : Int).toNat) (b21' : qz_I g 721 (1 : Int).toNat ≤ 4096) => ?_)
      refine ez_go (n := 1) (pc' := 87) (L' := [(2, .inl (nm2)), (1, .inl (2)), (0, .inr (.inr (some (720))))]) (st' := [.inr (.inr (some (720))), .inl (qz_I g 721 (1 : Int).toNat), .inr (.inr (some (5))), .inr (.inr (some (720)))]) rfl ?_
      refine ez_gC (p := 722) (tg := 54) hB1 t720 rfl rfl tq_52 rfl rfl (fun (t722 : _ = 54) => ?_)
      refine ez_go (n := 1) (pc' := 91) (L' := [(2, .inl (nm2)), (1, .inl (2)), (0, .inr (.inr (some (720))))]) (st' := [.inl (1), .inr (.inr (some (722))), .inl (qz_I g 721 (1 : Int).toNat), .inr (.inr (some (5))), .inr (.inr (some (720)))]) rfl ?_
      have n24 : 7 ≤ qz_N g 722 ∧ qz_N g 722 ≤ 7 := ez_len hB1 t722 tq_54 rfl
      refine ez_aI hB1 t722 rfl tq_54 rfl rfl (by omega) (by omega) (fun (b23 : 0 ≤ qz_I g 722 (1 : Int).toNat) (b23' : qz_I g 722 (1 : Int).toNat ≤ 4096) => ?_)
      have hm5 : nzs_5.length = 3 := by decide
      refine ez_cv hB1 t720 rfl rfl rfl tq_52 rfl rfl rfl (rd_startsWith (l := nzs_5) hB1 t720 ts5 (hZ1 5 nzs_5 rfl).1 (by omega) (by omega) (by omega) (by omega) (fun e5 => ez_K1 ?_) (fun e5 => ez_K1 ?_))
      · skip
        have sw5 : rz_sw (rz_b h) nzs_5 (rz_f h 1) (rz_t h 1) := by have := e5; rw [bg, ef, et] at this; exact this
        rw [hm5] at e5
        have hno : ¬ rz_CE (rz_b h) (rz_f h 1) (rz_t h 1) := fun w => by have q1 := w.2 0 (by omega) (by omega); have q2 := e5.2 0 (by omega) (by omega); rw [bg, ef] at q2; rw [← q2] at q1; exact absurd q1 (by decide)
        refine ez_if rfl rfl ⟨by decide, by decide⟩ (fun (c25 : (1 : Int) = (0)) => absurd c25 (by decide)) (fun _ => ?_)
        refine ez_go (n := 3) (pc' := 101) (L' := [(1, .inl (1)), (2, .inl (nm2)), (0, .inr (.inr (some (720))))]) (st' := [.inr (.inr (some (720)))]) rfl ?_
        refine ez_ldcS rfl rfl ?_
        refine ez_go (n := 1) (pc' := 104) (L' := [(1, .inl (1)), (2, .inl (nm2)), (0, .inr (.inr (some (720))))]) (st' := [.inr (.inr (some (720))), .inr (.inr (some (6))), .inr (.inr (some (720)))]) rfl ?_
        refine ez_gC (p := 721) (tg := 53) hB1 t720 rfl rfl tq_52 rfl rfl (fun (t721 : _ = 53) => ?_)
        refine ez_go (n := 1) (pc' := 108) (L' := [(1, .inl (1)), (2, .inl (nm2)), (0, .inr (.inr (some (720))))]) (st' := [.inl (1), .inr (.inr (some (721))), .inr (.inr (some (6))), .inr (.inr (some (720)))]) rfl ?_
        have n27 : 7 ≤ qz_N g 721 ∧ qz_N g 721 ≤ 7 := ez_len hB1 t721 tq_53 rfl
        refine ez_aI hB1 t721 rfl tq_53 rfl rfl (by omega) (by omega) (fun (b26 : 0 ≤ qz_I g 721 (1 : Int).toNat) (b26' : qz_I g 721 (1 : Int).toNat ≤ 4096) => ?_)
        refine ez_go (n := 3) (pc' := 112) (L' := [(1, .inl (1)), (2, .inl (nm2)), (0, .inr (.inr (some (720))))]) (st' := [.inr (.inr (some (720))), .inl ((qz_I g 721 (1 : Int).toNat) + (3)), .inr (.inr (some (6))), .inr (.inr (some (720)))]) rfl ?_
        refine ez_gC (p := 722) (tg := 54) hB1 t720 rfl rfl tq_52 rfl rfl (fun (t722 : _ = 54) => ?_)
        refine ez_go (n := 1) (pc' := 116) (L' := [(1, .inl (1)), (2, .inl (nm2)), (0, .inr (.inr (some (720))))]) (st' := [.inl (1), .inr (.inr (some (722))), .inl ((qz_I g 721 (1 : Int).toNat) + (3)), .inr (.inr (some (6))), .inr (.inr (some (720)))]) rfl ?_
        have n29 : 7 ≤ qz_N g 722 ∧ qz_N g 722 ≤ 7 := ez_len hB1 t722 tq_54 rfl
        refine ez_aI hB1 t722 rfl tq_54 rfl rfl (by omega) (by omega) (fun (b28 : 0 ≤ qz_I g 722 (1 : Int).toNat) (b28' : qz_I g 722 (1 : Int).toNat ≤ 4096) => ?_)
        have hl6 := nzl_6
        refine ez_cv hB1 t720 rfl rfl rfl tq_52 rfl rfl rfl (rd_nameIndex (l := nzs_6) 5 hB1 t720 ts6 (hZ1 6 nzs_6 rfl).1 (by omega) (by omega) (by omega) (by omega) (by omega) (by omega) (nz_fst (n := 5) (by decide)) (Or.inr (by decide)) (fun nm6 w0 w1 wv wn => ez_K1 ?_))
        have wi6 := nz_ni_ix nzT_6 (by omega) wn
        rw [bg, ef, et] at wi6
        rw [hl6.2] at w1
        refine ez_go (n := 3) (pc' := 123) (L' := [(2, .inl (nm6)), (1, .inl (1)), (0, .inr (.inr (some (720))))]) (st' := [.inl (-1), .inl (nm6)]) rfl ?_
        refine ez_icmp rfl rfl ⟨by first | omega | exact (sz_i32 _).1, by first | omega | exact (sz_i32 _).2⟩ ⟨by first | omega | exact (sz_i32 _).1, by first | omega | exact (sz_i32 _).2⟩ (fun (c30 : (nm6) ≠ (-1)) => ?_) (fun (c30 : ¬((nm6) ≠ (-1))) => ?_)
        · skip
          refine ez_go (n := 1) (pc' := 129) (L' := [(2, .inl (nm6)), (1, .inl (1)), (0, .inr (.inr (some (720))))]) (st' := [.inr (.inr (some (720)))]) rfl ?_
          refine ez_gC (p := 202) (tg := 48) hB1 t720 rfl rfl tq_52 rfl rfl (fun (t202 : _ = 48) => ?_)
          refine ez_go (n := 1) (pc' := 133) (L' := [(2, .inl (nm6)), (1, .inl (1)), (0, .inr (.inr (some (720))))]) (st' := [.inr (.inr (some (720))), .inr (.inr (some (202)))]) rfl ?_
          refine ez_gI hB1 t720 rfl rfl tq_52 rfl rfl (fun (b31 : -2147483648 ≤ qz_I g 720 4) (b31' : qz_I g 720 4 ≤ 2147483647) => ?_)
          refine ez_go (n := 1) (pc' := 137) (L' := [(2, .inl (nm6)), (1, .inl (1)), (0, .inr (.inr (some (720))))]) (st' := [.inr (.inr (some (720))), .inl (qz_I g 720 4), .inr (.inr (some (202)))]) rfl ?_
          refine ez_gI hB1 t720 rfl rfl tq_52 rfl rfl (fun (b32 : -2147483648 ≤ qz_I g 720 5) (b32' : qz_I g 720 5 ≤ 2147483647) => ?_)
          refine ez_go (n := 2) (pc' := 142) (L' := [(2, .inl (nm6)), (1, .inl (1)), (0, .inr (.inr (some (720))))]) (st' := [.inl (nm6), .inl (1), .inl (qz_I g 720 5), .inl (qz_I g 720 4), .inr (.inr (some (202)))]) rfl ?_
          refine ez_cv hB1 t202 rfl rfl rfl tq_48 rfl rfl rfl (rd_tellProperty hB1 t202 t203 hs1 hi1 (by omega) (by omega) (by omega) (by omega) (by omega) (by omega) (by omega) (by omega) (fun g2 hB2 ht => ez_K0 ?_))
          have p720 : sz_PS τ 720 = false := by unfold sz_PS; rw [t720]; rfl
          have u4 : qz_I g2 720 4 = qz_I g 720 4 := ht.2.2.1.I p720 4
          have u5 : qz_I g2 720 5 = qz_I g 720 5 := ht.2.2.1.I p720 5
          have hce : ((1 : Int) = 2 ∧ nm6 = 0) ↔ rz_CE (rz_b h) (rz_f h 1) (rz_t h 1) := ⟨fun w => absurd w.1 (by decide), fun w => absurd w hno⟩
          refine ez_go (n := 1) (pc' := 146) (L' := [(2, .inl (nm6)), (1, .inl (1)), (0, .inr (.inr (some (720))))]) (st' := [.inr (.inr (some (720)))]) rfl ?_
          refine ez_gI hB2 t720 rfl rfl tq_52 rfl rfl (fun (b33 : -2147483648 ≤ qz_I g2 720 5) (b33' : qz_I g2 720 5 ≤ 2147483647) => ?_)
          refine ez_go (n := 1) (pc' := 150) (L' := [(2, .inl (nm6)), (1, .inl (1)), (0, .inr (.inr (some (720))))]) (st' := [.inr (.inr (some (720))), .inl (qz_I g2 720 5)]) rfl ?_
          refine ez_gI hB2 t720 rfl rfl tq_52 rfl rfl (fun (b34 : -2147483648 ≤ qz_I g2 720 4) (b34' : qz_I g2 720 4 ≤ 2147483647) => ?_)
          refine ez_go (n := 3) (pc' := 156) (L' := [(2, .inl (nm6)), (1, .inl (1)), (0, .inr (.inr (some (720))))]) (st' := [.inl (((qz_I g2 720 5) - (qz_I g2 720 4)) + (1))]) rfl ?_
          rw [u4, u5, v4, v5]
          rw [v4, v5] at ht
          refine ez_retI rfl rfl (kS g2 g _ _ hB2 hB1 x1 rfl rfl y1 y2 (sz_told_CE (by omega) (by omega) hce ht) (Or.inr (Or.inl ⟨sw3, sw5, by omega⟩)) 1 nm6 (Or.inr (Or.inl ⟨sw3, sw5, rfl, by omega⟩)) (by omega) (by omega) ht)
        · skip
          refine ez_go (n := 1) (pc' := 127) (L' := [(2, .inl (nm6)), (1, .inl (1)), (0, .inr (.inr (some (720))))]) (st' := [.inl (-1)]) rfl ?_
          refine ez_retI rfl rfl (kN g hB1 x1 (fun w => by first | exact hno w.2 | (have q := wv.mpr w.2; omega)) (fun w => ?_))
          rcases w.2 with ⟨a1, a2⟩ | ⟨a1, a2, a3⟩ | ⟨a1, a2, a3⟩
          · exact sw3 a1
          · exact a3 (by omega)
          · exact a2 sw5
      · skip
        have sw5 : ¬ rz_sw (rz_b h) nzs_5 (rz_f h 1) (rz_t h 1) := by have := e5; rw [bg, ef, et] at this; exact this
        refine ez_if rfl rfl ⟨by decide, by decide⟩ (fun _ => ?_) (fun (c35 : ¬((0 : Int) = (0))) => absurd c35 (by decide))
        refine ez_go (n := 2) (pc' := 123) (L' := [(2, .inl (nm2)), (1, .inl (2)), (0, .inr (.inr (some (720))))]) (st' := [.inl (-1), .inl (nm2)]) rfl ?_
        refine ez_icmp rfl rfl ⟨by first | omega | exact (sz_i32 _).1, by first | omega | exact (sz_i32 _).2⟩ ⟨by first | omega | exact (sz_i32 _).1, by first | omega | exact (sz_i32 _).2⟩ (fun (c36 : (nm2) ≠ (-1)) => ?_) (fun (c36 : ¬((nm2) ≠ (-1))) => ?_)
        · skip
          refine ez_go (n := 1) (pc' := 129) (L' := [(2, .inl (nm2)), (1, .inl (2)), (0, .inr (.inr (some (720))))]) (st' := [.inr (.inr (some (720)))]) rfl ?_
          refine ez_gC (p := 202) (tg := 48) hB1 t720 rfl rfl tq_52 rfl rfl (fun (t202 : _ = 48) => ?_)
          refine ez_go (n := 1) (pc' := 133) (L' := [(2, .inl (nm2)), (1, .inl (2)), (0, .inr (.inr (some (720))))]) (st' := [.inr (.inr (some (720))), .inr (.inr (some (202)))]) rfl ?_
          refine ez_gI hB1 t720 rfl rfl tq_52 rfl rfl (fun (b37 : -2147483648 ≤ qz_I g 720 4) (b37' : qz_I g 720 4 ≤ 2147483647) => ?_)
          refine ez_go (n := 1) (pc' := 137) (L' := [(2, .inl (nm2)), (1, .inl (2)), (0, .inr (.inr (some (720))))]) (st' := [.inr (.inr (some (720))), .inl (qz_I g 720 4), .inr (.inr (some (202)))]) rfl ?_
          refine ez_gI hB1 t720 rfl rfl tq_52 rfl rfl (fun (b38 : -2147483648 ≤ qz_I g 720 5) (b38' : qz_I g 720 5 ≤ 2147483647) => ?_)
          refine ez_go (n := 2) (pc' := 142) (L' := [(2, .inl (nm2)), (1, .inl (2)), (0, .inr (.inr (some (720))))]) (st' := [.inl (nm2), .inl (2), .inl (qz_I g 720 5), .inl (qz_I g 720 4), .inr (.inr (some (202)))]) rfl ?_
          refine ez_cv hB1 t202 rfl rfl rfl tq_48 rfl rfl rfl (rd_tellProperty hB1 t202 t203 hs1 hi1 (by omega) (by omega) (by omega) (by omega) (by omega) (by omega) (by omega) (by omega) (fun g2 hB2 ht => ez_K0 ?_))
          have p720 : sz_PS τ 720 = false := by unfold sz_PS; rw [t720]; rfl
          have u4 : qz_I g2 720 4 = qz_I g 720 4 := ht.2.2.1.I p720 4
          have u5 : qz_I g2 720 5 = qz_I g 720 5 := ht.2.2.1.I p720 5
          have hce : ((2 : Int) = 2 ∧ nm2 = 0) ↔ rz_CE (rz_b h) (rz_f h 1) (rz_t h 1) := ⟨fun w => wv.mp w.2, fun w => ⟨rfl, wv.mpr w⟩⟩
          refine ez_go (n := 1) (pc' := 146) (L' := [(2, .inl (nm2)), (1, .inl (2)), (0, .inr (.inr (some (720))))]) (st' := [.inr (.inr (some (720)))]) rfl ?_
          refine ez_gI hB2 t720 rfl rfl tq_52 rfl rfl (fun (b39 : -2147483648 ≤ qz_I g2 720 5) (b39' : qz_I g2 720 5 ≤ 2147483647) => ?_)
          refine ez_go (n := 1) (pc' := 150) (L' := [(2, .inl (nm2)), (1, .inl (2)), (0, .inr (.inr (some (720))))]) (st' := [.inr (.inr (some (720))), .inl (qz_I g2 720 5)]) rfl ?_
          refine ez_gI hB2 t720 rfl rfl tq_52 rfl rfl (fun (b40 : -2147483648 ≤ qz_I g2 720 4) (b40' : qz_I g2 720 4 ≤ 2147483647) => ?_)
          refine ez_go (n := 3) (pc' := 156) (L' := [(2, .inl (nm2)), (1, .inl (2)), (0, .inr (.inr (some (720))))]) (st' := [.inl (((qz_I g2 720 5) - (qz_I g2 720 4)) + (1))]) rfl ?_
          rw [u4, u5, v4, v5]
          rw [v4, v5] at ht
          refine ez_retI rfl rfl (kS g2 g _ _ hB2 hB1 x1 rfl rfl y1 y2 (sz_told_CE (by omega) (by omega) hce ht) (Or.inr (Or.inr ⟨sw3, sw5, by omega⟩)) 2 nm2 (Or.inr (Or.inr ⟨sw3, sw5, rfl, by omega⟩)) (by omega) (by omega) ht)
        · skip
          refine ez_go (n := 1) (pc' := 127) (L' := [(2, .inl (nm2)), (1, .inl (2)), (0, .inr (.inr (some (720))))]) (st' := [.inl (-1)]) rfl ?_
          refine ez_retI rfl rfl (kN g hB1 x1 (fun w => by first | exact hno w.2 | (have q := wv.mpr w.2; omega)) (fun w => ?_))
          rcases w.2 with ⟨a1, a2⟩ | ⟨a1, a2, a3⟩ | ⟨a1, a2, a3⟩
          · exact sw3 a1
          · exact sw5 a2
          · exact a3 (by omega)
  · skip
    refine ez_if rfl rfl ⟨by decide, by decide⟩ (fun (c41 : (0 : Int) ≠ (0)) => absurd c41 (by decide)) (fun _ => ?_)
    refine ez_go (n := 1) (pc' := 8) (L' := [(0, .inr (.inr (some (720))))]) (st' := [.inl (-1)]) rfl ?_
    exact ez_retI rfl rfl (kN g hB1 x1 (fun w => absurd w.1.2 (y1 w.1.1)) (fun w => absurd w.1.2 (y1 w.1.1)))
end EzTpp
def rw5 (τ : Nat → Nat) (h : cz_H) (v : Int) (l : List Int) : Prop := ∃ p : Nat, v = (p : Int) + 1 ∧ τ p = 5 ∧ qz_N h p = (l.length : Int) ∧ ∀ (j : Nat) x, l[j]? = some x → qz_I h p j = x
theorem rw5.tr {τ τ1 : Nat → Nat} {h g : cz_H} {v : Int} {l : List Int} (a : rw5 τ h v l) (e : ∀ q, τ q = 5 → τ1 q = 5 ∧ g.2.2 q = h.2.2 q) : rw5 τ1 g v l := by
  obtain ⟨p, p1, p2, p3, p4⟩ := a
  obtain ⟨q1, q2⟩ := e p p2
  exact ⟨p, p1, q1, by unfold qz_N; rw [q2]; exact p3, fun j x hj => by unfold qz_I; rw [q2]; exact p4 j x hj⟩
noncomputable def rz_rn (b : Int → Int) (s t : Int) : List Int := if s = t then [] else (rz_rw b 18 s t).getD []
theorem rz_rn_n {b : Int → Int} {s t : Int} (e : s = t) : rz_rn b s t = [] := if_pos e
theorem rz_rn_s {b : Int → Int} {s t : Int} {vs : List Int} (e : ¬ s = t) (h : rz_rw b 18 s t = some vs) : rz_rn b s t = vs := by unfold rz_rn; rw [if_neg e, h]; rfl
section EzK1
variable {d : Nat} {h : cz_H} {τ : Nat → Nat} {Q : cz_F → Prop}
theorem rd_readRowOrNothing9 {f : Int} (hB : ez_B τ h) (t720 : τ 720 = 52) (t193 : τ 193 = 45) (f0 : 0 ≤ f) (f1 : f < 7) (hft : rz_f h f ≤ rz_t h f) (hr1 : h.1 + 1 ≤ 600192) (hr2 : h.2.1 + 18 ≤ 7302232) (k : ∀ o g τ1, ez_B τ1 g → ez_xt τ h τ1 g 1 18 → (∀ p, o = some p → τ1 p = 5 ∧ τ p = 0) → (o = none ↔ ¬ rz_ro (rz_b h) (rz_f h f) (rz_t h f)) → (∀ p : Nat, o = some p → rw5 τ1 g ((p : Int) + 1) (rz_rn (rz_b h) (rz_f h f) (rz_t h f))) → Q (.inl (some (.inr (.inr o))), g)) : ez_W (d + 3) cm_167 0 [(0, .inr (.inr (some (720)))), (1, .inl (f))] [] h Q := by
  refine ez_go (n := 2) (pc' := 2) (L' := [(0, .inr (.inr (some (720)))), (1, .inl (f))]) (st' := [.inl (f), .inr (.inr (some (720)))]) rfl ?_
  refine ez_cv hB t720 rfl rfl rfl tq_52 rfl rfl rfl (rd_isEmptyField hB t720 f0 (by omega) (fun e => ez_K1 ?_) (fun e => ez_K1 ?_))
  · skip
    refine ez_if rfl rfl ⟨by decide, by decide⟩ (fun (c1 : (1 : Int) = (0)) => absurd c1 (by decide)) (fun _ => ?_)
    refine ez_go (n := 1) (pc' := 9) (L' := [(0, .inr (.inr (some (720)))), (1, .inl (f))]) (st' := [.inl (0)]) rfl ?_
    refine ez_nA' (t := 5) hB rfl rfl rfl tq_5 rfl rfl (by omega) (by show (0 : Int) ≤ _; omega) (by show _ ≤ (18 : Int); omega) (by omega) (by omega) (by omega) (fun g2 τ2 p2 hB2 x2 o2 t2 z2 e2 N2 y2 => ?_)
    have c2 := x2.2
    have t720n2 := (x2.1 _ (by rw [t720]; decide)).1.trans t720
    refine ez_go (n := 1) (pc' := 32) (L' := [(0, .inr (.inr (some (720)))), (1, .inl (f))]) (st' := [.inr (.inr (some (p2)))]) rfl ?_
    exact ez_retA rfl rfl rfl (k (some p2) g2 τ2 hB2 (x2.mono (by omega) (by omega)) (fun p w => by cases w; exact ⟨t2, z2⟩) ⟨fun w => (by cases w), fun w => absurd (Or.inl e) w⟩ (fun p w => by cases w; refine ⟨_, rfl, t2, ?_, fun j x hj => ?_⟩; (· rw [rz_rn_n e]; exact N2); (· rw [rz_rn_n e] at hj; cases hj)))
  · skip
    refine ez_if rfl rfl ⟨by decide, by decide⟩ (fun _ => ?_) (fun (c3 : ¬((0 : Int) = (0))) => absurd c3 (by decide))
    refine ez_go (n := 2) (pc' := 16) (L' := [(0, .inr (.inr (some (720)))), (1, .inl (f))]) (st' := [.inr (.inr (some (720))), .inr (.inr (some (720)))]) rfl ?_
    refine ez_gC (p := 721) (tg := 53) hB t720 rfl rfl tq_52 rfl rfl (fun (t721 : _ = 53) => ?_)
    refine ez_go (n := 1) (pc' := 20) (L' := [(0, .inr (.inr (some (720)))), (1, .inl (f))]) (st' := [.inl (f), .inr (.inr (some (721))), .inr (.inr (some (720)))]) rfl ?_
    have n5 : 7 ≤ qz_N h 721 ∧ qz_N h 721 ≤ 7 := ez_len hB t721 tq_53 rfl
    refine ez_aI hB t721 rfl tq_53 rfl rfl (by omega) (by omega) (fun (b4 : 0 ≤ qz_I h 721 (f).toNat) (b4' : qz_I h 721 (f).toNat ≤ 4096) => ?_)
    refine ez_go (n := 1) (pc' := 22) (L' := [(0, .inr (.inr (some (720)))), (1, .inl (f))]) (st' := [.inr (.inr (some (720))), .inl (qz_I h 721 (f).toNat), .inr (.inr (some (720)))]) rfl ?_
    refine ez_gC (p := 722) (tg := 54) hB t720 rfl rfl tq_52 rfl rfl (fun (t722 : _ = 54) => ?_)
    refine ez_go (n := 1) (pc' := 26) (L' := [(0, .inr (.inr (some (720)))), (1, .inl (f))]) (st' := [.inl (f), .inr (.inr (some (722))), .inl (qz_I h 721 (f).toNat), .inr (.inr (some (720)))]) rfl ?_
    have n7 : 7 ≤ qz_N h 722 ∧ qz_N h 722 ≤ 7 := ez_len hB t722 tq_54 rfl
    refine ez_aI hB t722 rfl tq_54 rfl rfl (by omega) (by omega) (fun (b6 : 0 ≤ qz_I h 722 (f).toNat) (b6' : qz_I h 722 (f).toNat ≤ 4096) => ?_)
    refine ez_go (n := 1) (pc' := 29) (L' := [(0, .inr (.inr (some (720)))), (1, .inl (f))]) (st' := [.inl (18), .inl (qz_I h 722 (f).toNat), .inl (qz_I h 721 (f).toNat), .inr (.inr (some (720)))]) rfl ?_
    refine ez_cv hB t720 rfl rfl rfl tq_52 rfl rfl rfl (rd_readRow hB t720 t193 (by omega) (by unfold rz_f rz_t at hft; omega) (by omega) (by omega) (by omega) (by omega) (by omega) (fun g τ1 hB1 hx hn => ez_KA ?_) (fun g τ1 vs hB1 hx up hc1 hc2 hrow hN hel => ez_KA ?_))
    · skip
      have hx := hx
      exact ez_retA rfl rfl rfl (k none g τ1 hB1 hx (fun p w => by cases w) ⟨fun _ w => w.elim (fun w => e w) (fun w => w (rz_rw_n hn)), fun _ => rfl⟩ (fun p w => by cases w))
    · skip
      have hx := hx
      exact ez_retA rfl rfl rfl (k (some h.1) g τ1 hB1 hx (fun p w => by cases w; exact ⟨up, ez_fresh hB⟩) ⟨fun w => (by cases w), fun w => absurd (Or.inr (fun w2 => by rw [show rz_rw (rz_b h) 18 (rz_f h f) (rz_t h f) = some vs from rz_rw_s hc1 hc2 hrow] at w2; cases w2)) w⟩ (fun p w => by cases w; refine ⟨h.1, rfl, up, ?_, fun j x hj => ?_⟩; (· rw [rz_rn_s e (rz_rw_s hc1 hc2 hrow), hN, rz_rw_len (rz_rw_s hc1 hc2 hrow)]); (· rw [rz_rn_s e (rz_rw_s hc1 hc2 hrow)] at hj; exact hel j x hj)))
end EzK1
section EzPl
variable {d : Nat} {h : cz_H} {τ : Nat → Nat} {Q : cz_F → Prop}
def fJ (c : Int) (J : Nat) : Prop := (c = 67 ∧ J = 5) ∨ (c = 70 ∧ J = 6) ∨ (c = 84 ∧ J = 7) ∨ (c ≠ 67 ∧ c ≠ 70 ∧ c ≠ 84 ∧ J = 9)
def sz_RS (J : Nat) (w : Int) (P : Prop) (j : Nat) (u v : Int) : Prop := (P → v = if j = J then w else u) ∧ (¬ P → v = u)
theorem sz_RS_W {τ : Nat → Nat} {h g : cz_H} {first last w : Int} {J : Nat} (hJ : 5 ≤ J) (ht : sz_toldR τ h g first last (sz_RS J w)) : sz_toldR τ h g first last sz_RW := by
  refine ⟨ht.1, ht.2.1, ht.2.2.1, ht.2.2.2.1, ht.2.2.2.2.1, fun x k x0 x1 hk => ?_⟩
  obtain ⟨k', w1, w2⟩ := ht.2.2.2.2.2 x k x0 x1 hk
  refine ⟨k', w1, fun j j1 j8 j4 => ?_⟩
  have q := w2 j j1 j8
  by_cases hP : first ≤ x ∧ x ≤ last
  · rw [q.1 hP, if_neg (by omega)]
  · exact q.2 hP
theorem rd_onlySpanOf9 {p : Int} (hB : ez_B τ h) (t202 : τ 202 = 48) (t203 : τ 203 = 49) (hs : sz_ok h) (hinj : sz_inj h) (p0 : 0 ≤ p) (p1 : p ≤ 1114111) (hn : qz_I h 202 1 + 2 ≤ 513) (k : ∀ g z, ez_B τ g → τ z = 4 → (∃ k2, sz_at h p k2 ∧ qz_I g z 8 = qz_I h (sz_p h k2) 8) → ez_fr (sz_PS τ) h g → (∀ g3, ez_fr (ez_one z) g g3 → (∀ j, j ≤ 4 → qz_I g3 z j = qz_I g z j) → sz_toldR τ h g3 p p sz_RW) → (∀ g3 (J : Nat) (w : Int), 1 ≤ J → ez_fr (ez_one z) g g3 → (∀ j, j ≠ J → qz_I g3 z j = qz_I g z j) → (J ≤ 8 → qz_I g3 z J = w) → sz_toldR τ h g3 p p (sz_RS J w)) → (∃ k2, sz_at h p k2 ∧ ∀ j, 1 ≤ j → j ≤ 8 → qz_I g z j = qz_I h (sz_p h k2) j) → Q (.inl (some (.inr (.inr (some z)))), g)) : ez_W (d + 2) cm_100 0 [(0, .inr (.inr (some (202)))), (1, .inl (p))] [] h Q := by
  refine ez_go (n := 2) (pc' := 2) (L' := [(0, .inr (.inr (some (202)))), (1, .inl (p))]) (st' := [.inl (p), .inr (.inr (some (202)))]) rfl ?_
  refine ez_cv hB t202 rfl rfl rfl tq_48 rfl rfl rfl (rd_cutP hB t202 t203 hs hinj (by omega) (by omega) (fun g1 a hB1 s1 i1 x1 x2 x3 x4 x5 x55 x6 x7 x8 => ez_K1 ?_))
  refine ez_go (n := 5) (pc' := 10) (L' := [(2, .inl (a)), (0, .inr (.inr (some (202)))), (1, .inl (p))]) (st' := [.inl ((p) + (1)), .inr (.inr (some (202)))]) rfl ?_
  refine ez_cv hB1 t202 rfl rfl rfl tq_48 rfl rfl rfl (rd_cutP hB1 t202 t203 s1 i1 (by omega) (by omega) (fun g2 b hB2 s2 i2 yy1 yy2 yy3 yy4 yy5 yy6 yy7 yy8 yy9 => ez_K1 ?_))
  have x7 := x7 (by omega) (by omega)
  have bn2 := sz_R_n1 hB2 t202
  refine ez_go (n := 2) (pc' := 15) (L' := [(2, .inl (a)), (0, .inr (.inr (some (202)))), (1, .inl (p))]) (st' := [.inr (.inr (some (202)))]) rfl ?_
  refine ez_gC (p := 203) (tg := 49) hB2 t202 rfl rfl tq_48 rfl rfl (fun (t203 : _ = 49) => ?_)
  refine ez_go (n := 1) (pc' := 19) (L' := [(2, .inl (a)), (0, .inr (.inr (some (202)))), (1, .inl (p))]) (st' := [.inl (a), .inr (.inr (some (203)))]) rfl ?_
  have n2 : 513 ≤ qz_N g2 203 ∧ qz_N g2 203 ≤ 513 := ez_len hB2 t203 tq_49 rfl
  have y3 : 1 ≤ qz_I g2 203 (a).toNat ∧ qz_I g2 203 (a).toNat ≤ 1000000 := ez_aB hB2 t203 tq_49 rfl rfl (by decide) (by omega) (by omega)
  have y3' : ((qz_P g2 203 (a).toNat : Nat) : Int) + 1 = qz_I g2 203 (a).toNat := by unfold qz_P; omega
  refine ez_aR hB2 t203 rfl tq_49 rfl rfl (by omega) (by omega) (by omega) (fun (t1 : _ = 4) => ?_)
  have tz : τ (qz_P g2 203 (a).toNat) = 4 := t1
  have fa2 : sz_f g2 a = p := by rw [yy6 a x7.1 x7.2.1 (by omega)]; exact x7.2.2
  have at2 : sz_at g2 p a := ⟨x7.1, by omega, by omega, fun w => by have := s2.2 a (a + 1) x7.1 (by omega) w; omega⟩
  have hz8 : ∃ k2, sz_at h p k2 ∧ qz_I g2 (qz_P g2 203 (a).toNat) 8 = qz_I h (sz_p h k2) 8 := by
    obtain ⟨k1, q1, q2⟩ := yy5 p a at2
    obtain ⟨k2, q3, q4⟩ := x5 p k1 q1
    exact ⟨k2, q3, (q2 8 (by omega) (by omega)).trans (q4 8 (by omega) (by omega))⟩
  have hzW : ∀ g3, ez_fr (ez_one (qz_P g2 203 (a).toNat)) g2 g3 → (∀ j, j ≤ 4 → qz_I g3 (qz_P g2 203 (a).toNat) j = qz_I g2 (qz_P g2 203 (a).toNat) j) → sz_toldR τ h g3 p p sz_RW := fun g3 f3 v3 => by
    refine sz_tellR (Rl := sz_RW) (fun P u v w => w (by omega)) t202 t203 p0 (Int.le_refl p) p1 hn x1 x2 x4 x5 x7 s2 i2 yy1 yy2 yy3 yy4 yy5 yy6 yy7 yy8 ⟨f3.1, f3.2.1, fun q hq => f3.2.2 q (dz_beq_ne (fun e => by rw [e] at hq; unfold sz_P4 at hq; rw [tz] at hq; cases hq))⟩ (fun k j k0 k1 j8 j4 => ?_)
    by_cases e : sz_p g2 k = qz_P g2 203 (a).toNat
    · rw [e]; exact v3 j j4
    · exact f3.I (dz_beq_ne e) j
  have onea : ∀ k, a ≤ k → k < b → k = a := fun k h1 h2 => by
    by_cases e : k = a
    · exact e
    · exfalso
      by_cases e2 : 1114111 < p + 1
      · have hb := yy7 e2
        have q := s2.2 a k x7.1 (by omega) (by omega)
        omega
      · obtain ⟨b0, b1, b2⟩ := yy8 (by omega) (by omega)
        have q := s2.2 a k x7.1 (by omega) (by omega)
        have q2 := s2.2 k b (by omega) (by omega) b1
        omega
  have ab9 : a < b := by
    by_cases e2 : 1114111 < p + 1
    · have hb := yy7 e2
      have := at2.2.1
      omega
    · obtain ⟨b0, b1, b2⟩ := yy8 (by omega) (by omega)
      by_cases e3 : a < b
      · exact e3
      · exfalso
        by_cases e4 : a = b
        · rw [e4] at fa2; omega
        · have q := s2.2 b a b0 (by omega) at2.2.1
          omega
  have hzS : ∀ g3 (J : Nat) (w : Int), 1 ≤ J → ez_fr (ez_one (qz_P g2 203 (a).toNat)) g2 g3 → (∀ j, j ≠ J → qz_I g3 (qz_P g2 203 (a).toNat) j = qz_I g2 (qz_P g2 203 (a).toNat) j) → (J ≤ 8 → qz_I g3 (qz_P g2 203 (a).toNat) J = w) → sz_toldR τ h g3 p p (sz_RS J w) := fun g3 J w hJ f3 v3 w3 => by
    refine sz_tellR (Rl := sz_RS J w) (fun P u v q => by by_cases hP : P; (· rw [q.1 hP, if_neg (by omega)]); (· exact q.2 hP)) t202 t203 p0 (Int.le_refl p) p1 hn x1 x2 x4 x5 x7 s2 i2 yy1 yy2 yy3 yy4 yy5 yy6 yy7 yy8 ⟨f3.1, f3.2.1, fun q hq => f3.2.2 q (dz_beq_ne (fun e => by rw [e] at hq; unfold sz_P4 at hq; rw [tz] at hq; cases hq))⟩ (fun k j k0 k1 j8 => ?_)
    by_cases e : sz_p g2 k = qz_P g2 203 (a).toNat
    · have ek : k = a := i2 k a k0 k1 x7.1 (by omega) e
      refine ⟨fun _ => ?_, fun np => absurd ⟨by omega, by omega⟩ np⟩
      rw [e]
      by_cases ej : j = J
      · rw [if_pos ej, ej]; exact w3 (by omega)
      · rw [if_neg ej]; exact v3 j ej
    · refine ⟨fun hP => absurd (by rw [onea k hP.1 hP.2]; rfl) e, fun _ => f3.I (dz_beq_ne e) j⟩
  have hz5 : ∃ k2, sz_at h p k2 ∧ ∀ j, 1 ≤ j → j ≤ 8 → qz_I g2 (qz_P g2 203 (a).toNat) j = qz_I h (sz_p h k2) j := by
    obtain ⟨k1, q1, q2⟩ := yy5 p a at2
    obtain ⟨k2, q3, q4⟩ := x5 p k1 q1
    exact ⟨k2, q3, fun j j1 j8 => (q2 j j1 j8).trans (q4 j j1 j8)⟩
  exact ez_retA rfl rfl rfl (k g2 _ hB2 tz hz8 (x1.trans yy1) hzW hzS hz5)
theorem rd_tellFold9 {p c : Int} {r : Nat} (hB : ez_B τ h) (t202 : τ 202 = 48) (t203 : τ 203 = 49) (hs : sz_ok h) (hinj : sz_inj h) (p0 : 0 ≤ p) (p1 : p ≤ 1114111) (hn : qz_I h 202 1 + 2 ≤ 513) (tr : τ r = 5) (hr : (r : Int) + 1 ≤ 1000000) (c0 : -128 ≤ c) (c1 : c ≤ 127) (k : ∀ g J, ez_B τ g → fJ c J → sz_toldR τ h g p p (sz_RS J ((r : Int) + 1)) → Q (.inl none, g)) : ez_W (d + 3) cm_106 0 [(0, .inr (.inr (some (202)))), (1, .inl (p)), (2, .inl (c)), (3, .inr (.inr (some (r))))] [] h Q := by
  refine ez_go (n := 2) (pc' := 2) (L' := [(0, .inr (.inr (some (202)))), (1, .inl (p)), (2, .inl (c)), (3, .inr (.inr (some (r))))]) (st' := [.inl (p), .inr (.inr (some (202)))]) rfl ?_
  refine ez_cv hB t202 rfl rfl rfl tq_48 rfl rfl rfl (rd_onlySpanOf9 hB t202 t203 hs hinj p0 p1 hn (fun g z hB1 tz hz8 hzf hz hzS hz5 => ez_KA ?_))
  refine ez_go (n := 3) (pc' := 10) (L' := [(4, .inr (.inr (some (z)))), (0, .inr (.inr (some (202)))), (1, .inl (p)), (2, .inl (c)), (3, .inr (.inr (some (r))))]) (st' := [.inl (67), .inl (c)]) rfl ?_
  refine ez_icmp rfl rfl ⟨by first | omega | exact (sz_i32 _).1, by first | omega | exact (sz_i32 _).2⟩ ⟨by first | omega | exact (sz_i32 _).1, by first | omega | exact (sz_i32 _).2⟩ (fun (c1 : (c) ≠ (67)) => ?_) (fun (c1 : ¬((c) ≠ (67))) => ?_)
  · skip
    refine ez_go (n := 2) (pc' := 25) (L' := [(4, .inr (.inr (some (z)))), (0, .inr (.inr (some (202)))), (1, .inl (p)), (2, .inl (c)), (3, .inr (.inr (some (r))))]) (st' := [.inl (70), .inl (c)]) rfl ?_
    refine ez_icmp rfl rfl ⟨by first | omega | exact (sz_i32 _).1, by first | omega | exact (sz_i32 _).2⟩ ⟨by first | omega | exact (sz_i32 _).1, by first | omega | exact (sz_i32 _).2⟩ (fun (c2 : (c) ≠ (70)) => ?_) (fun (c2 : ¬((c) ≠ (70))) => ?_)
    · skip
      refine ez_go (n := 2) (pc' := 40) (L' := [(4, .inr (.inr (some (z)))), (0, .inr (.inr (some (202)))), (1, .inl (p)), (2, .inl (c)), (3, .inr (.inr (some (r))))]) (st' := [.inl (84), .inl (c)]) rfl ?_
      refine ez_icmp rfl rfl ⟨by first | omega | exact (sz_i32 _).1, by first | omega | exact (sz_i32 _).2⟩ ⟨by first | omega | exact (sz_i32 _).1, by first | omega | exact (sz_i32 _).2⟩ (fun (c3 : (c) ≠ (84)) => ?_) (fun (c3 : ¬((c) ≠ (84))) => ?_)
      · skip
        exact ez_ret0 rfl rfl (k g 9 hB1 (by unfold fJ; omega) (hzS g 9 _ (by omega) (ez_fr.refl _ _) (fun _ _ => rfl) (fun w => by omega)))
      · skip
        refine ez_go (n := 2) (pc' := 46) (L' := [(4, .inr (.inr (some (z)))), (0, .inr (.inr (some (202)))), (1, .inl (p)), (2, .inl (c)), (3, .inr (.inr (some (r))))]) (st' := [.inr (.inr (some (r))), .inr (.inr (some (z)))]) rfl ?_
        refine ez_pf hB1 tz rfl rfl tq_4 rfl rfl rfl rfl (ez_vdR rfl tr (by omega) (by omega)) (fun hB4 w5 => ?_)
        exact ez_ret0 rfl rfl (k _ 7 hB4 (by unfold fJ; omega) (hzS _ 7 _ (by omega) ((ez_fr.refl (ez_one z) g).put (show Nat.beq z z = true from Nat.beq_refl z) _ _) (fun j hj => ez_put_I (fun w => hj w.2)) (fun _ => w5)))
    · skip
      refine ez_go (n := 2) (pc' := 31) (L' := [(4, .inr (.inr (some (z)))), (0, .inr (.inr (some (202)))), (1, .inl (p)), (2, .inl (c)), (3, .inr (.inr (some (r))))]) (st' := [.inr (.inr (some (r))), .inr (.inr (some (z)))]) rfl ?_
      refine ez_pf hB1 tz rfl rfl tq_4 rfl rfl rfl rfl (ez_vdR rfl tr (by omega) (by omega)) (fun hB6 w7 => ?_)
      refine ez_go (n := 1) (pc' := 49) (L' := [(4, .inr (.inr (some (z)))), (0, .inr (.inr (some (202)))), (1, .inl (p)), (2, .inl (c)), (3, .inr (.inr (some (r))))]) (st' := []) rfl ?_
      exact ez_ret0 rfl rfl (k _ 6 hB6 (by unfold fJ; omega) (hzS _ 6 _ (by omega) ((ez_fr.refl (ez_one z) g).put (show Nat.beq z z = true from Nat.beq_refl z) _ _) (fun j hj => ez_put_I (fun w => hj w.2)) (fun _ => w7)))
  · skip
    refine ez_go (n := 2) (pc' := 16) (L' := [(4, .inr (.inr (some (z)))), (0, .inr (.inr (some (202)))), (1, .inl (p)), (2, .inl (c)), (3, .inr (.inr (some (r))))]) (st' := [.inr (.inr (some (r))), .inr (.inr (some (z)))]) rfl ?_
    refine ez_pf hB1 tz rfl rfl tq_4 rfl rfl rfl rfl (ez_vdR rfl tr (by omega) (by omega)) (fun hB8 w9 => ?_)
    refine ez_go (n := 1) (pc' := 49) (L' := [(4, .inr (.inr (some (z)))), (0, .inr (.inr (some (202)))), (1, .inl (p)), (2, .inl (c)), (3, .inr (.inr (some (r))))]) (st' := []) rfl ?_
    exact ez_ret0 rfl rfl (k _ 5 hB8 (by unfold fJ; omega) (hzS _ 5 _ (by omega) ((ez_fr.refl (ez_one z) g).put (show Nat.beq z z = true from Nat.beq_refl z) _ _) (fun j hj => ez_put_I (fun w => hj w.2)) (fun _ => w9)))
theorem sz_atu {h : cz_H} {x k k' : Int} (hs : sz_ok h) (a : sz_at h x k) (b : sz_at h x k') : k = k' := by
  obtain ⟨a0, a1, a2, a3⟩ := a
  obtain ⟨b0, b1, b2, b3⟩ := b
  by_cases e : k < k'
  · exfalso
    have h1 := a3 (by omega)
    by_cases e2 : k + 1 = k'
    · rw [e2] at h1; omega
    · have := hs.2 (k + 1) k' (by omega) (by omega) b1; omega
  · by_cases e' : k' < k
    · exfalso
      have h1 := b3 (by omega)
      by_cases e2 : k' + 1 = k
      · rw [e2] at h1; omega
      · have := hs.2 (k' + 1) k (by omega) (by omega) a1; omega
    · omega
abbrev spz : Type := Int × List Int × List Int × List Int
def nod (τ : Nat → Nat) (h : cz_H) (p : Nat) (s : spz) : Prop := τ p = 6 ∧ qz_I h p 0 = s.1 ∧ rw5 τ h (qz_I h p 1) s.2.1 ∧ rw5 τ h (qz_I h p 2) s.2.2.1 ∧ rw5 τ h (qz_I h p 3) s.2.2.2
theorem nod.tr {τ τ1 : Nat → Nat} {h g : cz_H} {p : Nat} {s : spz} (a : nod τ h p s) (t : τ1 p = 6) (i : ∀ j, j < 4 → qz_I g p j = qz_I h p j) (e : ∀ q, τ q = 5 → τ1 q = 5 ∧ g.2.2 q = h.2.2 q) : nod τ1 g p s := by
  obtain ⟨a1, a2, a3, a4, a5⟩ := a
  exact ⟨t, by rw [i 0 (by omega)]; exact a2, by rw [i 1 (by omega)]; exact a3.tr e, by rw [i 2 (by omega)]; exact a4.tr e, by rw [i 3 (by omega)]; exact a5.tr e⟩
def sC (τ : Nat → Nat) (h : cz_H) (P : Nat → Prop) : List spz → Int → Prop
  | [], v => v = 0
  | s :: L, v => ∃ p : Nat, v = (p : Int) + 1 ∧ P p ∧ nod τ h p s ∧ sC τ h P L (qz_I h p 4)
theorem sC.tr {τ τ1 : Nat → Nat} {h g : cz_H} {P P' : Nat → Prop} (hP : ∀ p, τ p = 6 → P p → P' p) (e : ∀ q, τ q = 5 ∨ (τ q = 6 ∧ P q) → τ1 q = τ q ∧ g.2.2 q = h.2.2 q) : ∀ {L : List spz} {v : Int}, sC τ h P L v → sC τ1 g P' L v
  | [], v, a => a
  | s :: L, v, ⟨p, p1, p2, p3, p4⟩ => by
    obtain ⟨q1, q2⟩ := e p (Or.inr ⟨p3.1, p2⟩)
    have i : ∀ j, qz_I g p j = qz_I h p j := fun j => by unfold qz_I; rw [q2]
    refine ⟨p, p1, hP p p3.1 p2, p3.tr (q1.trans p3.1) (fun j _ => i j) (fun q hq => ?_), by rw [i]; exact sC.tr hP e p4⟩
    obtain ⟨u1, u2⟩ := e q (Or.inl hq)
    exact ⟨u1.trans hq, u2⟩
theorem rd_tSp_l {P : Nat → Prop} {p : Int} {r z : Nat} {n : spz} (hB : ez_B τ h) (t202 : τ 202 = 48) (t203 : τ 203 = 49) (tz : τ z = 4) (tr : τ r = 6) (hr : (r : Int) + 1 ≤ 1000000) (hlt : ∀ q, P q → q < r) (hnr : nod τ h r n) (r4 : qz_I h r 4 = 0) : ∀ (L : List spz) (s : spz) (q : Nat), (∀ g, ez_B τ g → (∃ t : Nat, q ≤ t ∧ (τ t = 6 ∧ P t) ∧ (∀ y, y ≠ t → g.2.2 y = h.2.2 y) ∧ g.1 = h.1 ∧ g.2.1 = h.2.1) → sC τ g (fun y => P y ∨ y = r) (s :: (L ++ [n])) ((q : Int) + 1) → Q (.inl none, g)) → τ q = 6 → (P q ∧ nod τ h q s) → sC τ h P L (qz_I h q 4) → ez_W d cm_108 25 [(4, .inr (.inr (some (q)))), (3, .inr (.inr (some (z)))), (0, .inr (.inr (some (202)))), (1, .inl (p)), (2, .inr (.inr (some (r))))] [] h Q := by
  intro L
  induction L with
  | nil =>
    intro s q k tq hq hs4
    have hs4 : qz_I h q 4 = 0 := hs4
    refine ez_go (n := 1) (pc' := 27) (L' := [(4, .inr (.inr (some (q)))), (3, .inr (.inr (some (z)))), (0, .inr (.inr (some (202)))), (1, .inl (p)), (2, .inr (.inr (some (r))))]) (st' := [.inr (.inr (some (q)))]) rfl ?_
    refine ez_gN hB tq rfl rfl tq_6 rfl rfl (fun (t1 : qz_I h q 4 = 0) => ?_) (fun (t1 : _ = 6) (t1' : 1 ≤ qz_I h q 4) => ?_)
    · skip
      refine ez_null0 rfl rfl ?_
      refine ez_go (n := 2) (pc' := 46) (L' := [(4, .inr (.inr (some (q)))), (3, .inr (.inr (some (z)))), (0, .inr (.inr (some (202)))), (1, .inl (p)), (2, .inr (.inr (some (r))))]) (st' := [.inr (.inr (some (r))), .inr (.inr (some (q)))]) rfl ?_
      refine ez_pf hB tq rfl rfl tq_6 rfl rfl rfl rfl (ez_vdR1 rfl tr (by omega) (by omega) (hlt q hq.1)) (fun hB2 w3 => ?_)
      have qr : q ≠ r := by have := hlt q hq.1; omega
      have i9 : ∀ j, j ≠ 4 → qz_I (dz_put h q 4 (ez_v (.inr (.inr (some (r)))))) q j = qz_I h q j := fun j hj => ez_put_I (fun w => hj w.2)
      have r9 : ∀ j, qz_I (dz_put h q 4 (ez_v (.inr (.inr (some (r)))))) r j = qz_I h r j := fun j => ez_put_I (fun w => qr w.1.symm)
      have c9 : ∀ y, y ≠ q → ((dz_put h q 4 (ez_v (.inr (.inr (some (r))))))).2.2 y = h.2.2 y := fun y hy => qz_put_at _ _ _ _ hy
      have c5 : ∀ y, τ y = 5 → τ y = 5 ∧ ((dz_put h q 4 (ez_v (.inr (.inr (some (r))))))).2.2 y = h.2.2 y := fun y hy => ⟨hy, c9 y (fun e => by rw [e, tq] at hy; cases hy)⟩
      refine ez_ret0 rfl rfl (k _ hB2 ⟨q, Nat.le_refl _, ⟨tq, hq.1⟩, c9, rfl, rfl⟩ ⟨q, rfl, Or.inl hq.1, hq.2.tr tq (fun j hj => i9 j (by omega)) c5, ?_⟩)
      exact ⟨r, w3, Or.inr rfl, hnr.tr tr (fun j _ => r9 j) c5, by rw [r9]; exact r4⟩
    · skip
      refine ez_null1 rfl ?_
      refine ez_go (n := 1) (pc' := 35) (L' := [(4, .inr (.inr (some (q)))), (3, .inr (.inr (some (z)))), (0, .inr (.inr (some (202)))), (1, .inl (p)), (2, .inr (.inr (some (r))))]) (st' := [.inr (.inr (some (q)))]) rfl ?_
      refine ez_gN hB tq rfl rfl tq_6 rfl rfl (fun (t4 : qz_I h q 4 = 0) => ?_) (fun (t4 : _ = 6) (t4' : 1 ≤ qz_I h q 4) => ?_)
      · skip
        refine ez_go (n := 2) (pc' := 25) (L' := [(4, .inr (.inr none)), (3, .inr (.inr (some (z)))), (0, .inr (.inr (some (202)))), (1, .inl (p)), (2, .inr (.inr (some (r))))]) (st' := []) rfl ?_
        exfalso; omega
      · skip
        refine ez_go (n := 2) (pc' := 25) (L' := [(4, .inr (.inr (some (qz_P h q 4)))), (3, .inr (.inr (some (z)))), (0, .inr (.inr (some (202)))), (1, .inl (p)), (2, .inr (.inr (some (r))))]) (st' := []) rfl ?_
        exfalso; omega
  | cons s2 L ih =>
    intro s q k tq hq hs4
    obtain ⟨p2, hs1, hs2, hs3, hs4⟩ := hs4
    have hs2 : τ p2 = 6 ∧ P p2 ∧ nod τ h p2 s2 := ⟨hs3.1, hs2, hs3⟩
    refine ez_go (n := 1) (pc' := 27) (L' := [(4, .inr (.inr (some (q)))), (3, .inr (.inr (some (z)))), (0, .inr (.inr (some (202)))), (1, .inl (p)), (2, .inr (.inr (some (r))))]) (st' := [.inr (.inr (some (q)))]) rfl ?_
    refine ez_gN hB tq rfl rfl tq_6 rfl rfl (fun (t1 : qz_I h q 4 = 0) => ?_) (fun (t1 : _ = 6) (t1' : 1 ≤ qz_I h q 4) => ?_)
    · skip
      refine ez_null0 rfl rfl ?_
      refine ez_go (n := 2) (pc' := 46) (L' := [(4, .inr (.inr (some (q)))), (3, .inr (.inr (some (z)))), (0, .inr (.inr (some (202)))), (1, .inl (p)), (2, .inr (.inr (some (r))))]) (st' := [.inr (.inr (some (r))), .inr (.inr (some (q)))]) rfl ?_
      refine ez_pf hB tq rfl rfl tq_6 rfl rfl rfl rfl (ez_vdR1 rfl tr (by omega) (by omega) (hlt q hq.1)) (fun hB2 w3 => ?_)
      exfalso; omega
    · skip
      refine ez_null1 rfl ?_
      refine ez_go (n := 1) (pc' := 35) (L' := [(4, .inr (.inr (some (q)))), (3, .inr (.inr (some (z)))), (0, .inr (.inr (some (202)))), (1, .inl (p)), (2, .inr (.inr (some (r))))]) (st' := [.inr (.inr (some (q)))]) rfl ?_
      refine ez_gN hB tq rfl rfl tq_6 rfl rfl (fun (t4 : qz_I h q 4 = 0) => ?_) (fun (t4 : _ = 6) (t4' : 1 ≤ qz_I h q 4) => ?_)
      · skip
        refine ez_go (n := 2) (pc' := 25) (L' := [(4, .inr (.inr none)), (3, .inr (.inr (some (z)))), (0, .inr (.inr (some (202)))), (1, .inl (p)), (2, .inr (.inr (some (r))))]) (st' := []) rfl ?_
        exfalso; omega
      · skip
        refine ez_go (n := 2) (pc' := 25) (L' := [(4, .inr (.inr (some (qz_P h q 4)))), (3, .inr (.inr (some (z)))), (0, .inr (.inr (some (202)))), (1, .inl (p)), (2, .inr (.inr (some (r))))]) (st' := []) rfl ?_
        refine ez_less [(4, .inr (.inr (some (qz_P h q 4)))), (3, .inr (.inr (some (z)))), (0, .inr (.inr (some (202)))), (1, .inl (p)), (2, .inr (.inr (some (r))))] rfl ⟨rfl, rfl, rfl, rfl, rfl, trivial⟩ ?_
        have e9 : qz_P h q 4 = p2 := by unfold qz_P; omega
        rw [e9]
        have hu := ez_up (cl := 13) (k := 4) hB tq tq_6 rfl rfl
        refine ih s2 p2 (fun g hBg ht hc => ?_) hs2.1 ⟨hs2.2.1, hs2.2.2⟩ hs4
        obtain ⟨t, t1, t2, t3, t4, t5⟩ := id ht
        have qt : q ≠ t := by omega
        have cq := t3 q qt
        have c5 : ∀ y, τ y = 5 → τ y = 5 ∧ g.2.2 y = h.2.2 y := fun y hy => ⟨hy, t3 y (fun e => by rw [e, t2.1] at hy; cases hy)⟩
        have iq : ∀ j, qz_I g q j = qz_I h q j := fun j => by unfold qz_I; rw [cq]
        exact k g hBg ⟨t, by omega, t2, t3, t4, t5⟩ ⟨q, rfl, Or.inl hq.1, hq.2.tr tq (fun j _ => iq j) c5, by rw [iq, hs1]; exact hc⟩
theorem rd_tellSpecial9 {p : Int} {r : Nat} {P : Nat → Prop} {n : spz} {L0 : List spz} (hB : ez_B τ h) (t202 : τ 202 = 48) (t203 : τ 203 = 49) (hs : sz_ok h) (hinj : sz_inj h) (p0 : 0 ≤ p) (p1 : p ≤ 1114111) (hn : qz_I h 202 1 + 2 ≤ 513) (tr : τ r = 6) (hr : (r : Int) + 1 ≤ 1000000) (hlt : ∀ q, P q → q < r) (hnr : nod τ h r n) (r4 : qz_I h r 4 = 0) (hsp : ∀ k, sz_at h p k → sC τ h P L0 (qz_I h (sz_p h k) 8)) (k : ∀ g1 g, ez_B τ g → ez_B τ g1 → ((L0 = [] ∧ sz_toldR τ h g1 p p (sz_RS 8 ((r : Int) + 1)) ∧ g = g1) ∨ (sz_toldR τ h g1 p p (sz_RS 9 0) ∧ ∃ t : Nat, (τ t = 6 ∧ P t) ∧ (∀ y, y ≠ t → g.2.2 y = g1.2.2 y) ∧ g.1 = g1.1 ∧ g.2.1 = g1.2.1 ∧ ∀ k, sz_at h p k → sC τ g (fun y => P y ∨ y = r) (L0 ++ [n]) (qz_I h (sz_p h k) 8))) → Q (.inl none, g)) : ez_W (d + 3) cm_108 0 [(0, .inr (.inr (some (202)))), (1, .inl (p)), (2, .inr (.inr (some (r))))] [] h Q := by
  refine ez_go (n := 2) (pc' := 2) (L' := [(0, .inr (.inr (some (202)))), (1, .inl (p)), (2, .inr (.inr (some (r))))]) (st' := [.inl (p), .inr (.inr (some (202)))]) rfl ?_
  refine ez_cv hB t202 rfl rfl rfl tq_48 rfl rfl rfl (rd_onlySpanOf9 hB t202 t203 hs hinj p0 p1 hn (fun g z hB1 tz hz8 hzf hz hzS hz5 => ez_KA ?_))
  obtain ⟨k2, at2, ez2⟩ := hz5
  have ez8 := ez2 8 (by omega) (by omega)
  have kp : ∀ q, τ q = 5 ∨ τ q = 6 → g.2.2 q = h.2.2 q := fun q hq => hzf.2.2 q (by unfold sz_PS; rw [dz_beq_ne (fun e => by rw [e, t202] at hq; omega), dz_beq_ne (fun e => by rw [e, t203] at hq; omega)]; rcases hq with w | w <;> (rw [w]; rfl))
  have ch : sC τ g P L0 (qz_I g z 8) := by rw [ez8]; exact sC.tr (fun _ _ w => w) (fun q hq => ⟨rfl, kp q (hq.imp id (fun w => w.1))⟩) (hsp k2 at2)
  have hnrg : nod τ g r n := hnr.tr tr (fun j _ => by unfold qz_I; rw [kp r (Or.inr tr)]) (fun q hq => ⟨hq, kp q (Or.inl hq)⟩)
  have r4g : qz_I g r 4 = 0 := by unfold qz_I; rw [kp r (Or.inr tr)]; exact r4
  refine ez_go (n := 2) (pc' := 7) (L' := [(3, .inr (.inr (some (z)))), (0, .inr (.inr (some (202)))), (1, .inl (p)), (2, .inr (.inr (some (r))))]) (st' := [.inr (.inr (some (z)))]) rfl ?_
  refine ez_gN hB1 tz rfl rfl tq_4 rfl rfl (fun (t1 : qz_I g z 8 = 0) => ?_) (fun (t1 : _ = 6) (t1' : 1 ≤ qz_I g z 8) => ?_)
  · skip
    refine ez_nonn0 rfl ?_
    refine ez_go (n := 2) (pc' := 15) (L' := [(3, .inr (.inr (some (z)))), (0, .inr (.inr (some (202)))), (1, .inl (p)), (2, .inr (.inr (some (r))))]) (st' := [.inr (.inr (some (r))), .inr (.inr (some (z)))]) rfl ?_
    refine ez_pf hB1 tz rfl rfl tq_4 rfl rfl rfl rfl (ez_vdR rfl tr (by omega) (by omega)) (fun hB2 w3 => ?_)
    have hL : L0 = [] := by cases L0 with | nil => rfl | cons s L => obtain ⟨y, y1, -⟩ := ch; exfalso; omega
    exact ez_ret0 rfl rfl (k _ _ hB2 hB2 (Or.inl ⟨hL, hzS _ 8 _ (by omega) ((ez_fr.refl (ez_one z) g).put (show Nat.beq z z = true from Nat.beq_refl z) _ _) (fun j hj => ez_put_I (fun w => hj w.2)) (fun _ => w3), rfl⟩))
  · skip
    refine ez_nonn1 rfl rfl ?_
    refine ez_go (n := 1) (pc' := 20) (L' := [(3, .inr (.inr (some (z)))), (0, .inr (.inr (some (202)))), (1, .inl (p)), (2, .inr (.inr (some (r))))]) (st' := [.inr (.inr (some (z)))]) rfl ?_
    refine ez_gN hB1 tz rfl rfl tq_4 rfl rfl (fun (t4 : qz_I g z 8 = 0) => ?_) (fun (t4 : _ = 6) (t4' : 1 ≤ qz_I g z 8) => ?_)
    · skip
      refine ez_go (n := 1) (pc' := 25) (L' := [(4, .inr (.inr none)), (3, .inr (.inr (some (z)))), (0, .inr (.inr (some (202)))), (1, .inl (p)), (2, .inr (.inr (some (r))))]) (st' := []) rfl ?_
      exfalso; omega
    · skip
      refine ez_go (n := 1) (pc' := 25) (L' := [(4, .inr (.inr (some (qz_P g z 8)))), (3, .inr (.inr (some (z)))), (0, .inr (.inr (some (202)))), (1, .inl (p)), (2, .inr (.inr (some (r))))]) (st' := []) rfl ?_
      refine ez_less [(4, .inr (.inr (some (qz_P g z 8)))), (3, .inr (.inr (some (z)))), (0, .inr (.inr (some (202)))), (1, .inl (p)), (2, .inr (.inr (some (r))))] rfl ⟨rfl, rfl, rfl, rfl, rfl, trivial⟩ ?_
      obtain ⟨s, L, hL⟩ : ∃ s L, L0 = s :: L := by cases L0 with | nil => (have e8 : qz_I g z 8 = 0 := ch; exfalso; omega) | cons s L => exact ⟨s, L, rfl⟩
      rw [hL] at ch
      obtain ⟨q, q1, q2, q3, q4⟩ := ch
      have e9 : qz_P g z 8 = q := by unfold qz_P; omega
      rw [e9]
      refine rd_tSp_l hB1 t202 t203 tz tr hr hlt hnrg r4g L s q (fun g3 hB3 ht hc => ?_) q3.1 ⟨q2, q3⟩ q4
      obtain ⟨t, t1, t2, t3, t4, t5⟩ := id ht
      exact k g g3 hB3 hB1 (Or.inr ⟨hzS g 9 0 (by omega) (ez_fr.refl _ _) (fun _ _ => rfl) (fun w => by omega), t, t2, t3, t4, t5, fun k3 hk3 => (by rw [hL, show qz_I h (sz_p h k3) 8 = (q : Int) + 1 by rw [sz_atu hs hk3 at2, ← ez8]; exact q1]; exact hc)⟩)
end EzPl
section EzTe
variable {d : Nat} {h : cz_H} {τ : Nat → Nat} {Q : cz_F → Prop}
theorem rd_takeFold9 (hB : ez_B τ h) (u193 : τ 193 = 45) (u202 : τ 202 = 48) (u203 : τ 203 = 49) (u720 : τ 720 = 52) (u721 : τ 721 = 53) (u722 : τ 722 = 54) (hs : sz_ok h) (hinj : sz_inj h) (hft : ∀ k, 0 ≤ k → k ≤ 2 → rz_f h k ≤ rz_t h k) (hn : qz_I h 202 1 + 2 ≤ 513) (hr1 : h.1 + 1 ≤ 600192) (hr2 : h.2.1 + 18 ≤ 7302232) (kN : ∀ g τ1, ez_B τ1 g → ez_xt τ h τ1 g 1 18 → ¬ rz_G2 (rz_b h) (rz_f h) (rz_t h) → Q (.inl (some (ez_v (.inl (-1)))), g)) (kS : ∀ g h1 τ1 p J (r : Nat), ez_B τ1 g → ez_B τ1 h1 → ez_xt τ h τ1 h1 1 18 → fJ (rz_b h (rz_f h 1)) J → sz_toldR τ1 h1 g p p (sz_RS J ((r : Int) + 1)) → p = rz_code (rz_b h) (rz_f h 0) (rz_t h 0) → (∃ vs, rz_rw (rz_b h) 18 (rz_f h 2) (rz_t h 2) = some vs ∧ rw5 τ1 h1 ((r : Int) + 1) vs) → rz_G2 (rz_b h) (rz_f h) (rz_t h) → Q (.inl (some (ez_v (.inl 1))), g)) : ez_W (d + 4) cm_177 0 [(0, .inr (.inr (some (720))))] [] h Q := by
  have n721 : 7 ≤ qz_N h 721 ∧ qz_N h 721 ≤ 7 := ez_len hB u721 tq_53 rfl
  have n722 : 7 ≤ qz_N h 722 ∧ qz_N h 722 ≤ 7 := ez_len hB u722 tq_54 rfl
  have qh0 := hft 0 (by omega) (by omega)
  have qf0 : 0 ≤ rz_f h 0 ∧ rz_f h 0 ≤ 4096 := ez_aB (i := 0) hB u721 tq_53 rfl rfl (by decide) (by omega) (by omega)
  have qt0 : 0 ≤ rz_t h 0 ∧ rz_t h 0 ≤ 4096 := ez_aB (i := 0) hB u722 tq_54 rfl rfl (by decide) (by omega) (by omega)
  have qh1 := hft 1 (by omega) (by omega)
  have qf1 : 0 ≤ rz_f h 1 ∧ rz_f h 1 ≤ 4096 := ez_aB (i := 1) hB u721 tq_53 rfl rfl (by decide) (by omega) (by omega)
  have qt1 : 0 ≤ rz_t h 1 ∧ rz_t h 1 ≤ 4096 := ez_aB (i := 1) hB u722 tq_54 rfl rfl (by decide) (by omega) (by omega)
  have qh2 := hft 2 (by omega) (by omega)
  have qf2 : 0 ≤ rz_f h 2 ∧ rz_f h 2 ≤ 4096 := ez_aB (i := 2) hB u721 tq_53 rfl rfl (by decide) (by omega) (by omega)
  have qt2 : 0 ≤ rz_t h 2 ∧ rz_t h 2 ≤ 4096 := ez_aB (i := 2) hB u722 tq_54 rfl rfl (by decide) (by omega) (by omega)
  refine ez_go (n := 2) (pc' := 2) (L' := [(0, .inr (.inr (some (720))))]) (st' := [.inr (.inr (some (720))), .inr (.inr (some (720)))]) rfl ?_
  refine ez_gC (p := 721) (tg := 53) hB u720 rfl rfl tq_52 rfl rfl (fun (t721 : _ = 53) => ?_)
  refine ez_go (n := 1) (pc' := 6) (L' := [(0, .inr (.inr (some (720))))]) (st' := [.inl (0), .inr (.inr (some (721))), .inr (.inr (some (720)))]) rfl ?_
  have n2 : 7 ≤ qz_N h 721 ∧ qz_N h 721 ≤ 7 := ez_len hB t721 tq_53 rfl
  refine ez_aI hB t721 rfl tq_53 rfl rfl (by omega) (by omega) (fun (b1 : 0 ≤ qz_I h 721 (0 : Int).toNat) (b1' : qz_I h 721 (0 : Int).toNat ≤ 4096) => ?_)
  refine ez_go (n := 1) (pc' := 8) (L' := [(0, .inr (.inr (some (720))))]) (st' := [.inr (.inr (some (720))), .inl (qz_I h 721 (0 : Int).toNat), .inr (.inr (some (720)))]) rfl ?_
  refine ez_gC (p := 722) (tg := 54) hB u720 rfl rfl tq_52 rfl rfl (fun (t722 : _ = 54) => ?_)
  refine ez_go (n := 1) (pc' := 12) (L' := [(0, .inr (.inr (some (720))))]) (st' := [.inl (0), .inr (.inr (some (722))), .inl (qz_I h 721 (0 : Int).toNat), .inr (.inr (some (720)))]) rfl ?_
  have n4 : 7 ≤ qz_N h 722 ∧ qz_N h 722 ≤ 7 := ez_len hB t722 tq_54 rfl
  refine ez_aI hB t722 rfl tq_54 rfl rfl (by omega) (by omega) (fun (b3 : 0 ≤ qz_I h 722 (0 : Int).toNat) (b3' : qz_I h 722 (0 : Int).toNat ≤ 4096) => ?_)
  have xf0 : qz_I h 721 (0 : Int).toNat = rz_f h 0 := rfl
  have xt0 : qz_I h 722 (0 : Int).toNat = rz_t h 0 := rfl
  have xb := rz_code_bd (rz_b h) (rz_f h 0) (rz_t h 0)
  refine ez_cv hB u720 rfl rfl rfl tq_52 rfl rfl rfl (rd_readCode hB u720 (by omega) (by omega) (by omega) (ez_K1 ?_))
  rw [xf0, xt0]
  obtain ⟨pt, ept⟩ : ∃ pt, pt = rz_code (rz_b h) (rz_f h 0) (rz_t h 0) := ⟨_, rfl⟩
  rw [← ept] at xb ⊢
  refine ez_go (n := 3) (pc' := 19) (L' := [(1, .inl (pt)), (0, .inr (.inr (some (720))))]) (st' := [.inr (.inr (some (720))), .inr (.inr (some (720)))]) rfl ?_
  refine ez_gC (p := 721) (tg := 53) hB u720 rfl rfl tq_52 rfl rfl (fun (t721 : _ = 53) => ?_)
  refine ez_go (n := 1) (pc' := 23) (L' := [(1, .inl (pt)), (0, .inr (.inr (some (720))))]) (st' := [.inl (2), .inr (.inr (some (721))), .inr (.inr (some (720)))]) rfl ?_
  have n6 : 7 ≤ qz_N h 721 ∧ qz_N h 721 ≤ 7 := ez_len hB t721 tq_53 rfl
  refine ez_aI hB t721 rfl tq_53 rfl rfl (by omega) (by omega) (fun (b5 : 0 ≤ qz_I h 721 (2 : Int).toNat) (b5' : qz_I h 721 (2 : Int).toNat ≤ 4096) => ?_)
  refine ez_go (n := 1) (pc' := 25) (L' := [(1, .inl (pt)), (0, .inr (.inr (some (720))))]) (st' := [.inr (.inr (some (720))), .inl (qz_I h 721 (2 : Int).toNat), .inr (.inr (some (720)))]) rfl ?_
  refine ez_gC (p := 722) (tg := 54) hB u720 rfl rfl tq_52 rfl rfl (fun (t722 : _ = 54) => ?_)
  refine ez_go (n := 1) (pc' := 29) (L' := [(1, .inl (pt)), (0, .inr (.inr (some (720))))]) (st' := [.inl (2), .inr (.inr (some (722))), .inl (qz_I h 721 (2 : Int).toNat), .inr (.inr (some (720)))]) rfl ?_
  have n8 : 7 ≤ qz_N h 722 ∧ qz_N h 722 ≤ 7 := ez_len hB t722 tq_54 rfl
  refine ez_aI hB t722 rfl tq_54 rfl rfl (by omega) (by omega) (fun (b7 : 0 ≤ qz_I h 722 (2 : Int).toNat) (b7' : qz_I h 722 (2 : Int).toNat ≤ 4096) => ?_)
  refine ez_go (n := 1) (pc' := 32) (L' := [(1, .inl (pt)), (0, .inr (.inr (some (720))))]) (st' := [.inl (18), .inl (qz_I h 722 (2 : Int).toNat), .inl (qz_I h 721 (2 : Int).toNat), .inr (.inr (some (720)))]) rfl ?_
  have xf2 : qz_I h 721 (2 : Int).toNat = rz_f h 2 := rfl
  have xt2 : qz_I h 722 (2 : Int).toNat = rz_t h 2 := rfl
  refine ez_cv hB u720 rfl rfl rfl tq_52 rfl rfl rfl (rd_readRow hB u720 u193 (by omega) (by omega) (by omega) (by omega) (by omega) (by omega) (by omega) (fun g τ1 hB1 hx hn9 => ez_KA ?_) (fun g τ1 vs hB1 hx up hc1 hc2 hrow hN9 hel9 => ez_KA ?_))
  · skip
    have u720z := (hx.1 _ (by rw [u720]; decide)).1.trans u720
    have u202z := (hx.1 _ (by rw [u202]; decide)).1.trans u202
    have t721z := (hx.1 _ (by rw [t721]; decide)).1.trans t721
    have t722z := (hx.1 _ (by rw [t722]; decide)).1.trans t722
    obtain ⟨b1, f1, t1⟩ := hx.bft u193 u721 u722
    have yf1 : qz_I g 721 (1 : Int).toNat = rz_f h 1 := congrFun f1 1
    have yt1 : qz_I g 722 (1 : Int).toNat = rz_t h 1 := congrFun t1 1
    have yl : qz_I g 193 (qz_I g 721 (1 : Int).toNat).toNat = rz_b h (rz_f h 1) := by rw [yf1]; exact congrFun b1 _
    refine ez_go (n := 3) (pc' := 38) (L' := [(2, .inr (.inr none)), (1, .inl (pt)), (0, .inr (.inr (some (720))))]) (st' := [.inl (-1), .inl (pt)]) rfl ?_
    refine ez_icmp rfl rfl ⟨by first | omega | exact (sz_i32 _).1, by first | omega | exact (sz_i32 _).2⟩ ⟨by first | omega | exact (sz_i32 _).1, by first | omega | exact (sz_i32 _).2⟩ (fun (c9 : (pt) = (-1)) => ?_) (fun (c9 : ¬((pt) = (-1))) => ?_)
    · skip
      refine ez_go (n := 1) (pc' := 63) (L' := [(2, .inr (.inr none)), (1, .inl (pt)), (0, .inr (.inr (some (720))))]) (st' := [.inl (-1)]) rfl ?_
      exact ez_retI rfl rfl (kN g τ1 hB1 hx (fun w => by obtain ⟨w1, w2, w3, w4⟩ := w; exact w2 (rz_rw_n hn9)))
    · skip
      refine ez_go (n := 1) (pc' := 42) (L' := [(2, .inr (.inr none)), (1, .inl (pt)), (0, .inr (.inr (some (720))))]) (st' := [.inr (.inr none)]) rfl ?_
      refine ez_null0 rfl rfl ?_
      refine ez_go (n := 1) (pc' := 63) (L' := [(2, .inr (.inr none)), (1, .inl (pt)), (0, .inr (.inr (some (720))))]) (st' := [.inl (-1)]) rfl ?_
      exact ez_retI rfl rfl (kN g τ1 hB1 hx (fun w => by obtain ⟨w1, w2, w3, w4⟩ := w; exact w2 (rz_rw_n hn9)))
  · skip
    have u720z := (hx.1 _ (by rw [u720]; decide)).1.trans u720
    have u202z := (hx.1 _ (by rw [u202]; decide)).1.trans u202
    have t721z := (hx.1 _ (by rw [t721]; decide)).1.trans t721
    have t722z := (hx.1 _ (by rw [t722]; decide)).1.trans t722
    obtain ⟨b1, f1, t1⟩ := hx.bft u193 u721 u722
    have yf1 : qz_I g 721 (1 : Int).toNat = rz_f h 1 := congrFun f1 1
    have yt1 : qz_I g 722 (1 : Int).toNat = rz_t h 1 := congrFun t1 1
    have yl : qz_I g 193 (qz_I g 721 (1 : Int).toNat).toNat = rz_b h (rz_f h 1) := by rw [yf1]; exact congrFun b1 _
    refine ez_go (n := 3) (pc' := 38) (L' := [(2, .inr (.inr (some (h.1)))), (1, .inl (pt)), (0, .inr (.inr (some (720))))]) (st' := [.inl (-1), .inl (pt)]) rfl ?_
    refine ez_icmp rfl rfl ⟨by first | omega | exact (sz_i32 _).1, by first | omega | exact (sz_i32 _).2⟩ ⟨by first | omega | exact (sz_i32 _).1, by first | omega | exact (sz_i32 _).2⟩ (fun (c10 : (pt) = (-1)) => ?_) (fun (c10 : ¬((pt) = (-1))) => ?_)
    · skip
      refine ez_go (n := 1) (pc' := 63) (L' := [(2, .inr (.inr (some (h.1)))), (1, .inl (pt)), (0, .inr (.inr (some (720))))]) (st' := [.inl (-1)]) rfl ?_
      exact ez_retI rfl rfl (kN g τ1 hB1 hx (fun w => by obtain ⟨w1, w2, w3, w4⟩ := w; rw [← ept] at w1; omega))
    · skip
      refine ez_go (n := 1) (pc' := 42) (L' := [(2, .inr (.inr (some (h.1)))), (1, .inl (pt)), (0, .inr (.inr (some (720))))]) (st' := [.inr (.inr (some (h.1)))]) rfl ?_
      refine ez_null1 rfl ?_
      refine ez_go (n := 1) (pc' := 46) (L' := [(2, .inr (.inr (some (h.1)))), (1, .inl (pt)), (0, .inr (.inr (some (720))))]) (st' := [.inr (.inr (some (720)))]) rfl ?_
      refine ez_gC (p := 722) (tg := 54) hB1 u720z rfl rfl tq_52 rfl rfl (fun (t722 : _ = 54) => ?_)
      refine ez_go (n := 1) (pc' := 50) (L' := [(2, .inr (.inr (some (h.1)))), (1, .inl (pt)), (0, .inr (.inr (some (720))))]) (st' := [.inl (1), .inr (.inr (some (722)))]) rfl ?_
      have n12 : 7 ≤ qz_N g 722 ∧ qz_N g 722 ≤ 7 := ez_len hB1 t722 tq_54 rfl
      refine ez_aI hB1 t722 rfl tq_54 rfl rfl (by omega) (by omega) (fun (b11 : 0 ≤ qz_I g 722 (1 : Int).toNat) (b11' : qz_I g 722 (1 : Int).toNat ≤ 4096) => ?_)
      refine ez_go (n := 1) (pc' := 52) (L' := [(2, .inr (.inr (some (h.1)))), (1, .inl (pt)), (0, .inr (.inr (some (720))))]) (st' := [.inr (.inr (some (720))), .inl (qz_I g 722 (1 : Int).toNat)]) rfl ?_
      refine ez_gC (p := 721) (tg := 53) hB1 u720z rfl rfl tq_52 rfl rfl (fun (t721 : _ = 53) => ?_)
      refine ez_go (n := 1) (pc' := 56) (L' := [(2, .inr (.inr (some (h.1)))), (1, .inl (pt)), (0, .inr (.inr (some (720))))]) (st' := [.inl (1), .inr (.inr (some (721))), .inl (qz_I g 722 (1 : Int).toNat)]) rfl ?_
      have n14 : 7 ≤ qz_N g 721 ∧ qz_N g 721 ≤ 7 := ez_len hB1 t721 tq_53 rfl
      refine ez_aI hB1 t721 rfl tq_53 rfl rfl (by omega) (by omega) (fun (b13 : 0 ≤ qz_I g 721 (1 : Int).toNat) (b13' : qz_I g 721 (1 : Int).toNat ≤ 4096) => ?_)
      refine ez_go (n := 2) (pc' := 59) (L' := [(2, .inr (.inr (some (h.1)))), (1, .inl (pt)), (0, .inr (.inr (some (720))))]) (st' := [.inl (1), .inl ((qz_I g 722 (1 : Int).toNat) - (qz_I g 721 (1 : Int).toNat))]) rfl ?_
      refine ez_icmp rfl rfl ⟨by first | omega | exact (sz_i32 _).1, by first | omega | exact (sz_i32 _).2⟩ ⟨by first | omega | exact (sz_i32 _).1, by first | omega | exact (sz_i32 _).2⟩ (fun (c15 : ((qz_I g 722 (1 : Int).toNat) - (qz_I g 721 (1 : Int).toNat)) = (1)) => ?_) (fun (c15 : ¬(((qz_I g 722 (1 : Int).toNat) - (qz_I g 721 (1 : Int).toNat)) = (1))) => ?_)
      · skip
        refine ez_go (n := 1) (pc' := 65) (L' := [(2, .inr (.inr (some (h.1)))), (1, .inl (pt)), (0, .inr (.inr (some (720))))]) (st' := [.inr (.inr (some (720)))]) rfl ?_
        refine ez_gC (p := 193) (tg := 45) hB1 u720z rfl rfl tq_52 rfl rfl (fun (t193 : _ = 45) => ?_)
        refine ez_go (n := 1) (pc' := 69) (L' := [(2, .inr (.inr (some (h.1)))), (1, .inl (pt)), (0, .inr (.inr (some (720))))]) (st' := [.inr (.inr (some (720))), .inr (.inr (some (193)))]) rfl ?_
        refine ez_gC (p := 721) (tg := 53) hB1 u720z rfl rfl tq_52 rfl rfl (fun (t721 : _ = 53) => ?_)
        refine ez_go (n := 1) (pc' := 73) (L' := [(2, .inr (.inr (some (h.1)))), (1, .inl (pt)), (0, .inr (.inr (some (720))))]) (st' := [.inl (1), .inr (.inr (some (721))), .inr (.inr (some (193)))]) rfl ?_
        have n17 : 7 ≤ qz_N g 721 ∧ qz_N g 721 ≤ 7 := ez_len hB1 t721 tq_53 rfl
        refine ez_aI hB1 t721 rfl tq_53 rfl rfl (by omega) (by omega) (fun (b16 : 0 ≤ qz_I g 721 (1 : Int).toNat) (b16' : qz_I g 721 (1 : Int).toNat ≤ 4096) => ?_)
        have n19 : 4096 ≤ qz_N g 193 ∧ qz_N g 193 ≤ 4096 := ez_len hB1 t193 tq_45 rfl
        refine ez_aI hB1 t193 rfl tq_45 rfl rfl (by omega) (by omega) (fun (b18 : -128 ≤ qz_I g 193 (qz_I g 721 (1 : Int).toNat).toNat) (b18' : qz_I g 193 (qz_I g 721 (1 : Int).toNat).toNat ≤ 127) => ?_)
        refine ez_go (n := 3) (pc' := 79) (L' := [(3, .inl (qz_I g 193 (qz_I g 721 (1 : Int).toNat).toNat)), (2, .inr (.inr (some (h.1)))), (1, .inl (pt)), (0, .inr (.inr (some (720))))]) (st' := [.inl (67), .inl (qz_I g 193 (qz_I g 721 (1 : Int).toNat).toNat)]) rfl ?_
        refine ez_icmp rfl rfl ⟨by first | omega | exact (sz_i32 _).1, by first | omega | exact (sz_i32 _).2⟩ ⟨by first | omega | exact (sz_i32 _).1, by first | omega | exact (sz_i32 _).2⟩ (fun (c20 : (qz_I g 193 (qz_I g 721 (1 : Int).toNat).toNat) = (67)) => ?_) (fun (c20 : ¬((qz_I g 193 (qz_I g 721 (1 : Int).toNat).toNat) = (67))) => ?_)
        · skip
          refine ez_go (n := 1) (pc' := 103) (L' := [(3, .inl (qz_I g 193 (qz_I g 721 (1 : Int).toNat).toNat)), (2, .inr (.inr (some (h.1)))), (1, .inl (pt)), (0, .inr (.inr (some (720))))]) (st' := [.inr (.inr (some (720)))]) rfl ?_
          refine ez_gC (p := 202) (tg := 48) hB1 u720z rfl rfl tq_52 rfl rfl (fun (t202 : _ = 48) => ?_)
          refine ez_go (n := 3) (pc' := 109) (L' := [(3, .inl (qz_I g 193 (qz_I g 721 (1 : Int).toNat).toNat)), (2, .inr (.inr (some (h.1)))), (1, .inl (pt)), (0, .inr (.inr (some (720))))]) (st' := [.inr (.inr (some (h.1))), .inl (qz_I g 193 (qz_I g 721 (1 : Int).toNat).toNat), .inl (pt), .inr (.inr (some (202)))]) rfl ?_
          obtain ⟨hs1, hi1⟩ := sz_same_ok hB u203 u202 (hx.1 202 (by rw [u202]; decide)).2 (hx.1 203 (by rw [u203]; decide)).2 (fun q hq => (hx.1 q (by rw [hq]; decide)).2) hs hinj
          have c1 : qz_I g 202 1 = qz_I h 202 1 := hx.I (by rw [u202]; decide) 1
          refine ez_cv hB1 t202 rfl rfl rfl tq_48 rfl rfl rfl (rd_tellFold9 hB1 t202 ((hx.1 _ (by rw [u203]; decide)).1.trans u203) hs1 hi1 (by omega) (by omega) (by omega) up (by omega) (by omega) (by omega) (fun g2 J hB2 hJ ht => ez_K0 ?_))
          refine ez_go (n := 1) (pc' := 113) (L' := [(3, .inl (qz_I g 193 (qz_I g 721 (1 : Int).toNat).toNat)), (2, .inr (.inr (some (h.1)))), (1, .inl (pt)), (0, .inr (.inr (some (720))))]) (st' := [.inl (1)]) rfl ?_
          exact ez_retI rfl rfl (kS g2 g τ1 pt J h.1 hB2 hB1 hx (by rw [← yl]; exact hJ) ht ept ⟨vs, rz_rw_s hc1 hc2 hrow, h.1, rfl, up, by rw [hN9, rz_rw_len (rz_rw_s hc1 hc2 hrow)], hel9⟩ ⟨by rw [← ept]; omega, (fun w => by rw [show rz_rw (rz_b h) 18 (rz_f h 2) (rz_t h 2) = some vs from rz_rw_s hc1 hc2 hrow] at w; cases w), by omega, by omega⟩)
        · skip
          refine ez_go (n := 2) (pc' := 85) (L' := [(3, .inl (qz_I g 193 (qz_I g 721 (1 : Int).toNat).toNat)), (2, .inr (.inr (some (h.1)))), (1, .inl (pt)), (0, .inr (.inr (some (720))))]) (st' := [.inl (70), .inl (qz_I g 193 (qz_I g 721 (1 : Int).toNat).toNat)]) rfl ?_
          refine ez_icmp rfl rfl ⟨by first | omega | exact (sz_i32 _).1, by first | omega | exact (sz_i32 _).2⟩ ⟨by first | omega | exact (sz_i32 _).1, by first | omega | exact (sz_i32 _).2⟩ (fun (c21 : (qz_I g 193 (qz_I g 721 (1 : Int).toNat).toNat) = (70)) => ?_) (fun (c21 : ¬((qz_I g 193 (qz_I g 721 (1 : Int).toNat).toNat) = (70))) => ?_)
          · skip
            refine ez_go (n := 1) (pc' := 103) (L' := [(3, .inl (qz_I g 193 (qz_I g 721 (1 : Int).toNat).toNat)), (2, .inr (.inr (some (h.1)))), (1, .inl (pt)), (0, .inr (.inr (some (720))))]) (st' := [.inr (.inr (some (720)))]) rfl ?_
            refine ez_gC (p := 202) (tg := 48) hB1 u720z rfl rfl tq_52 rfl rfl (fun (t202 : _ = 48) => ?_)
            refine ez_go (n := 3) (pc' := 109) (L' := [(3, .inl (qz_I g 193 (qz_I g 721 (1 : Int).toNat).toNat)), (2, .inr (.inr (some (h.1)))), (1, .inl (pt)), (0, .inr (.inr (some (720))))]) (st' := [.inr (.inr (some (h.1))), .inl (qz_I g 193 (qz_I g 721 (1 : Int).toNat).toNat), .inl (pt), .inr (.inr (some (202)))]) rfl ?_
            obtain ⟨hs1, hi1⟩ := sz_same_ok hB u203 u202 (hx.1 202 (by rw [u202]; decide)).2 (hx.1 203 (by rw [u203]; decide)).2 (fun q hq => (hx.1 q (by rw [hq]; decide)).2) hs hinj
            have c1 : qz_I g 202 1 = qz_I h 202 1 := hx.I (by rw [u202]; decide) 1
            refine ez_cv hB1 t202 rfl rfl rfl tq_48 rfl rfl rfl (rd_tellFold9 hB1 t202 ((hx.1 _ (by rw [u203]; decide)).1.trans u203) hs1 hi1 (by omega) (by omega) (by omega) up (by omega) (by omega) (by omega) (fun g2 J hB2 hJ ht => ez_K0 ?_))
            refine ez_go (n := 1) (pc' := 113) (L' := [(3, .inl (qz_I g 193 (qz_I g 721 (1 : Int).toNat).toNat)), (2, .inr (.inr (some (h.1)))), (1, .inl (pt)), (0, .inr (.inr (some (720))))]) (st' := [.inl (1)]) rfl ?_
            exact ez_retI rfl rfl (kS g2 g τ1 pt J h.1 hB2 hB1 hx (by rw [← yl]; exact hJ) ht ept ⟨vs, rz_rw_s hc1 hc2 hrow, h.1, rfl, up, by rw [hN9, rz_rw_len (rz_rw_s hc1 hc2 hrow)], hel9⟩ ⟨by rw [← ept]; omega, (fun w => by rw [show rz_rw (rz_b h) 18 (rz_f h 2) (rz_t h 2) = some vs from rz_rw_s hc1 hc2 hrow] at w; cases w), by omega, by omega⟩)
          · skip
            refine ez_go (n := 2) (pc' := 91) (L' := [(3, .inl (qz_I g 193 (qz_I g 721 (1 : Int).toNat).toNat)), (2, .inr (.inr (some (h.1)))), (1, .inl (pt)), (0, .inr (.inr (some (720))))]) (st' := [.inl (83), .inl (qz_I g 193 (qz_I g 721 (1 : Int).toNat).toNat)]) rfl ?_
            refine ez_icmp rfl rfl ⟨by first | omega | exact (sz_i32 _).1, by first | omega | exact (sz_i32 _).2⟩ ⟨by first | omega | exact (sz_i32 _).1, by first | omega | exact (sz_i32 _).2⟩ (fun (c22 : (qz_I g 193 (qz_I g 721 (1 : Int).toNat).toNat) = (83)) => ?_) (fun (c22 : ¬((qz_I g 193 (qz_I g 721 (1 : Int).toNat).toNat) = (83))) => ?_)
            · skip
              refine ez_go (n := 1) (pc' := 103) (L' := [(3, .inl (qz_I g 193 (qz_I g 721 (1 : Int).toNat).toNat)), (2, .inr (.inr (some (h.1)))), (1, .inl (pt)), (0, .inr (.inr (some (720))))]) (st' := [.inr (.inr (some (720)))]) rfl ?_
              refine ez_gC (p := 202) (tg := 48) hB1 u720z rfl rfl tq_52 rfl rfl (fun (t202 : _ = 48) => ?_)
              refine ez_go (n := 3) (pc' := 109) (L' := [(3, .inl (qz_I g 193 (qz_I g 721 (1 : Int).toNat).toNat)), (2, .inr (.inr (some (h.1)))), (1, .inl (pt)), (0, .inr (.inr (some (720))))]) (st' := [.inr (.inr (some (h.1))), .inl (qz_I g 193 (qz_I g 721 (1 : Int).toNat).toNat), .inl (pt), .inr (.inr (some (202)))]) rfl ?_
              obtain ⟨hs1, hi1⟩ := sz_same_ok hB u203 u202 (hx.1 202 (by rw [u202]; decide)).2 (hx.1 203 (by rw [u203]; decide)).2 (fun q hq => (hx.1 q (by rw [hq]; decide)).2) hs hinj
              have c1 : qz_I g 202 1 = qz_I h 202 1 := hx.I (by rw [u202]; decide) 1
              refine ez_cv hB1 t202 rfl rfl rfl tq_48 rfl rfl rfl (rd_tellFold9 hB1 t202 ((hx.1 _ (by rw [u203]; decide)).1.trans u203) hs1 hi1 (by omega) (by omega) (by omega) up (by omega) (by omega) (by omega) (fun g2 J hB2 hJ ht => ez_K0 ?_))
              refine ez_go (n := 1) (pc' := 113) (L' := [(3, .inl (qz_I g 193 (qz_I g 721 (1 : Int).toNat).toNat)), (2, .inr (.inr (some (h.1)))), (1, .inl (pt)), (0, .inr (.inr (some (720))))]) (st' := [.inl (1)]) rfl ?_
              exact ez_retI rfl rfl (kS g2 g τ1 pt J h.1 hB2 hB1 hx (by rw [← yl]; exact hJ) ht ept ⟨vs, rz_rw_s hc1 hc2 hrow, h.1, rfl, up, by rw [hN9, rz_rw_len (rz_rw_s hc1 hc2 hrow)], hel9⟩ ⟨by rw [← ept]; omega, (fun w => by rw [show rz_rw (rz_b h) 18 (rz_f h 2) (rz_t h 2) = some vs from rz_rw_s hc1 hc2 hrow] at w; cases w), by omega, by omega⟩)
            · skip
              refine ez_go (n := 2) (pc' := 97) (L' := [(3, .inl (qz_I g 193 (qz_I g 721 (1 : Int).toNat).toNat)), (2, .inr (.inr (some (h.1)))), (1, .inl (pt)), (0, .inr (.inr (some (720))))]) (st' := [.inl (84), .inl (qz_I g 193 (qz_I g 721 (1 : Int).toNat).toNat)]) rfl ?_
              refine ez_icmp rfl rfl ⟨by first | omega | exact (sz_i32 _).1, by first | omega | exact (sz_i32 _).2⟩ ⟨by first | omega | exact (sz_i32 _).1, by first | omega | exact (sz_i32 _).2⟩ (fun (c23 : (qz_I g 193 (qz_I g 721 (1 : Int).toNat).toNat) = (84)) => ?_) (fun (c23 : ¬((qz_I g 193 (qz_I g 721 (1 : Int).toNat).toNat) = (84))) => ?_)
              · skip
                refine ez_go (n := 1) (pc' := 103) (L' := [(3, .inl (qz_I g 193 (qz_I g 721 (1 : Int).toNat).toNat)), (2, .inr (.inr (some (h.1)))), (1, .inl (pt)), (0, .inr (.inr (some (720))))]) (st' := [.inr (.inr (some (720)))]) rfl ?_
                refine ez_gC (p := 202) (tg := 48) hB1 u720z rfl rfl tq_52 rfl rfl (fun (t202 : _ = 48) => ?_)
                refine ez_go (n := 3) (pc' := 109) (L' := [(3, .inl (qz_I g 193 (qz_I g 721 (1 : Int).toNat).toNat)), (2, .inr (.inr (some (h.1)))), (1, .inl (pt)), (0, .inr (.inr (some (720))))]) (st' := [.inr (.inr (some (h.1))), .inl (qz_I g 193 (qz_I g 721 (1 : Int).toNat).toNat), .inl (pt), .inr (.inr (some (202)))]) rfl ?_
                obtain ⟨hs1, hi1⟩ := sz_same_ok hB u203 u202 (hx.1 202 (by rw [u202]; decide)).2 (hx.1 203 (by rw [u203]; decide)).2 (fun q hq => (hx.1 q (by rw [hq]; decide)).2) hs hinj
                have c1 : qz_I g 202 1 = qz_I h 202 1 := hx.I (by rw [u202]; decide) 1
                refine ez_cv hB1 t202 rfl rfl rfl tq_48 rfl rfl rfl (rd_tellFold9 hB1 t202 ((hx.1 _ (by rw [u203]; decide)).1.trans u203) hs1 hi1 (by omega) (by omega) (by omega) up (by omega) (by omega) (by omega) (fun g2 J hB2 hJ ht => ez_K0 ?_))
                refine ez_go (n := 1) (pc' := 113) (L' := [(3, .inl (qz_I g 193 (qz_I g 721 (1 : Int).toNat).toNat)), (2, .inr (.inr (some (h.1)))), (1, .inl (pt)), (0, .inr (.inr (some (720))))]) (st' := [.inl (1)]) rfl ?_
                exact ez_retI rfl rfl (kS g2 g τ1 pt J h.1 hB2 hB1 hx (by rw [← yl]; exact hJ) ht ept ⟨vs, rz_rw_s hc1 hc2 hrow, h.1, rfl, up, by rw [hN9, rz_rw_len (rz_rw_s hc1 hc2 hrow)], hel9⟩ ⟨by rw [← ept]; omega, (fun w => by rw [show rz_rw (rz_b h) 18 (rz_f h 2) (rz_t h 2) = some vs from rz_rw_s hc1 hc2 hrow] at w; cases w), by omega, by omega⟩)
              · skip
                refine ez_go (n := 1) (pc' := 101) (L' := [(3, .inl (qz_I g 193 (qz_I g 721 (1 : Int).toNat).toNat)), (2, .inr (.inr (some (h.1)))), (1, .inl (pt)), (0, .inr (.inr (some (720))))]) (st' := [.inl (-1)]) rfl ?_
                exact ez_retI rfl rfl (kN g τ1 hB1 hx (fun w => by obtain ⟨w1, w2, w3, w4⟩ := w; rw [← ept] at w1; omega))
      · skip
        refine ez_go (n := 1) (pc' := 63) (L' := [(2, .inr (.inr (some (h.1)))), (1, .inl (pt)), (0, .inr (.inr (some (720))))]) (st' := [.inl (-1)]) rfl ?_
        exact ez_retI rfl rfl (kN g τ1 hB1 hx (fun w => by obtain ⟨w1, w2, w3, w4⟩ := w; rw [← ept] at w1; omega))
end EzTe
section EzTs
variable {d : Nat} {h : cz_H} {τ : Nat → Nat} {Q : cz_F → Prop}
theorem rd_takeSpecial_b9 {g : cz_H} {τ1 : Nat → Nat} {r : Nat} (hB : ez_B τ h) (u193 : τ 193 = 45) (u202 : τ 202 = 48) (u203 : τ 203 = 49) (u720 : τ 720 = 52) (u721 : τ 721 = 53) (u722 : τ 722 = 54) (hs : sz_ok h) (hinj : sz_inj h) (hft : ∀ k, 0 ≤ k → k ≤ 4 → rz_f h k ≤ rz_t h k) (hn : qz_I h 202 1 + 2 ≤ 513) (hZ : nz_Z h) (hz27 : ∀ s l, nzL s = some l → τ s = 27 ∧ τ (qz_P h s 0) = 28) (ts1 : τ 1 = 27) (hr1 : h.1 + 4 ≤ 600192) (hr2 : h.2.1 + 59 ≤ 7302232) (hBg : ez_B τ1 g) (XB : ez_xt τ h τ1 g 4 59) (tr : τ1 r = 6) (z0 : τ r = 0) (er : r = h.1) (hl1 : qz_I g r 1 = 0 ↔ ¬ rz_ro (rz_b h) (rz_f h 1) (rz_t h 1)) (hl2 : qz_I g r 2 = 0 ↔ ¬ rz_ro (rz_b h) (rz_f h 2) (rz_t h 2)) (hl3 : qz_I g r 3 = 0 ↔ ¬ rz_ro (rz_b h) (rz_f h 3) (rz_t h 3)) (hw1 : qz_I g r 1 ≠ 0 → rw5 τ1 g (qz_I g r 1) (rz_rn (rz_b h) (rz_f h 1) (rz_t h 1))) (hw2 : qz_I g r 2 ≠ 0 → rw5 τ1 g (qz_I g r 2) (rz_rn (rz_b h) (rz_f h 2) (rz_t h 2))) (hw3 : qz_I g r 3 ≠ 0 → rw5 τ1 g (qz_I g r 3) (rz_rn (rz_b h) (rz_f h 3) (rz_t h 3))) (z4 : qz_I g r 4 = 0) {O : Nat → Int} {SP : Int → List spz} (hSP : ∀ x k, 0 ≤ x → x ≤ 1114111 → sz_at h x k → sC τ h (fun q => τ q = 6 ∧ O q = x) (SP x) (qz_I h (sz_p h k) 8)) (kN : ∀ g τ1, ez_B τ1 g → ez_xt τ h τ1 g 4 59 → ¬ rz_G1 (rz_b h) (rz_f h) (rz_t h) → Q (.inl (some (ez_v (.inl (-1)))), g)) (kS : ∀ g g1 h1 τ1 p (r : Nat) (n : spz), ez_B τ1 g → ez_B τ1 h1 → ez_B τ1 g1 → ez_xt τ h τ1 h1 4 59 → τ r = 0 → τ1 r = 6 → nod τ1 h1 r n → qz_I h1 r 4 = 0 → n = (nz_cd (rz_b h) (rz_t h 4) (rz_ct (rz_b h) (rz_f h 4) (rz_t h 4 - rz_f h 4).toNat (rz_f h 4)) (rz_f h 4) 0, rz_rn (rz_b h) (rz_f h 1) (rz_t h 1), rz_rn (rz_b h) (rz_f h 2) (rz_t h 2), rz_rn (rz_b h) (rz_f h 3) (rz_t h 3)) → p = rz_code (rz_b h) (rz_f h 0) (rz_t h 0) → ((SP p = [] ∧ sz_toldR τ1 h1 g1 p p (sz_RS 8 ((r : Int) + 1)) ∧ g = g1) ∨ (sz_toldR τ1 h1 g1 p p (sz_RS 9 0) ∧ ∃ t : Nat, (τ1 t = 6 ∧ (τ t = 6 ∧ O t = p)) ∧ (∀ y, y ≠ t → g.2.2 y = g1.2.2 y) ∧ g.1 = g1.1 ∧ g.2.1 = g1.2.1 ∧ ∀ k, sz_at h1 p k → sC τ1 g (fun y => (τ y = 6 ∧ O y = p) ∨ y = r) (SP p ++ [n]) (qz_I h1 (sz_p h1 k) 8))) → rz_G1 (rz_b h) (rz_f h) (rz_t h) → Q (.inl (some (ez_v (.inl 1))), g)) : ez_W (d + 7) cm_179 35 [(1, .inr (.inr (some (r)))), (0, .inr (.inr (some (720))))] [] g Q := by
  have n721 : 7 ≤ qz_N h 721 ∧ qz_N h 721 ≤ 7 := ez_len hB u721 tq_53 rfl
  have n722 : 7 ≤ qz_N h 722 ∧ qz_N h 722 ≤ 7 := ez_len hB u722 tq_54 rfl
  have qh0 := hft 0 (by omega) (by omega)
  have qf0 : 0 ≤ rz_f h 0 ∧ rz_f h 0 ≤ 4096 := ez_aB (i := 0) hB u721 tq_53 rfl rfl (by decide) (by omega) (by omega)
  have qt0 : 0 ≤ rz_t h 0 ∧ rz_t h 0 ≤ 4096 := ez_aB (i := 0) hB u722 tq_54 rfl rfl (by decide) (by omega) (by omega)
  have qh1 := hft 1 (by omega) (by omega)
  have qf1 : 0 ≤ rz_f h 1 ∧ rz_f h 1 ≤ 4096 := ez_aB (i := 1) hB u721 tq_53 rfl rfl (by decide) (by omega) (by omega)
  have qt1 : 0 ≤ rz_t h 1 ∧ rz_t h 1 ≤ 4096 := ez_aB (i := 1) hB u722 tq_54 rfl rfl (by decide) (by omega) (by omega)
  have qh2 := hft 2 (by omega) (by omega)
  have qf2 : 0 ≤ rz_f h 2 ∧ rz_f h 2 ≤ 4096 := ez_aB (i := 2) hB u721 tq_53 rfl rfl (by decide) (by omega) (by omega)
  have qt2 : 0 ≤ rz_t h 2 ∧ rz_t h 2 ≤ 4096 := ez_aB (i := 2) hB u722 tq_54 rfl rfl (by decide) (by omega) (by omega)
  have qh3 := hft 3 (by omega) (by omega)
  have qf3 : 0 ≤ rz_f h 3 ∧ rz_f h 3 ≤ 4096 := ez_aB (i := 3) hB u721 tq_53 rfl rfl (by decide) (by omega) (by omega)
  have qt3 : 0 ≤ rz_t h 3 ∧ rz_t h 3 ≤ 4096 := ez_aB (i := 3) hB u722 tq_54 rfl rfl (by decide) (by omega) (by omega)
  have qh4 := hft 4 (by omega) (by omega)
  have qf4 : 0 ≤ rz_f h 4 ∧ rz_f h 4 ≤ 4096 := ez_aB (i := 4) hB u721 tq_53 rfl rfl (by decide) (by omega) (by omega)
  have qt4 : 0 ≤ rz_t h 4 ∧ rz_t h 4 ≤ 4096 := ez_aB (i := 4) hB u722 tq_54 rfl rfl (by decide) (by omega) (by omega)
  have t720 := (XB.1 _ (by rw [u720]; decide)).1.trans u720
  have t202 := (XB.1 _ (by rw [u202]; decide)).1.trans u202
  have t721 := (XB.1 _ (by rw [u721]; decide)).1.trans u721
  have t722 := (XB.1 _ (by rw [u722]; decide)).1.trans u722
  have t193 := (XB.1 _ (by rw [u193]; decide)).1.trans u193
  have t203 := (XB.1 _ (by rw [u203]; decide)).1.trans u203
  refine ez_go (n := 3) (pc' := 38) (L' := [(1, .inr (.inr (some (r)))), (0, .inr (.inr (some (720))))]) (st' := [.inr (.inr (some (720))), .inr (.inr (some (720))), .inr (.inr (some (r)))]) rfl ?_
  refine ez_gC (p := 721) (tg := 53) hBg t720 rfl rfl tq_52 rfl rfl (fun (t721 : _ = 53) => ?_)
  refine ez_go (n := 1) (pc' := 42) (L' := [(1, .inr (.inr (some (r)))), (0, .inr (.inr (some (720))))]) (st' := [.inl (4), .inr (.inr (some (721))), .inr (.inr (some (720))), .inr (.inr (some (r)))]) rfl ?_
  have n2 : 7 ≤ qz_N g 721 ∧ qz_N g 721 ≤ 7 := ez_len hBg t721 tq_53 rfl
  refine ez_aI hBg t721 rfl tq_53 rfl rfl (by omega) (by omega) (fun (b1 : 0 ≤ qz_I g 721 (4 : Int).toNat) (b1' : qz_I g 721 (4 : Int).toNat ≤ 4096) => ?_)
  refine ez_go (n := 1) (pc' := 44) (L' := [(1, .inr (.inr (some (r)))), (0, .inr (.inr (some (720))))]) (st' := [.inr (.inr (some (720))), .inl (qz_I g 721 (4 : Int).toNat), .inr (.inr (some (720))), .inr (.inr (some (r)))]) rfl ?_
  refine ez_gC (p := 722) (tg := 54) hBg t720 rfl rfl tq_52 rfl rfl (fun (t722 : _ = 54) => ?_)
  refine ez_go (n := 1) (pc' := 48) (L' := [(1, .inr (.inr (some (r)))), (0, .inr (.inr (some (720))))]) (st' := [.inl (4), .inr (.inr (some (722))), .inl (qz_I g 721 (4 : Int).toNat), .inr (.inr (some (720))), .inr (.inr (some (r)))]) rfl ?_
  have n4 : 7 ≤ qz_N g 722 ∧ qz_N g 722 ≤ 7 := ez_len hBg t722 tq_54 rfl
  refine ez_aI hBg t722 rfl tq_54 rfl rfl (by omega) (by omega) (fun (b3 : 0 ≤ qz_I g 722 (4 : Int).toNat) (b3' : qz_I g 722 (4 : Int).toNat ≤ 4096) => ?_)
  obtain ⟨ab5, af5, at5⟩ := XB.bft u193 u721 u722
  have zf5 : qz_I g 721 (4 : Int).toNat = rz_f h 4 := congrFun af5 4
  have zt5 : qz_I g 722 (4 : Int).toNat = rz_t h 4 := congrFun at5 4
  have hz5 : nz_Z g := nz_Z_xt hZ hz27 XB
  refine ez_cv hBg t720 rfl rfl rfl tq_52 rfl rfl rfl (rd_readConditions hBg hz5 ((XB.1 1 (by rw [ts1]; decide)).1.trans ts1) t720 (by omega) (by omega) (by omega) (ez_K1 ?_))
  obtain ⟨v5, ev5⟩ : ∃ v, v = nz_cd (rz_b h) (rz_t h 4) (rz_ct (rz_b h) (rz_f h 4) (rz_t h 4 - rz_f h 4).toNat (rz_f h 4)) (rz_f h 4) 0 := ⟨_, rfl⟩
  have vb5 : -1 ≤ v5 ∧ v5 ≤ 511 := by rw [ev5]; exact nz_cd_bd _ _ _ _ _ (by omega) (by omega)
  rw [ab5, zf5, zt5, ← ev5]
  refine ez_pf hBg tr rfl rfl tq_6 rfl rfl rfl rfl (ez_vdI rfl rfl (by omega) (by omega)) (fun hB6 w7 => ?_)
  have qk1 : qz_I (dz_put g r 0 (ez_v (.inl (v5)))) r 1 = qz_I g r 1 := ez_put_I (fun w => absurd w.2 (by decide))
  have qk2 : qz_I (dz_put g r 0 (ez_v (.inl (v5)))) r 2 = qz_I g r 2 := ez_put_I (fun w => absurd w.2 (by decide))
  have qk3 : qz_I (dz_put g r 0 (ez_v (.inl (v5)))) r 3 = qz_I g r 3 := ez_put_I (fun w => absurd w.2 (by decide))
  have qk0 : qz_I (dz_put g r 0 (ez_v (.inl (v5)))) r 0 = v5 := w7.trans (rz_rd ⟨by omega, by omega⟩)
  refine ez_go (n := 2) (pc' := 57) (L' := [(1, .inr (.inr (some (r)))), (0, .inr (.inr (some (720))))]) (st' := [.inr (.inr (some (720))), .inr (.inr (some (720)))]) rfl ?_
  refine ez_gC (p := 721) (tg := 53) hB6 t720 rfl rfl tq_52 rfl rfl (fun (t721 : _ = 53) => ?_)
  refine ez_go (n := 1) (pc' := 61) (L' := [(1, .inr (.inr (some (r)))), (0, .inr (.inr (some (720))))]) (st' := [.inl (0), .inr (.inr (some (721))), .inr (.inr (some (720)))]) rfl ?_
  have n9 : 7 ≤ qz_N (dz_put g r 0 (ez_v (.inl (v5)))) 721 ∧ qz_N (dz_put g r 0 (ez_v (.inl (v5)))) 721 ≤ 7 := ez_len hB6 t721 tq_53 rfl
  refine ez_aI hB6 t721 rfl tq_53 rfl rfl (by omega) (by omega) (fun (b8 : 0 ≤ qz_I (dz_put g r 0 (ez_v (.inl (v5)))) 721 (0 : Int).toNat) (b8' : qz_I (dz_put g r 0 (ez_v (.inl (v5)))) 721 (0 : Int).toNat ≤ 4096) => ?_)
  refine ez_go (n := 1) (pc' := 63) (L' := [(1, .inr (.inr (some (r)))), (0, .inr (.inr (some (720))))]) (st' := [.inr (.inr (some (720))), .inl (qz_I (dz_put g r 0 (ez_v (.inl (v5)))) 721 (0 : Int).toNat), .inr (.inr (some (720)))]) rfl ?_
  refine ez_gC (p := 722) (tg := 54) hB6 t720 rfl rfl tq_52 rfl rfl (fun (t722 : _ = 54) => ?_)
  refine ez_go (n := 1) (pc' := 67) (L' := [(1, .inr (.inr (some (r)))), (0, .inr (.inr (some (720))))]) (st' := [.inl (0), .inr (.inr (some (722))), .inl (qz_I (dz_put g r 0 (ez_v (.inl (v5)))) 721 (0 : Int).toNat), .inr (.inr (some (720)))]) rfl ?_
  have n11 : 7 ≤ qz_N (dz_put g r 0 (ez_v (.inl (v5)))) 722 ∧ qz_N (dz_put g r 0 (ez_v (.inl (v5)))) 722 ≤ 7 := ez_len hB6 t722 tq_54 rfl
  refine ez_aI hB6 t722 rfl tq_54 rfl rfl (by omega) (by omega) (fun (b10 : 0 ≤ qz_I (dz_put g r 0 (ez_v (.inl (v5)))) 722 (0 : Int).toNat) (b10' : qz_I (dz_put g r 0 (ez_v (.inl (v5)))) 722 (0 : Int).toNat ≤ 4096) => ?_)
  have XF13 := XB.fr (show ez_fr (ez_one r) g (dz_put g r 0 (ez_v (.inl (v5)))) from ((ez_fr.refl (ez_one r) g).put (show Nat.beq r r = true from Nat.beq_refl _) _ _)) z0
  obtain ⟨ab12, af12, at12⟩ := XF13.bft u193 u721 u722
  have zf12 : qz_I (dz_put g r 0 (ez_v (.inl (v5)))) 721 (0 : Int).toNat = rz_f h 0 := congrFun af12 0
  have zt12 : qz_I (dz_put g r 0 (ez_v (.inl (v5)))) 722 (0 : Int).toNat = rz_t h 0 := congrFun at12 0
  have xb12 := rz_code_bd (rz_b (dz_put g r 0 (ez_v (.inl (v5))))) (qz_I (dz_put g r 0 (ez_v (.inl (v5)))) 721 (0 : Int).toNat) (qz_I (dz_put g r 0 (ez_v (.inl (v5)))) 722 (0 : Int).toNat)
  refine ez_cv hB6 t720 rfl rfl rfl tq_52 rfl rfl rfl (rd_readCode hB6 t720 (by omega) (by omega) (by omega) (ez_K1 ?_))
  obtain ⟨pt, ept⟩ : ∃ pt, pt = rz_code (rz_b h) (rz_f h 0) (rz_t h 0) := ⟨_, rfl⟩
  rw [ab12, zf12, zt12, ← ept] at xb12 ⊢
  refine ez_go (n := 3) (pc' := 74) (L' := [(2, .inl (pt)), (1, .inr (.inr (some (r)))), (0, .inr (.inr (some (720))))]) (st' := [.inl (-1), .inl (pt)]) rfl ?_
  refine ez_icmp rfl rfl ⟨by first | omega | exact (sz_i32 _).1, by first | omega | exact (sz_i32 _).2⟩ ⟨by first | omega | exact (sz_i32 _).1, by first | omega | exact (sz_i32 _).2⟩ (fun (c14 : (pt) = (-1)) => ?_) (fun (c14 : ¬((pt) = (-1))) => ?_)
  · skip
    refine ez_go (n := 1) (pc' := 86) (L' := [(2, .inl (pt)), (1, .inr (.inr (some (r)))), (0, .inr (.inr (some (720))))]) (st' := [.inl (-1)]) rfl ?_
    exact ez_retI rfl rfl (kN (dz_put g r 0 (ez_v (.inl (v5)))) τ1 hB6 (XF13.mono (by omega) (by omega)) (fun w => by obtain ⟨w0, w1, w2, w3, w4⟩ := w; unfold rz_CD at w4; rw [← ept] at w0; rw [← ev5] at w4; first | omega | exact hl1.mp (by omega) w1 | exact hl2.mp (by omega) w2 | exact hl3.mp (by omega) w3))
  · skip
    refine ez_go (n := 1) (pc' := 78) (L' := [(2, .inl (pt)), (1, .inr (.inr (some (r)))), (0, .inr (.inr (some (720))))]) (st' := [.inr (.inr (some (r)))]) rfl ?_
    refine ez_gI hB6 tr rfl rfl tq_6 rfl rfl (fun (b15 : -2147483648 ≤ qz_I (dz_put g r 0 (ez_v (.inl (v5)))) r 0) (b15' : qz_I (dz_put g r 0 (ez_v (.inl (v5)))) r 0 ≤ 2147483647) => ?_)
    refine ez_go (n := 1) (pc' := 82) (L' := [(2, .inl (pt)), (1, .inr (.inr (some (r)))), (0, .inr (.inr (some (720))))]) (st' := [.inl (-1), .inl (qz_I (dz_put g r 0 (ez_v (.inl (v5)))) r 0)]) rfl ?_
    refine ez_icmp rfl rfl ⟨by first | omega | exact (sz_i32 _).1, by first | omega | exact (sz_i32 _).2⟩ ⟨by first | omega | exact (sz_i32 _).1, by first | omega | exact (sz_i32 _).2⟩ (fun (c16 : (qz_I (dz_put g r 0 (ez_v (.inl (v5)))) r 0) ≠ (-1)) => ?_) (fun (c16 : ¬((qz_I (dz_put g r 0 (ez_v (.inl (v5)))) r 0) ≠ (-1))) => ?_)
    · skip
      refine ez_go (n := 1) (pc' := 88) (L' := [(2, .inl (pt)), (1, .inr (.inr (some (r)))), (0, .inr (.inr (some (720))))]) (st' := [.inr (.inr (some (r)))]) rfl ?_
      refine ez_gN hB6 tr rfl rfl tq_6 rfl rfl (fun (t17 : qz_I (dz_put g r 0 (ez_v (.inl (v5)))) r 1 = 0) => ?_) (fun (t17 : _ = 5) (t17' : 1 ≤ qz_I (dz_put g r 0 (ez_v (.inl (v5)))) r 1) => ?_)
      · skip
        refine ez_null0 rfl rfl ?_
        refine ez_go (n := 1) (pc' := 109) (L' := [(2, .inl (pt)), (1, .inr (.inr (some (r)))), (0, .inr (.inr (some (720))))]) (st' := [.inl (-1)]) rfl ?_
        exact ez_retI rfl rfl (kN (dz_put g r 0 (ez_v (.inl (v5)))) τ1 hB6 (XF13.mono (by omega) (by omega)) (fun w => by obtain ⟨w0, w1, w2, w3, w4⟩ := w; unfold rz_CD at w4; rw [← ept] at w0; rw [← ev5] at w4; first | omega | exact hl1.mp (by omega) w1 | exact hl2.mp (by omega) w2 | exact hl3.mp (by omega) w3))
      · skip
        refine ez_null1 rfl ?_
        refine ez_go (n := 1) (pc' := 95) (L' := [(2, .inl (pt)), (1, .inr (.inr (some (r)))), (0, .inr (.inr (some (720))))]) (st' := [.inr (.inr (some (r)))]) rfl ?_
        refine ez_gN hB6 tr rfl rfl tq_6 rfl rfl (fun (t18 : qz_I (dz_put g r 0 (ez_v (.inl (v5)))) r 2 = 0) => ?_) (fun (t18 : _ = 5) (t18' : 1 ≤ qz_I (dz_put g r 0 (ez_v (.inl (v5)))) r 2) => ?_)
        · skip
          refine ez_null0 rfl rfl ?_
          refine ez_go (n := 1) (pc' := 109) (L' := [(2, .inl (pt)), (1, .inr (.inr (some (r)))), (0, .inr (.inr (some (720))))]) (st' := [.inl (-1)]) rfl ?_
          exact ez_retI rfl rfl (kN (dz_put g r 0 (ez_v (.inl (v5)))) τ1 hB6 (XF13.mono (by omega) (by omega)) (fun w => by obtain ⟨w0, w1, w2, w3, w4⟩ := w; unfold rz_CD at w4; rw [← ept] at w0; rw [← ev5] at w4; first | omega | exact hl1.mp (by omega) w1 | exact hl2.mp (by omega) w2 | exact hl3.mp (by omega) w3))
        · skip
          refine ez_null1 rfl ?_
          refine ez_go (n := 1) (pc' := 102) (L' := [(2, .inl (pt)), (1, .inr (.inr (some (r)))), (0, .inr (.inr (some (720))))]) (st' := [.inr (.inr (some (r)))]) rfl ?_
          refine ez_gN hB6 tr rfl rfl tq_6 rfl rfl (fun (t19 : qz_I (dz_put g r 0 (ez_v (.inl (v5)))) r 3 = 0) => ?_) (fun (t19 : _ = 5) (t19' : 1 ≤ qz_I (dz_put g r 0 (ez_v (.inl (v5)))) r 3) => ?_)
          · skip
            refine ez_nonn0 rfl ?_
            refine ez_go (n := 1) (pc' := 109) (L' := [(2, .inl (pt)), (1, .inr (.inr (some (r)))), (0, .inr (.inr (some (720))))]) (st' := [.inl (-1)]) rfl ?_
            exact ez_retI rfl rfl (kN (dz_put g r 0 (ez_v (.inl (v5)))) τ1 hB6 (XF13.mono (by omega) (by omega)) (fun w => by obtain ⟨w0, w1, w2, w3, w4⟩ := w; unfold rz_CD at w4; rw [← ept] at w0; rw [← ev5] at w4; first | omega | exact hl1.mp (by omega) w1 | exact hl2.mp (by omega) w2 | exact hl3.mp (by omega) w3))
          · skip
            refine ez_nonn1 rfl rfl ?_
            refine ez_go (n := 1) (pc' := 111) (L' := [(2, .inl (pt)), (1, .inr (.inr (some (r)))), (0, .inr (.inr (some (720))))]) (st' := [.inr (.inr (some (720)))]) rfl ?_
            refine ez_gC (p := 202) (tg := 48) hB6 t720 rfl rfl tq_52 rfl rfl (fun (t202 : _ = 48) => ?_)
            refine ez_go (n := 2) (pc' := 116) (L' := [(2, .inl (pt)), (1, .inr (.inr (some (r)))), (0, .inr (.inr (some (720))))]) (st' := [.inr (.inr (some (r))), .inl (pt), .inr (.inr (some (202)))]) rfl ?_
            obtain ⟨hs1, hi1⟩ := sz_same_ok hB u203 u202 (XF13.1 202 (by rw [u202]; decide)).2 (XF13.1 203 (by rw [u203]; decide)).2 (fun q hq => (XF13.1 q (by rw [hq]; decide)).2) hs hinj
            have cc1 : qz_I (dz_put g r 0 (ez_v (.inl (v5)))) 202 1 = qz_I h 202 1 := XF13.I (by rw [u202]; decide) 1
            obtain ⟨sm1, sm2, sm3⟩ := sz_same hB u203 u202 (g := (dz_put g r 0 (ez_v (.inl (v5))))) (XF13.1 202 (by rw [u202]; decide)).2 (XF13.1 203 (by rw [u203]; decide)).2 (fun q hq => (XF13.1 q (by rw [hq]; decide)).2)
            have bn := sz_R_n1 hB u202
            have c5 : ∀ y, τ1 y = 5 → τ1 y = 5 ∧ ((dz_put g r 0 (ez_v (.inl (v5))))).2.2 y = g.2.2 y := fun y hy => ⟨hy, qz_put_at _ _ _ _ (fun e => by rw [e, tr] at hy; cases hy)⟩
            have nd : nod τ1 ((dz_put g r 0 (ez_v (.inl (v5))))) r (v5, rz_rn (rz_b h) (rz_f h 1) (rz_t h 1), rz_rn (rz_b h) (rz_f h 2) (rz_t h 2), rz_rn (rz_b h) (rz_f h 3) (rz_t h 3)) := ⟨tr, qk0, by rw [qk1]; exact (hw1 (by omega)).tr c5, by rw [qk2]; exact (hw2 (by omega)).tr c5, by rw [qk3]; exact (hw3 (by omega)).tr c5⟩
            have z49 : qz_I ((dz_put g r 0 (ez_v (.inl (v5))))) r 4 = 0 := (ez_put_I (fun w => absurd w.2 (by decide))).trans z4
            have pt0 : 0 ≤ pt ∧ pt ≤ 1114111 := by omega
            refine ez_cv hB6 t202 rfl rfl rfl tq_48 rfl rfl rfl (rd_tellSpecial9 (P := fun q => τ q = 6 ∧ O q = pt) (L0 := SP pt) hB6 t202 t203 hs1 hi1 (by omega) (by omega) (by omega) tr (by omega) (fun q hq => ?_) nd z49 (fun k hk => ?_) (fun ga gb hBb hBa ht => ez_K0 ?_))
            · have := dz_here_lt (hB.1 q (by rw [hq.1]; decide)).1; omega
            · have k0 := hk.1
              have k1 := hk.2.1
              have hk2 : sz_at h pt k := by
                obtain ⟨d0, d1, d2, d3⟩ := hk
                rw [sm3] at d1 d3
                unfold sz_f at d2 d3
                refine ⟨d0, d1, ?_, fun w => ?_⟩
                · unfold sz_f; rw [← sm2 k d0 (by omega)]; exact d2
                · unfold sz_f; rw [← sm2 (k + 1) (by omega) (by omega)]; exact d3 w
              rw [sm2 k k0 (by omega)]
              exact sC.tr (fun _ _ w => w) (fun q hq => XF13.1 q (by rcases hq with w | w; (· rw [w]; decide); (· rw [w.1]; decide))) (hSP pt k pt0.1 pt0.2 hk2)
            · skip
              refine ez_go (n := 1) (pc' := 120) (L' := [(2, .inl (pt)), (1, .inr (.inr (some (r)))), (0, .inr (.inr (some (720))))]) (st' := [.inl (1)]) rfl ?_
              exact ez_retI rfl rfl (kS gb ga (dz_put g r 0 (ez_v (.inl (v5)))) τ1 pt r _ hBb hB6 hBa (XF13.mono (by omega) (by omega)) z0 tr nd z49 (by rw [ev5]) ept ht ⟨by rw [← ept]; omega, Classical.byContradiction fun w => by have := hl1.mpr w; omega, Classical.byContradiction fun w => by have := hl2.mpr w; omega, Classical.byContradiction fun w => by have := hl3.mpr w; omega, by unfold rz_CD; rw [← ev5]; omega⟩)
    · skip
      refine ez_go (n := 1) (pc' := 86) (L' := [(2, .inl (pt)), (1, .inr (.inr (some (r)))), (0, .inr (.inr (some (720))))]) (st' := [.inl (-1)]) rfl ?_
      exact ez_retI rfl rfl (kN (dz_put g r 0 (ez_v (.inl (v5)))) τ1 hB6 (XF13.mono (by omega) (by omega)) (fun w => by obtain ⟨w0, w1, w2, w3, w4⟩ := w; unfold rz_CD at w4; rw [← ept] at w0; rw [← ev5] at w4; first | omega | exact hl1.mp (by omega) w1 | exact hl2.mp (by omega) w2 | exact hl3.mp (by omega) w3))
theorem rd_takeSpecial9 (hB : ez_B τ h) (u193 : τ 193 = 45) (u202 : τ 202 = 48) (u203 : τ 203 = 49) (u720 : τ 720 = 52) (u721 : τ 721 = 53) (u722 : τ 722 = 54) (hs : sz_ok h) (hinj : sz_inj h) (hft : ∀ k, 0 ≤ k → k ≤ 4 → rz_f h k ≤ rz_t h k) (hn : qz_I h 202 1 + 2 ≤ 513) (hZ : nz_Z h) (hz27 : ∀ s l, nzL s = some l → τ s = 27 ∧ τ (qz_P h s 0) = 28) (ts1 : τ 1 = 27) (hr1 : h.1 + 4 ≤ 600192) (hr2 : h.2.1 + 59 ≤ 7302232) {O : Nat → Int} {SP : Int → List spz} (hSP : ∀ x k, 0 ≤ x → x ≤ 1114111 → sz_at h x k → sC τ h (fun q => τ q = 6 ∧ O q = x) (SP x) (qz_I h (sz_p h k) 8)) (kN : ∀ g τ1, ez_B τ1 g → ez_xt τ h τ1 g 4 59 → ¬ rz_G1 (rz_b h) (rz_f h) (rz_t h) → Q (.inl (some (ez_v (.inl (-1)))), g)) (kS : ∀ g g1 h1 τ1 p (r : Nat) (n : spz), ez_B τ1 g → ez_B τ1 h1 → ez_B τ1 g1 → ez_xt τ h τ1 h1 4 59 → τ r = 0 → τ1 r = 6 → nod τ1 h1 r n → qz_I h1 r 4 = 0 → n = (nz_cd (rz_b h) (rz_t h 4) (rz_ct (rz_b h) (rz_f h 4) (rz_t h 4 - rz_f h 4).toNat (rz_f h 4)) (rz_f h 4) 0, rz_rn (rz_b h) (rz_f h 1) (rz_t h 1), rz_rn (rz_b h) (rz_f h 2) (rz_t h 2), rz_rn (rz_b h) (rz_f h 3) (rz_t h 3)) → p = rz_code (rz_b h) (rz_f h 0) (rz_t h 0) → ((SP p = [] ∧ sz_toldR τ1 h1 g1 p p (sz_RS 8 ((r : Int) + 1)) ∧ g = g1) ∨ (sz_toldR τ1 h1 g1 p p (sz_RS 9 0) ∧ ∃ t : Nat, (τ1 t = 6 ∧ (τ t = 6 ∧ O t = p)) ∧ (∀ y, y ≠ t → g.2.2 y = g1.2.2 y) ∧ g.1 = g1.1 ∧ g.2.1 = g1.2.1 ∧ ∀ k, sz_at h1 p k → sC τ1 g (fun y => (τ y = 6 ∧ O y = p) ∨ y = r) (SP p ++ [n]) (qz_I h1 (sz_p h1 k) 8))) → rz_G1 (rz_b h) (rz_f h) (rz_t h) → Q (.inl (some (ez_v (.inl 1))), g)) : ez_W (d + 7) cm_179 0 [(0, .inr (.inr (some (720))))] [] h Q := by
  have n721 : 7 ≤ qz_N h 721 ∧ qz_N h 721 ≤ 7 := ez_len hB u721 tq_53 rfl
  have n722 : 7 ≤ qz_N h 722 ∧ qz_N h 722 ≤ 7 := ez_len hB u722 tq_54 rfl
  have qh0 := hft 0 (by omega) (by omega)
  have qf0 : 0 ≤ rz_f h 0 ∧ rz_f h 0 ≤ 4096 := ez_aB (i := 0) hB u721 tq_53 rfl rfl (by decide) (by omega) (by omega)
  have qt0 : 0 ≤ rz_t h 0 ∧ rz_t h 0 ≤ 4096 := ez_aB (i := 0) hB u722 tq_54 rfl rfl (by decide) (by omega) (by omega)
  have qh1 := hft 1 (by omega) (by omega)
  have qf1 : 0 ≤ rz_f h 1 ∧ rz_f h 1 ≤ 4096 := ez_aB (i := 1) hB u721 tq_53 rfl rfl (by decide) (by omega) (by omega)
  have qt1 : 0 ≤ rz_t h 1 ∧ rz_t h 1 ≤ 4096 := ez_aB (i := 1) hB u722 tq_54 rfl rfl (by decide) (by omega) (by omega)
  have qh2 := hft 2 (by omega) (by omega)
  have qf2 : 0 ≤ rz_f h 2 ∧ rz_f h 2 ≤ 4096 := ez_aB (i := 2) hB u721 tq_53 rfl rfl (by decide) (by omega) (by omega)
  have qt2 : 0 ≤ rz_t h 2 ∧ rz_t h 2 ≤ 4096 := ez_aB (i := 2) hB u722 tq_54 rfl rfl (by decide) (by omega) (by omega)
  have qh3 := hft 3 (by omega) (by omega)
  have qf3 : 0 ≤ rz_f h 3 ∧ rz_f h 3 ≤ 4096 := ez_aB (i := 3) hB u721 tq_53 rfl rfl (by decide) (by omega) (by omega)
  have qt3 : 0 ≤ rz_t h 3 ∧ rz_t h 3 ≤ 4096 := ez_aB (i := 3) hB u722 tq_54 rfl rfl (by decide) (by omega) (by omega)
  have qh4 := hft 4 (by omega) (by omega)
  have qf4 : 0 ≤ rz_f h 4 ∧ rz_f h 4 ≤ 4096 := ez_aB (i := 4) hB u721 tq_53 rfl rfl (by decide) (by omega) (by omega)
  have qt4 : 0 ≤ rz_t h 4 ∧ rz_t h 4 ≤ 4096 := ez_aB (i := 4) hB u722 tq_54 rfl rfl (by decide) (by omega) (by omega)
  refine ez_nw' (t := 6) hB rfl rfl rfl tq_6 rfl rfl (by omega) (by show h.2.1 + 5 ≤ 7302232; omega) (fun g1 τ1 p1 hB1 x1 o1 t1 z1 e1 y1 => ?_)
  have x1 : ez_xt τ h τ1 g1 1 5 := x1
  have c1 := x1.2
  have u720n1 := (x1.1 _ (by rw [u720]; decide)).1.trans u720
  have u202n1 := (x1.1 _ (by rw [u202]; decide)).1.trans u202
  have u721n1 := (x1.1 _ (by rw [u721]; decide)).1.trans u721
  have u722n1 := (x1.1 _ (by rw [u722]; decide)).1.trans u722
  have u193n1 := (x1.1 _ (by rw [u193]; decide)).1.trans u193
  have u203n1 := (x1.1 _ (by rw [u203]; decide)).1.trans u203
  have f4_1 : qz_I g1 p1 4 = 0 := y1 4
  refine ez_go (n := 1) (pc' := 4) (L' := [(0, .inr (.inr (some (720))))]) (st' := [.inr (.inr (some (p1))), .inr (.inr (some (p1)))]) rfl ?_
  refine ez_ci hB1.2.1 rfl rfl rfl rfl rfl rfl (rd_Special_init (ez_K0 ?_))
  refine ez_go (n := 4) (pc' := 11) (L' := [(1, .inr (.inr (some (p1)))), (0, .inr (.inr (some (720))))]) (st' := [.inl (1), .inr (.inr (some (720))), .inr (.inr (some (p1)))]) rfl ?_
  obtain ⟨ab2, af2, at2⟩ := x1.bft u193 u721 u722
  have hc2 := x1.2
  refine ez_cv hB1 u720n1 rfl rfl rfl tq_52 rfl rfl rfl (rd_readRowOrNothing9 hB1 u720n1 u193n1 (by omega) (by omega) (by rw [af2, at2]; exact hft 1 (by omega) (by omega)) (by omega) (by omega) (fun o2 g2 τ2 hB2 x2 ho2 hi2 hw2 => ez_KA ?_))
  rw [ab2, af2, at2] at hi2
  have X2 := x1.trans x2
  rcases o2 with _ | q2
  · skip
    have u720n1k2 := (x2.1 _ (by rw [u720n1]; decide)).1.trans u720n1
    have u202n1k2 := (x2.1 _ (by rw [u202n1]; decide)).1.trans u202n1
    have u721n1k2 := (x2.1 _ (by rw [u721n1]; decide)).1.trans u721n1
    have u722n1k2 := (x2.1 _ (by rw [u722n1]; decide)).1.trans u722n1
    have u193n1k2 := (x2.1 _ (by rw [u193n1]; decide)).1.trans u193n1
    have u203n1k2 := (x2.1 _ (by rw [u203n1]; decide)).1.trans u203n1
    have t1k2 := (x2.1 _ (by rw [t1]; decide)).1.trans t1
    have ro1 : ¬ rz_ro (rz_b h) (rz_f h 1) (rz_t h 1) := hi2.mp rfl
    have f4_1_2 : qz_I g2 p1 4 = 0 := (x2.I (by rw [t1]; decide) 4).trans f4_1
    refine ez_pf hB2 t1k2 rfl rfl tq_6 rfl rfl rfl rfl (ez_vdN rfl) (fun hB3 w4 => ?_)
    have f4_1_2_p : qz_I (dz_put g2 p1 1 (ez_v (.inr (.inr none)))) p1 4 = 0 := (ez_put_I (fun w => absurd w.2 (by decide))).trans f4_1_2
    have pf5 : qz_I (dz_put g2 p1 1 (ez_v (.inr (.inr none)))) p1 1 = 0 := w4
    refine ez_go (n := 3) (pc' := 20) (L' := [(1, .inr (.inr (some (p1)))), (0, .inr (.inr (some (720))))]) (st' := [.inl (2), .inr (.inr (some (720))), .inr (.inr (some (p1)))]) rfl ?_
    have XF7 := X2.fr (show ez_fr (ez_one p1) g2 (dz_put g2 p1 1 (ez_v (.inr (.inr none)))) from ((ez_fr.refl (ez_one p1) g2).put (show Nat.beq p1 p1 = true from Nat.beq_refl _) _ _)) z1
    obtain ⟨ab6, af6, at6⟩ := XF7.bft u193 u721 u722
    have hc6 := XF7.2
    refine ez_cv hB3 u720n1k2 rfl rfl rfl tq_52 rfl rfl rfl (rd_readRowOrNothing9 hB3 u720n1k2 u193n1k2 (by omega) (by omega) (by rw [af6, at6]; exact hft 2 (by omega) (by omega)) (by omega) (by omega) (fun o6 g6 τ6 hB6 x6 ho6 hi6 hw6 => ez_KA ?_))
    rw [ab6, af6, at6] at hi6
    have X6 := XF7.trans x6
    rcases o6 with _ | q6
    · skip
      have u720n1k2k6 := (x6.1 _ (by rw [u720n1k2]; decide)).1.trans u720n1k2
      have u202n1k2k6 := (x6.1 _ (by rw [u202n1k2]; decide)).1.trans u202n1k2
      have u721n1k2k6 := (x6.1 _ (by rw [u721n1k2]; decide)).1.trans u721n1k2
      have u722n1k2k6 := (x6.1 _ (by rw [u722n1k2]; decide)).1.trans u722n1k2
      have u193n1k2k6 := (x6.1 _ (by rw [u193n1k2]; decide)).1.trans u193n1k2
      have u203n1k2k6 := (x6.1 _ (by rw [u203n1k2]; decide)).1.trans u203n1k2
      have t1k2k6 := (x6.1 _ (by rw [t1k2]; decide)).1.trans t1k2
      have ro2 : ¬ rz_ro (rz_b h) (rz_f h 2) (rz_t h 2) := hi6.mp rfl
      have f4_1_2_p_6 : qz_I g6 p1 4 = 0 := (x6.I (by rw [t1k2]; decide) 4).trans f4_1_2_p
      have pf5_6 : qz_I g6 p1 1 = 0 := (x6.I (by rw [t1k2]; decide) 1).trans pf5
      refine ez_pf hB6 t1k2k6 rfl rfl tq_6 rfl rfl rfl rfl (ez_vdN rfl) (fun hB8 w9 => ?_)
      have f4_1_2_p_6_p : qz_I (dz_put g6 p1 2 (ez_v (.inr (.inr none)))) p1 4 = 0 := (ez_put_I (fun w => absurd w.2 (by decide))).trans f4_1_2_p_6
      have pf5_6_p : qz_I (dz_put g6 p1 2 (ez_v (.inr (.inr none)))) p1 1 = 0 := (ez_put_I (fun w => absurd w.2 (by decide))).trans pf5_6
      have pf10 : qz_I (dz_put g6 p1 2 (ez_v (.inr (.inr none)))) p1 2 = 0 := w9
      refine ez_go (n := 3) (pc' := 29) (L' := [(1, .inr (.inr (some (p1)))), (0, .inr (.inr (some (720))))]) (st' := [.inl (3), .inr (.inr (some (720))), .inr (.inr (some (p1)))]) rfl ?_
      have XF12 := X6.fr (show ez_fr (ez_one p1) g6 (dz_put g6 p1 2 (ez_v (.inr (.inr none)))) from ((ez_fr.refl (ez_one p1) g6).put (show Nat.beq p1 p1 = true from Nat.beq_refl _) _ _)) z1
      obtain ⟨ab11, af11, at11⟩ := XF12.bft u193 u721 u722
      have hc11 := XF12.2
      refine ez_cv hB8 u720n1k2k6 rfl rfl rfl tq_52 rfl rfl rfl (rd_readRowOrNothing9 hB8 u720n1k2k6 u193n1k2k6 (by omega) (by omega) (by rw [af11, at11]; exact hft 3 (by omega) (by omega)) (by omega) (by omega) (fun o11 g11 τ11 hB11 x11 ho11 hi11 hw11 => ez_KA ?_))
      rw [ab11, af11, at11] at hi11
      have X11 := XF12.trans x11
      rcases o11 with _ | q11
      · skip
        have u720n1k2k6k11 := (x11.1 _ (by rw [u720n1k2k6]; decide)).1.trans u720n1k2k6
        have u202n1k2k6k11 := (x11.1 _ (by rw [u202n1k2k6]; decide)).1.trans u202n1k2k6
        have u721n1k2k6k11 := (x11.1 _ (by rw [u721n1k2k6]; decide)).1.trans u721n1k2k6
        have u722n1k2k6k11 := (x11.1 _ (by rw [u722n1k2k6]; decide)).1.trans u722n1k2k6
        have u193n1k2k6k11 := (x11.1 _ (by rw [u193n1k2k6]; decide)).1.trans u193n1k2k6
        have u203n1k2k6k11 := (x11.1 _ (by rw [u203n1k2k6]; decide)).1.trans u203n1k2k6
        have t1k2k6k11 := (x11.1 _ (by rw [t1k2k6]; decide)).1.trans t1k2k6
        have ro3 : ¬ rz_ro (rz_b h) (rz_f h 3) (rz_t h 3) := hi11.mp rfl
        have f4_1_2_p_6_p_11 : qz_I g11 p1 4 = 0 := (x11.I (by rw [t1k2k6]; decide) 4).trans f4_1_2_p_6_p
        have pf5_6_p_11 : qz_I g11 p1 1 = 0 := (x11.I (by rw [t1k2k6]; decide) 1).trans pf5_6_p
        have pf10_11 : qz_I g11 p1 2 = 0 := (x11.I (by rw [t1k2k6]; decide) 2).trans pf10
        refine ez_pf hB11 t1k2k6k11 rfl rfl tq_6 rfl rfl rfl rfl (ez_vdN rfl) (fun hB13 w14 => ?_)
        have f4_1_2_p_6_p_11_p : qz_I (dz_put g11 p1 3 (ez_v (.inr (.inr none)))) p1 4 = 0 := (ez_put_I (fun w => absurd w.2 (by decide))).trans f4_1_2_p_6_p_11
        have pf5_6_p_11_p : qz_I (dz_put g11 p1 3 (ez_v (.inr (.inr none)))) p1 1 = 0 := (ez_put_I (fun w => absurd w.2 (by decide))).trans pf5_6_p_11
        have pf10_11_p : qz_I (dz_put g11 p1 3 (ez_v (.inr (.inr none)))) p1 2 = 0 := (ez_put_I (fun w => absurd w.2 (by decide))).trans pf10_11
        have pf15 : qz_I (dz_put g11 p1 3 (ez_v (.inr (.inr none)))) p1 3 = 0 := w14
        have XF16 := X11.fr (show ez_fr (ez_one p1) g11 (dz_put g11 p1 3 (ez_v (.inr (.inr none)))) from ((ez_fr.refl (ez_one p1) g11).put (show Nat.beq p1 p1 = true from Nat.beq_refl _) _ _)) z1
        refine ez_less [(1, .inr (.inr (some (p1)))), (0, .inr (.inr (some (720))))] rfl ⟨rfl, rfl, trivial⟩ ?_
        exact rd_takeSpecial_b9 hB u193 u202 u203 u720 u721 u722 hs hinj hft hn hZ hz27 ts1 hr1 hr2 hB13 (XF16.mono (by omega) (by omega)) t1k2k6k11 z1 e1 ⟨fun _ => ro1, fun _ => pf5_6_p_11_p⟩ ⟨fun _ => ro2, fun _ => pf10_11_p⟩ ⟨fun _ => ro3, fun _ => pf15⟩ (fun w => absurd pf5_6_p_11_p w) (fun w => absurd pf10_11_p w) (fun w => absurd pf15 w) f4_1_2_p_6_p_11_p hSP kN kS
      · skip
        have u720n1k2k6k11 := (x11.1 _ (by rw [u720n1k2k6]; decide)).1.trans u720n1k2k6
        have u202n1k2k6k11 := (x11.1 _ (by rw [u202n1k2k6]; decide)).1.trans u202n1k2k6
        have u721n1k2k6k11 := (x11.1 _ (by rw [u721n1k2k6]; decide)).1.trans u721n1k2k6
        have u722n1k2k6k11 := (x11.1 _ (by rw [u722n1k2k6]; decide)).1.trans u722n1k2k6
        have u193n1k2k6k11 := (x11.1 _ (by rw [u193n1k2k6]; decide)).1.trans u193n1k2k6
        have u203n1k2k6k11 := (x11.1 _ (by rw [u203n1k2k6]; decide)).1.trans u203n1k2k6
        have t1k2k6k11 := (x11.1 _ (by rw [t1k2k6]; decide)).1.trans t1k2k6
        have ro3 : rz_ro (rz_b h) (rz_f h 3) (rz_t h 3) := Classical.byContradiction fun w => by cases hi11.mpr w
        have wr11 : rw5 τ11 g11 ((q11 : Int) + 1) (rz_rn (rz_b h) (rz_f h 3) (rz_t h 3)) := by have w := hw11 q11 rfl; rw [ab11, af11, at11] at w; exact w
        have f4_1_2_p_6_p_11 : qz_I g11 p1 4 = 0 := (x11.I (by rw [t1k2k6]; decide) 4).trans f4_1_2_p_6_p
        have pf5_6_p_11 : qz_I g11 p1 1 = 0 := (x11.I (by rw [t1k2k6]; decide) 1).trans pf5_6_p
        have pf10_11 : qz_I g11 p1 2 = 0 := (x11.I (by rw [t1k2k6]; decide) 2).trans pf10
        have tq11 := (ho11 _ rfl).1
        have lq11 := dz_here_lt (hB11.1 _ (by rw [tq11]; decide)).1
        have lc11 := X11.2
        refine ez_pf hB11 t1k2k6k11 rfl rfl tq_6 rfl rfl rfl rfl (ez_vdR rfl tq11 (by omega) (by omega)) (fun hB17 w18 => ?_)
        have f4_1_2_p_6_p_11_p : qz_I (dz_put g11 p1 3 (ez_v (.inr (.inr (some (q11)))))) p1 4 = 0 := (ez_put_I (fun w => absurd w.2 (by decide))).trans f4_1_2_p_6_p_11
        have pf5_6_p_11_p : qz_I (dz_put g11 p1 3 (ez_v (.inr (.inr (some (q11)))))) p1 1 = 0 := (ez_put_I (fun w => absurd w.2 (by decide))).trans pf5_6_p_11
        have pf10_11_p : qz_I (dz_put g11 p1 3 (ez_v (.inr (.inr (some (q11)))))) p1 2 = 0 := (ez_put_I (fun w => absurd w.2 (by decide))).trans pf10_11
        have wr11_p : rw5 τ11 (dz_put g11 p1 3 (ez_v (.inr (.inr (some (q11)))))) ((q11 : Int) + 1) (rz_rn (rz_b h) (rz_f h 3) (rz_t h 3)) := wr11.tr (fun y hy => ⟨hy, qz_put_at _ _ _ _ (fun e => by rw [e, t1k2k6k11] at hy; cases hy)⟩)
        have pf19 : qz_I (dz_put g11 p1 3 (ez_v (.inr (.inr (some (q11)))))) p1 3 = (q11 : Int) + 1 := w18
        have XF20 := X11.fr (show ez_fr (ez_one p1) g11 (dz_put g11 p1 3 (ez_v (.inr (.inr (some (q11)))))) from ((ez_fr.refl (ez_one p1) g11).put (show Nat.beq p1 p1 = true from Nat.beq_refl _) _ _)) z1
        refine ez_less [(1, .inr (.inr (some (p1)))), (0, .inr (.inr (some (720))))] rfl ⟨rfl, rfl, trivial⟩ ?_
        exact rd_takeSpecial_b9 hB u193 u202 u203 u720 u721 u722 hs hinj hft hn hZ hz27 ts1 hr1 hr2 hB17 (XF20.mono (by omega) (by omega)) t1k2k6k11 z1 e1 ⟨fun _ => ro1, fun _ => pf5_6_p_11_p⟩ ⟨fun _ => ro2, fun _ => pf10_11_p⟩ ⟨fun w => (by omega), fun w => absurd ro3 w⟩ (fun w => absurd pf5_6_p_11_p w) (fun w => absurd pf10_11_p w) (fun _ => by rw [pf19]; exact wr11_p) f4_1_2_p_6_p_11_p hSP kN kS
    · skip
      have u720n1k2k6 := (x6.1 _ (by rw [u720n1k2]; decide)).1.trans u720n1k2
      have u202n1k2k6 := (x6.1 _ (by rw [u202n1k2]; decide)).1.trans u202n1k2
      have u721n1k2k6 := (x6.1 _ (by rw [u721n1k2]; decide)).1.trans u721n1k2
      have u722n1k2k6 := (x6.1 _ (by rw [u722n1k2]; decide)).1.trans u722n1k2
      have u193n1k2k6 := (x6.1 _ (by rw [u193n1k2]; decide)).1.trans u193n1k2
      have u203n1k2k6 := (x6.1 _ (by rw [u203n1k2]; decide)).1.trans u203n1k2
      have t1k2k6 := (x6.1 _ (by rw [t1k2]; decide)).1.trans t1k2
      have ro2 : rz_ro (rz_b h) (rz_f h 2) (rz_t h 2) := Classical.byContradiction fun w => by cases hi6.mpr w
      have wr6 : rw5 τ6 g6 ((q6 : Int) + 1) (rz_rn (rz_b h) (rz_f h 2) (rz_t h 2)) := by have w := hw6 q6 rfl; rw [ab6, af6, at6] at w; exact w
      have f4_1_2_p_6 : qz_I g6 p1 4 = 0 := (x6.I (by rw [t1k2]; decide) 4).trans f4_1_2_p
      have pf5_6 : qz_I g6 p1 1 = 0 := (x6.I (by rw [t1k2]; decide) 1).trans pf5
      have tq6 := (ho6 _ rfl).1
      have lq6 := dz_here_lt (hB6.1 _ (by rw [tq6]; decide)).1
      have lc6 := X6.2
      refine ez_pf hB6 t1k2k6 rfl rfl tq_6 rfl rfl rfl rfl (ez_vdR rfl tq6 (by omega) (by omega)) (fun hB21 w22 => ?_)
      have f4_1_2_p_6_p : qz_I (dz_put g6 p1 2 (ez_v (.inr (.inr (some (q6)))))) p1 4 = 0 := (ez_put_I (fun w => absurd w.2 (by decide))).trans f4_1_2_p_6
      have pf5_6_p : qz_I (dz_put g6 p1 2 (ez_v (.inr (.inr (some (q6)))))) p1 1 = 0 := (ez_put_I (fun w => absurd w.2 (by decide))).trans pf5_6
      have wr6_p : rw5 τ6 (dz_put g6 p1 2 (ez_v (.inr (.inr (some (q6)))))) ((q6 : Int) + 1) (rz_rn (rz_b h) (rz_f h 2) (rz_t h 2)) := wr6.tr (fun y hy => ⟨hy, qz_put_at _ _ _ _ (fun e => by rw [e, t1k2k6] at hy; cases hy)⟩)
      have pf23 : qz_I (dz_put g6 p1 2 (ez_v (.inr (.inr (some (q6)))))) p1 2 = (q6 : Int) + 1 := w22
      refine ez_go (n := 3) (pc' := 29) (L' := [(1, .inr (.inr (some (p1)))), (0, .inr (.inr (some (720))))]) (st' := [.inl (3), .inr (.inr (some (720))), .inr (.inr (some (p1)))]) rfl ?_
      have XF25 := X6.fr (show ez_fr (ez_one p1) g6 (dz_put g6 p1 2 (ez_v (.inr (.inr (some (q6)))))) from ((ez_fr.refl (ez_one p1) g6).put (show Nat.beq p1 p1 = true from Nat.beq_refl _) _ _)) z1
      obtain ⟨ab24, af24, at24⟩ := XF25.bft u193 u721 u722
      have hc24 := XF25.2
      refine ez_cv hB21 u720n1k2k6 rfl rfl rfl tq_52 rfl rfl rfl (rd_readRowOrNothing9 hB21 u720n1k2k6 u193n1k2k6 (by omega) (by omega) (by rw [af24, at24]; exact hft 3 (by omega) (by omega)) (by omega) (by omega) (fun o24 g24 τ24 hB24 x24 ho24 hi24 hw24 => ez_KA ?_))
      rw [ab24, af24, at24] at hi24
      have X24 := XF25.trans x24
      rcases o24 with _ | q24
      · skip
        have u720n1k2k6k24 := (x24.1 _ (by rw [u720n1k2k6]; decide)).1.trans u720n1k2k6
        have u202n1k2k6k24 := (x24.1 _ (by rw [u202n1k2k6]; decide)).1.trans u202n1k2k6
        have u721n1k2k6k24 := (x24.1 _ (by rw [u721n1k2k6]; decide)).1.trans u721n1k2k6
        have u722n1k2k6k24 := (x24.1 _ (by rw [u722n1k2k6]; decide)).1.trans u722n1k2k6
        have u193n1k2k6k24 := (x24.1 _ (by rw [u193n1k2k6]; decide)).1.trans u193n1k2k6
        have u203n1k2k6k24 := (x24.1 _ (by rw [u203n1k2k6]; decide)).1.trans u203n1k2k6
        have t1k2k6k24 := (x24.1 _ (by rw [t1k2k6]; decide)).1.trans t1k2k6
        have tq6k24 := (x24.1 _ (by rw [tq6]; decide)).1.trans tq6
        have ro3 : ¬ rz_ro (rz_b h) (rz_f h 3) (rz_t h 3) := hi24.mp rfl
        have wr6_p_24 : rw5 τ24 g24 ((q6 : Int) + 1) (rz_rn (rz_b h) (rz_f h 2) (rz_t h 2)) := wr6_p.tr (fun y hy => ⟨(x24.1 y (by rw [hy]; decide)).1.trans hy, (x24.1 y (by rw [hy]; decide)).2⟩)
        have f4_1_2_p_6_p_24 : qz_I g24 p1 4 = 0 := (x24.I (by rw [t1k2k6]; decide) 4).trans f4_1_2_p_6_p
        have pf5_6_p_24 : qz_I g24 p1 1 = 0 := (x24.I (by rw [t1k2k6]; decide) 1).trans pf5_6_p
        have pf23_24 : qz_I g24 p1 2 = (q6 : Int) + 1 := (x24.I (by rw [t1k2k6]; decide) 2).trans pf23
        refine ez_pf hB24 t1k2k6k24 rfl rfl tq_6 rfl rfl rfl rfl (ez_vdN rfl) (fun hB26 w27 => ?_)
        have f4_1_2_p_6_p_24_p : qz_I (dz_put g24 p1 3 (ez_v (.inr (.inr none)))) p1 4 = 0 := (ez_put_I (fun w => absurd w.2 (by decide))).trans f4_1_2_p_6_p_24
        have pf5_6_p_24_p : qz_I (dz_put g24 p1 3 (ez_v (.inr (.inr none)))) p1 1 = 0 := (ez_put_I (fun w => absurd w.2 (by decide))).trans pf5_6_p_24
        have pf23_24_p : qz_I (dz_put g24 p1 3 (ez_v (.inr (.inr none)))) p1 2 = (q6 : Int) + 1 := (ez_put_I (fun w => absurd w.2 (by decide))).trans pf23_24
        have wr6_p_24_p : rw5 τ24 (dz_put g24 p1 3 (ez_v (.inr (.inr none)))) ((q6 : Int) + 1) (rz_rn (rz_b h) (rz_f h 2) (rz_t h 2)) := wr6_p_24.tr (fun y hy => ⟨hy, qz_put_at _ _ _ _ (fun e => by rw [e, t1k2k6k24] at hy; cases hy)⟩)
        have pf28 : qz_I (dz_put g24 p1 3 (ez_v (.inr (.inr none)))) p1 3 = 0 := w27
        have XF29 := X24.fr (show ez_fr (ez_one p1) g24 (dz_put g24 p1 3 (ez_v (.inr (.inr none)))) from ((ez_fr.refl (ez_one p1) g24).put (show Nat.beq p1 p1 = true from Nat.beq_refl _) _ _)) z1
        refine ez_less [(1, .inr (.inr (some (p1)))), (0, .inr (.inr (some (720))))] rfl ⟨rfl, rfl, trivial⟩ ?_
        exact rd_takeSpecial_b9 hB u193 u202 u203 u720 u721 u722 hs hinj hft hn hZ hz27 ts1 hr1 hr2 hB26 (XF29.mono (by omega) (by omega)) t1k2k6k24 z1 e1 ⟨fun _ => ro1, fun _ => pf5_6_p_24_p⟩ ⟨fun w => (by omega), fun w => absurd ro2 w⟩ ⟨fun _ => ro3, fun _ => pf28⟩ (fun w => absurd pf5_6_p_24_p w) (fun _ => by rw [pf23_24_p]; exact wr6_p_24_p) (fun w => absurd pf28 w) f4_1_2_p_6_p_24_p hSP kN kS
      · skip
        have u720n1k2k6k24 := (x24.1 _ (by rw [u720n1k2k6]; decide)).1.trans u720n1k2k6
        have u202n1k2k6k24 := (x24.1 _ (by rw [u202n1k2k6]; decide)).1.trans u202n1k2k6
        have u721n1k2k6k24 := (x24.1 _ (by rw [u721n1k2k6]; decide)).1.trans u721n1k2k6
        have u722n1k2k6k24 := (x24.1 _ (by rw [u722n1k2k6]; decide)).1.trans u722n1k2k6
        have u193n1k2k6k24 := (x24.1 _ (by rw [u193n1k2k6]; decide)).1.trans u193n1k2k6
        have u203n1k2k6k24 := (x24.1 _ (by rw [u203n1k2k6]; decide)).1.trans u203n1k2k6
        have t1k2k6k24 := (x24.1 _ (by rw [t1k2k6]; decide)).1.trans t1k2k6
        have tq6k24 := (x24.1 _ (by rw [tq6]; decide)).1.trans tq6
        have ro3 : rz_ro (rz_b h) (rz_f h 3) (rz_t h 3) := Classical.byContradiction fun w => by cases hi24.mpr w
        have wr6_p_24 : rw5 τ24 g24 ((q6 : Int) + 1) (rz_rn (rz_b h) (rz_f h 2) (rz_t h 2)) := wr6_p.tr (fun y hy => ⟨(x24.1 y (by rw [hy]; decide)).1.trans hy, (x24.1 y (by rw [hy]; decide)).2⟩)
        have wr24 : rw5 τ24 g24 ((q24 : Int) + 1) (rz_rn (rz_b h) (rz_f h 3) (rz_t h 3)) := by have w := hw24 q24 rfl; rw [ab24, af24, at24] at w; exact w
        have f4_1_2_p_6_p_24 : qz_I g24 p1 4 = 0 := (x24.I (by rw [t1k2k6]; decide) 4).trans f4_1_2_p_6_p
        have pf5_6_p_24 : qz_I g24 p1 1 = 0 := (x24.I (by rw [t1k2k6]; decide) 1).trans pf5_6_p
        have pf23_24 : qz_I g24 p1 2 = (q6 : Int) + 1 := (x24.I (by rw [t1k2k6]; decide) 2).trans pf23
        have tq24 := (ho24 _ rfl).1
        have lq24 := dz_here_lt (hB24.1 _ (by rw [tq24]; decide)).1
        have lc24 := X24.2
        refine ez_pf hB24 t1k2k6k24 rfl rfl tq_6 rfl rfl rfl rfl (ez_vdR rfl tq24 (by omega) (by omega)) (fun hB30 w31 => ?_)
        have f4_1_2_p_6_p_24_p : qz_I (dz_put g24 p1 3 (ez_v (.inr (.inr (some (q24)))))) p1 4 = 0 := (ez_put_I (fun w => absurd w.2 (by decide))).trans f4_1_2_p_6_p_24
        have pf5_6_p_24_p : qz_I (dz_put g24 p1 3 (ez_v (.inr (.inr (some (q24)))))) p1 1 = 0 := (ez_put_I (fun w => absurd w.2 (by decide))).trans pf5_6_p_24
        have pf23_24_p : qz_I (dz_put g24 p1 3 (ez_v (.inr (.inr (some (q24)))))) p1 2 = (q6 : Int) + 1 := (ez_put_I (fun w => absurd w.2 (by decide))).trans pf23_24
        have wr6_p_24_p : rw5 τ24 (dz_put g24 p1 3 (ez_v (.inr (.inr (some (q24)))))) ((q6 : Int) + 1) (rz_rn (rz_b h) (rz_f h 2) (rz_t h 2)) := wr6_p_24.tr (fun y hy => ⟨hy, qz_put_at _ _ _ _ (fun e => by rw [e, t1k2k6k24] at hy; cases hy)⟩)
        have wr24_p : rw5 τ24 (dz_put g24 p1 3 (ez_v (.inr (.inr (some (q24)))))) ((q24 : Int) + 1) (rz_rn (rz_b h) (rz_f h 3) (rz_t h 3)) := wr24.tr (fun y hy => ⟨hy, qz_put_at _ _ _ _ (fun e => by rw [e, t1k2k6k24] at hy; cases hy)⟩)
        have pf32 : qz_I (dz_put g24 p1 3 (ez_v (.inr (.inr (some (q24)))))) p1 3 = (q24 : Int) + 1 := w31
        have XF33 := X24.fr (show ez_fr (ez_one p1) g24 (dz_put g24 p1 3 (ez_v (.inr (.inr (some (q24)))))) from ((ez_fr.refl (ez_one p1) g24).put (show Nat.beq p1 p1 = true from Nat.beq_refl _) _ _)) z1
        refine ez_less [(1, .inr (.inr (some (p1)))), (0, .inr (.inr (some (720))))] rfl ⟨rfl, rfl, trivial⟩ ?_
        exact rd_takeSpecial_b9 hB u193 u202 u203 u720 u721 u722 hs hinj hft hn hZ hz27 ts1 hr1 hr2 hB30 (XF33.mono (by omega) (by omega)) t1k2k6k24 z1 e1 ⟨fun _ => ro1, fun _ => pf5_6_p_24_p⟩ ⟨fun w => (by omega), fun w => absurd ro2 w⟩ ⟨fun w => (by omega), fun w => absurd ro3 w⟩ (fun w => absurd pf5_6_p_24_p w) (fun _ => by rw [pf23_24_p]; exact wr6_p_24_p) (fun _ => by rw [pf32]; exact wr24_p) f4_1_2_p_6_p_24_p hSP kN kS
  · skip
    have u720n1k2 := (x2.1 _ (by rw [u720n1]; decide)).1.trans u720n1
    have u202n1k2 := (x2.1 _ (by rw [u202n1]; decide)).1.trans u202n1
    have u721n1k2 := (x2.1 _ (by rw [u721n1]; decide)).1.trans u721n1
    have u722n1k2 := (x2.1 _ (by rw [u722n1]; decide)).1.trans u722n1
    have u193n1k2 := (x2.1 _ (by rw [u193n1]; decide)).1.trans u193n1
    have u203n1k2 := (x2.1 _ (by rw [u203n1]; decide)).1.trans u203n1
    have t1k2 := (x2.1 _ (by rw [t1]; decide)).1.trans t1
    have ro1 : rz_ro (rz_b h) (rz_f h 1) (rz_t h 1) := Classical.byContradiction fun w => by cases hi2.mpr w
    have wr2 : rw5 τ2 g2 ((q2 : Int) + 1) (rz_rn (rz_b h) (rz_f h 1) (rz_t h 1)) := by have w := hw2 q2 rfl; rw [ab2, af2, at2] at w; exact w
    have f4_1_2 : qz_I g2 p1 4 = 0 := (x2.I (by rw [t1]; decide) 4).trans f4_1
    have tq2 := (ho2 _ rfl).1
    have lq2 := dz_here_lt (hB2.1 _ (by rw [tq2]; decide)).1
    have lc2 := X2.2
    refine ez_pf hB2 t1k2 rfl rfl tq_6 rfl rfl rfl rfl (ez_vdR rfl tq2 (by omega) (by omega)) (fun hB34 w35 => ?_)
    have f4_1_2_p : qz_I (dz_put g2 p1 1 (ez_v (.inr (.inr (some (q2)))))) p1 4 = 0 := (ez_put_I (fun w => absurd w.2 (by decide))).trans f4_1_2
    have wr2_p : rw5 τ2 (dz_put g2 p1 1 (ez_v (.inr (.inr (some (q2)))))) ((q2 : Int) + 1) (rz_rn (rz_b h) (rz_f h 1) (rz_t h 1)) := wr2.tr (fun y hy => ⟨hy, qz_put_at _ _ _ _ (fun e => by rw [e, t1k2] at hy; cases hy)⟩)
    have pf36 : qz_I (dz_put g2 p1 1 (ez_v (.inr (.inr (some (q2)))))) p1 1 = (q2 : Int) + 1 := w35
    refine ez_go (n := 3) (pc' := 20) (L' := [(1, .inr (.inr (some (p1)))), (0, .inr (.inr (some (720))))]) (st' := [.inl (2), .inr (.inr (some (720))), .inr (.inr (some (p1)))]) rfl ?_
    have XF38 := X2.fr (show ez_fr (ez_one p1) g2 (dz_put g2 p1 1 (ez_v (.inr (.inr (some (q2)))))) from ((ez_fr.refl (ez_one p1) g2).put (show Nat.beq p1 p1 = true from Nat.beq_refl _) _ _)) z1
    obtain ⟨ab37, af37, at37⟩ := XF38.bft u193 u721 u722
    have hc37 := XF38.2
    refine ez_cv hB34 u720n1k2 rfl rfl rfl tq_52 rfl rfl rfl (rd_readRowOrNothing9 hB34 u720n1k2 u193n1k2 (by omega) (by omega) (by rw [af37, at37]; exact hft 2 (by omega) (by omega)) (by omega) (by omega) (fun o37 g37 τ37 hB37 x37 ho37 hi37 hw37 => ez_KA ?_))
    rw [ab37, af37, at37] at hi37
    have X37 := XF38.trans x37
    rcases o37 with _ | q37
    · skip
      have u720n1k2k37 := (x37.1 _ (by rw [u720n1k2]; decide)).1.trans u720n1k2
      have u202n1k2k37 := (x37.1 _ (by rw [u202n1k2]; decide)).1.trans u202n1k2
      have u721n1k2k37 := (x37.1 _ (by rw [u721n1k2]; decide)).1.trans u721n1k2
      have u722n1k2k37 := (x37.1 _ (by rw [u722n1k2]; decide)).1.trans u722n1k2
      have u193n1k2k37 := (x37.1 _ (by rw [u193n1k2]; decide)).1.trans u193n1k2
      have u203n1k2k37 := (x37.1 _ (by rw [u203n1k2]; decide)).1.trans u203n1k2
      have t1k2k37 := (x37.1 _ (by rw [t1k2]; decide)).1.trans t1k2
      have tq2k37 := (x37.1 _ (by rw [tq2]; decide)).1.trans tq2
      have ro2 : ¬ rz_ro (rz_b h) (rz_f h 2) (rz_t h 2) := hi37.mp rfl
      have wr2_p_37 : rw5 τ37 g37 ((q2 : Int) + 1) (rz_rn (rz_b h) (rz_f h 1) (rz_t h 1)) := wr2_p.tr (fun y hy => ⟨(x37.1 y (by rw [hy]; decide)).1.trans hy, (x37.1 y (by rw [hy]; decide)).2⟩)
      have f4_1_2_p_37 : qz_I g37 p1 4 = 0 := (x37.I (by rw [t1k2]; decide) 4).trans f4_1_2_p
      have pf36_37 : qz_I g37 p1 1 = (q2 : Int) + 1 := (x37.I (by rw [t1k2]; decide) 1).trans pf36
      refine ez_pf hB37 t1k2k37 rfl rfl tq_6 rfl rfl rfl rfl (ez_vdN rfl) (fun hB39 w40 => ?_)
      have f4_1_2_p_37_p : qz_I (dz_put g37 p1 2 (ez_v (.inr (.inr none)))) p1 4 = 0 := (ez_put_I (fun w => absurd w.2 (by decide))).trans f4_1_2_p_37
      have pf36_37_p : qz_I (dz_put g37 p1 2 (ez_v (.inr (.inr none)))) p1 1 = (q2 : Int) + 1 := (ez_put_I (fun w => absurd w.2 (by decide))).trans pf36_37
      have wr2_p_37_p : rw5 τ37 (dz_put g37 p1 2 (ez_v (.inr (.inr none)))) ((q2 : Int) + 1) (rz_rn (rz_b h) (rz_f h 1) (rz_t h 1)) := wr2_p_37.tr (fun y hy => ⟨hy, qz_put_at _ _ _ _ (fun e => by rw [e, t1k2k37] at hy; cases hy)⟩)
      have pf41 : qz_I (dz_put g37 p1 2 (ez_v (.inr (.inr none)))) p1 2 = 0 := w40
      refine ez_go (n := 3) (pc' := 29) (L' := [(1, .inr (.inr (some (p1)))), (0, .inr (.inr (some (720))))]) (st' := [.inl (3), .inr (.inr (some (720))), .inr (.inr (some (p1)))]) rfl ?_
      have XF43 := X37.fr (show ez_fr (ez_one p1) g37 (dz_put g37 p1 2 (ez_v (.inr (.inr none)))) from ((ez_fr.refl (ez_one p1) g37).put (show Nat.beq p1 p1 = true from Nat.beq_refl _) _ _)) z1
      obtain ⟨ab42, af42, at42⟩ := XF43.bft u193 u721 u722
      have hc42 := XF43.2
      refine ez_cv hB39 u720n1k2k37 rfl rfl rfl tq_52 rfl rfl rfl (rd_readRowOrNothing9 hB39 u720n1k2k37 u193n1k2k37 (by omega) (by omega) (by rw [af42, at42]; exact hft 3 (by omega) (by omega)) (by omega) (by omega) (fun o42 g42 τ42 hB42 x42 ho42 hi42 hw42 => ez_KA ?_))
      rw [ab42, af42, at42] at hi42
      have X42 := XF43.trans x42
      rcases o42 with _ | q42
      · skip
        have u720n1k2k37k42 := (x42.1 _ (by rw [u720n1k2k37]; decide)).1.trans u720n1k2k37
        have u202n1k2k37k42 := (x42.1 _ (by rw [u202n1k2k37]; decide)).1.trans u202n1k2k37
        have u721n1k2k37k42 := (x42.1 _ (by rw [u721n1k2k37]; decide)).1.trans u721n1k2k37
        have u722n1k2k37k42 := (x42.1 _ (by rw [u722n1k2k37]; decide)).1.trans u722n1k2k37
        have u193n1k2k37k42 := (x42.1 _ (by rw [u193n1k2k37]; decide)).1.trans u193n1k2k37
        have u203n1k2k37k42 := (x42.1 _ (by rw [u203n1k2k37]; decide)).1.trans u203n1k2k37
        have t1k2k37k42 := (x42.1 _ (by rw [t1k2k37]; decide)).1.trans t1k2k37
        have tq2k37k42 := (x42.1 _ (by rw [tq2k37]; decide)).1.trans tq2k37
        have ro3 : ¬ rz_ro (rz_b h) (rz_f h 3) (rz_t h 3) := hi42.mp rfl
        have wr2_p_37_p_42 : rw5 τ42 g42 ((q2 : Int) + 1) (rz_rn (rz_b h) (rz_f h 1) (rz_t h 1)) := wr2_p_37_p.tr (fun y hy => ⟨(x42.1 y (by rw [hy]; decide)).1.trans hy, (x42.1 y (by rw [hy]; decide)).2⟩)
        have f4_1_2_p_37_p_42 : qz_I g42 p1 4 = 0 := (x42.I (by rw [t1k2k37]; decide) 4).trans f4_1_2_p_37_p
        have pf36_37_p_42 : qz_I g42 p1 1 = (q2 : Int) + 1 := (x42.I (by rw [t1k2k37]; decide) 1).trans pf36_37_p
        have pf41_42 : qz_I g42 p1 2 = 0 := (x42.I (by rw [t1k2k37]; decide) 2).trans pf41
        refine ez_pf hB42 t1k2k37k42 rfl rfl tq_6 rfl rfl rfl rfl (ez_vdN rfl) (fun hB44 w45 => ?_)
        have f4_1_2_p_37_p_42_p : qz_I (dz_put g42 p1 3 (ez_v (.inr (.inr none)))) p1 4 = 0 := (ez_put_I (fun w => absurd w.2 (by decide))).trans f4_1_2_p_37_p_42
        have pf36_37_p_42_p : qz_I (dz_put g42 p1 3 (ez_v (.inr (.inr none)))) p1 1 = (q2 : Int) + 1 := (ez_put_I (fun w => absurd w.2 (by decide))).trans pf36_37_p_42
        have pf41_42_p : qz_I (dz_put g42 p1 3 (ez_v (.inr (.inr none)))) p1 2 = 0 := (ez_put_I (fun w => absurd w.2 (by decide))).trans pf41_42
        have wr2_p_37_p_42_p : rw5 τ42 (dz_put g42 p1 3 (ez_v (.inr (.inr none)))) ((q2 : Int) + 1) (rz_rn (rz_b h) (rz_f h 1) (rz_t h 1)) := wr2_p_37_p_42.tr (fun y hy => ⟨hy, qz_put_at _ _ _ _ (fun e => by rw [e, t1k2k37k42] at hy; cases hy)⟩)
        have pf46 : qz_I (dz_put g42 p1 3 (ez_v (.inr (.inr none)))) p1 3 = 0 := w45
        have XF47 := X42.fr (show ez_fr (ez_one p1) g42 (dz_put g42 p1 3 (ez_v (.inr (.inr none)))) from ((ez_fr.refl (ez_one p1) g42).put (show Nat.beq p1 p1 = true from Nat.beq_refl _) _ _)) z1
        refine ez_less [(1, .inr (.inr (some (p1)))), (0, .inr (.inr (some (720))))] rfl ⟨rfl, rfl, trivial⟩ ?_
        exact rd_takeSpecial_b9 hB u193 u202 u203 u720 u721 u722 hs hinj hft hn hZ hz27 ts1 hr1 hr2 hB44 (XF47.mono (by omega) (by omega)) t1k2k37k42 z1 e1 ⟨fun w => (by omega), fun w => absurd ro1 w⟩ ⟨fun _ => ro2, fun _ => pf41_42_p⟩ ⟨fun _ => ro3, fun _ => pf46⟩ (fun _ => by rw [pf36_37_p_42_p]; exact wr2_p_37_p_42_p) (fun w => absurd pf41_42_p w) (fun w => absurd pf46 w) f4_1_2_p_37_p_42_p hSP kN kS
      · skip
        have u720n1k2k37k42 := (x42.1 _ (by rw [u720n1k2k37]; decide)).1.trans u720n1k2k37
        have u202n1k2k37k42 := (x42.1 _ (by rw [u202n1k2k37]; decide)).1.trans u202n1k2k37
        have u721n1k2k37k42 := (x42.1 _ (by rw [u721n1k2k37]; decide)).1.trans u721n1k2k37
        have u722n1k2k37k42 := (x42.1 _ (by rw [u722n1k2k37]; decide)).1.trans u722n1k2k37
        have u193n1k2k37k42 := (x42.1 _ (by rw [u193n1k2k37]; decide)).1.trans u193n1k2k37
        have u203n1k2k37k42 := (x42.1 _ (by rw [u203n1k2k37]; decide)).1.trans u203n1k2k37
        have t1k2k37k42 := (x42.1 _ (by rw [t1k2k37]; decide)).1.trans t1k2k37
        have tq2k37k42 := (x42.1 _ (by rw [tq2k37]; decide)).1.trans tq2k37
        have ro3 : rz_ro (rz_b h) (rz_f h 3) (rz_t h 3) := Classical.byContradiction fun w => by cases hi42.mpr w
        have wr2_p_37_p_42 : rw5 τ42 g42 ((q2 : Int) + 1) (rz_rn (rz_b h) (rz_f h 1) (rz_t h 1)) := wr2_p_37_p.tr (fun y hy => ⟨(x42.1 y (by rw [hy]; decide)).1.trans hy, (x42.1 y (by rw [hy]; decide)).2⟩)
        have wr42 : rw5 τ42 g42 ((q42 : Int) + 1) (rz_rn (rz_b h) (rz_f h 3) (rz_t h 3)) := by have w := hw42 q42 rfl; rw [ab42, af42, at42] at w; exact w
        have f4_1_2_p_37_p_42 : qz_I g42 p1 4 = 0 := (x42.I (by rw [t1k2k37]; decide) 4).trans f4_1_2_p_37_p
        have pf36_37_p_42 : qz_I g42 p1 1 = (q2 : Int) + 1 := (x42.I (by rw [t1k2k37]; decide) 1).trans pf36_37_p
        have pf41_42 : qz_I g42 p1 2 = 0 := (x42.I (by rw [t1k2k37]; decide) 2).trans pf41
        have tq42 := (ho42 _ rfl).1
        have lq42 := dz_here_lt (hB42.1 _ (by rw [tq42]; decide)).1
        have lc42 := X42.2
        refine ez_pf hB42 t1k2k37k42 rfl rfl tq_6 rfl rfl rfl rfl (ez_vdR rfl tq42 (by omega) (by omega)) (fun hB48 w49 => ?_)
        have f4_1_2_p_37_p_42_p : qz_I (dz_put g42 p1 3 (ez_v (.inr (.inr (some (q42)))))) p1 4 = 0 := (ez_put_I (fun w => absurd w.2 (by decide))).trans f4_1_2_p_37_p_42
        have pf36_37_p_42_p : qz_I (dz_put g42 p1 3 (ez_v (.inr (.inr (some (q42)))))) p1 1 = (q2 : Int) + 1 := (ez_put_I (fun w => absurd w.2 (by decide))).trans pf36_37_p_42
        have pf41_42_p : qz_I (dz_put g42 p1 3 (ez_v (.inr (.inr (some (q42)))))) p1 2 = 0 := (ez_put_I (fun w => absurd w.2 (by decide))).trans pf41_42
        have wr2_p_37_p_42_p : rw5 τ42 (dz_put g42 p1 3 (ez_v (.inr (.inr (some (q42)))))) ((q2 : Int) + 1) (rz_rn (rz_b h) (rz_f h 1) (rz_t h 1)) := wr2_p_37_p_42.tr (fun y hy => ⟨hy, qz_put_at _ _ _ _ (fun e => by rw [e, t1k2k37k42] at hy; cases hy)⟩)
        have wr42_p : rw5 τ42 (dz_put g42 p1 3 (ez_v (.inr (.inr (some (q42)))))) ((q42 : Int) + 1) (rz_rn (rz_b h) (rz_f h 3) (rz_t h 3)) := wr42.tr (fun y hy => ⟨hy, qz_put_at _ _ _ _ (fun e => by rw [e, t1k2k37k42] at hy; cases hy)⟩)
        have pf50 : qz_I (dz_put g42 p1 3 (ez_v (.inr (.inr (some (q42)))))) p1 3 = (q42 : Int) + 1 := w49
        have XF51 := X42.fr (show ez_fr (ez_one p1) g42 (dz_put g42 p1 3 (ez_v (.inr (.inr (some (q42)))))) from ((ez_fr.refl (ez_one p1) g42).put (show Nat.beq p1 p1 = true from Nat.beq_refl _) _ _)) z1
        refine ez_less [(1, .inr (.inr (some (p1)))), (0, .inr (.inr (some (720))))] rfl ⟨rfl, rfl, trivial⟩ ?_
        exact rd_takeSpecial_b9 hB u193 u202 u203 u720 u721 u722 hs hinj hft hn hZ hz27 ts1 hr1 hr2 hB48 (XF51.mono (by omega) (by omega)) t1k2k37k42 z1 e1 ⟨fun w => (by omega), fun w => absurd ro1 w⟩ ⟨fun _ => ro2, fun _ => pf41_42_p⟩ ⟨fun w => (by omega), fun w => absurd ro3 w⟩ (fun _ => by rw [pf36_37_p_42_p]; exact wr2_p_37_p_42_p) (fun w => absurd pf41_42_p w) (fun _ => by rw [pf50]; exact wr42_p) f4_1_2_p_37_p_42_p hSP kN kS
    · skip
      have u720n1k2k37 := (x37.1 _ (by rw [u720n1k2]; decide)).1.trans u720n1k2
      have u202n1k2k37 := (x37.1 _ (by rw [u202n1k2]; decide)).1.trans u202n1k2
      have u721n1k2k37 := (x37.1 _ (by rw [u721n1k2]; decide)).1.trans u721n1k2
      have u722n1k2k37 := (x37.1 _ (by rw [u722n1k2]; decide)).1.trans u722n1k2
      have u193n1k2k37 := (x37.1 _ (by rw [u193n1k2]; decide)).1.trans u193n1k2
      have u203n1k2k37 := (x37.1 _ (by rw [u203n1k2]; decide)).1.trans u203n1k2
      have t1k2k37 := (x37.1 _ (by rw [t1k2]; decide)).1.trans t1k2
      have tq2k37 := (x37.1 _ (by rw [tq2]; decide)).1.trans tq2
      have ro2 : rz_ro (rz_b h) (rz_f h 2) (rz_t h 2) := Classical.byContradiction fun w => by cases hi37.mpr w
      have wr2_p_37 : rw5 τ37 g37 ((q2 : Int) + 1) (rz_rn (rz_b h) (rz_f h 1) (rz_t h 1)) := wr2_p.tr (fun y hy => ⟨(x37.1 y (by rw [hy]; decide)).1.trans hy, (x37.1 y (by rw [hy]; decide)).2⟩)
      have wr37 : rw5 τ37 g37 ((q37 : Int) + 1) (rz_rn (rz_b h) (rz_f h 2) (rz_t h 2)) := by have w := hw37 q37 rfl; rw [ab37, af37, at37] at w; exact w
      have f4_1_2_p_37 : qz_I g37 p1 4 = 0 := (x37.I (by rw [t1k2]; decide) 4).trans f4_1_2_p
      have pf36_37 : qz_I g37 p1 1 = (q2 : Int) + 1 := (x37.I (by rw [t1k2]; decide) 1).trans pf36
      have tq37 := (ho37 _ rfl).1
      have lq37 := dz_here_lt (hB37.1 _ (by rw [tq37]; decide)).1
      have lc37 := X37.2
      refine ez_pf hB37 t1k2k37 rfl rfl tq_6 rfl rfl rfl rfl (ez_vdR rfl tq37 (by omega) (by omega)) (fun hB52 w53 => ?_)
      have f4_1_2_p_37_p : qz_I (dz_put g37 p1 2 (ez_v (.inr (.inr (some (q37)))))) p1 4 = 0 := (ez_put_I (fun w => absurd w.2 (by decide))).trans f4_1_2_p_37
      have pf36_37_p : qz_I (dz_put g37 p1 2 (ez_v (.inr (.inr (some (q37)))))) p1 1 = (q2 : Int) + 1 := (ez_put_I (fun w => absurd w.2 (by decide))).trans pf36_37
      have wr2_p_37_p : rw5 τ37 (dz_put g37 p1 2 (ez_v (.inr (.inr (some (q37)))))) ((q2 : Int) + 1) (rz_rn (rz_b h) (rz_f h 1) (rz_t h 1)) := wr2_p_37.tr (fun y hy => ⟨hy, qz_put_at _ _ _ _ (fun e => by rw [e, t1k2k37] at hy; cases hy)⟩)
      have wr37_p : rw5 τ37 (dz_put g37 p1 2 (ez_v (.inr (.inr (some (q37)))))) ((q37 : Int) + 1) (rz_rn (rz_b h) (rz_f h 2) (rz_t h 2)) := wr37.tr (fun y hy => ⟨hy, qz_put_at _ _ _ _ (fun e => by rw [e, t1k2k37] at hy; cases hy)⟩)
      have pf54 : qz_I (dz_put g37 p1 2 (ez_v (.inr (.inr (some (q37)))))) p1 2 = (q37 : Int) + 1 := w53
      refine ez_go (n := 3) (pc' := 29) (L' := [(1, .inr (.inr (some (p1)))), (0, .inr (.inr (some (720))))]) (st' := [.inl (3), .inr (.inr (some (720))), .inr (.inr (some (p1)))]) rfl ?_
      have XF56 := X37.fr (show ez_fr (ez_one p1) g37 (dz_put g37 p1 2 (ez_v (.inr (.inr (some (q37)))))) from ((ez_fr.refl (ez_one p1) g37).put (show Nat.beq p1 p1 = true from Nat.beq_refl _) _ _)) z1
      obtain ⟨ab55, af55, at55⟩ := XF56.bft u193 u721 u722
      have hc55 := XF56.2
      refine ez_cv hB52 u720n1k2k37 rfl rfl rfl tq_52 rfl rfl rfl (rd_readRowOrNothing9 hB52 u720n1k2k37 u193n1k2k37 (by omega) (by omega) (by rw [af55, at55]; exact hft 3 (by omega) (by omega)) (by omega) (by omega) (fun o55 g55 τ55 hB55 x55 ho55 hi55 hw55 => ez_KA ?_))
      rw [ab55, af55, at55] at hi55
      have X55 := XF56.trans x55
      rcases o55 with _ | q55
      · skip
        have u720n1k2k37k55 := (x55.1 _ (by rw [u720n1k2k37]; decide)).1.trans u720n1k2k37
        have u202n1k2k37k55 := (x55.1 _ (by rw [u202n1k2k37]; decide)).1.trans u202n1k2k37
        have u721n1k2k37k55 := (x55.1 _ (by rw [u721n1k2k37]; decide)).1.trans u721n1k2k37
        have u722n1k2k37k55 := (x55.1 _ (by rw [u722n1k2k37]; decide)).1.trans u722n1k2k37
        have u193n1k2k37k55 := (x55.1 _ (by rw [u193n1k2k37]; decide)).1.trans u193n1k2k37
        have u203n1k2k37k55 := (x55.1 _ (by rw [u203n1k2k37]; decide)).1.trans u203n1k2k37
        have t1k2k37k55 := (x55.1 _ (by rw [t1k2k37]; decide)).1.trans t1k2k37
        have tq2k37k55 := (x55.1 _ (by rw [tq2k37]; decide)).1.trans tq2k37
        have tq37k55 := (x55.1 _ (by rw [tq37]; decide)).1.trans tq37
        have ro3 : ¬ rz_ro (rz_b h) (rz_f h 3) (rz_t h 3) := hi55.mp rfl
        have wr2_p_37_p_55 : rw5 τ55 g55 ((q2 : Int) + 1) (rz_rn (rz_b h) (rz_f h 1) (rz_t h 1)) := wr2_p_37_p.tr (fun y hy => ⟨(x55.1 y (by rw [hy]; decide)).1.trans hy, (x55.1 y (by rw [hy]; decide)).2⟩)
        have wr37_p_55 : rw5 τ55 g55 ((q37 : Int) + 1) (rz_rn (rz_b h) (rz_f h 2) (rz_t h 2)) := wr37_p.tr (fun y hy => ⟨(x55.1 y (by rw [hy]; decide)).1.trans hy, (x55.1 y (by rw [hy]; decide)).2⟩)
        have f4_1_2_p_37_p_55 : qz_I g55 p1 4 = 0 := (x55.I (by rw [t1k2k37]; decide) 4).trans f4_1_2_p_37_p
        have pf36_37_p_55 : qz_I g55 p1 1 = (q2 : Int) + 1 := (x55.I (by rw [t1k2k37]; decide) 1).trans pf36_37_p
        have pf54_55 : qz_I g55 p1 2 = (q37 : Int) + 1 := (x55.I (by rw [t1k2k37]; decide) 2).trans pf54
        refine ez_pf hB55 t1k2k37k55 rfl rfl tq_6 rfl rfl rfl rfl (ez_vdN rfl) (fun hB57 w58 => ?_)
        have f4_1_2_p_37_p_55_p : qz_I (dz_put g55 p1 3 (ez_v (.inr (.inr none)))) p1 4 = 0 := (ez_put_I (fun w => absurd w.2 (by decide))).trans f4_1_2_p_37_p_55
        have pf36_37_p_55_p : qz_I (dz_put g55 p1 3 (ez_v (.inr (.inr none)))) p1 1 = (q2 : Int) + 1 := (ez_put_I (fun w => absurd w.2 (by decide))).trans pf36_37_p_55
        have pf54_55_p : qz_I (dz_put g55 p1 3 (ez_v (.inr (.inr none)))) p1 2 = (q37 : Int) + 1 := (ez_put_I (fun w => absurd w.2 (by decide))).trans pf54_55
        have wr2_p_37_p_55_p : rw5 τ55 (dz_put g55 p1 3 (ez_v (.inr (.inr none)))) ((q2 : Int) + 1) (rz_rn (rz_b h) (rz_f h 1) (rz_t h 1)) := wr2_p_37_p_55.tr (fun y hy => ⟨hy, qz_put_at _ _ _ _ (fun e => by rw [e, t1k2k37k55] at hy; cases hy)⟩)
        have wr37_p_55_p : rw5 τ55 (dz_put g55 p1 3 (ez_v (.inr (.inr none)))) ((q37 : Int) + 1) (rz_rn (rz_b h) (rz_f h 2) (rz_t h 2)) := wr37_p_55.tr (fun y hy => ⟨hy, qz_put_at _ _ _ _ (fun e => by rw [e, t1k2k37k55] at hy; cases hy)⟩)
        have pf59 : qz_I (dz_put g55 p1 3 (ez_v (.inr (.inr none)))) p1 3 = 0 := w58
        have XF60 := X55.fr (show ez_fr (ez_one p1) g55 (dz_put g55 p1 3 (ez_v (.inr (.inr none)))) from ((ez_fr.refl (ez_one p1) g55).put (show Nat.beq p1 p1 = true from Nat.beq_refl _) _ _)) z1
        refine ez_less [(1, .inr (.inr (some (p1)))), (0, .inr (.inr (some (720))))] rfl ⟨rfl, rfl, trivial⟩ ?_
        exact rd_takeSpecial_b9 hB u193 u202 u203 u720 u721 u722 hs hinj hft hn hZ hz27 ts1 hr1 hr2 hB57 (XF60.mono (by omega) (by omega)) t1k2k37k55 z1 e1 ⟨fun w => (by omega), fun w => absurd ro1 w⟩ ⟨fun w => (by omega), fun w => absurd ro2 w⟩ ⟨fun _ => ro3, fun _ => pf59⟩ (fun _ => by rw [pf36_37_p_55_p]; exact wr2_p_37_p_55_p) (fun _ => by rw [pf54_55_p]; exact wr37_p_55_p) (fun w => absurd pf59 w) f4_1_2_p_37_p_55_p hSP kN kS
      · skip
        have u720n1k2k37k55 := (x55.1 _ (by rw [u720n1k2k37]; decide)).1.trans u720n1k2k37
        have u202n1k2k37k55 := (x55.1 _ (by rw [u202n1k2k37]; decide)).1.trans u202n1k2k37
        have u721n1k2k37k55 := (x55.1 _ (by rw [u721n1k2k37]; decide)).1.trans u721n1k2k37
        have u722n1k2k37k55 := (x55.1 _ (by rw [u722n1k2k37]; decide)).1.trans u722n1k2k37
        have u193n1k2k37k55 := (x55.1 _ (by rw [u193n1k2k37]; decide)).1.trans u193n1k2k37
        have u203n1k2k37k55 := (x55.1 _ (by rw [u203n1k2k37]; decide)).1.trans u203n1k2k37
        have t1k2k37k55 := (x55.1 _ (by rw [t1k2k37]; decide)).1.trans t1k2k37
        have tq2k37k55 := (x55.1 _ (by rw [tq2k37]; decide)).1.trans tq2k37
        have tq37k55 := (x55.1 _ (by rw [tq37]; decide)).1.trans tq37
        have ro3 : rz_ro (rz_b h) (rz_f h 3) (rz_t h 3) := Classical.byContradiction fun w => by cases hi55.mpr w
        have wr2_p_37_p_55 : rw5 τ55 g55 ((q2 : Int) + 1) (rz_rn (rz_b h) (rz_f h 1) (rz_t h 1)) := wr2_p_37_p.tr (fun y hy => ⟨(x55.1 y (by rw [hy]; decide)).1.trans hy, (x55.1 y (by rw [hy]; decide)).2⟩)
        have wr37_p_55 : rw5 τ55 g55 ((q37 : Int) + 1) (rz_rn (rz_b h) (rz_f h 2) (rz_t h 2)) := wr37_p.tr (fun y hy => ⟨(x55.1 y (by rw [hy]; decide)).1.trans hy, (x55.1 y (by rw [hy]; decide)).2⟩)
        have wr55 : rw5 τ55 g55 ((q55 : Int) + 1) (rz_rn (rz_b h) (rz_f h 3) (rz_t h 3)) := by have w := hw55 q55 rfl; rw [ab55, af55, at55] at w; exact w
        have f4_1_2_p_37_p_55 : qz_I g55 p1 4 = 0 := (x55.I (by rw [t1k2k37]; decide) 4).trans f4_1_2_p_37_p
        have pf36_37_p_55 : qz_I g55 p1 1 = (q2 : Int) + 1 := (x55.I (by rw [t1k2k37]; decide) 1).trans pf36_37_p
        have pf54_55 : qz_I g55 p1 2 = (q37 : Int) + 1 := (x55.I (by rw [t1k2k37]; decide) 2).trans pf54
        have tq55 := (ho55 _ rfl).1
        have lq55 := dz_here_lt (hB55.1 _ (by rw [tq55]; decide)).1
        have lc55 := X55.2
        refine ez_pf hB55 t1k2k37k55 rfl rfl tq_6 rfl rfl rfl rfl (ez_vdR rfl tq55 (by omega) (by omega)) (fun hB61 w62 => ?_)
        have f4_1_2_p_37_p_55_p : qz_I (dz_put g55 p1 3 (ez_v (.inr (.inr (some (q55)))))) p1 4 = 0 := (ez_put_I (fun w => absurd w.2 (by decide))).trans f4_1_2_p_37_p_55
        have pf36_37_p_55_p : qz_I (dz_put g55 p1 3 (ez_v (.inr (.inr (some (q55)))))) p1 1 = (q2 : Int) + 1 := (ez_put_I (fun w => absurd w.2 (by decide))).trans pf36_37_p_55
        have pf54_55_p : qz_I (dz_put g55 p1 3 (ez_v (.inr (.inr (some (q55)))))) p1 2 = (q37 : Int) + 1 := (ez_put_I (fun w => absurd w.2 (by decide))).trans pf54_55
        have wr2_p_37_p_55_p : rw5 τ55 (dz_put g55 p1 3 (ez_v (.inr (.inr (some (q55)))))) ((q2 : Int) + 1) (rz_rn (rz_b h) (rz_f h 1) (rz_t h 1)) := wr2_p_37_p_55.tr (fun y hy => ⟨hy, qz_put_at _ _ _ _ (fun e => by rw [e, t1k2k37k55] at hy; cases hy)⟩)
        have wr37_p_55_p : rw5 τ55 (dz_put g55 p1 3 (ez_v (.inr (.inr (some (q55)))))) ((q37 : Int) + 1) (rz_rn (rz_b h) (rz_f h 2) (rz_t h 2)) := wr37_p_55.tr (fun y hy => ⟨hy, qz_put_at _ _ _ _ (fun e => by rw [e, t1k2k37k55] at hy; cases hy)⟩)
        have wr55_p : rw5 τ55 (dz_put g55 p1 3 (ez_v (.inr (.inr (some (q55)))))) ((q55 : Int) + 1) (rz_rn (rz_b h) (rz_f h 3) (rz_t h 3)) := wr55.tr (fun y hy => ⟨hy, qz_put_at _ _ _ _ (fun e => by rw [e, t1k2k37k55] at hy; cases hy)⟩)
        have pf63 : qz_I (dz_put g55 p1 3 (ez_v (.inr (.inr (some (q55)))))) p1 3 = (q55 : Int) + 1 := w62
        have XF64 := X55.fr (show ez_fr (ez_one p1) g55 (dz_put g55 p1 3 (ez_v (.inr (.inr (some (q55)))))) from ((ez_fr.refl (ez_one p1) g55).put (show Nat.beq p1 p1 = true from Nat.beq_refl _) _ _)) z1
        refine ez_less [(1, .inr (.inr (some (p1)))), (0, .inr (.inr (some (720))))] rfl ⟨rfl, rfl, trivial⟩ ?_
        exact rd_takeSpecial_b9 hB u193 u202 u203 u720 u721 u722 hs hinj hft hn hZ hz27 ts1 hr1 hr2 hB61 (XF64.mono (by omega) (by omega)) t1k2k37k55 z1 e1 ⟨fun w => (by omega), fun w => absurd ro1 w⟩ ⟨fun w => (by omega), fun w => absurd ro2 w⟩ ⟨fun w => (by omega), fun w => absurd ro3 w⟩ (fun _ => by rw [pf36_37_p_55_p]; exact wr2_p_37_p_55_p) (fun _ => by rw [pf54_55_p]; exact wr37_p_55_p) (fun _ => by rw [pf63]; exact wr55_p) f4_1_2_p_37_p_55_p hSP kN kS
end EzTs
abbrev xD : Type := (Int × Int × Int × Int) × (Int × Int × Int) × (Option (List Int) × Option (List Int) × Option (List Int)) × List spz
def xO (τ : Nat → Nat) (h : cz_H) (v : Int) (o : Option (List Int)) : Prop := (o = none → v = 0) ∧ ∀ l, o = some l → rw5 τ h v l
theorem xO.tr {τ τ1 : Nat → Nat} {h g : cz_H} {v : Int} {o : Option (List Int)} (a : xO τ h v o) (e : ∀ q, τ q = 5 → τ1 q = 5 ∧ g.2.2 q = h.2.2 q) : xO τ1 g v o := ⟨a.1, fun l hl => (a.2 l hl).tr e⟩
def xQ (τ : Nat → Nat) (h : cz_H) (O : Nat → Int) (x : Int) (D : xD) (f z : Nat) : Prop := (qz_I h f 1 = D.1.1 ∧ qz_I h f 5 = D.1.2.1 ∧ qz_I h f 6 = D.1.2.2.1 ∧ qz_I h f 7 = D.1.2.2.2) ∧ (qz_I h z 2 = D.2.1.1 ∧ qz_I h z 3 = D.2.1.2.1 ∧ qz_I h z 4 = D.2.1.2.2) ∧ (xO τ h (qz_I h z 5) D.2.2.1.1 ∧ xO τ h (qz_I h z 6) D.2.2.1.2.1 ∧ xO τ h (qz_I h z 7) D.2.2.1.2.2) ∧ sC τ h (fun q => τ q = 6 ∧ O q = x) D.2.2.2 (qz_I h z 8)
def sz_X (τ : Nat → Nat) (h : cz_H) (O : Nat → Int) (D : Int → xD) : Prop := ∀ x k, 0 ≤ x → x ≤ 1114111 → sz_at h x k → xQ τ h O x (D x) (sz_fp h k) (sz_p h k)
def jx (τ : Nat → Nat) (h : cz_H) (D : Int → xD) : Prop := ∃ O, sz_X τ h O D
theorem sz_at_tr {τ : Nat → Nat} {h g : cz_H} (hB : ez_B τ h) (t202 : τ 202 = 48) (t203 : τ 203 = 49) (e2 : qz_I g 202 1 = qz_I h 202 1) (e3 : g.2.2 203 = h.2.2 203) (e4 : ∀ q, τ q = 4 → g.2.2 q = h.2.2 q) {x k : Int} (hk : sz_at g x k) : sz_at h x k ∧ sz_p g k = sz_p h k ∧ sz_fp g k = sz_fp h k ∧ ∀ j, qz_I g (sz_p h k) j = qz_I h (sz_p h k) j := by
  have bn := sz_R_n1 hB t202
  have hp : ∀ k, sz_p g k = sz_p h k := fun k => by unfold sz_p qz_P qz_I; rw [e3]
  have hs : ∀ k, 0 ≤ k → k < 513 → ∀ j, qz_I g (sz_p g k) j = qz_I h (sz_p h k) j := fun k k0 k1 j => by
    rw [hp]
    unfold qz_I
    rw [e4 _ (sz_tag hB t203 k0 k1)]
  have k0 := hk.1
  have k1 := hk.2.1
  have hk' : sz_at h x k := by
    obtain ⟨c0, c1, c2, c3⟩ := hk
    rw [e2] at c1 c3
    unfold sz_f at c2 c3
    refine ⟨c0, c1, ?_, fun w => ?_⟩
    · unfold sz_f; rw [← hs k c0 (by omega)]; exact c2
    · unfold sz_f; rw [← hs (k + 1) (by omega) (by omega)]; exact c3 w
  rw [e2] at k1
  refine ⟨hk', hp k, ?_, fun j => ?_⟩
  · unfold sz_fp qz_P; rw [hs k k0 (by omega)]
  · have := hs k k0 (by omega) j
    rw [hp] at this
    exact this
theorem xQ.tr {τ τ1 : Nat → Nat} {h g : cz_H} {O O1 : Nat → Int} {x : Int} {D : xD} {f z : Nat} (a : xQ τ h O x D f z) (ef : ∀ j, qz_I g f j = qz_I h f j) (ez : ∀ j, qz_I g z j = qz_I h z j) (e5 : ∀ q, τ q = 5 → τ1 q = 5 ∧ g.2.2 q = h.2.2 q) (e6 : ∀ q, τ q = 6 → O q = x → τ1 q = 6 ∧ O1 q = x ∧ g.2.2 q = h.2.2 q) : xQ τ1 g O1 x D f z := by
  obtain ⟨⟨a1, a2, a3, a4⟩, ⟨b1, b2, b3⟩, ⟨c1, c2, c3⟩, d⟩ := a
  refine ⟨⟨by rw [ef]; exact a1, by rw [ef]; exact a2, by rw [ef]; exact a3, by rw [ef]; exact a4⟩, ⟨by rw [ez]; exact b1, by rw [ez]; exact b2, by rw [ez]; exact b3⟩, ⟨by rw [ez]; exact c1.tr e5, by rw [ez]; exact c2.tr e5, by rw [ez]; exact c3.tr e5⟩, ?_⟩
  rw [ez]
  refine sC.tr (fun p p1 p2 => ?_) (fun q hq => ?_) d
  · obtain ⟨u1, u2, -⟩ := e6 p p2.1 p2.2
    exact ⟨u1, u2⟩
  · rcases hq with hq | ⟨-, hq⟩
    · obtain ⟨u1, u2⟩ := e5 q hq
      exact ⟨u1.trans hq.symm, u2⟩
    · obtain ⟨u1, -, u2⟩ := e6 q hq.1 hq.2
      exact ⟨u1.trans hq.1.symm, u2⟩
theorem sz_X_tr {τ τ1 : Nat → Nat} {h g : cz_H} {O O1 : Nat → Int} {D : Int → xD} (hB : ez_B τ h) (t202 : τ 202 = 48) (t203 : τ 203 = 49) (hX : sz_X τ h O D) (e2 : qz_I g 202 1 = qz_I h 202 1) (e3 : g.2.2 203 = h.2.2 203) (e4 : ∀ q, τ q = 3 ∨ τ q = 4 ∨ τ q = 5 ∨ τ q = 6 → τ1 q = τ q ∧ g.2.2 q = h.2.2 q) (eo : ∀ q, τ q = 6 → O1 q = O q) : sz_X τ1 g O1 D := by
  intro x k x0 x1 hk
  obtain ⟨hk', hp, hf, hz⟩ := sz_at_tr hB t202 t203 e2 e3 (fun q hq => (e4 q (by omega)).2) hk
  obtain ⟨-, t3, -⟩ := sz_fp_t hB t202 t203 hk'
  rw [hp, hf]
  refine (hX x k x0 x1 hk').tr (fun j => ?_) hz (fun q hq => ?_) (fun q hq ho => ?_)
  · unfold qz_I; rw [(e4 _ (Or.inl t3)).2]
  · obtain ⟨u1, u2⟩ := e4 q (by omega)
    exact ⟨u1.trans hq, u2⟩
  · obtain ⟨u1, u2⟩ := e4 q (by omega)
    exact ⟨u1.trans hq, (eo q hq).trans ho, u2⟩
theorem jx_tr {τ τ1 : Nat → Nat} {h g : cz_H} {D : Int → xD} (hB : ez_B τ h) (t202 : τ 202 = 48) (t203 : τ 203 = 49) (hX : jx τ h D) (e2 : qz_I g 202 1 = qz_I h 202 1) (e3 : g.2.2 203 = h.2.2 203) (e4 : ∀ q, τ q = 3 ∨ τ q = 4 ∨ τ q = 5 ∨ τ q = 6 → τ1 q = τ q ∧ g.2.2 q = h.2.2 q) : jx τ1 g D := by
  obtain ⟨O, hX⟩ := hX
  exact ⟨O, sz_X_tr hB t202 t203 hX e2 e3 e4 (fun _ _ => rfl)⟩
theorem sz_PSf {τ : Nat → Nat} (t202 : τ 202 = 48) (t203 : τ 203 = 49) {q : Nat} (hq : τ q = 3 ∨ τ q = 5 ∨ τ q = 6) : sz_PS τ q = false := by
  unfold sz_PS
  rw [dz_beq_ne (fun e => by rw [e, t202] at hq; omega), dz_beq_ne (fun e => by rw [e, t203] at hq; omega)]
  rcases hq with hq | hq | hq <;> (rw [hq]; rfl)
theorem jx_F {τ : Nat → Nat} {h g : cz_H} {D D' : Int → xD} {first last : Int} {c : Int × Int × Int × Int} {r : Nat} (hB : ez_B τ h) (t202 : τ 202 = 48) (t203 : τ 203 = 49) (tr : τ r = 3) (hX : jx τ h D) (ht : sz_told τ h g first last r) (r1 : qz_I h r 1 = c.1 ∧ qz_I h r 5 = c.2.1 ∧ qz_I h r 6 = c.2.2.1 ∧ qz_I h r 7 = c.2.2.2) (hD : ∀ x, D' x = if first ≤ x ∧ x ≤ last then (c, (D x).2) else D x) : jx τ g D' := by
  obtain ⟨O, hX⟩ := hX
  obtain ⟨-, -, hf, -, -, hx⟩ := ht
  refine ⟨O, fun x k x0 x1 hk => ?_⟩
  obtain ⟨k', w1, w2, w3⟩ := hx x k x0 x1 hk
  have a := hX x k' x0 x1 w1
  obtain ⟨-, t3, ef⟩ := sz_fp_t hB t202 t203 w1
  have e5 : ∀ q, τ q = 5 → τ q = 5 ∧ g.2.2 q = h.2.2 q := fun q hq => ⟨hq, hf.2.2 q (sz_PSf t202 t203 (by omega))⟩
  have e6 : ∀ q, τ q = 6 → g.2.2 q = h.2.2 q := fun q hq => hf.2.2 q (sz_PSf t202 t203 (by omega))
  have fI : ∀ q, τ q = 3 → ∀ j, qz_I g q j = qz_I h q j := fun q hq j => hf.I (sz_PSf t202 t203 (Or.inl hq)) j
  obtain ⟨⟨a1, a2, a3, a4⟩, ⟨b1, b2, b3⟩, ⟨c1, c2, c3⟩, d⟩ := a
  have rest : (qz_I g (sz_p g k) 2 = (D x).2.1.1 ∧ qz_I g (sz_p g k) 3 = (D x).2.1.2.1 ∧ qz_I g (sz_p g k) 4 = (D x).2.1.2.2) ∧ (xO τ g (qz_I g (sz_p g k) 5) (D x).2.2.1.1 ∧ xO τ g (qz_I g (sz_p g k) 6) (D x).2.2.1.2.1 ∧ xO τ g (qz_I g (sz_p g k) 7) (D x).2.2.1.2.2) ∧ sC τ g (fun q => τ q = 6 ∧ O q = x) (D x).2.2.2 (qz_I g (sz_p g k) 8) := by
    rw [w2 2 (by omega) (by omega), w2 3 (by omega) (by omega), w2 4 (by omega) (by omega), w2 5 (by omega) (by omega), w2 6 (by omega) (by omega), w2 7 (by omega) (by omega), w2 8 (by omega) (by omega)]
    refine ⟨⟨b1, b2, b3⟩, ⟨c1.tr e5, c2.tr e5, c3.tr e5⟩, sC.tr (fun _ _ w => w) (fun q hq => ⟨rfl, ?_⟩) d⟩
    rcases hq with hq | ⟨hq, -⟩
    · exact (e5 q hq).2
    · exact e6 q hq
  have hDx := hD x
  by_cases e : first ≤ x ∧ x ≤ last
  · rw [if_pos e] at w3 hDx
    have hfp : sz_fp g k = r := by unfold sz_fp qz_P; omega
    rw [hDx, hfp]
    exact ⟨by rw [fI r tr, fI r tr, fI r tr, fI r tr]; exact r1, rest⟩
  · rw [if_neg e] at w3 hDx
    have hfp : sz_fp g k = sz_fp h k' := by unfold sz_fp qz_P; rw [w3]
    rw [hDx, hfp]
    exact ⟨by rw [fI _ t3, fI _ t3, fI _ t3, fI _ t3]; exact ⟨a1, a2, a3, a4⟩, rest⟩
theorem sz_X_R {τ : Nat → Nat} {h g : cz_H} {O : Nat → Int} {D D' : Int → xD} {first last : Int} {Rl : Prop → Nat → Int → Int → Prop} (hB : ez_B τ h) (t202 : τ 202 = 48) (t203 : τ 203 = 49) (hX : sz_X τ h O D) (ht : sz_toldR τ h g first last Rl) (h1 : ∀ P u v, Rl P 1 u v → v = u) (h2 : ∀ (x : Int) (a b : Nat → Int), (∀ j, 1 ≤ j → j ≤ 8 → Rl (first ≤ x ∧ x ≤ last) j (a j) (b j)) → (D' x).1 = (D x).1 ∧ ((a 2 = (D x).2.1.1 ∧ a 3 = (D x).2.1.2.1 ∧ a 4 = (D x).2.1.2.2) → (b 2 = (D' x).2.1.1 ∧ b 3 = (D' x).2.1.2.1 ∧ b 4 = (D' x).2.1.2.2)) ∧ ((xO τ g (a 5) (D x).2.2.1.1 ∧ xO τ g (a 6) (D x).2.2.1.2.1 ∧ xO τ g (a 7) (D x).2.2.1.2.2) → (xO τ g (b 5) (D' x).2.2.1.1 ∧ xO τ g (b 6) (D' x).2.2.1.2.1 ∧ xO τ g (b 7) (D' x).2.2.1.2.2)) ∧ (sC τ g (fun q => τ q = 6 ∧ O q = x) (D x).2.2.2 (a 8) → sC τ g (fun q => τ q = 6 ∧ O q = x) (D' x).2.2.2 (b 8))) : sz_X τ g O D' := by
  obtain ⟨-, -, hf, -, -, hx⟩ := ht
  intro x k x0 x1 hk
  obtain ⟨k', w1, w2⟩ := hx x k x0 x1 hk
  obtain ⟨-, t3, ef⟩ := sz_fp_t hB t202 t203 w1
  have e5 : ∀ q, τ q = 5 → τ q = 5 ∧ g.2.2 q = h.2.2 q := fun q hq => ⟨hq, hf.2.2 q (sz_PSf t202 t203 (by omega))⟩
  have e6 : ∀ q, τ q = 6 → g.2.2 q = h.2.2 q := fun q hq => hf.2.2 q (sz_PSf t202 t203 (by omega))
  have fI : ∀ j, qz_I g (sz_fp h k') j = qz_I h (sz_fp h k') j := fun j => hf.I (sz_PSf t202 t203 (Or.inl t3)) j
  have e1 := h1 _ _ _ (w2 1 (by omega) (by omega))
  have hfp : sz_fp g k = sz_fp h k' := by unfold sz_fp qz_P; rw [e1]
  obtain ⟨a, b, ⟨c1, c2, c3⟩, d⟩ := hX x k' x0 x1 w1
  obtain ⟨y1, y2, y3, y4⟩ := h2 x (fun j => qz_I h (sz_p h k') j) (fun j => qz_I g (sz_p g k) j) w2
  refine ⟨?_, y2 b, y3 ⟨c1.tr e5, c2.tr e5, c3.tr e5⟩, y4 (sC.tr (fun _ _ w => w) (fun q hq => ⟨rfl, ?_⟩) d)⟩
  · rw [hfp, y1, fI, fI, fI, fI]; exact a
  · rcases hq with hq | ⟨hq, -⟩
    · exact (e5 q hq).2
    · exact e6 q hq
theorem sz_X_P {τ : Nat → Nat} {h g : cz_H} {O : Nat → Int} {D D' : Int → xD} {first last gr nm : Int} (hB : ez_B τ h) (t202 : τ 202 = 48) (t203 : τ 203 = 49) (hX : sz_X τ h O D) (ht : sz_toldR τ h g first last (sz_RP gr nm)) (hD : ∀ x, D' x = if first ≤ x ∧ x ≤ last then ((D x).1, (sz_set gr nm 2 (D x).2.1.1, sz_set gr nm 3 (D x).2.1.2.1, sz_set gr nm 4 (D x).2.1.2.2), (D x).2.2) else D x) : sz_X τ g O D' := by
  have hj : ∀ (j : Nat) (u : Int), j ≠ 2 → j ≠ 3 → j ≠ 4 → sz_set gr nm j u = u := fun j u a b c => by
    unfold sz_set
    rw [if_neg (fun w => a w.1), if_neg (fun w => b w.1), if_neg (fun w => c w.1)]
  refine sz_X_R hB t202 t203 hX ht (fun P u v w => ?_) (fun x a b w => ?_)
  · by_cases hP : P
    · rw [w.1 hP]; exact hj 1 u (by decide) (by decide) (by decide)
    · exact w.2 hP
  · by_cases e : first ≤ x ∧ x ≤ last
    · have hDx := hD x
      rw [if_pos e] at hDx
      have v : ∀ j, 1 ≤ j → j ≤ 8 → b j = sz_set gr nm j (a j) := fun j j1 j8 => (w j j1 j8).1 e
      rw [hDx]
      refine ⟨rfl, fun y => ⟨?_, ?_, ?_⟩, fun y => ?_, fun y => ?_⟩
      · rw [v 2 (by decide) (by decide), y.1]
      · rw [v 3 (by decide) (by decide), y.2.1]
      · rw [v 4 (by decide) (by decide), y.2.2]
      · rw [v 5 (by decide) (by decide), v 6 (by decide) (by decide), v 7 (by decide) (by decide), hj 5 _ (by decide) (by decide) (by decide), hj 6 _ (by decide) (by decide) (by decide), hj 7 _ (by decide) (by decide) (by decide)]
        exact y
      · rw [v 8 (by decide) (by decide), hj 8 _ (by decide) (by decide) (by decide)]
        exact y
    · have hDx := hD x
      rw [if_neg e] at hDx
      have v : ∀ j, 1 ≤ j → j ≤ 8 → b j = a j := fun j j1 j8 => (w j j1 j8).2 e
      rw [hDx, v 2 (by decide) (by decide), v 3 (by decide) (by decide), v 4 (by decide) (by decide), v 5 (by decide) (by decide), v 6 (by decide) (by decide), v 7 (by decide) (by decide), v 8 (by decide) (by decide)]
      exact ⟨rfl, id, id, id⟩
def xf (c : Int) (l : List Int) (D : xD) : xD := (D.1, D.2.1, (if c = 67 then some l else D.2.2.1.1, if c = 70 then some l else D.2.2.1.2.1, if c = 84 then some l else D.2.2.1.2.2), D.2.2.2)
theorem xO_s {τ : Nat → Nat} {h : cz_H} {v : Int} {l : List Int} (a : rw5 τ h v l) : xO τ h v (some l) := ⟨fun e => (by cases e), fun l2 e => (by cases e; exact a)⟩
theorem sz_X_S {τ : Nat → Nat} {h g : cz_H} {O : Nat → Int} {D D' : Int → xD} {p c w : Int} {J : Nat} {l : List Int} (hB : ez_B τ h) (t202 : τ 202 = 48) (t203 : τ 203 = 49) (hX : sz_X τ h O D) (hJ : fJ c J) (ht : sz_toldR τ h g p p (sz_RS J w)) (hr : rw5 τ h w l) (hD : ∀ x, D' x = if p ≤ x ∧ x ≤ p then xf c l (D x) else D x) : sz_X τ g O D' := by
  have hf := ht.2.2.1
  have e5 : ∀ q, τ q = 5 → τ q = 5 ∧ g.2.2 q = h.2.2 q := fun q hq => ⟨hq, hf.2.2 q (sz_PSf t202 t203 (by omega))⟩
  have hr2 : xO τ g w (some l) := xO_s (hr.tr e5)
  have J5 : 5 ≤ J := by rcases hJ with h | h | h | h <;> omega
  have J8 : J ≠ 8 := by rcases hJ with h | h | h | h <;> omega
  refine sz_X_R hB t202 t203 hX ht (fun P u v q => ?_) (fun x a b q => ?_)
  · by_cases hP : P
    · rw [q.1 hP, if_neg (by omega)]
    · exact q.2 hP
  · by_cases e : p ≤ x ∧ x ≤ p
    · have hDx := hD x
      rw [if_pos e] at hDx
      have v : ∀ j, 1 ≤ j → j ≤ 8 → b j = if j = J then w else a j := fun j j1 j8 => (q j j1 j8).1 e
      have v2 := v 2 (by decide) (by decide)
      have v3 := v 3 (by decide) (by decide)
      have v4 := v 4 (by decide) (by decide)
      have v5 := v 5 (by decide) (by decide)
      have v6 := v 6 (by decide) (by decide)
      have v7 := v 7 (by decide) (by decide)
      have v8 := v 8 (by decide) (by decide)
      rw [if_neg (by omega)] at v2 v3 v4 v8
      rw [hDx, v2, v3, v4, v8]
      refine ⟨rfl, fun y => y, fun y => ?_, fun y => y⟩
      show xO τ g (b 5) (if c = 67 then some l else (D x).2.2.1.1) ∧ xO τ g (b 6) (if c = 70 then some l else (D x).2.2.1.2.1) ∧ xO τ g (b 7) (if c = 84 then some l else (D x).2.2.1.2.2)
      rcases hJ with ⟨u1, u2⟩ | ⟨u1, u2⟩ | ⟨u1, u2⟩ | ⟨u1, u2, u3, u4⟩
      · rw [u2] at v5 v6 v7
        rw [if_pos rfl] at v5
        rw [if_neg (by decide)] at v6 v7
        rw [if_pos u1, if_neg (by omega), if_neg (by omega), v5, v6, v7]
        exact ⟨hr2, y.2⟩
      · rw [u2] at v5 v6 v7
        rw [if_pos rfl] at v6
        rw [if_neg (by decide)] at v5 v7
        rw [if_neg (by omega), if_pos u1, if_neg (by omega), v5, v6, v7]
        exact ⟨y.1, hr2, y.2.2⟩
      · rw [u2] at v5 v6 v7
        rw [if_pos rfl] at v7
        rw [if_neg (by decide)] at v5 v6
        rw [if_neg (by omega), if_neg (by omega), if_pos u1, v5, v6, v7]
        exact ⟨y.1, y.2.1, hr2⟩
      · rw [u4] at v5 v6 v7
        rw [if_neg (by decide)] at v5 v6 v7
        rw [if_neg u1, if_neg u2, if_neg u3, v5, v6, v7]
        exact y
    · have hDx := hD x
      rw [if_neg e] at hDx
      have v : ∀ j, 1 ≤ j → j ≤ 8 → b j = a j := fun j j1 j8 => (q j j1 j8).2 e
      rw [hDx, v 2 (by decide) (by decide), v 3 (by decide) (by decide), v 4 (by decide) (by decide), v 5 (by decide) (by decide), v 6 (by decide) (by decide), v 7 (by decide) (by decide), v 8 (by decide) (by decide)]
      exact ⟨rfl, id, id, id⟩
theorem sz_X_C {τ : Nat → Nat} {h g1 g : cz_H} {O : Nat → Int} {D D' : Int → xD} {p : Int} {r : Nat} {n : spz} (hB : ez_B τ h) (hB1 : ez_B τ g1) (t202 : τ 202 = 48) (t203 : τ 203 = 49) (hX : sz_X τ h O D) (tr : τ r = 6) (orp : O r = p) (nr : nod τ h r n) (r4 : qz_I h r 4 = 0) (ha : ((D p).2.2.2 = [] ∧ sz_toldR τ h g1 p p (sz_RS 8 ((r : Int) + 1)) ∧ g = g1) ∨ (sz_toldR τ h g1 p p (sz_RS 9 0) ∧ ∃ t : Nat, (τ t = 6 ∧ O t = p) ∧ (∀ y, y ≠ t → g.2.2 y = g1.2.2 y) ∧ ∀ k, sz_at h p k → sC τ g (fun q => τ q = 6 ∧ O q = p) ((D p).2.2.2 ++ [n]) (qz_I h (sz_p h k) 8))) (hD : ∀ x, D' x = if p ≤ x ∧ x ≤ p then ((D x).1, (D x).2.1, (D x).2.2.1, (D x).2.2.2 ++ [n]) else D x) : sz_X τ g O D' := by
  rcases ha with ⟨hn, ht, eg⟩ | ⟨ht, t, ⟨t6, to⟩, hg, hc⟩
  · rw [← eg] at ht
    have hf := ht.2.2.1
    have e5 : ∀ q, τ q = 5 → τ q = 5 ∧ g.2.2 q = h.2.2 q := fun q hq => ⟨hq, hf.2.2 q (sz_PSf t202 t203 (by omega))⟩
    have er : ∀ j, qz_I g r j = qz_I h r j := fun j => hf.I (sz_PSf t202 t203 (by omega)) j
    refine sz_X_R hB t202 t203 hX ht (fun P u v q => ?_) (fun x a b q => ?_)
    · by_cases hP : P
      · rw [q.1 hP, if_neg (by decide)]
      · exact q.2 hP
    · by_cases e : p ≤ x ∧ x ≤ p
      · have hDx := hD x
        rw [if_pos e] at hDx
        have ex : x = p := by omega
        have v : ∀ j, 1 ≤ j → j ≤ 8 → b j = if j = 8 then (r : Int) + 1 else a j := fun j j1 j8 => (q j j1 j8).1 e
        have v7 : ∀ j, 1 ≤ j → j ≤ 7 → b j = a j := fun j j1 j8 => by rw [v j j1 (by omega), if_neg (by omega)]
        have v8 := v 8 (by decide) (by decide)
        rw [if_pos rfl] at v8
        rw [hDx, v7 2 (by decide) (by decide), v7 3 (by decide) (by decide), v7 4 (by decide) (by decide), v7 5 (by decide) (by decide), v7 6 (by decide) (by decide), v7 7 (by decide) (by decide), v8]
        refine ⟨rfl, id, id, fun _ => ?_⟩
        show sC τ g (fun q => τ q = 6 ∧ O q = x) ((D x).2.2.2 ++ [n]) ((r : Int) + 1)
        rw [ex, hn]
        exact ⟨r, rfl, ⟨tr, orp⟩, nr.tr tr (fun j _ => er j) e5, by rw [er]; exact r4⟩
      · have hDx := hD x
        rw [if_neg e] at hDx
        have v : ∀ j, 1 ≤ j → j ≤ 8 → b j = a j := fun j j1 j8 => (q j j1 j8).2 e
        rw [hDx, v 2 (by decide) (by decide), v 3 (by decide) (by decide), v 4 (by decide) (by decide), v 5 (by decide) (by decide), v 6 (by decide) (by decide), v 7 (by decide) (by decide), v 8 (by decide) (by decide)]
        exact ⟨rfl, id, id, id⟩
  · have hX1 : sz_X τ g1 O D := by
      refine sz_X_R hB t202 t203 hX ht (fun P u v q => ?_) (fun x a b q => ?_)
      · by_cases hP : P
        · rw [q.1 hP, if_neg (by decide)]
        · exact q.2 hP
      · have v : ∀ j, 1 ≤ j → j ≤ 8 → b j = a j := fun j j1 j8 => by
          by_cases e : p ≤ x ∧ x ≤ p
          · rw [(q j j1 j8).1 e, if_neg (by omega)]
          · exact (q j j1 j8).2 e
        rw [v 2 (by decide) (by decide), v 3 (by decide) (by decide), v 4 (by decide) (by decide), v 5 (by decide) (by decide), v 6 (by decide) (by decide), v 7 (by decide) (by decide), v 8 (by decide) (by decide)]
        exact ⟨rfl, id, id, id⟩
    have n6 : ∀ q, τ q ≠ 6 → g.2.2 q = g1.2.2 q := fun q hq => hg q (fun e => by rw [e, t6] at hq; exact hq rfl)
    intro x k x0 x1 hk
    obtain ⟨hk', hp, hfp, hz⟩ := sz_at_tr hB1 t202 t203 (show qz_I g 202 1 = qz_I g1 202 1 by unfold qz_I; rw [n6 202 (by rw [t202]; decide)]) (n6 203 (by rw [t203]; decide)) (fun q hq => n6 q (by rw [hq]; decide)) hk
    obtain ⟨-, t3, -⟩ := sz_fp_t hB1 t202 t203 hk'
    have ef : ∀ j, qz_I g (sz_fp g1 k) j = qz_I g1 (sz_fp g1 k) j := fun j => by unfold qz_I; rw [n6 _ (by rw [t3]; decide)]
    have e5 : ∀ q, τ q = 5 → τ q = 5 ∧ g.2.2 q = g1.2.2 q := fun q hq => ⟨hq, n6 q (by rw [hq]; decide)⟩
    have a := hX1 x k x0 x1 hk'
    rw [hp, hfp]
    have hDx := hD x
    by_cases e : p ≤ x ∧ x ≤ p
    · rw [if_pos e] at hDx
      have ex : x = p := by omega
      obtain ⟨k', w1, w2⟩ := ht.2.2.2.2.2 x k x0 x1 hk'
      have w8 : qz_I g1 (sz_p g1 k) 8 = qz_I h (sz_p h k') 8 := by
        have := (w2 8 (by decide) (by decide)).1 e
        rw [if_neg (by decide)] at this
        exact this
      obtain ⟨⟨a1, a2, a3, a4⟩, ⟨b1, b2, b3⟩, ⟨c1, c2, c3⟩, -⟩ := a
      rw [hDx]
      refine ⟨⟨by rw [ef]; exact a1, by rw [ef]; exact a2, by rw [ef]; exact a3, by rw [ef]; exact a4⟩, ⟨by rw [hz]; exact b1, by rw [hz]; exact b2, by rw [hz]; exact b3⟩, ⟨by rw [hz]; exact c1.tr e5, by rw [hz]; exact c2.tr e5, by rw [hz]; exact c3.tr e5⟩, ?_⟩
      rw [hz, w8, ex]
      rw [ex] at w1
      exact hc k' w1
    · rw [if_neg e] at hDx
      rw [hDx]
      exact a.tr ef hz e5 (fun q hq ho => ⟨hq, ho, hg q (fun e2 => e (by rw [e2, to] at ho; omega))⟩)
abbrev vy : Type := (Int × Int × Int) × (Int × Int × Int × Int) × (Int × Int) × spz
def lyE (b : Int → Int) (n kind : Int) (v : vy) : Prop :=
  (kind = 0 ∧ ∃ A, rz_A b n 7 A ∧ v = ((0, rz_first b (rz_ff b A 0) (rz_tt b A 0), rz_last b (rz_ff b A 0) (rz_tt b A 0)), (b (rz_ff b A 1) * 256 + b (rz_ff b A 1 + 1), rz_code b (rz_ff b A 4) (rz_tt b A 4), rz_code b (rz_ff b A 5) (rz_tt b A 5), rz_code b (rz_ff b A 6) (rz_tt b A 6)), (0, 0), (0, [], [], []))) ∨
  (kind = 1 ∧ ∃ A, rz_A b n 5 A ∧ v = ((1, rz_code b (rz_ff b A 0) (rz_tt b A 0), rz_code b (rz_ff b A 0) (rz_tt b A 0)), (0, 0, 0, 0), (0, 0), (nz_cd b (rz_tt b A 4) (rz_ct b (rz_ff b A 4) (rz_tt b A 4 - rz_ff b A 4).toNat (rz_ff b A 4)) (rz_ff b A 4) 0, rz_rn b (rz_ff b A 1) (rz_tt b A 1), rz_rn b (rz_ff b A 2) (rz_tt b A 2), rz_rn b (rz_ff b A 3) (rz_tt b A 3)))) ∨
  (kind = 2 ∧ ∃ A vs, rz_A b n 3 A ∧ rz_rw b 18 (rz_ff b A 2) (rz_tt b A 2) = some vs ∧ v = ((2, rz_code b (rz_ff b A 0) (rz_tt b A 0), rz_code b (rz_ff b A 0) (rz_tt b A 0)), (0, 0, 0, 0), (b (rz_ff b A 1), 0), (0, vs, [], []))) ∨
  (kind = 3 ∧ ∃ A gr nm, rz_A b n 2 A ∧ rz_PV b (rz_ff b A 1) (rz_tt b A 1) gr nm ∧ v = ((3, rz_first b (rz_ff b A 0) (rz_tt b A 0), rz_last b (rz_ff b A 0) (rz_tt b A 0)), (0, 0, 0, 0), (gr, nm), (0, [], [], []))) ∨
  (kind = 4 ∧ v = ((4, 0, 0), (0, 0, 0, 0), (0, 0), (0, [], [], [])))
theorem rz_PV_uniq {b : Int → Int} {s t gr nm gr' nm' : Int} (h : rz_PV b s t gr nm) (h' : rz_PV b s t gr' nm') : gr = gr' ∧ nm = nm' := by
  rcases h with ⟨a, e1, e2⟩ | ⟨a, b, e1, e2⟩ | ⟨a, b, e1, e2⟩ <;> rcases h' with ⟨a', f1, f2⟩ | ⟨a', b', f1, f2⟩ | ⟨a', b', f1, f2⟩ <;> first | exact ⟨e1.trans f1.symm, e2.trans f2.symm⟩ | exact absurd a a' | exact absurd a' a | exact absurd b b' | exact absurd b' b
theorem lyE_uniq {b : Int → Int} {n kind : Int} {v v' : vy} (h : lyE b n kind v) (h' : lyE b n kind v') : v = v' := by
  rcases h with ⟨k, A, a1, a2⟩ | ⟨k, A, a1, a2⟩ | ⟨k, A, vs, a1, a2, a3⟩ | ⟨k, A, gr, nm, a1, a2, a3⟩ | ⟨k, a2⟩ <;> rcases h' with ⟨k', A', b1, b2⟩ | ⟨k', A', b1, b2⟩ | ⟨k', A', vs', b1, b2, b3⟩ | ⟨k', A', gr', nm', b1, b2, b3⟩ | ⟨k', b2⟩ <;> first | omega | skip
  · rw [← rz_A_uniq a1 b1] at b2; exact a2.trans b2.symm
  · rw [← rz_A_uniq a1 b1] at b2; exact a2.trans b2.symm
  · rw [← rz_A_uniq a1 b1] at b2 b3
    rw [a2] at b2; cases b2
    exact a3.trans b3.symm
  · rw [← rz_A_uniq a1 b1] at b2 b3
    obtain ⟨rfl, rfl⟩ := rz_PV_uniq a2 b2
    exact a3.trans b3.symm
  · exact a2.trans b2.symm
def xd (D : Int → xD) (v : vy) : Int → xD := fun y => if v.1.2.1 ≤ y ∧ y ≤ v.1.2.2 then (if v.1.1 = 0 then (v.2.1, (D y).2) else if v.1.1 = 1 then ((D y).1, (D y).2.1, (D y).2.2.1, (D y).2.2.2 ++ [v.2.2.2]) else if v.1.1 = 2 then xf v.2.2.1.1 v.2.2.2.2.1 (D y) else if v.1.1 = 3 then ((D y).1, (sz_set v.2.2.1.1 v.2.2.1.2 2 (D y).2.1.1, sz_set v.2.2.1.1 v.2.2.1.2 3 (D y).2.1.2.1, sz_set v.2.2.1.1 v.2.2.1.2 4 (D y).2.1.2.2), (D y).2.2) else D y) else D y
theorem xd_0 (D : Int → xD) (a c : Int) (t : Int × Int × Int × Int) (u : Int × Int) (s : spz) (y : Int) : xd D ((0, a, c), t, u, s) y = if a ≤ y ∧ y ≤ c then (t, (D y).2) else D y := by
  show (if a ≤ y ∧ y ≤ c then (if (0 : Int) = 0 then (t, (D y).2) else if (0 : Int) = 1 then ((D y).1, (D y).2.1, (D y).2.2.1, (D y).2.2.2 ++ [s]) else if (0 : Int) = 2 then xf u.1 s.2.1 (D y) else if (0 : Int) = 3 then ((D y).1, (sz_set u.1 u.2 2 (D y).2.1.1, sz_set u.1 u.2 3 (D y).2.1.2.1, sz_set u.1 u.2 4 (D y).2.1.2.2), (D y).2.2) else D y) else D y) = _
  rw [if_pos (show (0 : Int) = 0 from rfl)]
theorem xd_1 (D : Int → xD) (a c : Int) (t : Int × Int × Int × Int) (u : Int × Int) (s : spz) (y : Int) : xd D ((1, a, c), t, u, s) y = if a ≤ y ∧ y ≤ c then ((D y).1, (D y).2.1, (D y).2.2.1, (D y).2.2.2 ++ [s]) else D y := by
  show (if a ≤ y ∧ y ≤ c then (if (1 : Int) = 0 then (t, (D y).2) else if (1 : Int) = 1 then ((D y).1, (D y).2.1, (D y).2.2.1, (D y).2.2.2 ++ [s]) else if (1 : Int) = 2 then xf u.1 s.2.1 (D y) else if (1 : Int) = 3 then ((D y).1, (sz_set u.1 u.2 2 (D y).2.1.1, sz_set u.1 u.2 3 (D y).2.1.2.1, sz_set u.1 u.2 4 (D y).2.1.2.2), (D y).2.2) else D y) else D y) = _
  rw [if_neg (show ¬ (1 : Int) = 0 by decide), if_pos (show (1 : Int) = 1 from rfl)]
theorem xd_2 (D : Int → xD) (a c : Int) (t : Int × Int × Int × Int) (u : Int × Int) (s : spz) (y : Int) : xd D ((2, a, c), t, u, s) y = if a ≤ y ∧ y ≤ c then xf u.1 s.2.1 (D y) else D y := by
  show (if a ≤ y ∧ y ≤ c then (if (2 : Int) = 0 then (t, (D y).2) else if (2 : Int) = 1 then ((D y).1, (D y).2.1, (D y).2.2.1, (D y).2.2.2 ++ [s]) else if (2 : Int) = 2 then xf u.1 s.2.1 (D y) else if (2 : Int) = 3 then ((D y).1, (sz_set u.1 u.2 2 (D y).2.1.1, sz_set u.1 u.2 3 (D y).2.1.2.1, sz_set u.1 u.2 4 (D y).2.1.2.2), (D y).2.2) else D y) else D y) = _
  rw [if_neg (show ¬ (2 : Int) = 0 by decide), if_neg (show ¬ (2 : Int) = 1 by decide), if_pos (show (2 : Int) = 2 from rfl)]
theorem xd_3 (D : Int → xD) (a c : Int) (t : Int × Int × Int × Int) (u : Int × Int) (s : spz) (y : Int) : xd D ((3, a, c), t, u, s) y = if a ≤ y ∧ y ≤ c then ((D y).1, (sz_set u.1 u.2 2 (D y).2.1.1, sz_set u.1 u.2 3 (D y).2.1.2.1, sz_set u.1 u.2 4 (D y).2.1.2.2), (D y).2.2) else D y := by
  show (if a ≤ y ∧ y ≤ c then (if (3 : Int) = 0 then (t, (D y).2) else if (3 : Int) = 1 then ((D y).1, (D y).2.1, (D y).2.2.1, (D y).2.2.2 ++ [s]) else if (3 : Int) = 2 then xf u.1 s.2.1 (D y) else if (3 : Int) = 3 then ((D y).1, (sz_set u.1 u.2 2 (D y).2.1.1, sz_set u.1 u.2 3 (D y).2.1.2.1, sz_set u.1 u.2 4 (D y).2.1.2.2), (D y).2.2) else D y) else D y) = _
  rw [if_neg (show ¬ (3 : Int) = 0 by decide), if_neg (show ¬ (3 : Int) = 1 by decide), if_neg (show ¬ (3 : Int) = 2 by decide), if_pos (show (3 : Int) = 3 from rfl)]
theorem xd_4 (D : Int → xD) (a c : Int) (t : Int × Int × Int × Int) (u : Int × Int) (s : spz) : xd D ((4, a, c), t, u, s) = D := by
  funext y
  show (if a ≤ y ∧ y ≤ c then (if (4 : Int) = 0 then (t, (D y).2) else if (4 : Int) = 1 then ((D y).1, (D y).2.1, (D y).2.2.1, (D y).2.2.2 ++ [s]) else if (4 : Int) = 2 then xf u.1 s.2.1 (D y) else if (4 : Int) = 3 then ((D y).1, (sz_set u.1 u.2 2 (D y).2.1.1, sz_set u.1 u.2 3 (D y).2.1.2.1, sz_set u.1 u.2 4 (D y).2.1.2.2), (D y).2.2) else D y) else D y) = _
  rw [if_neg (show ¬ (4 : Int) = 0 by decide), if_neg (show ¬ (4 : Int) = 1 by decide), if_neg (show ¬ (4 : Int) = 2 by decide), if_neg (show ¬ (4 : Int) = 3 by decide)]
  split <;> rfl
def xD0 : Int → xD := fun _ => ((17262, -1, -1, -1), (0, 0, 0), (none, none, none), [])
def xDs (Es : List vy) : Int → xD := Es.foldl xd xD0
theorem xDs_app (Es : List vy) (v : vy) : xDs (Es ++ [v]) = xd (xDs Es) v := by unfold xDs; rw [List.foldl_append]; rfl
def xsl (b : Int → Int) (n kind : Int) (D : Int → xD) (v : Int) (D2 : Int → xD) : Prop := (v = -1 ∧ D2 = D) ∨ (v ≠ -1 ∧ ∃ y, lyE b n kind y ∧ D2 = xd D y)
section EzTa
variable {d : Nat} {h : cz_H} {τ : Nat → Nat} {Q : cz_F → Prop}
theorem rd_take09 {F : rz_W} {E : Int → Prop} {n : Int} {D : Int → xD} (hI : jz_I τ h F E) (hX : jx τ h D) (n0 : 0 ≤ n) (n1 : n ≤ 4096) (hl : n = 0 ∨ qz_I h 202 5 ≤ 255) (hr1 : h.1 + 4 ≤ 600192) (hr2 : h.2.1 + 59 ≤ 7302232) (k : ∀ g τ1 F2 E2 (v : Int) D2, jz_I τ1 g F2 E2 → fz τ h τ1 g 4 59 → rz_step (rz_b h) n 0 F E F2 E2 → ((v = -1 ∧ qz_I g 202 5 = qz_I h 202 5) ∨ (0 ≤ v ∧ v ≤ 1114112 ∧ 0 < n ∧ qz_I g 202 5 = qz_I h 202 5 + 1)) → (∀ j, j ≠ 1 → j ≠ 4 → j ≠ 5 → qz_I g 202 j = qz_I h 202 j) → rz_an (rz_b h) n 7 (rz_g0 (rz_b h)) v → xsl (rz_b h) n 0 D v D2 → jx τ1 g D2 → Q (.inl (some (ez_v (.inl v))), g)) : ez_W (d + 8) cm_174 0 [(0, .inr (.inr (some (720)))), (1, .inl (0)), (2, .inl (n))] [] h Q := by
  have t193 : τ 193 = 45 := hI.2.1 193 (by decide)
  have t202 : τ 202 = 48 := hI.2.1 202 (by decide)
  have t203 : τ 203 = 49 := hI.2.1 203 (by decide)
  have t204 : τ 204 = 50 := hI.2.1 204 (by decide)
  have t205 : τ 205 = 51 := hI.2.1 205 (by decide)
  have t720 : τ 720 = 52 := hI.2.1 720 (by decide)
  have t721 : τ 721 = 53 := hI.2.1 721 (by decide)
  have t722 : τ 722 = 54 := hI.2.1 722 (by decide)
  have hB := hI.1
  refine ez_go (n := 1) (pc' := 1) (L' := [(0, .inr (.inr (some (720)))), (1, .inl (0)), (2, .inl (n))]) (st' := [.inr (.inr (some (720)))]) rfl ?_
  refine ez_gC (p := 202) (tg := 48) hB t720 rfl rfl tq_52 rfl rfl (fun (t202 : _ = 48) => ?_)
  refine ez_gI hB t202 rfl rfl tq_48 rfl rfl (fun (b1 : 0 ≤ qz_I h 202 5) (b1' : qz_I h 202 5 ≤ 256) => ?_)
  refine ez_go (n := 1) (pc' := 10) (L' := [(0, .inr (.inr (some (720)))), (1, .inl (0)), (2, .inl (n))]) (st' := [.inl (256), .inl (qz_I h 202 5)]) rfl ?_
  refine ez_icmp rfl rfl ⟨by first | omega | exact (sz_i32 _).1, by first | omega | exact (sz_i32 _).2⟩ ⟨by first | omega | exact (sz_i32 _).1, by first | omega | exact (sz_i32 _).2⟩ (fun (c2 : (256) ≤ (qz_I h 202 5)) => ?_) (fun (c2 : ¬((256) ≤ (qz_I h 202 5))) => ?_)
  · skip
    refine ez_go (n := 1) (pc' := 26) (L' := [(0, .inr (.inr (some (720)))), (1, .inl (0)), (2, .inl (n))]) (st' := [.inl (-1)]) rfl ?_
    exact ez_retI rfl rfl (k h τ F E (-1) D hI (fz.refl _ _ _ _) ⟨fun _ => Or.inr ⟨(fun ⟨_, _, _, _, A, hA, _⟩ => by have := rz_A_pos (by decide) hA; omega), rfl, rfl⟩, fun w => absurd w (by decide), fun w _ => absurd rfl w⟩ (Or.inl ⟨rfl, rfl⟩) (fun _ _ _ _ => rfl) (rz_an_n (fun ⟨A, hA⟩ => by have := rz_A_pos (by decide) hA; omega)) (Or.inl ⟨rfl, rfl⟩) hX)
  · skip
    refine ez_go (n := 3) (pc' := 16) (L' := [(0, .inr (.inr (some (720)))), (1, .inl (0)), (2, .inl (n))]) (st' := [.inl (0), .inl (n), .inr (.inr (some (720)))]) rfl ?_
    refine ez_cs hB.2.1 rfl rfl rfl rfl rfl (rd_fieldsOf0 (ez_K1 ?_))
    refine ez_cv hB t720 rfl rfl rfl tq_52 rfl rfl rfl (rd_split hB t720 t721 t722 n0 n1 (by omega) (by omega) (fun g0 hB0 f0 hno => ez_K1 ?_) (fun g0 c hB0 f0 hpl hha hlen hfl => ez_K1 ?_))
    · skip
      have x0 := fz_ft t721 t722 f0
      have q202 : ∀ j, qz_I g0 202 j = qz_I h 202 j := fun j => f0.I rfl j
      have hI0 : jz_I τ g0 F E := jz_no hI hB0 x0 q202 (f0.2.2 203 rfl) (f0.2.2 205 rfl) (fun q hq => f0.2.2 q (by unfold rz_ft; rw [dz_beq_ne (fun e => by rw [e, t721] at hq; cases hq), dz_beq_ne (fun e => by rw [e, t722] at hq; cases hq)]; rfl))
      have hX0 : jx τ g0 D := jx_tr hI.1 t202 t203 hX (q202 1) (f0.2.2 203 rfl) (fun q hq => ⟨rfl, f0.2.2 q (by unfold rz_ft; rw [dz_beq_ne (fun e => by rw [e, t721] at hq; omega), dz_beq_ne (fun e => by rw [e, t722] at hq; omega)]; rfl)⟩)
      have b0 : rz_b g0 = rz_b h := rz_b_fr f0 rfl
      refine ez_if rfl rfl ⟨by decide, by decide⟩ (fun (c3 : (0 : Int) ≠ (0)) => absurd c3 (by decide)) (fun _ => ?_)
      refine ez_go (n := 1) (pc' := 26) (L' := [(0, .inr (.inr (some (720)))), (1, .inl (0)), (2, .inl (n))]) (st' := [.inl (-1)]) rfl ?_
      exact ez_retI rfl rfl (k g0 τ F E (-1) D hI0 (x0.mono (by omega) (by omega)) ⟨fun _ => Or.inr ⟨(fun ⟨_, _, _, _, A, hA, _⟩ => by obtain ⟨c, c1, c2, c3, c4⟩ := hA; exact hno c1 c c2.1 c2.2.1 c2.2.2.1 c2.2.2.2 (by rw [← c3]; exact c4)), rfl, rfl⟩, fun w => absurd w (by decide), fun w _ => absurd rfl w⟩ (Or.inl ⟨rfl, q202 5⟩) (fun j _ _ _ => q202 j) (rz_an_n (fun ⟨A, hA⟩ => by obtain ⟨c, c1, c2, c3, c4⟩ := hA; exact hno c1 c c2.1 c2.2.1 c2.2.2.1 c2.2.2.2 (by rw [← c3]; exact c4))) (Or.inl ⟨rfl, rfl⟩) hX0)
    · skip
      have x0 := fz_ft t721 t722 f0
      have q202 : ∀ j, qz_I g0 202 j = qz_I h 202 j := fun j => f0.I rfl j
      have hI0 : jz_I τ g0 F E := jz_no hI hB0 x0 q202 (f0.2.2 203 rfl) (f0.2.2 205 rfl) (fun q hq => f0.2.2 q (by unfold rz_ft; rw [dz_beq_ne (fun e => by rw [e, t721] at hq; cases hq), dz_beq_ne (fun e => by rw [e, t722] at hq; cases hq)]; rfl))
      have hX0 : jx τ g0 D := jx_tr hI.1 t202 t203 hX (q202 1) (f0.2.2 203 rfl) (fun q hq => ⟨rfl, f0.2.2 q (by unfold rz_ft; rw [dz_beq_ne (fun e => by rw [e, t721] at hq; omega), dz_beq_ne (fun e => by rw [e, t722] at hq; omega)]; rfl)⟩)
      have b0 : rz_b g0 = rz_b h := rz_b_fr f0 rfl
      have hA : rz_A (rz_b h) n 7 (rz_seg (rz_b h) c.toNat 0 0) := ⟨c, hpl, hha, rfl, hlen⟩
      generalize rz_seg (rz_b h) c.toNat 0 0 = A at hA hfl hlen
      have hlen : (A.length : Int) = 7 := by rw [hlen]; rfl
      have hfa : ∀ k, 0 ≤ k → k ≤ 6 → rz_f g0 k = rz_ff (rz_b h) A k ∧ rz_t g0 k = rz_tt (rz_b h) A k := fun k k0 k1 => rz_flds_at hfl k0 (by omega)
      have hft : ∀ k, 0 ≤ k → k ≤ 6 → rz_f g0 k ≤ rz_t g0 k := fun k k0 k1 => by
        obtain ⟨w1, w2⟩ := hfa k k0 k1
        rw [w1, w2]
        exact rz_A_ff hA (by omega) (by omega)
      have hlt : qz_I h 202 5 ≤ 255 := by omega
      have hnp := rz_A_pos (by decide) hA
      have fc0 := x0.2
      have i6 := hI.2.2.2.2.1
      have hsp : qz_I g0 202 1 + 2 ≤ 513 := by rw [q202]; omega
      refine ez_if rfl rfl ⟨by decide, by decide⟩ (fun _ => ?_) (fun (c4 : ¬((1 : Int) ≠ (0))) => absurd c4 (by decide))
      refine ez_go (n := 1) (pc' := 28) (L' := [(0, .inr (.inr (some (720)))), (1, .inl (0)), (2, .inl (n))]) (st' := [.inl (0)]) rfl ?_
      refine ez_sw rfl ⟨by decide, by decide⟩ ⟨_, rfl, rfl⟩ ?_
      refine ez_go (n := 1) (pc' := 61) (L' := [(0, .inr (.inr (some (720)))), (1, .inl (0)), (2, .inl (n))]) (st' := [.inr (.inr (some (720)))]) rfl ?_
      refine ez_cv hB0 t720 rfl rfl rfl tq_52 rfl rfl rfl (rd_takeFact9 hB0 t193 t202 t203 t720 t721 t722 hI0.2.2.1.1 hI0.2.2.1.2 hft hsp (by omega) (by omega) (fun g1 τ1 hB1 hx hno => ez_K1 ?_) (fun g1 h1 τ1 first last cls dec hB1 hBh hx t3 hF r0 r2 hD hrE ht => ez_K1 ?_))
      · skip
        have xx := x0.trans (fz_xr t720 hx)
        have w202 : ∀ j, qz_I g1 202 j = qz_I g0 202 j := fun j => hx.I (by rw [t202]; decide) (by decide) j
        have hI1 : jz_I τ1 g1 F E := jz_no hI0 hB1 (fz_xr t720 hx) w202 ((hx.1 203 (by rw [t203]; decide)).2 (by decide)) ((hx.1 205 (by rw [t205]; decide)).2 (by decide)) (fun q hq => (hx.1 q (by rw [hq]; decide)).2 (fun e => by rw [e, t720] at hq; cases hq))
        have u202 : τ1 202 = 48 := hI1.2.1 202 (by decide)
        have u720 : τ1 720 = 52 := hI1.2.1 720 (by decide)
        have u203 : τ1 203 = 49 := hI1.2.1 203 (by decide)
        have hX1 : jx τ1 g1 D := jx_tr hI0.1 t202 t203 hX0 (w202 1) ((hx.1 203 (by rw [t203]; decide)).2 (by decide)) (fun q hq => ⟨(hx.1 q (by omega)).1, (hx.1 q (by omega)).2 (fun e => by rw [e, t720] at hq; omega)⟩)
        have hnone : ¬ ∃ first last cls dec, rz_L0 (rz_b h) n first last cls dec := fun ⟨f, l, c2, dd, A2, hA2, w⟩ => hno ⟨f, l, c2, dd, by rw [← rz_A_uniq hA hA2] at w; rw [b0]; exact rz_F_congr (fun k k0 k1 => (hfa k k0 k1).1.symm) (fun k k0 k1 => (hfa k k0 k1).2.symm) w⟩
        have hans : rz_an (rz_b h) n 7 (rz_g0 (rz_b h)) (-1) := rz_an_f hA (fun v w => by obtain ⟨f, l, c2, dd, w1, -⟩ := w; exact hnone ⟨f, l, c2, dd, A, hA, w1⟩)
        refine ez_go (n := 2) (pc' := 97) (L' := [(3, .inl (-1)), (0, .inr (.inr (some (720)))), (1, .inl (0)), (2, .inl (n))]) (st' := []) rfl ?_
        refine ez_less [(3, .inl (-1)), (0, .inr (.inr (some (720)))), (1, .inl (0)), (2, .inl (n))] rfl ⟨rfl, rfl, rfl, rfl, trivial⟩ ?_
        refine rd_take_e hB1 u720 u202 (by omega) (by omega) (Or.inl rfl) (fun g9 hB9 f9 j9 l9 => ?_)
        rw [if_pos rfl] at l9
        have y9 := fz_1 u202 rfl f9
        have e9 : ∀ j, qz_I g9 202 j = qz_I g1 202 j := fun j => by by_cases w : j = 5; (· rw [w, l9]; omega); (· exact j9 j w)
        have hI9 : jz_I τ1 g9 F E := jz_no hI1 hB9 y9 e9 (f9.2.2 203 rfl) (f9.2.2 205 rfl) (fun q hq => f9.2.2 q (rz_ne hq u202 rfl))
        have hX9 : jx τ1 g9 D := jx_tr hB1 u202 u203 hX1 (e9 1) (f9.2.2 203 rfl) (fun q hq => ⟨rfl, f9.2.2 q (dz_beq_ne (fun e => by rw [e, u202] at hq; omega))⟩)
        exact k g9 _ F E (-1) D hI9 ((xx.trans y9).mono (by omega) (by omega)) ⟨fun _ => Or.inr ⟨hnone, rfl, rfl⟩, fun w => absurd w (by decide), fun w _ => absurd rfl w⟩ (Or.inl ⟨rfl, by rw [e9, w202, q202]⟩) (fun j _ _ _ => by rw [e9, w202, q202]) hans (Or.inl ⟨rfl, rfl⟩) hX9
      · skip
        have xr := fz_xr t720 hx
        have X1 := hI0.2.1.fz xr
        have u202 : τ1 202 = 48 := X1 202 (by decide)
        have u203 : τ1 203 = 49 := X1 203 (by decide)
        have u204 : τ1 204 = 50 := X1 204 (by decide)
        have u205 : τ1 205 = 51 := X1 205 (by decide)
        have u720 : τ1 720 = 52 := X1 720 (by decide)
        have w202 : ∀ j, qz_I h1 202 j = qz_I g0 202 j := fun j => hx.I (by rw [t202]; decide) (by decide) j
        have c205 : h1.2.2 205 = g0.2.2 205 := (hx.1 205 (by rw [t205]; decide)).2 (by decide)
        have c203 : h1.2.2 203 = g0.2.2 203 := (hx.1 203 (by rw [t203]; decide)).2 (by decide)
        have c4 : ∀ q, τ q = 4 → h1.2.2 q = g0.2.2 q := fun q hq => (hx.1 q (by rw [hq]; decide)).2 (fun e => by rw [e, t720] at hq; cases hq)
        have hXh : jx τ1 h1 D := jx_tr hB0 t202 t203 hX0 (w202 1) c203 (fun q hq => ⟨(hx.1 q (by omega)).1, (hx.1 q (by omega)).2 (fun e => by rw [e, t720] at hq; omega)⟩)
        have hDh : sz_D τ1 h1 F E := sz_D_tr hB0 t202 t203 hI0.2.2.2.2.2.2.1 (w202 1) c203 c4 (fun q hq => by have := (xr.1 q (by rw [hq]; decide)).2 (by rw [hq]; rfl); unfold qz_I; rw [this]; exact ⟨rfl, rfl, rfl, rfl⟩) (fun p hp => by have := xr.1 p (by rw [hp]; decide); exact ⟨this.1.trans hp, this.2 (by rw [hp]; rfl)⟩)
        have hok9 : sz_ok g1 ∧ sz_inj g1 := ⟨ht.1, ht.2.1⟩
        have p205 : sz_PS τ1 205 = false := by unfold sz_PS; rw [u205]; rfl
        have hE9 : ∀ i : Nat, (i : Int) < qz_I g1 202 4 → 1 ≤ qz_I g1 205 i := fun i hi => by rw [ht.2.2.2.1 4 (by decide), w202] at hi; rw [ht.2.2.1.I p205]; unfold qz_I; rw [c205]; exact hI0.2.2.2.1 i hi
        have hn9 : qz_I g1 202 1 ≤ qz_I g0 202 1 + 2 := by have := ht.2.2.2.2.1; rw [w202] at this; exact this
        have h59 : qz_I g1 202 5 = qz_I g0 202 5 := (ht.2.2.2.1 5 (by decide)).trans (w202 5)
        have ho9 : ∀ j, j ≠ 1 → j ≠ 4 → qz_I g1 202 j = qz_I g0 202 j := fun j j1 _ => (ht.2.2.2.1 j j1).trans (w202 j)
        have xg := xr.trans (fz_PS u202 u203 ht.2.2.1)
        rw [b0] at hF
        have hF := rz_F_congr (fun k k0 k1 => (hfa k k0 k1).1) (fun k k0 k1 => (hfa k k0 k1).2) hF
        have hF1 := hF.1
        have bl := rz_last_bd (rz_b h) (rz_ff (rz_b h) A 0) (rz_tt (rz_b h) A 0)
        have bf := rz_code_bd (rz_b h) (rz_ff (rz_b h) A 0) (rz_dots (rz_b h) (rz_tt (rz_b h) A 0 - rz_ff (rz_b h) A 0).toNat (rz_ff (rz_b h) A 0))
        have ef2 : rz_first (rz_b h) (rz_ff (rz_b h) A 0) (rz_tt (rz_b h) A 0) = rz_code (rz_b h) (rz_ff (rz_b h) A 0) (rz_dots (rz_b h) (rz_tt (rz_b h) A 0 - rz_ff (rz_b h) A 0).toNat (rz_ff (rz_b h) A 0)) := rfl
        have hone : dec ≠ none → first = last := fun w => by
          by_cases e : first < last
          · exfalso
            rcases hF.2.2.2.1 with ⟨_, w2⟩ | ⟨w2, _⟩
            · exact w w2
            · exact w2 (hF.2.2.2.2.2 e 3 (by omega) (by omega))
          · omega
        obtain ⟨F2, hF2⟩ : ∃ F2 : rz_W, ∀ x, F2 x = if first ≤ x ∧ x ≤ last then (cls, dec) else F x := ⟨fun x => if first ≤ x ∧ x ≤ last then (cls, dec) else F x, fun x => rfl⟩
        obtain ⟨E2, hE2⟩ : ∃ E2, E2 = E := ⟨E, rfl⟩
        have hD9 : sz_D τ1 g1 F2 E2 := by rw [hE2]; exact sz_D_F hBh u202 u203 t3 hDh ht r0 r2 hD hone hF2
        have hXs : ∃ y, ∀ x, (F2 x).2 ≠ none → (F x).2 ≠ none ∨ x = y := ⟨first, fun x hx => by
          rw [hF2 x] at hx
          by_cases e : first ≤ x ∧ x ≤ last
          · rw [if_pos e] at hx; have := hone hx; exact Or.inr (by omega)
          · rw [if_neg e] at hx; exact Or.inl hx⟩
        have hstep : rz_step (rz_b h) n 0 F E F2 E2 := ⟨fun _ => Or.inl ⟨first, last, cls, dec, ⟨A, hA, hF⟩, hF2, hE2⟩, fun w => absurd w (by decide), fun w _ => absurd rfl w⟩
        have hans : rz_an (rz_b h) n 7 (rz_g0 (rz_b h)) (last - first + 1) := Or.inl ⟨A, hA, first, last, cls, dec, hF, rfl⟩
        unfold rz_E at hrE; rw [b0, (hfa 1 (by omega) (by omega)).1, (hfa 4 (by omega) (by omega)).1, (hfa 5 (by omega) (by omega)).1, (hfa 6 (by omega) (by omega)).1, (hfa 4 (by omega) (by omega)).2, (hfa 5 (by omega) (by omega)).2, (hfa 6 (by omega) (by omega)).2] at hrE
        obtain ⟨D2, hD2⟩ : ∃ D2, D2 = xd D ((0, rz_first (rz_b h) (rz_ff (rz_b h) A 0) (rz_tt (rz_b h) A 0), rz_last (rz_b h) (rz_ff (rz_b h) A 0) (rz_tt (rz_b h) A 0)), (rz_b h (rz_ff (rz_b h) A 1) * 256 + rz_b h (rz_ff (rz_b h) A 1 + 1), rz_code (rz_b h) (rz_ff (rz_b h) A 4) (rz_tt (rz_b h) A 4), rz_code (rz_b h) (rz_ff (rz_b h) A 5) (rz_tt (rz_b h) A 5), rz_code (rz_b h) (rz_ff (rz_b h) A 6) (rz_tt (rz_b h) A 6)), (0, 0), (0, [], [], [])) := ⟨_, rfl⟩
        have hxs : xsl (rz_b h) n 0 D (last - first + 1) D2 := Or.inr ⟨by omega, _, Or.inl ⟨rfl, A, hA, rfl⟩, hD2⟩
        have hX1 : jx τ1 g1 D2 := jx_F hBh u202 u203 t3 hXh ht hrE (fun x => by rw [hD2, xd_0, ← hF1.1, ← hF1.2.1])
        refine ez_go (n := 2) (pc' := 97) (L' := [(3, .inl (last - first + 1)), (0, .inr (.inr (some (720)))), (1, .inl (0)), (2, .inl (n))]) (st' := []) rfl ?_
        refine ez_less [(3, .inl (last - first + 1)), (0, .inr (.inr (some (720)))), (1, .inl (0)), (2, .inl (n))] rfl ⟨rfl, rfl, rfl, rfl, trivial⟩ ?_
        refine rd_take_e hB1 u720 u202 (by omega) (by omega) (Or.inr (by rw [h59, q202]; exact hlt)) (fun g9 hB9 f9 j9 l9 => ?_)
        rw [if_neg (by omega)] at l9
        have y9 := fz_1 u202 rfl f9
        have hX9 : jx τ1 g9 D2 := jx_tr hB1 u202 u203 hX1 (j9 1 (by decide)) (f9.2.2 203 rfl) (fun q hq => ⟨rfl, f9.2.2 q (dz_beq_ne (fun e => by rw [e, u202] at hq; omega))⟩)
        refine k g9 _ F2 E2 _ D2 (jz_yes hI0 hB9 (xg.trans y9) hB1 hok9 hE9 hn9 h59 hD9 f9 j9 l9 hXs) (((x0.trans xg).trans y9).mono (by omega) (by omega)) hstep (Or.inr ⟨by omega, by omega, hnp, by rw [l9, h59, q202]⟩) (fun j j1 j4 j5 => by rw [j9 j j5, ho9 j j1 j4, q202]) hans hxs hX9
theorem rd_take19 {F : rz_W} {E : Int → Prop} {n : Int} {D : Int → xD} (hI : jz_I τ h F E) (hX : jx τ h D) (n0 : 0 ≤ n) (n1 : n ≤ 4096) (hl : n = 0 ∨ qz_I h 202 5 ≤ 255) (hr1 : h.1 + 4 ≤ 600192) (hr2 : h.2.1 + 59 ≤ 7302232) (k : ∀ g τ1 F2 E2 (v : Int) D2, jz_I τ1 g F2 E2 → fz τ h τ1 g 4 59 → rz_step (rz_b h) n 1 F E F2 E2 → ((v = -1 ∧ qz_I g 202 5 = qz_I h 202 5) ∨ (0 ≤ v ∧ v ≤ 1114112 ∧ 0 < n ∧ qz_I g 202 5 = qz_I h 202 5 + 1)) → (∀ j, j ≠ 1 → j ≠ 4 → j ≠ 5 → qz_I g 202 j = qz_I h 202 j) → rz_an (rz_b h) n 5 (rz_g1 (rz_b h)) v → xsl (rz_b h) n 1 D v D2 → jx τ1 g D2 → Q (.inl (some (ez_v (.inl v))), g)) : ez_W (d + 8) cm_174 0 [(0, .inr (.inr (some (720)))), (1, .inl (1)), (2, .inl (n))] [] h Q := by
  have t193 : τ 193 = 45 := hI.2.1 193 (by decide)
  have t202 : τ 202 = 48 := hI.2.1 202 (by decide)
  have t203 : τ 203 = 49 := hI.2.1 203 (by decide)
  have t204 : τ 204 = 50 := hI.2.1 204 (by decide)
  have t205 : τ 205 = 51 := hI.2.1 205 (by decide)
  have t720 : τ 720 = 52 := hI.2.1 720 (by decide)
  have t721 : τ 721 = 53 := hI.2.1 721 (by decide)
  have t722 : τ 722 = 54 := hI.2.1 722 (by decide)
  have hB := hI.1
  refine ez_go (n := 1) (pc' := 1) (L' := [(0, .inr (.inr (some (720)))), (1, .inl (1)), (2, .inl (n))]) (st' := [.inr (.inr (some (720)))]) rfl ?_
  refine ez_gC (p := 202) (tg := 48) hB t720 rfl rfl tq_52 rfl rfl (fun (t202 : _ = 48) => ?_)
  refine ez_gI hB t202 rfl rfl tq_48 rfl rfl (fun (b1 : 0 ≤ qz_I h 202 5) (b1' : qz_I h 202 5 ≤ 256) => ?_)
  refine ez_go (n := 1) (pc' := 10) (L' := [(0, .inr (.inr (some (720)))), (1, .inl (1)), (2, .inl (n))]) (st' := [.inl (256), .inl (qz_I h 202 5)]) rfl ?_
  refine ez_icmp rfl rfl ⟨by first | omega | exact (sz_i32 _).1, by first | omega | exact (sz_i32 _).2⟩ ⟨by first | omega | exact (sz_i32 _).1, by first | omega | exact (sz_i32 _).2⟩ (fun (c2 : (256) ≤ (qz_I h 202 5)) => ?_) (fun (c2 : ¬((256) ≤ (qz_I h 202 5))) => ?_)
  · skip
    refine ez_go (n := 1) (pc' := 26) (L' := [(0, .inr (.inr (some (720)))), (1, .inl (1)), (2, .inl (n))]) (st' := [.inl (-1)]) rfl ?_
    exact ez_retI rfl rfl (k h τ F E (-1) D hI (fz.refl _ _ _ _) ⟨fun w => absurd w (by decide), fun w => absurd w (by decide), fun _ _ => ⟨rfl, rfl⟩⟩ (Or.inl ⟨rfl, rfl⟩) (fun _ _ _ _ => rfl) (rz_an_n (fun ⟨A, hA⟩ => by have := rz_A_pos (by decide) hA; omega)) (Or.inl ⟨rfl, rfl⟩) hX)
  · skip
    refine ez_go (n := 3) (pc' := 16) (L' := [(0, .inr (.inr (some (720)))), (1, .inl (1)), (2, .inl (n))]) (st' := [.inl (1), .inl (n), .inr (.inr (some (720)))]) rfl ?_
    refine ez_cs hB.2.1 rfl rfl rfl rfl rfl (rd_fieldsOf1 (ez_K1 ?_))
    refine ez_cv hB t720 rfl rfl rfl tq_52 rfl rfl rfl (rd_split hB t720 t721 t722 n0 n1 (by omega) (by omega) (fun g0 hB0 f0 hno => ez_K1 ?_) (fun g0 c hB0 f0 hpl hha hlen hfl => ez_K1 ?_))
    · skip
      have x0 := fz_ft t721 t722 f0
      have q202 : ∀ j, qz_I g0 202 j = qz_I h 202 j := fun j => f0.I rfl j
      have hI0 : jz_I τ g0 F E := jz_no hI hB0 x0 q202 (f0.2.2 203 rfl) (f0.2.2 205 rfl) (fun q hq => f0.2.2 q (by unfold rz_ft; rw [dz_beq_ne (fun e => by rw [e, t721] at hq; cases hq), dz_beq_ne (fun e => by rw [e, t722] at hq; cases hq)]; rfl))
      have hX0 : jx τ g0 D := jx_tr hI.1 t202 t203 hX (q202 1) (f0.2.2 203 rfl) (fun q hq => ⟨rfl, f0.2.2 q (by unfold rz_ft; rw [dz_beq_ne (fun e => by rw [e, t721] at hq; omega), dz_beq_ne (fun e => by rw [e, t722] at hq; omega)]; rfl)⟩)
      have b0 : rz_b g0 = rz_b h := rz_b_fr f0 rfl
      refine ez_if rfl rfl ⟨by decide, by decide⟩ (fun (c3 : (0 : Int) ≠ (0)) => absurd c3 (by decide)) (fun _ => ?_)
      refine ez_go (n := 1) (pc' := 26) (L' := [(0, .inr (.inr (some (720)))), (1, .inl (1)), (2, .inl (n))]) (st' := [.inl (-1)]) rfl ?_
      exact ez_retI rfl rfl (k g0 τ F E (-1) D hI0 (x0.mono (by omega) (by omega)) ⟨fun w => absurd w (by decide), fun w => absurd w (by decide), fun _ _ => ⟨rfl, rfl⟩⟩ (Or.inl ⟨rfl, q202 5⟩) (fun j _ _ _ => q202 j) (rz_an_n (fun ⟨A, hA⟩ => by obtain ⟨c, c1, c2, c3, c4⟩ := hA; exact hno c1 c c2.1 c2.2.1 c2.2.2.1 c2.2.2.2 (by rw [← c3]; exact c4))) (Or.inl ⟨rfl, rfl⟩) hX0)
    · skip
      have x0 := fz_ft t721 t722 f0
      have q202 : ∀ j, qz_I g0 202 j = qz_I h 202 j := fun j => f0.I rfl j
      have hI0 : jz_I τ g0 F E := jz_no hI hB0 x0 q202 (f0.2.2 203 rfl) (f0.2.2 205 rfl) (fun q hq => f0.2.2 q (by unfold rz_ft; rw [dz_beq_ne (fun e => by rw [e, t721] at hq; cases hq), dz_beq_ne (fun e => by rw [e, t722] at hq; cases hq)]; rfl))
      have hX0 : jx τ g0 D := jx_tr hI.1 t202 t203 hX (q202 1) (f0.2.2 203 rfl) (fun q hq => ⟨rfl, f0.2.2 q (by unfold rz_ft; rw [dz_beq_ne (fun e => by rw [e, t721] at hq; omega), dz_beq_ne (fun e => by rw [e, t722] at hq; omega)]; rfl)⟩)
      have b0 : rz_b g0 = rz_b h := rz_b_fr f0 rfl
      have hA : rz_A (rz_b h) n 5 (rz_seg (rz_b h) c.toNat 0 0) := ⟨c, hpl, hha, rfl, hlen⟩
      generalize rz_seg (rz_b h) c.toNat 0 0 = A at hA hfl hlen
      have hlen : (A.length : Int) = 5 := by rw [hlen]; rfl
      have hfa : ∀ k, 0 ≤ k → k ≤ 4 → rz_f g0 k = rz_ff (rz_b h) A k ∧ rz_t g0 k = rz_tt (rz_b h) A k := fun k k0 k1 => rz_flds_at hfl k0 (by omega)
      have hft : ∀ k, 0 ≤ k → k ≤ 4 → rz_f g0 k ≤ rz_t g0 k := fun k k0 k1 => by
        obtain ⟨w1, w2⟩ := hfa k k0 k1
        rw [w1, w2]
        exact rz_A_ff hA (by omega) (by omega)
      have hlt : qz_I h 202 5 ≤ 255 := by omega
      have hnp := rz_A_pos (by decide) hA
      have fc0 := x0.2
      have i6 := hI.2.2.2.2.1
      have hsp : qz_I g0 202 1 + 2 ≤ 513 := by rw [q202]; omega
      refine ez_if rfl rfl ⟨by decide, by decide⟩ (fun _ => ?_) (fun (c4 : ¬((1 : Int) ≠ (0))) => absurd c4 (by decide))
      refine ez_go (n := 1) (pc' := 28) (L' := [(0, .inr (.inr (some (720)))), (1, .inl (1)), (2, .inl (n))]) (st' := [.inl (1)]) rfl ?_
      refine ez_sw rfl ⟨by decide, by decide⟩ ⟨_, rfl, rfl⟩ ?_
      refine ez_go (n := 1) (pc' := 69) (L' := [(0, .inr (.inr (some (720)))), (1, .inl (1)), (2, .inl (n))]) (st' := [.inr (.inr (some (720)))]) rfl ?_
      obtain ⟨O9, hXO⟩ := hX0
      have hX0 : jx τ g0 D := ⟨O9, hXO⟩
      refine ez_cv hB0 t720 rfl rfl rfl tq_52 rfl rfl rfl (rd_takeSpecial9 (O := O9) (SP := fun x => (D x).2.2.2) hB0 t193 t202 t203 t720 t721 t722 hI0.2.2.1.1 hI0.2.2.1.2 hft hsp hI0.2.2.2.2.2.1 (nz_hz hB0 hI0.2.1) (hI0.2.1 1 (by decide)) (by omega) (by omega) (fun x k x0 x1 hk => (hXO x k x0 x1 hk).2.2.2) (fun g1 τ1 hB1 hx hno2 => ez_K1 ?_) (fun g1 g3 h1 τ1 p r9 n9 hB1 hBh hB3 hx z9 t9 nd9 r49 en9 ep9 ha9 hG9 => ez_K1 ?_))
      · skip
        have xx := x0.trans (fz_xt hx)
        have w202 : ∀ j, qz_I g1 202 j = qz_I g0 202 j := fun j => hx.I (by rw [t202]; decide) j
        have hI1 : jz_I τ1 g1 F E := jz_no hI0 hB1 (fz_xt hx) w202 ((hx.1 203 (by rw [t203]; decide)).2) ((hx.1 205 (by rw [t205]; decide)).2) (fun q hq => (hx.1 q (by rw [hq]; decide)).2)
        have u202 : τ1 202 = 48 := hI1.2.1 202 (by decide)
        have u720 : τ1 720 = 52 := hI1.2.1 720 (by decide)
        have u203 : τ1 203 = 49 := hI1.2.1 203 (by decide)
        have hX1 : jx τ1 g1 D := jx_tr hI0.1 t202 t203 hX0 (w202 1) ((hx.1 203 (by rw [t203]; decide)).2) (fun q hq => ⟨(hx.1 q (by omega)).1, (hx.1 q (by omega)).2⟩)
        have hans : rz_an (rz_b h) n 5 (rz_g1 (rz_b h)) (-1) := rz_an_f hA (fun v w => hno2 (by have w1 := w.1; unfold rz_G1 at w1 ⊢; rw [b0, (hfa 0 (by omega) (by omega)).1, (hfa 0 (by omega) (by omega)).2, (hfa 1 (by omega) (by omega)).1, (hfa 1 (by omega) (by omega)).2, (hfa 2 (by omega) (by omega)).1, (hfa 2 (by omega) (by omega)).2, (hfa 3 (by omega) (by omega)).1, (hfa 3 (by omega) (by omega)).2, (hfa 4 (by omega) (by omega)).1, (hfa 4 (by omega) (by omega)).2]; exact w1))
        refine ez_go (n := 2) (pc' := 97) (L' := [(3, .inl (-1)), (0, .inr (.inr (some (720)))), (1, .inl (1)), (2, .inl (n))]) (st' := []) rfl ?_
        refine ez_less [(3, .inl (-1)), (0, .inr (.inr (some (720)))), (1, .inl (1)), (2, .inl (n))] rfl ⟨rfl, rfl, rfl, rfl, trivial⟩ ?_
        refine rd_take_e hB1 u720 u202 (by omega) (by omega) (Or.inl rfl) (fun g9 hB9 f9 j9 l9 => ?_)
        rw [if_pos rfl] at l9
        have y9 := fz_1 u202 rfl f9
        have e9 : ∀ j, qz_I g9 202 j = qz_I g1 202 j := fun j => by by_cases w : j = 5; (· rw [w, l9]; omega); (· exact j9 j w)
        have hI9 : jz_I τ1 g9 F E := jz_no hI1 hB9 y9 e9 (f9.2.2 203 rfl) (f9.2.2 205 rfl) (fun q hq => f9.2.2 q (rz_ne hq u202 rfl))
        have hX9 : jx τ1 g9 D := jx_tr hB1 u202 u203 hX1 (e9 1) (f9.2.2 203 rfl) (fun q hq => ⟨rfl, f9.2.2 q (dz_beq_ne (fun e => by rw [e, u202] at hq; omega))⟩)
        exact k g9 _ F E (-1) D hI9 ((xx.trans y9).mono (by omega) (by omega)) ⟨fun w => absurd w (by decide), fun w => absurd w (by decide), fun _ _ => ⟨rfl, rfl⟩⟩ (Or.inl ⟨rfl, by rw [e9, w202, q202]⟩) (fun j _ _ _ => by rw [e9, w202, q202]) hans (Or.inl ⟨rfl, rfl⟩) hX9
      · skip
        have h6 : ez_fr (sz_P6 τ1) g3 g1 := by rcases ha9 with ⟨-, -, e⟩ | ⟨-, t, t1, t2, t3, t4, -⟩; (· rw [e]; exact ez_fr.refl _ _); (· exact ⟨t3, t4, fun q hq => t2 q (fun e => by rw [e] at hq; unfold sz_P6 at hq; rw [t1.1] at hq; cases hq)⟩)
        have ht : sz_toldR τ1 h1 g3 p p sz_RW := by rcases ha9 with ⟨-, a, -⟩ | ⟨a, -⟩ <;> exact sz_RS_W (by omega) a
        have xr := fz_xt hx
        have X1 := hI0.2.1.fz xr
        have u202 : τ1 202 = 48 := X1 202 (by decide)
        have u203 : τ1 203 = 49 := X1 203 (by decide)
        have u204 : τ1 204 = 50 := X1 204 (by decide)
        have u205 : τ1 205 = 51 := X1 205 (by decide)
        have u720 : τ1 720 = 52 := X1 720 (by decide)
        have w202 : ∀ j, qz_I h1 202 j = qz_I g0 202 j := fun j => hx.I (by rw [t202]; decide) j
        have c205 : h1.2.2 205 = g0.2.2 205 := (hx.1 205 (by rw [t205]; decide)).2
        have c203 : h1.2.2 203 = g0.2.2 203 := (hx.1 203 (by rw [t203]; decide)).2
        have c4 : ∀ q, τ q = 4 → h1.2.2 q = g0.2.2 q := fun q hq => (hx.1 q (by rw [hq]; decide)).2
        have hXh : jx τ1 h1 D := jx_tr hB0 t202 t203 hX0 (w202 1) c203 (fun q hq => ⟨(hx.1 q (by omega)).1, (hx.1 q (by omega)).2⟩)
        have hDh : sz_D τ1 h1 F E := sz_D_tr hB0 t202 t203 hI0.2.2.2.2.2.2.1 (w202 1) c203 c4 (fun q hq => by have := (xr.1 q (by rw [hq]; decide)).2 (by rw [hq]; rfl); unfold qz_I; rw [this]; exact ⟨rfl, rfl, rfl, rfl⟩) (fun p hp => by have := xr.1 p (by rw [hp]; decide); exact ⟨this.1.trans hp, this.2 (by rw [hp]; rfl)⟩)
        have F2e : ∃ F2, F2 = F := ⟨F, rfl⟩
        obtain ⟨F2, hF2⟩ := F2e
        have E2e : ∃ E2, E2 = E := ⟨E, rfl⟩
        obtain ⟨E2, hE2⟩ := E2e
        have hXs : ∃ y, ∀ x, (F2 x).2 ≠ none → (F x).2 ≠ none ∨ x = y := ⟨0, fun x hx => Or.inl (by rw [hF2] at hx; exact hx)⟩
        have hstep : rz_step (rz_b h) n 1 F E F2 E2 := ⟨fun w => absurd w (by decide), fun w => absurd w (by decide), fun _ _ => ⟨hF2, hE2⟩⟩
        have hok9 : sz_ok g3 ∧ sz_inj g3 := ⟨ht.1, ht.2.1⟩
        have p205 : sz_PS τ1 205 = false := by unfold sz_PS; rw [u205]; rfl
        have hE9 : ∀ i : Nat, (i : Int) < qz_I g3 202 4 → 1 ≤ qz_I g3 205 i := fun i hi => by rw [ht.2.2.2.1 4 (by decide), w202] at hi; rw [ht.2.2.1.I p205]; unfold qz_I; rw [c205]; exact hI0.2.2.2.1 i hi
        have hn9 : qz_I g3 202 1 ≤ qz_I g0 202 1 + 2 := by have := ht.2.2.2.2.1; rw [w202] at this; exact this
        have h59 : qz_I g3 202 5 = qz_I g0 202 5 := (ht.2.2.2.1 5 (by decide)).trans (w202 5)
        have ho9 : ∀ j, j ≠ 1 → j ≠ 4 → qz_I g3 202 j = qz_I g0 202 j := fun j j1 _ => (ht.2.2.2.1 j j1).trans (w202 j)
        have p6 : ∀ q, τ1 q ≠ 6 → g1.2.2 q = g3.2.2 q := fun q hq => h6.2.2 q (dz_beq_ne hq)
        have xg := (xr.trans (fz_PS u202 u203 ht.2.2.1)).trans (fz_P6 h6)
        have z202 : ∀ j, qz_I g1 202 j = qz_I g3 202 j := fun j => by unfold qz_I; rw [p6 202 (by rw [u202]; decide)]
        have hD9 : sz_D τ1 g1 F2 E2 := by
          rw [hF2, hE2]
          refine sz_D_tr hB3 u202 u203 (sz_D_R hBh u202 u203 hDh ht (fun P u v w => w (by decide)) (fun x u v w wu => by rw [w (by decide)]; exact wu)) (z202 1) (p6 203 (by rw [u203]; decide)) (fun q hq => p6 q (by rw [hq]; decide)) (fun q hq => ?_) (fun p hp => ⟨hp, p6 p (by rw [hp]; decide)⟩)
          unfold qz_I; rw [p6 q (by rw [hq]; decide)]; exact ⟨rfl, rfl, rfl, rfl⟩
        have hok9 := sz_same_ok hB3 u203 u202 (p6 202 (by rw [u202]; decide)) (p6 203 (by rw [u203]; decide)) (fun q hq => p6 q (by rw [hq]; decide)) hok9.1 hok9.2
        have hE9 : ∀ i : Nat, (i : Int) < qz_I g1 202 4 → 1 ≤ qz_I g1 205 i := fun i hi => by rw [z202] at hi; unfold qz_I; rw [p6 205 (by rw [u205]; decide)]; exact hE9 i hi
        have hn9 : qz_I g1 202 1 ≤ qz_I g0 202 1 + 2 := by rw [z202]; exact hn9
        have h59 : qz_I g1 202 5 = qz_I g0 202 5 := (z202 5).trans h59
        have ho9 : ∀ j, j ≠ 1 → j ≠ 4 → qz_I g1 202 j = qz_I g0 202 j := fun j j1 j4 => (z202 j).trans (ho9 j j1 j4)
        unfold rz_G1 at hG9; rw [b0, (hfa 0 (by omega) (by omega)).1, (hfa 0 (by omega) (by omega)).2, (hfa 1 (by omega) (by omega)).1, (hfa 1 (by omega) (by omega)).2, (hfa 2 (by omega) (by omega)).1, (hfa 2 (by omega) (by omega)).2, (hfa 3 (by omega) (by omega)).1, (hfa 3 (by omega) (by omega)).2, (hfa 4 (by omega) (by omega)).1, (hfa 4 (by omega) (by omega)).2] at hG9
        have hans : rz_an (rz_b h) n 5 (rz_g1 (rz_b h)) 1 := Or.inl ⟨A, hA, hG9, rfl⟩
        rw [b0, (hfa 0 (by omega) (by omega)).1, (hfa 0 (by omega) (by omega)).2] at ep9
        rw [b0, (hfa 1 (by omega) (by omega)).1, (hfa 1 (by omega) (by omega)).2, (hfa 2 (by omega) (by omega)).1, (hfa 2 (by omega) (by omega)).2, (hfa 3 (by omega) (by omega)).1, (hfa 3 (by omega) (by omega)).2, (hfa 4 (by omega) (by omega)).1, (hfa 4 (by omega) (by omega)).2] at en9
        obtain ⟨D2, hD2⟩ : ∃ D2, D2 = xd D ((1, rz_code (rz_b h) (rz_ff (rz_b h) A 0) (rz_tt (rz_b h) A 0), rz_code (rz_b h) (rz_ff (rz_b h) A 0) (rz_tt (rz_b h) A 0)), (0, 0, 0, 0), (0, 0), n9) := ⟨_, rfl⟩
        have hxs : xsl (rz_b h) n 1 D 1 D2 := Or.inr ⟨by omega, _, Or.inr (Or.inl ⟨rfl, A, hA, by rw [en9]⟩), hD2⟩
        have nr9 : ∀ q, τ q = 6 → q ≠ r9 := fun q hq e => by rw [e, z9] at hq; cases hq
        have hXh9 : sz_X τ1 h1 (fun q => if q = r9 then p else O9 q) D := sz_X_tr hB0 t202 t203 hXO (w202 1) c203 (fun q hq => ⟨(hx.1 q (by omega)).1, (hx.1 q (by omega)).2⟩) (fun q hq => if_neg (nr9 q hq))
        have hX1 : jx τ1 g1 D2 := ⟨_, sz_X_C hBh hB3 u202 u203 hXh9 t9 (if_pos rfl) nd9 r49 (by
          rcases ha9 with w | ⟨w, t, ⟨t1, t2, t3⟩, t4, -, -, t5⟩
          · exact Or.inl w
          · refine Or.inr ⟨w, t, ⟨t1, (if_neg (nr9 t t2)).trans t3⟩, t4, fun k hk => ?_⟩
            refine sC.tr (fun q q1 q2 => ?_) (fun _ _ => ⟨rfl, rfl⟩) (t5 k hk)
            rcases q2 with q2 | q2
            · exact ⟨q1, (if_neg (nr9 q q2.1)).trans q2.2⟩
            · exact ⟨q1, if_pos q2⟩) (fun x => by rw [hD2, xd_1, ← ep9])⟩
        refine ez_go (n := 2) (pc' := 97) (L' := [(3, .inl (1)), (0, .inr (.inr (some (720)))), (1, .inl (1)), (2, .inl (n))]) (st' := []) rfl ?_
        refine ez_less [(3, .inl (1)), (0, .inr (.inr (some (720)))), (1, .inl (1)), (2, .inl (n))] rfl ⟨rfl, rfl, rfl, rfl, trivial⟩ ?_
        refine rd_take_e hB1 u720 u202 (by omega) (by omega) (Or.inr (by rw [h59, q202]; exact hlt)) (fun g9 hB9 f9 j9 l9 => ?_)
        rw [if_neg (by omega)] at l9
        have y9 := fz_1 u202 rfl f9
        have hX9 : jx τ1 g9 D2 := jx_tr hB1 u202 u203 hX1 (j9 1 (by decide)) (f9.2.2 203 rfl) (fun q hq => ⟨rfl, f9.2.2 q (dz_beq_ne (fun e => by rw [e, u202] at hq; omega))⟩)
        refine k g9 _ F2 E2 _ D2 (jz_yes hI0 hB9 (xg.trans y9) hB1 hok9 hE9 hn9 h59 hD9 f9 j9 l9 hXs) (((x0.trans xg).trans y9).mono (by omega) (by omega)) hstep (Or.inr ⟨by omega, by omega, hnp, by rw [l9, h59, q202]⟩) (fun j j1 j4 j5 => by rw [j9 j j5, ho9 j j1 j4, q202]) hans hxs hX9
theorem rd_take29 {F : rz_W} {E : Int → Prop} {n : Int} {D : Int → xD} (hI : jz_I τ h F E) (hX : jx τ h D) (n0 : 0 ≤ n) (n1 : n ≤ 4096) (hl : n = 0 ∨ qz_I h 202 5 ≤ 255) (hr1 : h.1 + 4 ≤ 600192) (hr2 : h.2.1 + 59 ≤ 7302232) (k : ∀ g τ1 F2 E2 (v : Int) D2, jz_I τ1 g F2 E2 → fz τ h τ1 g 4 59 → rz_step (rz_b h) n 2 F E F2 E2 → ((v = -1 ∧ qz_I g 202 5 = qz_I h 202 5) ∨ (0 ≤ v ∧ v ≤ 1114112 ∧ 0 < n ∧ qz_I g 202 5 = qz_I h 202 5 + 1)) → (∀ j, j ≠ 1 → j ≠ 4 → j ≠ 5 → qz_I g 202 j = qz_I h 202 j) → rz_an (rz_b h) n 3 (rz_g2 (rz_b h)) v → xsl (rz_b h) n 2 D v D2 → jx τ1 g D2 → Q (.inl (some (ez_v (.inl v))), g)) : ez_W (d + 8) cm_174 0 [(0, .inr (.inr (some (720)))), (1, .inl (2)), (2, .inl (n))] [] h Q := by
  have t193 : τ 193 = 45 := hI.2.1 193 (by decide)
  have t202 : τ 202 = 48 := hI.2.1 202 (by decide)
  have t203 : τ 203 = 49 := hI.2.1 203 (by decide)
  have t204 : τ 204 = 50 := hI.2.1 204 (by decide)
  have t205 : τ 205 = 51 := hI.2.1 205 (by decide)
  have t720 : τ 720 = 52 := hI.2.1 720 (by decide)
  have t721 : τ 721 = 53 := hI.2.1 721 (by decide)
  have t722 : τ 722 = 54 := hI.2.1 722 (by decide)
  have hB := hI.1
  refine ez_go (n := 1) (pc' := 1) (L' := [(0, .inr (.inr (some (720)))), (1, .inl (2)), (2, .inl (n))]) (st' := [.inr (.inr (some (720)))]) rfl ?_
  refine ez_gC (p := 202) (tg := 48) hB t720 rfl rfl tq_52 rfl rfl (fun (t202 : _ = 48) => ?_)
  refine ez_gI hB t202 rfl rfl tq_48 rfl rfl (fun (b1 : 0 ≤ qz_I h 202 5) (b1' : qz_I h 202 5 ≤ 256) => ?_)
  refine ez_go (n := 1) (pc' := 10) (L' := [(0, .inr (.inr (some (720)))), (1, .inl (2)), (2, .inl (n))]) (st' := [.inl (256), .inl (qz_I h 202 5)]) rfl ?_
  refine ez_icmp rfl rfl ⟨by first | omega | exact (sz_i32 _).1, by first | omega | exact (sz_i32 _).2⟩ ⟨by first | omega | exact (sz_i32 _).1, by first | omega | exact (sz_i32 _).2⟩ (fun (c2 : (256) ≤ (qz_I h 202 5)) => ?_) (fun (c2 : ¬((256) ≤ (qz_I h 202 5))) => ?_)
  · skip
    refine ez_go (n := 1) (pc' := 26) (L' := [(0, .inr (.inr (some (720)))), (1, .inl (2)), (2, .inl (n))]) (st' := [.inl (-1)]) rfl ?_
    exact ez_retI rfl rfl (k h τ F E (-1) D hI (fz.refl _ _ _ _) ⟨fun w => absurd w (by decide), fun w => absurd w (by decide), fun _ _ => ⟨rfl, rfl⟩⟩ (Or.inl ⟨rfl, rfl⟩) (fun _ _ _ _ => rfl) (rz_an_n (fun ⟨A, hA⟩ => by have := rz_A_pos (by decide) hA; omega)) (Or.inl ⟨rfl, rfl⟩) hX)
  · skip
    refine ez_go (n := 3) (pc' := 16) (L' := [(0, .inr (.inr (some (720)))), (1, .inl (2)), (2, .inl (n))]) (st' := [.inl (2), .inl (n), .inr (.inr (some (720)))]) rfl ?_
    refine ez_cs hB.2.1 rfl rfl rfl rfl rfl (rd_fieldsOf2 (ez_K1 ?_))
    refine ez_cv hB t720 rfl rfl rfl tq_52 rfl rfl rfl (rd_split hB t720 t721 t722 n0 n1 (by omega) (by omega) (fun g0 hB0 f0 hno => ez_K1 ?_) (fun g0 c hB0 f0 hpl hha hlen hfl => ez_K1 ?_))
    · skip
      have x0 := fz_ft t721 t722 f0
      have q202 : ∀ j, qz_I g0 202 j = qz_I h 202 j := fun j => f0.I rfl j
      have hI0 : jz_I τ g0 F E := jz_no hI hB0 x0 q202 (f0.2.2 203 rfl) (f0.2.2 205 rfl) (fun q hq => f0.2.2 q (by unfold rz_ft; rw [dz_beq_ne (fun e => by rw [e, t721] at hq; cases hq), dz_beq_ne (fun e => by rw [e, t722] at hq; cases hq)]; rfl))
      have hX0 : jx τ g0 D := jx_tr hI.1 t202 t203 hX (q202 1) (f0.2.2 203 rfl) (fun q hq => ⟨rfl, f0.2.2 q (by unfold rz_ft; rw [dz_beq_ne (fun e => by rw [e, t721] at hq; omega), dz_beq_ne (fun e => by rw [e, t722] at hq; omega)]; rfl)⟩)
      have b0 : rz_b g0 = rz_b h := rz_b_fr f0 rfl
      refine ez_if rfl rfl ⟨by decide, by decide⟩ (fun (c3 : (0 : Int) ≠ (0)) => absurd c3 (by decide)) (fun _ => ?_)
      refine ez_go (n := 1) (pc' := 26) (L' := [(0, .inr (.inr (some (720)))), (1, .inl (2)), (2, .inl (n))]) (st' := [.inl (-1)]) rfl ?_
      exact ez_retI rfl rfl (k g0 τ F E (-1) D hI0 (x0.mono (by omega) (by omega)) ⟨fun w => absurd w (by decide), fun w => absurd w (by decide), fun _ _ => ⟨rfl, rfl⟩⟩ (Or.inl ⟨rfl, q202 5⟩) (fun j _ _ _ => q202 j) (rz_an_n (fun ⟨A, hA⟩ => by obtain ⟨c, c1, c2, c3, c4⟩ := hA; exact hno c1 c c2.1 c2.2.1 c2.2.2.1 c2.2.2.2 (by rw [← c3]; exact c4))) (Or.inl ⟨rfl, rfl⟩) hX0)
    · skip
      have x0 := fz_ft t721 t722 f0
      have q202 : ∀ j, qz_I g0 202 j = qz_I h 202 j := fun j => f0.I rfl j
      have hI0 : jz_I τ g0 F E := jz_no hI hB0 x0 q202 (f0.2.2 203 rfl) (f0.2.2 205 rfl) (fun q hq => f0.2.2 q (by unfold rz_ft; rw [dz_beq_ne (fun e => by rw [e, t721] at hq; cases hq), dz_beq_ne (fun e => by rw [e, t722] at hq; cases hq)]; rfl))
      have hX0 : jx τ g0 D := jx_tr hI.1 t202 t203 hX (q202 1) (f0.2.2 203 rfl) (fun q hq => ⟨rfl, f0.2.2 q (by unfold rz_ft; rw [dz_beq_ne (fun e => by rw [e, t721] at hq; omega), dz_beq_ne (fun e => by rw [e, t722] at hq; omega)]; rfl)⟩)
      have b0 : rz_b g0 = rz_b h := rz_b_fr f0 rfl
      have hA : rz_A (rz_b h) n 3 (rz_seg (rz_b h) c.toNat 0 0) := ⟨c, hpl, hha, rfl, hlen⟩
      generalize rz_seg (rz_b h) c.toNat 0 0 = A at hA hfl hlen
      have hlen : (A.length : Int) = 3 := by rw [hlen]; rfl
      have hfa : ∀ k, 0 ≤ k → k ≤ 2 → rz_f g0 k = rz_ff (rz_b h) A k ∧ rz_t g0 k = rz_tt (rz_b h) A k := fun k k0 k1 => rz_flds_at hfl k0 (by omega)
      have hft : ∀ k, 0 ≤ k → k ≤ 2 → rz_f g0 k ≤ rz_t g0 k := fun k k0 k1 => by
        obtain ⟨w1, w2⟩ := hfa k k0 k1
        rw [w1, w2]
        exact rz_A_ff hA (by omega) (by omega)
      have hlt : qz_I h 202 5 ≤ 255 := by omega
      have hnp := rz_A_pos (by decide) hA
      have fc0 := x0.2
      have i6 := hI.2.2.2.2.1
      have hsp : qz_I g0 202 1 + 2 ≤ 513 := by rw [q202]; omega
      refine ez_if rfl rfl ⟨by decide, by decide⟩ (fun _ => ?_) (fun (c4 : ¬((1 : Int) ≠ (0))) => absurd c4 (by decide))
      refine ez_go (n := 1) (pc' := 28) (L' := [(0, .inr (.inr (some (720)))), (1, .inl (2)), (2, .inl (n))]) (st' := [.inl (2)]) rfl ?_
      refine ez_sw rfl ⟨by decide, by decide⟩ ⟨_, rfl, rfl⟩ ?_
      refine ez_go (n := 1) (pc' := 77) (L' := [(0, .inr (.inr (some (720)))), (1, .inl (2)), (2, .inl (n))]) (st' := [.inr (.inr (some (720)))]) rfl ?_
      refine ez_cv hB0 t720 rfl rfl rfl tq_52 rfl rfl rfl (rd_takeFold9 hB0 t193 t202 t203 t720 t721 t722 hI0.2.2.1.1 hI0.2.2.1.2 hft hsp (by omega) (by omega) (fun g1 τ1 hB1 hx hno2 => ez_K1 ?_) (fun g1 h1 τ1 p J r9 hB1 hBh hx hJ9 ht0 ep hvs hG9 => ez_K1 ?_))
      · skip
        have xx := x0.trans (fz_xt hx)
        have w202 : ∀ j, qz_I g1 202 j = qz_I g0 202 j := fun j => hx.I (by rw [t202]; decide) j
        have hI1 : jz_I τ1 g1 F E := jz_no hI0 hB1 (fz_xt hx) w202 ((hx.1 203 (by rw [t203]; decide)).2) ((hx.1 205 (by rw [t205]; decide)).2) (fun q hq => (hx.1 q (by rw [hq]; decide)).2)
        have u202 : τ1 202 = 48 := hI1.2.1 202 (by decide)
        have u720 : τ1 720 = 52 := hI1.2.1 720 (by decide)
        have u203 : τ1 203 = 49 := hI1.2.1 203 (by decide)
        have hX1 : jx τ1 g1 D := jx_tr hI0.1 t202 t203 hX0 (w202 1) ((hx.1 203 (by rw [t203]; decide)).2) (fun q hq => ⟨(hx.1 q (by omega)).1, (hx.1 q (by omega)).2⟩)
        have hans : rz_an (rz_b h) n 3 (rz_g2 (rz_b h)) (-1) := rz_an_f hA (fun v w => hno2 (by have w1 := w.1; unfold rz_G2 at w1 ⊢; rw [b0, (hfa 0 (by omega) (by omega)).1, (hfa 0 (by omega) (by omega)).2, (hfa 1 (by omega) (by omega)).1, (hfa 1 (by omega) (by omega)).2, (hfa 2 (by omega) (by omega)).1, (hfa 2 (by omega) (by omega)).2]; exact w1))
        refine ez_go (n := 2) (pc' := 97) (L' := [(3, .inl (-1)), (0, .inr (.inr (some (720)))), (1, .inl (2)), (2, .inl (n))]) (st' := []) rfl ?_
        refine ez_less [(3, .inl (-1)), (0, .inr (.inr (some (720)))), (1, .inl (2)), (2, .inl (n))] rfl ⟨rfl, rfl, rfl, rfl, trivial⟩ ?_
        refine rd_take_e hB1 u720 u202 (by omega) (by omega) (Or.inl rfl) (fun g9 hB9 f9 j9 l9 => ?_)
        rw [if_pos rfl] at l9
        have y9 := fz_1 u202 rfl f9
        have e9 : ∀ j, qz_I g9 202 j = qz_I g1 202 j := fun j => by by_cases w : j = 5; (· rw [w, l9]; omega); (· exact j9 j w)
        have hI9 : jz_I τ1 g9 F E := jz_no hI1 hB9 y9 e9 (f9.2.2 203 rfl) (f9.2.2 205 rfl) (fun q hq => f9.2.2 q (rz_ne hq u202 rfl))
        have hX9 : jx τ1 g9 D := jx_tr hB1 u202 u203 hX1 (e9 1) (f9.2.2 203 rfl) (fun q hq => ⟨rfl, f9.2.2 q (dz_beq_ne (fun e => by rw [e, u202] at hq; omega))⟩)
        exact k g9 _ F E (-1) D hI9 ((xx.trans y9).mono (by omega) (by omega)) ⟨fun w => absurd w (by decide), fun w => absurd w (by decide), fun _ _ => ⟨rfl, rfl⟩⟩ (Or.inl ⟨rfl, by rw [e9, w202, q202]⟩) (fun j _ _ _ => by rw [e9, w202, q202]) hans (Or.inl ⟨rfl, rfl⟩) hX9
      · skip
        have ht := sz_RS_W (by rcases hJ9 with w | w | w | w <;> omega) ht0
        have xr := fz_xt hx
        have X1 := hI0.2.1.fz xr
        have u202 : τ1 202 = 48 := X1 202 (by decide)
        have u203 : τ1 203 = 49 := X1 203 (by decide)
        have u204 : τ1 204 = 50 := X1 204 (by decide)
        have u205 : τ1 205 = 51 := X1 205 (by decide)
        have u720 : τ1 720 = 52 := X1 720 (by decide)
        have w202 : ∀ j, qz_I h1 202 j = qz_I g0 202 j := fun j => hx.I (by rw [t202]; decide) j
        have c205 : h1.2.2 205 = g0.2.2 205 := (hx.1 205 (by rw [t205]; decide)).2
        have c203 : h1.2.2 203 = g0.2.2 203 := (hx.1 203 (by rw [t203]; decide)).2
        have c4 : ∀ q, τ q = 4 → h1.2.2 q = g0.2.2 q := fun q hq => (hx.1 q (by rw [hq]; decide)).2
        have hXh : jx τ1 h1 D := jx_tr hB0 t202 t203 hX0 (w202 1) c203 (fun q hq => ⟨(hx.1 q (by omega)).1, (hx.1 q (by omega)).2⟩)
        have hDh : sz_D τ1 h1 F E := sz_D_tr hB0 t202 t203 hI0.2.2.2.2.2.2.1 (w202 1) c203 c4 (fun q hq => by have := (xr.1 q (by rw [hq]; decide)).2 (by rw [hq]; rfl); unfold qz_I; rw [this]; exact ⟨rfl, rfl, rfl, rfl⟩) (fun p hp => by have := xr.1 p (by rw [hp]; decide); exact ⟨this.1.trans hp, this.2 (by rw [hp]; rfl)⟩)
        have F2e : ∃ F2, F2 = F := ⟨F, rfl⟩
        obtain ⟨F2, hF2⟩ := F2e
        have E2e : ∃ E2, E2 = E := ⟨E, rfl⟩
        obtain ⟨E2, hE2⟩ := E2e
        have hXs : ∃ y, ∀ x, (F2 x).2 ≠ none → (F x).2 ≠ none ∨ x = y := ⟨0, fun x hx => Or.inl (by rw [hF2] at hx; exact hx)⟩
        have hstep : rz_step (rz_b h) n 2 F E F2 E2 := ⟨fun w => absurd w (by decide), fun w => absurd w (by decide), fun _ _ => ⟨hF2, hE2⟩⟩
        have hok9 : sz_ok g1 ∧ sz_inj g1 := ⟨ht.1, ht.2.1⟩
        have p205 : sz_PS τ1 205 = false := by unfold sz_PS; rw [u205]; rfl
        have hE9 : ∀ i : Nat, (i : Int) < qz_I g1 202 4 → 1 ≤ qz_I g1 205 i := fun i hi => by rw [ht.2.2.2.1 4 (by decide), w202] at hi; rw [ht.2.2.1.I p205]; unfold qz_I; rw [c205]; exact hI0.2.2.2.1 i hi
        have hn9 : qz_I g1 202 1 ≤ qz_I g0 202 1 + 2 := by have := ht.2.2.2.2.1; rw [w202] at this; exact this
        have h59 : qz_I g1 202 5 = qz_I g0 202 5 := (ht.2.2.2.1 5 (by decide)).trans (w202 5)
        have ho9 : ∀ j, j ≠ 1 → j ≠ 4 → qz_I g1 202 j = qz_I g0 202 j := fun j j1 _ => (ht.2.2.2.1 j j1).trans (w202 j)
        have xg := xr.trans (fz_PS u202 u203 ht.2.2.1)
        have hD9 : sz_D τ1 g1 F2 E2 := by rw [hF2, hE2]; exact sz_D_R hBh u202 u203 hDh ht (fun P u v w => w (by decide)) (fun x u v w wu => by rw [w (by decide)]; exact wu)
        unfold rz_G2 at hG9; rw [b0, (hfa 0 (by omega) (by omega)).1, (hfa 0 (by omega) (by omega)).2, (hfa 1 (by omega) (by omega)).1, (hfa 1 (by omega) (by omega)).2, (hfa 2 (by omega) (by omega)).1, (hfa 2 (by omega) (by omega)).2] at hG9
        have hans : rz_an (rz_b h) n 3 (rz_g2 (rz_b h)) 1 := Or.inl ⟨A, hA, hG9, rfl⟩
        obtain ⟨vs, evs, hvs⟩ := hvs
        rw [b0, (hfa 0 (by omega) (by omega)).1, (hfa 0 (by omega) (by omega)).2] at ep
        rw [b0, (hfa 1 (by omega) (by omega)).1] at hJ9
        rw [b0, (hfa 2 (by omega) (by omega)).1, (hfa 2 (by omega) (by omega)).2] at evs
        obtain ⟨D2, hD2⟩ : ∃ D2, D2 = xd D ((2, rz_code (rz_b h) (rz_ff (rz_b h) A 0) (rz_tt (rz_b h) A 0), rz_code (rz_b h) (rz_ff (rz_b h) A 0) (rz_tt (rz_b h) A 0)), (0, 0, 0, 0), (rz_b h (rz_ff (rz_b h) A 1), 0), (0, vs, [], [])) := ⟨_, rfl⟩
        have hxs : xsl (rz_b h) n 2 D 1 D2 := Or.inr ⟨by omega, _, Or.inr (Or.inr (Or.inl ⟨rfl, A, vs, hA, evs, rfl⟩)), hD2⟩
        have hX1 : jx τ1 g1 D2 := by obtain ⟨O9, hXO⟩ := hXh; exact ⟨O9, sz_X_S hBh u202 u203 hXO hJ9 ht0 hvs (fun x => by rw [hD2, xd_2, ← ep])⟩
        refine ez_go (n := 2) (pc' := 97) (L' := [(3, .inl (1)), (0, .inr (.inr (some (720)))), (1, .inl (2)), (2, .inl (n))]) (st' := []) rfl ?_
        refine ez_less [(3, .inl (1)), (0, .inr (.inr (some (720)))), (1, .inl (2)), (2, .inl (n))] rfl ⟨rfl, rfl, rfl, rfl, trivial⟩ ?_
        refine rd_take_e hB1 u720 u202 (by omega) (by omega) (Or.inr (by rw [h59, q202]; exact hlt)) (fun g9 hB9 f9 j9 l9 => ?_)
        rw [if_neg (by omega)] at l9
        have y9 := fz_1 u202 rfl f9
        have hX9 : jx τ1 g9 D2 := jx_tr hB1 u202 u203 hX1 (j9 1 (by decide)) (f9.2.2 203 rfl) (fun q hq => ⟨rfl, f9.2.2 q (dz_beq_ne (fun e => by rw [e, u202] at hq; omega))⟩)
        refine k g9 _ F2 E2 _ D2 (jz_yes hI0 hB9 (xg.trans y9) hB1 hok9 hE9 hn9 h59 hD9 f9 j9 l9 hXs) (((x0.trans xg).trans y9).mono (by omega) (by omega)) hstep (Or.inr ⟨by omega, by omega, hnp, by rw [l9, h59, q202]⟩) (fun j j1 j4 j5 => by rw [j9 j j5, ho9 j j1 j4, q202]) hans hxs hX9
theorem rd_take39 {F : rz_W} {E : Int → Prop} {n : Int} {D : Int → xD} (hI : jz_I τ h F E) (hX : jx τ h D) (n0 : 0 ≤ n) (n1 : n ≤ 4096) (hl : n = 0 ∨ qz_I h 202 5 ≤ 255) (hr1 : h.1 + 4 ≤ 600192) (hr2 : h.2.1 + 59 ≤ 7302232) (k : ∀ g τ1 F2 E2 (v : Int) D2, jz_I τ1 g F2 E2 → fz τ h τ1 g 4 59 → rz_step (rz_b h) n 3 F E F2 E2 → ((v = -1 ∧ qz_I g 202 5 = qz_I h 202 5) ∨ (0 ≤ v ∧ v ≤ 1114112 ∧ 0 < n ∧ qz_I g 202 5 = qz_I h 202 5 + 1)) → (∀ j, j ≠ 1 → j ≠ 4 → j ≠ 5 → qz_I g 202 j = qz_I h 202 j) → rz_an (rz_b h) n 2 (rz_g3 (rz_b h)) v → xsl (rz_b h) n 3 D v D2 → jx τ1 g D2 → Q (.inl (some (ez_v (.inl v))), g)) : ez_W (d + 8) cm_174 0 [(0, .inr (.inr (some (720)))), (1, .inl (3)), (2, .inl (n))] [] h Q := by
  have t193 : τ 193 = 45 := hI.2.1 193 (by decide)
  have t202 : τ 202 = 48 := hI.2.1 202 (by decide)
  have t203 : τ 203 = 49 := hI.2.1 203 (by decide)
  have t204 : τ 204 = 50 := hI.2.1 204 (by decide)
  have t205 : τ 205 = 51 := hI.2.1 205 (by decide)
  have t720 : τ 720 = 52 := hI.2.1 720 (by decide)
  have t721 : τ 721 = 53 := hI.2.1 721 (by decide)
  have t722 : τ 722 = 54 := hI.2.1 722 (by decide)
  have hB := hI.1
  refine ez_go (n := 1) (pc' := 1) (L' := [(0, .inr (.inr (some (720)))), (1, .inl (3)), (2, .inl (n))]) (st' := [.inr (.inr (some (720)))]) rfl ?_
  refine ez_gC (p := 202) (tg := 48) hB t720 rfl rfl tq_52 rfl rfl (fun (t202 : _ = 48) => ?_)
  refine ez_gI hB t202 rfl rfl tq_48 rfl rfl (fun (b1 : 0 ≤ qz_I h 202 5) (b1' : qz_I h 202 5 ≤ 256) => ?_)
  refine ez_go (n := 1) (pc' := 10) (L' := [(0, .inr (.inr (some (720)))), (1, .inl (3)), (2, .inl (n))]) (st' := [.inl (256), .inl (qz_I h 202 5)]) rfl ?_
  refine ez_icmp rfl rfl ⟨by first | omega | exact (sz_i32 _).1, by first | omega | exact (sz_i32 _).2⟩ ⟨by first | omega | exact (sz_i32 _).1, by first | omega | exact (sz_i32 _).2⟩ (fun (c2 : (256) ≤ (qz_I h 202 5)) => ?_) (fun (c2 : ¬((256) ≤ (qz_I h 202 5))) => ?_)
  · skip
    refine ez_go (n := 1) (pc' := 26) (L' := [(0, .inr (.inr (some (720)))), (1, .inl (3)), (2, .inl (n))]) (st' := [.inl (-1)]) rfl ?_
    exact ez_retI rfl rfl (k h τ F E (-1) D hI (fz.refl _ _ _ _) ⟨fun w => absurd w (by decide), fun _ => Or.inr ⟨(fun ⟨_, _, A, hA, _⟩ => by have := rz_A_pos (by decide) hA; omega), rfl, rfl⟩, fun _ w => absurd rfl w⟩ (Or.inl ⟨rfl, rfl⟩) (fun _ _ _ _ => rfl) (rz_an_n (fun ⟨A, hA⟩ => by have := rz_A_pos (by decide) hA; omega)) (Or.inl ⟨rfl, rfl⟩) hX)
  · skip
    refine ez_go (n := 3) (pc' := 16) (L' := [(0, .inr (.inr (some (720)))), (1, .inl (3)), (2, .inl (n))]) (st' := [.inl (3), .inl (n), .inr (.inr (some (720)))]) rfl ?_
    refine ez_cs hB.2.1 rfl rfl rfl rfl rfl (rd_fieldsOf3 (ez_K1 ?_))
    refine ez_cv hB t720 rfl rfl rfl tq_52 rfl rfl rfl (rd_split hB t720 t721 t722 n0 n1 (by omega) (by omega) (fun g0 hB0 f0 hno => ez_K1 ?_) (fun g0 c hB0 f0 hpl hha hlen hfl => ez_K1 ?_))
    · skip
      have x0 := fz_ft t721 t722 f0
      have q202 : ∀ j, qz_I g0 202 j = qz_I h 202 j := fun j => f0.I rfl j
      have hI0 : jz_I τ g0 F E := jz_no hI hB0 x0 q202 (f0.2.2 203 rfl) (f0.2.2 205 rfl) (fun q hq => f0.2.2 q (by unfold rz_ft; rw [dz_beq_ne (fun e => by rw [e, t721] at hq; cases hq), dz_beq_ne (fun e => by rw [e, t722] at hq; cases hq)]; rfl))
      have hX0 : jx τ g0 D := jx_tr hI.1 t202 t203 hX (q202 1) (f0.2.2 203 rfl) (fun q hq => ⟨rfl, f0.2.2 q (by unfold rz_ft; rw [dz_beq_ne (fun e => by rw [e, t721] at hq; omega), dz_beq_ne (fun e => by rw [e, t722] at hq; omega)]; rfl)⟩)
      have b0 : rz_b g0 = rz_b h := rz_b_fr f0 rfl
      refine ez_if rfl rfl ⟨by decide, by decide⟩ (fun (c3 : (0 : Int) ≠ (0)) => absurd c3 (by decide)) (fun _ => ?_)
      refine ez_go (n := 1) (pc' := 26) (L' := [(0, .inr (.inr (some (720)))), (1, .inl (3)), (2, .inl (n))]) (st' := [.inl (-1)]) rfl ?_
      exact ez_retI rfl rfl (k g0 τ F E (-1) D hI0 (x0.mono (by omega) (by omega)) ⟨fun w => absurd w (by decide), fun _ => Or.inr ⟨(fun ⟨_, _, A, hA, _⟩ => by obtain ⟨c, c1, c2, c3, c4⟩ := hA; exact hno c1 c c2.1 c2.2.1 c2.2.2.1 c2.2.2.2 (by rw [← c3]; exact c4)), rfl, rfl⟩, fun _ w => absurd rfl w⟩ (Or.inl ⟨rfl, q202 5⟩) (fun j _ _ _ => q202 j) (rz_an_n (fun ⟨A, hA⟩ => by obtain ⟨c, c1, c2, c3, c4⟩ := hA; exact hno c1 c c2.1 c2.2.1 c2.2.2.1 c2.2.2.2 (by rw [← c3]; exact c4))) (Or.inl ⟨rfl, rfl⟩) hX0)
    · skip
      have x0 := fz_ft t721 t722 f0
      have q202 : ∀ j, qz_I g0 202 j = qz_I h 202 j := fun j => f0.I rfl j
      have hI0 : jz_I τ g0 F E := jz_no hI hB0 x0 q202 (f0.2.2 203 rfl) (f0.2.2 205 rfl) (fun q hq => f0.2.2 q (by unfold rz_ft; rw [dz_beq_ne (fun e => by rw [e, t721] at hq; cases hq), dz_beq_ne (fun e => by rw [e, t722] at hq; cases hq)]; rfl))
      have hX0 : jx τ g0 D := jx_tr hI.1 t202 t203 hX (q202 1) (f0.2.2 203 rfl) (fun q hq => ⟨rfl, f0.2.2 q (by unfold rz_ft; rw [dz_beq_ne (fun e => by rw [e, t721] at hq; omega), dz_beq_ne (fun e => by rw [e, t722] at hq; omega)]; rfl)⟩)
      have b0 : rz_b g0 = rz_b h := rz_b_fr f0 rfl
      have hA : rz_A (rz_b h) n 2 (rz_seg (rz_b h) c.toNat 0 0) := ⟨c, hpl, hha, rfl, hlen⟩
      generalize rz_seg (rz_b h) c.toNat 0 0 = A at hA hfl hlen
      have hlen : (A.length : Int) = 2 := by rw [hlen]; rfl
      have hfa : ∀ k, 0 ≤ k → k ≤ 1 → rz_f g0 k = rz_ff (rz_b h) A k ∧ rz_t g0 k = rz_tt (rz_b h) A k := fun k k0 k1 => rz_flds_at hfl k0 (by omega)
      have hft : ∀ k, 0 ≤ k → k ≤ 1 → rz_f g0 k ≤ rz_t g0 k := fun k k0 k1 => by
        obtain ⟨w1, w2⟩ := hfa k k0 k1
        rw [w1, w2]
        exact rz_A_ff hA (by omega) (by omega)
      have hlt : qz_I h 202 5 ≤ 255 := by omega
      have hnp := rz_A_pos (by decide) hA
      have fc0 := x0.2
      have i6 := hI.2.2.2.2.1
      have hsp : qz_I g0 202 1 + 2 ≤ 513 := by rw [q202]; omega
      refine ez_if rfl rfl ⟨by decide, by decide⟩ (fun _ => ?_) (fun (c4 : ¬((1 : Int) ≠ (0))) => absurd c4 (by decide))
      refine ez_go (n := 1) (pc' := 28) (L' := [(0, .inr (.inr (some (720)))), (1, .inl (3)), (2, .inl (n))]) (st' := [.inl (3)]) rfl ?_
      refine ez_sw rfl ⟨by decide, by decide⟩ ⟨_, rfl, rfl⟩ ?_
      refine ez_go (n := 1) (pc' := 85) (L' := [(0, .inr (.inr (some (720)))), (1, .inl (3)), (2, .inl (n))]) (st' := [.inr (.inr (some (720)))]) rfl ?_
      refine ez_cv hB0 t720 rfl rfl rfl tq_52 rfl rfl rfl (rd_takeProperty9 hB0 hI0.2.2.2.2.2.1 (hI0.2.1 2 (by decide)) (hI0.2.1 3 (by decide)) (hI0.2.1 4 (by decide)) (hI0.2.1 5 (by decide)) (hI0.2.1 6 (by decide)) t193 t202 t203 t720 t721 t722 hI0.2.2.1.1 hI0.2.2.1.2 hft hsp (fun g1 hB1 f1 hno hno2 => ez_K1 ?_) (fun g1 h1 first last hB1 hBh f1 ef el f1n fl ht hpk gr nm hPV nm0 nm1 htP => ez_K1 ?_))
      · skip
        obtain ⟨τ1, eτ⟩ : ∃ τ1, τ1 = τ := ⟨τ, rfl⟩
        rw [← eτ] at hB1
        have hx : ez_xr τ g0 τ1 g1 720 0 0 := by rw [eτ]; exact ⟨fun q hq => ⟨rfl, fun w => f1.2.2 q (dz_beq_ne w)⟩, by rw [f1.1]; omega, by rw [f1.2.1]; omega⟩
        have xx := x0.trans (fz_xr t720 hx)
        have w202 : ∀ j, qz_I g1 202 j = qz_I g0 202 j := fun j => hx.I (by rw [t202]; decide) (by decide) j
        have hI1 : jz_I τ1 g1 F E := jz_no hI0 hB1 (fz_xr t720 hx) w202 ((hx.1 203 (by rw [t203]; decide)).2 (by decide)) ((hx.1 205 (by rw [t205]; decide)).2 (by decide)) (fun q hq => (hx.1 q (by rw [hq]; decide)).2 (fun e => by rw [e, t720] at hq; cases hq))
        have u202 : τ1 202 = 48 := hI1.2.1 202 (by decide)
        have u720 : τ1 720 = 52 := hI1.2.1 720 (by decide)
        have u203 : τ1 203 = 49 := hI1.2.1 203 (by decide)
        have hX1 : jx τ1 g1 D := jx_tr hI0.1 t202 t203 hX0 (w202 1) ((hx.1 203 (by rw [t203]; decide)).2 (by decide)) (fun q hq => ⟨(hx.1 q (by omega)).1, (hx.1 q (by omega)).2 (fun e => by rw [e, t720] at hq; omega)⟩)
        have hnone : ¬ ∃ first last, rz_L3 (rz_b h) n first last := fun ⟨f, l, A2, hA2, w1, w2⟩ => hno (by rw [← rz_A_uniq hA hA2] at w1 w2; rw [b0, (hfa 0 (by omega) (by omega)).1, (hfa 0 (by omega) (by omega)).2, (hfa 1 (by omega) (by omega)).1, (hfa 1 (by omega) (by omega)).2]; exact ⟨⟨by rw [← w1.1]; exact w1.2.2.1, by rw [← w1.1, ← w1.2.1]; exact w1.2.2.2⟩, w2⟩)
        have hans : rz_an (rz_b h) n 2 (rz_g3 (rz_b h)) (-1) := rz_an_f hA (fun v w => hno2 (by rw [b0, (hfa 0 (by omega) (by omega)).1, (hfa 0 (by omega) (by omega)).2, (hfa 1 (by omega) (by omega)).1, (hfa 1 (by omega) (by omega)).2]; exact ⟨w.1, w.2.1⟩))
        refine ez_go (n := 2) (pc' := 97) (L' := [(3, .inl (-1)), (0, .inr (.inr (some (720)))), (1, .inl (3)), (2, .inl (n))]) (st' := []) rfl ?_
        refine ez_less [(3, .inl (-1)), (0, .inr (.inr (some (720)))), (1, .inl (3)), (2, .inl (n))] rfl ⟨rfl, rfl, rfl, rfl, trivial⟩ ?_
        refine rd_take_e hB1 u720 u202 (by omega) (by omega) (Or.inl rfl) (fun g9 hB9 f9 j9 l9 => ?_)
        rw [if_pos rfl] at l9
        have y9 := fz_1 u202 rfl f9
        have e9 : ∀ j, qz_I g9 202 j = qz_I g1 202 j := fun j => by by_cases w : j = 5; (· rw [w, l9]; omega); (· exact j9 j w)
        have hI9 : jz_I τ1 g9 F E := jz_no hI1 hB9 y9 e9 (f9.2.2 203 rfl) (f9.2.2 205 rfl) (fun q hq => f9.2.2 q (rz_ne hq u202 rfl))
        have hX9 : jx τ1 g9 D := jx_tr hB1 u202 u203 hX1 (e9 1) (f9.2.2 203 rfl) (fun q hq => ⟨rfl, f9.2.2 q (dz_beq_ne (fun e => by rw [e, u202] at hq; omega))⟩)
        exact k g9 _ F E (-1) D hI9 ((xx.trans y9).mono (by omega) (by omega)) ⟨fun w => absurd w (by decide), fun _ => Or.inr ⟨hnone, rfl, rfl⟩, fun _ w => absurd rfl w⟩ (Or.inl ⟨rfl, by rw [e9, w202, q202]⟩) (fun j _ _ _ => by rw [e9, w202, q202]) hans (Or.inl ⟨rfl, rfl⟩) hX9
      · skip
        obtain ⟨τ1, eτ⟩ : ∃ τ1, τ1 = τ := ⟨τ, rfl⟩
        rw [← eτ] at hB1 hBh ht htP
        have hx : ez_xr τ g0 τ1 h1 720 0 0 := by rw [eτ]; exact ⟨fun q hq => ⟨rfl, fun w => f1.2.2 q (dz_beq_ne w)⟩, by rw [f1.1]; omega, by rw [f1.2.1]; omega⟩
        rw [b0, (hfa 0 (by omega) (by omega)).1, (hfa 0 (by omega) (by omega)).2] at ef el
        rw [b0, (hfa 1 (by omega) (by omega)).1, (hfa 1 (by omega) (by omega)).2] at ht
        rw [b0, (hfa 1 (by omega) (by omega)).1, (hfa 1 (by omega) (by omega)).2] at hpk
        rw [b0, (hfa 1 (by omega) (by omega)).1, (hfa 1 (by omega) (by omega)).2] at hPV
        have xr := fz_xr t720 hx
        have X1 := hI0.2.1.fz xr
        have u202 : τ1 202 = 48 := X1 202 (by decide)
        have u203 : τ1 203 = 49 := X1 203 (by decide)
        have u204 : τ1 204 = 50 := X1 204 (by decide)
        have u205 : τ1 205 = 51 := X1 205 (by decide)
        have u720 : τ1 720 = 52 := X1 720 (by decide)
        have w202 : ∀ j, qz_I h1 202 j = qz_I g0 202 j := fun j => hx.I (by rw [t202]; decide) (by decide) j
        have c205 : h1.2.2 205 = g0.2.2 205 := (hx.1 205 (by rw [t205]; decide)).2 (by decide)
        have c203 : h1.2.2 203 = g0.2.2 203 := (hx.1 203 (by rw [t203]; decide)).2 (by decide)
        have c4 : ∀ q, τ q = 4 → h1.2.2 q = g0.2.2 q := fun q hq => (hx.1 q (by rw [hq]; decide)).2 (fun e => by rw [e, t720] at hq; cases hq)
        have hXh : jx τ1 h1 D := jx_tr hB0 t202 t203 hX0 (w202 1) c203 (fun q hq => ⟨(hx.1 q (by omega)).1, (hx.1 q (by omega)).2 (fun e => by rw [e, t720] at hq; omega)⟩)
        have hDh : sz_D τ1 h1 F E := sz_D_tr hB0 t202 t203 hI0.2.2.2.2.2.2.1 (w202 1) c203 c4 (fun q hq => by have := (xr.1 q (by rw [hq]; decide)).2 (by rw [hq]; rfl); unfold qz_I; rw [this]; exact ⟨rfl, rfl, rfl, rfl⟩) (fun p hp => by have := xr.1 p (by rw [hp]; decide); exact ⟨this.1.trans hp, this.2 (by rw [hp]; rfl)⟩)
        have hok9 : sz_ok g1 ∧ sz_inj g1 := ⟨ht.1, ht.2.1⟩
        have p205 : sz_PS τ1 205 = false := by unfold sz_PS; rw [u205]; rfl
        have hE9 : ∀ i : Nat, (i : Int) < qz_I g1 202 4 → 1 ≤ qz_I g1 205 i := fun i hi => by rw [ht.2.2.2.1 4 (by decide), w202] at hi; rw [ht.2.2.1.I p205]; unfold qz_I; rw [c205]; exact hI0.2.2.2.1 i hi
        have hn9 : qz_I g1 202 1 ≤ qz_I g0 202 1 + 2 := by have := ht.2.2.2.2.1; rw [w202] at this; exact this
        have h59 : qz_I g1 202 5 = qz_I g0 202 5 := (ht.2.2.2.1 5 (by decide)).trans (w202 5)
        have ho9 : ∀ j, j ≠ 1 → j ≠ 4 → qz_I g1 202 j = qz_I g0 202 j := fun j j1 _ => (ht.2.2.2.1 j j1).trans (w202 j)
        have xg := xr.trans (fz_PS u202 u203 ht.2.2.1)
        have bl := rz_last_bd (rz_b h) (rz_ff (rz_b h) A 0) (rz_tt (rz_b h) A 0)
        have bf := rz_code_bd (rz_b h) (rz_ff (rz_b h) A 0) (rz_dots (rz_b h) (rz_tt (rz_b h) A 0 - rz_ff (rz_b h) A 0).toNat (rz_ff (rz_b h) A 0))
        have ef2 : rz_first (rz_b h) (rz_ff (rz_b h) A 0) (rz_tt (rz_b h) A 0) = rz_code (rz_b h) (rz_ff (rz_b h) A 0) (rz_dots (rz_b h) (rz_tt (rz_b h) A 0 - rz_ff (rz_b h) A 0).toNat (rz_ff (rz_b h) A 0)) := rfl
        obtain ⟨F2, hF2⟩ : ∃ F2, F2 = F := ⟨F, rfl⟩
        obtain ⟨E2, hE2⟩ : ∃ E2 : Int → Prop, ∀ x, E2 x ↔ (E x ∨ ((first ≤ x ∧ x ≤ last) ∧ rz_CE (rz_b h) (rz_ff (rz_b h) A 1) (rz_tt (rz_b h) A 1))) := ⟨_, fun x => Iff.rfl⟩
        have hD9 : sz_D τ1 g1 F2 E2 := by rw [hF2]; exact sz_D_R hBh u202 u203 hDh ht (fun P u v w => w.1 rfl) (fun x u v w wu => by rw [w.2 rfl, wu]; exact (hE2 x).symm)
        have hXs : ∃ y, ∀ x, (F2 x).2 ≠ none → (F x).2 ≠ none ∨ x = y := ⟨0, fun x hx => Or.inl (by rw [hF2] at hx; exact hx)⟩
        have hstep : rz_step (rz_b h) n 3 F E F2 E2 := by
          refine ⟨fun w => absurd w (by decide), fun _ => ?_, fun _ w => absurd rfl w⟩
          by_cases hce : rz_CE (rz_b h) (rz_ff (rz_b h) A 1) (rz_tt (rz_b h) A 1)
          · exact Or.inl ⟨first, last, ⟨A, hA, ⟨ef, el, f1n, fl⟩, hce⟩, hF2, fun x => (hE2 x).trans ⟨fun w => w.imp id (fun w => w.1), fun w => w.imp id (fun w => ⟨w, hce⟩)⟩⟩
          · refine Or.inr ⟨fun ⟨_, _, A2, hA2, _, w⟩ => hce (by rw [rz_A_uniq hA hA2]; exact w), hF2, funext fun x => propext ((hE2 x).trans ⟨fun w => w.elim id (fun w => absurd w.2 hce), Or.inl⟩)⟩
        have hans : rz_an (rz_b h) n 2 (rz_g3 (rz_b h)) (last - first + 1) := Or.inl ⟨A, hA, ⟨by rw [← ef]; exact f1n, by rw [← ef, ← el]; exact fl⟩, hpk, by rw [← ef, ← el]⟩
        obtain ⟨D2, hD2⟩ : ∃ D2, D2 = xd D ((3, rz_first (rz_b h) (rz_ff (rz_b h) A 0) (rz_tt (rz_b h) A 0), rz_last (rz_b h) (rz_ff (rz_b h) A 0) (rz_tt (rz_b h) A 0)), (0, 0, 0, 0), (gr, nm), (0, [], [], [])) := ⟨_, rfl⟩
        have hxs : xsl (rz_b h) n 3 D (last - first + 1) D2 := Or.inr ⟨by omega, _, Or.inr (Or.inr (Or.inr (Or.inl ⟨rfl, A, gr, nm, hA, hPV, rfl⟩))), hD2⟩
        have hX1 : jx τ1 g1 D2 := by obtain ⟨O9, hXO⟩ := hXh; exact ⟨O9, sz_X_P hBh u202 u203 hXO htP (fun x => by rw [hD2, xd_3, ← ef, ← el])⟩
        refine ez_go (n := 2) (pc' := 97) (L' := [(3, .inl (last - first + 1)), (0, .inr (.inr (some (720)))), (1, .inl (3)), (2, .inl (n))]) (st' := []) rfl ?_
        refine ez_less [(3, .inl (last - first + 1)), (0, .inr (.inr (some (720)))), (1, .inl (3)), (2, .inl (n))] rfl ⟨rfl, rfl, rfl, rfl, trivial⟩ ?_
        refine rd_take_e hB1 u720 u202 (by omega) (by omega) (Or.inr (by rw [h59, q202]; exact hlt)) (fun g9 hB9 f9 j9 l9 => ?_)
        rw [if_neg (by omega)] at l9
        have y9 := fz_1 u202 rfl f9
        have hX9 : jx τ1 g9 D2 := jx_tr hB1 u202 u203 hX1 (j9 1 (by decide)) (f9.2.2 203 rfl) (fun q hq => ⟨rfl, f9.2.2 q (dz_beq_ne (fun e => by rw [e, u202] at hq; omega))⟩)
        refine k g9 _ F2 E2 _ D2 (jz_yes hI0 hB9 (xg.trans y9) hB1 hok9 hE9 hn9 h59 hD9 f9 j9 l9 hXs) (((x0.trans xg).trans y9).mono (by omega) (by omega)) hstep (Or.inr ⟨by omega, by omega, hnp, by rw [l9, h59, q202]⟩) (fun j j1 j4 j5 => by rw [j9 j j5, ho9 j j1 j4, q202]) hans hxs hX9
theorem rd_take49 {F : rz_W} {E : Int → Prop} {n : Int} {D : Int → xD} (hI : jz_I τ h F E) (hX : jx τ h D) (n0 : 0 ≤ n) (n1 : n ≤ 4096) (hl : n = 0 ∨ qz_I h 202 5 ≤ 255) (hr1 : h.1 + 4 ≤ 600192) (hr2 : h.2.1 + 59 ≤ 7302232) (k : ∀ g τ1 F2 E2 (v : Int) D2, jz_I τ1 g F2 E2 → fz τ h τ1 g 4 59 → rz_step (rz_b h) n 4 F E F2 E2 → ((v = -1 ∧ qz_I g 202 5 = qz_I h 202 5) ∨ (0 ≤ v ∧ v ≤ 1114112 ∧ 0 < n ∧ qz_I g 202 5 = qz_I h 202 5 + 1)) → (∀ j, j ≠ 1 → j ≠ 4 → j ≠ 5 → qz_I g 202 j = qz_I h 202 j) → rz_an (rz_b h) n 2 (rz_g4 (rz_b h)) v → xsl (rz_b h) n 4 D v D2 → jx τ1 g D2 → Q (.inl (some (ez_v (.inl v))), g)) : ez_W (d + 8) cm_174 0 [(0, .inr (.inr (some (720)))), (1, .inl (4)), (2, .inl (n))] [] h Q := by
  have t193 : τ 193 = 45 := hI.2.1 193 (by decide)
  have t202 : τ 202 = 48 := hI.2.1 202 (by decide)
  have t203 : τ 203 = 49 := hI.2.1 203 (by decide)
  have t204 : τ 204 = 50 := hI.2.1 204 (by decide)
  have t205 : τ 205 = 51 := hI.2.1 205 (by decide)
  have t720 : τ 720 = 52 := hI.2.1 720 (by decide)
  have t721 : τ 721 = 53 := hI.2.1 721 (by decide)
  have t722 : τ 722 = 54 := hI.2.1 722 (by decide)
  have hB := hI.1
  refine ez_go (n := 1) (pc' := 1) (L' := [(0, .inr (.inr (some (720)))), (1, .inl (4)), (2, .inl (n))]) (st' := [.inr (.inr (some (720)))]) rfl ?_
  refine ez_gC (p := 202) (tg := 48) hB t720 rfl rfl tq_52 rfl rfl (fun (t202 : _ = 48) => ?_)
  refine ez_gI hB t202 rfl rfl tq_48 rfl rfl (fun (b1 : 0 ≤ qz_I h 202 5) (b1' : qz_I h 202 5 ≤ 256) => ?_)
  refine ez_go (n := 1) (pc' := 10) (L' := [(0, .inr (.inr (some (720)))), (1, .inl (4)), (2, .inl (n))]) (st' := [.inl (256), .inl (qz_I h 202 5)]) rfl ?_
  refine ez_icmp rfl rfl ⟨by first | omega | exact (sz_i32 _).1, by first | omega | exact (sz_i32 _).2⟩ ⟨by first | omega | exact (sz_i32 _).1, by first | omega | exact (sz_i32 _).2⟩ (fun (c2 : (256) ≤ (qz_I h 202 5)) => ?_) (fun (c2 : ¬((256) ≤ (qz_I h 202 5))) => ?_)
  · skip
    refine ez_go (n := 1) (pc' := 26) (L' := [(0, .inr (.inr (some (720)))), (1, .inl (4)), (2, .inl (n))]) (st' := [.inl (-1)]) rfl ?_
    exact ez_retI rfl rfl (k h τ F E (-1) D hI (fz.refl _ _ _ _) ⟨fun w => absurd w (by decide), fun w => absurd w (by decide), fun _ _ => ⟨rfl, rfl⟩⟩ (Or.inl ⟨rfl, rfl⟩) (fun _ _ _ _ => rfl) (rz_an_n (fun ⟨A, hA⟩ => by have := rz_A_pos (by decide) hA; omega)) (Or.inl ⟨rfl, rfl⟩) hX)
  · skip
    refine ez_go (n := 3) (pc' := 16) (L' := [(0, .inr (.inr (some (720)))), (1, .inl (4)), (2, .inl (n))]) (st' := [.inl (4), .inl (n), .inr (.inr (some (720)))]) rfl ?_
    refine ez_cs hB.2.1 rfl rfl rfl rfl rfl (rd_fieldsOf4 (ez_K1 ?_))
    refine ez_cv hB t720 rfl rfl rfl tq_52 rfl rfl rfl (rd_split hB t720 t721 t722 n0 n1 (by omega) (by omega) (fun g0 hB0 f0 hno => ez_K1 ?_) (fun g0 c hB0 f0 hpl hha hlen hfl => ez_K1 ?_))
    · skip
      have x0 := fz_ft t721 t722 f0
      have q202 : ∀ j, qz_I g0 202 j = qz_I h 202 j := fun j => f0.I rfl j
      have hI0 : jz_I τ g0 F E := jz_no hI hB0 x0 q202 (f0.2.2 203 rfl) (f0.2.2 205 rfl) (fun q hq => f0.2.2 q (by unfold rz_ft; rw [dz_beq_ne (fun e => by rw [e, t721] at hq; cases hq), dz_beq_ne (fun e => by rw [e, t722] at hq; cases hq)]; rfl))
      have hX0 : jx τ g0 D := jx_tr hI.1 t202 t203 hX (q202 1) (f0.2.2 203 rfl) (fun q hq => ⟨rfl, f0.2.2 q (by unfold rz_ft; rw [dz_beq_ne (fun e => by rw [e, t721] at hq; omega), dz_beq_ne (fun e => by rw [e, t722] at hq; omega)]; rfl)⟩)
      have b0 : rz_b g0 = rz_b h := rz_b_fr f0 rfl
      refine ez_if rfl rfl ⟨by decide, by decide⟩ (fun (c3 : (0 : Int) ≠ (0)) => absurd c3 (by decide)) (fun _ => ?_)
      refine ez_go (n := 1) (pc' := 26) (L' := [(0, .inr (.inr (some (720)))), (1, .inl (4)), (2, .inl (n))]) (st' := [.inl (-1)]) rfl ?_
      exact ez_retI rfl rfl (k g0 τ F E (-1) D hI0 (x0.mono (by omega) (by omega)) ⟨fun w => absurd w (by decide), fun w => absurd w (by decide), fun _ _ => ⟨rfl, rfl⟩⟩ (Or.inl ⟨rfl, q202 5⟩) (fun j _ _ _ => q202 j) (rz_an_n (fun ⟨A, hA⟩ => by obtain ⟨c, c1, c2, c3, c4⟩ := hA; exact hno c1 c c2.1 c2.2.1 c2.2.2.1 c2.2.2.2 (by rw [← c3]; exact c4))) (Or.inl ⟨rfl, rfl⟩) hX0)
    · skip
      have x0 := fz_ft t721 t722 f0
      have q202 : ∀ j, qz_I g0 202 j = qz_I h 202 j := fun j => f0.I rfl j
      have hI0 : jz_I τ g0 F E := jz_no hI hB0 x0 q202 (f0.2.2 203 rfl) (f0.2.2 205 rfl) (fun q hq => f0.2.2 q (by unfold rz_ft; rw [dz_beq_ne (fun e => by rw [e, t721] at hq; cases hq), dz_beq_ne (fun e => by rw [e, t722] at hq; cases hq)]; rfl))
      have hX0 : jx τ g0 D := jx_tr hI.1 t202 t203 hX (q202 1) (f0.2.2 203 rfl) (fun q hq => ⟨rfl, f0.2.2 q (by unfold rz_ft; rw [dz_beq_ne (fun e => by rw [e, t721] at hq; omega), dz_beq_ne (fun e => by rw [e, t722] at hq; omega)]; rfl)⟩)
      have b0 : rz_b g0 = rz_b h := rz_b_fr f0 rfl
      have hA : rz_A (rz_b h) n 2 (rz_seg (rz_b h) c.toNat 0 0) := ⟨c, hpl, hha, rfl, hlen⟩
      generalize rz_seg (rz_b h) c.toNat 0 0 = A at hA hfl hlen
      have hlen : (A.length : Int) = 2 := by rw [hlen]; rfl
      have hfa : ∀ k, 0 ≤ k → k ≤ 1 → rz_f g0 k = rz_ff (rz_b h) A k ∧ rz_t g0 k = rz_tt (rz_b h) A k := fun k k0 k1 => rz_flds_at hfl k0 (by omega)
      have hft : ∀ k, 0 ≤ k → k ≤ 1 → rz_f g0 k ≤ rz_t g0 k := fun k k0 k1 => by
        obtain ⟨w1, w2⟩ := hfa k k0 k1
        rw [w1, w2]
        exact rz_A_ff hA (by omega) (by omega)
      have hlt : qz_I h 202 5 ≤ 255 := by omega
      have hnp := rz_A_pos (by decide) hA
      have fc0 := x0.2
      have i6 := hI.2.2.2.2.1
      have hsp : qz_I g0 202 1 + 2 ≤ 513 := by rw [q202]; omega
      refine ez_if rfl rfl ⟨by decide, by decide⟩ (fun _ => ?_) (fun (c4 : ¬((1 : Int) ≠ (0))) => absurd c4 (by decide))
      refine ez_go (n := 1) (pc' := 28) (L' := [(0, .inr (.inr (some (720)))), (1, .inl (4)), (2, .inl (n))]) (st' := [.inl (4)]) rfl ?_
      refine ez_sw rfl ⟨by decide, by decide⟩ ⟨_, rfl, rfl⟩ ?_
      refine ez_go (n := 1) (pc' := 93) (L' := [(0, .inr (.inr (some (720)))), (1, .inl (4)), (2, .inl (n))]) (st' := [.inr (.inr (some (720)))]) rfl ?_
      refine ez_cv hB0 t720 rfl rfl rfl tq_52 rfl rfl rfl (rd_takeEntry hB0 t193 t202 t203 t720 t721 t722 hI0.2.2.1.1 hI0.2.2.1.2 hft hsp t204 t205 hI0.2.2.2.1 (by omega) (by omega) (fun g1 τ1 hB1 hx hno2 => ez_K1 ?_) (fun g1 h1 τ1 v v1 v3 hB1 hBh hx fe j9 hE9 hG9 hv9 => ez_K1 ?_))
      · skip
        have xx := x0.trans (fz_xt hx)
        have w202 : ∀ j, qz_I g1 202 j = qz_I g0 202 j := fun j => hx.I (by rw [t202]; decide) j
        have hI1 : jz_I τ1 g1 F E := jz_no hI0 hB1 (fz_xt hx) w202 ((hx.1 203 (by rw [t203]; decide)).2) ((hx.1 205 (by rw [t205]; decide)).2) (fun q hq => (hx.1 q (by rw [hq]; decide)).2)
        have u202 : τ1 202 = 48 := hI1.2.1 202 (by decide)
        have u720 : τ1 720 = 52 := hI1.2.1 720 (by decide)
        have u203 : τ1 203 = 49 := hI1.2.1 203 (by decide)
        have hX1 : jx τ1 g1 D := jx_tr hI0.1 t202 t203 hX0 (w202 1) ((hx.1 203 (by rw [t203]; decide)).2) (fun q hq => ⟨(hx.1 q (by omega)).1, (hx.1 q (by omega)).2⟩)
        have hans : rz_an (rz_b h) n 2 (rz_g4 (rz_b h)) (-1) := rz_an_f hA (fun v w => hno2 (by have w1 := w.1; unfold rz_G4 at w1 ⊢; rw [b0, (hfa 0 (by omega) (by omega)).1, (hfa 0 (by omega) (by omega)).2, (hfa 1 (by omega) (by omega)).1, (hfa 1 (by omega) (by omega)).2]; exact w1))
        refine ez_go (n := 1) (pc' := 97) (L' := [(3, .inl (-1)), (0, .inr (.inr (some (720)))), (1, .inl (4)), (2, .inl (n))]) (st' := []) rfl ?_
        refine ez_less [(3, .inl (-1)), (0, .inr (.inr (some (720)))), (1, .inl (4)), (2, .inl (n))] rfl ⟨rfl, rfl, rfl, rfl, trivial⟩ ?_
        refine rd_take_e hB1 u720 u202 (by omega) (by omega) (Or.inl rfl) (fun g9 hB9 f9 j9 l9 => ?_)
        rw [if_pos rfl] at l9
        have y9 := fz_1 u202 rfl f9
        have e9 : ∀ j, qz_I g9 202 j = qz_I g1 202 j := fun j => by by_cases w : j = 5; (· rw [w, l9]; omega); (· exact j9 j w)
        have hI9 : jz_I τ1 g9 F E := jz_no hI1 hB9 y9 e9 (f9.2.2 203 rfl) (f9.2.2 205 rfl) (fun q hq => f9.2.2 q (rz_ne hq u202 rfl))
        have hX9 : jx τ1 g9 D := jx_tr hB1 u202 u203 hX1 (e9 1) (f9.2.2 203 rfl) (fun q hq => ⟨rfl, f9.2.2 q (dz_beq_ne (fun e => by rw [e, u202] at hq; omega))⟩)
        exact k g9 _ F E (-1) D hI9 ((xx.trans y9).mono (by omega) (by omega)) ⟨fun w => absurd w (by decide), fun w => absurd w (by decide), fun _ _ => ⟨rfl, rfl⟩⟩ (Or.inl ⟨rfl, by rw [e9, w202, q202]⟩) (fun j _ _ _ => by rw [e9, w202, q202]) hans (Or.inl ⟨rfl, rfl⟩) hX9
      · skip
        have xr := fz_xt hx
        have X1 := hI0.2.1.fz xr
        have u202 : τ1 202 = 48 := X1 202 (by decide)
        have u203 : τ1 203 = 49 := X1 203 (by decide)
        have u204 : τ1 204 = 50 := X1 204 (by decide)
        have u205 : τ1 205 = 51 := X1 205 (by decide)
        have u720 : τ1 720 = 52 := X1 720 (by decide)
        have w202 : ∀ j, qz_I h1 202 j = qz_I g0 202 j := fun j => hx.I (by rw [t202]; decide) j
        have c205 : h1.2.2 205 = g0.2.2 205 := (hx.1 205 (by rw [t205]; decide)).2
        have c203 : h1.2.2 203 = g0.2.2 203 := (hx.1 203 (by rw [t203]; decide)).2
        have c4 : ∀ q, τ q = 4 → h1.2.2 q = g0.2.2 q := fun q hq => (hx.1 q (by rw [hq]; decide)).2
        have hXh : jx τ1 h1 D := jx_tr hB0 t202 t203 hX0 (w202 1) c203 (fun q hq => ⟨(hx.1 q (by omega)).1, (hx.1 q (by omega)).2⟩)
        have hDh : sz_D τ1 h1 F E := sz_D_tr hB0 t202 t203 hI0.2.2.2.2.2.2.1 (w202 1) c203 c4 (fun q hq => by have := (xr.1 q (by rw [hq]; decide)).2 (by rw [hq]; rfl); unfold qz_I; rw [this]; exact ⟨rfl, rfl, rfl, rfl⟩) (fun p hp => by have := xr.1 p (by rw [hp]; decide); exact ⟨this.1.trans hp, this.2 (by rw [hp]; rfl)⟩)
        have F2e : ∃ F2, F2 = F := ⟨F, rfl⟩
        obtain ⟨F2, hF2⟩ := F2e
        have E2e : ∃ E2, E2 = E := ⟨E, rfl⟩
        obtain ⟨E2, hE2⟩ := E2e
        have hXs : ∃ y, ∀ x, (F2 x).2 ≠ none → (F x).2 ≠ none ∨ x = y := ⟨0, fun x hx => Or.inl (by rw [hF2] at hx; exact hx)⟩
        have hstep : rz_step (rz_b h) n 4 F E F2 E2 := ⟨fun w => absurd w (by decide), fun w => absurd w (by decide), fun _ _ => ⟨hF2, hE2⟩⟩
        have xg := xr.trans (fz_PE u202 u204 u205 fe)
        have pe : ∀ q, τ1 q = 3 ∨ τ1 q = 4 ∨ τ1 q = 5 → nz_PE q = false := fun q hq => by unfold nz_PE; rw [dz_beq_ne (fun e => by rw [e, u202] at hq; omega), dz_beq_ne (fun e => by rw [e, u204] at hq; omega), dz_beq_ne (fun e => by rw [e, u205] at hq; omega)]; rfl
        have hD9 : sz_D τ1 g1 F2 E2 := by
          rw [hF2, hE2]
          refine sz_D_tr hBh u202 u203 hDh (j9 1 (by decide)) (fe.2.2 203 rfl) (fun q hq => fe.2.2 q (pe q (Or.inr (Or.inl hq)))) (fun q hq => ?_) (fun p hp => ⟨hp, fe.2.2 p (pe p (Or.inr (Or.inr hp)))⟩)
          unfold qz_I; rw [fe.2.2 q (pe q (Or.inl hq))]; exact ⟨rfl, rfl, rfl, rfl⟩
        have okh := sz_same_ok hB0 t203 t202 (hx.1 202 (by rw [t202]; decide)).2 (hx.1 203 (by rw [t203]; decide)).2 (fun q hq => (hx.1 q (by rw [hq]; decide)).2) hI0.2.2.1.1 hI0.2.2.1.2
        have hok9 := sz_pe_ok hBh u203 u202 (j9 1 (by decide)) (fe.2.2 203 rfl) (fun q hq => fe.2.2 q (pe q (Or.inr (Or.inl hq)))) okh.1 okh.2
        have hn9 : qz_I g1 202 1 ≤ qz_I g0 202 1 + 2 := by rw [j9 1 (by decide), w202]; omega
        have h59 : qz_I g1 202 5 = qz_I g0 202 5 := (j9 5 (by decide)).trans (w202 5)
        have ho9 : ∀ j, j ≠ 1 → j ≠ 4 → qz_I g1 202 j = qz_I g0 202 j := fun j _ j4 => (j9 j j4).trans (w202 j)
        unfold rz_G4 at hG9; rw [b0, (hfa 0 (by omega) (by omega)).1, (hfa 0 (by omega) (by omega)).2, (hfa 1 (by omega) (by omega)).1, (hfa 1 (by omega) (by omega)).2] at hG9
        rw [b0, (hfa 0 (by omega) (by omega)).1, (hfa 0 (by omega) (by omega)).2] at hv9
        have hans : rz_an (rz_b h) n 2 (rz_g4 (rz_b h)) v := Or.inl ⟨A, hA, hG9, hv9⟩
        obtain ⟨D2, hD2⟩ : ∃ D2, D2 = xd D ((4, 0, 0), (0, 0, 0, 0), (0, 0), (0, [], [], [])) := ⟨_, rfl⟩
        have hxs : xsl (rz_b h) n 4 D v D2 := Or.inr ⟨by omega, _, Or.inr (Or.inr (Or.inr (Or.inr ⟨rfl, rfl⟩))), hD2⟩
        have hX1 : jx τ1 g1 D2 := by
          rw [hD2, xd_4]
          exact jx_tr hBh u202 u203 hXh (j9 1 (by decide)) (fe.2.2 203 rfl) (fun q hq => ⟨rfl, fe.2.2 q (by unfold nz_PE; rw [dz_beq_ne (fun e => by rw [e, u202] at hq; omega), dz_beq_ne (fun e => by rw [e, u204] at hq; omega), dz_beq_ne (fun e => by rw [e, u205] at hq; omega)]; rfl)⟩)
        refine ez_go (n := 1) (pc' := 97) (L' := [(3, .inl (v)), (0, .inr (.inr (some (720)))), (1, .inl (4)), (2, .inl (n))]) (st' := []) rfl ?_
        refine ez_less [(3, .inl (v)), (0, .inr (.inr (some (720)))), (1, .inl (4)), (2, .inl (n))] rfl ⟨rfl, rfl, rfl, rfl, trivial⟩ ?_
        refine rd_take_e hB1 u720 u202 (by omega) (by omega) (Or.inr (by rw [h59, q202]; exact hlt)) (fun g9 hB9 f9 j9 l9 => ?_)
        rw [if_neg (by omega)] at l9
        have y9 := fz_1 u202 rfl f9
        have hX9 : jx τ1 g9 D2 := jx_tr hB1 u202 u203 hX1 (j9 1 (by decide)) (f9.2.2 203 rfl) (fun q hq => ⟨rfl, f9.2.2 q (dz_beq_ne (fun e => by rw [e, u202] at hq; omega))⟩)
        refine k g9 _ F2 E2 _ D2 (jz_yes hI0 hB9 (xg.trans y9) hB1 hok9 hE9 hn9 h59 hD9 f9 j9 l9 hXs) (((x0.trans xg).trans y9).mono (by omega) (by omega)) hstep (Or.inr ⟨by omega, by omega, hnp, by rw [l9, h59, q202]⟩) (fun j j1 j4 j5 => by rw [j9 j j5, ho9 j j1 j4, q202]) hans hxs hX9
end EzTa
def pcv (g : cz_H) (k : Int) : Int := qz_I g 728 k.toNat
section EzIp
variable {d : Nat} {h : cz_H} {τ : Nat → Nat} {Q : cz_F → Prop} {T : Int → Nat} {F : rz_W} {E : Int → Prop}
theorem rd_ins_e9 {a b x n pl : Int} {y : Int64} {g : cz_H} (t723 : τ 723 = 55) (t727 : τ 727 = 59) (t728 : τ 728 = 60) (n1 : n < 256) (p0 : 0 ≤ pl) (p1 : pl ≤ n) (x0 : 0 ≤ x) (x1 : x ≤ 1114111) (kk : ∀ g, ez_B τ g → ez_fr nz_PG h g → (∀ j, j ≠ 8 → qz_I g 723 j = qz_I h 723 j) → qz_I g 723 8 = n + 1 → (∀ k, 0 ≤ k → k ≤ n → pp g k = if k = pl then y.toInt else if pl < k then pp h (k - 1) else pp h k) → (∀ k, 0 ≤ k → k ≤ n → pcv g k = if k = pl then x else if pl < k then pcv h (k - 1) else pcv h k) → Q (.inl (some (ez_v (.inl 1))), g)) (hB : ez_B τ g) (hf : ez_fr nz_PG h g) (hj0 : ∀ j, j ≠ 8 → qz_I g 723 j = qz_I h 723 j) (hc : qz_I g 723 8 = n) (hv : ∀ k, 0 ≤ k → k ≤ n → qz_I g 727 k.toNat = if pl < k then pp h (k - 1) else pp h k) (hv2 : ∀ k, 0 ≤ k → k ≤ n → qz_I g 728 k.toNat = if pl < k then pcv h (k - 1) else pcv h k) : ez_W d cm_121 128 [(8, .inl (pl)), (7, .inl (0)), (6, .inl (pl)), (4, .inr (.inl (y))), (0, .inr (.inr (some (723)))), (1, .inl (a)), (2, .inl (b)), (3, .inl (x))] [] g Q := by
  refine ez_go (n := 1) (pc' := 129) (L' := [(8, .inl (pl)), (7, .inl (0)), (6, .inl (pl)), (4, .inr (.inl (y))), (0, .inr (.inr (some (723)))), (1, .inl (a)), (2, .inl (b)), (3, .inl (x))]) (st' := [.inr (.inr (some (723)))]) rfl ?_
  refine ez_gC (p := 727) (tg := 59) hB t723 rfl rfl tq_55 rfl rfl (fun (t727 : _ = 59) => ?_)
  refine ez_go (n := 2) (pc' := 136) (L' := [(8, .inl (pl)), (7, .inl (0)), (6, .inl (pl)), (4, .inr (.inl (y))), (0, .inr (.inr (some (723)))), (1, .inl (a)), (2, .inl (b)), (3, .inl (x))]) (st' := [.inr (.inl (y)), .inl (pl), .inr (.inr (some (727)))]) rfl ?_
  have n3 : 256 ≤ qz_N g 727 ∧ qz_N g 727 ≤ 256 := ez_len hB t727 tq_59 rfl
  refine ez_as hB t727 rfl tq_59 rfl rfl (by omega) (by omega) ez_vdJ (fun hB1 w2 => ?_)
  refine ez_go (n := 1) (pc' := 138) (L' := [(8, .inl (pl)), (7, .inl (0)), (6, .inl (pl)), (4, .inr (.inl (y))), (0, .inr (.inr (some (723)))), (1, .inl (a)), (2, .inl (b)), (3, .inl (x))]) (st' := [.inr (.inr (some (723)))]) rfl ?_
  refine ez_gC (p := 728) (tg := 60) hB1 t723 rfl rfl tq_55 rfl rfl (fun (t728 : _ = 60) => ?_)
  refine ez_go (n := 2) (pc' := 144) (L' := [(8, .inl (pl)), (7, .inl (0)), (6, .inl (pl)), (4, .inr (.inl (y))), (0, .inr (.inr (some (723)))), (1, .inl (a)), (2, .inl (b)), (3, .inl (x))]) (st' := [.inl (x), .inl (pl), .inr (.inr (some (728)))]) rfl ?_
  have n6 : 256 ≤ qz_N (dz_put g 727 (pl).toNat (ez_v (.inr (.inl (y))))) 728 ∧ qz_N (dz_put g 727 (pl).toNat (ez_v (.inr (.inl (y))))) 728 ≤ 256 := ez_len hB1 t728 tq_60 rfl
  refine ez_as hB1 t728 rfl tq_60 rfl rfl (by omega) (by omega) (ez_vdI rfl rfl (by omega) (by omega)) (fun hB4 w5 => ?_)
  refine ez_go (n := 2) (pc' := 147) (L' := [(8, .inl (pl)), (7, .inl (0)), (6, .inl (pl)), (4, .inr (.inl (y))), (0, .inr (.inr (some (723)))), (1, .inl (a)), (2, .inl (b)), (3, .inl (x))]) (st' := [.inr (.inr (some (723))), .inr (.inr (some (723)))]) rfl ?_
  refine ez_gI hB4 t723 rfl rfl tq_55 rfl rfl (fun (b7 : 0 ≤ qz_I (dz_put (dz_put g 727 (pl).toNat (ez_v (.inr (.inl (y))))) 728 (pl).toNat (ez_v (.inl (x)))) 723 8) (b7' : qz_I (dz_put (dz_put g 727 (pl).toNat (ez_v (.inr (.inl (y))))) 728 (pl).toNat (ez_v (.inl (x)))) 723 8 ≤ 256) => ?_)
  have hcn : qz_I (dz_put (dz_put g 727 (pl).toNat (ez_v (.inr (.inl (y))))) 728 (pl).toNat (ez_v (.inl (x)))) 723 8 = n := by rw [ez_put_I (by omega), ez_put_I (by omega)]; exact hc
  refine ez_go (n := 2) (pc' := 152) (L' := [(8, .inl (pl)), (7, .inl (0)), (6, .inl (pl)), (4, .inr (.inl (y))), (0, .inr (.inr (some (723)))), (1, .inl (a)), (2, .inl (b)), (3, .inl (x))]) (st' := [.inl ((qz_I (dz_put (dz_put g 727 (pl).toNat (ez_v (.inr (.inl (y))))) 728 (pl).toNat (ez_v (.inl (x)))) 723 8) + (1)), .inr (.inr (some (723)))]) rfl ?_
  refine ez_pf hB4 t723 rfl rfl tq_55 rfl rfl rfl rfl (ez_vdI rfl rfl (by omega) (by omega)) (fun hB8 w9 => ?_)
  refine ez_go (n := 1) (pc' := 156) (L' := [(8, .inl (pl)), (7, .inl (0)), (6, .inl (pl)), (4, .inr (.inl (y))), (0, .inr (.inr (some (723)))), (1, .inl (a)), (2, .inl (b)), (3, .inl (x))]) (st' := [.inl (1)]) rfl ?_
  refine ez_retZ rfl rfl (by decide) (kk _ hB8 (((hf.put (show nz_PG 727 = true from rfl) _ _).put (show nz_PG 728 = true from rfl) _ _).put (show nz_PG 723 = true from rfl) _ _) (fun j hj => by rw [ez_put_I (fun w => hj w.2), ez_put_I (by omega), ez_put_I (by omega)]; exact hj0 j hj) (by rw [w9, rz_rd ⟨by omega, by omega⟩, hcn]) (fun k k0 k1 => ?_) (fun k k0 k1 => ?_))
  · unfold pp
    rw [ez_put_I (by omega), ez_put_I (by omega)]
    by_cases e : k = pl
    · rw [if_pos e, e, w2]; rfl
    · rw [if_neg e, ez_put_I (by omega)]; exact hv k k0 k1
  · unfold pcv
    rw [ez_put_I (by omega)]
    by_cases e : k = pl
    · rw [if_pos e, e, w5, rz_rd ⟨by omega, by omega⟩]
    · rw [if_neg e, ez_put_I (by omega), ez_put_I (by omega)]; exact hv2 k k0 k1
theorem rd_ins_l9 {a b x n pl : Int} {y : Int64} (t723 : τ 723 = 55) (t727 : τ 727 = 59) (t728 : τ 728 = 60) (n1 : n < 256) (p0 : 0 ≤ pl) (p1 : pl ≤ n) (x0 : 0 ≤ x) (x1 : x ≤ 1114111) (kk : ∀ g, ez_B τ g → ez_fr nz_PG h g → (∀ j, j ≠ 8 → qz_I g 723 j = qz_I h 723 j) → qz_I g 723 8 = n + 1 → (∀ k, 0 ≤ k → k ≤ n → pp g k = if k = pl then y.toInt else if pl < k then pp h (k - 1) else pp h k) → (∀ k, 0 ≤ k → k ≤ n → pcv g k = if k = pl then x else if pl < k then pcv h (k - 1) else pcv h k) → Q (.inl (some (ez_v (.inl 1))), g)) : ∀ (m : Nat) (i : Int) (g : cz_H), m = (i - pl).toNat → pl ≤ i → i ≤ n → ez_B τ g → ez_fr nz_PG h g → (∀ j, j ≠ 8 → qz_I g 723 j = qz_I h 723 j) → qz_I g 723 8 = n → (∀ k, 0 ≤ k → k ≤ n → qz_I g 727 k.toNat = if i < k then pp h (k - 1) else pp h k) → (∀ k, 0 ≤ k → k ≤ n → qz_I g 728 k.toNat = if i < k then pcv h (k - 1) else pcv h k) → ez_W d cm_121 83 [(8, .inl (i)), (7, .inl (0)), (6, .inl (pl)), (4, .inr (.inl (y))), (0, .inr (.inr (some (723)))), (1, .inl (a)), (2, .inl (b)), (3, .inl (x))] [] g Q := by
  intro m
  induction m with
  | zero =>
    intro i g hm a1 a2 hB hf hj0 hc hv hv2
    refine ez_go (n := 2) (pc' := 87) (L' := [(8, .inl (i)), (7, .inl (0)), (6, .inl (pl)), (4, .inr (.inl (y))), (0, .inr (.inr (some (723)))), (1, .inl (a)), (2, .inl (b)), (3, .inl (x))]) (st' := [.inl (pl), .inl (i)]) rfl ?_
    refine ez_icmp rfl rfl ⟨by first | omega | exact (sz_i32 _).1, by first | omega | exact (sz_i32 _).2⟩ ⟨by first | omega | exact (sz_i32 _).1, by first | omega | exact (sz_i32 _).2⟩ (fun (c1 : (i) ≤ (pl)) => ?_) (fun (c1 : ¬((i) ≤ (pl))) => ?_)
    · skip
      have e9 : i = pl := by omega
      subst e9
      exact rd_ins_e9 t723 t727 t728 n1 p0 p1 x0 x1 kk hB hf hj0 hc hv hv2
    · exfalso; omega
  | succ m ih =>
    intro i g hm a1 a2 hB hf hj0 hc hv hv2
    refine ez_go (n := 2) (pc' := 87) (L' := [(8, .inl (i)), (7, .inl (0)), (6, .inl (pl)), (4, .inr (.inl (y))), (0, .inr (.inr (some (723)))), (1, .inl (a)), (2, .inl (b)), (3, .inl (x))]) (st' := [.inl (pl), .inl (i)]) rfl ?_
    refine ez_icmp rfl rfl ⟨by first | omega | exact (sz_i32 _).1, by first | omega | exact (sz_i32 _).2⟩ ⟨by first | omega | exact (sz_i32 _).1, by first | omega | exact (sz_i32 _).2⟩ (fun (c1 : (i) ≤ (pl)) => ?_) (fun (c1 : ¬((i) ≤ (pl))) => ?_)
    · exfalso; omega
    · skip
      refine ez_go (n := 1) (pc' := 91) (L' := [(8, .inl (i)), (7, .inl (0)), (6, .inl (pl)), (4, .inr (.inl (y))), (0, .inr (.inr (some (723)))), (1, .inl (a)), (2, .inl (b)), (3, .inl (x))]) (st' := [.inr (.inr (some (723)))]) rfl ?_
      refine ez_gC (p := 727) (tg := 59) hB t723 rfl rfl tq_55 rfl rfl (fun (t727 : _ = 59) => ?_)
      refine ez_go (n := 2) (pc' := 97) (L' := [(8, .inl (i)), (7, .inl (0)), (6, .inl (pl)), (4, .inr (.inl (y))), (0, .inr (.inr (some (723)))), (1, .inl (a)), (2, .inl (b)), (3, .inl (x))]) (st' := [.inr (.inr (some (723))), .inl (i), .inr (.inr (some (727)))]) rfl ?_
      refine ez_gC (p := 727) (tg := 59) hB t723 rfl rfl tq_55 rfl rfl (fun (t727 : _ = 59) => ?_)
      refine ez_go (n := 3) (pc' := 104) (L' := [(8, .inl (i)), (7, .inl (0)), (6, .inl (pl)), (4, .inr (.inl (y))), (0, .inr (.inr (some (723)))), (1, .inl (a)), (2, .inl (b)), (3, .inl (x))]) (st' := [.inl ((i) - (1)), .inr (.inr (some (727))), .inl (i), .inr (.inr (some (727)))]) rfl ?_
      have n2 : 256 ≤ qz_N g 727 ∧ qz_N g 727 ≤ 256 := ez_len hB t727 tq_59 rfl
      refine ez_aL hB t727 rfl tq_59 rfl rfl (by omega) (by omega) ?_
      have n5 : 256 ≤ qz_N g 727 ∧ qz_N g 727 ≤ 256 := ez_len hB t727 tq_59 rfl
      refine ez_as hB t727 rfl tq_59 rfl rfl (by omega) (by omega) ez_vdJ (fun hB3 w4 => ?_)
      refine ez_go (n := 1) (pc' := 107) (L' := [(8, .inl (i)), (7, .inl (0)), (6, .inl (pl)), (4, .inr (.inl (y))), (0, .inr (.inr (some (723)))), (1, .inl (a)), (2, .inl (b)), (3, .inl (x))]) (st' := [.inr (.inr (some (723)))]) rfl ?_
      refine ez_gC (p := 728) (tg := 60) hB3 t723 rfl rfl tq_55 rfl rfl (fun (t728 : _ = 60) => ?_)
      refine ez_go (n := 2) (pc' := 113) (L' := [(8, .inl (i)), (7, .inl (0)), (6, .inl (pl)), (4, .inr (.inl (y))), (0, .inr (.inr (some (723)))), (1, .inl (a)), (2, .inl (b)), (3, .inl (x))]) (st' := [.inr (.inr (some (723))), .inl (i), .inr (.inr (some (728)))]) rfl ?_
      refine ez_gC (p := 728) (tg := 60) hB3 t723 rfl rfl tq_55 rfl rfl (fun (t728 : _ = 60) => ?_)
      refine ez_go (n := 3) (pc' := 120) (L' := [(8, .inl (i)), (7, .inl (0)), (6, .inl (pl)), (4, .inr (.inl (y))), (0, .inr (.inr (some (723)))), (1, .inl (a)), (2, .inl (b)), (3, .inl (x))]) (st' := [.inl ((i) - (1)), .inr (.inr (some (728))), .inl (i), .inr (.inr (some (728)))]) rfl ?_
      have n7 : 256 ≤ qz_N (dz_put g 727 (i).toNat (ez_v (.inr (.inl (Int64.ofInt (qz_I g 727 ((i) - (1)).toNat)))))) 728 ∧ qz_N (dz_put g 727 (i).toNat (ez_v (.inr (.inl (Int64.ofInt (qz_I g 727 ((i) - (1)).toNat)))))) 728 ≤ 256 := ez_len hB3 t728 tq_60 rfl
      refine ez_aI hB3 t728 rfl tq_60 rfl rfl (by omega) (by omega) (fun (b6 : -2147483648 ≤ qz_I (dz_put g 727 (i).toNat (ez_v (.inr (.inl (Int64.ofInt (qz_I g 727 ((i) - (1)).toNat)))))) 728 ((i) - (1)).toNat) (b6' : qz_I (dz_put g 727 (i).toNat (ez_v (.inr (.inl (Int64.ofInt (qz_I g 727 ((i) - (1)).toNat)))))) 728 ((i) - (1)).toNat ≤ 2147483647) => ?_)
      have n10 : 256 ≤ qz_N (dz_put g 727 (i).toNat (ez_v (.inr (.inl (Int64.ofInt (qz_I g 727 ((i) - (1)).toNat)))))) 728 ∧ qz_N (dz_put g 727 (i).toNat (ez_v (.inr (.inl (Int64.ofInt (qz_I g 727 ((i) - (1)).toNat)))))) 728 ≤ 256 := ez_len hB3 t728 tq_60 rfl
      refine ez_as hB3 t728 rfl tq_60 rfl rfl (by omega) (by omega) (ez_vdI rfl rfl (by omega) (by omega)) (fun hB8 w9 => ?_)
      refine ez_go (n := 2) (pc' := 83) (L' := [(8, .inl (i + (-1))), (7, .inl (0)), (6, .inl (pl)), (4, .inr (.inl (y))), (0, .inr (.inr (some (723)))), (1, .inl (a)), (2, .inl (b)), (3, .inl (x))]) (st' := []) rfl ?_
      refine ez_less [(8, .inl (i + (-1))), (7, .inl (0)), (6, .inl (pl)), (4, .inr (.inl (y))), (0, .inr (.inr (some (723)))), (1, .inl (a)), (2, .inl (b)), (3, .inl (x))] rfl ⟨rfl, rfl, rfl, rfl, rfl, rfl, rfl, rfl, trivial⟩ ?_
      have rd := ez_lrg (i := i - 1) hB t727 tq_59 rfl rfl (by omega) (by omega)
      refine ih _ _ (by omega) (by omega) (by omega) hB8 ((hf.put (show nz_PG 727 = true from rfl) _ _).put (show nz_PG 728 = true from rfl) _ _) (fun j hj => by rw [ez_put_I (by omega), ez_put_I (by omega)]; exact hj0 j hj) (by rw [ez_put_I (by omega), ez_put_I (by omega)]; exact hc) (fun k k0 k1 => ?_) (fun k k0 k1 => ?_)
      · rw [ez_put_I (by omega)]
        by_cases e : k = i
        · rw [e, if_pos (by omega), w4]; show (Int64.ofInt (qz_I g 727 (i - 1).toNat)).toInt = _; rw [rd, hv (i - 1) (by omega) (by omega), if_neg (by omega)]
        · rw [ez_put_I (by omega), hv k k0 k1]
          by_cases e2 : i < k
          · rw [if_pos e2, if_pos (by omega)]
          · rw [if_neg e2, if_neg (by omega)]
      · by_cases e : k = i
        · rw [e, if_pos (by omega), w9, rz_rd ⟨by omega, by omega⟩, ez_put_I (by omega), hv2 (i - 1) (by omega) (by omega), if_neg (by omega)]
        · rw [ez_put_I (by omega), ez_put_I (by omega), hv2 k k0 k1]
          by_cases e2 : i < k
          · rw [if_pos e2, if_pos (by omega)]
          · rw [if_neg e2, if_neg (by omega)]
theorem rd_insertPair9 {a b x : Int} (hB : ez_B τ h) (hX : jz_X τ) (ha0 : 0 ≤ a) (ha1 : a ≤ 1114111) (hb0 : 0 ≤ b) (hb1 : b ≤ 1114111) (x0 : 0 ≤ x) (x1 : x ≤ 1114111) (hn : qz_I h 723 8 < 256) (hr : ri (pp h) (qz_I h 723 8)) (k0 : (∃ j, 0 ≤ j ∧ j < qz_I h 723 8 ∧ pp h j = a * 2097152 + b) ∨ hz_pair a b → Q (.inl (some (ez_v (.inl 0))), h)) (k1 : (¬ ∃ j, 0 ≤ j ∧ j < qz_I h 723 8 ∧ pp h j = a * 2097152 + b) → ¬ hz_pair a b → ∀ g, ez_B τ g → ez_fr nz_PG h g → (∀ j, j ≠ 8 → qz_I g 723 j = qz_I h 723 j) → qz_I g 723 8 = qz_I h 723 8 + 1 → ri (pp g) (qz_I h 723 8 + 1) → (∀ z, (∃ j, 0 ≤ j ∧ j < qz_I h 723 8 + 1 ∧ pp g j = z) ↔ (z = a * 2097152 + b ∨ ∃ j, 0 ≤ j ∧ j < qz_I h 723 8 ∧ pp h j = z)) → (∀ j, 0 ≤ j → j < qz_I h 723 8 + 1 → (pp g j = a * 2097152 + b ∧ pcv g j = x) ∨ ∃ j2, 0 ≤ j2 ∧ j2 < qz_I h 723 8 ∧ pp g j = pp h j2 ∧ pcv g j = pcv h j2) → Q (.inl (some (ez_v (.inl 1))), g)) : ez_W (d + 1) cm_121 0 [(0, .inr (.inr (some (723)))), (1, .inl (a)), (2, .inl (b)), (3, .inl (x))] [] h Q := by
  have t723 : τ 723 = 55 := hX 723 (by decide)
  have t727 : τ 727 = 59 := hX 727 (by decide)
  have t728 : τ 728 = 60 := hX 728 (by decide)
  refine ez_go (n := 2) (pc' := 2) (L' := [(0, .inr (.inr (some (723)))), (1, .inl (a)), (2, .inl (b)), (3, .inl (x))]) (st' := [.inl (b), .inl (a)]) rfl ?_
  refine ez_cs hB.2.1 rfl rfl rfl rfl rfl (rd_packPair ha0 ha1 hb0 hb1 (fun y hy => ez_KL ?_))
  refine ez_go (n := 3) (pc' := 10) (L' := [(4, .inr (.inl (y))), (0, .inr (.inr (some (723)))), (1, .inl (a)), (2, .inl (b)), (3, .inl (x))]) (st' := [.inr (.inr (some (723))), .inr (.inl (y))]) rfl ?_
  refine ez_gC (p := 727) (tg := 59) hB t723 rfl rfl tq_55 rfl rfl (fun (t727 : _ = 59) => ?_)
  refine ez_go (n := 1) (pc' := 14) (L' := [(4, .inr (.inl (y))), (0, .inr (.inr (some (723)))), (1, .inl (a)), (2, .inl (b)), (3, .inl (x))]) (st' := [.inr (.inr (some (723))), .inr (.inr (some (727))), .inr (.inl (y))]) rfl ?_
  refine ez_gI hB t723 rfl rfl tq_55 rfl rfl (fun (b1 : 0 ≤ qz_I h 723 8) (b1' : qz_I h 723 8 ≤ 256) => ?_)
  refine ez_cs hB.2.1 rfl rfl rfl rfl rfl (rd_placeOfP hB t727 (by omega) (by omega) (fun pl p0 p1 q1 q2 => ez_K1 ?_))
  have lr : ∀ k, 0 ≤ k → k < 256 → (Int64.ofInt (qz_I h 727 k.toNat)).toInt = pp h k := fun k k0 k1 => ez_lrg hB t727 tq_59 rfl rfl k0 (by have := ez_len hB t727 tq_59 rfl; have : (256 : Int) ≤ qz_N h 727 := this.1; omega)
  have q1 : pl = 0 ∨ pp h (pl - 1) < y.toInt := by
    by_cases e : pl = 0
    · exact Or.inl e
    · refine Or.inr ?_; have := Int64.lt_iff_toInt_lt.mp (q1.resolve_left e); rw [lr _ (by omega) (by omega)] at this; exact this
  have q2 : pl = qz_I h 723 8 ∨ y.toInt ≤ pp h pl := by
    by_cases e : pl = qz_I h 723 8
    · exact Or.inl e
    · refine Or.inr ?_
      by_cases e3 : y.toInt ≤ pp h pl
      · exact e3
      · exact absurd (Int64.lt_iff_toInt_lt.mpr (by rw [lr _ (by omega) (by omega)]; omega)) (q2.resolve_left e)
  refine ez_go (n := 3) (pc' := 25) (L' := [(6, .inl (pl)), (4, .inr (.inl (y))), (0, .inr (.inr (some (723)))), (1, .inl (a)), (2, .inl (b)), (3, .inl (x))]) (st' := [.inr (.inr (some (723))), .inl (pl)]) rfl ?_
  refine ez_gI hB t723 rfl rfl tq_55 rfl rfl (fun (b2 : 0 ≤ qz_I h 723 8) (b2' : qz_I h 723 8 ≤ 256) => ?_)
  refine ez_icmp rfl rfl ⟨by first | omega | exact (sz_i32 _).1, by first | omega | exact (sz_i32 _).2⟩ ⟨by first | omega | exact (sz_i32 _).1, by first | omega | exact (sz_i32 _).2⟩ (fun (c3 : (qz_I h 723 8) ≤ (pl)) => ?_) (fun (c3 : ¬((qz_I h 723 8) ≤ (pl))) => ?_)
  · skip
    refine ez_go (n := 3) (pc' := 53) (L' := [(7, .inl (0)), (6, .inl (pl)), (4, .inr (.inl (y))), (0, .inr (.inr (some (723)))), (1, .inl (a)), (2, .inl (b)), (3, .inl (x))]) (st' := [.inl (0)]) rfl ?_
    refine ez_if rfl rfl ⟨by decide, by decide⟩ (fun (c4 : (0 : Int) ≠ (0)) => absurd c4 (by decide)) (fun _ => ?_)
    refine ez_go (n := 2) (pc' := 58) (L' := [(7, .inl (0)), (6, .inl (pl)), (4, .inr (.inl (y))), (0, .inr (.inr (some (723)))), (1, .inl (a)), (2, .inl (b)), (3, .inl (x))]) (st' := [.inl (b), .inl (a)]) rfl ?_
    refine ez_cs hB.2.1 rfl rfl rfl rfl rfl (rd_syllableOf ha0 ha1 hb0 hb1 (fun v v0 v1 hpr => ez_K1 ?_) (fun hpr => ez_K1 ?_))
    · skip
      refine ez_go (n := 1) (pc' := 62) (L' := [(7, .inl (0)), (6, .inl (pl)), (4, .inr (.inl (y))), (0, .inr (.inr (some (723)))), (1, .inl (a)), (2, .inl (b)), (3, .inl (x))]) (st' := [.inl (-1), .inl (v)]) rfl ?_
      refine ez_icmp rfl rfl ⟨by first | omega | exact (sz_i32 _).1, by first | omega | exact (sz_i32 _).2⟩ ⟨by first | omega | exact (sz_i32 _).1, by first | omega | exact (sz_i32 _).2⟩ (fun (c5 : (v) ≠ (-1)) => ?_) (fun (c5 : ¬((v) ≠ (-1))) => ?_)
      · skip
        refine ez_go (n := 1) (pc' := 76) (L' := [(7, .inl (0)), (6, .inl (pl)), (4, .inr (.inl (y))), (0, .inr (.inr (some (723)))), (1, .inl (a)), (2, .inl (b)), (3, .inl (x))]) (st' := [.inl (0)]) rfl ?_
        exact ez_retZ rfl rfl (by decide) (k0 (Or.inr hpr))
      · skip
        refine ez_go (n := 1) (pc' := 66) (L' := [(7, .inl (0)), (6, .inl (pl)), (4, .inr (.inl (y))), (0, .inr (.inr (some (723)))), (1, .inl (a)), (2, .inl (b)), (3, .inl (x))]) (st' := [.inr (.inr (some (723)))]) rfl ?_
        refine ez_gI hB t723 rfl rfl tq_55 rfl rfl (fun (b6 : 0 ≤ qz_I h 723 8) (b6' : qz_I h 723 8 ≤ 256) => ?_)
        refine ez_go (n := 1) (pc' := 72) (L' := [(7, .inl (0)), (6, .inl (pl)), (4, .inr (.inl (y))), (0, .inr (.inr (some (723)))), (1, .inl (a)), (2, .inl (b)), (3, .inl (x))]) (st' := [.inl (256), .inl (qz_I h 723 8)]) rfl ?_
        refine ez_icmp rfl rfl ⟨by first | omega | exact (sz_i32 _).1, by first | omega | exact (sz_i32 _).2⟩ ⟨by first | omega | exact (sz_i32 _).1, by first | omega | exact (sz_i32 _).2⟩ (fun (c7 : (qz_I h 723 8) < (256)) => ?_) (fun (c7 : ¬((qz_I h 723 8) < (256))) => ?_)
        · skip
          refine ez_go (n := 1) (pc' := 78) (L' := [(7, .inl (0)), (6, .inl (pl)), (4, .inr (.inl (y))), (0, .inr (.inr (some (723)))), (1, .inl (a)), (2, .inl (b)), (3, .inl (x))]) (st' := [.inr (.inr (some (723)))]) rfl ?_
          refine ez_gI hB t723 rfl rfl tq_55 rfl rfl (fun (b8 : 0 ≤ qz_I h 723 8) (b8' : qz_I h 723 8 ≤ 256) => ?_)
          refine ez_go (n := 1) (pc' := 83) (L' := [(8, .inl (qz_I h 723 8)), (7, .inl (0)), (6, .inl (pl)), (4, .inr (.inl (y))), (0, .inr (.inr (some (723)))), (1, .inl (a)), (2, .inl (b)), (3, .inl (x))]) (st' := []) rfl ?_
          exfalso; omega
        · skip
          refine ez_go (n := 1) (pc' := 76) (L' := [(7, .inl (0)), (6, .inl (pl)), (4, .inr (.inl (y))), (0, .inr (.inr (some (723)))), (1, .inl (a)), (2, .inl (b)), (3, .inl (x))]) (st' := [.inl (0)]) rfl ?_
          exact ez_retZ rfl rfl (by decide) (k0 (Or.inr hpr))
    · skip
      refine ez_go (n := 1) (pc' := 62) (L' := [(7, .inl (0)), (6, .inl (pl)), (4, .inr (.inl (y))), (0, .inr (.inr (some (723)))), (1, .inl (a)), (2, .inl (b)), (3, .inl (x))]) (st' := [.inl (-1), .inl (-1)]) rfl ?_
      refine ez_icmp rfl rfl ⟨by decide, by decide⟩ ⟨by decide, by decide⟩ (fun (c9 : (-1 : Int) ≠ (-1)) => absurd c9 (by decide)) (fun _ => ?_)
      refine ez_go (n := 1) (pc' := 66) (L' := [(7, .inl (0)), (6, .inl (pl)), (4, .inr (.inl (y))), (0, .inr (.inr (some (723)))), (1, .inl (a)), (2, .inl (b)), (3, .inl (x))]) (st' := [.inr (.inr (some (723)))]) rfl ?_
      refine ez_gI hB t723 rfl rfl tq_55 rfl rfl (fun (b10 : 0 ≤ qz_I h 723 8) (b10' : qz_I h 723 8 ≤ 256) => ?_)
      refine ez_go (n := 1) (pc' := 72) (L' := [(7, .inl (0)), (6, .inl (pl)), (4, .inr (.inl (y))), (0, .inr (.inr (some (723)))), (1, .inl (a)), (2, .inl (b)), (3, .inl (x))]) (st' := [.inl (256), .inl (qz_I h 723 8)]) rfl ?_
      refine ez_icmp rfl rfl ⟨by first | omega | exact (sz_i32 _).1, by first | omega | exact (sz_i32 _).2⟩ ⟨by first | omega | exact (sz_i32 _).1, by first | omega | exact (sz_i32 _).2⟩ (fun (c11 : (qz_I h 723 8) < (256)) => ?_) (fun (c11 : ¬((qz_I h 723 8) < (256))) => ?_)
      · skip
        refine ez_go (n := 1) (pc' := 78) (L' := [(7, .inl (0)), (6, .inl (pl)), (4, .inr (.inl (y))), (0, .inr (.inr (some (723)))), (1, .inl (a)), (2, .inl (b)), (3, .inl (x))]) (st' := [.inr (.inr (some (723)))]) rfl ?_
        refine ez_gI hB t723 rfl rfl tq_55 rfl rfl (fun (b12 : 0 ≤ qz_I h 723 8) (b12' : qz_I h 723 8 ≤ 256) => ?_)
        refine ez_go (n := 1) (pc' := 83) (L' := [(8, .inl (qz_I h 723 8)), (7, .inl (0)), (6, .inl (pl)), (4, .inr (.inl (y))), (0, .inr (.inr (some (723)))), (1, .inl (a)), (2, .inl (b)), (3, .inl (x))]) (st' := []) rfl ?_
        refine ez_less [(8, .inl (qz_I h 723 8)), (7, .inl (0)), (6, .inl (pl)), (4, .inr (.inl (y))), (0, .inr (.inr (some (723)))), (1, .inl (a)), (2, .inl (b)), (3, .inl (x))] rfl ⟨rfl, rfl, rfl, rfl, rfl, rfl, rfl, rfl, trivial⟩ ?_
        have q3 : pl = qz_I h 723 8 ∨ y.toInt < pp h pl := by
          by_cases e : pl = qz_I h 723 8
          · exact Or.inl e
          · refine Or.inr ?_
            have e4 := q2.resolve_left e
            have e5 : y.toInt ≠ pp h pl := fun e6 => by
              have e7 : Int64.ofInt (qz_I h 727 pl.toNat) = y := Int64.toInt_inj.mp (by rw [lr pl p0 (by omega)]; exact e6.symm)
              have e8 := (nz_cmp_eq _ _).mpr e7
              first | (exact absurd e8 (by assumption)) | omega
            omega
        refine rd_ins_l9 t723 t727 t728 (n := qz_I h 723 8) hn p0 p1 x0 x1 (fun g hB2 f2 j2 c2 v2 v3 => ?_) _ _ h rfl (by omega) (by omega) hB (ez_fr.refl _ _) (fun _ _ => rfl) rfl (fun k k0 k1 => by rw [if_neg (by omega)]; rfl) (fun k k0 k1 => by rw [if_neg (by omega)]; rfl)
        obtain ⟨r1, r2⟩ := ri_ins (P := pp h) (P2 := pp g) hr p0 p1 q1 q3 v2
        refine k1 (fun ⟨j, j0, j1, e⟩ => ?_) hpr g hB2 f2 j2 c2 r1 (fun z => by rw [← hy]; exact r2 z) (fun j j0 j1 => ?_)
        rotate_left
        · have w2 := v2 j j0 (by omega)
          have w3 := v3 j j0 (by omega)
          by_cases e : j = pl
          · rw [if_pos e] at w2 w3; exact Or.inl ⟨w2.trans hy, w3⟩
          · rw [if_neg e] at w2 w3
            by_cases e2 : pl < j
            · rw [if_pos e2] at w2 w3; exact Or.inr ⟨j - 1, by omega, by omega, w2, w3⟩
            · rw [if_neg e2] at w2 w3; exact Or.inr ⟨j, j0, by omega, w2, w3⟩
        rw [← hy] at e
        by_cases e2 : j < pl
        · rcases q1 with w | w
          · omega
          · by_cases e3 : j = pl - 1
            · rw [e3] at e; omega
            · have := hr j (pl - 1) j0 (by omega) (by omega); omega
        · rcases q3 with w | w
          · omega
          · by_cases e3 : j = pl
            · rw [e3] at e; omega
            · have := hr pl j p0 (by omega) j1; omega
      · skip
        refine ez_go (n := 1) (pc' := 76) (L' := [(7, .inl (0)), (6, .inl (pl)), (4, .inr (.inl (y))), (0, .inr (.inr (some (723)))), (1, .inl (a)), (2, .inl (b)), (3, .inl (x))]) (st' := [.inl (0)]) rfl ?_
        exfalso; omega
  · skip
    refine ez_go (n := 1) (pc' := 32) (L' := [(6, .inl (pl)), (4, .inr (.inl (y))), (0, .inr (.inr (some (723)))), (1, .inl (a)), (2, .inl (b)), (3, .inl (x))]) (st' := [.inr (.inr (some (723)))]) rfl ?_
    refine ez_gC (p := 727) (tg := 59) hB t723 rfl rfl tq_55 rfl rfl (fun (t727 : _ = 59) => ?_)
    refine ez_go (n := 1) (pc' := 37) (L' := [(6, .inl (pl)), (4, .inr (.inl (y))), (0, .inr (.inr (some (723)))), (1, .inl (a)), (2, .inl (b)), (3, .inl (x))]) (st' := [.inl (pl), .inr (.inr (some (727)))]) rfl ?_
    have n13 : 256 ≤ qz_N h 727 ∧ qz_N h 727 ≤ 256 := ez_len hB t727 tq_59 rfl
    refine ez_aL hB t727 rfl tq_59 rfl rfl (by omega) (by omega) ?_
    refine ez_go (n := 2) (pc' := 41) (L' := [(6, .inl (pl)), (4, .inr (.inl (y))), (0, .inr (.inr (some (723)))), (1, .inl (a)), (2, .inl (b)), (3, .inl (x))]) (st' := [.inl ((lg_cmp (Int64.ofInt (qz_I h 727 (pl).toNat)) (y)).toInt)]) rfl ?_
    refine ez_if rfl rfl ⟨by first | omega | exact (sz_i32 _).1, by first | omega | exact (sz_i32 _).2⟩ (fun (c14 : ((lg_cmp (Int64.ofInt (qz_I h 727 (pl).toNat)) (y)).toInt) ≠ (0)) => ?_) (fun (c14 : ¬(((lg_cmp (Int64.ofInt (qz_I h 727 (pl).toNat)) (y)).toInt) ≠ (0))) => ?_)
    · skip
      refine ez_go (n := 3) (pc' := 53) (L' := [(7, .inl (0)), (6, .inl (pl)), (4, .inr (.inl (y))), (0, .inr (.inr (some (723)))), (1, .inl (a)), (2, .inl (b)), (3, .inl (x))]) (st' := [.inl (0)]) rfl ?_
      refine ez_if rfl rfl ⟨by decide, by decide⟩ (fun (c15 : (0 : Int) ≠ (0)) => absurd c15 (by decide)) (fun _ => ?_)
      refine ez_go (n := 2) (pc' := 58) (L' := [(7, .inl (0)), (6, .inl (pl)), (4, .inr (.inl (y))), (0, .inr (.inr (some (723)))), (1, .inl (a)), (2, .inl (b)), (3, .inl (x))]) (st' := [.inl (b), .inl (a)]) rfl ?_
      refine ez_cs hB.2.1 rfl rfl rfl rfl rfl (rd_syllableOf ha0 ha1 hb0 hb1 (fun v v0 v1 hpr => ez_K1 ?_) (fun hpr => ez_K1 ?_))
      · skip
        refine ez_go (n := 1) (pc' := 62) (L' := [(7, .inl (0)), (6, .inl (pl)), (4, .inr (.inl (y))), (0, .inr (.inr (some (723)))), (1, .inl (a)), (2, .inl (b)), (3, .inl (x))]) (st' := [.inl (-1), .inl (v)]) rfl ?_
        refine ez_icmp rfl rfl ⟨by first | omega | exact (sz_i32 _).1, by first | omega | exact (sz_i32 _).2⟩ ⟨by first | omega | exact (sz_i32 _).1, by first | omega | exact (sz_i32 _).2⟩ (fun (c16 : (v) ≠ (-1)) => ?_) (fun (c16 : ¬((v) ≠ (-1))) => ?_)
        · skip
          refine ez_go (n := 1) (pc' := 76) (L' := [(7, .inl (0)), (6, .inl (pl)), (4, .inr (.inl (y))), (0, .inr (.inr (some (723)))), (1, .inl (a)), (2, .inl (b)), (3, .inl (x))]) (st' := [.inl (0)]) rfl ?_
          exact ez_retZ rfl rfl (by decide) (k0 (Or.inr hpr))
        · skip
          refine ez_go (n := 1) (pc' := 66) (L' := [(7, .inl (0)), (6, .inl (pl)), (4, .inr (.inl (y))), (0, .inr (.inr (some (723)))), (1, .inl (a)), (2, .inl (b)), (3, .inl (x))]) (st' := [.inr (.inr (some (723)))]) rfl ?_
          refine ez_gI hB t723 rfl rfl tq_55 rfl rfl (fun (b17 : 0 ≤ qz_I h 723 8) (b17' : qz_I h 723 8 ≤ 256) => ?_)
          refine ez_go (n := 1) (pc' := 72) (L' := [(7, .inl (0)), (6, .inl (pl)), (4, .inr (.inl (y))), (0, .inr (.inr (some (723)))), (1, .inl (a)), (2, .inl (b)), (3, .inl (x))]) (st' := [.inl (256), .inl (qz_I h 723 8)]) rfl ?_
          refine ez_icmp rfl rfl ⟨by first | omega | exact (sz_i32 _).1, by first | omega | exact (sz_i32 _).2⟩ ⟨by first | omega | exact (sz_i32 _).1, by first | omega | exact (sz_i32 _).2⟩ (fun (c18 : (qz_I h 723 8) < (256)) => ?_) (fun (c18 : ¬((qz_I h 723 8) < (256))) => ?_)
          · skip
            refine ez_go (n := 1) (pc' := 78) (L' := [(7, .inl (0)), (6, .inl (pl)), (4, .inr (.inl (y))), (0, .inr (.inr (some (723)))), (1, .inl (a)), (2, .inl (b)), (3, .inl (x))]) (st' := [.inr (.inr (some (723)))]) rfl ?_
            refine ez_gI hB t723 rfl rfl tq_55 rfl rfl (fun (b19 : 0 ≤ qz_I h 723 8) (b19' : qz_I h 723 8 ≤ 256) => ?_)
            refine ez_go (n := 1) (pc' := 83) (L' := [(8, .inl (qz_I h 723 8)), (7, .inl (0)), (6, .inl (pl)), (4, .inr (.inl (y))), (0, .inr (.inr (some (723)))), (1, .inl (a)), (2, .inl (b)), (3, .inl (x))]) (st' := []) rfl ?_
            exfalso; omega
          · skip
            refine ez_go (n := 1) (pc' := 76) (L' := [(7, .inl (0)), (6, .inl (pl)), (4, .inr (.inl (y))), (0, .inr (.inr (some (723)))), (1, .inl (a)), (2, .inl (b)), (3, .inl (x))]) (st' := [.inl (0)]) rfl ?_
            exact ez_retZ rfl rfl (by decide) (k0 (Or.inr hpr))
      · skip
        refine ez_go (n := 1) (pc' := 62) (L' := [(7, .inl (0)), (6, .inl (pl)), (4, .inr (.inl (y))), (0, .inr (.inr (some (723)))), (1, .inl (a)), (2, .inl (b)), (3, .inl (x))]) (st' := [.inl (-1), .inl (-1)]) rfl ?_
        refine ez_icmp rfl rfl ⟨by decide, by decide⟩ ⟨by decide, by decide⟩ (fun (c20 : (-1 : Int) ≠ (-1)) => absurd c20 (by decide)) (fun _ => ?_)
        refine ez_go (n := 1) (pc' := 66) (L' := [(7, .inl (0)), (6, .inl (pl)), (4, .inr (.inl (y))), (0, .inr (.inr (some (723)))), (1, .inl (a)), (2, .inl (b)), (3, .inl (x))]) (st' := [.inr (.inr (some (723)))]) rfl ?_
        refine ez_gI hB t723 rfl rfl tq_55 rfl rfl (fun (b21 : 0 ≤ qz_I h 723 8) (b21' : qz_I h 723 8 ≤ 256) => ?_)
        refine ez_go (n := 1) (pc' := 72) (L' := [(7, .inl (0)), (6, .inl (pl)), (4, .inr (.inl (y))), (0, .inr (.inr (some (723)))), (1, .inl (a)), (2, .inl (b)), (3, .inl (x))]) (st' := [.inl (256), .inl (qz_I h 723 8)]) rfl ?_
        refine ez_icmp rfl rfl ⟨by first | omega | exact (sz_i32 _).1, by first | omega | exact (sz_i32 _).2⟩ ⟨by first | omega | exact (sz_i32 _).1, by first | omega | exact (sz_i32 _).2⟩ (fun (c22 : (qz_I h 723 8) < (256)) => ?_) (fun (c22 : ¬((qz_I h 723 8) < (256))) => ?_)
        · skip
          refine ez_go (n := 1) (pc' := 78) (L' := [(7, .inl (0)), (6, .inl (pl)), (4, .inr (.inl (y))), (0, .inr (.inr (some (723)))), (1, .inl (a)), (2, .inl (b)), (3, .inl (x))]) (st' := [.inr (.inr (some (723)))]) rfl ?_
          refine ez_gI hB t723 rfl rfl tq_55 rfl rfl (fun (b23 : 0 ≤ qz_I h 723 8) (b23' : qz_I h 723 8 ≤ 256) => ?_)
          refine ez_go (n := 1) (pc' := 83) (L' := [(8, .inl (qz_I h 723 8)), (7, .inl (0)), (6, .inl (pl)), (4, .inr (.inl (y))), (0, .inr (.inr (some (723)))), (1, .inl (a)), (2, .inl (b)), (3, .inl (x))]) (st' := []) rfl ?_
          refine ez_less [(8, .inl (qz_I h 723 8)), (7, .inl (0)), (6, .inl (pl)), (4, .inr (.inl (y))), (0, .inr (.inr (some (723)))), (1, .inl (a)), (2, .inl (b)), (3, .inl (x))] rfl ⟨rfl, rfl, rfl, rfl, rfl, rfl, rfl, rfl, trivial⟩ ?_
          have q3 : pl = qz_I h 723 8 ∨ y.toInt < pp h pl := by
            by_cases e : pl = qz_I h 723 8
            · exact Or.inl e
            · refine Or.inr ?_
              have e4 := q2.resolve_left e
              have e5 : y.toInt ≠ pp h pl := fun e6 => by
                have e7 : Int64.ofInt (qz_I h 727 pl.toNat) = y := Int64.toInt_inj.mp (by rw [lr pl p0 (by omega)]; exact e6.symm)
                have e8 := (nz_cmp_eq _ _).mpr e7
                first | (exact absurd e8 (by assumption)) | omega
              omega
          refine rd_ins_l9 t723 t727 t728 (n := qz_I h 723 8) hn p0 p1 x0 x1 (fun g hB2 f2 j2 c2 v2 v3 => ?_) _ _ h rfl (by omega) (by omega) hB (ez_fr.refl _ _) (fun _ _ => rfl) rfl (fun k k0 k1 => by rw [if_neg (by omega)]; rfl) (fun k k0 k1 => by rw [if_neg (by omega)]; rfl)
          obtain ⟨r1, r2⟩ := ri_ins (P := pp h) (P2 := pp g) hr p0 p1 q1 q3 v2
          refine k1 (fun ⟨j, j0, j1, e⟩ => ?_) hpr g hB2 f2 j2 c2 r1 (fun z => by rw [← hy]; exact r2 z) (fun j j0 j1 => ?_)
          rotate_left
          · have w2 := v2 j j0 (by omega)
            have w3 := v3 j j0 (by omega)
            by_cases e : j = pl
            · rw [if_pos e] at w2 w3; exact Or.inl ⟨w2.trans hy, w3⟩
            · rw [if_neg e] at w2 w3
              by_cases e2 : pl < j
              · rw [if_pos e2] at w2 w3; exact Or.inr ⟨j - 1, by omega, by omega, w2, w3⟩
              · rw [if_neg e2] at w2 w3; exact Or.inr ⟨j, j0, by omega, w2, w3⟩
          rw [← hy] at e
          by_cases e2 : j < pl
          · rcases q1 with w | w
            · omega
            · by_cases e3 : j = pl - 1
              · rw [e3] at e; omega
              · have := hr j (pl - 1) j0 (by omega) (by omega); omega
          · rcases q3 with w | w
            · omega
            · by_cases e3 : j = pl
              · rw [e3] at e; omega
              · have := hr pl j p0 (by omega) j1; omega
        · skip
          refine ez_go (n := 1) (pc' := 76) (L' := [(7, .inl (0)), (6, .inl (pl)), (4, .inr (.inl (y))), (0, .inr (.inr (some (723)))), (1, .inl (a)), (2, .inl (b)), (3, .inl (x))]) (st' := [.inl (0)]) rfl ?_
          exfalso; omega
    · skip
      refine ez_go (n := 4) (pc' := 53) (L' := [(7, .inl (1)), (6, .inl (pl)), (4, .inr (.inl (y))), (0, .inr (.inr (some (723)))), (1, .inl (a)), (2, .inl (b)), (3, .inl (x))]) (st' := [.inl (1)]) rfl ?_
      refine ez_if rfl rfl ⟨by decide, by decide⟩ (fun _ => ?_) (fun (c24 : ¬((1 : Int) ≠ (0))) => absurd c24 (by decide))
      refine ez_go (n := 1) (pc' := 76) (L' := [(7, .inl (1)), (6, .inl (pl)), (4, .inr (.inl (y))), (0, .inr (.inr (some (723)))), (1, .inl (a)), (2, .inl (b)), (3, .inl (x))]) (st' := [.inl (0)]) rfl ?_
      exact ez_retZ rfl rfl (by decide) (k0 (Or.inl ⟨pl, p0, by omega, by have := (nz_cmp_eq (Int64.ofInt (qz_I h 727 (pl).toNat)) y).mp (by omega); rw [← lr pl p0 (by omega), this, hy]⟩))
end EzIp
def gq (h : cz_H) (F : rz_W) (E : Int → Prop) (g : cz_H) (i : Int) : Prop := ∀ j, 0 ≤ j → j < qz_I g 723 8 → ∃ k, (0 ≤ k ∧ k < i) ∧ ∃ a b, ez_p F E (sz_f h k) a b ∧ pp g j = a * 2097152 + b ∧ pcv g j = sz_f h k
theorem gq_skip {h : cz_H} {F : rz_W} {E : Int → Prop} {g : cz_H} {i : Int} (hg : gq h F E g i) : gq h F E g (i + 1) := fun j j0 j1 => by
  obtain ⟨k, ⟨k0, k1⟩, w⟩ := hg j j0 j1
  exact ⟨k, ⟨k0, by omega⟩, w⟩
theorem gq_ins {h : cz_H} {F : rz_W} {E : Int → Prop} {g g2 : cz_H} {i a b x : Int} (i0 : 0 ≤ i) (hg : gq h F E g i) (hp : ez_p F E (sz_f h i) a b) (ex : x = sz_f h i) (h8 : qz_I g2 723 8 = qz_I g 723 8 + 1) (hm : ∀ j, 0 ≤ j → j < qz_I g 723 8 + 1 → (pp g2 j = a * 2097152 + b ∧ pcv g2 j = x) ∨ ∃ j2, 0 ≤ j2 ∧ j2 < qz_I g 723 8 ∧ pp g2 j = pp g j2 ∧ pcv g2 j = pcv g j2) : gq h F E g2 (i + 1) := fun j j0 j1 => by
  rw [h8] at j1
  rcases hm j j0 j1 with ⟨w1, w2⟩ | ⟨j2, q0, q1, w1, w2⟩
  · exact ⟨i, ⟨i0, by omega⟩, a, b, hp, w1, w2.trans ex⟩
  · obtain ⟨k, ⟨k0, k1⟩, c, e, w3, w4, w5⟩ := hg j2 q0 q1
    exact ⟨k, ⟨k0, by omega⟩, c, e, w3, w1.trans w4, w2.trans w5⟩
def cP (h : cz_H) (F : rz_W) (E : Int → Prop) : Prop := ri (pp h) (qz_I h 723 8) ∧ (∀ j, 0 ≤ j → j < qz_I h 723 8 → ∃ a b, ez_p F E (qz_I h 728 j.toNat) a b ∧ pp h j = a * 2097152 + b) ∧ ∀ x a b, ez_p F E x a b → ∃ j, 0 ≤ j ∧ j < qz_I h 723 8 ∧ pp h j = a * 2097152 + b
section EzGp
variable {d : Nat} {h : cz_H} {τ : Nat → Nat} {Q : cz_F → Prop} {T : Int → Nat} {F : rz_W} {E : Int → Prop} {Xs : List Int}
theorem gq_cP {g : cz_H} (hw : uz_wf F) (hC : pz_C τ h T F E) (hg : gp h F E Xs g (qz_I h 202 1)) (hq : gq h F E g (qz_I h 202 1)) : cP g F E := by
  refine ⟨hg.1, fun j j0 j1 => ?_, fun x a b w => ?_⟩
  · obtain ⟨k, -, a, b, w1, w2, w3⟩ := hq j j0 j1
    exact ⟨a, b, by rw [show qz_I g 728 j.toNat = sz_f h k from w3]; exact w1, w2⟩
  · have := ((hw x).2 _ _ w.1).2.2.2
    obtain ⟨k, k0, k1, ek⟩ := sz_dec hC this.1 this.2 (by rw [w.1]; exact fun e => by cases e)
    exact (hg.2.1 _).mpr ⟨k, ⟨k0, k1⟩, a, b, by rw [ek]; exact w, rfl⟩
theorem rd_gather_l9 (hw : uz_wf F) (hS : uz_S1 F) (hXs : ∀ x, (F x).2 ≠ none → x ∈ Xs) (hXl : Xs.length ≤ 256) (hC0 : pz_C τ h T F E) (t723 : τ 723 = 55) (t202 : τ 202 = 48) (t203 : τ 203 = 49) (t727 : τ 727 = 59) (t728 : τ 728 = 60) (k1 : uz_S4 F E → ∀ g, ez_B τ g → ez_fr nz_PG h g → (∀ j, j ≠ 8 → qz_I g 723 j = qz_I h 723 j) → pcn F E (qz_I g 723 8) → cP g F E → Q (.inl (some (ez_v (.inl 1))), g)) (k0 : ¬ uz_S4 F E → ∀ g, ez_B τ g → pz τ h g → Q (.inl (some (ez_v (.inl 0))), g)) : ∀ (m : Nat) (i : Int) (g : cz_H), m = (qz_I h 202 1 - i).toNat → 0 ≤ i → i ≤ qz_I h 202 1 → pz_C τ g T F E → ez_fr nz_PG h g → (∀ j, j ≠ 8 → qz_I g 723 j = qz_I h 723 j) → gp h F E Xs g i → gq h F E g i → ez_W (d + 3) cm_119 2 [(1, .inl (i)), (0, .inr (.inr (some (723))))] [] g Q := by
  intro m
  induction m with
  | zero =>
    intro i g hm i0 i1 hC hf hj0 hgp hgq
    have bn := sz_R_n1 hC0.1 t202
    have e202 : qz_I g 202 1 = qz_I h 202 1 := hf.I rfl 1
    have hpz := pz_PG hC0.2.1 hf
    refine ez_go (n := 2) (pc' := 4) (L' := [(1, .inl (i)), (0, .inr (.inr (some (723))))]) (st' := [.inr (.inr (some (723))), .inl (i)]) rfl ?_
    refine ez_gC (p := 202) (tg := 48) hC.1 t723 rfl rfl tq_55 rfl rfl (fun (t202 : _ = 48) => ?_)
    refine ez_gI hC.1 t202 rfl rfl tq_48 rfl rfl (fun (b1 : 1 ≤ qz_I g 202 1) (b1' : qz_I g 202 1 ≤ 513) => ?_)
    refine ez_icmp rfl rfl ⟨by first | omega | exact (sz_i32 _).1, by first | omega | exact (sz_i32 _).2⟩ ⟨by first | omega | exact (sz_i32 _).1, by first | omega | exact (sz_i32 _).2⟩ (fun (c2 : (qz_I g 202 1) ≤ (i)) => ?_) (fun (c2 : ¬((qz_I g 202 1) ≤ (i))) => ?_)
    · skip
      refine ez_go (n := 1) (pc' := 92) (L' := [(1, .inl (i)), (0, .inr (.inr (some (723))))]) (st' := [.inl (1)]) rfl ?_
      rw [show i = qz_I h 202 1 by omega] at hgp hgq
      exact ez_retZ rfl rfl (by decide) (k1 (gp_S4 hw hC0 hgp) g hC.1 hf hj0 (gp_pcn hw hC0 (ez_fB (cl := 6) hC.1 t723 tq_55 rfl rfl (by decide) : 0 ≤ qz_I g 723 8 ∧ _).1 hgp) (gq_cP hw hC0 hgp hgq))
    · exfalso; omega
  | succ m ih =>
    intro i g hm i0 i1 hC hf hj0 hgp hgq
    have bn := sz_R_n1 hC0.1 t202
    have e202 : qz_I g 202 1 = qz_I h 202 1 := hf.I rfl 1
    have hpz := pz_PG hC0.2.1 hf
    refine ez_go (n := 2) (pc' := 4) (L' := [(1, .inl (i)), (0, .inr (.inr (some (723))))]) (st' := [.inr (.inr (some (723))), .inl (i)]) rfl ?_
    refine ez_gC (p := 202) (tg := 48) hC.1 t723 rfl rfl tq_55 rfl rfl (fun (t202 : _ = 48) => ?_)
    refine ez_gI hC.1 t202 rfl rfl tq_48 rfl rfl (fun (b1 : 1 ≤ qz_I g 202 1) (b1' : qz_I g 202 1 ≤ 513) => ?_)
    refine ez_icmp rfl rfl ⟨by first | omega | exact (sz_i32 _).1, by first | omega | exact (sz_i32 _).2⟩ ⟨by first | omega | exact (sz_i32 _).1, by first | omega | exact (sz_i32 _).2⟩ (fun (c2 : (qz_I g 202 1) ≤ (i)) => ?_) (fun (c2 : ¬((qz_I g 202 1) ≤ (i))) => ?_)
    · exfalso; omega
    · skip
      refine ez_go (n := 1) (pc' := 14) (L' := [(1, .inl (i)), (0, .inr (.inr (some (723))))]) (st' := [.inr (.inr (some (723)))]) rfl ?_
      refine ez_gC (p := 202) (tg := 48) hC.1 t723 rfl rfl tq_55 rfl rfl (fun (t202 : _ = 48) => ?_)
      refine ez_gC (p := 203) (tg := 49) hC.1 t202 rfl rfl tq_48 rfl rfl (fun (t203 : _ = 49) => ?_)
      refine ez_go (n := 1) (pc' := 21) (L' := [(1, .inl (i)), (0, .inr (.inr (some (723))))]) (st' := [.inl (i), .inr (.inr (some (203)))]) rfl ?_
      have n4 : 513 ≤ qz_N g 203 ∧ qz_N g 203 ≤ 513 := ez_len hC.1 t203 tq_49 rfl
      have y5 : 1 ≤ qz_I g 203 (i).toNat ∧ qz_I g 203 (i).toNat ≤ 1000000 := ez_aB hC.1 t203 tq_49 rfl rfl (by decide) (by omega) (by omega)
      have y5' : ((qz_P g 203 (i).toNat : Nat) : Int) + 1 = qz_I g 203 (i).toNat := by unfold qz_P; omega
      refine ez_aR hC.1 t203 rfl tq_49 rfl rfl (by omega) (by omega) (by omega) (fun (t3 : _ = 4) => ?_)
      refine ez_gR hC.1 t3 rfl rfl tq_4 rfl rfl (fun (t6 : _ = 3) (t6' : 1 ≤ qz_I g (qz_P g 203 (i).toNat) 1) => ?_)
      obtain ⟨at1, y0, y1⟩ := sz_first hC.2.2.1 i0 (show i < qz_I g 202 1 by omega)
      have ef : sz_f g i = sz_f h i := by unfold sz_f sz_p qz_P qz_I; rw [hf.2.2 203 rfl, hf.2.2 _ (by have tz := sz_tag hC0.1 t203 i0 (show i < 513 by omega); unfold sz_p qz_P qz_I at tz; unfold nz_PG; rw [dz_beq_ne (fun e => by rw [e, t723] at tz; cases tz), dz_beq_ne (fun e => by rw [e, t727] at tz; cases tz), dz_beq_ne (fun e => by rw [e, t728] at tz; cases tz)]; rfl)]
      rw [ef] at at1 y0 y1
      have e1 := (hC.2.2.2.1 _ i y0 y1 at1).1
      obtain ⟨x, ex⟩ : ∃ x, x = sz_f h i := ⟨_, rfl⟩
      rw [← ex] at at1 y0 y1 e1
      have eT : qz_P g (qz_P g 203 (i).toNat) 1 = T x := by show qz_P g (sz_p g i) 1 = T x; unfold qz_P; omega
      rw [eT]
      obtain ⟨tT, -, f3, f4⟩ := hC.2.2.2.2 x y0 y1
      refine ez_go (n := 2) (pc' := 27) (L' := [(2, .inr (.inr (some ((T x))))), (1, .inl (i)), (0, .inr (.inr (some (723))))]) (st' := [.inr (.inr (some ((T x))))]) rfl ?_
      refine ez_gN hC.1 tT rfl rfl tq_3 rfl rfl (fun (t7 : qz_I g ((T x)) 3 = 0) => ?_) (fun (t7 : _ = 5) (t7' : 1 ≤ qz_I g ((T x)) 3) => ?_)
      · skip
        refine ez_null0 rfl rfl ?_
        refine ez_go (n := 2) (pc' := 2) (L' := [(1, .inl (i + 1)), (2, .inr (.inr (some ((T x))))), (0, .inr (.inr (some (723))))]) (st' := []) rfl ?_
        refine ez_less [(1, .inl (i + 1)), (0, .inr (.inr (some (723))))] rfl ⟨rfl, rfl, trivial⟩ ?_
        refine ih (i + 1) g (by omega) (by omega) (by omega) hC hf hj0 (gp_skip hC0.2.2.1 i0 (by omega) hgp (fun a b w => ?_)) (gq_skip hgq)
        rw [← ex] at w
        obtain ⟨d0', d1', d2', d3', d4', d5'⟩ := f4 _ _ w.1
        simp only [List.length_cons, List.length_nil] at d4'
        first | omega | exact w.2 hex
      · skip
        refine ez_null1 rfl ?_
        refine ez_go (n := 1) (pc' := 34) (L' := [(2, .inr (.inr (some ((T x))))), (1, .inl (i)), (0, .inr (.inr (some (723))))]) (st' := [.inr (.inr (some ((T x))))]) rfl ?_
        refine ez_gI hC.1 tT rfl rfl tq_3 rfl rfl (fun (b8 : 0 ≤ qz_I g ((T x)) 4) (b8' : qz_I g ((T x)) 4 ≤ 1) => ?_)
        refine ez_if rfl rfl ⟨by first | omega | exact (sz_i32 _).1, by first | omega | exact (sz_i32 _).2⟩ (fun (c9 : (qz_I g ((T x)) 4) ≠ (0)) => ?_) (fun (c9 : ¬((qz_I g ((T x)) 4) ≠ (0))) => ?_)
        · skip
          refine ez_go (n := 2) (pc' := 2) (L' := [(1, .inl (i + 1)), (2, .inr (.inr (some ((T x))))), (0, .inr (.inr (some (723))))]) (st' := []) rfl ?_
          refine ez_less [(1, .inl (i + 1)), (0, .inr (.inr (some (723))))] rfl ⟨rfl, rfl, trivial⟩ ?_
          refine ih (i + 1) g (by omega) (by omega) (by omega) hC hf hj0 (gp_skip hC0.2.2.1 i0 (by omega) hgp (fun a b w => ?_)) (gq_skip hgq)
          rw [← ex] at w
          obtain ⟨d0', d1', d2', d3', d4', d5'⟩ := f4 _ _ w.1
          simp only [List.length_cons, List.length_nil] at d4'
          first | omega | exact w.2 hex
        · skip
          refine ez_go (n := 1) (pc' := 41) (L' := [(2, .inr (.inr (some ((T x))))), (1, .inl (i)), (0, .inr (.inr (some (723))))]) (st' := [.inr (.inr (some ((T x))))]) rfl ?_
          refine ez_gN hC.1 tT rfl rfl tq_3 rfl rfl (fun (t10 : qz_I g ((T x)) 3 = 0) => ?_) (fun (t10 : _ = 5) (t10' : 1 ≤ qz_I g ((T x)) 3) => ?_)
          · exfalso; omega
          · skip
            refine ez_al hC.1 t10 rfl tq_5 rfl (fun (b11 : 0 ≤ qz_N g (qz_P g ((T x)) 3)) (b11' : qz_N g (qz_P g ((T x)) 3) ≤ 18) => ?_)
            refine ez_go (n := 1) (pc' := 46) (L' := [(2, .inr (.inr (some ((T x))))), (1, .inl (i)), (0, .inr (.inr (some (723))))]) (st' := [.inl (2), .inl (qz_N g (qz_P g ((T x)) 3))]) rfl ?_
            refine ez_icmp rfl rfl ⟨by first | omega | exact (sz_i32 _).1, by first | omega | exact (sz_i32 _).2⟩ ⟨by first | omega | exact (sz_i32 _).1, by first | omega | exact (sz_i32 _).2⟩ (fun (c12 : (qz_N g (qz_P g ((T x)) 3)) ≠ (2)) => ?_) (fun (c12 : ¬((qz_N g (qz_P g ((T x)) 3)) ≠ (2))) => ?_)
            · skip
              refine ez_go (n := 2) (pc' := 2) (L' := [(1, .inl (i + 1)), (2, .inr (.inr (some ((T x))))), (0, .inr (.inr (some (723))))]) (st' := []) rfl ?_
              refine ez_less [(1, .inl (i + 1)), (0, .inr (.inr (some (723))))] rfl ⟨rfl, rfl, trivial⟩ ?_
              refine ih (i + 1) g (by omega) (by omega) (by omega) hC hf hj0 (gp_skip hC0.2.2.1 i0 (by omega) hgp (fun a b w => ?_)) (gq_skip hgq)
              rw [← ex] at w
              obtain ⟨d0', d1', d2', d3', d4', d5'⟩ := f4 _ _ w.1
              simp only [List.length_cons, List.length_nil] at d4'
              first | omega | exact w.2 hex
            · skip
              refine ez_go (n := 2) (pc' := 51) (L' := [(2, .inr (.inr (some ((T x))))), (1, .inl (i)), (0, .inr (.inr (some (723))))]) (st' := [.inr (.inr (some ((T x)))), .inr (.inr (some (723)))]) rfl ?_
              refine ez_gI hC.1 tT rfl rfl tq_3 rfl rfl (fun (b13 : -2147483648 ≤ qz_I g ((T x)) 0) (b13' : qz_I g ((T x)) 0 ≤ 2147483647) => ?_)
              obtain ⟨cp, vs, hq⟩ : ∃ cp vs, (F x).2 = some (cp, vs) := by
                cases hq : (F x).2 with
                | none => have := f3 hq; omega
                | some q => exact ⟨q.1, q.2, rfl⟩
              obtain ⟨d0, d1, d2, d3, d4, d5⟩ := f4 cp vs hq
              rw [d0]
              refine ez_cv hC.1 t723 rfl rfl rfl tq_55 rfl rfl rfl (rd_isExcluded hw hC y0 y1 (hS x cp vs hq).1 (fun hex => ez_K1 ?_) (fun hex => ez_K1 ?_))
              · skip
                refine ez_if rfl rfl ⟨by decide, by decide⟩ (fun _ => ?_) (fun (c14 : ¬((1 : Int) ≠ (0))) => absurd c14 (by decide))
                refine ez_go (n := 2) (pc' := 2) (L' := [(1, .inl (i + 1)), (2, .inr (.inr (some ((T x))))), (0, .inr (.inr (some (723))))]) (st' := []) rfl ?_
                refine ez_less [(1, .inl (i + 1)), (0, .inr (.inr (some (723))))] rfl ⟨rfl, rfl, trivial⟩ ?_
                refine ih (i + 1) g (by omega) (by omega) (by omega) hC hf hj0 (gp_skip hC0.2.2.1 i0 (by omega) hgp (fun a b w => ?_)) (gq_skip hgq)
                rw [← ex] at w
                obtain ⟨d0', d1', d2', d3', d4', d5'⟩ := f4 _ _ w.1
                simp only [List.length_cons, List.length_nil] at d4'
                first | omega | exact w.2 hex
              · skip
                have hl2 : vs.length = 2 := by omega
                have hc0 : cp = 0 := by omega
                subst hc0
                obtain ⟨a, b, rfl⟩ : ∃ a b, vs = [a, b] := by
                  match vs, hl2 with
                  | [a, b], _ => exact ⟨a, b, rfl⟩
                have da := d5 0 a rfl
                have db := d5 1 b rfl
                have hwa := ((hw x).2 _ _ hq).2.2.1 a (by simp)
                have hwb := ((hw x).2 _ _ hq).2.2.1 b (by simp)
                have hp : ez_p F E x a b := ⟨hq, hex⟩
                refine ez_if rfl rfl ⟨by decide, by decide⟩ (fun (c15 : (0 : Int) ≠ (0)) => absurd c15 (by decide)) (fun _ => ?_)
                refine ez_go (n := 2) (pc' := 62) (L' := [(2, .inr (.inr (some ((T x))))), (1, .inl (i)), (0, .inr (.inr (some (723))))]) (st' := [.inr (.inr (some ((T x)))), .inr (.inr (some (723)))]) rfl ?_
                refine ez_gN hC.1 tT rfl rfl tq_3 rfl rfl (fun (t16 : qz_I g ((T x)) 3 = 0) => ?_) (fun (t16 : _ = 5) (t16' : 1 ≤ qz_I g ((T x)) 3) => ?_)
                · exfalso; omega
                · skip
                  refine ez_go (n := 1) (pc' := 66) (L' := [(2, .inr (.inr (some ((T x))))), (1, .inl (i)), (0, .inr (.inr (some (723))))]) (st' := [.inl (0), .inr (.inr (some (qz_P g ((T x)) 3))), .inr (.inr (some (723)))]) rfl ?_
                  have n18 : 0 ≤ qz_N g (qz_P g ((T x)) 3) ∧ qz_N g (qz_P g ((T x)) 3) ≤ 18 := ez_len hC.1 t16 tq_5 rfl
                  refine ez_aI hC.1 t16 rfl tq_5 rfl rfl (by omega) (by omega) (fun (b17 : -2147483648 ≤ qz_I g (qz_P g ((T x)) 3) (0 : Int).toNat) (b17' : qz_I g (qz_P g ((T x)) 3) (0 : Int).toNat ≤ 2147483647) => ?_)
                  refine ez_go (n := 1) (pc' := 68) (L' := [(2, .inr (.inr (some ((T x))))), (1, .inl (i)), (0, .inr (.inr (some (723))))]) (st' := [.inr (.inr (some ((T x)))), .inl (qz_I g (qz_P g ((T x)) 3) (0 : Int).toNat), .inr (.inr (some (723)))]) rfl ?_
                  refine ez_gN hC.1 tT rfl rfl tq_3 rfl rfl (fun (t19 : qz_I g ((T x)) 3 = 0) => ?_) (fun (t19 : _ = 5) (t19' : 1 ≤ qz_I g ((T x)) 3) => ?_)
                  · exfalso; omega
                  · skip
                    refine ez_go (n := 1) (pc' := 72) (L' := [(2, .inr (.inr (some ((T x))))), (1, .inl (i)), (0, .inr (.inr (some (723))))]) (st' := [.inl (1), .inr (.inr (some (qz_P g ((T x)) 3))), .inl (qz_I g (qz_P g ((T x)) 3) (0 : Int).toNat), .inr (.inr (some (723)))]) rfl ?_
                    have n21 : 0 ≤ qz_N g (qz_P g ((T x)) 3) ∧ qz_N g (qz_P g ((T x)) 3) ≤ 18 := ez_len hC.1 t19 tq_5 rfl
                    refine ez_aI hC.1 t19 rfl tq_5 rfl rfl (by omega) (by omega) (fun (b20 : -2147483648 ≤ qz_I g (qz_P g ((T x)) 3) (1 : Int).toNat) (b20' : qz_I g (qz_P g ((T x)) 3) (1 : Int).toNat ≤ 2147483647) => ?_)
                    refine ez_go (n := 1) (pc' := 74) (L' := [(2, .inr (.inr (some ((T x))))), (1, .inl (i)), (0, .inr (.inr (some (723))))]) (st' := [.inr (.inr (some ((T x)))), .inl (qz_I g (qz_P g ((T x)) 3) (1 : Int).toNat), .inl (qz_I g (qz_P g ((T x)) 3) (0 : Int).toNat), .inr (.inr (some (723)))]) rfl ?_
                    refine ez_gI hC.1 tT rfl rfl tq_3 rfl rfl (fun (b22 : -2147483648 ≤ qz_I g ((T x)) 0) (b22' : qz_I g ((T x)) 0 ≤ 2147483647) => ?_)
                    have hn8 : qz_I g 723 8 < 256 := by
                      have q5 := hgp.2.2.2
                      have := wz_lt2 (W := wL h i) (W' := fun _ => 0) (y := x) (k := 1) (xs := Xs) (fun _ _ => Nat.zero_le _) (hXs x (by rw [hq]; exact fun e => by cases e)) (by unfold wL; rw [lim_eq (by omega), ← ex, if_pos (Int.le_refl _)]; omega)
                      omega
                    rw [show (0 : Int).toNat = 0 from rfl, show (1 : Int).toNat = 1 from rfl, da, db, d0]
                    refine ez_cv hC.1 t723 rfl rfl rfl tq_55 rfl rfl rfl (rd_insertPair9 hC.1 hC.2.1 hwa.1 hwa.2 hwb.1 hwb.2 y0 y1 hn8 hgp.1 (fun hbad => ez_K1 ?_) (fun h1 h2 g2 hB2 f2 j2 c2 r2 m2 m3 => ez_K1 ?_))
                    · skip
                      refine ez_if rfl rfl ⟨by decide, by decide⟩ (fun (c23 : (0 : Int) ≠ (0)) => absurd c23 (by decide)) (fun _ => ?_)
                      refine ez_go (n := 1) (pc' := 84) (L' := [(2, .inr (.inr (some ((T x))))), (1, .inl (i)), (0, .inr (.inr (some (723))))]) (st' := [.inl (0)]) rfl ?_
                      refine ez_retZ rfl rfl (by decide) (k0 (fun h4 => ?_) g hC.1 hpz)
                      rcases hbad with hbad | hbad
                      · obtain ⟨k, k0', a2, b2, w, e⟩ := (hgp.2.1 _).mp hbad
                        have wr := ((hw _).2 _ _ w.1).2.2.1
                        have wa := wr a2 (by simp)
                        have wb := wr b2 (by simp)
                        have ea : a2 = a := by omega
                        have eb : b2 = b := by omega
                        subst ea; subst eb
                        have e3 := h4.2 _ _ _ _ w hp
                        rw [ex] at e3
                        have := hC0.2.2.1.2 k i k0'.1 k0'.2 (by omega)
                        omega
                      · exact h4.1 x a b hp hbad
                    · skip
                      refine ez_if rfl rfl ⟨by decide, by decide⟩ (fun _ => ?_) (fun (c24 : ¬((1 : Int) ≠ (0))) => absurd c24 (by decide))
                      refine ez_go (n := 2) (pc' := 2) (L' := [(1, .inl (i + 1)), (2, .inr (.inr (some ((T x))))), (0, .inr (.inr (some (723))))]) (st' := []) rfl ?_
                      refine ez_less [(1, .inl (i + 1)), (0, .inr (.inr (some (723))))] rfl ⟨rfl, rfl, trivial⟩ ?_
                      have hfr := hf.trans f2
                      refine ih (i + 1) g2 (by omega) (by omega) (by omega) (hC0.fr hB2 (pz_PG hC0.2.1 hfr)) hfr (fun j hj => (j2 j hj).trans (hj0 j hj)) ?_ (gq_ins i0 hgq (by rw [← ex]; exact hp) ex c2 m3)
                      exact gp_ins hw hXs hC0.2.2.1 i0 (by omega) hgp (by rw [← ex]; exact hp) h1 h2 c2 r2 m2
theorem rd_gatherPairs9 (hw : uz_wf F) (hS : uz_S1 F) (hXs : ∀ x, (F x).2 ≠ none → x ∈ Xs) (hXl : Xs.length ≤ 256) (hC0 : pz_C τ h T F E) (h8 : qz_I h 723 8 = 0) (k1 : uz_S4 F E → ∀ g, ez_B τ g → ez_fr nz_PG h g → (∀ j, j ≠ 8 → qz_I g 723 j = qz_I h 723 j) → pcn F E (qz_I g 723 8) → cP g F E → Q (.inl (some (ez_v (.inl 1))), g)) (k0 : ¬ uz_S4 F E → ∀ g, ez_B τ g → pz τ h g → Q (.inl (some (ez_v (.inl 0))), g)) : ez_W (d + 3) cm_119 0 [(0, .inr (.inr (some (723))))] [] h Q := by
  have t723 : τ 723 = 55 := hC0.2.1 723 (by decide)
  have t202 : τ 202 = 48 := hC0.2.1 202 (by decide)
  have t203 : τ 203 = 49 := hC0.2.1 203 (by decide)
  have t727 : τ 727 = 59 := hC0.2.1 727 (by decide)
  have t728 : τ 728 = 60 := hC0.2.1 728 (by decide)
  have bn := sz_R_n1 hC0.1 t202
  refine ez_go (n := 2) (pc' := 2) (L' := [(1, .inl (0)), (0, .inr (.inr (some (723))))]) (st' := []) rfl ?_
  refine ez_less [(1, .inl (0)), (0, .inr (.inr (some (723))))] rfl ⟨rfl, rfl, trivial⟩ ?_
  refine rd_gather_l9 hw hS hXs hXl hC0 t723 t202 t203 t727 t728 k1 k0 _ 0 h rfl (by omega) (by omega) hC0 (ez_fr.refl _ _) (fun _ _ => rfl) ⟨fun i j i0 ij jn => by omega, fun z => ⟨fun ⟨j, j0, j1, _⟩ => by omega, fun ⟨k, k0, _⟩ => by omega⟩, ⟨fun k k0 k1 => by omega, fun k k2 k0 k1 => by omega⟩, ?_⟩ (fun j j0 j1 => by omega)
  have := wz_one (W := wL h 0) (fun x => by unfold wL; split <;> omega) Xs
  omega
end EzGp
section EzPp
variable {d : Nat} {h : cz_H} {τ : Nat → Nat} {Q : cz_F → Prop} {T : Int → Nat} {F : rz_W} {E : Int → Prop} {Xs : List Int}
theorem rd_prepare_l9 (hw : uz_wf F) (hS : uz_S1 F) (hXr : ∀ x ∈ Xs, 0 ≤ x ∧ x ≤ 1114111) (hXs : ∀ x, (F x).2 ≠ none → x ∈ Xs) (hXl : Xs.length ≤ 256) (hC0 : pz_C τ h T F E) (k1 : uz_S F E → ∀ g, xy τ T F E Xs g → pz τ h g → (∀ x, (F x).2 ≠ none → qz_I g (T x) 8 = 2) → pcn F E (qz_I g 723 8) → cP g F E → Q (.inl (some (ez_v (.inl 1))), g)) (k0 : ¬ uz_S F E → ∀ g, ez_B τ g → pz τ h g → Q (.inl (some (ez_v (.inl 0))), g)) : ∀ (m : Nat) (i : Int) (g : cz_H), m = (qz_I h 202 1 - i).toNat → 0 ≤ i → i ≤ qz_I h 202 1 → xy τ T F E Xs g → pz τ h g → qz_I g 723 8 = 0 → (∀ k, 0 ≤ k → k < i → (F (sz_f h k)).2 ≠ none → qz_I g (T (sz_f h k)) 8 = 2) → ez_W (d + 5) cm_129 21 [(1, .inl (i)), (0, .inr (.inr (some (723))))] [] g Q := by
  intro m
  induction m with
  | zero =>
    intro i g hm i0 i1 hx hpz h8 hcl
    have t202 : τ 202 = 48 := hC0.2.1 202 (by decide)
    have t723 : τ 723 = 55 := hC0.2.1 723 (by decide)
    have bn := sz_R_n1 hC0.1 t202
    have e202 : qz_I g 202 1 = qz_I h 202 1 := pz_n hC0.2.1 hpz 1
    refine ez_go (n := 2) (pc' := 23) (L' := [(1, .inl (i)), (0, .inr (.inr (some (723))))]) (st' := [.inr (.inr (some (723))), .inl (i)]) rfl ?_
    refine ez_gC (p := 202) (tg := 48) hx.1.1 t723 rfl rfl tq_55 rfl rfl (fun (t202 : _ = 48) => ?_)
    refine ez_gI hx.1.1 t202 rfl rfl tq_48 rfl rfl (fun (b1 : 1 ≤ qz_I g 202 1) (b1' : qz_I g 202 1 ≤ 513) => ?_)
    refine ez_icmp rfl rfl ⟨by first | omega | exact (sz_i32 _).1, by first | omega | exact (sz_i32 _).2⟩ ⟨by first | omega | exact (sz_i32 _).1, by first | omega | exact (sz_i32 _).2⟩ (fun (c2 : (qz_I g 202 1) ≤ (i)) => ?_) (fun (c2 : ¬((qz_I g 202 1) ≤ (i))) => ?_)
    · skip
      refine ez_go (n := 1) (pc' := 76) (L' := [(1, .inl (i)), (0, .inr (.inr (some (723))))]) (st' := [.inr (.inr (some (723)))]) rfl ?_
      have hall : ∀ x, (F x).2 ≠ none → qz_I g (T x) 8 = 2 := fun x hxn => by
        obtain ⟨q, hq⟩ : ∃ q, (F x).2 = some q := by cases hq : (F x).2 with | none => exact absurd hq hxn | some q => exact ⟨q, rfl⟩
        have hr := ((hw x).2 q.1 q.2 hq).2.2.2
        obtain ⟨k, k0, k1, e⟩ := sz_dec hC0 hr.1 hr.2 hxn
        have := hcl k k0 (by omega) (by rw [e]; exact hxn)
        rw [e] at this; exact this
      have hrng : ∀ x, (F x).2 ≠ none → 0 ≤ x ∧ x ≤ 1114111 := fun x hxn => by
        obtain ⟨q, hq⟩ : ∃ q, (F x).2 = some q := by cases hq : (F x).2 with | none => exact absurd hq hxn | some q => exact ⟨q, rfl⟩
        exact ((hw x).2 q.1 q.2 hq).2.2.2
      have hS2 : uz_S2 F := fun x hxn => (hx.2.1 x (hrng x hxn).1 (hrng x hxn).2 hxn (hall x hxn)).1
      have hS3 : uz_S3 F := fun x hxn c => by obtain ⟨l, l1, l2, l3⟩ := (hx.2.1 x (hrng x hxn).1 (hrng x hxn).2 hxn (hall x hxn)).2 c; exact ⟨l, l1, l3⟩
      refine ez_cv hx.1.1 t723 rfl rfl rfl tq_55 rfl rfl rfl (rd_gatherPairs9 hw hS hXs hXl hx.1 h8 (fun h4 g2 hB2 f2 j2 pc2 cp2 => ez_K1 ?_) (fun h4 g2 hB2 p2 => ez_K1 ?_))
      · have p2 := pz_PG hC0.2.1 f2
        have t3n : ∀ q, τ q = 3 → nz_PG q = false := fun q hq => by unfold nz_PG; rw [dz_beq_ne (fun e => by rw [e] at hq; exact (pz_X hC0.2.1 (by omega) (by omega)).1 hq), dz_beq_ne (fun e => by rw [e] at hq; exact (pz_X hC0.2.1 (by omega) (by omega)).1 hq), dz_beq_ne (fun e => by rw [e] at hq; exact (pz_X hC0.2.1 (by omega) (by omega)).1 hq)]; rfl
        refine ez_retZ rfl rfl (by decide) (k1 ⟨hS, hS2, hS3, h4⟩ g2 (xy_tr hXr hx hB2 p2 (fun q hq j _ => f2.I (t3n q hq) j) (j2 2 (by decide)) (fun j => f2.I rfl j)) (hpz.trans p2) (fun x hxn => ?_) pc2 cp2)
        rw [f2.I (t3n _ (hx.1.2.2.2.2 x (hrng x hxn).1 (hrng x hxn).2).1)]; exact hall x hxn
      · exact ez_retZ rfl rfl (by decide) (k0 (fun h => h4 h.2.2.2) g2 hB2 (hpz.trans p2))
    · exfalso; omega
  | succ m ih =>
    intro i g hm i0 i1 hx hpz h8 hcl
    have t202 : τ 202 = 48 := hC0.2.1 202 (by decide)
    have t723 : τ 723 = 55 := hC0.2.1 723 (by decide)
    have bn := sz_R_n1 hC0.1 t202
    have e202 : qz_I g 202 1 = qz_I h 202 1 := pz_n hC0.2.1 hpz 1
    refine ez_go (n := 2) (pc' := 23) (L' := [(1, .inl (i)), (0, .inr (.inr (some (723))))]) (st' := [.inr (.inr (some (723))), .inl (i)]) rfl ?_
    refine ez_gC (p := 202) (tg := 48) hx.1.1 t723 rfl rfl tq_55 rfl rfl (fun (t202 : _ = 48) => ?_)
    refine ez_gI hx.1.1 t202 rfl rfl tq_48 rfl rfl (fun (b1 : 1 ≤ qz_I g 202 1) (b1' : qz_I g 202 1 ≤ 513) => ?_)
    refine ez_icmp rfl rfl ⟨by first | omega | exact (sz_i32 _).1, by first | omega | exact (sz_i32 _).2⟩ ⟨by first | omega | exact (sz_i32 _).1, by first | omega | exact (sz_i32 _).2⟩ (fun (c2 : (qz_I g 202 1) ≤ (i)) => ?_) (fun (c2 : ¬((qz_I g 202 1) ≤ (i))) => ?_)
    · exfalso; omega
    · skip
      refine ez_go (n := 1) (pc' := 33) (L' := [(1, .inl (i)), (0, .inr (.inr (some (723))))]) (st' := [.inr (.inr (some (723)))]) rfl ?_
      refine ez_gC (p := 202) (tg := 48) hx.1.1 t723 rfl rfl tq_55 rfl rfl (fun (t202 : _ = 48) => ?_)
      refine ez_gC (p := 203) (tg := 49) hx.1.1 t202 rfl rfl tq_48 rfl rfl (fun (t203 : _ = 49) => ?_)
      refine ez_go (n := 1) (pc' := 40) (L' := [(1, .inl (i)), (0, .inr (.inr (some (723))))]) (st' := [.inl (i), .inr (.inr (some (203)))]) rfl ?_
      have n4 : 513 ≤ qz_N g 203 ∧ qz_N g 203 ≤ 513 := ez_len hx.1.1 t203 tq_49 rfl
      have y5 : 1 ≤ qz_I g 203 (i).toNat ∧ qz_I g 203 (i).toNat ≤ 1000000 := ez_aB hx.1.1 t203 tq_49 rfl rfl (by decide) (by omega) (by omega)
      have y5' : ((qz_P g 203 (i).toNat : Nat) : Int) + 1 = qz_I g 203 (i).toNat := by unfold qz_P; omega
      refine ez_aR hx.1.1 t203 rfl tq_49 rfl rfl (by omega) (by omega) (by omega) (fun (t3 : _ = 4) => ?_)
      refine ez_gR hx.1.1 t3 rfl rfl tq_4 rfl rfl (fun (t6 : _ = 3) (t6' : 1 ≤ qz_I g (qz_P g 203 (i).toNat) 1) => ?_)
      obtain ⟨at1, y0, y1⟩ := sz_first hx.1.2.2.1 i0 (show i < qz_I g 202 1 by omega)
      have ef : sz_f g i = sz_f h i := pz_f hC0 hpz i0 (by omega)
      rw [ef] at at1 y0 y1
      have e1 := (hx.1.2.2.2.1 _ i y0 y1 at1).1
      obtain ⟨x, ex⟩ : ∃ x, x = sz_f h i := ⟨_, rfl⟩
      rw [← ex] at at1 y0 y1 e1
      have eT : qz_P g (qz_P g 203 (i).toNat) 1 = T x := by show qz_P g (sz_p g i) 1 = T x; unfold qz_P; omega
      rw [eT]
      obtain ⟨tT, -, f3, f4⟩ := hx.1.2.2.2.2 x y0 y1
      refine ez_go (n := 2) (pc' := 46) (L' := [(2, .inr (.inr (some ((T x))))), (1, .inl (i)), (0, .inr (.inr (some (723))))]) (st' := [.inr (.inr (some ((T x))))]) rfl ?_
      refine ez_gN hx.1.1 tT rfl rfl tq_3 rfl rfl (fun (t7 : qz_I g ((T x)) 3 = 0) => ?_) (fun (t7 : _ = 5) (t7' : 1 ≤ qz_I g ((T x)) 3) => ?_)
      · skip
        refine ez_null0 rfl rfl ?_
        refine ez_go (n := 2) (pc' := 21) (L' := [(1, .inl (i + 1)), (2, .inr (.inr (some ((T x))))), (0, .inr (.inr (some (723))))]) (st' := []) rfl ?_
        refine ez_less [(1, .inl (i + 1)), (0, .inr (.inr (some (723))))] rfl ⟨rfl, rfl, trivial⟩ ?_
        refine ih (i + 1) g (by omega) (by omega) (by omega) hx hpz h8 (fun k k0 k1 hk => ?_)
        by_cases e : k = i
        · subst e
          rw [← ex] at hk ⊢
          have n1 := hx.2.2.1 x y0 y1 hk
          have b8 : 0 ≤ qz_I g (T x) 8 ∧ qz_I g (T x) 8 ≤ 2 := ez_fB (cl := 3) hx.1.1 tT tq_3 rfl rfl (by decide)
          obtain ⟨q, hq⟩ : ∃ q, (F x).2 = some q := by cases hq : (F x).2 with | none => exact absurd hq hk | some q => exact ⟨q, rfl⟩
          have f5 := (f4 q.1 q.2 hq).2.2.1
          omega
        · exact hcl k k0 (by omega) hk
      · skip
        refine ez_null1 rfl ?_
        refine ez_go (n := 1) (pc' := 53) (L' := [(2, .inr (.inr (some ((T x))))), (1, .inl (i)), (0, .inr (.inr (some (723))))]) (st' := [.inr (.inr (some ((T x))))]) rfl ?_
        refine ez_gI hx.1.1 tT rfl rfl tq_3 rfl rfl (fun (b8 : 0 ≤ qz_I g ((T x)) 8) (b8' : qz_I g ((T x)) 8 ≤ 2) => ?_)
        refine ez_if rfl rfl ⟨by first | omega | exact (sz_i32 _).1, by first | omega | exact (sz_i32 _).2⟩ (fun (c9 : (qz_I g ((T x)) 8) ≠ (0)) => ?_) (fun (c9 : ¬((qz_I g ((T x)) 8) ≠ (0))) => ?_)
        · skip
          refine ez_go (n := 2) (pc' := 21) (L' := [(1, .inl (i + 1)), (2, .inr (.inr (some ((T x))))), (0, .inr (.inr (some (723))))]) (st' := []) rfl ?_
          refine ez_less [(1, .inl (i + 1)), (0, .inr (.inr (some (723))))] rfl ⟨rfl, rfl, trivial⟩ ?_
          refine ih (i + 1) g (by omega) (by omega) (by omega) hx hpz h8 (fun k k0 k1 hk => ?_)
          by_cases e : k = i
          · subst e
            rw [← ex] at hk ⊢
            have n1 := hx.2.2.1 x y0 y1 hk
            have b8 : 0 ≤ qz_I g (T x) 8 ∧ qz_I g (T x) 8 ≤ 2 := ez_fB (cl := 3) hx.1.1 tT tq_3 rfl rfl (by decide)
            obtain ⟨q, hq⟩ : ∃ q, (F x).2 = some q := by cases hq : (F x).2 with | none => exact absurd hq hk | some q => exact ⟨q, rfl⟩
            have f5 := (f4 q.1 q.2 hq).2.2.1
            omega
          · exact hcl k k0 (by omega) hk
        · skip
          refine ez_go (n := 2) (pc' := 61) (L' := [(2, .inr (.inr (some ((T x))))), (1, .inl (i)), (0, .inr (.inr (some (723))))]) (st' := [.inr (.inr (some ((T x)))), .inr (.inr (some (723)))]) rfl ?_
          have hnx : (F x).2 ≠ none := fun w => by have := f3 w; omega
          obtain ⟨q, hq⟩ : ∃ q, (F x).2 = some q := by cases hq : (F x).2 with | none => exact absurd hq hnx | some q => exact ⟨q, rfl⟩
          refine ez_cv hx.1.1 t723 rfl rfl rfl tq_55 rfl rfl rfl (rd_expandFrom hw hS hXr hXs hXl hx y0 y1 (hS x q.1 q.2 hq).1 hnx (by omega) (fun hno g2 hB2 p2 => ez_K1 ?_) (fun g2 x2 p2 e2 v2 w2 => ez_K1 ?_))
          · skip
            refine ez_if rfl rfl ⟨by decide, by decide⟩ (fun (c10 : (0 : Int) ≠ (0)) => absurd c10 (by decide)) (fun _ => ?_)
            refine ez_go (n := 1) (pc' := 68) (L' := [(2, .inr (.inr (some ((T x))))), (1, .inl (i)), (0, .inr (.inr (some (723))))]) (st' := [.inl (0)]) rfl ?_
            exact ez_retZ rfl rfl (by decide) (k0 (fun h => hno ⟨h.2.1, h.2.2.1⟩) g2 hB2 (hpz.trans p2))
          · skip
            refine ez_if rfl rfl ⟨by decide, by decide⟩ (fun _ => ?_) (fun (c11 : ¬((1 : Int) ≠ (0))) => absurd c11 (by decide))
            refine ez_go (n := 2) (pc' := 21) (L' := [(1, .inl (i + 1)), (2, .inr (.inr (some ((T x))))), (0, .inr (.inr (some (723))))]) (st' := []) rfl ?_
            refine ez_less [(1, .inl (i + 1)), (0, .inr (.inr (some (723))))] rfl ⟨rfl, rfl, trivial⟩ ?_
            refine ih (i + 1) g2 (by omega) (by omega) (by omega) x2 (hpz.trans p2) (e2.trans h8) (fun k k0 k1 hk => ?_)
            by_cases e : k = i
            · subst e; rw [← ex]; exact w2
            · obtain ⟨-, z0, z1⟩ := sz_first hC0.2.2.1 k0 (by omega)
              exact (v2 _ z0 z1 hk).1 (hcl k k0 (by omega) hk)
theorem rd_prepare9 (hw : uz_wf F) (hXr : ∀ x ∈ Xs, 0 ≤ x ∧ x ≤ 1114111) (hXs : ∀ x, (F x).2 ≠ none → x ∈ Xs) (hXl : Xs.length ≤ 256) (hC0 : pz_C τ h T F E) (k1 : uz_S F E → ∀ g, xy τ T F E Xs g → pz τ h g → (∀ x, (F x).2 ≠ none → qz_I g (T x) 8 = 2) → pcn F E (qz_I g 723 8) → cP g F E → Q (.inl (some (ez_v (.inl 1))), g)) (k0 : ¬ uz_S F E → ∀ g, ez_B τ g → pz τ h g → Q (.inl (some (ez_v (.inl 0))), g)) : ez_W (d + 5) cm_129 0 [(0, .inr (.inr (some (723))))] [] h Q := by
  have t202 : τ 202 = 48 := hC0.2.1 202 (by decide)
  have t723 : τ 723 = 55 := hC0.2.1 723 (by decide)
  refine ez_go (n := 2) (pc' := 2) (L' := [(0, .inr (.inr (some (723))))]) (st' := [.inl (0), .inr (.inr (some (723)))]) rfl ?_
  refine ez_pf hC0.1 t723 rfl rfl tq_55 rfl rfl rfl rfl (ez_vdI rfl rfl (by omega) (by omega)) (fun hB1 w2 => ?_)
  refine ez_go (n := 2) (pc' := 7) (L' := [(0, .inr (.inr (some (723))))]) (st' := [.inl (0), .inr (.inr (some (723)))]) rfl ?_
  refine ez_pf hB1 t723 rfl rfl tq_55 rfl rfl rfl rfl (ez_vdI rfl rfl (by omega) (by omega)) (fun hB3 w4 => ?_)
  refine ez_go (n := 1) (pc' := 11) (L' := [(0, .inr (.inr (some (723))))]) (st' := [.inr (.inr (some (723)))]) rfl ?_
  have X3 := (pz_X hC0.2.1 (show 723 ≤ 723 by omega) (by omega)).1
  have p1 : pz τ h (dz_put (dz_put h 723 2 (ez_v (.inl (0)))) 723 8 (ez_v (.inl (0)))) := (pz_put (by omega) (by omega) X3).trans (pz_put (by omega) (by omega) X3)
  have hC1 := hC0.fr hB3 p1
  have u2 : qz_I (dz_put (dz_put h 723 2 (ez_v (.inl (0)))) 723 8 (ez_v (.inl (0)))) 723 2 = 0 := by rw [ez_put_I (by omega), w2]; rfl
  have u8 : qz_I (dz_put (dz_put h 723 2 (ez_v (.inl (0)))) 723 8 (ez_v (.inl (0)))) 723 8 = 0 := by rw [w4]; rfl
  generalize (dz_put (dz_put h 723 2 (ez_v (.inl (0)))) 723 8 (ez_v (.inl (0)))) = g1 at *
  refine ez_cv hC1.1 t723 rfl rfl rfl tq_55 rfl rfl rfl (rd_checkShapes hw hC1 (fun hS g2 hB2 p2 n3 n8 hv => ez_K1 ?_) (fun hS g2 hB2 p2 => ez_K1 ?_))
  · skip
    refine ez_if rfl rfl ⟨by decide, by decide⟩ (fun _ => ?_) (fun (c5 : ¬((1 : Int) ≠ (0))) => absurd c5 (by decide))
    refine ez_go (n := 2) (pc' := 21) (L' := [(1, .inl (0)), (0, .inr (.inr (some (723))))]) (st' := []) rfl ?_
    refine ez_less [(1, .inl (0)), (0, .inr (.inr (some (723))))] rfl ⟨rfl, rfl, trivial⟩ ?_
    have hC2 := hC1.fr hB2 p2
    have i723 : ∀ j, qz_I g2 723 j = qz_I g1 723 j := fun j => by unfold qz_I; rw [n3 723 X3]
    have hx : xy τ T F E Xs g2 := ⟨hC2, fun x x0 x1 hx h2 => (by rw [hv x hx] at h2; cases h2), fun x x0 x1 hx h2 => (by rw [hv x hx] at h2; cases h2), wz_one (wU_le g2 T) Xs, by rw [i723, u2]; have := wz_one (wN_le g2 T) Xs; omega⟩
    have bn := sz_R_n1 hC2.1 t202
    exact rd_prepare_l9 (h := g2) hw hS hXr hXs hXl hC2 (fun hSS g y1 y2 y3 y4 y5 => k1 hSS g y1 ((p1.trans p2).trans y2) y3 y4 y5) (fun hn g y1 y2 => k0 hn g y1 ((p1.trans p2).trans y2)) _ 0 g2 rfl (by omega) (by omega) hx (pz.refl _ _) (by rw [i723]; exact u8) (fun k k0 k1 => by omega)
  · skip
    refine ez_if rfl rfl ⟨by decide, by decide⟩ (fun (c6 : (0 : Int) ≠ (0)) => absurd c6 (by decide)) (fun _ => ?_)
    refine ez_go (n := 1) (pc' := 18) (L' := [(0, .inr (.inr (some (723))))]) (st' := [.inl (0)]) rfl ?_
    exact ez_retZ rfl rfl (by decide) (k0 (fun h => hS h.1) g2 hB2 (p1.trans p2))
end EzPp
theorem jx_xc {τ : Nat → Nat} {h : cz_H} {k : Nat} {F : rz_W} {E : Int → Prop} {D : Int → xD} (hI : jz_I τ h F E) (hX : jx τ h D) : jx τ (xc h k) D := by
  have x := xc_xt (k := k) hI.1
  exact jx_tr hI.1 (hI.2.1 202 (by decide)) (hI.2.1 203 (by decide)) hX (x.I (by rw [hI.2.1 202 (by decide)]; decide) 1) (x.1 203 (by rw [hI.2.1 203 (by decide)]; decide)).2 (fun q hq => x.1 q (by omega))
theorem jx_put {τ : Nat → Nat} {h : cz_H} {r i : Nat} {v : cz_V} {F : rz_W} {E : Int → Prop} {D : Int → xD} (hI : jz_I τ h F E) (hX : jx τ h D) (hr : r ≠ 202) (h3 : r ≠ 203) (ht : τ r ≠ 3 ∧ τ r ≠ 4 ∧ τ r ≠ 5 ∧ τ r ≠ 6) : jx τ (dz_put h r i v) D := by
  have fr : ∀ q, q ≠ r → (dz_put h r i v).2.2 q = h.2.2 q := fun q hq => qz_put_at h r i v hq
  exact jx_tr hI.1 (hI.2.1 202 (by decide)) (hI.2.1 203 (by decide)) hX (by unfold qz_I; rw [fr 202 (Ne.symm hr)]) (fr 203 (Ne.symm h3)) (fun q hq => ⟨rfl, fr q (fun e => by rw [e] at hq; omega)⟩)
section EzLn
variable {d : Nat} {h : cz_H} {τ : Nat → Nat} {Q : cz_F → Prop} {F : rz_W} {E : Int → Prop} {D : Int → xD}
theorem rd_line09 (hI : jz_I τ h F E) (hX : jx τ h D) (hl : qz_I h 192 1 = 0 ∨ qz_I h 202 5 ≤ 255) (hr1 : h.1 + 5 ≤ 600192) (hr2 : h.2.1 + 65 ≤ 7302232) (kS : qz_I h 202 6 ≠ 0 → Q (.inr h.1, xc h 2)) (kC : qz_I h 202 6 = 0 → ∀ g τ1 F2 E2 D2, jz_I τ1 g F2 E2 → jx τ1 g D2 → fz τ (dz_put h 192 1 (ez_v (.inl 0))) τ1 g 5 65 → rz_step (rz_b h) (qz_I h 192 1) 0 F E F2 E2 → qz_I g 192 1 = 0 → (∀ j, j ≠ 1 → qz_I g 192 j = qz_I h 192 j) → (qz_I g 202 5 = qz_I h 202 5 ∨ (qz_I g 202 5 = qz_I h 202 5 + 1 ∧ 0 < qz_I h 192 1)) → (∀ j, j ≠ 1 → j ≠ 4 → j ≠ 5 → qz_I g 202 j = qz_I h 202 j) → ∀ o, ((∃ v, o = .inl (some (ez_v (.inl v))) ∧ v ≠ -1 ∧ rz_an (rz_b h) (qz_I h 192 1) 7 (rz_g0 (rz_b h)) v ∧ xsl (rz_b h) (qz_I h 192 1) 0 D v D2) ∨ (∃ r, o = .inr r ∧ cz_exc g r = some 3 ∧ rz_an (rz_b h) (qz_I h 192 1) 7 (rz_g0 (rz_b h)) (-1) ∧ xsl (rz_b h) (qz_I h 192 1) 0 D (-1) D2)) → Q (o, g)) : ez_W (d + 9) cm_21 0 [(0, .inr (.inr (some (192)))), (1, .inl (0))] [] h Q := by
  have t192 : τ 192 = 44 := hI.2.1 192 (by decide)
  refine ez_go (n := 3) (pc' := 3) (L' := [(0, .inr (.inr (some (192)))), (1, .inl (0))]) (st' := [.inl (4), .inl (0), .inl (0)]) rfl ?_
  refine ez_cs hI.1.2.1 rfl rfl rfl rfl rfl (rd_reqRange ⟨by decide, by decide⟩ ⟨by decide, by decide⟩ ⟨by decide, by decide⟩ (by omega) (by omega) (fun _ _ => ez_K0 ?_) (fun w => by omega))
  refine ez_go (n := 1) (pc' := 7) (L' := [(0, .inr (.inr (some (192)))), (1, .inl (0))]) (st' := [.inr (.inr (some (192)))]) rfl ?_
  refine ez_cv hI.1 t192 rfl rfl rfl tq_44 rfl rfl rfl (rd_reqOpen hI.1 t192 (by omega) (by omega) (fun ho => ez_K0 ?_) (fun ho => ez_Kp (xc_exc hI.1 rfl) rfl (kS ho)))
  refine ez_go (n := 1) (pc' := 11) (L' := [(0, .inr (.inr (some (192)))), (1, .inl (0))]) (st' := [.inr (.inr (some (192)))]) rfl ?_
  refine ez_gI hI.1 t192 rfl rfl tq_44 rfl rfl (fun (b1 : 0 ≤ qz_I h 192 1) (b1' : qz_I h 192 1 ≤ 4096) => ?_)
  refine ez_go (n := 3) (pc' := 17) (L' := [(2, .inl (qz_I h 192 1)), (0, .inr (.inr (some (192)))), (1, .inl (0))]) (st' := [.inl (0), .inr (.inr (some (192)))]) rfl ?_
  refine ez_pf hI.1 t192 rfl rfl tq_44 rfl rfl rfl rfl (ez_vdI rfl rfl (by omega) (by omega)) (fun hB2 w3 => ?_)
  refine ez_go (n := 1) (pc' := 21) (L' := [(2, .inl (qz_I h 192 1)), (0, .inr (.inr (some (192)))), (1, .inl (0))]) (st' := [.inr (.inr (some (192)))]) rfl ?_
  refine ez_gC (p := 720) (tg := 52) hB2 t192 rfl rfl tq_44 rfl rfl (fun (t720 : _ = 52) => ?_)
  refine ez_go (n := 2) (pc' := 26) (L' := [(2, .inl (qz_I h 192 1)), (0, .inr (.inr (some (192)))), (1, .inl (0))]) (st' := [.inl (qz_I h 192 1), .inl (0), .inr (.inr (some (720)))]) rfl ?_
  have hI1 : jz_I τ (dz_put h 192 1 (ez_v (.inl (0)))) F E := jz_put hI hB2 (by decide) (by decide) (by decide) (by rw [t192]; decide)
  have hX1 : jx τ (dz_put h 192 1 (ez_v (.inl (0)))) D := jx_put hI hX (by decide) (by decide) (by rw [t192]; decide)
  have q202 : ∀ j, qz_I (dz_put h 192 1 (ez_v (.inl (0)))) 202 j = qz_I h 202 j := fun j => ez_put_I (by omega)
  have b1 : rz_b (dz_put h 192 1 (ez_v (.inl (0)))) = rz_b h := funext fun i => ez_put_I (by omega)
  have z1 : qz_I (dz_put h 192 1 (ez_v (.inl (0)))) 192 1 = 0 := by rw [w3]; rfl
  have zj : ∀ j, j ≠ 1 → qz_I (dz_put h 192 1 (ez_v (.inl (0)))) 192 j = qz_I h 192 j := fun j hj => ez_put_I (fun w => hj w.2)
  have c1 : ((dz_put h 192 1 (ez_v (.inl (0))))).1 = h.1 := rfl
  have c2 : ((dz_put h 192 1 (ez_v (.inl (0))))).2.1 = h.2.1 := rfl
  have kk := kC ho
  generalize (dz_put h 192 1 (ez_v (.inl (0)))) = h1 at *
  refine ez_cv hI1.1 t720 rfl rfl rfl tq_52 rfl rfl rfl (rd_take09 hI1 hX1 (by omega) (by omega) (by rw [q202]; exact hl) (by omega) (by omega) (fun g τ1 F2 E2 v D2 hI2 x st hv ho2 hans hxs hX2 => ez_K1 ?_))
  rw [b1] at st hans hxs
  have u192 : τ1 192 = 44 := hI2.2.1 192 (by decide)
  have xc2 := x.2
  have q5 := q202 5
  have a192 : ∀ j, qz_I g 192 j = qz_I h1 192 j := fun j => by unfold qz_I; rw [(x.1 192 (by rw [t192]; decide)).2 (by rw [t192]; rfl)]
  refine ez_go (n := 3) (pc' := 32) (L' := [(3, .inl (v)), (2, .inl (qz_I h 192 1)), (0, .inr (.inr (some (192)))), (1, .inl (0))]) (st' := [.inl (-1), .inl (v)]) rfl ?_
  refine ez_icmp rfl rfl ⟨by first | omega | exact (sz_i32 _).1, by first | omega | exact (sz_i32 _).2⟩ ⟨by first | omega | exact (sz_i32 _).1, by first | omega | exact (sz_i32 _).2⟩ (fun (c4 : (v) ≠ (-1)) => ?_) (fun (c4 : ¬((v) ≠ (-1))) => ?_)
  · skip
    refine ez_go (n := 1) (pc' := 44) (L' := [(3, .inl (v)), (2, .inl (qz_I h 192 1)), (0, .inr (.inr (some (192)))), (1, .inl (0))]) (st' := [.inl (v)]) rfl ?_
    exact ez_retI rfl rfl (kk g τ1 F2 E2 D2 hI2 hX2 (x.mono (by omega) (by omega)) st ((a192 1).trans z1) (fun j hj => (a192 j).trans (zj j hj)) (by omega) (fun j j1 j4 j5 => by rw [ho2 j j1 j4 j5, q202]) _ (Or.inl ⟨v, rfl, by omega, hans, hxs⟩))
  · skip
    refine ez_th rfl rfl (by omega) (by omega) (by omega) rfl ?_
    exact kk (xc g 3) τ1 F2 E2 D2 (jz_xc hI2 (by omega) (by omega)) (jx_xc hI2 hX2) ((x.trans (fz_xt (xc_xt hI2.1))).mono (by omega) (by omega)) st ((xc_xt hI2.1).I (by rw [u192]; decide) 1 |>.trans ((a192 1).trans z1)) (fun j hj => ((xc_xt hI2.1).I (by rw [u192]; decide) j).trans ((a192 j).trans (zj j hj))) (Or.inl (by rw [(xc_xt hI2.1).I (by rw [hI2.2.1 202 (by decide)]; decide)]; omega)) (fun j j1 j4 j5 => by rw [(xc_xt hI2.1).I (by rw [hI2.2.1 202 (by decide)]; decide), ho2 j j1 j4 j5, q202]) _ (Or.inr ⟨g.1, rfl, xc_exc hI2.1 rfl, by rw [show v = -1 by omega] at hans; exact hans, by rw [show v = -1 by omega] at hxs; exact hxs⟩)
theorem rd_line19 (hI : jz_I τ h F E) (hX : jx τ h D) (hl : qz_I h 192 1 = 0 ∨ qz_I h 202 5 ≤ 255) (hr1 : h.1 + 5 ≤ 600192) (hr2 : h.2.1 + 65 ≤ 7302232) (kS : qz_I h 202 6 ≠ 0 → Q (.inr h.1, xc h 2)) (kC : qz_I h 202 6 = 0 → ∀ g τ1 F2 E2 D2, jz_I τ1 g F2 E2 → jx τ1 g D2 → fz τ (dz_put h 192 1 (ez_v (.inl 0))) τ1 g 5 65 → rz_step (rz_b h) (qz_I h 192 1) 1 F E F2 E2 → qz_I g 192 1 = 0 → (∀ j, j ≠ 1 → qz_I g 192 j = qz_I h 192 j) → (qz_I g 202 5 = qz_I h 202 5 ∨ (qz_I g 202 5 = qz_I h 202 5 + 1 ∧ 0 < qz_I h 192 1)) → (∀ j, j ≠ 1 → j ≠ 4 → j ≠ 5 → qz_I g 202 j = qz_I h 202 j) → ∀ o, ((∃ v, o = .inl (some (ez_v (.inl v))) ∧ v ≠ -1 ∧ rz_an (rz_b h) (qz_I h 192 1) 5 (rz_g1 (rz_b h)) v ∧ xsl (rz_b h) (qz_I h 192 1) 1 D v D2) ∨ (∃ r, o = .inr r ∧ cz_exc g r = some 3 ∧ rz_an (rz_b h) (qz_I h 192 1) 5 (rz_g1 (rz_b h)) (-1) ∧ xsl (rz_b h) (qz_I h 192 1) 1 D (-1) D2)) → Q (o, g)) : ez_W (d + 9) cm_21 0 [(0, .inr (.inr (some (192)))), (1, .inl (1))] [] h Q := by
  have t192 : τ 192 = 44 := hI.2.1 192 (by decide)
  refine ez_go (n := 3) (pc' := 3) (L' := [(0, .inr (.inr (some (192)))), (1, .inl (1))]) (st' := [.inl (4), .inl (0), .inl (1)]) rfl ?_
  refine ez_cs hI.1.2.1 rfl rfl rfl rfl rfl (rd_reqRange ⟨by decide, by decide⟩ ⟨by decide, by decide⟩ ⟨by decide, by decide⟩ (by omega) (by omega) (fun _ _ => ez_K0 ?_) (fun w => by omega))
  refine ez_go (n := 1) (pc' := 7) (L' := [(0, .inr (.inr (some (192)))), (1, .inl (1))]) (st' := [.inr (.inr (some (192)))]) rfl ?_
  refine ez_cv hI.1 t192 rfl rfl rfl tq_44 rfl rfl rfl (rd_reqOpen hI.1 t192 (by omega) (by omega) (fun ho => ez_K0 ?_) (fun ho => ez_Kp (xc_exc hI.1 rfl) rfl (kS ho)))
  refine ez_go (n := 1) (pc' := 11) (L' := [(0, .inr (.inr (some (192)))), (1, .inl (1))]) (st' := [.inr (.inr (some (192)))]) rfl ?_
  refine ez_gI hI.1 t192 rfl rfl tq_44 rfl rfl (fun (b1 : 0 ≤ qz_I h 192 1) (b1' : qz_I h 192 1 ≤ 4096) => ?_)
  refine ez_go (n := 3) (pc' := 17) (L' := [(2, .inl (qz_I h 192 1)), (0, .inr (.inr (some (192)))), (1, .inl (1))]) (st' := [.inl (0), .inr (.inr (some (192)))]) rfl ?_
  refine ez_pf hI.1 t192 rfl rfl tq_44 rfl rfl rfl rfl (ez_vdI rfl rfl (by omega) (by omega)) (fun hB2 w3 => ?_)
  refine ez_go (n := 1) (pc' := 21) (L' := [(2, .inl (qz_I h 192 1)), (0, .inr (.inr (some (192)))), (1, .inl (1))]) (st' := [.inr (.inr (some (192)))]) rfl ?_
  refine ez_gC (p := 720) (tg := 52) hB2 t192 rfl rfl tq_44 rfl rfl (fun (t720 : _ = 52) => ?_)
  refine ez_go (n := 2) (pc' := 26) (L' := [(2, .inl (qz_I h 192 1)), (0, .inr (.inr (some (192)))), (1, .inl (1))]) (st' := [.inl (qz_I h 192 1), .inl (1), .inr (.inr (some (720)))]) rfl ?_
  have hI1 : jz_I τ (dz_put h 192 1 (ez_v (.inl (0)))) F E := jz_put hI hB2 (by decide) (by decide) (by decide) (by rw [t192]; decide)
  have hX1 : jx τ (dz_put h 192 1 (ez_v (.inl (0)))) D := jx_put hI hX (by decide) (by decide) (by rw [t192]; decide)
  have q202 : ∀ j, qz_I (dz_put h 192 1 (ez_v (.inl (0)))) 202 j = qz_I h 202 j := fun j => ez_put_I (by omega)
  have b1 : rz_b (dz_put h 192 1 (ez_v (.inl (0)))) = rz_b h := funext fun i => ez_put_I (by omega)
  have z1 : qz_I (dz_put h 192 1 (ez_v (.inl (0)))) 192 1 = 0 := by rw [w3]; rfl
  have zj : ∀ j, j ≠ 1 → qz_I (dz_put h 192 1 (ez_v (.inl (0)))) 192 j = qz_I h 192 j := fun j hj => ez_put_I (fun w => hj w.2)
  have c1 : ((dz_put h 192 1 (ez_v (.inl (0))))).1 = h.1 := rfl
  have c2 : ((dz_put h 192 1 (ez_v (.inl (0))))).2.1 = h.2.1 := rfl
  have kk := kC ho
  generalize (dz_put h 192 1 (ez_v (.inl (0)))) = h1 at *
  refine ez_cv hI1.1 t720 rfl rfl rfl tq_52 rfl rfl rfl (rd_take19 hI1 hX1 (by omega) (by omega) (by rw [q202]; exact hl) (by omega) (by omega) (fun g τ1 F2 E2 v D2 hI2 x st hv ho2 hans hxs hX2 => ez_K1 ?_))
  rw [b1] at st hans hxs
  have u192 : τ1 192 = 44 := hI2.2.1 192 (by decide)
  have xc2 := x.2
  have q5 := q202 5
  have a192 : ∀ j, qz_I g 192 j = qz_I h1 192 j := fun j => by unfold qz_I; rw [(x.1 192 (by rw [t192]; decide)).2 (by rw [t192]; rfl)]
  refine ez_go (n := 3) (pc' := 32) (L' := [(3, .inl (v)), (2, .inl (qz_I h 192 1)), (0, .inr (.inr (some (192)))), (1, .inl (1))]) (st' := [.inl (-1), .inl (v)]) rfl ?_
  refine ez_icmp rfl rfl ⟨by first | omega | exact (sz_i32 _).1, by first | omega | exact (sz_i32 _).2⟩ ⟨by first | omega | exact (sz_i32 _).1, by first | omega | exact (sz_i32 _).2⟩ (fun (c4 : (v) ≠ (-1)) => ?_) (fun (c4 : ¬((v) ≠ (-1))) => ?_)
  · skip
    refine ez_go (n := 1) (pc' := 44) (L' := [(3, .inl (v)), (2, .inl (qz_I h 192 1)), (0, .inr (.inr (some (192)))), (1, .inl (1))]) (st' := [.inl (v)]) rfl ?_
    exact ez_retI rfl rfl (kk g τ1 F2 E2 D2 hI2 hX2 (x.mono (by omega) (by omega)) st ((a192 1).trans z1) (fun j hj => (a192 j).trans (zj j hj)) (by omega) (fun j j1 j4 j5 => by rw [ho2 j j1 j4 j5, q202]) _ (Or.inl ⟨v, rfl, by omega, hans, hxs⟩))
  · skip
    refine ez_th rfl rfl (by omega) (by omega) (by omega) rfl ?_
    exact kk (xc g 3) τ1 F2 E2 D2 (jz_xc hI2 (by omega) (by omega)) (jx_xc hI2 hX2) ((x.trans (fz_xt (xc_xt hI2.1))).mono (by omega) (by omega)) st ((xc_xt hI2.1).I (by rw [u192]; decide) 1 |>.trans ((a192 1).trans z1)) (fun j hj => ((xc_xt hI2.1).I (by rw [u192]; decide) j).trans ((a192 j).trans (zj j hj))) (Or.inl (by rw [(xc_xt hI2.1).I (by rw [hI2.2.1 202 (by decide)]; decide)]; omega)) (fun j j1 j4 j5 => by rw [(xc_xt hI2.1).I (by rw [hI2.2.1 202 (by decide)]; decide), ho2 j j1 j4 j5, q202]) _ (Or.inr ⟨g.1, rfl, xc_exc hI2.1 rfl, by rw [show v = -1 by omega] at hans; exact hans, by rw [show v = -1 by omega] at hxs; exact hxs⟩)
theorem rd_line29 (hI : jz_I τ h F E) (hX : jx τ h D) (hl : qz_I h 192 1 = 0 ∨ qz_I h 202 5 ≤ 255) (hr1 : h.1 + 5 ≤ 600192) (hr2 : h.2.1 + 65 ≤ 7302232) (kS : qz_I h 202 6 ≠ 0 → Q (.inr h.1, xc h 2)) (kC : qz_I h 202 6 = 0 → ∀ g τ1 F2 E2 D2, jz_I τ1 g F2 E2 → jx τ1 g D2 → fz τ (dz_put h 192 1 (ez_v (.inl 0))) τ1 g 5 65 → rz_step (rz_b h) (qz_I h 192 1) 2 F E F2 E2 → qz_I g 192 1 = 0 → (∀ j, j ≠ 1 → qz_I g 192 j = qz_I h 192 j) → (qz_I g 202 5 = qz_I h 202 5 ∨ (qz_I g 202 5 = qz_I h 202 5 + 1 ∧ 0 < qz_I h 192 1)) → (∀ j, j ≠ 1 → j ≠ 4 → j ≠ 5 → qz_I g 202 j = qz_I h 202 j) → ∀ o, ((∃ v, o = .inl (some (ez_v (.inl v))) ∧ v ≠ -1 ∧ rz_an (rz_b h) (qz_I h 192 1) 3 (rz_g2 (rz_b h)) v ∧ xsl (rz_b h) (qz_I h 192 1) 2 D v D2) ∨ (∃ r, o = .inr r ∧ cz_exc g r = some 3 ∧ rz_an (rz_b h) (qz_I h 192 1) 3 (rz_g2 (rz_b h)) (-1) ∧ xsl (rz_b h) (qz_I h 192 1) 2 D (-1) D2)) → Q (o, g)) : ez_W (d + 9) cm_21 0 [(0, .inr (.inr (some (192)))), (1, .inl (2))] [] h Q := by
  have t192 : τ 192 = 44 := hI.2.1 192 (by decide)
  refine ez_go (n := 3) (pc' := 3) (L' := [(0, .inr (.inr (some (192)))), (1, .inl (2))]) (st' := [.inl (4), .inl (0), .inl (2)]) rfl ?_
  refine ez_cs hI.1.2.1 rfl rfl rfl rfl rfl (rd_reqRange ⟨by decide, by decide⟩ ⟨by decide, by decide⟩ ⟨by decide, by decide⟩ (by omega) (by omega) (fun _ _ => ez_K0 ?_) (fun w => by omega))
  refine ez_go (n := 1) (pc' := 7) (L' := [(0, .inr (.inr (some (192)))), (1, .inl (2))]) (st' := [.inr (.inr (some (192)))]) rfl ?_
  refine ez_cv hI.1 t192 rfl rfl rfl tq_44 rfl rfl rfl (rd_reqOpen hI.1 t192 (by omega) (by omega) (fun ho => ez_K0 ?_) (fun ho => ez_Kp (xc_exc hI.1 rfl) rfl (kS ho)))
  refine ez_go (n := 1) (pc' := 11) (L' := [(0, .inr (.inr (some (192)))), (1, .inl (2))]) (st' := [.inr (.inr (some (192)))]) rfl ?_
  refine ez_gI hI.1 t192 rfl rfl tq_44 rfl rfl (fun (b1 : 0 ≤ qz_I h 192 1) (b1' : qz_I h 192 1 ≤ 4096) => ?_)
  refine ez_go (n := 3) (pc' := 17) (L' := [(2, .inl (qz_I h 192 1)), (0, .inr (.inr (some (192)))), (1, .inl (2))]) (st' := [.inl (0), .inr (.inr (some (192)))]) rfl ?_
  refine ez_pf hI.1 t192 rfl rfl tq_44 rfl rfl rfl rfl (ez_vdI rfl rfl (by omega) (by omega)) (fun hB2 w3 => ?_)
  refine ez_go (n := 1) (pc' := 21) (L' := [(2, .inl (qz_I h 192 1)), (0, .inr (.inr (some (192)))), (1, .inl (2))]) (st' := [.inr (.inr (some (192)))]) rfl ?_
  refine ez_gC (p := 720) (tg := 52) hB2 t192 rfl rfl tq_44 rfl rfl (fun (t720 : _ = 52) => ?_)
  refine ez_go (n := 2) (pc' := 26) (L' := [(2, .inl (qz_I h 192 1)), (0, .inr (.inr (some (192)))), (1, .inl (2))]) (st' := [.inl (qz_I h 192 1), .inl (2), .inr (.inr (some (720)))]) rfl ?_
  have hI1 : jz_I τ (dz_put h 192 1 (ez_v (.inl (0)))) F E := jz_put hI hB2 (by decide) (by decide) (by decide) (by rw [t192]; decide)
  have hX1 : jx τ (dz_put h 192 1 (ez_v (.inl (0)))) D := jx_put hI hX (by decide) (by decide) (by rw [t192]; decide)
  have q202 : ∀ j, qz_I (dz_put h 192 1 (ez_v (.inl (0)))) 202 j = qz_I h 202 j := fun j => ez_put_I (by omega)
  have b1 : rz_b (dz_put h 192 1 (ez_v (.inl (0)))) = rz_b h := funext fun i => ez_put_I (by omega)
  have z1 : qz_I (dz_put h 192 1 (ez_v (.inl (0)))) 192 1 = 0 := by rw [w3]; rfl
  have zj : ∀ j, j ≠ 1 → qz_I (dz_put h 192 1 (ez_v (.inl (0)))) 192 j = qz_I h 192 j := fun j hj => ez_put_I (fun w => hj w.2)
  have c1 : ((dz_put h 192 1 (ez_v (.inl (0))))).1 = h.1 := rfl
  have c2 : ((dz_put h 192 1 (ez_v (.inl (0))))).2.1 = h.2.1 := rfl
  have kk := kC ho
  generalize (dz_put h 192 1 (ez_v (.inl (0)))) = h1 at *
  refine ez_cv hI1.1 t720 rfl rfl rfl tq_52 rfl rfl rfl (rd_take29 hI1 hX1 (by omega) (by omega) (by rw [q202]; exact hl) (by omega) (by omega) (fun g τ1 F2 E2 v D2 hI2 x st hv ho2 hans hxs hX2 => ez_K1 ?_))
  rw [b1] at st hans hxs
  have u192 : τ1 192 = 44 := hI2.2.1 192 (by decide)
  have xc2 := x.2
  have q5 := q202 5
  have a192 : ∀ j, qz_I g 192 j = qz_I h1 192 j := fun j => by unfold qz_I; rw [(x.1 192 (by rw [t192]; decide)).2 (by rw [t192]; rfl)]
  refine ez_go (n := 3) (pc' := 32) (L' := [(3, .inl (v)), (2, .inl (qz_I h 192 1)), (0, .inr (.inr (some (192)))), (1, .inl (2))]) (st' := [.inl (-1), .inl (v)]) rfl ?_
  refine ez_icmp rfl rfl ⟨by first | omega | exact (sz_i32 _).1, by first | omega | exact (sz_i32 _).2⟩ ⟨by first | omega | exact (sz_i32 _).1, by first | omega | exact (sz_i32 _).2⟩ (fun (c4 : (v) ≠ (-1)) => ?_) (fun (c4 : ¬((v) ≠ (-1))) => ?_)
  · skip
    refine ez_go (n := 1) (pc' := 44) (L' := [(3, .inl (v)), (2, .inl (qz_I h 192 1)), (0, .inr (.inr (some (192)))), (1, .inl (2))]) (st' := [.inl (v)]) rfl ?_
    exact ez_retI rfl rfl (kk g τ1 F2 E2 D2 hI2 hX2 (x.mono (by omega) (by omega)) st ((a192 1).trans z1) (fun j hj => (a192 j).trans (zj j hj)) (by omega) (fun j j1 j4 j5 => by rw [ho2 j j1 j4 j5, q202]) _ (Or.inl ⟨v, rfl, by omega, hans, hxs⟩))
  · skip
    refine ez_th rfl rfl (by omega) (by omega) (by omega) rfl ?_
    exact kk (xc g 3) τ1 F2 E2 D2 (jz_xc hI2 (by omega) (by omega)) (jx_xc hI2 hX2) ((x.trans (fz_xt (xc_xt hI2.1))).mono (by omega) (by omega)) st ((xc_xt hI2.1).I (by rw [u192]; decide) 1 |>.trans ((a192 1).trans z1)) (fun j hj => ((xc_xt hI2.1).I (by rw [u192]; decide) j).trans ((a192 j).trans (zj j hj))) (Or.inl (by rw [(xc_xt hI2.1).I (by rw [hI2.2.1 202 (by decide)]; decide)]; omega)) (fun j j1 j4 j5 => by rw [(xc_xt hI2.1).I (by rw [hI2.2.1 202 (by decide)]; decide), ho2 j j1 j4 j5, q202]) _ (Or.inr ⟨g.1, rfl, xc_exc hI2.1 rfl, by rw [show v = -1 by omega] at hans; exact hans, by rw [show v = -1 by omega] at hxs; exact hxs⟩)
theorem rd_line39 (hI : jz_I τ h F E) (hX : jx τ h D) (hl : qz_I h 192 1 = 0 ∨ qz_I h 202 5 ≤ 255) (hr1 : h.1 + 5 ≤ 600192) (hr2 : h.2.1 + 65 ≤ 7302232) (kS : qz_I h 202 6 ≠ 0 → Q (.inr h.1, xc h 2)) (kC : qz_I h 202 6 = 0 → ∀ g τ1 F2 E2 D2, jz_I τ1 g F2 E2 → jx τ1 g D2 → fz τ (dz_put h 192 1 (ez_v (.inl 0))) τ1 g 5 65 → rz_step (rz_b h) (qz_I h 192 1) 3 F E F2 E2 → qz_I g 192 1 = 0 → (∀ j, j ≠ 1 → qz_I g 192 j = qz_I h 192 j) → (qz_I g 202 5 = qz_I h 202 5 ∨ (qz_I g 202 5 = qz_I h 202 5 + 1 ∧ 0 < qz_I h 192 1)) → (∀ j, j ≠ 1 → j ≠ 4 → j ≠ 5 → qz_I g 202 j = qz_I h 202 j) → ∀ o, ((∃ v, o = .inl (some (ez_v (.inl v))) ∧ v ≠ -1 ∧ rz_an (rz_b h) (qz_I h 192 1) 2 (rz_g3 (rz_b h)) v ∧ xsl (rz_b h) (qz_I h 192 1) 3 D v D2) ∨ (∃ r, o = .inr r ∧ cz_exc g r = some 3 ∧ rz_an (rz_b h) (qz_I h 192 1) 2 (rz_g3 (rz_b h)) (-1) ∧ xsl (rz_b h) (qz_I h 192 1) 3 D (-1) D2)) → Q (o, g)) : ez_W (d + 9) cm_21 0 [(0, .inr (.inr (some (192)))), (1, .inl (3))] [] h Q := by
  have t192 : τ 192 = 44 := hI.2.1 192 (by decide)
  refine ez_go (n := 3) (pc' := 3) (L' := [(0, .inr (.inr (some (192)))), (1, .inl (3))]) (st' := [.inl (4), .inl (0), .inl (3)]) rfl ?_
  refine ez_cs hI.1.2.1 rfl rfl rfl rfl rfl (rd_reqRange ⟨by decide, by decide⟩ ⟨by decide, by decide⟩ ⟨by decide, by decide⟩ (by omega) (by omega) (fun _ _ => ez_K0 ?_) (fun w => by omega))
  refine ez_go (n := 1) (pc' := 7) (L' := [(0, .inr (.inr (some (192)))), (1, .inl (3))]) (st' := [.inr (.inr (some (192)))]) rfl ?_
  refine ez_cv hI.1 t192 rfl rfl rfl tq_44 rfl rfl rfl (rd_reqOpen hI.1 t192 (by omega) (by omega) (fun ho => ez_K0 ?_) (fun ho => ez_Kp (xc_exc hI.1 rfl) rfl (kS ho)))
  refine ez_go (n := 1) (pc' := 11) (L' := [(0, .inr (.inr (some (192)))), (1, .inl (3))]) (st' := [.inr (.inr (some (192)))]) rfl ?_
  refine ez_gI hI.1 t192 rfl rfl tq_44 rfl rfl (fun (b1 : 0 ≤ qz_I h 192 1) (b1' : qz_I h 192 1 ≤ 4096) => ?_)
  refine ez_go (n := 3) (pc' := 17) (L' := [(2, .inl (qz_I h 192 1)), (0, .inr (.inr (some (192)))), (1, .inl (3))]) (st' := [.inl (0), .inr (.inr (some (192)))]) rfl ?_
  refine ez_pf hI.1 t192 rfl rfl tq_44 rfl rfl rfl rfl (ez_vdI rfl rfl (by omega) (by omega)) (fun hB2 w3 => ?_)
  refine ez_go (n := 1) (pc' := 21) (L' := [(2, .inl (qz_I h 192 1)), (0, .inr (.inr (some (192)))), (1, .inl (3))]) (st' := [.inr (.inr (some (192)))]) rfl ?_
  refine ez_gC (p := 720) (tg := 52) hB2 t192 rfl rfl tq_44 rfl rfl (fun (t720 : _ = 52) => ?_)
  refine ez_go (n := 2) (pc' := 26) (L' := [(2, .inl (qz_I h 192 1)), (0, .inr (.inr (some (192)))), (1, .inl (3))]) (st' := [.inl (qz_I h 192 1), .inl (3), .inr (.inr (some (720)))]) rfl ?_
  have hI1 : jz_I τ (dz_put h 192 1 (ez_v (.inl (0)))) F E := jz_put hI hB2 (by decide) (by decide) (by decide) (by rw [t192]; decide)
  have hX1 : jx τ (dz_put h 192 1 (ez_v (.inl (0)))) D := jx_put hI hX (by decide) (by decide) (by rw [t192]; decide)
  have q202 : ∀ j, qz_I (dz_put h 192 1 (ez_v (.inl (0)))) 202 j = qz_I h 202 j := fun j => ez_put_I (by omega)
  have b1 : rz_b (dz_put h 192 1 (ez_v (.inl (0)))) = rz_b h := funext fun i => ez_put_I (by omega)
  have z1 : qz_I (dz_put h 192 1 (ez_v (.inl (0)))) 192 1 = 0 := by rw [w3]; rfl
  have zj : ∀ j, j ≠ 1 → qz_I (dz_put h 192 1 (ez_v (.inl (0)))) 192 j = qz_I h 192 j := fun j hj => ez_put_I (fun w => hj w.2)
  have c1 : ((dz_put h 192 1 (ez_v (.inl (0))))).1 = h.1 := rfl
  have c2 : ((dz_put h 192 1 (ez_v (.inl (0))))).2.1 = h.2.1 := rfl
  have kk := kC ho
  generalize (dz_put h 192 1 (ez_v (.inl (0)))) = h1 at *
  refine ez_cv hI1.1 t720 rfl rfl rfl tq_52 rfl rfl rfl (rd_take39 hI1 hX1 (by omega) (by omega) (by rw [q202]; exact hl) (by omega) (by omega) (fun g τ1 F2 E2 v D2 hI2 x st hv ho2 hans hxs hX2 => ez_K1 ?_))
  rw [b1] at st hans hxs
  have u192 : τ1 192 = 44 := hI2.2.1 192 (by decide)
  have xc2 := x.2
  have q5 := q202 5
  have a192 : ∀ j, qz_I g 192 j = qz_I h1 192 j := fun j => by unfold qz_I; rw [(x.1 192 (by rw [t192]; decide)).2 (by rw [t192]; rfl)]
  refine ez_go (n := 3) (pc' := 32) (L' := [(3, .inl (v)), (2, .inl (qz_I h 192 1)), (0, .inr (.inr (some (192)))), (1, .inl (3))]) (st' := [.inl (-1), .inl (v)]) rfl ?_
  refine ez_icmp rfl rfl ⟨by first | omega | exact (sz_i32 _).1, by first | omega | exact (sz_i32 _).2⟩ ⟨by first | omega | exact (sz_i32 _).1, by first | omega | exact (sz_i32 _).2⟩ (fun (c4 : (v) ≠ (-1)) => ?_) (fun (c4 : ¬((v) ≠ (-1))) => ?_)
  · skip
    refine ez_go (n := 1) (pc' := 44) (L' := [(3, .inl (v)), (2, .inl (qz_I h 192 1)), (0, .inr (.inr (some (192)))), (1, .inl (3))]) (st' := [.inl (v)]) rfl ?_
    exact ez_retI rfl rfl (kk g τ1 F2 E2 D2 hI2 hX2 (x.mono (by omega) (by omega)) st ((a192 1).trans z1) (fun j hj => (a192 j).trans (zj j hj)) (by omega) (fun j j1 j4 j5 => by rw [ho2 j j1 j4 j5, q202]) _ (Or.inl ⟨v, rfl, by omega, hans, hxs⟩))
  · skip
    refine ez_th rfl rfl (by omega) (by omega) (by omega) rfl ?_
    exact kk (xc g 3) τ1 F2 E2 D2 (jz_xc hI2 (by omega) (by omega)) (jx_xc hI2 hX2) ((x.trans (fz_xt (xc_xt hI2.1))).mono (by omega) (by omega)) st ((xc_xt hI2.1).I (by rw [u192]; decide) 1 |>.trans ((a192 1).trans z1)) (fun j hj => ((xc_xt hI2.1).I (by rw [u192]; decide) j).trans ((a192 j).trans (zj j hj))) (Or.inl (by rw [(xc_xt hI2.1).I (by rw [hI2.2.1 202 (by decide)]; decide)]; omega)) (fun j j1 j4 j5 => by rw [(xc_xt hI2.1).I (by rw [hI2.2.1 202 (by decide)]; decide), ho2 j j1 j4 j5, q202]) _ (Or.inr ⟨g.1, rfl, xc_exc hI2.1 rfl, by rw [show v = -1 by omega] at hans; exact hans, by rw [show v = -1 by omega] at hxs; exact hxs⟩)
theorem rd_line49 (hI : jz_I τ h F E) (hX : jx τ h D) (hl : qz_I h 192 1 = 0 ∨ qz_I h 202 5 ≤ 255) (hr1 : h.1 + 5 ≤ 600192) (hr2 : h.2.1 + 65 ≤ 7302232) (kS : qz_I h 202 6 ≠ 0 → Q (.inr h.1, xc h 2)) (kC : qz_I h 202 6 = 0 → ∀ g τ1 F2 E2 D2, jz_I τ1 g F2 E2 → jx τ1 g D2 → fz τ (dz_put h 192 1 (ez_v (.inl 0))) τ1 g 5 65 → rz_step (rz_b h) (qz_I h 192 1) 4 F E F2 E2 → qz_I g 192 1 = 0 → (∀ j, j ≠ 1 → qz_I g 192 j = qz_I h 192 j) → (qz_I g 202 5 = qz_I h 202 5 ∨ (qz_I g 202 5 = qz_I h 202 5 + 1 ∧ 0 < qz_I h 192 1)) → (∀ j, j ≠ 1 → j ≠ 4 → j ≠ 5 → qz_I g 202 j = qz_I h 202 j) → ∀ o, ((∃ v, o = .inl (some (ez_v (.inl v))) ∧ v ≠ -1 ∧ rz_an (rz_b h) (qz_I h 192 1) 2 (rz_g4 (rz_b h)) v ∧ xsl (rz_b h) (qz_I h 192 1) 4 D v D2) ∨ (∃ r, o = .inr r ∧ cz_exc g r = some 3 ∧ rz_an (rz_b h) (qz_I h 192 1) 2 (rz_g4 (rz_b h)) (-1) ∧ xsl (rz_b h) (qz_I h 192 1) 4 D (-1) D2)) → Q (o, g)) : ez_W (d + 9) cm_21 0 [(0, .inr (.inr (some (192)))), (1, .inl (4))] [] h Q := by
  have t192 : τ 192 = 44 := hI.2.1 192 (by decide)
  refine ez_go (n := 3) (pc' := 3) (L' := [(0, .inr (.inr (some (192)))), (1, .inl (4))]) (st' := [.inl (4), .inl (0), .inl (4)]) rfl ?_
  refine ez_cs hI.1.2.1 rfl rfl rfl rfl rfl (rd_reqRange ⟨by decide, by decide⟩ ⟨by decide, by decide⟩ ⟨by decide, by decide⟩ (by omega) (by omega) (fun _ _ => ez_K0 ?_) (fun w => by omega))
  refine ez_go (n := 1) (pc' := 7) (L' := [(0, .inr (.inr (some (192)))), (1, .inl (4))]) (st' := [.inr (.inr (some (192)))]) rfl ?_
  refine ez_cv hI.1 t192 rfl rfl rfl tq_44 rfl rfl rfl (rd_reqOpen hI.1 t192 (by omega) (by omega) (fun ho => ez_K0 ?_) (fun ho => ez_Kp (xc_exc hI.1 rfl) rfl (kS ho)))
  refine ez_go (n := 1) (pc' := 11) (L' := [(0, .inr (.inr (some (192)))), (1, .inl (4))]) (st' := [.inr (.inr (some (192)))]) rfl ?_
  refine ez_gI hI.1 t192 rfl rfl tq_44 rfl rfl (fun (b1 : 0 ≤ qz_I h 192 1) (b1' : qz_I h 192 1 ≤ 4096) => ?_)
  refine ez_go (n := 3) (pc' := 17) (L' := [(2, .inl (qz_I h 192 1)), (0, .inr (.inr (some (192)))), (1, .inl (4))]) (st' := [.inl (0), .inr (.inr (some (192)))]) rfl ?_
  refine ez_pf hI.1 t192 rfl rfl tq_44 rfl rfl rfl rfl (ez_vdI rfl rfl (by omega) (by omega)) (fun hB2 w3 => ?_)
  refine ez_go (n := 1) (pc' := 21) (L' := [(2, .inl (qz_I h 192 1)), (0, .inr (.inr (some (192)))), (1, .inl (4))]) (st' := [.inr (.inr (some (192)))]) rfl ?_
  refine ez_gC (p := 720) (tg := 52) hB2 t192 rfl rfl tq_44 rfl rfl (fun (t720 : _ = 52) => ?_)
  refine ez_go (n := 2) (pc' := 26) (L' := [(2, .inl (qz_I h 192 1)), (0, .inr (.inr (some (192)))), (1, .inl (4))]) (st' := [.inl (qz_I h 192 1), .inl (4), .inr (.inr (some (720)))]) rfl ?_
  have hI1 : jz_I τ (dz_put h 192 1 (ez_v (.inl (0)))) F E := jz_put hI hB2 (by decide) (by decide) (by decide) (by rw [t192]; decide)
  have hX1 : jx τ (dz_put h 192 1 (ez_v (.inl (0)))) D := jx_put hI hX (by decide) (by decide) (by rw [t192]; decide)
  have q202 : ∀ j, qz_I (dz_put h 192 1 (ez_v (.inl (0)))) 202 j = qz_I h 202 j := fun j => ez_put_I (by omega)
  have b1 : rz_b (dz_put h 192 1 (ez_v (.inl (0)))) = rz_b h := funext fun i => ez_put_I (by omega)
  have z1 : qz_I (dz_put h 192 1 (ez_v (.inl (0)))) 192 1 = 0 := by rw [w3]; rfl
  have zj : ∀ j, j ≠ 1 → qz_I (dz_put h 192 1 (ez_v (.inl (0)))) 192 j = qz_I h 192 j := fun j hj => ez_put_I (fun w => hj w.2)
  have c1 : ((dz_put h 192 1 (ez_v (.inl (0))))).1 = h.1 := rfl
  have c2 : ((dz_put h 192 1 (ez_v (.inl (0))))).2.1 = h.2.1 := rfl
  have kk := kC ho
  generalize (dz_put h 192 1 (ez_v (.inl (0)))) = h1 at *
  refine ez_cv hI1.1 t720 rfl rfl rfl tq_52 rfl rfl rfl (rd_take49 hI1 hX1 (by omega) (by omega) (by rw [q202]; exact hl) (by omega) (by omega) (fun g τ1 F2 E2 v D2 hI2 x st hv ho2 hans hxs hX2 => ez_K1 ?_))
  rw [b1] at st hans hxs
  have u192 : τ1 192 = 44 := hI2.2.1 192 (by decide)
  have xc2 := x.2
  have q5 := q202 5
  have a192 : ∀ j, qz_I g 192 j = qz_I h1 192 j := fun j => by unfold qz_I; rw [(x.1 192 (by rw [t192]; decide)).2 (by rw [t192]; rfl)]
  refine ez_go (n := 3) (pc' := 32) (L' := [(3, .inl (v)), (2, .inl (qz_I h 192 1)), (0, .inr (.inr (some (192)))), (1, .inl (4))]) (st' := [.inl (-1), .inl (v)]) rfl ?_
  refine ez_icmp rfl rfl ⟨by first | omega | exact (sz_i32 _).1, by first | omega | exact (sz_i32 _).2⟩ ⟨by first | omega | exact (sz_i32 _).1, by first | omega | exact (sz_i32 _).2⟩ (fun (c4 : (v) ≠ (-1)) => ?_) (fun (c4 : ¬((v) ≠ (-1))) => ?_)
  · skip
    refine ez_go (n := 1) (pc' := 44) (L' := [(3, .inl (v)), (2, .inl (qz_I h 192 1)), (0, .inr (.inr (some (192)))), (1, .inl (4))]) (st' := [.inl (v)]) rfl ?_
    exact ez_retI rfl rfl (kk g τ1 F2 E2 D2 hI2 hX2 (x.mono (by omega) (by omega)) st ((a192 1).trans z1) (fun j hj => (a192 j).trans (zj j hj)) (by omega) (fun j j1 j4 j5 => by rw [ho2 j j1 j4 j5, q202]) _ (Or.inl ⟨v, rfl, by omega, hans, hxs⟩))
  · skip
    refine ez_th rfl rfl (by omega) (by omega) (by omega) rfl ?_
    exact kk (xc g 3) τ1 F2 E2 D2 (jz_xc hI2 (by omega) (by omega)) (jx_xc hI2 hX2) ((x.trans (fz_xt (xc_xt hI2.1))).mono (by omega) (by omega)) st ((xc_xt hI2.1).I (by rw [u192]; decide) 1 |>.trans ((a192 1).trans z1)) (fun j hj => ((xc_xt hI2.1).I (by rw [u192]; decide) j).trans ((a192 j).trans (zj j hj))) (Or.inl (by rw [(xc_xt hI2.1).I (by rw [hI2.2.1 202 (by decide)]; decide)]; omega)) (fun j j1 j4 j5 => by rw [(xc_xt hI2.1).I (by rw [hI2.2.1 202 (by decide)]; decide), ho2 j j1 j4 j5, q202]) _ (Or.inr ⟨g.1, rfl, xc_exc hI2.1 rfl, by rw [show v = -1 by omega] at hans; exact hans, by rw [show v = -1 by omega] at hxs; exact hxs⟩)
end EzLn
def cFl (h : cz_H) (F : rz_W) : Prop := ∀ x k, 0 ≤ x → x ≤ 1114111 → sz_at h x k → (F x).2 ≠ none → ∀ c, ∃ l, uz_F F c x l ∧ sg h (sz_fp h k) c l ∧ l.length ≤ 40
theorem cFl_of {τ : Nat → Nat} {T : Int → Nat} {F : rz_W} {E : Int → Prop} {Xs : List Int} {g : cz_H} (hx : xy τ T F E Xs g) (hall : ∀ x, (F x).2 ≠ none → qz_I g (T x) 8 = 2) : cFl g F := by
  intro x k x0 x1 hk hn c
  have e1 := (hx.1.2.2.2.1 x k x0 x1 hk).1
  have eT : sz_fp g k = T x := by unfold sz_fp qz_P; omega
  rw [eT]
  obtain ⟨l, l1, l2, l3⟩ := (hx.2.1 x x0 x1 hn (hall x hn)).2 c
  exact ⟨l, l1, l2, l3⟩
section EzSe
variable {d : Nat} {h : cz_H} {τ : Nat → Nat} {Q : cz_F → Prop} {F : rz_W} {E : Int → Prop}
theorem rd_seal9 (hI : jz_I τ h F E) (hw : uz_wf F) (hr1 : h.1 + 1 ≤ 600192) (hr2 : h.2.1 + 6 ≤ 7302232) (kS : qz_I h 202 6 ≠ 0 → Q (.inr h.1, xc h 2)) (k1 : qz_I h 202 6 = 0 → uz_S F E → ∀ g1 g v, pz τ h g1 → jz_I τ g1 F E → sq g1 → cFl g1 F → cP g1 F E → ez_B τ g → ez_fr (ez_one 202) g1 g → (∀ j, j ≠ 6 → qz_I g 202 j = qz_I g1 202 j) → qz_I g 202 6 = 1 → pcn F E v → Q (.inl (some (ez_v (.inl v))), g)) (k0 : qz_I h 202 6 = 0 → ¬ uz_S F E → ∀ g, jz_I τ g F E → pz τ h g → Q (.inr g.1, xc g 4)) : ez_W (d + 8) cm_37 0 [(0, .inr (.inr (some (192))))] [] h Q := by
  have t192 : τ 192 = 44 := hI.2.1 192 (by decide)
  have t202 : τ 202 = 48 := hI.2.1 202 (by decide)
  refine ez_go (n := 1) (pc' := 1) (L' := [(0, .inr (.inr (some (192))))]) (st' := [.inr (.inr (some (192)))]) rfl ?_
  refine ez_cv hI.1 t192 rfl rfl rfl tq_44 rfl rfl rfl (rd_reqOpen hI.1 t192 (by omega) (by omega) (fun ho => ez_K0 ?_) (fun ho => ez_Kp (xc_exc hI.1 rfl) rfl (kS ho)))
  refine ez_go (n := 1) (pc' := 5) (L' := [(0, .inr (.inr (some (192))))]) (st' := [.inr (.inr (some (192)))]) rfl ?_
  refine ez_gC (p := 723) (tg := 55) hI.1 t192 rfl rfl tq_44 rfl rfl (fun (t723 : _ = 55) => ?_)
  obtain ⟨T, hC⟩ := pz_C_of hI
  obtain ⟨Xs0, hX1, hX2⟩ := hI.2.2.2.2.2.2.2
  have b5 : 0 ≤ qz_I h 202 5 ∧ qz_I h 202 5 ≤ 256 := ez_fB (cl := 2) hI.1 t202 tq_48 rfl rfl (by decide)
  obtain ⟨Xs, hXe⟩ : ∃ Xs, Xs = Xs0.filter (fun x => decide (0 ≤ x ∧ x ≤ 1114111)) := ⟨_, rfl⟩
  have hXl : Xs.length ≤ 256 := by have := List.length_filter_le (fun x => decide (0 ≤ x ∧ x ≤ 1114111)) Xs0; rw [hXe]; omega
  have hXr : ∀ x ∈ Xs, 0 ≤ x ∧ x ≤ 1114111 := fun x hx => by rw [hXe, List.mem_filter] at hx; exact of_decide_eq_true hx.2
  have hXs : ∀ x, (F x).2 ≠ none → x ∈ Xs := fun x hx => by
    obtain ⟨q, hq⟩ : ∃ q, (F x).2 = some q := by cases hq : (F x).2 with | none => exact absurd hq hx | some q => exact ⟨q, rfl⟩
    rw [hXe, List.mem_filter]; exact ⟨hX2 x hx, decide_eq_true ((hw x).2 q.1 q.2 hq).2.2.2⟩
  refine ez_cv hI.1 t723 rfl rfl rfl tq_55 rfl rfl rfl (rd_prepare9 hw hXr hXs hXl hC (fun hSS g hx hp hall hpc hcp => ez_K1 ?_) (fun hSS g hB hp => ez_K1 ?_))
  · skip
    have hB := hx.1.1
    have hI2 := jz_pz hI hB hp
    have cc := hp.1
    refine ez_if rfl rfl ⟨by decide, by decide⟩ (fun _ => ?_) (fun (c1 : ¬((1 : Int) ≠ (0))) => absurd c1 (by decide))
    refine ez_go (n := 1) (pc' := 23) (L' := [(0, .inr (.inr (some (192))))]) (st' := [.inr (.inr (some (192)))]) rfl ?_
    refine ez_gC (p := 202) (tg := 48) hI2.1 t192 rfl rfl tq_44 rfl rfl (fun (t202 : _ = 48) => ?_)
    refine ez_go (n := 1) (pc' := 27) (L' := [(0, .inr (.inr (some (192))))]) (st' := [.inl (1), .inr (.inr (some (202)))]) rfl ?_
    refine ez_pf hI2.1 t202 rfl rfl tq_48 rfl rfl rfl rfl (ez_vdI rfl rfl (by omega) (by omega)) (fun hB2 w3 => ?_)
    refine ez_go (n := 1) (pc' := 31) (L' := [(0, .inr (.inr (some (192))))]) (st' := [.inr (.inr (some (192)))]) rfl ?_
    refine ez_gC (p := 723) (tg := 55) hB2 t192 rfl rfl tq_44 rfl rfl (fun (t723 : _ = 55) => ?_)
    refine ez_gI hB2 t723 rfl rfl tq_55 rfl rfl (fun (b4 : 0 ≤ qz_I (dz_put g 202 6 (ez_v (.inl (1)))) 723 8) (b4' : qz_I (dz_put g 202 6 (ez_v (.inl (1)))) 723 8 ≤ 256) => ?_)
    have sq1 := sq_of hw hx hall
    have e6 : qz_I (dz_put g 202 6 (ez_v (.inl (1)))) 202 6 = 1 := by rw [w3]; rfl
    have ej : ∀ j, j ≠ 6 → qz_I (dz_put g 202 6 (ez_v (.inl (1)))) 202 j = qz_I g 202 j := fun j hj => ez_put_I (fun w => hj w.2)
    exact ez_retI rfl rfl (k1 ho hSS g _ _ hp hI2 sq1 (cFl_of hx hall) hcp hB2 ((ez_fr.refl (ez_one 202) g).put (show Nat.beq 202 202 = true from rfl) _ _) ej e6 (by rw [show qz_I (dz_put g 202 6 (ez_v (.inl (1)))) 723 8 = qz_I g 723 8 from ez_put_I (fun w => absurd w.1 (by decide))]; exact hpc))
  · skip
    have hI2 := jz_pz hI hB hp
    have cc := hp.1
    refine ez_if rfl rfl ⟨by decide, by decide⟩ (fun (c5 : (0 : Int) ≠ (0)) => absurd c5 (by decide)) (fun _ => ?_)
    refine ez_th rfl rfl (by omega) (by omega) (by omega) rfl ?_
    exact k0 ho hSS g hI2 hp
end EzSe
section EzPa
variable {d : Nat} {h : cz_H} {τ : Nat → Nat} {Q : cz_F → Prop} {l : Nat}
theorem rd_points_a9 (hB : ez_B τ h) (t770 : τ 770 = 75) (tl : τ l = 13) (hl : lz l) (hr1 : h.1 + 1 ≤ 600192) (hr2 : h.2.1 + 6 ≤ 7302232) (hF : ∀ k, 0 ≤ k → k < 7 → (0 ≤ mf h k ∧ mf h k ≤ mt h k) ∧ mt h k ≤ 4096) (kx : ∀ g, ez_B τ g → mw h g l → qz_I g l 1 = rz_first (mb h) (mf h 0) (mt h 0) → qz_I g l 2 = rz_last (mb h) (mf h 0) (mt h 0) → rz_first (mb h) (mf h 0) (mt h 0) ≠ -1 → rz_first (mb h) (mf h 0) (mt h 0) ≤ rz_last (mb h) (mf h 0) (mt h 0) → rz_cat (mb h) (mf h 1) (mt h 1) → qz_I g l 3 = mb h (mf h 1) * 256 + mb h (mf h 1 + 1) → (∀ j, j ≠ 1 → j ≠ 2 → j ≠ 3 → qz_I g l j = qz_I h l j) → ez_W (d + 9) cm_291 93 [(0, .inr (.inr (some (770)))), (1, .inr (.inr (some (l))))] [] g Q) (k0 : ¬ ((rz_first (mb h) (mf h 0) (mt h 0) ≠ -1 ∧ rz_first (mb h) (mf h 0) (mt h 0) ≤ rz_last (mb h) (mf h 0) (mt h 0)) ∧ rz_cat (mb h) (mf h 1) (mt h 1)) → ∀ g, ez_B τ g → mw h g l → Q (.inr g.1, xc g 1)) : ez_W (d + 9) cm_291 0 [(0, .inr (.inr (some (770)))), (1, .inr (.inr (some (l))))] [] h Q := by
  refine ez_go (n := 2) (pc' := 2) (L' := [(0, .inr (.inr (some (770)))), (1, .inr (.inr (some (l))))]) (st' := [.inl (0), .inr (.inr (some (770)))]) rfl ?_
  have F0 := hF 0 (by omega) (by omega)
  have F1 := hF 1 (by omega) (by omega)
  refine ez_cv hB t770 rfl rfl rfl tq_75 rfl rfl rfl (rd_field hB t770 (by omega) (by omega) (fun g1 hB1 m1 a1 s1 => ez_K0 ?_))
  have u1a : (g1).1 = h.1 := m1.1.1
  have u1b : (g1).2.1 = h.2.1 := m1.1.2.1
  refine ez_go (n := 2) (pc' := 7) (L' := [(0, .inr (.inr (some (770)))), (1, .inr (.inr (some (l))))]) (st' := [.inr (.inr (some (l))), .inr (.inr (some (770)))]) rfl ?_
  refine ez_cv hB1 t770 rfl rfl rfl tq_75 rfl rfl rfl (rd_codes hB1 t770 tl (by omega) (by omega) (by omega) (by omega) (fun g2 hB2 m2 a2 e1 e2 v1 v2 J2 => ez_K0 ?_) (fun hno g2 hB2 m2 J2 => ez_Kp (xc_exc hB2 rfl) rfl (k0 (fun w => ?_) g2 hB2 (m1.mw.trans m2.mw))))
  · rw [a1, s1, m1.b] at e1 e2 v1 v2
    have M2 : mw h g2 l := m1.mw.trans m2.mw
    have u2a : (g2).1 = h.1 := M2.1.1
    have u2b : (g2).2.1 = h.2.1 := M2.1.2.1
    refine ez_go (n := 2) (pc' := 12) (L' := [(0, .inr (.inr (some (770)))), (1, .inr (.inr (some (l))))]) (st' := [.inl (1), .inr (.inr (some (770)))]) rfl ?_
    refine ez_cv hB2 t770 rfl rfl rfl tq_75 rfl rfl rfl (rd_field hB2 t770 (by omega) (by omega) (fun g3 hB3 m3 a3 s3 => ez_K0 ?_))
    rw [M2.f hl.2.2.1] at a3
    rw [M2.t hl.2.2.2] at s3
    have M3 : mw h g3 l := M2.trans m3.mw
    have u3a : (g3).1 = h.1 := M3.1.1
    have u3b : (g3).2.1 = h.2.1 := M3.1.2.1
    have J3 : ∀ j, qz_I g3 l j = qz_I g2 l j := fun j => m3.l hl.1 j
    refine ez_go (n := 1) (pc' := 16) (L' := [(0, .inr (.inr (some (770)))), (1, .inr (.inr (some (l))))]) (st' := [.inr (.inr (some (770)))]) rfl ?_
    refine ez_cv hB3 t770 rfl rfl rfl tq_75 rfl rfl rfl (rd_peek hB3 t770 (fun p1 p1' => ez_K1 ?_))
    rw [a3, s3, M3.b hl.2.1] at p1 p1' ⊢
    refine ez_go (n := 3) (pc' := 22) (L' := [(2, .inl ((mk (mb h) (mf h 1) (mt h 1)))), (0, .inr (.inr (some (770)))), (1, .inr (.inr (some (l))))]) (st' := [.inr (.inr (some (770))), .inr (.inr (some (770)))]) rfl ?_
    refine ez_gI hB3 t770 rfl rfl tq_75 rfl rfl (fun (b1 : 0 ≤ qz_I g3 770 17) (b1' : qz_I g3 770 17 ≤ 4200) => ?_)
    refine ez_go (n := 2) (pc' := 27) (L' := [(2, .inl ((mk (mb h) (mf h 1) (mt h 1)))), (0, .inr (.inr (some (770)))), (1, .inr (.inr (some (l))))]) (st' := [.inl ((qz_I g3 770 17) + (1)), .inr (.inr (some (770)))]) rfl ?_
    refine ez_pf hB3 t770 rfl rfl tq_75 rfl rfl rfl rfl (ez_vdI rfl rfl (by omega) (by omega)) (fun hB2 w3 => ?_)
    have a4 : qz_I (dz_put g3 770 17 (ez_v (.inl ((qz_I g3 770 17) + (1))))) 770 17 = mf h 1 + 1 := by rw [w3, rz_rd ⟨by omega, by omega⟩, a3]
    have M4 : mw h (dz_put g3 770 17 (ez_v (.inl ((qz_I g3 770 17) + (1))))) l := M3.trans mz_put.mw
    have s4 : qz_I (dz_put g3 770 17 (ez_v (.inl ((qz_I g3 770 17) + (1))))) 770 18 = qz_I g3 770 18 := ez_put_I (by omega)
    rw [s3] at s4
    have J4 : ∀ j, qz_I (dz_put g3 770 17 (ez_v (.inl ((qz_I g3 770 17) + (1))))) l j = qz_I g3 l j := fun j => mz_put.l hl.1 j
    have u4a : ((dz_put g3 770 17 (ez_v (.inl ((qz_I g3 770 17) + (1)))))).1 = h.1 := M4.1.1
    have u4b : ((dz_put g3 770 17 (ez_v (.inl ((qz_I g3 770 17) + (1)))))).2.1 = h.2.1 := M4.1.2.1
    have hB4 := hB2
    generalize (dz_put g3 770 17 (ez_v (.inl ((qz_I g3 770 17) + (1))))) = g4 at *
    refine ez_go (n := 1) (pc' := 31) (L' := [(2, .inl ((mk (mb h) (mf h 1) (mt h 1)))), (0, .inr (.inr (some (770)))), (1, .inr (.inr (some (l))))]) (st' := [.inr (.inr (some (770)))]) rfl ?_
    refine ez_cv hB4 t770 rfl rfl rfl tq_75 rfl rfl rfl (rd_peek hB4 t770 (fun p2 p2' => ez_K1 ?_))
    rw [a4, s4, M4.b hl.2.1] at p2 p2' ⊢
    refine ez_go (n := 3) (pc' := 37) (L' := [(3, .inl ((mk (mb h) (mf h 1 + 1) (mt h 1)))), (2, .inl ((mk (mb h) (mf h 1) (mt h 1)))), (0, .inr (.inr (some (770)))), (1, .inr (.inr (some (l))))]) (st' := [.inr (.inr (some (770))), .inr (.inr (some (770)))]) rfl ?_
    refine ez_gI hB4 t770 rfl rfl tq_75 rfl rfl (fun (b4 : 0 ≤ qz_I g4 770 17) (b4' : qz_I g4 770 17 ≤ 4200) => ?_)
    refine ez_go (n := 2) (pc' := 42) (L' := [(3, .inl ((mk (mb h) (mf h 1 + 1) (mt h 1)))), (2, .inl ((mk (mb h) (mf h 1) (mt h 1)))), (0, .inr (.inr (some (770)))), (1, .inr (.inr (some (l))))]) (st' := [.inl ((qz_I g4 770 17) + (1)), .inr (.inr (some (770)))]) rfl ?_
    refine ez_pf hB4 t770 rfl rfl tq_75 rfl rfl rfl rfl (ez_vdI rfl rfl (by omega) (by omega)) (fun hB5 w6 => ?_)
    have a5 : qz_I (dz_put g4 770 17 (ez_v (.inl ((qz_I g4 770 17) + (1))))) 770 17 = mf h 1 + 1 + 1 := by rw [w6, rz_rd ⟨by omega, by omega⟩, a4]
    have M5 : mw h (dz_put g4 770 17 (ez_v (.inl ((qz_I g4 770 17) + (1))))) l := M4.trans mz_put.mw
    have s5 : qz_I (dz_put g4 770 17 (ez_v (.inl ((qz_I g4 770 17) + (1))))) 770 18 = qz_I g4 770 18 := ez_put_I (by omega)
    rw [s4] at s5
    have J5 : ∀ j, qz_I (dz_put g4 770 17 (ez_v (.inl ((qz_I g4 770 17) + (1))))) l j = qz_I g4 l j := fun j => mz_put.l hl.1 j
    have u5a : ((dz_put g4 770 17 (ez_v (.inl ((qz_I g4 770 17) + (1)))))).1 = h.1 := M5.1.1
    have u5b : ((dz_put g4 770 17 (ez_v (.inl ((qz_I g4 770 17) + (1)))))).2.1 = h.2.1 := M5.1.2.1
    have hB5 := hB5
    generalize (dz_put g4 770 17 (ez_v (.inl ((qz_I g4 770 17) + (1))))) = g5 at *
    refine ez_go (n := 3) (pc' := 49) (L' := [(3, .inl ((mk (mb h) (mf h 1 + 1) (mt h 1)))), (2, .inl ((mk (mb h) (mf h 1) (mt h 1)))), (0, .inr (.inr (some (770)))), (1, .inr (.inr (some (l))))]) (st' := [.inl (65), .inl ((mk (mb h) (mf h 1) (mt h 1))), .inr (.inr (some (770)))]) rfl ?_
    refine ez_icmp rfl rfl ⟨by first | omega | exact (sz_i32 _).1, by first | omega | exact (sz_i32 _).2⟩ ⟨by first | omega | exact (sz_i32 _).1, by first | omega | exact (sz_i32 _).2⟩ (fun (c7 : ((mk (mb h) (mf h 1) (mt h 1))) < (65)) => ?_) (fun (c7 : ¬(((mk (mb h) (mf h 1) (mt h 1))) < (65))) => ?_)
    · skip
      refine ez_go (n := 1) (pc' := 75) (L' := [(3, .inl ((mk (mb h) (mf h 1 + 1) (mt h 1)))), (2, .inl ((mk (mb h) (mf h 1) (mt h 1)))), (0, .inr (.inr (some (770)))), (1, .inr (.inr (some (l))))]) (st' := [.inl (0), .inr (.inr (some (770)))]) rfl ?_
      refine ez_cv hB5 t770 rfl rfl rfl tq_75 rfl rfl rfl (rd_can0 (by omega) (by omega) (ez_Kp (xc_exc hB5 rfl) rfl (k0 (fun w => ?_) g5 hB5 M5)))
      obtain ⟨-, q1, q2, q3⟩ := w
      have x1 := mk_in (b := mb h) (show mf h 1 < mt h 1 by omega); have x2 := mk_in (b := mb h) (show mf h 1 + 1 < mt h 1 by omega); omega
    · skip
      refine ez_go (n := 2) (pc' := 55) (L' := [(3, .inl ((mk (mb h) (mf h 1 + 1) (mt h 1)))), (2, .inl ((mk (mb h) (mf h 1) (mt h 1)))), (0, .inr (.inr (some (770)))), (1, .inr (.inr (some (l))))]) (st' := [.inl (90), .inl ((mk (mb h) (mf h 1) (mt h 1))), .inr (.inr (some (770)))]) rfl ?_
      refine ez_icmp rfl rfl ⟨by first | omega | exact (sz_i32 _).1, by first | omega | exact (sz_i32 _).2⟩ ⟨by first | omega | exact (sz_i32 _).1, by first | omega | exact (sz_i32 _).2⟩ (fun (c8 : (90) < ((mk (mb h) (mf h 1) (mt h 1)))) => ?_) (fun (c8 : ¬((90) < ((mk (mb h) (mf h 1) (mt h 1))))) => ?_)
      · skip
        refine ez_go (n := 1) (pc' := 75) (L' := [(3, .inl ((mk (mb h) (mf h 1 + 1) (mt h 1)))), (2, .inl ((mk (mb h) (mf h 1) (mt h 1)))), (0, .inr (.inr (some (770)))), (1, .inr (.inr (some (l))))]) (st' := [.inl (0), .inr (.inr (some (770)))]) rfl ?_
        refine ez_cv hB5 t770 rfl rfl rfl tq_75 rfl rfl rfl (rd_can0 (by omega) (by omega) (ez_Kp (xc_exc hB5 rfl) rfl (k0 (fun w => ?_) g5 hB5 M5)))
        obtain ⟨-, q1, q2, q3⟩ := w
        have x1 := mk_in (b := mb h) (show mf h 1 < mt h 1 by omega); have x2 := mk_in (b := mb h) (show mf h 1 + 1 < mt h 1 by omega); omega
      · skip
        refine ez_go (n := 2) (pc' := 61) (L' := [(3, .inl ((mk (mb h) (mf h 1 + 1) (mt h 1)))), (2, .inl ((mk (mb h) (mf h 1) (mt h 1)))), (0, .inr (.inr (some (770)))), (1, .inr (.inr (some (l))))]) (st' := [.inl (97), .inl ((mk (mb h) (mf h 1 + 1) (mt h 1))), .inr (.inr (some (770)))]) rfl ?_
        refine ez_icmp rfl rfl ⟨by first | omega | exact (sz_i32 _).1, by first | omega | exact (sz_i32 _).2⟩ ⟨by first | omega | exact (sz_i32 _).1, by first | omega | exact (sz_i32 _).2⟩ (fun (c9 : ((mk (mb h) (mf h 1 + 1) (mt h 1))) < (97)) => ?_) (fun (c9 : ¬(((mk (mb h) (mf h 1 + 1) (mt h 1))) < (97))) => ?_)
        · skip
          refine ez_go (n := 1) (pc' := 75) (L' := [(3, .inl ((mk (mb h) (mf h 1 + 1) (mt h 1)))), (2, .inl ((mk (mb h) (mf h 1) (mt h 1)))), (0, .inr (.inr (some (770)))), (1, .inr (.inr (some (l))))]) (st' := [.inl (0), .inr (.inr (some (770)))]) rfl ?_
          refine ez_cv hB5 t770 rfl rfl rfl tq_75 rfl rfl rfl (rd_can0 (by omega) (by omega) (ez_Kp (xc_exc hB5 rfl) rfl (k0 (fun w => ?_) g5 hB5 M5)))
          obtain ⟨-, q1, q2, q3⟩ := w
          have x1 := mk_in (b := mb h) (show mf h 1 < mt h 1 by omega); have x2 := mk_in (b := mb h) (show mf h 1 + 1 < mt h 1 by omega); omega
        · skip
          refine ez_go (n := 2) (pc' := 67) (L' := [(3, .inl ((mk (mb h) (mf h 1 + 1) (mt h 1)))), (2, .inl ((mk (mb h) (mf h 1) (mt h 1)))), (0, .inr (.inr (some (770)))), (1, .inr (.inr (some (l))))]) (st' := [.inl (122), .inl ((mk (mb h) (mf h 1 + 1) (mt h 1))), .inr (.inr (some (770)))]) rfl ?_
          refine ez_icmp rfl rfl ⟨by first | omega | exact (sz_i32 _).1, by first | omega | exact (sz_i32 _).2⟩ ⟨by first | omega | exact (sz_i32 _).1, by first | omega | exact (sz_i32 _).2⟩ (fun (c10 : (122) < ((mk (mb h) (mf h 1 + 1) (mt h 1)))) => ?_) (fun (c10 : ¬((122) < ((mk (mb h) (mf h 1 + 1) (mt h 1))))) => ?_)
          · skip
            refine ez_go (n := 1) (pc' := 75) (L' := [(3, .inl ((mk (mb h) (mf h 1 + 1) (mt h 1)))), (2, .inl ((mk (mb h) (mf h 1) (mt h 1)))), (0, .inr (.inr (some (770)))), (1, .inr (.inr (some (l))))]) (st' := [.inl (0), .inr (.inr (some (770)))]) rfl ?_
            refine ez_cv hB5 t770 rfl rfl rfl tq_75 rfl rfl rfl (rd_can0 (by omega) (by omega) (ez_Kp (xc_exc hB5 rfl) rfl (k0 (fun w => ?_) g5 hB5 M5)))
            obtain ⟨-, q1, q2, q3⟩ := w
            have x1 := mk_in (b := mb h) (show mf h 1 < mt h 1 by omega); have x2 := mk_in (b := mb h) (show mf h 1 + 1 < mt h 1 by omega); omega
          · skip
            refine ez_go (n := 2) (pc' := 75) (L' := [(3, .inl ((mk (mb h) (mf h 1 + 1) (mt h 1)))), (2, .inl ((mk (mb h) (mf h 1) (mt h 1)))), (0, .inr (.inr (some (770)))), (1, .inr (.inr (some (l))))]) (st' := [.inl (1), .inr (.inr (some (770)))]) rfl ?_
            refine ez_cv hB5 t770 rfl rfl rfl tq_75 rfl rfl rfl (rd_can1 (by omega) (by omega) (ez_K0 ?_))
            refine ez_go (n := 1) (pc' := 79) (L' := [(3, .inl ((mk (mb h) (mf h 1 + 1) (mt h 1)))), (2, .inl ((mk (mb h) (mf h 1) (mt h 1)))), (0, .inr (.inr (some (770)))), (1, .inr (.inr (some (l))))]) (st' := [.inr (.inr (some (770)))]) rfl ?_
            refine ez_cv hB5 t770 rfl rfl rfl tq_75 rfl rfl rfl (rd_mend hB5 t770 (by omega) (by omega) (fun e9 => ez_K0 ?_) (fun e9 => ez_Kp (xc_exc hB5 rfl) rfl (k0 (fun w => e9 (by have q1 := w.2.1; omega)) g5 hB5 M5)))
            refine ez_go (n := 6) (pc' := 90) (L' := [(3, .inl ((mk (mb h) (mf h 1 + 1) (mt h 1)))), (2, .inl ((mk (mb h) (mf h 1) (mt h 1)))), (0, .inr (.inr (some (770)))), (1, .inr (.inr (some (l))))]) (st' := [.inl (((256) * ((mk (mb h) (mf h 1) (mt h 1)))) + ((mk (mb h) (mf h 1 + 1) (mt h 1)))), .inr (.inr (some (l)))]) rfl ?_
            refine ez_pf hB5 tl rfl rfl tq_13 rfl rfl rfl rfl (ez_vdI rfl rfl (by omega) (by omega)) (fun hB11 w12 => ?_)
            refine ez_less [(0, .inr (.inr (some (770)))), (1, .inr (.inr (some (l))))] rfl ⟨rfl, rfl, trivial⟩ ?_
            have hca : rz_cat (mb h) (mf h 1) (mt h 1) := ⟨by omega, by rw [← mk_in (b := mb h) (show mf h 1 < mt h 1 by omega)]; omega, by rw [← mk_in (b := mb h) (show mf h 1 + 1 < mt h 1 by omega)]; omega⟩
            refine kx _ hB11 (M5.trans (mw_put hl.1)) (by rw [ez_put_I (by omega), J5, J4, J3]; exact e1) (by rw [ez_put_I (by omega), J5, J4, J3]; exact e2) v1 v2 hca (by rw [w12, rz_rd ⟨by omega, by omega⟩, mk_in (b := mb h) (show mf h 1 < mt h 1 by omega), mk_in (b := mb h) (show mf h 1 + 1 < mt h 1 by omega)]; omega) (fun j j1 j2 j3 => by rw [ez_put_I (fun w => j3 w.2), J5, J4, J3, J2 j j1 j2]; exact m1.l hl.1 j)
  · rw [a1, s1, m1.b] at hno; exact hno w.1
end EzPa
theorem rz_code_e0 {b : Int → Int} {s t : Int} (e : s = t) : rz_code b s t = -1 := by
  unfold rz_code
  rw [if_pos (Or.inl (by omega))]
section EzPd
variable {d : Nat} {h : cz_H} {τ : Nat → Nat} {Q : cz_F → Prop} {l : Nat}
theorem rd_points_d9 (hB : ez_B τ h) (t770 : τ 770 = 75) (tl : τ l = 13) (hl : lz l) (hr1 : h.1 + 1 ≤ 600192) (hr2 : h.2.1 + 6 ≤ 7302232) (hF : ∀ k, 0 ≤ k → k < 7 → (0 ≤ mf h k ∧ mf h k ≤ mt h k) ∧ mt h k ≤ 4096) (hfl : qz_I h l 1 ≤ qz_I h l 2) (h5 : qz_I h l 5 = 0 ↔ mf h 3 = mt h 3) (kx : ∀ g, ez_B τ g → mw h g l → (∀ j, j ≠ 9 → j ≠ 10 → j ≠ 11 → qz_I g l j = qz_I h l j) → ((∀ k, 4 ≤ k → k ≤ 6 → mf h k = mt h k ∨ rz_code (mb h) (mf h k) (mt h k) ≠ -1) ∧ (qz_I h l 1 < qz_I h l 2 → ∀ k, 3 ≤ k → k ≤ 6 → mf h k = mt h k)) → (qz_I g l 9 = rz_code (mb h) (mf h 4) (mt h 4) ∧ qz_I g l 10 = rz_code (mb h) (mf h 5) (mt h 5) ∧ qz_I g l 11 = rz_code (mb h) (mf h 6) (mt h 6)) → Q (.inl none, g)) (k0 : ¬ ((∀ k, 4 ≤ k → k ≤ 6 → mf h k = mt h k ∨ rz_code (mb h) (mf h k) (mt h k) ≠ -1) ∧ (qz_I h l 1 < qz_I h l 2 → ∀ k, 3 ≤ k → k ≤ 6 → mf h k = mt h k)) → ∀ g, ez_B τ g → mw h g l → Q (.inr g.1, xc g 1)) : ez_W (d + 9) cm_291 334 [(0, .inr (.inr (some (770)))), (1, .inr (.inr (some (l))))] [] h Q := by
  refine ez_go (n := 3) (pc' := 337) (L' := [(0, .inr (.inr (some (770)))), (1, .inr (.inr (some (l))))]) (st' := [.inl (4), .inr (.inr (some (770))), .inr (.inr (some (l)))]) rfl ?_
  have F4 := hF 4 (by omega) (by omega)
  have F5 := hF 5 (by omega) (by omega)
  have F6 := hF 6 (by omega) (by omega)
  have N0 := mw.refl h l
  refine ez_cv hB t770 rfl rfl rfl tq_75 rfl rfl rfl (rd_optional hB t770 (by omega) (by omega) (by omega) (by omega) (by rw [N0.f hl.2.2.1, N0.t hl.2.2.2]; omega) (by rw [N0.t hl.2.2.2]; omega) (by rw [N0.f hl.2.2.1]; omega) (fun v1 o1 g1 hB1 m1 => ez_K1 ?_) (fun w1 w2 g1 hB1 m1 => ez_Kp (xc_exc hB1 rfl) rfl (k0 (fun w => ?_) g1 hB1 (N0.trans m1.mw))))
  · rw [N0.f hl.2.2.1, N0.t hl.2.2.2, N0.b hl.2.1] at o1
    have vb1 := rz_code_bd (mb h) (mf h 4) (mt h 4)
    have Mq1 : mw h g1 l := N0.trans m1.mw
    have uq1a : (g1).1 = h.1 := Mq1.1.1
    have uq1b : (g1).2.1 = h.2.1 := Mq1.1.2.1
    refine ez_pf hB1 tl rfl rfl tq_13 rfl rfl rfl rfl (ez_vdI rfl rfl (by omega) (by omega)) (fun hB1 w2 => ?_)
    have N1 : mw h (dz_put g1 l 9 (ez_v (.inl (v1)))) l := Mq1.trans (mw_put hl.1)
    have j1 : ∀ j, j ≠ 9 → qz_I (dz_put g1 l 9 (ez_v (.inl (v1)))) l j = qz_I h l j := fun j hj => by rw [ez_put_I (fun w => hj w.2)]; exact m1.l hl.1 j
    have x1 : qz_I (dz_put g1 l 9 (ez_v (.inl (v1)))) l 9 = v1 := by rw [w2, rz_rd ⟨by omega, by omega⟩]
    have un1a : ((dz_put g1 l 9 (ez_v (.inl (v1))))).1 = h.1 := N1.1.1
    have un1b : ((dz_put g1 l 9 (ez_v (.inl (v1))))).2.1 = h.2.1 := N1.1.2.1
    have hG1 := hB1
    generalize (dz_put g1 l 9 (ez_v (.inl (v1)))) = G1 at *
    refine ez_go (n := 3) (pc' := 346) (L' := [(0, .inr (.inr (some (770)))), (1, .inr (.inr (some (l))))]) (st' := [.inl (5), .inr (.inr (some (770))), .inr (.inr (some (l)))]) rfl ?_
    refine ez_cv hG1 t770 rfl rfl rfl tq_75 rfl rfl rfl (rd_optional hG1 t770 (by omega) (by omega) (by omega) (by omega) (by rw [N1.f hl.2.2.1, N1.t hl.2.2.2]; omega) (by rw [N1.t hl.2.2.2]; omega) (by rw [N1.f hl.2.2.1]; omega) (fun v2 o2 g2 hB2 m2 => ez_K1 ?_) (fun w1 w2 g2 hB2 m2 => ez_Kp (xc_exc hB2 rfl) rfl (k0 (fun w => ?_) g2 hB2 (N1.trans m2.mw))))
    · rw [N1.f hl.2.2.1, N1.t hl.2.2.2, N1.b hl.2.1] at o2
      have vb2 := rz_code_bd (mb h) (mf h 5) (mt h 5)
      have Mq2 : mw h g2 l := N1.trans m2.mw
      have uq2a : (g2).1 = h.1 := Mq2.1.1
      have uq2b : (g2).2.1 = h.2.1 := Mq2.1.2.1
      refine ez_pf hB2 tl rfl rfl tq_13 rfl rfl rfl rfl (ez_vdI rfl rfl (by omega) (by omega)) (fun hB3 w4 => ?_)
      have N2 : mw h (dz_put g2 l 10 (ez_v (.inl (v2)))) l := Mq2.trans (mw_put hl.1)
      have j2 : ∀ j, j ≠ 10 → qz_I (dz_put g2 l 10 (ez_v (.inl (v2)))) l j = qz_I G1 l j := fun j hj => by rw [ez_put_I (fun w => hj w.2)]; exact m2.l hl.1 j
      have x2 : qz_I (dz_put g2 l 10 (ez_v (.inl (v2)))) l 10 = v2 := by rw [w4, rz_rd ⟨by omega, by omega⟩]
      have un2a : ((dz_put g2 l 10 (ez_v (.inl (v2))))).1 = h.1 := N2.1.1
      have un2b : ((dz_put g2 l 10 (ez_v (.inl (v2))))).2.1 = h.2.1 := N2.1.2.1
      have hG2 := hB3
      generalize (dz_put g2 l 10 (ez_v (.inl (v2)))) = G2 at *
      refine ez_go (n := 3) (pc' := 356) (L' := [(0, .inr (.inr (some (770)))), (1, .inr (.inr (some (l))))]) (st' := [.inl (6), .inr (.inr (some (770))), .inr (.inr (some (l)))]) rfl ?_
      refine ez_cv hG2 t770 rfl rfl rfl tq_75 rfl rfl rfl (rd_optional hG2 t770 (by omega) (by omega) (by omega) (by omega) (by rw [N2.f hl.2.2.1, N2.t hl.2.2.2]; omega) (by rw [N2.t hl.2.2.2]; omega) (by rw [N2.f hl.2.2.1]; omega) (fun v3 o3 g3 hB3 m3 => ez_K1 ?_) (fun w1 w2 g3 hB3 m3 => ez_Kp (xc_exc hB3 rfl) rfl (k0 (fun w => ?_) g3 hB3 (N2.trans m3.mw))))
      · rw [N2.f hl.2.2.1, N2.t hl.2.2.2, N2.b hl.2.1] at o3
        have vb3 := rz_code_bd (mb h) (mf h 6) (mt h 6)
        have Mq3 : mw h g3 l := N2.trans m3.mw
        have uq3a : (g3).1 = h.1 := Mq3.1.1
        have uq3b : (g3).2.1 = h.2.1 := Mq3.1.2.1
        refine ez_pf hB3 tl rfl rfl tq_13 rfl rfl rfl rfl (ez_vdI rfl rfl (by omega) (by omega)) (fun hB5 w6 => ?_)
        have N3 : mw h (dz_put g3 l 11 (ez_v (.inl (v3)))) l := Mq3.trans (mw_put hl.1)
        have j3 : ∀ j, j ≠ 11 → qz_I (dz_put g3 l 11 (ez_v (.inl (v3)))) l j = qz_I G2 l j := fun j hj => by rw [ez_put_I (fun w => hj w.2)]; exact m3.l hl.1 j
        have x3 : qz_I (dz_put g3 l 11 (ez_v (.inl (v3)))) l 11 = v3 := by rw [w6, rz_rd ⟨by omega, by omega⟩]
        have un3a : ((dz_put g3 l 11 (ez_v (.inl (v3))))).1 = h.1 := N3.1.1
        have un3b : ((dz_put g3 l 11 (ez_v (.inl (v3))))).2.1 = h.2.1 := N3.1.2.1
        have hG3 := hB5
        generalize (dz_put g3 l 11 (ez_v (.inl (v3)))) = G3 at *
        have y1 : qz_I G3 l 1 = qz_I h l 1 := by rw [j3 _ (by decide), j2 _ (by decide), j1 _ (by decide)]
        have y2 : qz_I G3 l 2 = qz_I h l 2 := by rw [j3 _ (by decide), j2 _ (by decide), j1 _ (by decide)]
        have y5 : qz_I G3 l 5 = qz_I h l 5 := by rw [j3 _ (by decide), j2 _ (by decide), j1 _ (by decide)]
        have y9 : qz_I G3 l 9 = v1 := by rw [j3 _ (by decide), j2 _ (by decide)]; exact x1
        have y10 : qz_I G3 l 10 = v2 := by rw [j3 _ (by decide)]; exact x2
        refine ez_go (n := 2) (pc' := 364) (L' := [(0, .inr (.inr (some (770)))), (1, .inr (.inr (some (l))))]) (st' := [.inr (.inr (some (l))), .inr (.inr (some (770)))]) rfl ?_
        refine ez_gI hG3 tl rfl rfl tq_13 rfl rfl (fun (b7 : -2147483648 ≤ qz_I G3 l 1) (b7' : qz_I G3 l 1 ≤ 2147483647) => ?_)
        refine ez_go (n := 1) (pc' := 368) (L' := [(0, .inr (.inr (some (770)))), (1, .inr (.inr (some (l))))]) (st' := [.inr (.inr (some (l))), .inl (qz_I G3 l 1), .inr (.inr (some (770)))]) rfl ?_
        refine ez_gI hG3 tl rfl rfl tq_13 rfl rfl (fun (b8 : -2147483648 ≤ qz_I G3 l 2) (b8' : qz_I G3 l 2 ≤ 2147483647) => ?_)
        refine ez_icmp rfl rfl ⟨by first | omega | exact (sz_i32 _).1, by first | omega | exact (sz_i32 _).2⟩ ⟨by first | omega | exact (sz_i32 _).1, by first | omega | exact (sz_i32 _).2⟩ (fun (c9 : (qz_I G3 l 1) = (qz_I G3 l 2)) => ?_) (fun (c9 : ¬((qz_I G3 l 1) = (qz_I G3 l 2))) => ?_)
        · skip
          refine ez_go (n := 2) (pc' := 407) (L' := [(0, .inr (.inr (some (770)))), (1, .inr (.inr (some (l))))]) (st' := [.inl (1), .inr (.inr (some (770)))]) rfl ?_
          refine ez_cv hG3 t770 rfl rfl rfl tq_75 rfl rfl rfl (rd_can1 (by omega) (by omega) (ez_K0 ?_))
          refine ez_ret0 rfl rfl (kx G3 hG3 N3 (fun j q1 q2 q3 => by rw [j3 j q3, j2 j q2, j1 j q1]) ⟨fun k q1 q2 => ?_, fun q k q1 q2 => ?_⟩ ⟨?_, ?_, ?_⟩)
          · rcases (show k = 4 ∨ k = 5 ∨ k = 6 by omega) with e | e | e <;> rw [e] <;> omega
          · have z3 : mf h 3 = mt h 3 := h5.mp (by omega)
            rcases (show k = 3 ∨ k = 4 ∨ k = 5 ∨ k = 6 by omega) with e | e | e | e <;> rw [e] <;> omega
          · rw [y9]; rcases o1 with w | w; (· rw [w.2, rz_code_e0 w.1]); (· exact w.2.1)
          · rw [y10]; rcases o2 with w | w; (· rw [w.2, rz_code_e0 w.1]); (· exact w.2.1)
          · rw [x3]; rcases o3 with w | w; (· rw [w.2, rz_code_e0 w.1]); (· exact w.2.1)
        · skip
          refine ez_go (n := 1) (pc' := 375) (L' := [(0, .inr (.inr (some (770)))), (1, .inr (.inr (some (l))))]) (st' := [.inr (.inr (some (l))), .inr (.inr (some (770)))]) rfl ?_
          refine ez_gI hG3 tl rfl rfl tq_13 rfl rfl (fun (b10 : -2147483648 ≤ qz_I G3 l 5) (b10' : qz_I G3 l 5 ≤ 2147483647) => ?_)
          refine ez_if rfl rfl ⟨by first | omega | exact (sz_i32 _).1, by first | omega | exact (sz_i32 _).2⟩ (fun (c11 : (qz_I G3 l 5) ≠ (0)) => ?_) (fun (c11 : ¬((qz_I G3 l 5) ≠ (0))) => ?_)
          · skip
            refine ez_go (n := 1) (pc' := 407) (L' := [(0, .inr (.inr (some (770)))), (1, .inr (.inr (some (l))))]) (st' := [.inl (0), .inr (.inr (some (770)))]) rfl ?_
            refine ez_cv hG3 t770 rfl rfl rfl tq_75 rfl rfl rfl (rd_can0 (by omega) (by omega) (ez_Kp (xc_exc hG3 rfl) rfl (k0 (fun w => ?_) G3 hG3 N3)))
            have w2 := w.2 (by omega)
            have z3 := w2 3 (by omega) (by omega); have z4 := w2 4 (by omega) (by omega); have z5 := w2 5 (by omega) (by omega); have z6 := w2 6 (by omega) (by omega)
            have z7 := h5.mpr z3; omega
          · skip
            refine ez_go (n := 1) (pc' := 382) (L' := [(0, .inr (.inr (some (770)))), (1, .inr (.inr (some (l))))]) (st' := [.inr (.inr (some (l))), .inr (.inr (some (770)))]) rfl ?_
            refine ez_gI hG3 tl rfl rfl tq_13 rfl rfl (fun (b12 : -2147483648 ≤ qz_I G3 l 9) (b12' : qz_I G3 l 9 ≤ 2147483647) => ?_)
            refine ez_if rfl rfl ⟨by first | omega | exact (sz_i32 _).1, by first | omega | exact (sz_i32 _).2⟩ (fun (c13 : (0) ≤ (qz_I G3 l 9)) => ?_) (fun (c13 : ¬((0) ≤ (qz_I G3 l 9))) => ?_)
            · skip
              refine ez_go (n := 1) (pc' := 407) (L' := [(0, .inr (.inr (some (770)))), (1, .inr (.inr (some (l))))]) (st' := [.inl (0), .inr (.inr (some (770)))]) rfl ?_
              refine ez_cv hG3 t770 rfl rfl rfl tq_75 rfl rfl rfl (rd_can0 (by omega) (by omega) (ez_Kp (xc_exc hG3 rfl) rfl (k0 (fun w => ?_) G3 hG3 N3)))
              have w2 := w.2 (by omega)
              have z3 := w2 3 (by omega) (by omega); have z4 := w2 4 (by omega) (by omega); have z5 := w2 5 (by omega) (by omega); have z6 := w2 6 (by omega) (by omega)
              have z7 := h5.mpr z3; omega
            · skip
              refine ez_go (n := 1) (pc' := 389) (L' := [(0, .inr (.inr (some (770)))), (1, .inr (.inr (some (l))))]) (st' := [.inr (.inr (some (l))), .inr (.inr (some (770)))]) rfl ?_
              refine ez_gI hG3 tl rfl rfl tq_13 rfl rfl (fun (b14 : -2147483648 ≤ qz_I G3 l 10) (b14' : qz_I G3 l 10 ≤ 2147483647) => ?_)
              refine ez_if rfl rfl ⟨by first | omega | exact (sz_i32 _).1, by first | omega | exact (sz_i32 _).2⟩ (fun (c15 : (0) ≤ (qz_I G3 l 10)) => ?_) (fun (c15 : ¬((0) ≤ (qz_I G3 l 10))) => ?_)
              · skip
                refine ez_go (n := 1) (pc' := 407) (L' := [(0, .inr (.inr (some (770)))), (1, .inr (.inr (some (l))))]) (st' := [.inl (0), .inr (.inr (some (770)))]) rfl ?_
                refine ez_cv hG3 t770 rfl rfl rfl tq_75 rfl rfl rfl (rd_can0 (by omega) (by omega) (ez_Kp (xc_exc hG3 rfl) rfl (k0 (fun w => ?_) G3 hG3 N3)))
                have w2 := w.2 (by omega)
                have z3 := w2 3 (by omega) (by omega); have z4 := w2 4 (by omega) (by omega); have z5 := w2 5 (by omega) (by omega); have z6 := w2 6 (by omega) (by omega)
                have z7 := h5.mpr z3; omega
              · skip
                refine ez_go (n := 1) (pc' := 396) (L' := [(0, .inr (.inr (some (770)))), (1, .inr (.inr (some (l))))]) (st' := [.inr (.inr (some (l))), .inr (.inr (some (770)))]) rfl ?_
                refine ez_gI hG3 tl rfl rfl tq_13 rfl rfl (fun (b16 : -2147483648 ≤ qz_I G3 l 11) (b16' : qz_I G3 l 11 ≤ 2147483647) => ?_)
                refine ez_if rfl rfl ⟨by first | omega | exact (sz_i32 _).1, by first | omega | exact (sz_i32 _).2⟩ (fun (c17 : (0) ≤ (qz_I G3 l 11)) => ?_) (fun (c17 : ¬((0) ≤ (qz_I G3 l 11))) => ?_)
                · skip
                  refine ez_go (n := 1) (pc' := 407) (L' := [(0, .inr (.inr (some (770)))), (1, .inr (.inr (some (l))))]) (st' := [.inl (0), .inr (.inr (some (770)))]) rfl ?_
                  refine ez_cv hG3 t770 rfl rfl rfl tq_75 rfl rfl rfl (rd_can0 (by omega) (by omega) (ez_Kp (xc_exc hG3 rfl) rfl (k0 (fun w => ?_) G3 hG3 N3)))
                  have w2 := w.2 (by omega)
                  have z3 := w2 3 (by omega) (by omega); have z4 := w2 4 (by omega) (by omega); have z5 := w2 5 (by omega) (by omega); have z6 := w2 6 (by omega) (by omega)
                  have z7 := h5.mpr z3; omega
                · skip
                  refine ez_go (n := 2) (pc' := 407) (L' := [(0, .inr (.inr (some (770)))), (1, .inr (.inr (some (l))))]) (st' := [.inl (1), .inr (.inr (some (770)))]) rfl ?_
                  refine ez_cv hG3 t770 rfl rfl rfl tq_75 rfl rfl rfl (rd_can1 (by omega) (by omega) (ez_K0 ?_))
                  refine ez_ret0 rfl rfl (kx G3 hG3 N3 (fun j q1 q2 q3 => by rw [j3 j q3, j2 j q2, j1 j q1]) ⟨fun k q1 q2 => ?_, fun q k q1 q2 => ?_⟩ ⟨?_, ?_, ?_⟩)
                  · rcases (show k = 4 ∨ k = 5 ∨ k = 6 by omega) with e | e | e <;> rw [e] <;> omega
                  · have z3 : mf h 3 = mt h 3 := h5.mp (by omega)
                    rcases (show k = 3 ∨ k = 4 ∨ k = 5 ∨ k = 6 by omega) with e | e | e | e <;> rw [e] <;> omega
                  · rw [y9]; rcases o1 with w | w; (· rw [w.2, rz_code_e0 w.1]); (· exact w.2.1)
                  · rw [y10]; rcases o2 with w | w; (· rw [w.2, rz_code_e0 w.1]); (· exact w.2.1)
                  · rw [x3]; rcases o3 with w | w; (· rw [w.2, rz_code_e0 w.1]); (· exact w.2.1)
      · rw [N2.f hl.2.2.1, N2.t hl.2.2.2, N2.b hl.2.1] at w2; rw [N2.f hl.2.2.1, N2.t hl.2.2.2] at w1; have := w.1 6 (by omega) (by omega); omega
    · rw [N1.f hl.2.2.1, N1.t hl.2.2.2, N1.b hl.2.1] at w2; rw [N1.f hl.2.2.1, N1.t hl.2.2.2] at w1; have := w.1 5 (by omega) (by omega); omega
  · rw [N0.f hl.2.2.1, N0.t hl.2.2.2, N0.b hl.2.1] at w2; rw [N0.f hl.2.2.1, N0.t hl.2.2.2] at w1; have := w.1 4 (by omega) (by omega); omega
theorem rd_points9 (hB : ez_B τ h) (t770 : τ 770 = 75) (tl : τ l = 13) (hl : lz l) (usp : τ (qz_P h l 7) = 15) (ucp : τ (qz_P h l 8) = 16) (tpo : τ (po h) = 17) (h0 : 0 ≤ pn h) (hn : pn h ≤ qz_N h (po h)) (hpm : pn h + 18 ≤ 38400) (hNh : 1024 ≤ qz_N h (po h)) (hr1 : h.1 + 100 ≤ 600192) (hr2 : h.2.1 + 240000 ≤ 7302232) (hlg : l2 (qz_P h l 7) (qz_P h l 8) h) (hc0 : qz_I h (qz_P h l 8) 0 = 0) (T3 : mf h 3 < mt h 3 → ¬ bk (mb h (mf h 3)) ∧ ¬ bk (mb h (mt h 3 - 1))) (hF : ∀ k, 0 ≤ k → k < 7 → (0 ≤ mf h k ∧ mf h k ≤ mt h k) ∧ mt h k ≤ 4096) (h4 : qz_I h l 4 = 0) (h5 : qz_I h l 5 = 0) (k1 : ∀ first last cls dec, rz_F (mb h) (mf h) (mt h) first last cls dec → ∀ g τ1, ez_B τ1 g → (pj (lX l (qz_P h l 7) (qz_P h l 8)) τ h τ1 g (dA dec) ∧ l2 (qz_P h l 7) (qz_P h l 8) g) → qz_I g l 1 = first → qz_I g l 2 = last → qz_I g l 4 = cls → qz_I g l 5 = dT dec → (dec ≠ none → qz_I g (qz_P h l 7) 0 = pn h) → qz_I g (qz_P h l 8) 0 = ((dA dec).length : Int) → (qz_I g l 3 = mb h (mf h 1) * 256 + mb h (mf h 1 + 1) ∧ qz_I g l 9 = rz_code (mb h) (mf h 4) (mt h 4) ∧ qz_I g l 10 = rz_code (mb h) (mf h 5) (mt h 5) ∧ qz_I g l 11 = rz_code (mb h) (mf h 6) (mt h 6)) → (∀ j, j ≠ 1 → j ≠ 2 → j ≠ 3 → j ≠ 4 → j ≠ 5 → j ≠ 9 → j ≠ 10 → j ≠ 11 → qz_I g l j = qz_I h l j) → Q (.inl none, g)) (k0 : (∀ first last cls dec, ¬ rz_F (mb h) (mf h) (mt h) first last cls dec) → ∀ g τ1 A, ez_B τ1 g → (pj (lX l (qz_P h l 7) (qz_P h l 8)) τ h τ1 g A ∧ l2 (qz_P h l 7) (qz_P h l 8) g) → Q (.inr g.1, xc g 1)) : ez_W (d + 9) cm_291 0 [(0, .inr (.inr (some (770)))), (1, .inr (.inr (some (l))))] [] h Q := by
  have n7 : po h ≠ 770 := fun e => by rw [e, t770] at tpo; cases tpo
  have nl : po h ≠ l := fun e => by rw [e, tl] at tpo; cases tpo
  have ns7 : qz_P h l 7 ≠ 770 := fun e => by rw [e, t770] at usp; cases usp
  have nsl : qz_P h l 7 ≠ l := fun e => by rw [e, tl] at usp; cases usp
  have nc7 : qz_P h l 8 ≠ 770 := fun e => by rw [e, t770] at ucp; cases ucp
  have ncl : qz_P h l 8 ≠ l := fun e => by rw [e, tl] at ucp; cases ucp
  refine rd_points_a9 hB t770 tl hl (by omega) (by omega) hF (fun g1 hB1 m1 x1 x2 x3 x4 hca x5 J1 => ?_) (fun hno g1 hB1 m1 => k0 (fun first last cls dec w => hno ⟨⟨by rw [← w.1.1]; exact w.1.2.2.1, by rw [← w.1.1, ← w.1.2.1]; exact w.1.2.2.2⟩, w.2.1⟩) g1 τ [] hB1 ⟨m1.jp (lX_l _ _ _) t770 tl tpo hn, hlg.mw m1 t770 tl usp ucp tpo⟩)
  have ef1 := m1.f hl.2.2.1; have et1 := m1.t hl.2.2.2; have eb1 := m1.b hl.2.1
  have c1a := m1.1.1; have c1b := m1.1.2.1
  refine rd_points_b hB1 t770 tl hl (by omega) (by omega) (by intro k q1 q2; rw [ef1, et1]; exact hF k q1 q2) (by rw [J1 4 (by decide) (by decide) (by decide)]; exact h4) (fun g2 cls hB2 m2 hcl y4 J2 => ?_) (fun hno g2 hB2 m2 => k0 (fun first last cls dec w => hno cls (by rw [ef1, et1, eb1]; exact w.2.2.1)) g2 τ [] hB2 ⟨(m1.trans m2).jp (lX_l _ _ _) t770 tl tpo hn, hlg.mw (m1.trans m2) t770 tl usp ucp tpo⟩)
  rw [ef1, et1, eb1] at hcl
  have M2 := m1.trans m2
  have ef2 := M2.f hl.2.2.1; have et2 := M2.t hl.2.2.2; have eb2 := M2.b hl.2.1
  have c2a := M2.1.1; have c2b := M2.1.2.1
  have j2 : ∀ j, j ≠ 1 → j ≠ 2 → j ≠ 3 → j ≠ 4 → qz_I g2 l j = qz_I h l j := fun j q1 q2 q3 q4 => by rw [J2 j q4, J1 j q1 q2 q3]
  have e7 : qz_P g2 l 7 = qz_P h l 7 := by unfold qz_P; rw [j2 7 (by decide) (by decide) (by decide) (by decide)]
  have e8 : qz_P g2 l 8 = qz_P h l 8 := by unfold qz_P; rw [j2 8 (by decide) (by decide) (by decide) (by decide)]
  have eN : qz_N g2 (po h) = qz_N h (po h) := M2.N n7 nl
  have F3 := hF 3 (by omega) (by omega)
  refine rd_points_c hB2 t770 tl hl (by rw [e7]; exact usp) (by rw [e8]; exact ucp) (by rw [M2.epo]; exact tpo) (by rw [M2.epn]; exact h0) (by rw [M2.epn, M2.epo, eN]; exact hn) (by rw [M2.epn]; exact hpm) (by rw [M2.epo, eN]; exact hNh) (by omega) (by omega) (by rw [e7, e8]; exact hlg.mw M2 t770 tl usp ucp tpo) (by rw [e8, M2.I nc7 ncl]; exact hc0) (by rw [ef2, et2]; exact F3) (by rw [ef2, et2, eb2]; exact T3) (by rw [j2 5 (by decide) (by decide) (by decide) (by decide)]; exact h5) (fun g3 τ3 dec hB3 hdec p3 J3 y5 s3 n3 => ?_) (fun hno g3 τ3 A hB3 p3 => k0 (fun first last cls dec w => hno dec (by rw [ef2, et2, eb2]; exact w.2.2.2.1)) g3 τ3 _ hB3 (by rw [e7, e8] at p3; exact ⟨(M2.jp (lX_l _ _ _) t770 tl tpo hn).trans p3.1 h0, p3.2⟩))
  rw [e7, e8] at p3
  obtain ⟨p3, q3⟩ := p3
  rw [e7] at s3
  rw [e8] at n3
  rw [ef2, et2, eb2] at hdec
  have P3 := (M2.jp (lX_l l (qz_P h l 7) (qz_P h l 8)) t770 tl tpo hn).trans p3 h0
  rw [List.nil_append] at P3
  have t3 : ∀ q t, τ q = t → t ≠ 0 → τ3 q = t := fun q t q1 q2 => by rw [(P3.1 q (by rw [q1]; exact q2)).1]; exact q1
  have u770 := t3 _ _ t770 (by decide)
  have u_l := t3 _ _ tl (by decide)
  have t771 := ez_t771 hB t770
  have t789 : τ 789 = 80 := ez_t789 hB t770
  have t790 : τ 790 = 81 := ez_t790 hB t770
  have g789 : g3.2.2 789 = h.2.2 789 := P3.f tpo usp ucp tl t789 rfl (by decide)
  have g790 : g3.2.2 790 = h.2.2 790 := P3.f tpo usp ucp tl t790 rfl (by decide)
  have g771 : g3.2.2 771 = h.2.2 771 := P3.f tpo usp ucp tl t771 rfl (by decide)
  have ef3 : ∀ k, mf g3 k = mf h k := fun k => by unfold mf qz_I; rw [g789]
  have et3 : ∀ k, mt g3 k = mt h k := fun k => by unfold mt qz_I; rw [g790]
  have eb3 : mb g3 = mb h := funext fun k => by unfold mb qz_I; rw [g771]
  have u_s := t3 _ _ usp (by decide)
  have u_c := t3 _ _ ucp (by decide)
  have r1 := P3.2.2.2.2.2.2.2.2.1
  have r2 := pool_le hB3 P3.2.2.1
  have z1 : qz_I g3 l 1 = rz_first (mb h) (mf h 0) (mt h 0) := by rw [J3 1 (by decide), J2 1 (by decide)]; exact x1
  have z2 : qz_I g3 l 2 = rz_last (mb h) (mf h 0) (mt h 0) := by rw [J3 2 (by decide), J2 2 (by decide)]; exact x2
  have z4 : qz_I g3 l 4 = cls := by rw [J3 4 (by decide)]; exact y4
  have z5 : qz_I g3 l 5 = 0 ↔ mf h 3 = mt h 3 := by
    rw [y5]
    rcases hdec with ⟨w1, w2⟩ | ⟨w1, cp, bg, vs, w2, w3, w4⟩
    · rw [w2]; exact ⟨fun _ => w1, fun _ => rfl⟩
    · rw [w4]
      have := rz_db_c2 w2
      show cp + 1 = 0 ↔ _
      exact ⟨fun q => by omega, fun q => absurd q w1⟩
  refine rd_points_d9 hB3 u770 u_l hl (by omega) (by omega) (by intro k q1 q2; rw [ef3, et3]; exact hF k q1 q2) (by rw [z1, z2]; exact x4) (by rw [ef3, et3]; exact z5) (fun g4 hB4 m4 J4 hok hul => ?_) (fun hno g4 hB4 m4 => k0 (fun first last cls' dec' w => hno ?_) g4 τ3 _ hB4 ⟨P3.trans (m4.jp (lX_l _ _ _) u770 u_l P3.2.2.1 P3.2.2.2.2.2.2.2.1.1) h0, q3.mw m4 u770 u_l u_s u_c P3.2.2.1⟩)
  · simp only [ef3, et3, eb3, z1, z2] at hok
    simp only [ef3, et3, eb3] at hul
    have P4 := P3.trans (m4.jp (lX_l l (qz_P h l 7) (qz_P h l 8)) u770 u_l P3.2.2.1 P3.2.2.2.2.2.2.2.1.1) h0
    rw [List.append_nil] at P4
    refine k1 _ _ cls dec ⟨⟨rfl, rfl, x3, x4⟩, hca, hcl, hdec, hok.1, hok.2⟩ g4 τ3 hB4 ⟨P4, q3.mw m4 u770 u_l u_s u_c P3.2.2.1⟩ ?_ ?_ ?_ ?_ ?_ ?_ ⟨?_, hul⟩ ?_
    · rw [J4 1 (by decide) (by decide) (by decide)]; exact z1
    · rw [J4 2 (by decide) (by decide) (by decide)]; exact z2
    · rw [J4 4 (by decide) (by decide) (by decide)]; exact z4
    · rw [J4 5 (by decide) (by decide) (by decide)]; exact y5
    · intro w; rw [m4.I (fun e => by rw [e, u770] at u_s; cases u_s) (fun e => by rw [e, u_l] at u_s; cases u_s)]; rw [s3 w]; exact M2.epn
    · rw [m4.I (fun e => by rw [e, u770] at u_c; cases u_c) (fun e => by rw [e, u_l] at u_c; cases u_c)]; exact n3
    · rw [J4 3 (by decide) (by decide) (by decide), J3 3 (by decide), J2 3 (by decide)]; exact x5
    · intro j q1 q2 q3 q4 q5 q9 q10 q11
      rw [J4 j q9 q10 q11, J3 j q5]; exact j2 j q1 q2 q3 q4
  · simp only [ef3, et3, eb3, z1, z2]
    exact ⟨w.2.2.2.2.1, fun q => w.2.2.2.2.2 (by rw [w.1.1, w.1.2.1]; exact q)⟩
end EzPd
section EzPr
variable {d : Nat} {h : cz_H} {τ : Nat → Nat} {Q : cz_F → Prop} {l : Nat}
theorem rd_property_b9 {g : cz_H} {τ1 : Nat → Nat} {s : Nat} (hB : ez_B τ h) (t770 : τ 770 = 75) (tl : τ l = 13) (hl : lz l) (hZ : nz_Z h) (hN : nmz h) (hft : mf h 1 ≤ mt h 1) (ht1 : mt h 1 - mf h 1 ≤ 4096) (hBg : ez_B τ1 g) (u770 : τ1 770 = 75) (ull : τ1 l = 13) (us : τ1 s = 33) (ul49 : τ1 49 = 27) (ul50 : τ1 50 = 27) (hW : ∀ s l, nzL s = some l → nz_S g s l) (hS : nz_S g s (wl (mb h) (mf h 1) (mt h 1 - mf h 1).toNat)) (hok : (rz_first (mb h) (mf h 0) (mt h 0) ≠ -1 ∧ rz_first (mb h) (mf h 0) (mt h 0) ≤ rz_last (mb h) (mf h 0) (mt h 0))) (hx : py τ h τ1 g l) (v1 : qz_I g l 1 = rz_first (mb h) (mf h 0) (mt h 0)) (v2 : qz_I g l 2 = rz_last (mb h) (mf h 0) (mt h 0)) (vJ : ∀ j, j ≠ 1 → j ≠ 2 → j ≠ 5 → j ≠ 6 → qz_I g l j = qz_I h l j) (vr : (g.2.1 : Int) ≤ h.2.1 + 5 * (mt h 1 - mf h 1) + 40) (vc9 : 8 * (g.1 : Int) ≤ 8 * h.1 + (mt h 1 - mf h 1) + 40) (hr1 : g.1 + 10 ≤ 600192) (hr2 : g.2.1 + 100 ≤ 7302232) (k1 : (rz_first (mb h) (mf h 0) (mt h 0) ≠ -1 ∧ rz_first (mb h) (mf h 0) (mt h 0) ≤ rz_last (mb h) (mf h 0) (mt h 0)) → rz_PK (mb h) (mf h 1) (mt h 1) → ∀ g τ1, ez_B τ1 g → py τ h τ1 g l → qz_I g l 1 = rz_first (mb h) (mf h 0) (mt h 0) → qz_I g l 2 = rz_last (mb h) (mf h 0) (mt h 0) → (qz_I g l 5 = 0 ↔ rz_CE (mb h) (mf h 1) (mt h 1)) → (∃ gr nm, rz_PV (mb h) (mf h 1) (mt h 1) gr nm ∧ qz_I g l 5 = (if gr = 0 then 6 else if gr = 1 then 7 else nm) ∧ (gr ≠ 2 → qz_I g l 6 = nm)) → (∀ j, j ≠ 1 → j ≠ 2 → j ≠ 5 → j ≠ 6 → qz_I g l j = qz_I h l j) → (g.2.1 : Int) ≤ h.2.1 + 5 * (mt h 1 - mf h 1) + 40 → 8 * (g.1 : Int) ≤ 8 * h.1 + (mt h 1 - mf h 1) + 40 → Q (.inl none, g)) (k0 : ¬ ((rz_first (mb h) (mf h 0) (mt h 0) ≠ -1 ∧ rz_first (mb h) (mf h 0) (mt h 0) ≤ rz_last (mb h) (mf h 0) (mt h 0)) ∧ rz_CE (mb h) (mf h 1) (mt h 1)) → ¬ ((rz_first (mb h) (mf h 0) (mt h 0) ≠ -1 ∧ rz_first (mb h) (mf h 0) (mt h 0) ≤ rz_last (mb h) (mf h 0) (mt h 0)) ∧ rz_PK (mb h) (mf h 1) (mt h 1)) → ∀ g τ1, ez_B τ1 g → py τ h τ1 g l → (g.2.1 : Int) ≤ h.2.1 + 5 * (mt h 1 - mf h 1) + 40 → 8 * (g.1 : Int) ≤ 8 * h.1 + (mt h 1 - mf h 1) + 40 → Q (.inr g.1, xc g 1)) : ez_W (d + 7) cm_292 24 [(2, .inr (.inr (some (s)))), (0, .inr (.inr (some (770)))), (1, .inr (.inr (some (l))))] [] g Q := by
  refine ez_go (n := 2) (pc' := 26) (L' := [(2, .inr (.inr (some (s)))), (0, .inr (.inr (some (770)))), (1, .inr (.inr (some (l))))]) (st' := [.inr (.inr (some (s))), .inr (.inr (some (770)))]) rfl ?_
  refine ez_ldcW rfl rfl ?_
  refine ez_cv hBg u770 rfl rfl rfl tq_75 rfl rfl rfl (rd_begins hBg u770 us (ul49) hS (hW 49 _ rfl) (by rw [wl_len]; omega) (by decide) (fun q1 q2 => ez_K1 ?_) (fun q0 => ez_K1 ?_))
  · skip
    have sw3 : rz_sw (mb h) nzs_3 (mf h 1) (mt h 1) := (sw_wl hft).mpr ⟨q1, q2⟩
    have nce : ¬ rz_CE (mb h) (mf h 1) (mt h 1) := fun w => by rw [ce_wl hft] at w; have q3 := q2 0 (by decide); rw [w] at q3; exact absurd q3 (by decide)
    have len4 : 4 ≤ (wl (mb h) (mf h 1) (mt h 1 - mf h 1).toNat).length := q1
    refine ez_if rfl rfl ⟨by decide, by decide⟩ (fun (c1 : (1 : Int) = (0)) => absurd c1 (by decide)) (fun _ => ?_)
    refine ez_go (n := 2) (pc' := 38) (L' := [(2, .inr (.inr (some (s)))), (0, .inr (.inr (some (770)))), (1, .inr (.inr (some (l))))]) (st' := [.inl (6), .inr (.inr (some (l)))]) rfl ?_
    refine ez_pf hBg ull rfl rfl tq_13 rfl rfl rfl rfl (ez_vdI rfl rfl (by omega) (by omega)) (fun hB2 w3 => ?_)
    refine ez_go (n := 5) (pc' := 46) (L' := [(2, .inr (.inr (some (s)))), (0, .inr (.inr (some (770)))), (1, .inr (.inr (some (l))))]) (st' := [.inr (.inr (some (770))), .inl (4), .inr (.inr (some (s))), .inr (.inr (some (770))), .inr (.inr (some (l)))]) rfl ?_
    refine ez_gC (p := 787) (tg := 26) hB2 u770 rfl rfl tq_75 rfl rfl (fun (t787 : _ = 26) => ?_)
    have ec : ∀ q, q ≠ l → ((dz_put g l 5 (ez_v (.inl (6))))).2.2 q = g.2.2 q := fun q hq => by rw [dz_put_at, if_neg hq]
    have hx2 : py τ h τ1 (dz_put g l 5 (ez_v (.inl (6)))) l := hx.trans (mw_put hl.1).py
    have r1 : ((dz_put g l 5 (ez_v (.inl (6))))).1 = g.1 := rfl
    have r2 : ((dz_put g l 5 (ez_v (.inl (6))))).2.1 = g.2.1 := rfl
    have y5 : qz_I (dz_put g l 5 (ez_v (.inl (6)))) l 5 = 6 := by rw [w3, rz_rd ⟨by omega, by omega⟩]
    have yJ : ∀ j, j ≠ 5 → qz_I (dz_put g l 5 (ez_v (.inl (6)))) l j = qz_I g l j := fun j hj => ez_put_I (fun w => hj w.2)
    have hB2 := hB2
    generalize (dz_put g l 5 (ez_v (.inl (6)))) = g2 at *
    have nl : ∀ q, (τ q = 26 ∨ τ q = 27 ∨ τ q = 28) → q ≠ l := fun q hq e => by rw [e, tl] at hq; rcases hq with w | w | w <;> cases w
    have xq : ∀ q, (τ q = 26 ∨ τ q = 27 ∨ τ q = 28) → g2.2.2 q = h.2.2 q := fun q hq => by rw [ec q (nl q hq)]; exact (hx.1 q (by rcases hq with w | w | w <;> rw [w] <;> decide)).2 (fun e => by rw [e, t770] at hq; rcases hq with w | w | w <;> cases w) (nl q hq) (by rcases hq with w | w | w <;> rw [w] <;> decide) (by rcases hq with w | w | w <;> rw [w] <;> decide)
    have nsl : s ≠ l := fun e => by rw [e, ull] at us; cases us
    have nvl : qz_P g s 0 ≠ l := fun e => by have := strD_tv hBg us; rw [e, ull] at this; cases this
    have hS2 : nz_S g2 s (wl (mb h) (mf h 1) (mt h 1 - mf h 1).toNat) := by
      have eP : qz_P g2 s 0 = qz_P g s 0 := by unfold qz_P qz_I; rw [ec s nsl]
      exact ⟨by rw [eP]; unfold qz_N; rw [ec _ nvl]; exact hS.1, fun j v hj => by rw [eP]; unfold qz_I; rw [ec _ nvl]; exact hS.2 j v hj⟩
    have T := ez_tnm hB t770
    refine ez_cv hB2 u770 rfl rfl rfl tq_75 rfl rfl rfl (rd_among (f := 4) (ct := ctn h 787) hB2 u770 us (t787) hS2 (by rw [wl_len]; omega) (by omega) (ctn_S hB hZ hN (by decide) (by decide) T.2.2.1 xq) (by omega) (by omega) (fun k kn ke ko => ez_K1 ?_) (fun ko => ez_Kp (xc_exc hB2 rfl) rfl (k0 (fun w => ?_) (fun w => ?_) g2 τ1 hB2 hx2 (by omega) (by omega))))
    · skip
      have np : 6 ≤ qz_N g2 787 ∧ qz_N g2 787 ≤ 19 := ez_len hB2 t787 tq_26 rfl
      have enp : qz_N g2 787 = qz_N h 787 := by unfold qz_N; rw [xq 787 (Or.inl T.2.2.1)]
      have ewd : (wl (mb h) (mf h 1) (mt h 1 - mf h 1).toNat).drop 4 = (nz_w (mb h) (mf h 1 + 4) (mt h 1 - (mf h 1 + 4)).toNat) := (wl_drop _ _ _ _).trans (by congr 1; omega)
      have eix : nz_ix nzN_4 (nz_w (mb h) (mf h 1 + 4) (mt h 1 - (mf h 1 + 4)).toNat) = (k : Int) := am_ix (p := 787) hN.2.2 (by decide) (by decide) (by omega) (ke.trans ewd) (fun i hi => by rw [← ewd]; exact ko i hi)
      have wix : nz_ix nzN_4 (nz_w (mb h) (mf h 1 + 4) (mt h 1 - (mf h 1 + 4)).toNat) ≠ -1 := by rw [eix]; omega
      have hPV : rz_PV (mb h) (mf h 1) (mt h 1) 0 (k : Int) := Or.inl ⟨sw3, rfl, eix.symm⟩
      have hpk : rz_PK (mb h) (mf h 1) (mt h 1) := (Or.inl ⟨sw3, wix⟩)
      refine ez_pf hB2 ull rfl rfl tq_13 rfl rfl rfl rfl (ez_vdI rfl rfl (by omega) (by omega)) (fun hB4 w5 => ?_)
      refine ez_go (n := 1) (pc' := 106) (L' := [(2, .inr (.inr (some (s)))), (0, .inr (.inr (some (770)))), (1, .inr (.inr (some (l))))]) (st' := []) rfl ?_
      refine ez_ret0 rfl rfl (k1 hok hpk _ τ1 hB4 (hx2.trans (mw_put hl.1).py) (by rw [ez_put_I (by omega), yJ _ (by decide)]; exact v1) (by rw [ez_put_I (by omega), yJ _ (by decide)]; exact v2) ?_ ⟨_, _, hPV, (by rw [ez_put_I (by omega), y5]; exact (if_pos rfl).symm), fun _ => (by rw [w5, rz_rd ⟨by omega, by omega⟩])⟩ (fun j j1 j2 j5 j6 => by rw [ez_put_I (fun w => j6 w.2), yJ j j5]; exact vJ j j1 j2 j5 j6) (by show (g2.2.1 : Int) ≤ _; omega) (by show 8 * (g2.1 : Int) ≤ _; omega))
      rw [ez_put_I (by omega), y5]; exact ⟨fun w => absurd w (by decide), fun w => absurd w nce⟩
    · exact nce w.2
    · have enp : qz_N g2 787 = qz_N h 787 := by unfold qz_N; rw [xq 787 (Or.inl T.2.2.1)]
      have ewd : (wl (mb h) (mf h 1) (mt h 1 - mf h 1).toNat).drop 4 = (nz_w (mb h) (mf h 1 + 4) (mt h 1 - (mf h 1 + 4)).toNat) := (wl_drop _ _ _ _).trans (by congr 1; omega)
      have wno : nz_ix nzN_4 (nz_w (mb h) (mf h 1 + 4) (mt h 1 - (mf h 1 + 4)).toNat) = -1 := am_no (p := 787) hN.2.2 (by decide) (by decide) (fun i hi => by rw [← ewd]; exact ko i (by omega))
      rcases w.2 with ⟨a1, a2⟩ | ⟨a1, a2, a3⟩ | ⟨a1, a2, a3⟩
      · exact a2 wno
      · exact a1 sw3
      · exact a1 sw3
  · skip
    have sw3 : ¬ rz_sw (mb h) nzs_3 (mf h 1) (mt h 1) := fun w => q0 ((sw_wl hft).mp w)
    refine ez_if rfl rfl ⟨by decide, by decide⟩ (fun _ => ?_) (fun (c6 : ¬((0 : Int) = (0))) => absurd c6 (by decide))
    refine ez_go (n := 2) (pc' := 60) (L' := [(2, .inr (.inr (some (s)))), (0, .inr (.inr (some (770)))), (1, .inr (.inr (some (l))))]) (st' := [.inr (.inr (some (s))), .inr (.inr (some (770)))]) rfl ?_
    refine ez_ldcW rfl rfl ?_
    refine ez_cv hBg u770 rfl rfl rfl tq_75 rfl rfl rfl (rd_begins hBg u770 us (ul50) hS (hW 50 _ rfl) (by rw [wl_len]; omega) (by decide) (fun q1 q2 => ez_K1 ?_) (fun q0 => ez_K1 ?_))
    · skip
      have sw5 : rz_sw (mb h) nzs_5 (mf h 1) (mt h 1) := (sw_wl hft).mpr ⟨q1, q2⟩
      have nce : ¬ rz_CE (mb h) (mf h 1) (mt h 1) := fun w => by rw [ce_wl hft] at w; have q3 := q2 0 (by decide); rw [w] at q3; exact absurd q3 (by decide)
      have len3 : 3 ≤ (wl (mb h) (mf h 1) (mt h 1 - mf h 1).toNat).length := q1
      refine ez_if rfl rfl ⟨by decide, by decide⟩ (fun (c7 : (1 : Int) = (0)) => absurd c7 (by decide)) (fun _ => ?_)
      refine ez_go (n := 2) (pc' := 72) (L' := [(2, .inr (.inr (some (s)))), (0, .inr (.inr (some (770)))), (1, .inr (.inr (some (l))))]) (st' := [.inl (7), .inr (.inr (some (l)))]) rfl ?_
      refine ez_pf hBg ull rfl rfl tq_13 rfl rfl rfl rfl (ez_vdI rfl rfl (by omega) (by omega)) (fun hB8 w9 => ?_)
      refine ez_go (n := 5) (pc' := 80) (L' := [(2, .inr (.inr (some (s)))), (0, .inr (.inr (some (770)))), (1, .inr (.inr (some (l))))]) (st' := [.inr (.inr (some (770))), .inl (3), .inr (.inr (some (s))), .inr (.inr (some (770))), .inr (.inr (some (l)))]) rfl ?_
      refine ez_gC (p := 788) (tg := 26) hB8 u770 rfl rfl tq_75 rfl rfl (fun (t788 : _ = 26) => ?_)
      have ec : ∀ q, q ≠ l → ((dz_put g l 5 (ez_v (.inl (7))))).2.2 q = g.2.2 q := fun q hq => by rw [dz_put_at, if_neg hq]
      have hx2 : py τ h τ1 (dz_put g l 5 (ez_v (.inl (7)))) l := hx.trans (mw_put hl.1).py
      have r1 : ((dz_put g l 5 (ez_v (.inl (7))))).1 = g.1 := rfl
      have r2 : ((dz_put g l 5 (ez_v (.inl (7))))).2.1 = g.2.1 := rfl
      have y5 : qz_I (dz_put g l 5 (ez_v (.inl (7)))) l 5 = 7 := by rw [w9, rz_rd ⟨by omega, by omega⟩]
      have yJ : ∀ j, j ≠ 5 → qz_I (dz_put g l 5 (ez_v (.inl (7)))) l j = qz_I g l j := fun j hj => ez_put_I (fun w => hj w.2)
      have hB2 := hB8
      generalize (dz_put g l 5 (ez_v (.inl (7)))) = g2 at *
      have nl : ∀ q, (τ q = 26 ∨ τ q = 27 ∨ τ q = 28) → q ≠ l := fun q hq e => by rw [e, tl] at hq; rcases hq with w | w | w <;> cases w
      have xq : ∀ q, (τ q = 26 ∨ τ q = 27 ∨ τ q = 28) → g2.2.2 q = h.2.2 q := fun q hq => by rw [ec q (nl q hq)]; exact (hx.1 q (by rcases hq with w | w | w <;> rw [w] <;> decide)).2 (fun e => by rw [e, t770] at hq; rcases hq with w | w | w <;> cases w) (nl q hq) (by rcases hq with w | w | w <;> rw [w] <;> decide) (by rcases hq with w | w | w <;> rw [w] <;> decide)
      have nsl : s ≠ l := fun e => by rw [e, ull] at us; cases us
      have nvl : qz_P g s 0 ≠ l := fun e => by have := strD_tv hBg us; rw [e, ull] at this; cases this
      have hS2 : nz_S g2 s (wl (mb h) (mf h 1) (mt h 1 - mf h 1).toNat) := by
        have eP : qz_P g2 s 0 = qz_P g s 0 := by unfold qz_P qz_I; rw [ec s nsl]
        exact ⟨by rw [eP]; unfold qz_N; rw [ec _ nvl]; exact hS.1, fun j v hj => by rw [eP]; unfold qz_I; rw [ec _ nvl]; exact hS.2 j v hj⟩
      have T := ez_tnm hB t770
      refine ez_cv hB2 u770 rfl rfl rfl tq_75 rfl rfl rfl (rd_among (f := 3) (ct := ctn h 788) hB2 u770 us (t788) hS2 (by rw [wl_len]; omega) (by omega) (ctn_S hB hZ hN (by decide) (by decide) T.2.2.2 xq) (by omega) (by omega) (fun k kn ke ko => ez_K1 ?_) (fun ko => ez_Kp (xc_exc hB2 rfl) rfl (k0 (fun w => ?_) (fun w => ?_) g2 τ1 hB2 hx2 (by omega) (by omega))))
      · skip
        have np : 6 ≤ qz_N g2 788 ∧ qz_N g2 788 ≤ 19 := ez_len hB2 t788 tq_26 rfl
        have enp : qz_N g2 788 = qz_N h 788 := by unfold qz_N; rw [xq 788 (Or.inl T.2.2.2)]
        have ewd : (wl (mb h) (mf h 1) (mt h 1 - mf h 1).toNat).drop 3 = (nz_w (mb h) (mf h 1 + 3) (mt h 1 - (mf h 1 + 3)).toNat) := (wl_drop _ _ _ _).trans (by congr 1; omega)
        have eix : nz_ix nzN_6 (nz_w (mb h) (mf h 1 + 3) (mt h 1 - (mf h 1 + 3)).toNat) = (k : Int) := am_ix (p := 788) hN.2.2 (by decide) (by decide) (by omega) (ke.trans ewd) (fun i hi => by rw [← ewd]; exact ko i hi)
        have wix : nz_ix nzN_6 (nz_w (mb h) (mf h 1 + 3) (mt h 1 - (mf h 1 + 3)).toNat) ≠ -1 := by rw [eix]; omega
        have hPV : rz_PV (mb h) (mf h 1) (mt h 1) 1 (k : Int) := Or.inr (Or.inl ⟨sw3, sw5, rfl, eix.symm⟩)
        have hpk : rz_PK (mb h) (mf h 1) (mt h 1) := (Or.inr (Or.inl ⟨sw3, sw5, wix⟩))
        refine ez_pf hB2 ull rfl rfl tq_13 rfl rfl rfl rfl (ez_vdI rfl rfl (by omega) (by omega)) (fun hB10 w11 => ?_)
        refine ez_go (n := 1) (pc' := 106) (L' := [(2, .inr (.inr (some (s)))), (0, .inr (.inr (some (770)))), (1, .inr (.inr (some (l))))]) (st' := []) rfl ?_
        refine ez_ret0 rfl rfl (k1 hok hpk _ τ1 hB10 (hx2.trans (mw_put hl.1).py) (by rw [ez_put_I (by omega), yJ _ (by decide)]; exact v1) (by rw [ez_put_I (by omega), yJ _ (by decide)]; exact v2) ?_ ⟨_, _, hPV, (by rw [ez_put_I (by omega), y5]; exact ((if_neg (by decide)).trans (if_pos rfl)).symm), fun _ => (by rw [w11, rz_rd ⟨by omega, by omega⟩])⟩ (fun j j1 j2 j5 j6 => by rw [ez_put_I (fun w => j6 w.2), yJ j j5]; exact vJ j j1 j2 j5 j6) (by show (g2.2.1 : Int) ≤ _; omega) (by show 8 * (g2.1 : Int) ≤ _; omega))
        rw [ez_put_I (by omega), y5]; exact ⟨fun w => absurd w (by decide), fun w => absurd w nce⟩
      · exact nce w.2
      · have enp : qz_N g2 788 = qz_N h 788 := by unfold qz_N; rw [xq 788 (Or.inl T.2.2.2)]
        have ewd : (wl (mb h) (mf h 1) (mt h 1 - mf h 1).toNat).drop 3 = (nz_w (mb h) (mf h 1 + 3) (mt h 1 - (mf h 1 + 3)).toNat) := (wl_drop _ _ _ _).trans (by congr 1; omega)
        have wno : nz_ix nzN_6 (nz_w (mb h) (mf h 1 + 3) (mt h 1 - (mf h 1 + 3)).toNat) = -1 := am_no (p := 788) hN.2.2 (by decide) (by decide) (fun i hi => by rw [← ewd]; exact ko i (by omega))
        rcases w.2 with ⟨a1, a2⟩ | ⟨a1, a2, a3⟩ | ⟨a1, a2, a3⟩
        · exact sw3 a1
        · exact a3 wno
        · exact a2 sw5
    · skip
      have sw5 : ¬ rz_sw (mb h) nzs_5 (mf h 1) (mt h 1) := fun w => q0 ((sw_wl hft).mp w)
      refine ez_if rfl rfl ⟨by decide, by decide⟩ (fun _ => ?_) (fun (c12 : ¬((0 : Int) = (0))) => absurd c12 (by decide))
      refine ez_go (n := 5) (pc' := 97) (L' := [(2, .inr (.inr (some (s)))), (0, .inr (.inr (some (770)))), (1, .inr (.inr (some (l))))]) (st' := [.inr (.inr (some (770))), .inl (0), .inr (.inr (some (s))), .inr (.inr (some (770))), .inr (.inr (some (l)))]) rfl ?_
      refine ez_gC (p := 786) (tg := 26) hBg u770 rfl rfl tq_75 rfl rfl (fun (t786 : _ = 26) => ?_)
      have ec : ∀ q, q ≠ l → g.2.2 q = g.2.2 q := fun _ _ => rfl
      have nl : ∀ q, (τ q = 26 ∨ τ q = 27 ∨ τ q = 28) → q ≠ l := fun q hq e => by rw [e, tl] at hq; rcases hq with w | w | w <;> cases w
      have xq : ∀ q, (τ q = 26 ∨ τ q = 27 ∨ τ q = 28) → g.2.2 q = h.2.2 q := fun q hq => by rw [ec q (nl q hq)]; exact (hx.1 q (by rcases hq with w | w | w <;> rw [w] <;> decide)).2 (fun e => by rw [e, t770] at hq; rcases hq with w | w | w <;> cases w) (nl q hq) (by rcases hq with w | w | w <;> rw [w] <;> decide) (by rcases hq with w | w | w <;> rw [w] <;> decide)
      have nsl : s ≠ l := fun e => by rw [e, ull] at us; cases us
      have nvl : qz_P g s 0 ≠ l := fun e => by have := strD_tv hBg us; rw [e, ull] at this; cases this
      have hS2 : nz_S g s (wl (mb h) (mf h 1) (mt h 1 - mf h 1).toNat) := by
        have eP : qz_P g s 0 = qz_P g s 0 := by unfold qz_P qz_I; rw [ec s nsl]
        exact ⟨by rw [eP]; unfold qz_N; rw [ec _ nvl]; exact hS.1, fun j v hj => by rw [eP]; unfold qz_I; rw [ec _ nvl]; exact hS.2 j v hj⟩
      have T := ez_tnm hB t770
      refine ez_cv hBg u770 rfl rfl rfl tq_75 rfl rfl rfl (rd_among (f := 0) (ct := ctn h 786) hBg u770 us (t786) hS2 (by rw [wl_len]; omega) (by omega) (ctn_S hB hZ hN (by decide) (by decide) T.2.1 xq) (by omega) (by omega) (fun k kn ke ko => ez_K1 ?_) (fun ko => ez_Kp (xc_exc hBg rfl) rfl (k0 (fun w => ?_) (fun w => ?_) g τ1 hBg hx (by omega) (by omega))))
      · skip
        have np : 6 ≤ qz_N g 786 ∧ qz_N g 786 ≤ 19 := ez_len hBg t786 tq_26 rfl
        have enp : qz_N g 786 = qz_N h 786 := by unfold qz_N; rw [xq 786 (Or.inl T.2.1)]
        have ewd : (wl (mb h) (mf h 1) (mt h 1 - mf h 1).toNat).drop 0 = (nz_w (mb h) (mf h 1) (mt h 1 - mf h 1).toNat) := rfl
        have eix : nz_ix nzN_2 (nz_w (mb h) (mf h 1) (mt h 1 - mf h 1).toNat) = (k : Int) := am_ix (p := 786) hN.2.2 (by decide) (by decide) (by omega) (ke.trans ewd) (fun i hi => by rw [← ewd]; exact ko i hi)
        have wix : nz_ix nzN_2 (nz_w (mb h) (mf h 1) (mt h 1 - mf h 1).toNat) ≠ -1 := by rw [eix]; omega
        have hPV : rz_PV (mb h) (mf h 1) (mt h 1) 2 (k : Int) := Or.inr (Or.inr ⟨sw3, sw5, rfl, eix.symm⟩)
        have hpk : rz_PK (mb h) (mf h 1) (mt h 1) := (Or.inr (Or.inr ⟨sw3, sw5, wix⟩))
        refine ez_pf hBg ull rfl rfl tq_13 rfl rfl rfl rfl (ez_vdI rfl rfl (by omega) (by omega)) (fun hB13 w14 => ?_)
        refine ez_ret0 rfl rfl (k1 hok hpk _ τ1 hB13 (hx.trans (mw_put hl.1).py) (by rw [ez_put_I (by omega)]; exact v1) (by rw [ez_put_I (by omega)]; exact v2) ?_ ⟨_, _, hPV, (by rw [w14, rz_rd ⟨by omega, by omega⟩]; exact ((if_neg (by decide)).trans (if_neg (by decide))).symm), fun w => absurd rfl w⟩ (fun j j1 j2 j5 j6 => by rw [ez_put_I (fun w => j5 w.2)]; exact vJ j j1 j2 j5 j6) vr vc9)
        rw [w14, rz_rd ⟨by omega, by omega⟩]
        have c0 : ctn h 786 0 = nzs_16 := by unfold ctn; rw [hN.2.1]; rfl
        rw [List.drop_zero] at ke
        refine ⟨fun e => ?_, fun w => ?_⟩
        · rw [ce_wl hft, ← ke, show k = 0 by omega]; exact c0
        · by_cases e : k = 0; (· rw [e]; rfl); (· exfalso; refine ko 0 (by omega) ?_; rw [List.drop_zero, (ce_wl hft).mp w]; exact c0)
      · refine ko 0 (by have := ez_len hBg t786 tq_26 rfl; have : 6 ≤ qz_N g 786 := this.1; omega) ?_
        rw [(ce_wl hft).mp w.2, List.drop_zero]; unfold ctn; rw [hN.2.1]; rfl
      · have enp : qz_N g 786 = qz_N h 786 := by unfold qz_N; rw [xq 786 (Or.inl T.2.1)]
        have ewd : (wl (mb h) (mf h 1) (mt h 1 - mf h 1).toNat).drop 0 = (nz_w (mb h) (mf h 1) (mt h 1 - mf h 1).toNat) := rfl
        have wno : nz_ix nzN_2 (nz_w (mb h) (mf h 1) (mt h 1 - mf h 1).toNat) = -1 := am_no (p := 786) hN.2.2 (by decide) (by decide) (fun i hi => by rw [← ewd]; exact ko i (by omega))
        rcases w.2 with ⟨a1, a2⟩ | ⟨a1, a2, a3⟩ | ⟨a1, a2, a3⟩
        · exact sw3 a1
        · exact sw5 a2
        · exact a3 wno
end EzPr
section EzPs
variable {d : Nat} {h : cz_H} {τ : Nat → Nat} {Q : cz_F → Prop} {l : Nat}
theorem rd_property9 (hB : ez_B τ h) (t770 : τ 770 = 75) (tl : τ l = 13) (hl : lz l) (hZ : nz_Z h) (hN : nmz h) (hT : ∀ s l, nzL s = some l → τ s = 27) (F0 : (0 ≤ mf h 0 ∧ mf h 0 ≤ mt h 0) ∧ mt h 0 ≤ 4096) (F1 : (0 ≤ mf h 1 ∧ mf h 1 ≤ mt h 1) ∧ mt h 1 ≤ 4096) (hpl : ∀ j, mf h 1 ≤ j → j < mt h 1 → 0 ≤ mb h j ∧ mb h j ≤ 127) (hr1 : h.1 + 1200 ≤ 600192) (hr2 : h.2.1 + 50000 ≤ 7302232) (k1 : (rz_first (mb h) (mf h 0) (mt h 0) ≠ -1 ∧ rz_first (mb h) (mf h 0) (mt h 0) ≤ rz_last (mb h) (mf h 0) (mt h 0)) → rz_PK (mb h) (mf h 1) (mt h 1) → ∀ g τ1, ez_B τ1 g → py τ h τ1 g l → qz_I g l 1 = rz_first (mb h) (mf h 0) (mt h 0) → qz_I g l 2 = rz_last (mb h) (mf h 0) (mt h 0) → (qz_I g l 5 = 0 ↔ rz_CE (mb h) (mf h 1) (mt h 1)) → (∃ gr nm, rz_PV (mb h) (mf h 1) (mt h 1) gr nm ∧ qz_I g l 5 = (if gr = 0 then 6 else if gr = 1 then 7 else nm) ∧ (gr ≠ 2 → qz_I g l 6 = nm)) → (∀ j, j ≠ 1 → j ≠ 2 → j ≠ 5 → j ≠ 6 → qz_I g l j = qz_I h l j) → (g.2.1 : Int) ≤ h.2.1 + 5 * (mt h 1 - mf h 1) + 40 → 8 * (g.1 : Int) ≤ 8 * h.1 + (mt h 1 - mf h 1) + 40 → Q (.inl none, g)) (k0 : ¬ ((rz_first (mb h) (mf h 0) (mt h 0) ≠ -1 ∧ rz_first (mb h) (mf h 0) (mt h 0) ≤ rz_last (mb h) (mf h 0) (mt h 0)) ∧ rz_CE (mb h) (mf h 1) (mt h 1)) → ¬ ((rz_first (mb h) (mf h 0) (mt h 0) ≠ -1 ∧ rz_first (mb h) (mf h 0) (mt h 0) ≤ rz_last (mb h) (mf h 0) (mt h 0)) ∧ rz_PK (mb h) (mf h 1) (mt h 1)) → ∀ g τ1, ez_B τ1 g → py τ h τ1 g l → (g.2.1 : Int) ≤ h.2.1 + 5 * (mt h 1 - mf h 1) + 40 → 8 * (g.1 : Int) ≤ 8 * h.1 + (mt h 1 - mf h 1) + 40 → Q (.inr g.1, xc g 1)) : ez_W (d + 9) cm_292 0 [(0, .inr (.inr (some (770)))), (1, .inr (.inr (some (l))))] [] h Q := by
  have t49 : τ 49 = 27 := hT 49 _ rfl
  have t50 : τ 50 = 27 := hT 50 _ rfl
  refine ez_go (n := 2) (pc' := 2) (L' := [(0, .inr (.inr (some (770)))), (1, .inr (.inr (some (l))))]) (st' := [.inl (0), .inr (.inr (some (770)))]) rfl ?_
  refine ez_cv hB t770 rfl rfl rfl tq_75 rfl rfl rfl (rd_field hB t770 (by omega) (by omega) (fun g1 hB1 m1 a1 s1 => ez_K0 ?_))
  have u1a : (g1).1 = h.1 := m1.1.1
  have u1b : (g1).2.1 = h.2.1 := m1.1.2.1
  refine ez_go (n := 2) (pc' := 7) (L' := [(0, .inr (.inr (some (770)))), (1, .inr (.inr (some (l))))]) (st' := [.inr (.inr (some (l))), .inr (.inr (some (770)))]) rfl ?_
  refine ez_cv hB1 t770 rfl rfl rfl tq_75 rfl rfl rfl (rd_codes hB1 t770 tl (by omega) (by omega) (by omega) (by omega) (fun g2 hB2 m2 a2 e1 e2 v1 v2 J2 => ez_K0 ?_) (fun hno g2 hB2 m2 J2 => ez_Kp (xc_exc hB2 rfl) rfl (k0 (fun w => ?_) (fun w => ?_) g2 τ hB2 (m1.mw.trans m2.mw).py ?_ ?_)))
  · rw [a1, s1, m1.b] at e1 e2 v1 v2
    have M2 : mw h g2 l := m1.mw.trans m2.mw
    have u2a : (g2).1 = h.1 := M2.1.1
    have u2b : (g2).2.1 = h.2.1 := M2.1.2.1
    refine ez_go (n := 2) (pc' := 12) (L' := [(0, .inr (.inr (some (770)))), (1, .inr (.inr (some (l))))]) (st' := [.inl (1), .inr (.inr (some (770)))]) rfl ?_
    refine ez_cv hB2 t770 rfl rfl rfl tq_75 rfl rfl rfl (rd_field hB2 t770 (by omega) (by omega) (fun g3 hB3 m3 a3 s3 => ez_K0 ?_))
    rw [M2.f hl.2.2.1] at a3
    rw [M2.t hl.2.2.2] at s3
    have M3 : mw h g3 l := M2.trans m3.mw
    have u3a : (g3).1 = h.1 := M3.1.1
    have u3b : (g3).2.1 = h.2.1 := M3.1.2.1
    have J3 : ∀ j, qz_I g3 l j = qz_I g2 l j := fun j => m3.l hl.1 j
    refine ez_go (n := 1) (pc' := 16) (L' := [(0, .inr (.inr (some (770)))), (1, .inr (.inr (some (l))))]) (st' := [.inr (.inr (some (770)))]) rfl ?_
    have eb3 := M3.b hl.2.1
    refine ez_cv hB3 t770 rfl rfl rfl tq_75 rfl rfl rfl (rd_word hB3 t770 (by omega) (by omega) (by omega) (by rw [a3, s3, eb3]; exact hpl) (by omega) (by omega) (fun g4 τ4 s hB4 x4 us zs hS4 a4 r4 c4 => ez_KA ?_))
    rw [a3, s3, eb3] at hS4 a4 r4 c4
    have hx : py τ h τ4 g4 l := M3.py.trans x4.py
    have tk := rz_tok_le (mb h) (mt h 1 - mf h 1).toNat (mf h 1)
    have u770 : τ4 770 = 75 := (hx.1 770 (by rw [t770]; decide)).1.trans t770
    have ull : τ4 l = 13 := (hx.1 l (by rw [tl]; decide)).1.trans tl
    have s4 : qz_I g4 770 18 = mt h 1 := (x4.2.2.1 18 (by decide)).trans s3
    have el : ∀ j, qz_I g4 l j = qz_I g3 l j := fun j => by unfold qz_I; rw [(x4.1 l (by rw [tl]; decide)).2 hl.1 (by rw [tl]; decide) (by rw [tl]; decide)]
    refine ez_go (n := 2) (pc' := 21) (L' := [(2, .inr (.inr (some (s)))), (0, .inr (.inr (some (770)))), (1, .inr (.inr (some (l))))]) (st' := [.inr (.inr (some (770)))]) rfl ?_
    refine ez_cv hB4 u770 rfl rfl rfl tq_75 rfl rfl rfl (rd_mend hB4 u770 (by omega) (by omega) (fun e9 => ez_K0 ?_) (fun e9 => ez_Kp (xc_exc hB4 rfl) rfl (k0 (fun w => e9 (by rw [a4, s4]; exact ce_tok F1.1.2 w.2)) (fun w => e9 (by rw [a4, s4]; exact pkx_nb F1.1.2 w.2)) g4 τ4 hB4 hx (by omega) (by omega))))
    refine ez_less [(2, .inr (.inr (some (s)))), (0, .inr (.inr (some (770)))), (1, .inr (.inr (some (l))))] rfl ⟨rfl, rfl, rfl, trivial⟩ ?_
    have eE : rz_tok (mb h) (mt h 1 - mf h 1).toNat (mf h 1) = mt h 1 := by omega
    rw [eE] at hS4 r4 c4
    refine rd_property_b9 hB t770 tl hl hZ hN F1.1.2 (by omega) hB4 u770 ull us ((hx.1 49 (by rw [t49]; decide)).1.trans t49) ((hx.1 50 (by rw [t50]; decide)).1.trans t50) (fun s2 l2 hl2 => ?_) hS4 ⟨v1, v2⟩ hx (by rw [el, J3]; exact e1) (by rw [el, J3]; exact e2) (fun j j1 j2 _ _ => by rw [el, J3, J2 j j1 j2]; exact m1.l hl.1 j) (by omega) (by omega) (by omega) (by omega) k1 k0
    have ts2 := hT s2 l2 hl2
    refine nz_S_tr hB (fun q hq => (hx.1 q (by rcases hq with w | w <;> rw [w] <;> decide)).2 (fun e => by rw [e, t770] at hq; rcases hq with w | w <;> cases w) (fun e => by rw [e, tl] at hq; rcases hq with w | w <;> cases w) (by rcases hq with w | w <;> rw [w] <;> decide) (by rcases hq with w | w <;> rw [w] <;> decide)) ts2 (hZ s2 l2 hl2).1
  · rw [a1, s1, m1.b] at hno; exact hno w.1
  · rw [a1, s1, m1.b] at hno; exact hno w.1
  · rw [m2.1.2.1, m1.1.2.1]; omega
  · rw [m2.1.1, m1.1.1]; omega
end EzPs
def mrw (h : cz_H) (sp cp k : Nat) (L : List Int) : Prop := qz_I h cp k = (L.length : Int) ∧ 0 ≤ qz_I h sp k ∧ qz_I h sp k + (L.length : Int) ≤ pn h ∧ ∀ (j : Nat) v, L[j]? = some v → pl h (qz_I h sp k + (j : Int)) = v
theorem mrw_row {τ τ1 : Nat → Nat} {h g : cz_H} {X : Nat → Bool} {sp cp K : Nat} {A : List Int} (hk : kl X τ h τ1 g A) (hsp : ∀ j, qz_I g sp j = if j = K then pn h else qz_I h sp j) (hcp : ∀ j, qz_I g cp j = if j = K then (A.length : Int) else qz_I h cp j) (h0 : 0 ≤ pn h) : mrw g sp cp K A := by
  have s := hsp K
  rw [if_pos rfl] at s
  have c := hcp K
  rw [if_pos rfl] at c
  obtain ⟨-, -, -, -, a5, -, a7, -⟩ := hk
  exact ⟨c, by rw [s]; exact h0, by rw [s, a5]; exact Int.le_refl _, fun j v hj => by rw [s]; exact a7 j v hj⟩
theorem mrw.row {τ τ1 : Nat → Nat} {h g : cz_H} {X : Nat → Bool} {sp cp k K : Nat} {A L : List Int} (a : mrw h sp cp k L) (hk : kl X τ h τ1 g A) (hsp : ∀ j, qz_I g sp j = if j = K then pn h else qz_I h sp j) (hcp : ∀ j, qz_I g cp j = if j = K then (A.length : Int) else qz_I h cp j) (hne : k ≠ K) : mrw g sp cp k L := by
  have s := hsp k
  rw [if_neg hne] at s
  have c := hcp k
  rw [if_neg hne] at c
  obtain ⟨-, -, -, -, a5, a6, -⟩ := hk
  obtain ⟨b1, b2, b3, b4⟩ := a
  refine ⟨by rw [c]; exact b1, by rw [s]; exact b2, by rw [s, a5]; omega, fun j v hj => ?_⟩
  have hl : j < L.length := (List.getElem?_eq_some_iff.mp hj).1
  rw [s, a6 _ (by omega) (by omega)]
  exact b4 j v hj
theorem mrw.tr {h g : cz_H} {sp cp k : Nat} {L : List Int} (a : mrw h sp cp k L) (es : qz_I g sp k = qz_I h sp k) (ec : qz_I g cp k = qz_I h cp k) (hn : pn h ≤ pn g) (hp : ∀ j, 0 ≤ j → j < pn h → pl g j = pl h j) : mrw g sp cp k L := by
  obtain ⟨b1, b2, b3, b4⟩ := a
  refine ⟨by rw [ec]; exact b1, by rw [es]; exact b2, by rw [es]; omega, fun j v hj => ?_⟩
  have hl : j < L.length := (List.getElem?_eq_some_iff.mp hj).1
  rw [es, hp _ (by omega) (by omega)]
  exact b4 j v hj
theorem rz_one_e {b : Int → Int} {s t : Int} (hs : s ≤ t) (h : rz_code b s t ≠ -1) : rz_first b s t = rz_code b s t ∧ rz_last b s t = rz_code b s t := by
  have dl := rz_dots_le b (t - s).toNat s
  have l := rz_code_len h
  have e2 : rz_dots b (t - s).toNat s = t := by
    by_cases e : rz_dots b (t - s).toNat s < t
    · have := rz_hex_all b _ _ _ (rz_code_hex h) (rz_dots b (t - s).toNat s) dl.1 (by omega)
      rw [rz_dots_at b _ _ (by omega)] at this
      exact absurd this (by decide)
    · omega
  have ef : rz_first b s t = rz_code b s t := by unfold rz_first; rw [e2]
  exact ⟨ef, by unfold rz_last; rw [if_neg (by omega), ef]⟩
section EzFo
variable {d : Nat} {h : cz_H} {τ : Nat → Nat} {Q : cz_F → Prop} {l : Nat}
theorem rd_folding9 (hB : ez_B τ h) (t770 : τ 770 = 75) (tl : τ l = 13) (hl : lz l) (usp : τ (qz_P h l 7) = 15) (ucp : τ (qz_P h l 8) = 16) (tpo : τ (po h) = 17) (h0 : 0 ≤ pn h) (hn : pn h ≤ qz_N h (po h)) (hpm : pn h + 75 ≤ 38400) (hNh : 1024 ≤ qz_N h (po h)) (hr1 : h.1 + 100 ≤ 600192) (hr2 : h.2.1 + 240000 ≤ 7302232) (hlg : lg (qz_P h l 7) (qz_P h l 8) h) (hc0 : ∀ j, qz_I h (qz_P h l 8) j = 0) (hF : ∀ k, 0 ≤ k → k < 3 → (0 ≤ mf h k ∧ mf h k ≤ mt h k) ∧ mt h k ≤ 4096) (hTr : ∀ k, 0 ≤ k → k < 3 → mf h k < mt h k → ¬ bk (mb h (mf h k)) ∧ ¬ bk (mb h (mt h k - 1))) (k1 : ∀ g τ1 A, ez_B τ1 g → (pj (lX l (qz_P h l 7) (qz_P h l 8)) τ h τ1 g A ∧ lg (qz_P h l 7) (qz_P h l 8) g) → A.length ≤ 75 → qz_I g l 0 = qz_I h l 0 → rz_G2 (mb h) (mf h) (mt h) → qz_I g l 1 = qz_I g l 2 → qz_I g l 1 = rz_code (mb h) (mf h 0) (mt h 0) → qz_I g l 5 = mb h (mf h 1) → (∃ vs, rz_rw (mb h) 18 (mf h 2) (mt h 2) = some vs ∧ mrw g (qz_P h l 7) (qz_P h l 8) 0 vs) → Q (.inl none, g)) (k0 : ∀ g τ1 A, ez_B τ1 g → (pj (lX l (qz_P h l 7) (qz_P h l 8)) τ h τ1 g A ∧ lg (qz_P h l 7) (qz_P h l 8) g) → qz_I g l 0 = qz_I h l 0 → ¬ rz_G2 (mb h) (mf h) (mt h) → Q (.inr g.1, xc g 1)) : ez_W (d + 9) cm_259 0 [(0, .inr (.inr (some (770)))), (1, .inr (.inr (some (l))))] [] h Q := by
  refine ez_go (n := 2) (pc' := 2) (L' := [(0, .inr (.inr (some (770)))), (1, .inr (.inr (some (l))))]) (st' := [.inl (0), .inr (.inr (some (770)))]) rfl ?_
  have F0 := hF 0 (by omega) (by omega)
  have F1 := hF 1 (by omega) (by omega)
  have F2 := hF 2 (by omega) (by omega)
  refine ez_cv hB t770 rfl rfl rfl tq_75 rfl rfl rfl (rd_field hB t770 (by omega) (by omega) (fun g1 hB1 m1 a1 s1 => ez_K0 ?_))
  have u1a : (g1).1 = h.1 := m1.1.1
  have u1b : (g1).2.1 = h.2.1 := m1.1.2.1
  refine ez_go (n := 2) (pc' := 7) (L' := [(0, .inr (.inr (some (770)))), (1, .inr (.inr (some (l))))]) (st' := [.inr (.inr (some (l))), .inr (.inr (some (770)))]) rfl ?_
  have eb1 : mb g1 = mb h := m1.mw.b hl.2.1
  refine ez_cv hB1 t770 rfl rfl rfl tq_75 rfl rfl rfl (rd_codes hB1 t770 tl (by omega) (by omega) (by omega) (by omega) (fun g2 hB2 m2 a2 e1 e2 v1 v2 J2 => ez_K0 ?_) (fun hno g2 hB2 m2 J2 => ez_Kp (xc_exc hB2 rfl) rfl (k0 g2 τ [] hB2 ⟨(m1.mw.trans m2.mw).jp (lX_l _ _ _) t770 tl tpo hn, hlg.mw (m1.mw.trans m2.mw) t770 tl usp ucp tpo⟩ (by rw [J2 0 (by decide) (by decide)]; exact m1.l hl.1 0) (fun w => hno (by rw [eb1, a1, s1]; have o9 := (rz_one F0.1.2).mpr w.1; exact ⟨o9.1, o9.2.1⟩)))))
  rw [eb1, a1, s1] at e1 e2 v1 v2
  have M2 : mw h g2 l := m1.mw.trans m2.mw
  have u2a : (g2).1 = h.1 := M2.1.1
  have u2b : (g2).2.1 = h.2.1 := M2.1.2.1
  have q789 : qz_I g2 789 (0 : Int).toNat = mf h 0 := M2.f hl.2.2.1 0
  have q790 : qz_I g2 790 (0 : Int).toNat = mt h 0 := M2.t hl.2.2.2 0
  have z2 : ∀ j, j ≠ 1 → j ≠ 2 → qz_I g2 l j = qz_I h l j := fun j j1 j2 => by rw [J2 j j1 j2]; exact m1.l hl.1 j
  refine ez_go (n := 2) (pc' := 12) (L' := [(0, .inr (.inr (some (770)))), (1, .inr (.inr (some (l))))]) (st' := [.inr (.inr (some (l))), .inr (.inr (some (770)))]) rfl ?_
  refine ez_gI hB2 tl rfl rfl tq_13 rfl rfl (fun (b1 : -2147483648 ≤ qz_I g2 l 1) (b1' : qz_I g2 l 1 ≤ 2147483647) => ?_)
  refine ez_go (n := 1) (pc' := 16) (L' := [(0, .inr (.inr (some (770)))), (1, .inr (.inr (some (l))))]) (st' := [.inr (.inr (some (l))), .inl (qz_I g2 l 1), .inr (.inr (some (770)))]) rfl ?_
  refine ez_gI hB2 tl rfl rfl tq_13 rfl rfl (fun (b2 : -2147483648 ≤ qz_I g2 l 2) (b2' : qz_I g2 l 2 ≤ 2147483647) => ?_)
  refine ez_icmp rfl rfl ⟨by first | omega | exact (sz_i32 _).1, by first | omega | exact (sz_i32 _).2⟩ ⟨by first | omega | exact (sz_i32 _).1, by first | omega | exact (sz_i32 _).2⟩ (fun (c3 : (qz_I g2 l 1) ≠ (qz_I g2 l 2)) => ?_) (fun (c3 : ¬((qz_I g2 l 1) ≠ (qz_I g2 l 2))) => ?_)
  · skip
    refine ez_go (n := 1) (pc' := 45) (L' := [(0, .inr (.inr (some (770)))), (1, .inr (.inr (some (l))))]) (st' := [.inl (0), .inr (.inr (some (770)))]) rfl ?_
    refine ez_cv hB2 t770 rfl rfl rfl tq_75 rfl rfl rfl (rd_can0 (by omega) (by omega) (ez_Kp (xc_exc hB2 rfl) rfl (k0 g2 τ [] hB2 ⟨M2.jp (lX_l _ _ _) t770 tl tpo hn, hlg.mw M2 t770 tl usp ucp tpo⟩ (z2 0 (by decide) (by decide)) (fun w => by have o9 := (rz_one F0.1.2).mpr w.1; omega))))
  · skip
    refine ez_go (n := 1) (pc' := 23) (L' := [(0, .inr (.inr (some (770)))), (1, .inr (.inr (some (l))))]) (st' := [.inr (.inr (some (770))), .inr (.inr (some (770)))]) rfl ?_
    refine ez_gC (p := 790) (tg := 81) hB2 t770 rfl rfl tq_75 rfl rfl (fun (t790 : _ = 81) => ?_)
    refine ez_go (n := 1) (pc' := 27) (L' := [(0, .inr (.inr (some (770)))), (1, .inr (.inr (some (l))))]) (st' := [.inl (0), .inr (.inr (some (790))), .inr (.inr (some (770)))]) rfl ?_
    have n5 : 8 ≤ qz_N g2 790 ∧ qz_N g2 790 ≤ 8 := ez_len hB2 t790 tq_81 rfl
    refine ez_aI hB2 t790 rfl tq_81 rfl rfl (by omega) (by omega) (fun (b4 : 0 ≤ qz_I g2 790 (0 : Int).toNat) (b4' : qz_I g2 790 (0 : Int).toNat ≤ 4096) => ?_)
    refine ez_go (n := 1) (pc' := 29) (L' := [(0, .inr (.inr (some (770)))), (1, .inr (.inr (some (l))))]) (st' := [.inr (.inr (some (770))), .inl (qz_I g2 790 (0 : Int).toNat), .inr (.inr (some (770)))]) rfl ?_
    refine ez_gC (p := 789) (tg := 80) hB2 t770 rfl rfl tq_75 rfl rfl (fun (t789 : _ = 80) => ?_)
    refine ez_go (n := 1) (pc' := 33) (L' := [(0, .inr (.inr (some (770)))), (1, .inr (.inr (some (l))))]) (st' := [.inl (0), .inr (.inr (some (789))), .inl (qz_I g2 790 (0 : Int).toNat), .inr (.inr (some (770)))]) rfl ?_
    have n7 : 8 ≤ qz_N g2 789 ∧ qz_N g2 789 ≤ 8 := ez_len hB2 t789 tq_80 rfl
    refine ez_aI hB2 t789 rfl tq_80 rfl rfl (by omega) (by omega) (fun (b6 : 0 ≤ qz_I g2 789 (0 : Int).toNat) (b6' : qz_I g2 789 (0 : Int).toNat ≤ 4096) => ?_)
    refine ez_go (n := 2) (pc' := 37) (L' := [(0, .inr (.inr (some (770)))), (1, .inr (.inr (some (l))))]) (st' := [.inl (6), .inl ((qz_I g2 790 (0 : Int).toNat) - (qz_I g2 789 (0 : Int).toNat)), .inr (.inr (some (770)))]) rfl ?_
    refine ez_icmp rfl rfl ⟨by first | omega | exact (sz_i32 _).1, by first | omega | exact (sz_i32 _).2⟩ ⟨by first | omega | exact (sz_i32 _).1, by first | omega | exact (sz_i32 _).2⟩ (fun (c8 : (6) < ((qz_I g2 790 (0 : Int).toNat) - (qz_I g2 789 (0 : Int).toNat))) => ?_) (fun (c8 : ¬((6) < ((qz_I g2 790 (0 : Int).toNat) - (qz_I g2 789 (0 : Int).toNat)))) => ?_)
    · skip
      refine ez_go (n := 1) (pc' := 45) (L' := [(0, .inr (.inr (some (770)))), (1, .inr (.inr (some (l))))]) (st' := [.inl (0), .inr (.inr (some (770)))]) rfl ?_
      refine ez_cv hB2 t770 rfl rfl rfl tq_75 rfl rfl rfl (rd_can0 (by omega) (by omega) (ez_Kp (xc_exc hB2 rfl) rfl (k0 g2 τ [] hB2 ⟨M2.jp (lX_l _ _ _) t770 tl tpo hn, hlg.mw M2 t770 tl usp ucp tpo⟩ (z2 0 (by decide) (by decide)) (fun w => by have o9 := (rz_one F0.1.2).mpr w.1; omega))))
    · skip
      refine ez_go (n := 2) (pc' := 45) (L' := [(0, .inr (.inr (some (770)))), (1, .inr (.inr (some (l))))]) (st' := [.inl (1), .inr (.inr (some (770)))]) rfl ?_
      refine ez_cv hB2 t770 rfl rfl rfl tq_75 rfl rfl rfl (rd_can1 (by omega) (by omega) (ez_K0 ?_))
      have o0 : rz_code (mb h) (mf h 0) (mt h 0) ≠ -1 := (rz_one F0.1.2).mp ⟨v1, v2, by omega, by omega⟩
      have o12 : qz_I g2 l 1 = qz_I g2 l 2 := by omega
      refine ez_go (n := 2) (pc' := 50) (L' := [(0, .inr (.inr (some (770)))), (1, .inr (.inr (some (l))))]) (st' := [.inl (1), .inr (.inr (some (770)))]) rfl ?_
      refine ez_cv hB2 t770 rfl rfl rfl tq_75 rfl rfl rfl (rd_field hB2 t770 (by omega) (by omega) (fun g3 hB3 m3 a3 s3 => ez_K0 ?_))
      rw [M2.f hl.2.2.1] at a3
      rw [M2.t hl.2.2.2] at s3
      have M3 : mw h g3 l := M2.trans m3.mw
      have u3a : (g3).1 = h.1 := M3.1.1
      have u3b : (g3).2.1 = h.2.1 := M3.1.2.1
      have J3 : ∀ j, qz_I g3 l j = qz_I g2 l j := fun j => m3.l hl.1 j
      refine ez_go (n := 2) (pc' := 55) (L' := [(0, .inr (.inr (some (770)))), (1, .inr (.inr (some (l))))]) (st' := [.inr (.inr (some (770))), .inr (.inr (some (l)))]) rfl ?_
      refine ez_cv hB3 t770 rfl rfl rfl tq_75 rfl rfl rfl (rd_peek hB3 t770 (fun p1 p2 => ez_K1 ?_))
      obtain ⟨pv, epv⟩ : ∃ pv, pv = mk (mb g3) (qz_I g3 770 17) (qz_I g3 770 18) := ⟨_, rfl⟩
      rw [← epv] at p1 p2 ⊢
      rw [M3.b hl.2.1, a3, s3] at epv
      refine ez_pf hB3 tl rfl rfl tq_13 rfl rfl rfl rfl (ez_vdI rfl rfl (by omega) (by omega)) (fun hB9 w10 => ?_)
      have a4 : qz_I (dz_put g3 l 5 (ez_v (.inl (pv)))) 770 17 = mf h 1 := by rw [ez_put_I (fun w => hl.1 w.1.symm)]; exact a3
      refine ez_go (n := 2) (pc' := 63) (L' := [(0, .inr (.inr (some (770)))), (1, .inr (.inr (some (l))))]) (st' := [.inr (.inr (some (770))), .inr (.inr (some (770)))]) rfl ?_
      refine ez_gI hB9 t770 rfl rfl tq_75 rfl rfl (fun (b11 : 0 ≤ qz_I (dz_put g3 l 5 (ez_v (.inl (pv)))) 770 17) (b11' : qz_I (dz_put g3 l 5 (ez_v (.inl (pv)))) 770 17 ≤ 4200) => ?_)
      refine ez_go (n := 2) (pc' := 68) (L' := [(0, .inr (.inr (some (770)))), (1, .inr (.inr (some (l))))]) (st' := [.inl ((qz_I (dz_put g3 l 5 (ez_v (.inl (pv)))) 770 17) + (1)), .inr (.inr (some (770)))]) rfl ?_
      refine ez_pf hB9 t770 rfl rfl tq_75 rfl rfl rfl rfl (ez_vdI rfl rfl (by omega) (by omega)) (fun hB12 w13 => ?_)
      have M5 : mw h (dz_put (dz_put g3 l 5 (ez_v (.inl (pv)))) 770 17 (ez_v (.inl ((qz_I (dz_put g3 l 5 (ez_v (.inl (pv)))) 770 17) + (1))))) l := (M3.trans (mw_put hl.1)).trans mz_put.mw
      have z5 : ∀ j, j ≠ 1 → j ≠ 2 → j ≠ 5 → qz_I (dz_put (dz_put g3 l 5 (ez_v (.inl (pv)))) 770 17 (ez_v (.inl ((qz_I (dz_put g3 l 5 (ez_v (.inl (pv)))) 770 17) + (1))))) l j = qz_I h l j := fun j j1 j2 j5 => by rw [mz_put.l hl.1, ez_put_I (fun w => j5 w.2), J3]; exact z2 j j1 j2
      have v5 : qz_I (dz_put (dz_put g3 l 5 (ez_v (.inl (pv)))) 770 17 (ez_v (.inl ((qz_I (dz_put g3 l 5 (ez_v (.inl (pv)))) 770 17) + (1))))) l 5 = pv := (mz_put.l hl.1 5).trans (w10.trans (rz_rd ⟨by omega, by omega⟩))
      have a5 : qz_I (dz_put (dz_put g3 l 5 (ez_v (.inl (pv)))) 770 17 (ez_v (.inl ((qz_I (dz_put g3 l 5 (ez_v (.inl (pv)))) 770 17) + (1))))) 770 17 = mf h 1 + 1 := by rw [w13, rz_rd ⟨by omega, by omega⟩, a4]
      have s5 : qz_I (dz_put (dz_put g3 l 5 (ez_v (.inl (pv)))) 770 17 (ez_v (.inl ((qz_I (dz_put g3 l 5 (ez_v (.inl (pv)))) 770 17) + (1))))) 770 18 = mt h 1 := by rw [ez_put_I (fun w => absurd w.2 (by decide)), ez_put_I (fun w => hl.1 w.1.symm)]; exact s3
      have l5 : qz_I (dz_put (dz_put g3 l 5 (ez_v (.inl (pv)))) 770 17 (ez_v (.inl ((qz_I (dz_put g3 l 5 (ez_v (.inl (pv)))) 770 17) + (1))))) l 1 = qz_I (dz_put (dz_put g3 l 5 (ez_v (.inl (pv)))) 770 17 (ez_v (.inl ((qz_I (dz_put g3 l 5 (ez_v (.inl (pv)))) 770 17) + (1))))) l 2 := by rw [mz_put.l hl.1, mz_put.l hl.1, ez_put_I (fun w => absurd w.2 (by decide)), ez_put_I (fun w => absurd w.2 (by decide)), J3, J3]; exact o12
      have e15 : qz_I (dz_put (dz_put g3 l 5 (ez_v (.inl (pv)))) 770 17 (ez_v (.inl ((qz_I (dz_put g3 l 5 (ez_v (.inl (pv)))) 770 17) + (1))))) l 1 = rz_first (mb h) (mf h 0) (mt h 0) := by rw [mz_put.l hl.1, ez_put_I (fun w => absurd w.2 (by decide)), J3]; exact e1
      have u5a : ((dz_put (dz_put g3 l 5 (ez_v (.inl (pv)))) 770 17 (ez_v (.inl ((qz_I (dz_put g3 l 5 (ez_v (.inl (pv)))) 770 17) + (1)))))).1 = h.1 := M5.1.1
      have u5b : ((dz_put (dz_put g3 l 5 (ez_v (.inl (pv)))) 770 17 (ez_v (.inl ((qz_I (dz_put g3 l 5 (ez_v (.inl (pv)))) 770 17) + (1)))))).2.1 = h.2.1 := M5.1.2.1
      have hB5 := hB12
      generalize (dz_put (dz_put g3 l 5 (ez_v (.inl (pv)))) 770 17 (ez_v (.inl ((qz_I (dz_put g3 l 5 (ez_v (.inl (pv)))) 770 17) + (1))))) = g5 at *
      refine ez_go (n := 2) (pc' := 73) (L' := [(0, .inr (.inr (some (770)))), (1, .inr (.inr (some (l))))]) (st' := [.inr (.inr (some (l))), .inr (.inr (some (770)))]) rfl ?_
      refine ez_gI hB5 tl rfl rfl tq_13 rfl rfl (fun (b14 : -2147483648 ≤ qz_I g5 l 5) (b14' : qz_I g5 l 5 ≤ 2147483647) => ?_)
      refine ez_go (n := 1) (pc' := 78) (L' := [(0, .inr (.inr (some (770)))), (1, .inr (.inr (some (l))))]) (st' := [.inl (67), .inl (qz_I g5 l 5), .inr (.inr (some (770)))]) rfl ?_
      refine ez_icmp rfl rfl ⟨by first | omega | exact (sz_i32 _).1, by first | omega | exact (sz_i32 _).2⟩ ⟨by first | omega | exact (sz_i32 _).1, by first | omega | exact (sz_i32 _).2⟩ (fun (c15 : (qz_I g5 l 5) = (67)) => ?_) (fun (c15 : ¬((qz_I g5 l 5) = (67))) => ?_)
      · skip
        refine ez_go (n := 2) (pc' := 113) (L' := [(0, .inr (.inr (some (770)))), (1, .inr (.inr (some (l))))]) (st' := [.inl (1), .inr (.inr (some (770)))]) rfl ?_
        refine ez_cv hB5 t770 rfl rfl rfl tq_75 rfl rfl rfl (rd_can1 (by omega) (by omega) (ez_K0 ?_))
        refine ez_go (n := 1) (pc' := 117) (L' := [(0, .inr (.inr (some (770)))), (1, .inr (.inr (some (l))))]) (st' := [.inr (.inr (some (770)))]) rfl ?_
        refine ez_cv hB5 t770 rfl rfl rfl tq_75 rfl rfl rfl (rd_mend hB5 t770 (by omega) (by omega) (fun e9 => ez_K0 ?_) (fun e9 => ez_Kp (xc_exc hB5 rfl) rfl (k0 g5 τ [] hB5 ⟨M5.jp (lX_l _ _ _) t770 tl tpo hn, hlg.mw M5 t770 tl usp ucp tpo⟩ (z5 0 (by decide) (by decide) (by decide)) (fun w => by have w3 := w.2.2.1; omega))))
        refine ez_go (n := 2) (pc' := 122) (L' := [(0, .inr (.inr (some (770)))), (1, .inr (.inr (some (l))))]) (st' := [.inl (2), .inr (.inr (some (770)))]) rfl ?_
        refine ez_cv hB5 t770 rfl rfl rfl tq_75 rfl rfl rfl (rd_field hB5 t770 (by omega) (by omega) (fun g6 hB6 m6 a6 s6 => ez_K0 ?_))
        rw [M5.f hl.2.2.1] at a6
        rw [M5.t hl.2.2.2] at s6
        have M6 : mw h g6 l := M5.trans m6.mw
        have u6a : (g6).1 = h.1 := M6.1.1
        have u6b : (g6).2.1 = h.2.1 := M6.1.2.1
        have J6 : ∀ j, qz_I g6 l j = qz_I g5 l j := fun j => m6.l hl.1 j
        have z6 : ∀ j, j ≠ 1 → j ≠ 2 → j ≠ 5 → qz_I g6 l j = qz_I h l j := fun j j1 j2 j5 => by rw [J6]; exact z5 j j1 j2 j5
        refine ez_go (n := 4) (pc' := 130) (L' := [(0, .inr (.inr (some (770)))), (1, .inr (.inr (some (l))))]) (st' := [.inl (18), .inl (0), .inr (.inr (some (l))), .inr (.inr (some (770)))]) rfl ?_
        have e7 : qz_P g6 l 7 = qz_P h l 7 := by unfold qz_P; rw [z6 7 (by decide) (by decide) (by decide)]
        have e8 : qz_P g6 l 8 = qz_P h l 8 := by unfold qz_P; rw [z6 8 (by decide) (by decide) (by decide)]
        have np7 : po h ≠ 770 := fun e => by rw [e, t770] at tpo; cases tpo
        have npl : po h ≠ l := fun e => by rw [e, tl] at tpo; cases tpo
        have nc7 : qz_P h l 8 ≠ 770 := fun e => by rw [e, t770] at ucp; cases ucp
        have ncl : qz_P h l 8 ≠ l := fun e => by rw [e, tl] at ucp; cases ucp
        have eb := M6.b hl.2.1
        have eN : qz_N g6 (po h) = qz_N h (po h) := M6.N np7 npl
        have hsk : mf h 2 = rz_skip (mb h) (mt h 2 - mf h 2).toNat (mf h 2) := by
          by_cases e : mf h 2 < mt h 2
          · exact (skip_id (hTr 2 (by omega) (by omega) e).1).symm
          · rw [show (mt h 2 - mf h 2).toNat = 0 by omega]; rfl
        refine ez_cv hB6 t770 rfl rfl rfl tq_75 rfl rfl rfl (rd_row (s := mf h 2) hB6 t770 (ez_t771 hB t770) tl (by rw [e8]; exact ucp) (by rw [M6.epo]; exact tpo) hl.1 (by omega) (by omega) (by rw [M6.epn]; exact h0) (by rw [M6.epn, M6.epo, eN]; exact hn) (by rw [M6.epn]; omega) (by rw [M6.epo, eN]; exact hNh) (by omega) (by omega) (by omega) (by omega) (by omega) (by omega) (by omega) (by omega) (by rw [a6, s6, eb]; exact hsk) (by rw [a6, s6, eb]; exact fun w => (hTr 2 (by omega) (by omega) w).2) (by rw [e8, M6.I nc7 ncl]; exact hc0 _) (fun A hA g8 τ8 hB8 hk8 a17 hlc hsp hcp => ez_K0 ?_) (fun hA g8 τ8 A hB8 hk8 hlc hsp hcp => ez_Kp (xc_exc hB8 rfl) rfl (k0 g8 τ8 _ hB8 ⟨(M6.jp (lX_l l (qz_P h l 7) (qz_P h l 8)) t770 tl tpo hn).trans (hk8.jp (fun q hq => by rw [e7, e8]; exact lX_r hq)) h0, lg.row (hlg.mw M6 t770 tl usp ucp tpo) (by rw [e7, e8] at hk8; exact hk8) (by rw [e7] at hsp; exact hsp) (by rw [e8] at hcp; exact hcp)⟩ (by unfold qz_I; rw [hlc]; exact z6 0 (by decide) (by decide) (by decide)) (fun w => w.2.1 (by rw [eb, s6] at hA; exact hA)))))
        rw [e7, e8] at hk8; rw [e7] at hsp; rw [e8] at hcp
        have h18 := rw_18 hA
        refine ez_ret0 rfl rfl (k1 g8 τ8 _ hB8 ⟨(M6.jp (lX_l l (qz_P h l 7) (qz_P h l 8)) t770 tl tpo hn).trans (hk8.jp (fun q hq => lX_r hq)) h0, lg.row (hlg.mw M6 t770 tl usp ucp tpo) hk8 hsp hcp⟩ (by rw [List.nil_append]; omega) (by unfold qz_I; rw [hlc]; exact z6 0 (by decide) (by decide) (by decide)) ⟨o0, (fun w => by rw [eb, s6, w] at hA; cases hA), by omega, by rw [mk_in (by omega)] at epv; omega⟩ (by unfold qz_I; rw [hlc]; show qz_I g6 l 1 = qz_I g6 l 2; rw [J6, J6]; exact l5) (by unfold qz_I; rw [hlc]; show qz_I g6 l 1 = _; rw [J6]; exact e15.trans (rz_one_e F0.1.2 o0).1) (by unfold qz_I; rw [hlc]; show qz_I g6 l 5 = _; rw [J6, v5, epv]; exact mk_in (by omega)) ⟨_, (by rw [eb, s6] at hA; exact hA), mrw_row hk8 hsp hcp (by rw [M6.epn]; exact h0)⟩)
      · skip
        refine ez_go (n := 1) (pc' := 82) (L' := [(0, .inr (.inr (some (770)))), (1, .inr (.inr (some (l))))]) (st' := [.inr (.inr (some (l))), .inr (.inr (some (770)))]) rfl ?_
        refine ez_gI hB5 tl rfl rfl tq_13 rfl rfl (fun (b16 : -2147483648 ≤ qz_I g5 l 5) (b16' : qz_I g5 l 5 ≤ 2147483647) => ?_)
        refine ez_go (n := 1) (pc' := 87) (L' := [(0, .inr (.inr (some (770)))), (1, .inr (.inr (some (l))))]) (st' := [.inl (70), .inl (qz_I g5 l 5), .inr (.inr (some (770)))]) rfl ?_
        refine ez_icmp rfl rfl ⟨by first | omega | exact (sz_i32 _).1, by first | omega | exact (sz_i32 _).2⟩ ⟨by first | omega | exact (sz_i32 _).1, by first | omega | exact (sz_i32 _).2⟩ (fun (c17 : (qz_I g5 l 5) = (70)) => ?_) (fun (c17 : ¬((qz_I g5 l 5) = (70))) => ?_)
        · skip
          refine ez_go (n := 2) (pc' := 113) (L' := [(0, .inr (.inr (some (770)))), (1, .inr (.inr (some (l))))]) (st' := [.inl (1), .inr (.inr (some (770)))]) rfl ?_
          refine ez_cv hB5 t770 rfl rfl rfl tq_75 rfl rfl rfl (rd_can1 (by omega) (by omega) (ez_K0 ?_))
          refine ez_go (n := 1) (pc' := 117) (L' := [(0, .inr (.inr (some (770)))), (1, .inr (.inr (some (l))))]) (st' := [.inr (.inr (some (770)))]) rfl ?_
          refine ez_cv hB5 t770 rfl rfl rfl tq_75 rfl rfl rfl (rd_mend hB5 t770 (by omega) (by omega) (fun e9 => ez_K0 ?_) (fun e9 => ez_Kp (xc_exc hB5 rfl) rfl (k0 g5 τ [] hB5 ⟨M5.jp (lX_l _ _ _) t770 tl tpo hn, hlg.mw M5 t770 tl usp ucp tpo⟩ (z5 0 (by decide) (by decide) (by decide)) (fun w => by have w3 := w.2.2.1; omega))))
          refine ez_go (n := 2) (pc' := 122) (L' := [(0, .inr (.inr (some (770)))), (1, .inr (.inr (some (l))))]) (st' := [.inl (2), .inr (.inr (some (770)))]) rfl ?_
          refine ez_cv hB5 t770 rfl rfl rfl tq_75 rfl rfl rfl (rd_field hB5 t770 (by omega) (by omega) (fun g6 hB6 m6 a6 s6 => ez_K0 ?_))
          rw [M5.f hl.2.2.1] at a6
          rw [M5.t hl.2.2.2] at s6
          have M6 : mw h g6 l := M5.trans m6.mw
          have u6a : (g6).1 = h.1 := M6.1.1
          have u6b : (g6).2.1 = h.2.1 := M6.1.2.1
          have J6 : ∀ j, qz_I g6 l j = qz_I g5 l j := fun j => m6.l hl.1 j
          have z6 : ∀ j, j ≠ 1 → j ≠ 2 → j ≠ 5 → qz_I g6 l j = qz_I h l j := fun j j1 j2 j5 => by rw [J6]; exact z5 j j1 j2 j5
          refine ez_go (n := 4) (pc' := 130) (L' := [(0, .inr (.inr (some (770)))), (1, .inr (.inr (some (l))))]) (st' := [.inl (18), .inl (0), .inr (.inr (some (l))), .inr (.inr (some (770)))]) rfl ?_
          have e7 : qz_P g6 l 7 = qz_P h l 7 := by unfold qz_P; rw [z6 7 (by decide) (by decide) (by decide)]
          have e8 : qz_P g6 l 8 = qz_P h l 8 := by unfold qz_P; rw [z6 8 (by decide) (by decide) (by decide)]
          have np7 : po h ≠ 770 := fun e => by rw [e, t770] at tpo; cases tpo
          have npl : po h ≠ l := fun e => by rw [e, tl] at tpo; cases tpo
          have nc7 : qz_P h l 8 ≠ 770 := fun e => by rw [e, t770] at ucp; cases ucp
          have ncl : qz_P h l 8 ≠ l := fun e => by rw [e, tl] at ucp; cases ucp
          have eb := M6.b hl.2.1
          have eN : qz_N g6 (po h) = qz_N h (po h) := M6.N np7 npl
          have hsk : mf h 2 = rz_skip (mb h) (mt h 2 - mf h 2).toNat (mf h 2) := by
            by_cases e : mf h 2 < mt h 2
            · exact (skip_id (hTr 2 (by omega) (by omega) e).1).symm
            · rw [show (mt h 2 - mf h 2).toNat = 0 by omega]; rfl
          refine ez_cv hB6 t770 rfl rfl rfl tq_75 rfl rfl rfl (rd_row (s := mf h 2) hB6 t770 (ez_t771 hB t770) tl (by rw [e8]; exact ucp) (by rw [M6.epo]; exact tpo) hl.1 (by omega) (by omega) (by rw [M6.epn]; exact h0) (by rw [M6.epn, M6.epo, eN]; exact hn) (by rw [M6.epn]; omega) (by rw [M6.epo, eN]; exact hNh) (by omega) (by omega) (by omega) (by omega) (by omega) (by omega) (by omega) (by omega) (by rw [a6, s6, eb]; exact hsk) (by rw [a6, s6, eb]; exact fun w => (hTr 2 (by omega) (by omega) w).2) (by rw [e8, M6.I nc7 ncl]; exact hc0 _) (fun A hA g8 τ8 hB8 hk8 a17 hlc hsp hcp => ez_K0 ?_) (fun hA g8 τ8 A hB8 hk8 hlc hsp hcp => ez_Kp (xc_exc hB8 rfl) rfl (k0 g8 τ8 _ hB8 ⟨(M6.jp (lX_l l (qz_P h l 7) (qz_P h l 8)) t770 tl tpo hn).trans (hk8.jp (fun q hq => by rw [e7, e8]; exact lX_r hq)) h0, lg.row (hlg.mw M6 t770 tl usp ucp tpo) (by rw [e7, e8] at hk8; exact hk8) (by rw [e7] at hsp; exact hsp) (by rw [e8] at hcp; exact hcp)⟩ (by unfold qz_I; rw [hlc]; exact z6 0 (by decide) (by decide) (by decide)) (fun w => w.2.1 (by rw [eb, s6] at hA; exact hA)))))
          rw [e7, e8] at hk8; rw [e7] at hsp; rw [e8] at hcp
          have h18 := rw_18 hA
          refine ez_ret0 rfl rfl (k1 g8 τ8 _ hB8 ⟨(M6.jp (lX_l l (qz_P h l 7) (qz_P h l 8)) t770 tl tpo hn).trans (hk8.jp (fun q hq => lX_r hq)) h0, lg.row (hlg.mw M6 t770 tl usp ucp tpo) hk8 hsp hcp⟩ (by rw [List.nil_append]; omega) (by unfold qz_I; rw [hlc]; exact z6 0 (by decide) (by decide) (by decide)) ⟨o0, (fun w => by rw [eb, s6, w] at hA; cases hA), by omega, by rw [mk_in (by omega)] at epv; omega⟩ (by unfold qz_I; rw [hlc]; show qz_I g6 l 1 = qz_I g6 l 2; rw [J6, J6]; exact l5) (by unfold qz_I; rw [hlc]; show qz_I g6 l 1 = _; rw [J6]; exact e15.trans (rz_one_e F0.1.2 o0).1) (by unfold qz_I; rw [hlc]; show qz_I g6 l 5 = _; rw [J6, v5, epv]; exact mk_in (by omega)) ⟨_, (by rw [eb, s6] at hA; exact hA), mrw_row hk8 hsp hcp (by rw [M6.epn]; exact h0)⟩)
        · skip
          refine ez_go (n := 1) (pc' := 91) (L' := [(0, .inr (.inr (some (770)))), (1, .inr (.inr (some (l))))]) (st' := [.inr (.inr (some (l))), .inr (.inr (some (770)))]) rfl ?_
          refine ez_gI hB5 tl rfl rfl tq_13 rfl rfl (fun (b18 : -2147483648 ≤ qz_I g5 l 5) (b18' : qz_I g5 l 5 ≤ 2147483647) => ?_)
          refine ez_go (n := 1) (pc' := 96) (L' := [(0, .inr (.inr (some (770)))), (1, .inr (.inr (some (l))))]) (st' := [.inl (83), .inl (qz_I g5 l 5), .inr (.inr (some (770)))]) rfl ?_
          refine ez_icmp rfl rfl ⟨by first | omega | exact (sz_i32 _).1, by first | omega | exact (sz_i32 _).2⟩ ⟨by first | omega | exact (sz_i32 _).1, by first | omega | exact (sz_i32 _).2⟩ (fun (c19 : (qz_I g5 l 5) = (83)) => ?_) (fun (c19 : ¬((qz_I g5 l 5) = (83))) => ?_)
          · skip
            refine ez_go (n := 2) (pc' := 113) (L' := [(0, .inr (.inr (some (770)))), (1, .inr (.inr (some (l))))]) (st' := [.inl (1), .inr (.inr (some (770)))]) rfl ?_
            refine ez_cv hB5 t770 rfl rfl rfl tq_75 rfl rfl rfl (rd_can1 (by omega) (by omega) (ez_K0 ?_))
            refine ez_go (n := 1) (pc' := 117) (L' := [(0, .inr (.inr (some (770)))), (1, .inr (.inr (some (l))))]) (st' := [.inr (.inr (some (770)))]) rfl ?_
            refine ez_cv hB5 t770 rfl rfl rfl tq_75 rfl rfl rfl (rd_mend hB5 t770 (by omega) (by omega) (fun e9 => ez_K0 ?_) (fun e9 => ez_Kp (xc_exc hB5 rfl) rfl (k0 g5 τ [] hB5 ⟨M5.jp (lX_l _ _ _) t770 tl tpo hn, hlg.mw M5 t770 tl usp ucp tpo⟩ (z5 0 (by decide) (by decide) (by decide)) (fun w => by have w3 := w.2.2.1; omega))))
            refine ez_go (n := 2) (pc' := 122) (L' := [(0, .inr (.inr (some (770)))), (1, .inr (.inr (some (l))))]) (st' := [.inl (2), .inr (.inr (some (770)))]) rfl ?_
            refine ez_cv hB5 t770 rfl rfl rfl tq_75 rfl rfl rfl (rd_field hB5 t770 (by omega) (by omega) (fun g6 hB6 m6 a6 s6 => ez_K0 ?_))
            rw [M5.f hl.2.2.1] at a6
            rw [M5.t hl.2.2.2] at s6
            have M6 : mw h g6 l := M5.trans m6.mw
            have u6a : (g6).1 = h.1 := M6.1.1
            have u6b : (g6).2.1 = h.2.1 := M6.1.2.1
            have J6 : ∀ j, qz_I g6 l j = qz_I g5 l j := fun j => m6.l hl.1 j
            have z6 : ∀ j, j ≠ 1 → j ≠ 2 → j ≠ 5 → qz_I g6 l j = qz_I h l j := fun j j1 j2 j5 => by rw [J6]; exact z5 j j1 j2 j5
            refine ez_go (n := 4) (pc' := 130) (L' := [(0, .inr (.inr (some (770)))), (1, .inr (.inr (some (l))))]) (st' := [.inl (18), .inl (0), .inr (.inr (some (l))), .inr (.inr (some (770)))]) rfl ?_
            have e7 : qz_P g6 l 7 = qz_P h l 7 := by unfold qz_P; rw [z6 7 (by decide) (by decide) (by decide)]
            have e8 : qz_P g6 l 8 = qz_P h l 8 := by unfold qz_P; rw [z6 8 (by decide) (by decide) (by decide)]
            have np7 : po h ≠ 770 := fun e => by rw [e, t770] at tpo; cases tpo
            have npl : po h ≠ l := fun e => by rw [e, tl] at tpo; cases tpo
            have nc7 : qz_P h l 8 ≠ 770 := fun e => by rw [e, t770] at ucp; cases ucp
            have ncl : qz_P h l 8 ≠ l := fun e => by rw [e, tl] at ucp; cases ucp
            have eb := M6.b hl.2.1
            have eN : qz_N g6 (po h) = qz_N h (po h) := M6.N np7 npl
            have hsk : mf h 2 = rz_skip (mb h) (mt h 2 - mf h 2).toNat (mf h 2) := by
              by_cases e : mf h 2 < mt h 2
              · exact (skip_id (hTr 2 (by omega) (by omega) e).1).symm
              · rw [show (mt h 2 - mf h 2).toNat = 0 by omega]; rfl
            refine ez_cv hB6 t770 rfl rfl rfl tq_75 rfl rfl rfl (rd_row (s := mf h 2) hB6 t770 (ez_t771 hB t770) tl (by rw [e8]; exact ucp) (by rw [M6.epo]; exact tpo) hl.1 (by omega) (by omega) (by rw [M6.epn]; exact h0) (by rw [M6.epn, M6.epo, eN]; exact hn) (by rw [M6.epn]; omega) (by rw [M6.epo, eN]; exact hNh) (by omega) (by omega) (by omega) (by omega) (by omega) (by omega) (by omega) (by omega) (by rw [a6, s6, eb]; exact hsk) (by rw [a6, s6, eb]; exact fun w => (hTr 2 (by omega) (by omega) w).2) (by rw [e8, M6.I nc7 ncl]; exact hc0 _) (fun A hA g8 τ8 hB8 hk8 a17 hlc hsp hcp => ez_K0 ?_) (fun hA g8 τ8 A hB8 hk8 hlc hsp hcp => ez_Kp (xc_exc hB8 rfl) rfl (k0 g8 τ8 _ hB8 ⟨(M6.jp (lX_l l (qz_P h l 7) (qz_P h l 8)) t770 tl tpo hn).trans (hk8.jp (fun q hq => by rw [e7, e8]; exact lX_r hq)) h0, lg.row (hlg.mw M6 t770 tl usp ucp tpo) (by rw [e7, e8] at hk8; exact hk8) (by rw [e7] at hsp; exact hsp) (by rw [e8] at hcp; exact hcp)⟩ (by unfold qz_I; rw [hlc]; exact z6 0 (by decide) (by decide) (by decide)) (fun w => w.2.1 (by rw [eb, s6] at hA; exact hA)))))
            rw [e7, e8] at hk8; rw [e7] at hsp; rw [e8] at hcp
            have h18 := rw_18 hA
            refine ez_ret0 rfl rfl (k1 g8 τ8 _ hB8 ⟨(M6.jp (lX_l l (qz_P h l 7) (qz_P h l 8)) t770 tl tpo hn).trans (hk8.jp (fun q hq => lX_r hq)) h0, lg.row (hlg.mw M6 t770 tl usp ucp tpo) hk8 hsp hcp⟩ (by rw [List.nil_append]; omega) (by unfold qz_I; rw [hlc]; exact z6 0 (by decide) (by decide) (by decide)) ⟨o0, (fun w => by rw [eb, s6, w] at hA; cases hA), by omega, by rw [mk_in (by omega)] at epv; omega⟩ (by unfold qz_I; rw [hlc]; show qz_I g6 l 1 = qz_I g6 l 2; rw [J6, J6]; exact l5) (by unfold qz_I; rw [hlc]; show qz_I g6 l 1 = _; rw [J6]; exact e15.trans (rz_one_e F0.1.2 o0).1) (by unfold qz_I; rw [hlc]; show qz_I g6 l 5 = _; rw [J6, v5, epv]; exact mk_in (by omega)) ⟨_, (by rw [eb, s6] at hA; exact hA), mrw_row hk8 hsp hcp (by rw [M6.epn]; exact h0)⟩)
          · skip
            refine ez_go (n := 1) (pc' := 100) (L' := [(0, .inr (.inr (some (770)))), (1, .inr (.inr (some (l))))]) (st' := [.inr (.inr (some (l))), .inr (.inr (some (770)))]) rfl ?_
            refine ez_gI hB5 tl rfl rfl tq_13 rfl rfl (fun (b20 : -2147483648 ≤ qz_I g5 l 5) (b20' : qz_I g5 l 5 ≤ 2147483647) => ?_)
            refine ez_go (n := 1) (pc' := 105) (L' := [(0, .inr (.inr (some (770)))), (1, .inr (.inr (some (l))))]) (st' := [.inl (84), .inl (qz_I g5 l 5), .inr (.inr (some (770)))]) rfl ?_
            refine ez_icmp rfl rfl ⟨by first | omega | exact (sz_i32 _).1, by first | omega | exact (sz_i32 _).2⟩ ⟨by first | omega | exact (sz_i32 _).1, by first | omega | exact (sz_i32 _).2⟩ (fun (c21 : (qz_I g5 l 5) ≠ (84)) => ?_) (fun (c21 : ¬((qz_I g5 l 5) ≠ (84))) => ?_)
            · skip
              refine ez_go (n := 1) (pc' := 113) (L' := [(0, .inr (.inr (some (770)))), (1, .inr (.inr (some (l))))]) (st' := [.inl (0), .inr (.inr (some (770)))]) rfl ?_
              refine ez_cv hB5 t770 rfl rfl rfl tq_75 rfl rfl rfl (rd_can0 (by omega) (by omega) (ez_Kp (xc_exc hB5 rfl) rfl (k0 g5 τ [] hB5 ⟨M5.jp (lX_l _ _ _) t770 tl tpo hn, hlg.mw M5 t770 tl usp ucp tpo⟩ (z5 0 (by decide) (by decide) (by decide)) (fun w => by have w3 := w.2.2.1; have w4 := w.2.2.2; rw [mk_in (by omega)] at epv; omega))))
            · skip
              refine ez_go (n := 2) (pc' := 113) (L' := [(0, .inr (.inr (some (770)))), (1, .inr (.inr (some (l))))]) (st' := [.inl (1), .inr (.inr (some (770)))]) rfl ?_
              refine ez_cv hB5 t770 rfl rfl rfl tq_75 rfl rfl rfl (rd_can1 (by omega) (by omega) (ez_K0 ?_))
              refine ez_go (n := 1) (pc' := 117) (L' := [(0, .inr (.inr (some (770)))), (1, .inr (.inr (some (l))))]) (st' := [.inr (.inr (some (770)))]) rfl ?_
              refine ez_cv hB5 t770 rfl rfl rfl tq_75 rfl rfl rfl (rd_mend hB5 t770 (by omega) (by omega) (fun e9 => ez_K0 ?_) (fun e9 => ez_Kp (xc_exc hB5 rfl) rfl (k0 g5 τ [] hB5 ⟨M5.jp (lX_l _ _ _) t770 tl tpo hn, hlg.mw M5 t770 tl usp ucp tpo⟩ (z5 0 (by decide) (by decide) (by decide)) (fun w => by have w3 := w.2.2.1; omega))))
              refine ez_go (n := 2) (pc' := 122) (L' := [(0, .inr (.inr (some (770)))), (1, .inr (.inr (some (l))))]) (st' := [.inl (2), .inr (.inr (some (770)))]) rfl ?_
              refine ez_cv hB5 t770 rfl rfl rfl tq_75 rfl rfl rfl (rd_field hB5 t770 (by omega) (by omega) (fun g6 hB6 m6 a6 s6 => ez_K0 ?_))
              rw [M5.f hl.2.2.1] at a6
              rw [M5.t hl.2.2.2] at s6
              have M6 : mw h g6 l := M5.trans m6.mw
              have u6a : (g6).1 = h.1 := M6.1.1
              have u6b : (g6).2.1 = h.2.1 := M6.1.2.1
              have J6 : ∀ j, qz_I g6 l j = qz_I g5 l j := fun j => m6.l hl.1 j
              have z6 : ∀ j, j ≠ 1 → j ≠ 2 → j ≠ 5 → qz_I g6 l j = qz_I h l j := fun j j1 j2 j5 => by rw [J6]; exact z5 j j1 j2 j5
              refine ez_go (n := 4) (pc' := 130) (L' := [(0, .inr (.inr (some (770)))), (1, .inr (.inr (some (l))))]) (st' := [.inl (18), .inl (0), .inr (.inr (some (l))), .inr (.inr (some (770)))]) rfl ?_
              have e7 : qz_P g6 l 7 = qz_P h l 7 := by unfold qz_P; rw [z6 7 (by decide) (by decide) (by decide)]
              have e8 : qz_P g6 l 8 = qz_P h l 8 := by unfold qz_P; rw [z6 8 (by decide) (by decide) (by decide)]
              have np7 : po h ≠ 770 := fun e => by rw [e, t770] at tpo; cases tpo
              have npl : po h ≠ l := fun e => by rw [e, tl] at tpo; cases tpo
              have nc7 : qz_P h l 8 ≠ 770 := fun e => by rw [e, t770] at ucp; cases ucp
              have ncl : qz_P h l 8 ≠ l := fun e => by rw [e, tl] at ucp; cases ucp
              have eb := M6.b hl.2.1
              have eN : qz_N g6 (po h) = qz_N h (po h) := M6.N np7 npl
              have hsk : mf h 2 = rz_skip (mb h) (mt h 2 - mf h 2).toNat (mf h 2) := by
                by_cases e : mf h 2 < mt h 2
                · exact (skip_id (hTr 2 (by omega) (by omega) e).1).symm
                · rw [show (mt h 2 - mf h 2).toNat = 0 by omega]; rfl
              refine ez_cv hB6 t770 rfl rfl rfl tq_75 rfl rfl rfl (rd_row (s := mf h 2) hB6 t770 (ez_t771 hB t770) tl (by rw [e8]; exact ucp) (by rw [M6.epo]; exact tpo) hl.1 (by omega) (by omega) (by rw [M6.epn]; exact h0) (by rw [M6.epn, M6.epo, eN]; exact hn) (by rw [M6.epn]; omega) (by rw [M6.epo, eN]; exact hNh) (by omega) (by omega) (by omega) (by omega) (by omega) (by omega) (by omega) (by omega) (by rw [a6, s6, eb]; exact hsk) (by rw [a6, s6, eb]; exact fun w => (hTr 2 (by omega) (by omega) w).2) (by rw [e8, M6.I nc7 ncl]; exact hc0 _) (fun A hA g8 τ8 hB8 hk8 a17 hlc hsp hcp => ez_K0 ?_) (fun hA g8 τ8 A hB8 hk8 hlc hsp hcp => ez_Kp (xc_exc hB8 rfl) rfl (k0 g8 τ8 _ hB8 ⟨(M6.jp (lX_l l (qz_P h l 7) (qz_P h l 8)) t770 tl tpo hn).trans (hk8.jp (fun q hq => by rw [e7, e8]; exact lX_r hq)) h0, lg.row (hlg.mw M6 t770 tl usp ucp tpo) (by rw [e7, e8] at hk8; exact hk8) (by rw [e7] at hsp; exact hsp) (by rw [e8] at hcp; exact hcp)⟩ (by unfold qz_I; rw [hlc]; exact z6 0 (by decide) (by decide) (by decide)) (fun w => w.2.1 (by rw [eb, s6] at hA; exact hA)))))
              rw [e7, e8] at hk8; rw [e7] at hsp; rw [e8] at hcp
              have h18 := rw_18 hA
              refine ez_ret0 rfl rfl (k1 g8 τ8 _ hB8 ⟨(M6.jp (lX_l l (qz_P h l 7) (qz_P h l 8)) t770 tl tpo hn).trans (hk8.jp (fun q hq => lX_r hq)) h0, lg.row (hlg.mw M6 t770 tl usp ucp tpo) hk8 hsp hcp⟩ (by rw [List.nil_append]; omega) (by unfold qz_I; rw [hlc]; exact z6 0 (by decide) (by decide) (by decide)) ⟨o0, (fun w => by rw [eb, s6, w] at hA; cases hA), by omega, by rw [mk_in (by omega)] at epv; omega⟩ (by unfold qz_I; rw [hlc]; show qz_I g6 l 1 = qz_I g6 l 2; rw [J6, J6]; exact l5) (by unfold qz_I; rw [hlc]; show qz_I g6 l 1 = _; rw [J6]; exact e15.trans (rz_one_e F0.1.2 o0).1) (by unfold qz_I; rw [hlc]; show qz_I g6 l 5 = _; rw [J6, v5, epv]; exact mk_in (by omega)) ⟨_, (by rw [eb, s6] at hA; exact hA), mrw_row hk8 hsp hcp (by rw [M6.epn]; exact h0)⟩)
end EzFo
section EzCa
variable {d : Nat} {h : cz_H} {τ : Nat → Nat} {Q : cz_F → Prop} {l : Nat}
def cs9 (τ : Nat → Nat) (h : cz_H) (τ1 : Nat → Nat) (g : cz_H) (l : Nat) (k : Int) (A : List Int) : Prop :=
  pj (lX l (qz_P h l 7) (qz_P h l 8)) τ h τ1 g A ∧ lg (qz_P h l 7) (qz_P h l 8) g ∧ (∀ j, j ≠ 1 → j ≠ 2 → qz_I g l j = qz_I h l j) ∧ (∀ j : Nat, k ≤ (j : Int) → qz_I g (qz_P h l 8) j = 0) ∧ (A.length : Int) ≤ 18 * k ∧ (∀ j, 1 ≤ j → j ≤ k → rz_ro (mb h) (mf h j) (mt h j)) ∧ (qz_I g l 1 = qz_I g l 2 ∧ qz_I g l 1 = rz_code (mb h) (mf h 0) (mt h 0)) ∧ (∀ i : Nat, (i : Int) < k → mrw g (qz_P h l 7) (qz_P h l 8) i (rz_rn (mb h) (mf h (1 + (i : Int))) (mt h (1 + (i : Int)))))
theorem rd_cases_k9 {k : Int} {g : cz_H} {τ1 : Nat → Nat} {A : List Int} (hB : ez_B τ h) (t770 : τ 770 = 75) (tl : τ l = 13) (hl : lz l) (usp : τ (qz_P h l 7) = 15) (ucp : τ (qz_P h l 8) = 16) (tpo : τ (po h) = 17) (h0 : 0 ≤ pn h) (hpm : pn h + 75 ≤ 38400) (hNh : 1024 ≤ qz_N h (po h)) (hr1 : h.1 + 300 ≤ 600192) (hr2 : h.2.1 + 500000 ≤ 7302232) (hF : ∀ k, 0 ≤ k → k < 5 → (0 ≤ mf h k ∧ mf h k ≤ mt h k) ∧ mt h k ≤ 4096) (hTr : ∀ k, 0 ≤ k → k < 5 → mf h k < mt h k → ¬ bk (mb h (mf h k)) ∧ ¬ bk (mb h (mt h k - 1))) (hBg : ez_B τ1 g) (hp : pj (lX l (qz_P h l 7) (qz_P h l 8)) τ h τ1 g A) (hg : lg (qz_P h l 7) (qz_P h l 8) g) (hJ : ∀ j, j ≠ 1 → j ≠ 2 → qz_I g l j = qz_I h l j) (hc : ∀ j : Nat, k ≤ (j : Int) → qz_I g (qz_P h l 8) j = 0) (hA : (A.length : Int) ≤ 18 * k) (hro : ∀ j, 1 ≤ j → j ≤ k → rz_ro (mb h) (mf h j) (mt h j)) (h12 : (qz_I g l 1 = qz_I g l 2 ∧ qz_I g l 1 = rz_code (mb h) (mf h 0) (mt h 0))) (hm : (∀ i : Nat, (i : Int) < k → mrw g (qz_P h l 7) (qz_P h l 8) i (rz_rn (mb h) (mf h (1 + (i : Int))) (mt h (1 + (i : Int)))))) (k0' : 0 ≤ k) (k1' : k < 3) (kb : ∀ g τ1 A, ez_B τ1 g → pj (lX l (qz_P h l 7) (qz_P h l 8)) τ h τ1 g A → lg (qz_P h l 7) (qz_P h l 8) g → (∀ j, j ≠ 1 → j ≠ 2 → qz_I g l j = qz_I h l j) → (∀ j : Nat, k + 1 ≤ (j : Int) → qz_I g (qz_P h l 8) j = 0) → (A.length : Int) ≤ 18 * (k + 1) → (∀ j, 1 ≤ j → j ≤ k + 1 → rz_ro (mb h) (mf h j) (mt h j)) → (qz_I g l 1 = qz_I g l 2 ∧ qz_I g l 1 = rz_code (mb h) (mf h 0) (mt h 0)) → (∀ i : Nat, (i : Int) < k + 1 → mrw g (qz_P h l 7) (qz_P h l 8) i (rz_rn (mb h) (mf h (1 + (i : Int))) (mt h (1 + (i : Int))))) → ez_W (d + 9) cm_229 91 [(2, .inl (k)), (0, .inr (.inr (some (770)))), (1, .inr (.inr (some (l))))] [] g Q) (k0 : ∀ g τ1 A, ez_B τ1 g → (pj (lX l (qz_P h l 7) (qz_P h l 8)) τ h τ1 g A ∧ lg (qz_P h l 7) (qz_P h l 8) g) → qz_I g l 0 = qz_I h l 0 → ¬ rz_G1 (mb h) (mf h) (mt h) → Q (.inr g.1, xc g 1)) : ez_W (d + 9) cm_229 55 [(2, .inl (k)), (0, .inr (.inr (some (770)))), (1, .inr (.inr (some (l))))] [] g Q := by
  have u770 : τ1 770 = 75 := (hp.1 770 (by rw [t770]; decide)).1.trans t770
  have ul : τ1 l = 13 := (hp.1 l (by rw [tl]; decide)).1.trans tl
  have g789 : g.2.2 789 = h.2.2 789 := hp.f tpo usp ucp tl (ez_t789 hB t770) rfl (by decide)
  have g790 : g.2.2 790 = h.2.2 790 := hp.f tpo usp ucp tl (ez_t790 hB t770) rfl (by decide)
  have g771 : g.2.2 771 = h.2.2 771 := hp.f tpo usp ucp tl (ez_t771 hB t770) rfl (by decide)
  have ef : ∀ k, mf g k = mf h k := fun k => by unfold mf qz_I; rw [g789]
  have et : ∀ k, mt g k = mt h k := fun k => by unfold mt qz_I; rw [g790]
  have eb : mb g = mb h := funext fun k => by unfold mb qz_I; rw [g771]
  have rr := hp.2.2.2.2.2.2.2.2.1
  have rp := pool_le hBg hp.2.2.1
  have hpn9 := hp.2.2.2.2.1
  have pm : pn g = qz_I g 770 10 := rfl
  refine ez_go (n := 4) (pc' := 59) (L' := [(2, .inl (k)), (0, .inr (.inr (some (770)))), (1, .inr (.inr (some (l))))]) (st' := [.inl ((1) + (k)), .inr (.inr (some (770)))]) rfl ?_
  have FK := hF (1 + k) (by omega) (by omega)
  refine ez_cv hBg u770 rfl rfl rfl tq_75 rfl rfl rfl (rd_field hBg u770 (by omega) (by omega) (fun g1 hB1 m1 a1 s1 => ez_K0 ?_))
  rw [ef] at a1; rw [et] at s1
  have j1 : ∀ j, qz_I g1 l j = qz_I g l j := fun j => m1.l hl.1 j
  have c1 := m1.1.1
  have c2 := m1.1.2.1
  have e7 : qz_P g1 l 7 = qz_P h l 7 := by unfold qz_P; rw [j1, hJ 7 (by decide) (by decide)]
  have e8 : qz_P g1 l 8 = qz_P h l 8 := by unfold qz_P; rw [j1, hJ 8 (by decide) (by decide)]
  have en1 : pn g1 = pn g := m1.2 10 (by decide) (by decide)
  refine ez_go (n := 1) (pc' := 63) (L' := [(2, .inl (k)), (0, .inr (.inr (some (770)))), (1, .inr (.inr (some (l))))]) (st' := [.inr (.inr (some (l)))]) rfl ?_
  refine ez_gR hB1 ul rfl rfl tq_13 rfl rfl (fun (t1 : _ = 15) (t1' : 1 ≤ qz_I g1 l 7) => ?_)
  refine ez_go (n := 2) (pc' := 68) (L' := [(2, .inl (k)), (0, .inr (.inr (some (770)))), (1, .inr (.inr (some (l))))]) (st' := [.inr (.inr (some (770))), .inl (k), .inr (.inr (some (qz_P g1 l 7)))]) rfl ?_
  refine ez_gI hB1 u770 rfl rfl tq_75 rfl rfl (fun (b2 : 0 ≤ qz_I g1 770 10) (b2' : qz_I g1 770 10 ≤ 38500) => ?_)
  have n5 : 3 ≤ qz_N g1 (qz_P g1 l 7) ∧ qz_N g1 (qz_P g1 l 7) ≤ 3 := ez_len hB1 t1 tq_15 rfl
  refine ez_as hB1 t1 rfl tq_15 rfl rfl (by omega) (by omega) (ez_vdI rfl rfl (by omega) (by omega)) (fun hB3 w4 => ?_)
  have f2 : ez_fr (ez_one (qz_P g1 l 7)) g1 (dz_put g1 (qz_P g1 l 7) (k).toNat (ez_v (.inl (qz_I g1 770 10)))) := (ez_fr.refl (ez_one (qz_P g1 l 7)) g1).put (show Nat.beq _ _ = true from Nat.beq_refl _) _ _
  have v2 : qz_I (dz_put g1 (qz_P g1 l 7) (k).toNat (ez_v (.inl (qz_I g1 770 10)))) (qz_P g1 l 7) k.toNat = pn g1 := by rw [w4, rz_rd ⟨by omega, by omega⟩]; rfl
  have w2 : ∀ j, j ≠ k.toNat → qz_I (dz_put g1 (qz_P g1 l 7) (k).toNat (ez_v (.inl (qz_I g1 770 10)))) (qz_P g1 l 7) j = qz_I g1 (qz_P g1 l 7) j := fun j hj => ez_put_I (fun w => hj w.2)
  have hB2 := hB3
  generalize (dz_put g1 (qz_P g1 l 7) (k).toNat (ez_v (.inl (qz_I g1 770 10)))) = g2 at *
  rw [e7] at f2 v2 w2
  have ns7 : qz_P h l 7 ≠ 770 := fun e => by rw [e, t770] at usp; cases usp
  have nsl : qz_P h l 7 ≠ l := fun e => by rw [e, tl] at usp; cases usp
  have nsc : qz_P h l 7 ≠ qz_P h l 8 := fun e => by rw [e, ucp] at usp; cases usp
  have nc7 : qz_P h l 8 ≠ 770 := fun e => by rw [e, t770] at ucp; cases ucp
  have ncl : qz_P h l 8 ≠ l := fun e => by rw [e, tl] at ucp; cases ucp
  have nsp : qz_P h l 7 ≠ po g := fun e => by have q := hp.2.2.1; rw [← e, (hp.1 _ (by rw [usp]; decide)).1, usp] at q; cases q
  have np7 : po g ≠ 770 := fun e => by have q := hp.2.2.1; rw [e, u770] at q; cases q
  have npl : po g ≠ l := fun e => by have q := hp.2.2.1; rw [e, ul] at q; cases q
  have i0 : ∀ j, j ≠ 17 → j ≠ 18 → qz_I g2 770 j = qz_I g 770 j := fun j q1 q2 => by rw [f2.I (dz_beq_ne (Ne.symm ns7))]; exact m1.2 j q1 q2
  have ep2 : po g2 = po g := by unfold po qz_P; rw [i0 9 (by decide) (by decide)]
  have en2 : pn g2 = pn g := i0 10 (by decide) (by decide)
  have oth : ∀ q, q ≠ 770 → q ≠ qz_P h l 7 → g2.2.2 q = g.2.2 q := fun q q1 q2 => by rw [f2.2.2 q (dz_beq_ne q2)]; exact m1.1.2.2 q (dz_beq_ne q1)
  have eN2 : qz_N g2 (po g) = qz_N g (po g) := by unfold qz_N; rw [oth _ np7 (Ne.symm nsp)]
  have J2 : ∀ j, qz_I g2 l j = qz_I g l j := fun j => by rw [f2.I (dz_beq_ne (Ne.symm nsl))]; exact j1 j
  have C2 : ∀ j, qz_I g2 (qz_P h l 8) j = qz_I g (qz_P h l 8) j := fun j => by unfold qz_I; rw [oth _ nc7 (Ne.symm nsc)]
  have S2 : ∀ j, j ≠ k.toNat → qz_I g2 (qz_P h l 7) j = qz_I g (qz_P h l 7) j := fun j hj => by rw [w2 j hj]; exact m1.1.I (dz_beq_ne ns7) j
  have r2 : g2.1 = g.1 ∧ g2.2.1 = g.2.1 := ⟨f2.1.trans m1.1.1, f2.2.1.trans m1.1.2.1⟩
  have p2 : pj (lX l (qz_P h l 7) (qz_P h l 8)) τ1 g τ1 g2 [] := by
    refine ⟨fun q hq => ⟨rfl, fun q1 q2 q3 => oth q q1 (fun e => by rw [e] at q3; unfold lX at q3; rw [Nat.beq_refl, Bool.true_or, Bool.or_true] at q3; cases q3)⟩, fun q q1 q2 => absurd q1 q2, by rw [ep2]; exact hp.2.2.1, fun j _ _ j1 j2 => i0 j j1 j2, by rw [en2]; simp, fun j _ _ => by unfold pl qz_I; rw [ep2, oth _ np7 (Ne.symm nsp)], fun j v hv => by simp at hv, by rw [ep2, eN2, en2]; exact ⟨hp.2.2.2.2.2.2.2.1.1, Int.le_refl _⟩, by rw [ep2, eN2, r2.1, r2.2]; omega, by rw [r2.1, r2.2]; omega, Or.inl ep2⟩
  have lg2 : lg (qz_P h l 7) (qz_P h l 8) g2 := fun j => by
    rw [C2, ep2, eN2]
    by_cases e : j = k.toNat
    · rw [e, v2, hc _ (by omega), en1]; have q := hp.2.2.2.2.2.2.2.1.1; omega
    · rw [S2 j e]; exact hg j
  have P2 := hp.trans p2 h0
  rw [List.append_nil] at P2
  have a2 : qz_I g2 770 17 = mf h (1 + k) := by rw [f2.I (dz_beq_ne (Ne.symm ns7))]; exact a1
  have s2 : qz_I g2 770 18 = mt h (1 + k) := by rw [f2.I (dz_beq_ne (Ne.symm ns7))]; exact s1
  have hm2 : ∀ i : Nat, (i : Int) < k → mrw g2 (qz_P h l 7) (qz_P h l 8) i (rz_rn (mb h) (mf h (1 + (i : Int))) (mt h (1 + (i : Int)))) := fun i hi => (hm i hi).tr (S2 i (by omega)) (C2 i) (by rw [en2]; exact Int.le_refl _) (fun j _ _ => by unfold pl qz_I; rw [ep2, oth _ np7 (Ne.symm nsp)])
  refine ez_go (n := 1) (pc' := 73) (L' := [(2, .inl (k)), (0, .inr (.inr (some (770)))), (1, .inr (.inr (some (l))))]) (st' := [.inr (.inr (some (770)))]) rfl ?_
  refine ez_gI hB2 u770 rfl rfl tq_75 rfl rfl (fun (b6 : 0 ≤ qz_I g2 770 17) (b6' : qz_I g2 770 17 ≤ 4200) => ?_)
  refine ez_go (n := 1) (pc' := 77) (L' := [(2, .inl (k)), (0, .inr (.inr (some (770)))), (1, .inr (.inr (some (l))))]) (st' := [.inr (.inr (some (770))), .inl (qz_I g2 770 17)]) rfl ?_
  refine ez_gI hB2 u770 rfl rfl tq_75 rfl rfl (fun (b7 : 0 ≤ qz_I g2 770 18) (b7' : qz_I g2 770 18 ≤ 4096) => ?_)
  refine ez_icmp rfl rfl ⟨by first | omega | exact (sz_i32 _).1, by first | omega | exact (sz_i32 _).2⟩ ⟨by first | omega | exact (sz_i32 _).1, by first | omega | exact (sz_i32 _).2⟩ (fun (c8 : (qz_I g2 770 18) ≤ (qz_I g2 770 17)) => ?_) (fun (c8 : ¬((qz_I g2 770 18) ≤ (qz_I g2 770 17))) => ?_)
  · skip
    refine ez_less [(2, .inl (k)), (0, .inr (.inr (some (770)))), (1, .inr (.inr (some (l))))] rfl ⟨rfl, rfl, rfl, trivial⟩ ?_
    refine kb g2 τ1 A hB2 P2 lg2 (fun j q1 q2 => by rw [J2]; exact hJ j q1 q2) (fun j hj => by rw [C2]; exact hc j (by omega)) (by omega) (fun j q1 q2 => by by_cases e9 : j = 1 + k; (· rw [e9]; exact Or.inl (by omega)); (· exact hro j q1 (by omega))) (by rw [J2, J2]; exact h12) (fun i hi => ?_)
    by_cases e9 : (i : Int) = k
    · rw [e9, show i = k.toNat by omega, rz_rn_n (by omega)]
      exact ⟨by rw [C2]; exact hc _ (by omega), by rw [v2, en1]; omega, by rw [v2, en1, en2]; exact Int.le_of_eq (by simp), fun j v hv => by cases hv⟩
    · exact hm2 i (by omega)
  · skip
    refine ez_go (n := 4) (pc' := 88) (L' := [(2, .inl (k)), (0, .inr (.inr (some (770)))), (1, .inr (.inr (some (l))))]) (st' := [.inl (18), .inl (k), .inr (.inr (some (l))), .inr (.inr (some (770)))]) rfl ?_
    have e7b : qz_P g2 l 7 = qz_P h l 7 := by unfold qz_P; rw [J2, hJ 7 (by decide) (by decide)]
    have e8b : qz_P g2 l 8 = qz_P h l 8 := by unfold qz_P; rw [J2, hJ 8 (by decide) (by decide)]
    have eb2 : mb g2 = mb h := by rw [← eb]; funext i; unfold mb qz_I; rw [oth 771 (by decide) (fun e => by rw [← e, ez_t771 hB t770] at usp; cases usp)]
    have hlt : mf h (1 + k) < mt h (1 + k) := by omega
    have hsk : mf h (1 + k) = rz_skip (mb h) (mt h (1 + k) - mf h (1 + k)).toNat (mf h (1 + k)) := (skip_id (hTr (1 + k) (by omega) (by omega) hlt).1).symm
    have hN2 := hp.2.2.2.2.2.2.2.1
    have hpn := hp.2.2.2.2.1
    refine ez_cv hB2 u770 rfl rfl rfl tq_75 rfl rfl rfl (rd_row (s := mf h (1 + k)) hB2 u770 (ez_t771 hB2 u770) ul (by rw [e8b]; exact (hp.1 _ (by rw [ucp]; decide)).1.trans ucp) (by rw [ep2]; exact hp.2.2.1) hl.1 k0' (by omega) (by rw [en2]; omega) (by rw [en2, ep2, eN2]; exact hN2.1) (by rw [en2]; omega) (by rw [ep2, eN2]; omega) (by omega) (by omega) (by omega) (by omega) (by omega) (by omega) (by omega) (by omega) (by rw [a2, s2, eb2]; exact hsk) (by rw [a2, s2, eb2]; exact fun w => (hTr (1 + k) (by omega) (by omega) w).2) (by rw [e8b, C2]; exact hc _ (by omega)) (fun A8 hA g8 τ8 hB8 hk8 a17 hlc hsp hcp => ez_K0 ?_) (fun hA g8 τ8 A8 hB8 hk8 hlc hsp hcp => ez_Kp (xc_exc hB8 rfl) rfl (k0 g8 τ8 _ hB8 ⟨P2.trans (hk8.jp (fun q hq => by rw [e7b, e8b]; exact lX_r hq)) h0, lg.row lg2 (by rw [e7b, e8b] at hk8; exact hk8) (by rw [e7b] at hsp; exact hsp) (by rw [e8b] at hcp; exact hcp)⟩ ((show qz_I g8 l 0 = qz_I g2 l 0 by unfold qz_I; rw [hlc]).trans ((J2 0).trans (hJ 0 (by decide) (by decide)))) (fun w => by rcases rz_G1_ro w (1 + k) (by omega) (by omega) with q | q; (· omega); (· exact q (by rw [eb2, s2] at hA; exact hA))))))
    rw [e7b, e8b] at hk8; rw [e7b] at hsp; rw [e8b] at hcp
    have h18 := rw_18 hA
    refine ez_less [(2, .inl (k)), (0, .inr (.inr (some (770)))), (1, .inr (.inr (some (l))))] rfl ⟨rfl, rfl, rfl, trivial⟩ ?_
    refine kb g8 τ8 _ hB8 (P2.trans (hk8.jp (fun q hq => lX_r hq)) h0) (lg.row lg2 hk8 hsp hcp) (fun j q1 q2 => (show qz_I g8 l j = qz_I g2 l j by unfold qz_I; rw [hlc]).trans ((J2 j).trans (hJ j q1 q2))) (fun j hj => ?_) (by rw [List.length_append]; push_cast; omega) (fun j q1 q2 => by by_cases e9 : j = 1 + k; (· rw [e9]; exact Or.inr (fun w => by rw [eb2, s2, w] at hA; cases hA)); (· exact hro j q1 (by omega))) (by rw [show qz_I g8 l 1 = qz_I g2 l 1 by unfold qz_I; rw [hlc], show qz_I g8 l 2 = qz_I g2 l 2 by unfold qz_I; rw [hlc], J2, J2]; exact h12) (fun i hi => ?_)
    · rw [hcp j, if_neg (by omega), C2]; exact hc j (by omega)
    by_cases e9 : (i : Int) = k
    · rw [e9, show i = k.toNat by omega, rz_rn_s (by omega) (show rz_rw (mb h) 18 (mf h (1 + k)) (mt h (1 + k)) = some A8 by rw [eb2, s2] at hA; exact hA)]
      exact mrw_row hk8 hsp hcp (by rw [en2]; omega)
    · exact (hm2 i (by omega)).row hk8 hsp hcp (by omega)
end EzCa
def z9 (sp cp : Nat) (h g : cz_H) : Prop := (∀ j, qz_I g sp j = qz_I h sp j ∧ qz_I g cp j = qz_I h cp j) ∧ pn g = pn h ∧ ∀ j, pl g j = pl h j
theorem z9.refl (sp cp : Nat) (h : cz_H) : z9 sp cp h h := ⟨fun _ => ⟨rfl, rfl⟩, rfl, fun _ => rfl⟩
theorem z9.trans {sp cp : Nat} {h g k : cz_H} (a : z9 sp cp h g) (b : z9 sp cp g k) : z9 sp cp h k := ⟨fun j => ⟨(b.1 j).1.trans (a.1 j).1, (b.1 j).2.trans (a.1 j).2⟩, b.2.1.trans a.2.1, fun j => (b.2.2 j).trans (a.2.2 j)⟩
theorem z9.mw {sp cp l : Nat} {τ : Nat → Nat} {h g : cz_H} (m : mw h g l) (t770 : τ 770 = 75) (tl : τ l = 13) (tsp : τ sp = 15) (tcp : τ cp = 16) (tpo : τ (po h) = 17) : z9 sp cp h g := by
  have e : ∀ q t, τ q = t → (Nat.beq t 75 || Nat.beq t 13) = false → q ≠ 770 ∧ q ≠ l := fun q t q1 q2 => ⟨fun e => (by rw [e, t770] at q1; rw [← q1] at q2; cases q2), fun e => (by rw [e, tl] at q1; rw [← q1] at q2; cases q2)⟩
  refine ⟨fun j => ⟨m.I (e sp _ tsp rfl).1 (e sp _ tsp rfl).2 j, m.I (e cp _ tcp rfl).1 (e cp _ tcp rfl).2 j⟩, m.epn, fun j => ?_⟩
  unfold pl
  rw [m.epo]
  exact m.I (e _ _ tpo rfl).1 (e _ _ tpo rfl).2 _
theorem z9.py {sp cp l : Nat} {τ τ1 : Nat → Nat} {h g : cz_H} (m : py τ h τ1 g l) (t770 : τ 770 = 75) (tl : τ l = 13) (tsp : τ sp = 15) (tcp : τ cp = 16) (tpo : τ (po h) = 17) : z9 sp cp h g := by
  have e : ∀ q t, τ q = t → (Nat.beq t 75 || (Nat.beq t 13 || (Nat.beq t 30 || (Nat.beq t 31 || Nat.beq t 0)))) = false → g.2.2 q = h.2.2 q := fun q t q1 q2 => by
    refine (m.1 q (fun e => by rw [e] at q1; rw [← q1] at q2; cases q2)).2 (fun e => by rw [e, t770] at q1; rw [← q1] at q2; cases q2) (fun e => by rw [e, tl] at q1; rw [← q1] at q2; cases q2) (fun e => by rw [e] at q1; rw [← q1] at q2; cases q2) (fun e => by rw [e] at q1; rw [← q1] at q2; cases q2)
  have ep : po g = po h := by unfold po qz_P; rw [m.2.2.1 9 (by decide) (by decide)]
  have e1 := e sp _ tsp rfl
  have e2 := e cp _ tcp rfl
  have e3 := e _ _ tpo rfl
  refine ⟨fun j => ⟨by unfold qz_I; rw [e1], by unfold qz_I; rw [e2]⟩, m.2.2.1 10 (by decide) (by decide), fun j => ?_⟩
  unfold pl
  rw [ep]
  unfold qz_I
  rw [e3]
theorem mrw.z9 {sp cp k : Nat} {h g : cz_H} {L : List Int} (a : mrw h sp cp k L) (z : z9 sp cp h g) : mrw g sp cp k L := a.tr (z.1 k).1 (z.1 k).2 (Int.le_of_eq z.2.1.symm) (fun j _ _ => z.2.2 j)
section EzCb
variable {d : Nat} {h g0 : cz_H} {τ : Nat → Nat} {Q : cz_F → Prop} {l : Nat}
theorem rd_cases_w9 (hB : ez_B τ h) (t770 : τ 770 = 75) (tl : τ l = 13) (hl : lz l) (usp : τ (qz_P h l 7) = 15) (ucp : τ (qz_P h l 8) = 16) (tpo : τ (po h) = 17) (h0 : 0 ≤ pn h) (hpm : pn h + 75 ≤ 38400) (hNh : 1024 ≤ qz_N h (po h)) (hr1 : h.1 + 24000 ≤ 600192) (hr2 : h.2.1 + 800000 ≤ 7302232) (hZ : nz_Z h) (hN : nmz h) (F4 : (0 ≤ mf h 4 ∧ mf h 4 ≤ mt h 4) ∧ mt h 4 ≤ 4096) (hpl : ∀ j, mf h 4 ≤ j → j < mt h 4 → 0 ≤ mb h j ∧ mb h j ≤ 127) (k1 : ∀ g τ1 A, ez_B τ1 g → (lq (lX l (qz_P h l 7) (qz_P h l 8)) τ h τ1 g A (45 * (mt h 4 - mf h 4)) ∧ lg (qz_P h l 7) (qz_P h l 8) g) → A.length ≤ 75 → qz_I g l 0 = qz_I h l 0 → rz_CD (mb h) (mf h 4) (mt h 4) → (qz_I g l 1 = qz_I g l 2 ∧ qz_I g l 1 = rz_code (mb h) (mf h 0) (mt h 0)) → qz_I g l 12 = nz_cd (mb h) (mt h 4) (rz_ct (mb h) (mf h 4) (mt h 4 - mf h 4).toNat (mf h 4)) (mf h 4) 0 → z9 (qz_P h l 7) (qz_P h l 8) g0 g → Q (.inl none, g)) (k0 : ∀ g τ1 A, ez_B τ1 g → (lq (lX l (qz_P h l 7) (qz_P h l 8)) τ h τ1 g A (45 * (mt h 4 - mf h 4)) ∧ lg (qz_P h l 7) (qz_P h l 8) g) → qz_I g l 0 = qz_I h l 0 → ¬ rz_CD (mb h) (mf h 4) (mt h 4) → Q (.inr g.1, xc g 1)) : ∀ (m : Nat) (g : cz_H) (τ1 : Nat → Nat) (A : List Int) (c : Int), (mt h 4 - qz_I g 770 17).toNat ≤ m → ez_B τ1 g → lq (lX l (qz_P h l 7) (qz_P h l 8)) τ h τ1 g A (45 * (qz_I g 770 17 - mf h 4)) → lg (qz_P h l 7) (qz_P h l 8) g → qz_I g l 0 = qz_I h l 0 → qz_I g 770 18 = mt h 4 → mf h 4 ≤ qz_I g 770 17 → qz_I g 770 17 ≤ mt h 4 → (qz_I g 770 17 < mt h 4 → ¬ bk (mb h (qz_I g 770 17))) → A.length ≤ 75 → (qz_I g 770 17 = mf h 4 ∨ (mf h 4 < qz_I g 770 17 ∧ bk (mb h (qz_I g 770 17 - 1))) ∨ qz_I g 770 17 = mt h 4) → qz_I g l 12 = c → 0 ≤ c → c ≤ 511 → nz_cd (mb h) (mt h 4) (rz_ct (mb h) (mf h 4) (mt h 4 - qz_I g 770 17).toNat (qz_I g 770 17)) (qz_I g 770 17) c = nz_cd (mb h) (mt h 4) (rz_ct (mb h) (mf h 4) (mt h 4 - mf h 4).toNat (mf h 4)) (mf h 4) 0 → (qz_I g l 1 = qz_I g l 2 ∧ qz_I g l 1 = rz_code (mb h) (mf h 0) (mt h 0)) → z9 (qz_P h l 7) (qz_P h l 8) g0 g → ez_W (d + 9) cm_229 102 [(0, .inr (.inr (some (770)))), (1, .inr (.inr (some (l))))] [] g Q := by
  intro m
  induction m with
  | zero =>
    intro g τ1 A c hm hBg hq hg hk0 hst hat0 hat hnb hA hps hc hc0 hc1 hT h12 hz9
    have u770 : τ1 770 = 75 := (hq.1 770 (by rw [t770]; decide)).1.trans t770
    have ul : τ1 l = 13 := (hq.1 l (by rw [tl]; decide)).1.trans tl
    have eb : mb g = mb h := funext fun k => by unfold mb qz_I; rw [hq.f tpo usp ucp tl (ez_t771 hB t770) rfl (by decide)]
    have rr := hq.2.2.2.2.2.2.2.2.1
    have rp := pool_le hBg hq.2.2.1
    refine ez_go (n := 1) (pc' := 103) (L' := [(0, .inr (.inr (some (770)))), (1, .inr (.inr (some (l))))]) (st' := [.inr (.inr (some (770)))]) rfl ?_
    refine ez_gI hBg u770 rfl rfl tq_75 rfl rfl (fun (b1 : 0 ≤ qz_I g 770 17) (b1' : qz_I g 770 17 ≤ 4200) => ?_)
    refine ez_go (n := 1) (pc' := 107) (L' := [(0, .inr (.inr (some (770)))), (1, .inr (.inr (some (l))))]) (st' := [.inr (.inr (some (770))), .inl (qz_I g 770 17)]) rfl ?_
    refine ez_gI hBg u770 rfl rfl tq_75 rfl rfl (fun (b2 : 0 ≤ qz_I g 770 18) (b2' : qz_I g 770 18 ≤ 4096) => ?_)
    refine ez_icmp rfl rfl ⟨by first | omega | exact (sz_i32 _).1, by first | omega | exact (sz_i32 _).2⟩ ⟨by first | omega | exact (sz_i32 _).1, by first | omega | exact (sz_i32 _).2⟩ (fun (c3 : (qz_I g 770 18) ≤ (qz_I g 770 17)) => ?_) (fun (c3 : ¬((qz_I g 770 18) ≤ (qz_I g 770 17))) => ?_)
    · skip
      exact ez_ret0 rfl rfl (k1 g τ1 A hBg ⟨hq.mono (by omega), hg⟩ hA hk0 (fun w => by rw [← hT, show (mt h 4 - qz_I g 770 17).toNat = 0 by omega] at w; have w : c = -1 := w; omega) h12 (hc.trans (by rw [← hT, show (mt h 4 - qz_I g 770 17).toNat = 0 by omega]; rfl)) hz9)
    · skip
      refine ez_go (n := 3) (pc' := 116) (L' := [(0, .inr (.inr (some (770)))), (1, .inr (.inr (some (l))))]) (st' := [.inr (.inr (some (770))), .inr (.inr (some (770))), .inl (1)]) rfl ?_
      exfalso; omega
  | succ m ih =>
    intro g τ1 A c hm hBg hq hg hk0 hst hat0 hat hnb hA hps hc hc0 hc1 hT h12 hz9
    have u770 : τ1 770 = 75 := (hq.1 770 (by rw [t770]; decide)).1.trans t770
    have ul : τ1 l = 13 := (hq.1 l (by rw [tl]; decide)).1.trans tl
    have eb : mb g = mb h := funext fun k => by unfold mb qz_I; rw [hq.f tpo usp ucp tl (ez_t771 hB t770) rfl (by decide)]
    have rr := hq.2.2.2.2.2.2.2.2.1
    have rp := pool_le hBg hq.2.2.1
    refine ez_go (n := 1) (pc' := 103) (L' := [(0, .inr (.inr (some (770)))), (1, .inr (.inr (some (l))))]) (st' := [.inr (.inr (some (770)))]) rfl ?_
    refine ez_gI hBg u770 rfl rfl tq_75 rfl rfl (fun (b1 : 0 ≤ qz_I g 770 17) (b1' : qz_I g 770 17 ≤ 4200) => ?_)
    refine ez_go (n := 1) (pc' := 107) (L' := [(0, .inr (.inr (some (770)))), (1, .inr (.inr (some (l))))]) (st' := [.inr (.inr (some (770))), .inl (qz_I g 770 17)]) rfl ?_
    refine ez_gI hBg u770 rfl rfl tq_75 rfl rfl (fun (b2 : 0 ≤ qz_I g 770 18) (b2' : qz_I g 770 18 ≤ 4096) => ?_)
    refine ez_icmp rfl rfl ⟨by first | omega | exact (sz_i32 _).1, by first | omega | exact (sz_i32 _).2⟩ ⟨by first | omega | exact (sz_i32 _).1, by first | omega | exact (sz_i32 _).2⟩ (fun (c3 : (qz_I g 770 18) ≤ (qz_I g 770 17)) => ?_) (fun (c3 : ¬((qz_I g 770 18) ≤ (qz_I g 770 17))) => ?_)
    · skip
      exact ez_ret0 rfl rfl (k1 g τ1 A hBg ⟨hq.mono (by omega), hg⟩ hA hk0 (fun w => by rw [← hT, show (mt h 4 - qz_I g 770 17).toNat = 0 by omega] at w; have w : c = -1 := w; omega) h12 (hc.trans (by rw [← hT, show (mt h 4 - qz_I g 770 17).toNat = 0 by omega]; rfl)) hz9)
    · skip
      refine ez_go (n := 3) (pc' := 116) (L' := [(0, .inr (.inr (some (770)))), (1, .inr (.inr (some (l))))]) (st' := [.inr (.inr (some (770))), .inr (.inr (some (770))), .inl (1)]) rfl ?_
      refine ez_cv hBg u770 rfl rfl rfl tq_75 rfl rfl rfl (rd_word hBg u770 (by omega) (by omega) (by omega) (by rw [hst, eb]; exact fun j q1 q2 => hpl j (by omega) q2) (by omega) (by omega) (fun g4 τ4 s hB4 x4 us zs hS4 a4 r4 c4 => ez_KA ?_))
      rw [hst, eb] at hS4 a4 r4 c4
      have tk := rz_tok_le (mb h) (mt h 4 - qz_I g 770 17).toNat (qz_I g 770 17)
      have tk1 : qz_I g 770 17 + 1 ≤ rz_tok (mb h) (mt h 4 - qz_I g 770 17).toNat (qz_I g 770 17) := by
        rw [show (mt h 4 - qz_I g 770 17).toNat = (mt h 4 - (qz_I g 770 17 + 1)).toNat + 1 by omega]
        unfold rz_tok; rw [if_neg (hnb (by omega))]; exact (rz_tok_le _ _ _).1
      obtain ⟨E, eE⟩ : ∃ E, E = rz_tok (mb h) (mt h 4 - qz_I g 770 17).toNat (qz_I g 770 17) := ⟨_, rfl⟩
      rw [← eE] at hS4 a4 r4 c4 tk tk1
      have st9 := cd_step (b := mb h) (s := mf h 4) (t := mt h 4) (c := c) (show qz_I g 770 17 < mt h 4 by omega) (by rcases hps with q | q | q; (· exact Or.inl q); (· exact Or.inr q); (· omega)) (hnb (by omega))
      rw [hT, ← eE] at st9
      have v770 : τ4 770 = 75 := (x4.1 770 (by rw [u770]; decide)).1.trans u770
      have vl9 : τ4 l = 13 := (x4.1 l (by rw [ul]; decide)).1.trans ul
      have s4 : qz_I g4 770 18 = mt h 4 := (x4.2.2.1 18 (by decide)).trans hst
      have el : ∀ j, qz_I g4 l j = qz_I g l j := fun j => by unfold qz_I; rw [(x4.1 l (by rw [ul]; decide)).2 hl.1 (by rw [ul]; decide) (by rw [ul]; decide)]
      have y4 : py τ1 g τ4 g4 l := x4.py
      have tpg := hq.2.2.1
      have usp1 : τ1 (qz_P h l 7) = 15 := (hq.1 _ (by rw [usp]; decide)).1.trans usp
      have ucp1 : τ1 (qz_P h l 8) = 16 := (hq.1 _ (by rw [ucp]; decide)).1.trans ucp
      have q4 : lq (lX l (qz_P h l 7) (qz_P h l 8)) τ h τ4 g4 A (45 * (E - mf h 4)) := by
        have := hq.trans (y4.lq (e := 5 * (E - qz_I g 770 17) + 40) (lX_l _ _ _) u770 ul tpg hq.2.2.2.2.2.2.2.1.1 (by omega) (by omega)) h0
        rw [List.append_nil] at this; exact this.mono (by omega)
      have g4l : lg (qz_P h l 7) (qz_P h l 8) g4 := hg.py y4 u770 ul usp1 ucp1 tpg
      refine ez_go (n := 2) (pc' := 121) (L' := [(0, .inr (.inr (some (770)))), (1, .inr (.inr (some (l))))]) (st' := [.inr (.inr (some (770))), .inl (0), .inr (.inr (some (s))), .inr (.inr (some (770))), .inl (1)]) rfl ?_
      refine ez_gC (p := 785) (tg := 26) hB4 v770 rfl rfl tq_75 rfl rfl (fun (t785 : _ = 26) => ?_)
      have T := ez_tnm hB t770
      have xq : ∀ q, (τ q = 26 ∨ τ q = 27 ∨ τ q = 28) → g4.2.2 q = h.2.2 q := fun q hq2 => by rcases hq2 with w | w | w <;> exact q4.f tpo usp ucp tl w rfl (fun e => by rw [e, t770] at w; cases w)
      refine ez_cv hB4 v770 rfl rfl rfl tq_75 rfl rfl rfl (rd_among (f := 0) (ct := ctn h 785) hB4 v770 us t785 hS4 (by rw [wl_len]; omega) (by omega) (ctn_S hB hZ hN (by decide) (by decide) T.1 xq) (by omega) (by omega) (fun k kn ke ko => ez_K1 ?_) (fun ko => ez_Kp (xc_exc hB4 rfl) rfl (k0 g4 τ4 _ hB4 ⟨q4.mono (by omega), g4l⟩ ((el 0).trans hk0) (fun w => w (by rw [st9, if_pos (Or.inl (by unfold nz_ck; rw [← eE]; exact am_no (p := 785) hN.2.2 (by decide) (by decide) (fun i hi => ko i (by rw [show qz_N g4 785 = qz_N h 785 by unfold qz_N; rw [xq 785 (Or.inl T.1)]]; exact hi))))])))))
      have ek : nz_ck (mb h) (mt h 4) (qz_I g 770 17) = (k : Int) := by unfold nz_ck; rw [← eE]; exact am_ix (p := 785) hN.2.2 (by decide) (by decide) (by rw [show qz_N h 785 = qz_N g4 785 by unfold qz_N; rw [xq 785 (Or.inl T.1)]]; exact kn) ke ko
      have k9 : (k : Int) < 9 := by rw [← ek]; exact (nz_ix_bd _ nzN_1).2
      rw [ek] at st9
      have lc4 : qz_I g4 l 12 = c := (el 12).trans hc
      refine ez_go (n := 4) (pc' := 131) (L' := [(2, .inl ((Int32.ofInt (1) <<< (Int32.ofInt ((k : Int)) &&& 31)).toInt)), (0, .inr (.inr (some (770)))), (1, .inr (.inr (some (l))))]) (st' := [.inr (.inr (some (l))), .inr (.inr (some (770)))]) rfl ?_
      refine ez_gI hB4 vl9 rfl rfl tq_13 rfl rfl (fun (b4 : -2147483648 ≤ qz_I g4 l 12) (b4' : qz_I g4 l 12 ≤ 2147483647) => ?_)
      refine ez_go (n := 2) (pc' := 136) (L' := [(2, .inl ((Int32.ofInt (1) <<< (Int32.ofInt ((k : Int)) &&& 31)).toInt)), (0, .inr (.inr (some (770)))), (1, .inr (.inr (some (l))))]) (st' := [.inl ((Int32.ofInt (qz_I g4 l 12) &&& Int32.ofInt ((Int32.ofInt (1) <<< (Int32.ofInt ((k : Int)) &&& 31)).toInt)).toInt), .inr (.inr (some (770)))]) rfl ?_
      refine ez_if rfl rfl ⟨by first | omega | exact (sz_i32 _).1, by first | omega | exact (sz_i32 _).2⟩ (fun (c5 : ((Int32.ofInt (qz_I g4 l 12) &&& Int32.ofInt ((Int32.ofInt (1) <<< (Int32.ofInt ((k : Int)) &&& 31)).toInt)).toInt) ≠ (0)) => ?_) (fun (c5 : ¬(((Int32.ofInt (qz_I g4 l 12) &&& Int32.ofInt ((Int32.ofInt (1) <<< (Int32.ofInt ((k : Int)) &&& 31)).toInt)).toInt) ≠ (0))) => ?_)
      · skip
        refine ez_go (n := 1) (pc' := 144) (L' := [(2, .inl ((Int32.ofInt (1) <<< (Int32.ofInt ((k : Int)) &&& 31)).toInt)), (0, .inr (.inr (some (770)))), (1, .inr (.inr (some (l))))]) (st' := [.inl (0), .inr (.inr (some (770)))]) rfl ?_
        refine ez_cv hB4 v770 rfl rfl rfl tq_75 rfl rfl rfl (rd_can0 (by omega) (by omega) (ez_Kp (xc_exc hB4 rfl) rfl (k0 g4 τ4 _ hB4 ⟨q4.mono (by omega), g4l⟩ ((el 0).trans hk0) (fun w => w (by rw [st9, if_pos (Or.inr (fun w9 => by have w8 := (cbm hc0 hc1 (by omega) k9).mp w9; rw [← lc4] at w8; first | exact absurd w8 (by assumption) | omega))])))))
      · skip
        refine ez_go (n := 2) (pc' := 144) (L' := [(2, .inl ((Int32.ofInt (1) <<< (Int32.ofInt ((k : Int)) &&& 31)).toInt)), (0, .inr (.inr (some (770)))), (1, .inr (.inr (some (l))))]) (st' := [.inl (1), .inr (.inr (some (770)))]) rfl ?_
        refine ez_cv hB4 v770 rfl rfl rfl tq_75 rfl rfl rfl (rd_can1 (by omega) (by omega) (ez_K0 ?_))
        have cb0 : cbit c (k : Int) = 0 := (cbm hc0 hc1 (by omega) k9).mpr (by rw [← lc4]; first | assumption | omega)
        rw [if_neg (fun w => by rcases w with w | w; (· omega); (· exact w cb0))] at st9
        refine ez_go (n := 2) (pc' := 149) (L' := [(2, .inl ((Int32.ofInt (1) <<< (Int32.ofInt ((k : Int)) &&& 31)).toInt)), (0, .inr (.inr (some (770)))), (1, .inr (.inr (some (l))))]) (st' := [.inr (.inr (some (l))), .inr (.inr (some (l)))]) rfl ?_
        refine ez_gI hB4 vl9 rfl rfl tq_13 rfl rfl (fun (b6 : -2147483648 ≤ qz_I g4 l 12) (b6' : qz_I g4 l 12 ≤ 2147483647) => ?_)
        refine ez_go (n := 2) (pc' := 154) (L' := [(2, .inl ((Int32.ofInt (1) <<< (Int32.ofInt ((k : Int)) &&& 31)).toInt)), (0, .inr (.inr (some (770)))), (1, .inr (.inr (some (l))))]) (st' := [.inl ((Int32.ofInt (qz_I g4 l 12) ||| Int32.ofInt ((Int32.ofInt (1) <<< (Int32.ofInt ((k : Int)) &&& 31)).toInt)).toInt), .inr (.inr (some (l)))]) rfl ?_
        have wb := sz_i32 (Int32.ofInt (qz_I g4 l 12) ||| Int32.ofInt ((Int32.ofInt (1) <<< (Int32.ofInt ((k : Int)) &&& 31)).toInt))
        refine ez_pf hB4 vl9 rfl rfl tq_13 rfl rfl rfl rfl (ez_vdI rfl rfl (by omega) (by omega)) (fun hB7 w8 => ?_)
        refine ez_go (n := 1) (pc' := 158) (L' := [(2, .inl ((Int32.ofInt (1) <<< (Int32.ofInt ((k : Int)) &&& 31)).toInt)), (0, .inr (.inr (some (770)))), (1, .inr (.inr (some (l))))]) (st' := [.inr (.inr (some (770)))]) rfl ?_
        have M5 : mw g4 (dz_put g4 l 12 (ez_v (.inl ((Int32.ofInt (qz_I g4 l 12) ||| Int32.ofInt ((Int32.ofInt (1) <<< (Int32.ofInt ((k : Int)) &&& 31)).toInt)).toInt)))) l := mw_put hl.1
        have a5 : qz_I (dz_put g4 l 12 (ez_v (.inl ((Int32.ofInt (qz_I g4 l 12) ||| Int32.ofInt ((Int32.ofInt (1) <<< (Int32.ofInt ((k : Int)) &&& 31)).toInt)).toInt)))) 770 17 = E := by rw [ez_put_I (fun w => hl.1 w.1.symm)]; exact a4
        have s5 : qz_I (dz_put g4 l 12 (ez_v (.inl ((Int32.ofInt (qz_I g4 l 12) ||| Int32.ofInt ((Int32.ofInt (1) <<< (Int32.ofInt ((k : Int)) &&& 31)).toInt)).toInt)))) 770 18 = mt h 4 := by rw [ez_put_I (fun w => hl.1 w.1.symm)]; exact s4
        have l5 : ∀ j, j ≠ 12 → qz_I (dz_put g4 l 12 (ez_v (.inl ((Int32.ofInt (qz_I g4 l 12) ||| Int32.ofInt ((Int32.ofInt (1) <<< (Int32.ofInt ((k : Int)) &&& 31)).toInt)).toInt)))) l j = qz_I g4 l j := fun j hj => ez_put_I (fun w => hj w.2)
        have c12 : qz_I (dz_put g4 l 12 (ez_v (.inl ((Int32.ofInt (qz_I g4 l 12) ||| Int32.ofInt ((Int32.ofInt (1) <<< (Int32.ofInt ((k : Int)) &&& 31)).toInt)).toInt)))) l 12 = cset c (k : Int) := by rw [w8, rz_rd ⟨by omega, by omega⟩, lc4]; rfl
        have hB5 := hB7
        generalize (dz_put g4 l 12 (ez_v (.inl ((Int32.ofInt (qz_I g4 l 12) ||| Int32.ofInt ((Int32.ofInt (1) <<< (Int32.ofInt ((k : Int)) &&& 31)).toInt)).toInt)))) = g5 at *
        have eb5 : mb g5 = mb h := by rw [M5.b hl.2.1, x4.b (ez_t771 hBg u770), eb]
        refine ez_cv hB5 v770 rfl rfl rfl tq_75 rfl rfl rfl (rd_blanks hB5 v770 (by rw [a5, s5]; omega) (fun g6 hB6 m6 a6 => ez_K0 ?_))
        rw [a5, s5, eb5] at a6
        have M6 : mw g4 g6 l := M5.trans m6.mw
        have tp4 : τ4 (po g4) = 17 := q4.2.2.1
        have q6 : lq (lX l (qz_P h l 7) (qz_P h l 8)) τ h τ4 g6 A (45 * (E - mf h 4)) := by
          have := q4.trans ((M6.jp (lX_l l (qz_P h l 7) (qz_P h l 8)) v770 vl9 tp4 q4.2.2.2.2.2.2.2.1.1).lq) h0
          rw [List.append_nil, Int.add_zero] at this; exact this
        have us4 : τ4 (qz_P h l 7) = 15 := (q4.1 _ (by rw [usp]; decide)).1.trans usp
        have uc4 : τ4 (qz_P h l 8) = 16 := (q4.1 _ (by rw [ucp]; decide)).1.trans ucp
        have g6l : lg (qz_P h l 7) (qz_P h l 8) g6 := g4l.mw M6 v770 vl9 us4 uc4 tp4
        have sl := rz_skip_le (mb h) (mt h 4 - E).toNat E
        have s6 : qz_I g6 770 18 = mt h 4 := (m6.2 18 (by decide)).trans s5
        refine ez_go (n := 1) (pc' := 102) (L' := [(2, .inl ((Int32.ofInt (1) <<< (Int32.ofInt ((k : Int)) &&& 31)).toInt)), (0, .inr (.inr (some (770)))), (1, .inr (.inr (some (l))))]) (st' := []) rfl ?_
        refine ez_less [(0, .inr (.inr (some (770)))), (1, .inr (.inr (some (l))))] rfl ⟨rfl, rfl, trivial⟩ ?_
        have cb9 := cset_bd hc0 hc1 (k := (k : Int)) (by omega) k9
        refine ih g6 τ4 A (cset c (k : Int)) (by rw [a6]; omega) hB6 (q6.mono (by rw [a6]; omega)) g6l ?_ s6 (by rw [a6]; omega) (by rw [a6]; omega) (fun w => by rw [a6] at w ⊢; exact skip_stop (mb h) (mt h 4 - E).toNat E (by omega)) hA ?_ (by rw [m6.l hl.1]; exact c12) cb9.1 cb9.2 (by rw [a6]; exact st9.symm) (by rw [m6.l hl.1, m6.l hl.1, l5 1 (by decide), l5 2 (by decide), el, el]; exact h12) (hz9.trans ((z9.py y4 u770 ul usp1 ucp1 tpg).trans (z9.mw M6 v770 vl9 us4 uc4 tp4)))
        · rw [m6.l hl.1, l5 0 (by decide), el]; exact hk0
        · rw [a6]
          by_cases e9 : E < rz_skip (mb h) (mt h 4 - E).toNat E
          · exact Or.inr (Or.inl ⟨by omega, skip_prev _ _ _ e9⟩)
          · have e8 : rz_skip (mb h) (mt h 4 - E).toNat E = E := by omega
            by_cases e7 : E < mt h 4
            · exfalso; have q1 := tok_stop (mb h) (mt h 4 - qz_I g 770 17).toNat (qz_I g 770 17) (by omega); rw [← eE] at q1; have q2 := skip_stop (mb h) (mt h 4 - E).toNat E (by omega); rw [e8] at q2; exact q2 q1
            · exact Or.inr (Or.inr (by omega))
end EzCb
section EzCc
variable {d : Nat} {h : cz_H} {τ : Nat → Nat} {Q : cz_F → Prop} {l : Nat}
theorem rd_cases_l9 (hB : ez_B τ h) (t770 : τ 770 = 75) (tl : τ l = 13) (hl : lz l) (usp : τ (qz_P h l 7) = 15) (ucp : τ (qz_P h l 8) = 16) (tpo : τ (po h) = 17) (h0 : 0 ≤ pn h) (hpm : pn h + 75 ≤ 38400) (hNh : 1024 ≤ qz_N h (po h)) (hr1 : h.1 + 300 ≤ 600192) (hr2 : h.2.1 + 500000 ≤ 7302232) (hF : ∀ k, 0 ≤ k → k < 5 → (0 ≤ mf h k ∧ mf h k ≤ mt h k) ∧ mt h k ≤ 4096) (hTr : ∀ k, 0 ≤ k → k < 5 → mf h k < mt h k → ¬ bk (mb h (mf h k)) ∧ ¬ bk (mb h (mt h k - 1))) (kx : ∀ g τ1 A, ez_B τ1 g → cs9 τ h τ1 g l 3 A → ez_W (d + 9) cm_229 97 [(0, .inr (.inr (some (770)))), (1, .inr (.inr (some (l))))] [] g Q) (k0 : ∀ g τ1 A, ez_B τ1 g → (pj (lX l (qz_P h l 7) (qz_P h l 8)) τ h τ1 g A ∧ lg (qz_P h l 7) (qz_P h l 8) g) → qz_I g l 0 = qz_I h l 0 → ¬ rz_G1 (mb h) (mf h) (mt h) → Q (.inr g.1, xc g 1)) : ∀ (n : Nat) (k : Int) (g : cz_H) (τ1 : Nat → Nat) (A : List Int), n = (3 - k).toNat → 0 ≤ k → k ≤ 3 → ez_B τ1 g → cs9 τ h τ1 g l k A → ez_W (d + 9) cm_229 50 [(2, .inl (k)), (0, .inr (.inr (some (770)))), (1, .inr (.inr (some (l))))] [] g Q := by
  intro n
  induction n with
  | zero =>
    intro k g τ1 A hn k0' k1' hBg hs
    refine ez_go (n := 2) (pc' := 52) (L' := [(2, .inl (k)), (0, .inr (.inr (some (770)))), (1, .inr (.inr (some (l))))]) (st' := [.inl (3), .inl (k)]) rfl ?_
    refine ez_icmp rfl rfl ⟨by first | omega | exact (sz_i32 _).1, by first | omega | exact (sz_i32 _).2⟩ ⟨by first | omega | exact (sz_i32 _).1, by first | omega | exact (sz_i32 _).2⟩ (fun (c1 : (3) ≤ (k)) => ?_) (fun (c1 : ¬((3) ≤ (k))) => ?_)
    · skip
      refine ez_less [(0, .inr (.inr (some (770)))), (1, .inr (.inr (some (l))))] rfl ⟨rfl, rfl, trivial⟩ ?_
      have ek : k = 3 := by omega
      rw [ek] at hs
      exact kx g τ1 A hBg hs
    · skip
      exfalso; omega
  | succ n ih =>
    intro k g τ1 A hn k0' k1' hBg hs
    refine ez_go (n := 2) (pc' := 52) (L' := [(2, .inl (k)), (0, .inr (.inr (some (770)))), (1, .inr (.inr (some (l))))]) (st' := [.inl (3), .inl (k)]) rfl ?_
    refine ez_icmp rfl rfl ⟨by first | omega | exact (sz_i32 _).1, by first | omega | exact (sz_i32 _).2⟩ ⟨by first | omega | exact (sz_i32 _).1, by first | omega | exact (sz_i32 _).2⟩ (fun (c1 : (3) ≤ (k)) => ?_) (fun (c1 : ¬((3) ≤ (k))) => ?_)
    · skip
      refine ez_less [(0, .inr (.inr (some (770)))), (1, .inr (.inr (some (l))))] rfl ⟨rfl, rfl, trivial⟩ ?_
      have ek : k = 3 := by omega
      rw [ek] at hs
      exact kx g τ1 A hBg hs
    · skip
      refine rd_cases_k9 hB t770 tl hl usp ucp tpo h0 hpm hNh hr1 hr2 hF hTr hBg hs.1 hs.2.1 hs.2.2.1 hs.2.2.2.1 hs.2.2.2.2.1 hs.2.2.2.2.2.1 hs.2.2.2.2.2.2.1 hs.2.2.2.2.2.2.2 k0' (by omega) (fun g2 τ2 A2 b1 b2 b3 b4 b5 b6 b7 b8 b9 => ?_) k0
      refine ez_go (n := 2) (pc' := 50) (L' := [(2, .inl (k + 1)), (0, .inr (.inr (some (770)))), (1, .inr (.inr (some (l))))]) (st' := []) rfl ?_
      refine ez_less [(2, .inl (k + 1)), (0, .inr (.inr (some (770)))), (1, .inr (.inr (some (l))))] rfl ⟨rfl, rfl, rfl, trivial⟩ ?_
      exact ih (k + 1) g2 τ2 A2 (by omega) (by omega) (by omega) b1 ⟨b2, b3, b4, b5, b6, b7, b8, b9⟩
theorem rd_cases_v9 {g : cz_H} {τ1 : Nat → Nat} {A : List Int} (hB : ez_B τ h) (t770 : τ 770 = 75) (tl : τ l = 13) (hl : lz l) (usp : τ (qz_P h l 7) = 15) (ucp : τ (qz_P h l 8) = 16) (tpo : τ (po h) = 17) (h0 : 0 ≤ pn h) (hpm : pn h + 75 ≤ 38400) (hNh : 1024 ≤ qz_N h (po h)) (hr1 : h.1 + 24000 ≤ 600192) (hr2 : h.2.1 + 800000 ≤ 7302232) (hF : ∀ k, 0 ≤ k → k < 5 → (0 ≤ mf h k ∧ mf h k ≤ mt h k) ∧ mt h k ≤ 4096) (hTr : ∀ k, 0 ≤ k → k < 5 → mf h k < mt h k → ¬ bk (mb h (mf h k)) ∧ ¬ bk (mb h (mt h k - 1))) (hl12 : qz_I h l 12 = 0) (hZ : nz_Z h) (hN : nmz h) (hpl : ∀ j, mf h 4 ≤ j → j < mt h 4 → 0 ≤ mb h j ∧ mb h j ≤ 127) (hBg : ez_B τ1 g) (hs : cs9 τ h τ1 g l 3 A) (k1 : ∀ gz τ1 A, ez_B τ1 gz → (lq (lX l (qz_P h l 7) (qz_P h l 8)) τ h τ1 gz A (45 * (mt h 4 - mf h 4)) ∧ lg (qz_P h l 7) (qz_P h l 8) gz) → A.length ≤ 75 → qz_I gz l 0 = qz_I h l 0 → rz_CD (mb h) (mf h 4) (mt h 4) → (qz_I gz l 1 = qz_I gz l 2 ∧ qz_I gz l 1 = rz_code (mb h) (mf h 0) (mt h 0)) → qz_I gz l 12 = nz_cd (mb h) (mt h 4) (rz_ct (mb h) (mf h 4) (mt h 4 - mf h 4).toNat (mf h 4)) (mf h 4) 0 → z9 (qz_P h l 7) (qz_P h l 8) g gz → Q (.inl none, gz)) (k0 : ∀ g τ1 A, ez_B τ1 g → (lq (lX l (qz_P h l 7) (qz_P h l 8)) τ h τ1 g A (45 * (mt h 4 - mf h 4)) ∧ lg (qz_P h l 7) (qz_P h l 8) g) → qz_I g l 0 = qz_I h l 0 → ¬ rz_CD (mb h) (mf h 4) (mt h 4) → Q (.inr g.1, xc g 1)) : ez_W (d + 9) cm_229 97 [(0, .inr (.inr (some (770)))), (1, .inr (.inr (some (l))))] [] g Q := by
  obtain ⟨hp, -⟩ := id hs
  have F4 := hF 4 (by omega) (by omega)
  have u770 : τ1 770 = 75 := (hp.1 770 (by rw [t770]; decide)).1.trans t770
  have ul : τ1 l = 13 := (hp.1 l (by rw [tl]; decide)).1.trans tl
  have g789 : g.2.2 789 = h.2.2 789 := hp.f tpo usp ucp tl (ez_t789 hB t770) rfl (by decide)
  have g790 : g.2.2 790 = h.2.2 790 := hp.f tpo usp ucp tl (ez_t790 hB t770) rfl (by decide)
  have ef : ∀ k, mf g k = mf h k := fun k => by unfold mf qz_I; rw [g789]
  have et : ∀ k, mt g k = mt h k := fun k => by unfold mt qz_I; rw [g790]
  refine ez_go (n := 2) (pc' := 99) (L' := [(0, .inr (.inr (some (770)))), (1, .inr (.inr (some (l))))]) (st' := [.inl (4), .inr (.inr (some (770)))]) rfl ?_
  refine ez_cv hBg u770 rfl rfl rfl tq_75 rfl rfl rfl (rd_field hBg u770 (by omega) (by omega) (fun g1 hB1 m1 a1 s1 => ez_K0 ?_))
  rw [ef] at a1; rw [et] at s1
  refine ez_less [(0, .inr (.inr (some (770)))), (1, .inr (.inr (some (l))))] rfl ⟨rfl, rfl, trivial⟩ ?_
  have M1 : mw g g1 l := m1.mw
  have tpg := hp.2.2.1
  have P1 := hp.trans (M1.jp (lX_l l (qz_P h l 7) (qz_P h l 8)) u770 ul tpg hp.2.2.2.2.2.2.2.1.1) h0
  rw [List.append_nil] at P1
  have us1 : τ1 (qz_P h l 7) = 15 := (hp.1 _ (by rw [usp]; decide)).1.trans usp
  have uc1 : τ1 (qz_P h l 8) = 16 := (hp.1 _ (by rw [ucp]; decide)).1.trans ucp
  have hA5 := hs.2.2.2.2.1
  exact rd_cases_w9 (g0 := g) hB t770 tl hl usp ucp tpo h0 hpm hNh hr1 hr2 hZ hN F4 hpl k1 k0 _ g1 τ1 A 0 (Nat.le_refl _) hB1 (P1.lq.mono (by rw [a1]; omega)) (hs.2.1.mw M1 u770 ul us1 uc1 tpg) (by rw [m1.l hl.1]; exact hs.2.2.1 0 (by decide) (by decide)) s1 (by rw [a1]; omega) (by rw [a1]; omega) (fun w => by rw [a1] at w ⊢; exact (hTr 4 (by omega) (by omega) w).1) (by omega) (Or.inl a1) (by rw [m1.l hl.1, hs.2.2.1 12 (by decide) (by decide)]; exact hl12) (by omega) (by omega) (by rw [a1]) (by rw [m1.l hl.1, m1.l hl.1]; exact hs.2.2.2.2.2.2.1) (z9.mw M1 u770 ul us1 uc1 tpg)
theorem rd_cases9 (hB : ez_B τ h) (t770 : τ 770 = 75) (tl : τ l = 13) (hl : lz l) (usp : τ (qz_P h l 7) = 15) (ucp : τ (qz_P h l 8) = 16) (tpo : τ (po h) = 17) (h0 : 0 ≤ pn h) (hpm : pn h + 75 ≤ 38400) (hNh : 1024 ≤ qz_N h (po h)) (hr1 : h.1 + 24000 ≤ 600192) (hr2 : h.2.1 + 800000 ≤ 7302232) (hn : pn h ≤ qz_N h (po h)) (hlg : lg (qz_P h l 7) (qz_P h l 8) h) (hc0 : ∀ j, qz_I h (qz_P h l 8) j = 0) (hF : ∀ k, 0 ≤ k → k < 5 → (0 ≤ mf h k ∧ mf h k ≤ mt h k) ∧ mt h k ≤ 4096) (hTr : ∀ k, 0 ≤ k → k < 5 → mf h k < mt h k → ¬ bk (mb h (mf h k)) ∧ ¬ bk (mb h (mt h k - 1))) (hl12 : qz_I h l 12 = 0) (hZ : nz_Z h) (hN : nmz h) (hpl : ∀ j, mf h 4 ≤ j → j < mt h 4 → 0 ≤ mb h j ∧ mb h j ≤ 127) (k1 : ∀ g τ1 A, ez_B τ1 g → (lq (lX l (qz_P h l 7) (qz_P h l 8)) τ h τ1 g A (45 * (mt h 4 - mf h 4)) ∧ lg (qz_P h l 7) (qz_P h l 8) g) → A.length ≤ 75 → qz_I g l 0 = qz_I h l 0 → rz_G1 (mb h) (mf h) (mt h) → (qz_I g l 1 = qz_I g l 2 ∧ qz_I g l 1 = rz_code (mb h) (mf h 0) (mt h 0)) → qz_I g l 12 = nz_cd (mb h) (mt h 4) (rz_ct (mb h) (mf h 4) (mt h 4 - mf h 4).toNat (mf h 4)) (mf h 4) 0 → (∀ i : Nat, (i : Int) < 3 → mrw g (qz_P h l 7) (qz_P h l 8) i (rz_rn (mb h) (mf h (1 + (i : Int))) (mt h (1 + (i : Int))))) → Q (.inl none, g)) (k0 : ∀ g τ1 A, ez_B τ1 g → (lq (lX l (qz_P h l 7) (qz_P h l 8)) τ h τ1 g A (45 * (mt h 4 - mf h 4)) ∧ lg (qz_P h l 7) (qz_P h l 8) g) → qz_I g l 0 = qz_I h l 0 → ¬ rz_G1 (mb h) (mf h) (mt h) → Q (.inr g.1, xc g 1)) : ez_W (d + 9) cm_229 0 [(0, .inr (.inr (some (770)))), (1, .inr (.inr (some (l))))] [] h Q := by
  refine ez_go (n := 2) (pc' := 2) (L' := [(0, .inr (.inr (some (770)))), (1, .inr (.inr (some (l))))]) (st' := [.inl (0), .inr (.inr (some (770)))]) rfl ?_
  have F0 := hF 0 (by omega) (by omega)
  have F4 := hF 4 (by omega) (by omega)
  refine ez_cv hB t770 rfl rfl rfl tq_75 rfl rfl rfl (rd_field hB t770 (by omega) (by omega) (fun g1 hB1 m1 a1 s1 => ez_K0 ?_))
  have u1a : (g1).1 = h.1 := m1.1.1
  have u1b : (g1).2.1 = h.2.1 := m1.1.2.1
  refine ez_go (n := 2) (pc' := 7) (L' := [(0, .inr (.inr (some (770)))), (1, .inr (.inr (some (l))))]) (st' := [.inr (.inr (some (l))), .inr (.inr (some (770)))]) rfl ?_
  have eb1 : mb g1 = mb h := m1.mw.b hl.2.1
  refine ez_cv hB1 t770 rfl rfl rfl tq_75 rfl rfl rfl (rd_codes hB1 t770 tl (by omega) (by omega) (by omega) (by omega) (fun g2 hB2 m2 a2 e1 e2 v1 v2 J2 => ez_K0 ?_) (fun hno g2 hB2 m2 J2 => ez_Kp (xc_exc hB2 rfl) rfl (k0 g2 τ [] hB2 ⟨((m1.mw.trans m2.mw).jp (lX_l _ _ _) t770 tl tpo hn).lq.mono (by omega), hlg.mw (m1.mw.trans m2.mw) t770 tl usp ucp tpo⟩ (by rw [J2 0 (by decide) (by decide)]; exact m1.l hl.1 0) (fun w => hno (by rw [eb1, a1, s1]; have o9 := (rz_one F0.1.2).mpr w.1; exact ⟨o9.1, o9.2.1⟩)))))
  rw [eb1, a1, s1] at e1 e2 v1 v2
  have M2 : mw h g2 l := m1.mw.trans m2.mw
  have u2a : (g2).1 = h.1 := M2.1.1
  have u2b : (g2).2.1 = h.2.1 := M2.1.2.1
  have q789 : qz_I g2 789 (0 : Int).toNat = mf h 0 := M2.f hl.2.2.1 0
  have q790 : qz_I g2 790 (0 : Int).toNat = mt h 0 := M2.t hl.2.2.2 0
  have z2 : ∀ j, j ≠ 1 → j ≠ 2 → qz_I g2 l j = qz_I h l j := fun j j1 j2 => by rw [J2 j j1 j2]; exact m1.l hl.1 j
  refine ez_go (n := 2) (pc' := 12) (L' := [(0, .inr (.inr (some (770)))), (1, .inr (.inr (some (l))))]) (st' := [.inr (.inr (some (l))), .inr (.inr (some (770)))]) rfl ?_
  refine ez_gI hB2 tl rfl rfl tq_13 rfl rfl (fun (b1 : -2147483648 ≤ qz_I g2 l 1) (b1' : qz_I g2 l 1 ≤ 2147483647) => ?_)
  refine ez_go (n := 1) (pc' := 16) (L' := [(0, .inr (.inr (some (770)))), (1, .inr (.inr (some (l))))]) (st' := [.inr (.inr (some (l))), .inl (qz_I g2 l 1), .inr (.inr (some (770)))]) rfl ?_
  refine ez_gI hB2 tl rfl rfl tq_13 rfl rfl (fun (b2 : -2147483648 ≤ qz_I g2 l 2) (b2' : qz_I g2 l 2 ≤ 2147483647) => ?_)
  refine ez_icmp rfl rfl ⟨by first | omega | exact (sz_i32 _).1, by first | omega | exact (sz_i32 _).2⟩ ⟨by first | omega | exact (sz_i32 _).1, by first | omega | exact (sz_i32 _).2⟩ (fun (c3 : (qz_I g2 l 1) ≠ (qz_I g2 l 2)) => ?_) (fun (c3 : ¬((qz_I g2 l 1) ≠ (qz_I g2 l 2))) => ?_)
  · skip
    refine ez_go (n := 1) (pc' := 45) (L' := [(0, .inr (.inr (some (770)))), (1, .inr (.inr (some (l))))]) (st' := [.inl (0), .inr (.inr (some (770)))]) rfl ?_
    refine ez_cv hB2 t770 rfl rfl rfl tq_75 rfl rfl rfl (rd_can0 (by omega) (by omega) (ez_Kp (xc_exc hB2 rfl) rfl (k0 g2 τ [] hB2 ⟨(M2.jp (lX_l _ _ _) t770 tl tpo hn).lq.mono (by omega), hlg.mw M2 t770 tl usp ucp tpo⟩ (z2 0 (by decide) (by decide)) (fun w => by have o9 := (rz_one F0.1.2).mpr w.1; omega))))
  · skip
    refine ez_go (n := 1) (pc' := 23) (L' := [(0, .inr (.inr (some (770)))), (1, .inr (.inr (some (l))))]) (st' := [.inr (.inr (some (770))), .inr (.inr (some (770)))]) rfl ?_
    refine ez_gC (p := 790) (tg := 81) hB2 t770 rfl rfl tq_75 rfl rfl (fun (t790 : _ = 81) => ?_)
    refine ez_go (n := 1) (pc' := 27) (L' := [(0, .inr (.inr (some (770)))), (1, .inr (.inr (some (l))))]) (st' := [.inl (0), .inr (.inr (some (790))), .inr (.inr (some (770)))]) rfl ?_
    have n5 : 8 ≤ qz_N g2 790 ∧ qz_N g2 790 ≤ 8 := ez_len hB2 t790 tq_81 rfl
    refine ez_aI hB2 t790 rfl tq_81 rfl rfl (by omega) (by omega) (fun (b4 : 0 ≤ qz_I g2 790 (0 : Int).toNat) (b4' : qz_I g2 790 (0 : Int).toNat ≤ 4096) => ?_)
    refine ez_go (n := 1) (pc' := 29) (L' := [(0, .inr (.inr (some (770)))), (1, .inr (.inr (some (l))))]) (st' := [.inr (.inr (some (770))), .inl (qz_I g2 790 (0 : Int).toNat), .inr (.inr (some (770)))]) rfl ?_
    refine ez_gC (p := 789) (tg := 80) hB2 t770 rfl rfl tq_75 rfl rfl (fun (t789 : _ = 80) => ?_)
    refine ez_go (n := 1) (pc' := 33) (L' := [(0, .inr (.inr (some (770)))), (1, .inr (.inr (some (l))))]) (st' := [.inl (0), .inr (.inr (some (789))), .inl (qz_I g2 790 (0 : Int).toNat), .inr (.inr (some (770)))]) rfl ?_
    have n7 : 8 ≤ qz_N g2 789 ∧ qz_N g2 789 ≤ 8 := ez_len hB2 t789 tq_80 rfl
    refine ez_aI hB2 t789 rfl tq_80 rfl rfl (by omega) (by omega) (fun (b6 : 0 ≤ qz_I g2 789 (0 : Int).toNat) (b6' : qz_I g2 789 (0 : Int).toNat ≤ 4096) => ?_)
    refine ez_go (n := 2) (pc' := 37) (L' := [(0, .inr (.inr (some (770)))), (1, .inr (.inr (some (l))))]) (st' := [.inl (6), .inl ((qz_I g2 790 (0 : Int).toNat) - (qz_I g2 789 (0 : Int).toNat)), .inr (.inr (some (770)))]) rfl ?_
    refine ez_icmp rfl rfl ⟨by first | omega | exact (sz_i32 _).1, by first | omega | exact (sz_i32 _).2⟩ ⟨by first | omega | exact (sz_i32 _).1, by first | omega | exact (sz_i32 _).2⟩ (fun (c8 : (6) < ((qz_I g2 790 (0 : Int).toNat) - (qz_I g2 789 (0 : Int).toNat))) => ?_) (fun (c8 : ¬((6) < ((qz_I g2 790 (0 : Int).toNat) - (qz_I g2 789 (0 : Int).toNat)))) => ?_)
    · skip
      refine ez_go (n := 1) (pc' := 45) (L' := [(0, .inr (.inr (some (770)))), (1, .inr (.inr (some (l))))]) (st' := [.inl (0), .inr (.inr (some (770)))]) rfl ?_
      refine ez_cv hB2 t770 rfl rfl rfl tq_75 rfl rfl rfl (rd_can0 (by omega) (by omega) (ez_Kp (xc_exc hB2 rfl) rfl (k0 g2 τ [] hB2 ⟨(M2.jp (lX_l _ _ _) t770 tl tpo hn).lq.mono (by omega), hlg.mw M2 t770 tl usp ucp tpo⟩ (z2 0 (by decide) (by decide)) (fun w => by have o9 := (rz_one F0.1.2).mpr w.1; omega))))
    · skip
      refine ez_go (n := 2) (pc' := 45) (L' := [(0, .inr (.inr (some (770)))), (1, .inr (.inr (some (l))))]) (st' := [.inl (1), .inr (.inr (some (770)))]) rfl ?_
      refine ez_cv hB2 t770 rfl rfl rfl tq_75 rfl rfl rfl (rd_can1 (by omega) (by omega) (ez_K0 ?_))
      have o0 : rz_code (mb h) (mf h 0) (mt h 0) ≠ -1 := (rz_one F0.1.2).mp ⟨v1, v2, by omega, by omega⟩
      have o12 : qz_I g2 l 1 = qz_I g2 l 2 ∧ qz_I g2 l 1 = rz_code (mb h) (mf h 0) (mt h 0) := ⟨by omega, e1.trans (rz_one_e F0.1.2 o0).1⟩
      refine ez_go (n := 2) (pc' := 50) (L' := [(2, .inl (0)), (0, .inr (.inr (some (770)))), (1, .inr (.inr (some (l))))]) (st' := []) rfl ?_
      refine ez_less [(2, .inl (0)), (0, .inr (.inr (some (770)))), (1, .inr (.inr (some (l))))] rfl ⟨rfl, rfl, rfl, trivial⟩ ?_
      have nc7 : qz_P h l 8 ≠ 770 := fun e => by rw [e, t770] at ucp; cases ucp
      have ncl : qz_P h l 8 ≠ l := fun e => by rw [e, tl] at ucp; cases ucp
      exact rd_cases_l9 hB t770 tl hl usp ucp tpo h0 hpm hNh (by omega) (by omega) hF hTr (fun g3 τ3 A3 b1 b2 => rd_cases_v9 hB t770 tl hl usp ucp tpo h0 hpm hNh hr1 hr2 hF hTr hl12 hZ hN hpl b1 b2 (fun g4 τ4 A4 d1 d2 d3 d4 d5 d6 d7 d8 => k1 g4 τ4 A4 d1 d2 d3 d4 ⟨o0, b2.2.2.2.2.2.1 1 (by omega) (by omega), b2.2.2.2.2.2.1 2 (by omega) (by omega), b2.2.2.2.2.2.1 3 (by omega) (by omega), d5⟩ d6 d7 (fun i hi => (b2.2.2.2.2.2.2.2 i hi).z9 d8)) (fun g4 τ4 A4 d1 d2 d3 d5 => k0 g4 τ4 A4 d1 d2 d3 (fun w => d5 w.2.2.2.2))) (fun g3 τ3 A3 b1 b2 b3 b4 => k0 g3 τ3 A3 b1 ⟨b2.1.lq.mono (by omega), b2.2⟩ b3 b4) _ 0 g2 τ [] rfl (by omega) (by omega) hB2 ⟨M2.jp (lX_l _ _ _) t770 tl tpo hn, hlg.mw M2 t770 tl usp ucp tpo, z2, fun j _ => by rw [M2.I nc7 ncl]; exact hc0 j, by simp, fun j q1 q2 => by omega, o12, fun i hi => by omega⟩
end EzCc
abbrev vz9 : Type := Int × Int × Int × Int × Int × List Int × vy
def vD9 (x : vz9) : Option (Int × List Int) := if x.2.2.2.2.1 = 0 then none else some (x.2.2.2.2.1 - 1, x.2.2.2.2.2.1)
def vf9 (F : rz_W) (x : vz9) : rz_W := fun y => if x.1 = 0 ∧ x.2.1 ≤ y ∧ y ≤ x.2.2.1 then (x.2.2.2.1, vD9 x) else F y
def ve9 (E : Int → Prop) (x : vz9) : Int → Prop := fun y => E y ∨ (x.1 = 3 ∧ x.2.2.2.2.1 = 0 ∧ x.2.1 ≤ y ∧ y ≤ x.2.2.1)
def vF9 (Ls : List vz9) : rz_W := Ls.foldl vf9 (fun _ => (0, none))
def vE9 (Ls : List vz9) : Int → Prop := Ls.foldl ve9 (fun _ => False)
theorem vF_app9 (Ls : List vz9) (x : vz9) : vF9 (Ls ++ [x]) = vf9 (vF9 Ls) x := by unfold vF9; rw [List.foldl_append]; rfl
theorem vE_app9 (Ls : List vz9) (x : vz9) : vE9 (Ls ++ [x]) = ve9 (vE9 Ls) x := by unfold vE9; rw [List.foldl_append]; rfl
def vc9 (h : cz_H) (l : Nat) (x : vz9) : Prop := (qz_I h l 0 = x.1 ∧ qz_I h l 1 = x.2.1 ∧ qz_I h l 2 = x.2.2.1 ∧ qz_I h l 4 = x.2.2.2.1 ∧ qz_I h l 5 = x.2.2.2.2.1) ∧ (x.1 = 0 → 0 ≤ x.2.2.2.2.1 ∧ (x.2.2.2.2.1 ≠ 0 → x.2.1 = x.2.2.1 ∧ (qz_I h (l + 2) 0 = (x.2.2.2.2.2.1.length : Int) ∧ qz_I h (l + 1) 0 + (x.2.2.2.2.2.1.length : Int) ≤ pn h ∧ 0 ≤ qz_I h (l + 1) 0) ∧ ∀ (j : Nat) v, x.2.2.2.2.2.1[j]? = some v → pl h (qz_I h (l + 1) 0 + (j : Int)) = v))
def vx (h : cz_H) (l : Nat) (v : vy) : Prop := qz_I h l 0 = v.1.1 ∧ (v.1.1 = 0 → (qz_I h l 1 = v.1.2.1 ∧ qz_I h l 2 = v.1.2.2) ∧ qz_I h l 3 = v.2.1.1 ∧ qz_I h l 9 = v.2.1.2.1 ∧ qz_I h l 10 = v.2.1.2.2.1 ∧ qz_I h l 11 = v.2.1.2.2.2) ∧ (v.1.1 = 1 → (qz_I h l 1 = v.1.2.1 ∧ v.1.2.2 = v.1.2.1) ∧ qz_I h l 12 = v.2.2.2.1 ∧ mrw h (l + 1) (l + 2) 0 v.2.2.2.2.1 ∧ mrw h (l + 1) (l + 2) 1 v.2.2.2.2.2.1 ∧ mrw h (l + 1) (l + 2) 2 v.2.2.2.2.2.2) ∧ (v.1.1 = 2 → (qz_I h l 1 = v.1.2.1 ∧ v.1.2.2 = v.1.2.1) ∧ qz_I h l 5 = v.2.2.1.1 ∧ mrw h (l + 1) (l + 2) 0 v.2.2.2.2.1) ∧ (v.1.1 = 3 → (qz_I h l 1 = v.1.2.1 ∧ qz_I h l 2 = v.1.2.2) ∧ qz_I h l 5 = (if v.2.2.1.1 = 0 then 6 else if v.2.2.1.1 = 1 then 7 else v.2.2.1.2) ∧ (v.2.2.1.1 ≠ 2 → qz_I h l 6 = v.2.2.1.2) ∧ (0 ≤ v.2.2.1.1 ∧ v.2.2.1.1 ≤ 2) ∧ 0 ≤ v.2.2.1.2 ∧ (v.2.2.1.1 = 2 → v.2.2.1.2 < 6))
theorem vx_tr {h g : cz_H} {l : Nat} {v : vy} (a : vx h l v) (e0 : g.2.2 l = h.2.2 l) (e1 : g.2.2 (l + 1) = h.2.2 (l + 1)) (e2 : g.2.2 (l + 2) = h.2.2 (l + 2)) (hn : pn h ≤ pn g) (hp : ∀ j, 0 ≤ j → j < pn h → pl g j = pl h j) : vx g l v := by
  have i0 : ∀ j, qz_I g l j = qz_I h l j := fun j => by unfold qz_I; rw [e0]
  have i1 : ∀ j, qz_I g (l + 1) j = qz_I h (l + 1) j := fun j => by unfold qz_I; rw [e1]
  have i2 : ∀ j, qz_I g (l + 2) j = qz_I h (l + 2) j := fun j => by unfold qz_I; rw [e2]
  have m : ∀ {k : Nat} {L : List Int}, mrw h (l + 1) (l + 2) k L → mrw g (l + 1) (l + 2) k L := fun {k L} w => w.tr (i1 k) (i2 k) hn hp
  obtain ⟨a0, a1, a2, a3, a4⟩ := a
  unfold vx
  simp only [i0]
  exact ⟨a0, a1, fun w => ⟨(a2 w).1, (a2 w).2.1, m (a2 w).2.2.1, m (a2 w).2.2.2.1, m (a2 w).2.2.2.2⟩, fun w => ⟨(a3 w).1, (a3 w).2.1, m (a3 w).2.2⟩, a4⟩
def vl9 (h : cz_H) (Ls : List vz9) : Prop := (Ls.length : Int) = lc h ∧ ∀ (k : Nat) x, Ls[k]? = some x → vc9 h (qz_P h (ls h) k) x ∧ vx h (qz_P h (ls h) k) x.2.2.2.2.2.2
theorem vc_tr9 {h g : cz_H} {l : Nat} {x : vz9} (a : vc9 h l x) (e0 : g.2.2 l = h.2.2 l) (e1 : g.2.2 (l + 1) = h.2.2 (l + 1)) (e2 : g.2.2 (l + 2) = h.2.2 (l + 2)) (hn : pn h ≤ pn g) (hp : ∀ j, 0 ≤ j → j < pn h → pl g j = pl h j) : vc9 g l x := by
  have i0 : ∀ j, qz_I g l j = qz_I h l j := fun j => by unfold qz_I; rw [e0]
  have i1 : ∀ j, qz_I g (l + 1) j = qz_I h (l + 1) j := fun j => by unfold qz_I; rw [e1]
  have i2 : ∀ j, qz_I g (l + 2) j = qz_I h (l + 2) j := fun j => by unfold qz_I; rw [e2]
  unfold vc9 at *
  rw [i0, i0, i0, i0, i0, i1, i2]
  refine ⟨a.1, fun k0 => ⟨(a.2 k0).1, fun t0 => ?_⟩⟩
  obtain ⟨b1, ⟨b2, b3, b4⟩, b5⟩ := (a.2 k0).2 t0
  refine ⟨b1, ⟨b2, by omega, b4⟩, fun j v hv => ?_⟩
  have hj : j < x.2.2.2.2.2.1.length := (List.getElem?_eq_some_iff.mp hv).1
  rw [hp _ (by omega) (by omega)]
  exact b5 j v hv
def mI9 (τ : Nat → Nat) (h : cz_H) (Ls : List vz9) (b : Int) : Prop := ez_B τ h ∧ jz_X τ ∧ ((lc h ≤ qz_N h (ls h) ∧ pn h ≤ qz_N h (po h)) ∧ qz_I h 770 8 = lc h ∧ pn h ≤ 75 * lc h + b) ∧ ((∀ i : Nat, (i : Int) < lc h → 1 ≤ qz_I h (ls h) i) ∧ ∀ i j : Nat, (i : Int) < lc h → (j : Int) < lc h → qz_I h (ls h) i = qz_I h (ls h) j → i = j) ∧ mL τ h ∧ (nz_Z h ∧ nmz h) ∧ vl9 h Ls
theorem mI9.L {τ : Nat → Nat} {h : cz_H} {Ls : List vz9} {b : Int} (hI : mI9 τ h Ls b) {i : Nat} (hi : (i : Int) < lc h) : τ (qz_P h (ls h) i) = 13 ∧ τ (qz_P h (ls h) i + 1) = 15 ∧ τ (qz_P h (ls h) i + 2) = 16 := by
  obtain ⟨hB, hX, ⟨⟨n1, n2⟩, -⟩, ⟨c1, -⟩, m, -⟩ := hI
  have t := ez_tll hB (Or.inl (ez_tls hB (hX 770 (by decide))).1) (by omega) (c1 i hi)
  exact ⟨t, (m.2 _ t).1, (m.2 _ t).2.1⟩
theorem mI9.tr {τ τ1 : Nat → Nat} {h g : cz_H} {Ls : List vz9} {b b' : Int} (hI : mI9 τ h Ls b) (hB : ez_B τ1 g) (ht : ∀ q, τ q ≠ 0 → τ1 q = τ q) (h7 : ∀ j, j = 8 ∨ j = 11 ∨ j = 12 → qz_I g 770 j = qz_I h 770 j) (hl : g.2.2 (ls h) = h.2.2 (ls h)) (hc : ∀ i : Nat, (i : Int) < lc h → g.2.2 (qz_P h (ls h) i) = h.2.2 (qz_P h (ls h) i) ∧ g.2.2 (qz_P h (ls h) i + 1) = h.2.2 (qz_P h (ls h) i + 1) ∧ g.2.2 (qz_P h (ls h) i + 2) = h.2.2 (qz_P h (ls h) i + 2)) (hp : (pn h ≤ pn g ∧ pn g ≤ qz_N g (po g)) ∧ pn g ≤ 75 * lc h + b') (hpl : ∀ j, 0 ≤ j → j < pn h → pl g j = pl h j) (hz : ∀ q, τ q = 26 ∨ τ q = 27 ∨ τ q = 28 → g.2.2 q = h.2.2 q) (hm : mL τ1 g) : mI9 τ1 g Ls b' := by
  obtain ⟨i1, i2, ⟨⟨n1, n2⟩, n3, n4⟩, ⟨c1, c2⟩, m, ⟨z1, z2⟩, v1, v2⟩ := hI
  have e11 : ls g = ls h := by unfold ls qz_P; rw [h7 11 (by omega)]
  have e12 : lc g = lc h := h7 12 (by omega)
  have e8 := h7 8 (by omega)
  have il : ∀ j, qz_I g (ls h) j = qz_I h (ls h) j := fun j => by unfold qz_I; rw [hl]
  have iP : ∀ j, qz_P g (ls h) j = qz_P h (ls h) j := fun j => by unfold qz_P; rw [il]
  have iN : qz_N g (ls h) = qz_N h (ls h) := by unfold qz_N; rw [hl]
  have t770 := i2 770 (by decide)
  refine ⟨hB, fun r hr => (ht r (by rw [i2 r hr]; exact hr)).trans (i2 r hr), ⟨⟨by rw [e12, e11, iN]; exact n1, hp.1.2⟩, by rw [e8, e12]; exact n3, by rw [e12]; exact hp.2⟩, ⟨fun i hi => ?_, fun i j hi hj => ?_⟩, hm, ⟨fun s l hs => ?_, ?_⟩, ?_, fun k x hx => ?_⟩
  · rw [e11, il]; rw [e12] at hi; exact c1 i hi
  · rw [e11, il, il]; rw [e12] at hi hj; exact c2 i j hi hj
  · obtain ⟨y1, y2, y3⟩ := z1 s l hs
    obtain ⟨w1, w2⟩ := nz_hz i1 i2 s l hs
    have e1 := hz s (by omega)
    have e2 := hz _ (show _ ∨ _ ∨ τ (qz_P h s 0) = 28 from Or.inr (Or.inr w2))
    have e3 : qz_P g s 0 = qz_P h s 0 := by unfold qz_P qz_I; rw [e1]
    refine ⟨?_, y2, by rw [e3]; exact y3⟩
    unfold nz_S at *
    rw [e3]
    unfold qz_N qz_I at *
    rw [e2]
    exact y1
  · have T := ez_tnm i1 t770
    have tt : ∀ p, 785 ≤ p → p ≤ 788 → τ p = 26 := fun p p1 p2 => by
      have : p = 785 ∨ p = 786 ∨ p = 787 ∨ p = 788 := by omega
      rcases this with e | e | e | e <;> subst e
      · exact i2 785 (by decide)
      · exact i2 786 (by decide)
      · exact i2 787 (by decide)
      · exact i2 788 (by decide)
    refine ⟨fun p p1 p2 k hk => ?_, ?_, nmx_c z2.2.2 (fun p p1 p2 => hz p (Or.inl (tt p p1 p2)))⟩
    · have e := hz p (Or.inl (tt p p1 p2))
      have e1 : qz_P g p k = qz_P h p k := by unfold qz_P qz_I; rw [e]
      have e2 : qz_N g p = qz_N h p := by unfold qz_N; rw [e]
      rw [e1]; rw [e2] at hk; exact z2.1 p p1 p2 k hk
    · have e := hz 786 (Or.inl (tt 786 (by decide) (by decide)))
      have e1 : qz_P g 786 0 = qz_P h 786 0 := by unfold qz_P qz_I; rw [e]
      rw [e1]; exact z2.2.1
  · rw [e12]; exact v1
  · have hk : k < Ls.length := (List.getElem?_eq_some_iff.mp hx).1
    rw [e11, iP]
    obtain ⟨a, b, c⟩ := hc k (by omega)
    exact ⟨vc_tr9 (v2 k x hx).1 a b c hp.1.1 hpl, vx_tr (v2 k x hx).2 a b c hp.1.1 hpl⟩
theorem aq.mI9 {τ τ1 : Nat → Nat} {h g : cz_H} {l : Nat} {kd b : Int} {Ls : List vz9} (a : aq τ h τ1 g l kd) (hI : mI9 τ h Ls b) (hB : ez_B τ1 g) : mI9 τ1 g Ls b := by
  have hX := hI.2.1
  have tt := ez_tls hI.1 (hX 770 (by decide))
  have c : ∀ {q t : Nat}, τ q = t → (Nat.beq t 0 || (Nat.beq t 75 || (Nat.beq t 80 || Nat.beq t 81))) = false → g.2.2 q = h.2.2 q := fun hq ht => a.c hX hq ht
  obtain ⟨a1, a2, a3, a4, a5, a6, a7, a8, a9, a10⟩ := a
  have ep : po g = po h := by unfold po qz_P; rw [a8 9 (by decide) (by decide)]
  have en : pn g = pn h := a8 10 (by decide) (by decide)
  have eN : qz_N g (po h) = qz_N h (po h) := by unfold qz_N; rw [c tt.2 rfl]
  have n0 := qz_N_nn g (po h)
  refine hI.tr hB (fun q hq => (a6 q hq).1) (fun j hj => a8 j (by omega) (by omega)) (c tt.1 rfl) (fun i hi => ?_) ⟨⟨by omega, by rw [en, ep, eN]; exact hI.2.2.1.1.2⟩, by rw [en]; exact hI.2.2.1.2.2⟩ (fun j _ _ => by unfold pl qz_I; rw [ep, c tt.2 rfl]) (fun q hq => ?_) ?_
  · obtain ⟨l1, l2, l3⟩ := hI.L hi
    exact ⟨c l1 rfl, c l2 rfl, c l3 rfl⟩
  · rcases hq with e | e | e <;> exact c e rfl
  · have m := hI.2.2.2.2.1
    refine ⟨fun r hr => ?_, fun r hr => ?_⟩
    · by_cases e0 : τ r = 0
      · have : r = l + 1 := by
          rcases a7 r e0 (by rw [hr]; decide) with e | e | e
          · rw [e, a2.1] at hr; cases hr
          · exact e
          · rw [e, a2.2.2] at hr; cases hr
        subst this
        refine ⟨a2.2.2, fun j => ?_⟩
        rw [a4 j, a5 j, ep]; omega
      · have hr' : τ r = 15 := (a6 r e0).1.symm.trans hr
        obtain ⟨m1, m2⟩ := m.1 r hr'
        refine ⟨((a6 (r + 1) (by rw [m1]; decide)).1).trans m1, fun j => ?_⟩
        have := m2 j
        rw [ep, eN]; unfold qz_I at this ⊢; rw [c hr' rfl, c m1 rfl]; exact this
    · by_cases e0 : τ r = 0
      · have : r = l := by
          rcases a7 r e0 (by rw [hr]; decide) with e | e | e
          · exact e
          · rw [e, a2.2.1] at hr; cases hr
          · rw [e, a2.2.2] at hr; cases hr
        subst this
        refine ⟨a2.2.1, a2.2.2, fun _ => ?_⟩
        rw [a4, a5, ep]; omega
      · have hr' : τ r = 13 := (a6 r e0).1.symm.trans hr
        obtain ⟨m1, m2, m3⟩ := m.2 r hr'
        refine ⟨((a6 (r + 1) (by rw [m1]; decide)).1).trans m1, ((a6 (r + 2) (by rw [m2]; decide)).1).trans m2, ?_⟩
        rw [ep, eN]; unfold qz_I at m3 ⊢; rw [c hr' rfl, c m1 rfl, c m2 rfl]; exact m3
theorem mI9.lq {τ τ1 : Nat → Nat} {h g : cz_H} {Ls : List vz9} {l : Nat} {A : List Int} {e : Int} (hI : mI9 τ h Ls 0) (hl : τ l = 13 ∧ τ (l + 1) = 15 ∧ τ (l + 2) = 16) (hn : ∀ i : Nat, (i : Int) < lc h → qz_P h (ls h) i ≠ l) (q : lq (lX l (l + 1) (l + 2)) τ h τ1 g A e) (hB : ez_B τ1 g) (hg : lg (l + 1) (l + 2) g) (h4 : qz_I g l 0 = 4 → qz_I g (l + 1) 1 + 4 * qz_I g (l + 2) 1 ≤ qz_N g (po g)) : mI9 τ1 g Ls (A.length : Int) ∧ ∀ k, 0 ≤ k → (∀ g2 : cz_H, ez_B τ1 g2 → (∀ q, τ1 q ≠ 0 → q ≠ 770 → g2.2.2 q = g.2.2 q) → (∀ j, j ≠ 0 → j ≠ 10 → qz_I g2 770 j = qz_I g 770 j) → pn g2 = pn h + k → k ≤ (A.length : Int) → mI9 τ1 g2 Ls k) := by
  have hX := hI.2.1
  have t770 := hX 770 (by decide)
  have tt := ez_tls hI.1 t770
  obtain ⟨q1, q2, q3, q4, q5, q6, q7, q8, q9, q10, q11⟩ := q
  have c : ∀ {q t : Nat}, τ q = t → (Nat.beq t 0 || (Nat.beq t 75 || (Nat.beq t 17 || (Nat.beq t 30 || (Nat.beq t 31 || (Nat.beq t 13 || (Nat.beq t 15 || Nat.beq t 16))))))) = false → g.2.2 q = h.2.2 q := fun {q t} hq ht => by
    refine (q1 q (fun e => by rw [hq] at e; rw [e] at ht; cases ht)).2 (fun e => ?_) (fun e => ?_) (lX_tag hl hq ?_) (fun e => ?_) (fun e => ?_)
    · rw [e, t770] at hq; rw [← hq] at ht; cases ht
    · rw [e, tt.2] at hq; rw [← hq] at ht; cases ht
    · simp only [Bool.or_eq_false_iff] at ht ⊢; exact ⟨ht.2.2.2.2.2.1, ht.2.2.2.2.2.2.1, ht.2.2.2.2.2.2.2⟩
    · rw [hq] at e; rw [e] at ht; cases ht
    · rw [hq] at e; rw [e] at ht; cases ht
  have cl : ∀ r, τ r = 13 ∧ τ (r + 1) = 15 ∧ τ (r + 2) = 16 → r ≠ l → g.2.2 r = h.2.2 r ∧ g.2.2 (r + 1) = h.2.2 (r + 1) ∧ g.2.2 (r + 2) = h.2.2 (r + 2) := fun r hr hne => by
    obtain ⟨x1, x2, x3⟩ := lX_ln hl hr hne
    have c' : ∀ {q t : Nat}, τ q = t → (Nat.beq t 13 || (Nat.beq t 15 || Nat.beq t 16)) = true → lX l (l + 1) (l + 2) q = false → g.2.2 q = h.2.2 q := fun {q t} hq ht hx => by
      have ht' : t = 13 ∨ t = 15 ∨ t = 16 := by simp only [Bool.or_eq_true] at ht; rcases ht with w | w | w <;> have := Nat.eq_of_beq_eq_true w <;> omega
      refine (q1 q (by omega)).2 (fun e => by rw [e, t770] at hq; rcases ht' with w | w | w <;> rw [w] at hq <;> cases hq) (fun e => by rw [e, tt.2] at hq; rcases ht' with w | w | w <;> rw [w] at hq <;> cases hq) hx (by omega) (by omega)
    exact ⟨c' hr.1 rfl x1, c' hr.2.1 rfl x2, c' hr.2.2 rfl x3⟩
  have hm := hI.2.2.2.2.1
  have n4 := hI.2.2.1.2.2
  have hL : mL τ1 g := by
    have old : ∀ r t, τ1 r = t → (t = 13 ∨ t = 15) → τ r = t := fun r t hr ht => by
      by_cases e0 : τ r = 0
      · have := q2 r e0 (by omega); omega
      · rw [← (q1 r e0).1]; exact hr
    refine ⟨fun r hr => ?_, fun r hr => ?_⟩
    · have hr' := old r _ hr (by omega)
      obtain ⟨m1, m2⟩ := hm.1 r hr'
      refine ⟨((q1 (r + 1) (by rw [m1]; decide)).1).trans m1, fun j => ?_⟩
      by_cases er : r = l + 1
      · subst er; exact hg j
      · have x1 : lX l (l + 1) (l + 2) r = false := by
          unfold lX; rw [dz_beq_ne (fun e => by rw [e, hl.1] at hr'; cases hr'), dz_beq_ne er, dz_beq_ne (fun e => by rw [e, hl.2.2] at hr'; cases hr')]; rfl
        have x2 : lX l (l + 1) (l + 2) (r + 1) = false := by
          unfold lX; rw [dz_beq_ne (fun e => by rw [e, hl.1] at m1; cases m1), dz_beq_ne (fun e => by rw [e, hl.2.1] at m1; cases m1), dz_beq_ne (by omega)]; rfl
        have y1 : g.2.2 r = h.2.2 r := (q1 r (by omega)).2 (fun e => by rw [e, t770] at hr'; cases hr') (fun e => by rw [e, tt.2] at hr'; cases hr') x1 (by omega) (by omega)
        have y2 : g.2.2 (r + 1) = h.2.2 (r + 1) := (q1 (r + 1) (by omega)).2 (fun e => by rw [e, t770] at m1; cases m1) (fun e => by rw [e, tt.2] at m1; cases m1) x2 (by omega) (by omega)
        have := m2 j
        have := q8.2
        have z1 : qz_I g r j = qz_I h r j := by unfold qz_I; rw [y1]
        have z2 : qz_I g (r + 1) j = qz_I h (r + 1) j := by unfold qz_I; rw [y2]
        rw [z1, z2]; omega
    · have hr' := old r _ hr (by omega)
      obtain ⟨m1, m2, m3⟩ := hm.2 r hr'
      refine ⟨((q1 (r + 1) (by rw [m1]; decide)).1).trans m1, ((q1 (r + 2) (by rw [m2]; decide)).1).trans m2, fun k4 => ?_⟩
      by_cases er : r = l
      · subst er; exact h4 k4
      · obtain ⟨y1, y2, y3⟩ := cl r ⟨hr', m1, m2⟩ er
        have z0 : qz_I g r 0 = qz_I h r 0 := by unfold qz_I; rw [y1]
        have z1 : qz_I g (r + 1) 1 = qz_I h (r + 1) 1 := by unfold qz_I; rw [y2]
        have z2 : qz_I g (r + 2) 1 = qz_I h (r + 2) 1 := by unfold qz_I; rw [y3]
        have := m3 (by rw [← z0]; exact k4)
        have := q8.2
        rw [z1, z2]; omega
  refine ⟨hI.tr hB (fun q hq => (q1 q hq).1) (fun j hj => q4 j (by omega) (by omega) (by omega) (by omega)) (c tt.1 rfl) (fun i hi => cl _ (hI.L hi) (hn i hi)) ⟨⟨by omega, q8.1⟩, by omega⟩ q6 (fun q hq => by rcases hq with e | e | e <;> exact c e rfl) hL, fun k k0 g2 hB2 f2 i2 p2 kA => ?_⟩
  have ep : po g2 = po g := by unfold po qz_P; rw [i2 9 (by decide) (by decide)]
  have u : ∀ {q t : Nat}, τ q = t → t ≠ 0 → t ≠ 75 → g2.2.2 q = g.2.2 q := fun {q t} hq h0 h75 => f2 q (by rw [(q1 q (by rw [hq]; exact h0)).1, hq]; exact h0) (fun e => by rw [e, t770] at hq; exact h75 hq.symm)
  have up : g2.2.2 (po g) = g.2.2 (po g) := f2 _ (by rw [q3]; decide) (fun e => by have t7 := (q1 770 (by rw [t770]; decide)).1; rw [e, t7, t770] at q3; cases q3)
  have eN : qz_N g2 (po g) = qz_N g (po g) := by unfold qz_N; rw [up]
  refine hI.tr hB2 (fun q hq => (q1 q hq).1) (fun j hj => (i2 j (by omega) (by omega)).trans (q4 j (by omega) (by omega) (by omega) (by omega))) ((u tt.1 (by decide) (by decide)).trans (c tt.1 rfl)) (fun i hi => ?_) ⟨⟨by omega, by rw [ep, eN]; have := q8.1; omega⟩, by omega⟩ (fun j j0 j1 => ?_) (fun q hq => ?_) ?_
  · obtain ⟨t1, t2, t3⟩ := hI.L hi
    obtain ⟨y1, y2, y3⟩ := cl _ ⟨t1, t2, t3⟩ (hn i hi)
    exact ⟨(u t1 (by decide) (by decide)).trans y1, (u t2 (by decide) (by decide)).trans y2, (u t3 (by decide) (by decide)).trans y3⟩
  · rw [← q6 j j0 j1]; unfold pl qz_I; rw [ep, up]
  · rcases hq with e | e | e <;> exact (u e (by decide) (by decide)).trans (c e rfl)
  · have v : ∀ {q t : Nat}, τ1 q = t → t ≠ 0 → t ≠ 75 → g2.2.2 q = g.2.2 q := fun {q t} hq h0 h75 => f2 q (by rw [hq]; exact h0) (fun e => by have t7 := (q1 770 (by rw [t770]; decide)).1; rw [e, t7, t770] at hq; exact h75 hq.symm)
    refine ⟨fun r hr => ?_, fun r hr => ?_⟩
    · obtain ⟨m1, m2⟩ := hL.1 r hr
      refine ⟨m1, fun j => ?_⟩
      have := m2 j
      rw [ep, eN]; unfold qz_I at this ⊢; rw [v hr (by decide) (by decide), v m1 (by decide) (by decide)]; exact this
    · obtain ⟨m1, m2, m3⟩ := hL.2 r hr
      refine ⟨m1, m2, ?_⟩
      rw [ep, eN]; unfold qz_I at m3 ⊢; rw [v hr (by decide) (by decide), v m1 (by decide) (by decide), v m2 (by decide) (by decide)]; exact m3
theorem mI9.lu {τ τ1 : Nat → Nat} {h g : cz_H} {Ls : List vz9} {l : Nat} {b : Int} {x : vz9} (hI : mI9 τ h Ls b) (hb : b ≤ 75) (hl : τ l = 13 ∧ τ (l + 1) = 15 ∧ τ (l + 2) = 16) (hn : ∀ i : Nat, (i : Int) < lc h → qz_P h (ls h) i ≠ l) (u : lu τ h τ1 g l) (hB : ez_B τ1 g) (hx : vc9 h l x ∧ vx h l x.2.2.2.2.2.2) : mI9 τ1 g (Ls ++ [x]) 0 := by
  have hX := hI.2.1
  have t770 := hX 770 (by decide)
  have tt := ez_tls hI.1 t770
  have hL := fun {i : Nat} (hi : (i : Int) < lc h) => hI.L hi
  obtain ⟨i1, i2, ⟨⟨n1, n2⟩, n3, n4⟩, ⟨c1, c2⟩, m, ⟨z1, z2⟩, v1, v2⟩ := id hI
  obtain ⟨u1, u2, u3, u4, u5, u6, u7, u8, u9, u10, u11⟩ := u
  have c : ∀ {q t : Nat}, τ q = t → (Nat.beq t 0 || (Nat.beq t 75 || Nat.beq t 18)) = false → g.2.2 q = h.2.2 q := fun {q t} hq ht => by
    refine (u1 q (fun e => by rw [hq] at e; rw [e] at ht; cases ht)).2 (fun e => ?_) (fun e => ?_)
    · rw [e, t770] at hq; rw [← hq] at ht; cases ht
    · rw [e, tt.1] at hq; rw [← hq] at ht; cases ht
  have ep : po g = po h := by unfold po qz_P; rw [u4 9 (by decide) (by decide) (by decide)]
  have en : pn g = pn h := u4 10 (by decide) (by decide) (by decide)
  have eN : qz_N g (po h) = qz_N h (po h) := by unfold qz_N; rw [c tt.2 rfl]
  have hlc0 : 0 ≤ lc h := by rw [← v1]; omega
  have epl : ∀ j, pl g j = pl h j := fun j => by unfold pl qz_I; rw [ep, c tt.2 rfl]
  have vtr : ∀ {r : Nat} {y : vz9}, vc9 h r y ∧ vx h r y.2.2.2.2.2.2 → τ r = 13 ∧ τ (r + 1) = 15 ∧ τ (r + 2) = 16 → vc9 g r y ∧ vx g r y.2.2.2.2.2.2 := fun {r y} hv ht => ⟨vc_tr9 hv.1 (c ht.1 rfl) (c ht.2.1 rfl) (c ht.2.2 rfl) (by omega) (fun j _ _ => epl j), vx_tr hv.2 (c ht.1 rfl) (c ht.2.1 rfl) (c ht.2.2 rfl) (by omega) (fun j _ _ => epl j)⟩
  have iP : ∀ k : Nat, (k : Int) < lc h → qz_P g (ls g) k = qz_P h (ls h) k := fun k hk => by unfold qz_P; rw [u7 k hk]
  have iL : qz_P g (ls g) (lc h).toNat = l := by unfold qz_P; rw [u8]; omega
  refine ⟨hB, fun r hr => (u1 r (by rw [i2 r hr]; exact hr)).1.trans (i2 r hr), ⟨⟨u9.1, by rw [en, ep, eN]; exact n2⟩, by rw [u6, u5, n3], by omega⟩, ⟨fun i hi => ?_, fun i j hi hj e => ?_⟩, ?_, ⟨fun s w hs => ?_, ?_⟩, ?_, fun k y hy => ?_⟩
  · by_cases e : (i : Int) < lc h
    · rw [u7 i e]; exact c1 i e
    · have : i = (lc h).toNat := by omega
      rw [this, u8]; omega
  · by_cases ei : (i : Int) < lc h
    · by_cases ej : (j : Int) < lc h
      · rw [u7 i ei, u7 j ej] at e; exact c2 i j ei ej e
      · exfalso
        have : j = (lc h).toNat := by omega
        rw [this, u8, u7 i ei] at e
        exact hn i ei (by unfold qz_P; rw [e]; omega)
    · have e1 : i = (lc h).toNat := by omega
      by_cases ej : (j : Int) < lc h
      · exfalso
        rw [e1, u8, u7 j ej] at e
        exact hn j ej (by unfold qz_P; rw [← e]; omega)
      · omega
  · have old : ∀ r t, τ1 r = t → (t = 13 ∨ t = 15) → τ r = t := fun r t hr ht => by
      by_cases e0 : τ r = 0
      · have := u2 r e0 (by omega); omega
      · rw [← (u1 r e0).1]; exact hr
    refine ⟨fun r hr => ?_, fun r hr => ?_⟩
    · have hr' := old r _ hr (by omega)
      obtain ⟨m1, m2⟩ := m.1 r hr'
      refine ⟨((u1 (r + 1) (by rw [m1]; decide)).1).trans m1, fun j => ?_⟩
      have := m2 j
      rw [ep, eN]; unfold qz_I at this ⊢; rw [c hr' rfl, c m1 rfl]; exact this
    · have hr' := old r _ hr (by omega)
      obtain ⟨m1, m2, m3⟩ := m.2 r hr'
      refine ⟨((u1 (r + 1) (by rw [m1]; decide)).1).trans m1, ((u1 (r + 2) (by rw [m2]; decide)).1).trans m2, ?_⟩
      rw [ep, eN]; unfold qz_I at m3 ⊢; rw [c hr' rfl, c m1 rfl, c m2 rfl]; exact m3
  · obtain ⟨y1, y2, y3⟩ := z1 s w hs
    obtain ⟨w1, w2⟩ := nz_hz i1 i2 s w hs
    have e1 := c w1 rfl
    have e2 := c w2 rfl
    have e3 : qz_P g s 0 = qz_P h s 0 := by unfold qz_P qz_I; rw [e1]
    refine ⟨?_, y2, by rw [e3]; exact y3⟩
    unfold nz_S at *
    rw [e3]
    unfold qz_N qz_I at *
    rw [e2]
    exact y1
  · have tn : ∀ p, 785 ≤ p → p ≤ 788 → τ p = 26 := fun p p1 p2 => by
      have : p = 785 ∨ p = 786 ∨ p = 787 ∨ p = 788 := by omega
      rcases this with e | e | e | e <;> subst e
      · exact i2 785 (by decide)
      · exact i2 786 (by decide)
      · exact i2 787 (by decide)
      · exact i2 788 (by decide)
    refine ⟨fun p p1 p2 k hk => ?_, ?_, nmx_c z2.2.2 (fun p p1 p2 => c (tn p p1 p2) rfl)⟩
    · have e := c (tn p p1 p2) rfl
      have e1 : qz_P g p k = qz_P h p k := by unfold qz_P qz_I; rw [e]
      have e2 : qz_N g p = qz_N h p := by unfold qz_N; rw [e]
      rw [e1]; rw [e2] at hk; exact z2.1 p p1 p2 k hk
    · have e := c (tn 786 (by decide) (by decide)) rfl
      have e1 : qz_P g 786 0 = qz_P h 786 0 := by unfold qz_P qz_I; rw [e]
      rw [e1]; exact z2.2.1
  · rw [List.length_append, u5, ← v1]; rfl
  · by_cases e : k < Ls.length
    · rw [List.getElem?_append_left e] at hy
      have hk : (k : Int) < lc h := by omega
      rw [iP k hk]
      exact vtr (v2 k y hy) (hL hk)
    · rw [List.getElem?_append_right (by omega)] at hy
      have hk : k = (lc h).toNat := by
        have := (List.getElem?_eq_some_iff.mp hy).1
        simp at this
        omega
      have : k - Ls.length = 0 := by omega
      rw [this] at hy
      cases hy
      rw [hk, iL]
      exact vtr hx hl
section EzMa
variable {d : Nat} {h : cz_H} {τ : Nat → Nat} {Q : cz_F → Prop} {Ls : List vz9}
theorem mI9.f7 {τ : Nat → Nat} {h g : cz_H} {Ls : List vz9} {b : Int} (hI : mI9 τ h Ls b) (hB : ez_B τ g) (f : ∀ q, τ q ≠ 0 → q ≠ 770 → g.2.2 q = h.2.2 q) (i : ∀ j, 8 ≤ j → j ≤ 12 → qz_I g 770 j = qz_I h 770 j) : mI9 τ g Ls b := by
  have hX := hI.2.1
  have t770 := hX 770 (by decide)
  have tt := ez_tls hI.1 t770
  have c : ∀ {q t : Nat}, τ q = t → t ≠ 0 → t ≠ 75 → g.2.2 q = h.2.2 q := fun {q t} hq h0 h75 => f q (by rw [hq]; exact h0) (fun e => by rw [e, t770] at hq; exact h75 hq.symm)
  have ep : po g = po h := by unfold po qz_P; rw [i 9 (by decide) (by decide)]
  have en : pn g = pn h := i 10 (by decide) (by decide)
  have eN : qz_N g (po h) = qz_N h (po h) := by unfold qz_N; rw [c tt.2 (by decide) (by decide)]
  have m := hI.2.2.2.2.1
  refine hI.tr hB (fun q _ => rfl) (fun j hj => i j (by omega) (by omega)) (c tt.1 (by decide) (by decide)) (fun k hk => ?_) ⟨⟨by omega, by rw [en, ep, eN]; exact hI.2.2.1.1.2⟩, by rw [en]; exact hI.2.2.1.2.2⟩ (fun j _ _ => by unfold pl qz_I; rw [ep, c tt.2 (by decide) (by decide)]) (fun q hq => by rcases hq with e | e | e <;> exact c e (by decide) (by decide)) ⟨fun r hr => ?_, fun r hr => ?_⟩
  · obtain ⟨l1, l2, l3⟩ := hI.L hk
    exact ⟨c l1 (by decide) (by decide), c l2 (by decide) (by decide), c l3 (by decide) (by decide)⟩
  · obtain ⟨m1, m2⟩ := m.1 r hr
    refine ⟨m1, fun j => ?_⟩
    have := m2 j
    rw [ep, eN]; unfold qz_I at this ⊢; rw [c hr (by decide) (by decide), c m1 (by decide) (by decide)]; exact this
  · obtain ⟨m1, m2, m3⟩ := m.2 r hr
    refine ⟨m1, m2, ?_⟩
    rw [ep, eN]; unfold qz_I at m3 ⊢; rw [c hr (by decide) (by decide), c m1 (by decide) (by decide), c m2 (by decide) (by decide)]; exact m3
theorem rd_mlA09 (hI : mI9 τ h Ls 0) (hr1 : h.1 + 10 ≤ 600192) (hr2 : h.2.1 + 40 ≤ 7302232) (kS : qz_I h 770 7 ≠ 0 → ∀ g, mI9 τ g Ls 0 → ez_fr (ez_one 770) h g → (∀ j, j ≠ 0 → qz_I g 770 j = qz_I h 770 j) → qz_I g 770 0 = 2 → Q (.inl (some (ez_v (.inl 0))), g)) (kx : qz_I h 770 7 = 0 → ∀ l g τ1 A, aq τ h τ1 g l 0 → mI9 τ1 g Ls 0 → rz_A (mb h) (qz_I h 770 2) (7 : Int).toNat A → (∀ k, 0 ≤ k → k < 7 → mf g k = rz_ff (mb h) A k ∧ mt g k = rz_tt (mb h) A k) → ez_W (d + 8) cm_276 96 [(3, .inr (.inr (some (l)))), (2, .inl (pn h)), (0, .inr (.inr (some (770)))), (1, .inl (0))] [] g Q) (kT : qz_I h 770 7 = 0 → ∀ l g τ1, aq τ h τ1 g l 0 → mI9 τ1 g Ls 0 → (¬ ∃ A, rz_A (mb h) (qz_I h 770 2) (7 : Int).toNat A) → ez_W (d + 8) cm_276 155 [(3, .inr (.inr (some (l)))), (2, .inl (pn h)), (0, .inr (.inr (some (770)))), (1, .inl (0))] [.inr (.inr (some g.1))] (xc g 1) Q) : ez_W (d + 8) cm_276 0 [(0, .inr (.inr (some (770)))), (1, .inl (0))] [] h Q := by
  have hB := hI.1
  have t770 : τ 770 = 75 := hI.2.1 770 (by decide)
  have b2 : 0 ≤ qz_I h 770 2 ∧ qz_I h 770 2 ≤ 4096 := ez_fB (cl := 11) (k := 2) hB t770 tq_75 rfl rfl (by decide)
  refine ez_go (n := 2) (pc' := 2) (L' := [(0, .inr (.inr (some (770)))), (1, .inl (0))]) (st' := [.inl (0), .inr (.inr (some (770)))]) rfl ?_
  refine ez_pf hB t770 rfl rfl tq_75 rfl rfl rfl rfl (ez_vdI rfl rfl (by omega) (by omega)) (fun hB1 w2 => ?_)
  have fP : ez_fr (ez_one 770) h (dz_put h 770 0 (ez_v (.inl (0)))) := (ez_fr.refl (ez_one 770) h).put rfl _ _
  have vP : qz_I (dz_put h 770 0 (ez_v (.inl (0)))) 770 0 = 0 := w2.trans (rz_rd ⟨by omega, by omega⟩)
  have iP : ∀ j, j ≠ 0 → qz_I (dz_put h 770 0 (ez_v (.inl (0)))) 770 j = qz_I h 770 j := fun j hj => ez_put_I (fun w => hj w.2)
  have hP := hB1
  generalize (dz_put h 770 0 (ez_v (.inl (0)))) = h1 at *
  have cP1 := fP.1; have cP2 := fP.2.1
  refine ez_go (n := 1) (pc' := 6) (L' := [(0, .inr (.inr (some (770)))), (1, .inl (0))]) (st' := [.inl (0)]) rfl ?_
  refine ez_if rfl rfl ⟨by decide, by decide⟩ (fun (c3 : (0 : Int) < (0)) => absurd c3 (by decide)) (fun _ => ?_)
  refine ez_go (n := 2) (pc' := 11) (L' := [(0, .inr (.inr (some (770)))), (1, .inl (0))]) (st' := [.inl (4), .inl (0)]) rfl ?_
  refine ez_icmp rfl rfl ⟨by decide, by decide⟩ ⟨by decide, by decide⟩ (fun _ => ?_) (fun (c4 : ¬((0 : Int) ≤ (4))) => absurd c4 (by decide))
  refine ez_go (n := 1) (pc' := 21) (L' := [(0, .inr (.inr (some (770)))), (1, .inl (0))]) (st' := [.inr (.inr (some (770)))]) rfl ?_
  refine ez_gI hP t770 rfl rfl tq_75 rfl rfl (fun (b5 : 0 ≤ qz_I h1 770 7) (b5' : qz_I h1 770 7 ≤ 1) => ?_)
  refine ez_if rfl rfl ⟨by first | omega | exact (sz_i32 _).1, by first | omega | exact (sz_i32 _).2⟩ (fun (c6 : (qz_I h1 770 7) = (0)) => ?_) (fun (c6 : ¬((qz_I h1 770 7) = (0))) => ?_)
  · skip
    have hs : qz_I h 770 7 = 0 := by rw [← iP 7 (by decide)]; assumption
    refine ez_go (n := 1) (pc' := 34) (L' := [(0, .inr (.inr (some (770)))), (1, .inl (0))]) (st' := [.inr (.inr (some (770)))]) rfl ?_
    refine ez_gI hP t770 rfl rfl tq_75 rfl rfl (fun (b7 : 0 ≤ qz_I h1 770 10) (b7' : qz_I h1 770 10 ≤ 38500) => ?_)
    rw [show qz_I h1 770 10 = pn h from iP 10 (by decide)]
    refine ez_go (n := 1) (pc' := 38) (L' := [(2, .inl (pn h)), (0, .inr (.inr (some (770)))), (1, .inl (0))]) (st' := []) rfl ?_
    refine ez_nw' (t := 14) hP rfl rfl rfl tq_14 rfl rfl (by omega) (by show h1.2.1 + 13 ≤ 7302232; omega) (fun g8 τ8 p8 hB8 x8 o8 t8 z8 e8 y8 => ?_)
    have x8 : ez_xt τ h1 τ8 g8 1 13 := x8
    have c8 := x8.2
    have t770n8 := (x8.1 _ (by rw [t770]; decide)).1.trans t770
    refine ez_go (n := 1) (pc' := 42) (L' := [(2, .inl (pn h)), (0, .inr (.inr (some (770)))), (1, .inl (0))]) (st' := [.inr (.inr (some (p8))), .inr (.inr (some (p8)))]) rfl ?_
    have lp := dz_here_lt (hB8.1 p8 (by rw [t8]; decide)).1
    refine ez_ci hB8.2.1 rfl rfl rfl rfl rfl rfl (rd_lineI (r := p8) hB8 t8 (by omega) (by omega) (by omega) (fun g2 τ2 hB2 x2 o2 u15 u16 g21 g22 g23 v7 v8 I0 z1 z2 => ez_K0 ?_))
    have hB3 := ez_rtLine hB2 ((x2 p8 (by rw [t8]; decide)).1.trans t8) v7 v8
    have n1 : dz_tn τ2 p8 13 p8 = 13 := ez_tn_eq
    have n2 : ∀ q, q ≠ p8 → dz_tn τ2 p8 13 q = τ2 q := fun q hq => ez_tn_ne hq
    generalize dz_tn τ2 p8 13 = τ3 at *
    have np7 : p8 ≠ 770 := fun e => by rw [e, t770] at z8; cases z8
    have np9 : p8 ≠ 789 := fun e => by rw [e, hI.2.1 789 (by decide)] at z8; cases z8
    have np0 : p8 ≠ 790 := fun e => by rw [e, hI.2.1 790 (by decide)] at z8; cases z8
    have w770 : τ3 770 = 75 := by rw [n2 770 (Ne.symm np7), (x2 770 (by rw [(x8.1 770 (by rw [t770]; decide)).1, t770]; decide)).1, (x8.1 770 (by rw [t770]; decide)).1, t770]
    refine ez_go (n := 3) (pc' := 48) (L' := [(3, .inr (.inr (some (p8)))), (2, .inl (pn h)), (0, .inr (.inr (some (770)))), (1, .inl (0))]) (st' := [.inl (0), .inr (.inr (some (p8)))]) rfl ?_
    refine ez_pf hB3 n1 rfl rfl tq_13 rfl rfl rfl rfl (ez_vdI rfl rfl (by omega) (by omega)) (fun hB9 w10 => ?_)
    have fK : ez_fr (ez_one p8) g2 (dz_put g2 p8 0 (ez_v (.inl (0)))) := (ez_fr.refl (ez_one p8) g2).put (show Nat.beq _ _ = true from Nat.beq_refl _) _ _
    have vK : qz_I (dz_put g2 p8 0 (ez_v (.inl (0)))) p8 0 = 0 := w10.trans (rz_rd ⟨by omega, by omega⟩)
    have iK : ∀ j, j ≠ 0 → qz_I (dz_put g2 p8 0 (ez_v (.inl (0)))) p8 j = qz_I g2 p8 j := fun j hj => ez_put_I (fun w => hj w.2)
    have hK := hB9
    generalize (dz_put g2 p8 0 (ez_v (.inl (0)))) = g3 at *
    have cK1 := fK.1; have cK2 := fK.2.1
    have j7 : ∀ j, qz_I g3 770 j = qz_I h1 770 j := fun j => by unfold qz_I; rw [fK.2.2 770 (dz_beq_ne (Ne.symm np7)), (x2 770 (by rw [(x8.1 770 (by rw [t770]; decide)).1, t770]; decide)).2 (Ne.symm np7), (x8.1 770 (by rw [t770]; decide)).2]
    refine ez_go (n := 1) (pc' := 52) (L' := [(3, .inr (.inr (some (p8)))), (2, .inl (pn h)), (0, .inr (.inr (some (770)))), (1, .inl (0))]) (st' := [.inr (.inr (some (770)))]) rfl ?_
    refine ez_gI hK w770 rfl rfl tq_75 rfl rfl (fun (b11 : 0 ≤ qz_I g3 770 2) (b11' : qz_I g3 770 2 ≤ 4096) => ?_)
    rw [show qz_I g3 770 2 = qz_I h 770 2 from (j7 2).trans (iP 2 (by decide))]
    refine ez_go (n := 3) (pc' := 59) (L' := [(4, .inl (qz_I h 770 2)), (3, .inr (.inr (some (p8)))), (2, .inl (pn h)), (0, .inr (.inr (some (770)))), (1, .inl (0))]) (st' := [.inl (0), .inr (.inr (some (770)))]) rfl ?_
    refine ez_pf hK w770 rfl rfl tq_75 rfl rfl rfl rfl (ez_vdI rfl rfl (by omega) (by omega)) (fun hB12 w13 => ?_)
    have fT : ez_fr (ez_one 770) g3 (dz_put g3 770 2 (ez_v (.inl (0)))) := (ez_fr.refl (ez_one 770) g3).put rfl _ _
    have vT : qz_I (dz_put g3 770 2 (ez_v (.inl (0)))) 770 2 = 0 := w13.trans (rz_rd ⟨by omega, by omega⟩)
    have iT : ∀ j, j ≠ 2 → qz_I (dz_put g3 770 2 (ez_v (.inl (0)))) 770 j = qz_I g3 770 j := fun j hj => ez_put_I (fun w => hj w.2)
    have hT := hB12
    generalize (dz_put g3 770 2 (ez_v (.inl (0)))) = g4 at *
    have cT1 := fT.1; have cT2 := fT.2.1
    refine ez_go (n := 2) (pc' := 64) (L' := [(4, .inl (qz_I h 770 2)), (3, .inr (.inr (some (p8)))), (2, .inl (pn h)), (0, .inr (.inr (some (770)))), (1, .inl (0))]) (st' := [.inl (0), .inr (.inr (some (770)))]) rfl ?_
    refine ez_if rfl rfl ⟨by decide, by decide⟩ (fun (c14 : (0 : Int) ≠ (0)) => absurd c14 (by decide)) (fun _ => ?_)
    refine ez_go (n := 3) (pc' := 93) (L' := [(4, .inl (qz_I h 770 2)), (3, .inr (.inr (some (p8)))), (2, .inl (pn h)), (0, .inr (.inr (some (770)))), (1, .inl (0))]) (st' := [.inl (qz_I h 770 2), .inl (7), .inr (.inr (some (770)))]) rfl ?_
    refine ez_cv hT w770 rfl rfl rfl tq_75 rfl rfl rfl (rd_fields hT w770 (by omega) (by omega) (by omega) (by omega) (by omega) (by omega) (fun hno g6 hB6 f6 => ez_Kc (xc_exc hB6 rfl) rfl ?_) (fun g6 A hB6 f6 hA hfl => ez_K0 ?_))
    · skip
      have A0 : ∀ q, τ q ≠ 0 → τ3 q = τ q ∧ (q ≠ 770 → q ≠ 789 → q ≠ 790 → g6.2.2 q = h.2.2 q) := fun q hq => by
        have qp : q ≠ p8 := fun e => by rw [e] at hq; exact hq z8
        have y1 := x8.1 q hq
        have y2 := x2 q (by rw [y1.1]; exact hq)
        refine ⟨by rw [n2 q qp, y2.1, y1.1], fun q1 q2 q3 => ?_⟩
        rw [f6.2.2 q (by unfold nz_PF; rw [dz_beq_ne q2, dz_beq_ne q3]; rfl), fT.2.2 q (dz_beq_ne q1), fK.2.2 q (dz_beq_ne qp), y2.2 qp, y1.2, fP.2.2 q (dz_beq_ne q1)]
      have P0 : ∀ q, q ≠ 770 → q ≠ 789 → q ≠ 790 → q ≠ p8 → g6.2.2 q = g2.2.2 q := fun q q1 q2 q3 q4 => by
        rw [f6.2.2 q (by unfold nz_PF; rw [dz_beq_ne q2, dz_beq_ne q3]; rfl), fT.2.2 q (dz_beq_ne q1), fK.2.2 q (dz_beq_ne q4)]
      have Pp : ∀ j, qz_I g6 p8 j = qz_I g3 p8 j := fun j => by unfold qz_I; rw [f6.2.2 p8 (by unfold nz_PF; rw [dz_beq_ne np9, dz_beq_ne np0]; rfl), fT.2.2 p8 (dz_beq_ne np7)]
      have up : ∀ k, τ (p8 + k) = 0 := fun k => ez_hi hI.1 (by omega)
      have nt : ∀ k r, τ r ≠ 0 → p8 + k ≠ r := fun k r hr e => by have := up k; rw [e] at this; exact hr this
      have t0 : ∀ r, tz_ex r ≠ 0 → τ r ≠ 0 := fun r hr => by rw [hI.2.1 r hr]; exact hr
      have cell : ∀ k, 0 < k → g6.2.2 (p8 + k) = g2.2.2 (p8 + k) := fun k hk => P0 _ (nt k 770 (t0 770 (by decide))) (nt k 789 (t0 789 (by decide))) (nt k 790 (t0 790 (by decide))) (by omega)
      have c61 := f6.1; have c62 := f6.2.1
      have aQ : aq τ h τ3 g6 p8 0 := by
        refine ⟨⟨up 0, up 1, up 2⟩, ⟨n1, by rw [n2 _ (by omega)]; exact u15, by rw [n2 _ (by omega)]; exact u16⟩, ⟨by rw [Pp]; exact vK, by rw [Pp, iK 4 (by decide), I0 4 (by decide) (by decide) (by decide) (by decide) (by decide)]; exact y8 4, by rw [Pp, iK 5 (by decide), I0 5 (by decide) (by decide) (by decide) (by decide) (by decide)]; exact y8 5⟩, fun j => ?_, fun j => ?_, A0, fun q q0 q3 => ?_, fun j j0 j2 => ?_, ?_, by omega, by omega, by omega, by rw [Pp, iK 12 (by decide), I0 12 (by decide) (by decide) (by decide) (by decide) (by decide)]; exact y8 12, by rw [f6.I rfl, iT 0 (by decide), j7]; exact vP⟩
        · unfold qz_I; rw [cell 1 (by decide)]; exact z1 j
        · unfold qz_I; rw [cell 2 (by decide)]; exact z2 j
        · by_cases e0 : q = p8
          · exact Or.inl e0
          · by_cases e1 : q = p8 + 1
            · exact Or.inr (Or.inl e1)
            · by_cases e2 : q = p8 + 2
              · exact Or.inr (Or.inr e2)
              · rw [n2 q e0, o2 q e1 e2, o8 q e0] at q3; exact absurd q0 q3
        · rw [f6.I rfl, iT j j2, j7, iP j j0]
        · rw [f6.I rfl]; exact vT
      have eb : mb g4 = mb h := funext fun k => by
        unfold mb qz_I
        have t1 : τ 771 ≠ 0 := t0 771 (by decide)
        have qp : 771 ≠ p8 := fun e => by rw [← e] at z8; exact t1 z8
        have y1 := x8.1 771 t1
        have y2 := x2 771 (by rw [y1.1]; exact t1)
        rw [fT.2.2 771 rfl, fK.2.2 771 (dz_beq_ne qp), y2.2 qp, y1.2, fP.2.2 771 rfl]
      refine ez_less [(3, .inr (.inr (some (p8)))), (2, .inl (pn h)), (0, .inr (.inr (some (770)))), (1, .inl (0))] rfl ⟨rfl, rfl, rfl, rfl, trivial⟩ ?_
      exact kT hs p8 g6 τ3 aQ (aQ.mI9 hI hB6) (by rw [← eb]; exact hno)
    · skip
      have A0 : ∀ q, τ q ≠ 0 → τ3 q = τ q ∧ (q ≠ 770 → q ≠ 789 → q ≠ 790 → g6.2.2 q = h.2.2 q) := fun q hq => by
        have qp : q ≠ p8 := fun e => by rw [e] at hq; exact hq z8
        have y1 := x8.1 q hq
        have y2 := x2 q (by rw [y1.1]; exact hq)
        refine ⟨by rw [n2 q qp, y2.1, y1.1], fun q1 q2 q3 => ?_⟩
        rw [f6.2.2 q (by unfold nz_PF; rw [dz_beq_ne q2, dz_beq_ne q3]; rfl), fT.2.2 q (dz_beq_ne q1), fK.2.2 q (dz_beq_ne qp), y2.2 qp, y1.2, fP.2.2 q (dz_beq_ne q1)]
      have P0 : ∀ q, q ≠ 770 → q ≠ 789 → q ≠ 790 → q ≠ p8 → g6.2.2 q = g2.2.2 q := fun q q1 q2 q3 q4 => by
        rw [f6.2.2 q (by unfold nz_PF; rw [dz_beq_ne q2, dz_beq_ne q3]; rfl), fT.2.2 q (dz_beq_ne q1), fK.2.2 q (dz_beq_ne q4)]
      have Pp : ∀ j, qz_I g6 p8 j = qz_I g3 p8 j := fun j => by unfold qz_I; rw [f6.2.2 p8 (by unfold nz_PF; rw [dz_beq_ne np9, dz_beq_ne np0]; rfl), fT.2.2 p8 (dz_beq_ne np7)]
      have up : ∀ k, τ (p8 + k) = 0 := fun k => ez_hi hI.1 (by omega)
      have nt : ∀ k r, τ r ≠ 0 → p8 + k ≠ r := fun k r hr e => by have := up k; rw [e] at this; exact hr this
      have t0 : ∀ r, tz_ex r ≠ 0 → τ r ≠ 0 := fun r hr => by rw [hI.2.1 r hr]; exact hr
      have cell : ∀ k, 0 < k → g6.2.2 (p8 + k) = g2.2.2 (p8 + k) := fun k hk => P0 _ (nt k 770 (t0 770 (by decide))) (nt k 789 (t0 789 (by decide))) (nt k 790 (t0 790 (by decide))) (by omega)
      have c61 := f6.1; have c62 := f6.2.1
      have aQ : aq τ h τ3 g6 p8 0 := by
        refine ⟨⟨up 0, up 1, up 2⟩, ⟨n1, by rw [n2 _ (by omega)]; exact u15, by rw [n2 _ (by omega)]; exact u16⟩, ⟨by rw [Pp]; exact vK, by rw [Pp, iK 4 (by decide), I0 4 (by decide) (by decide) (by decide) (by decide) (by decide)]; exact y8 4, by rw [Pp, iK 5 (by decide), I0 5 (by decide) (by decide) (by decide) (by decide) (by decide)]; exact y8 5⟩, fun j => ?_, fun j => ?_, A0, fun q q0 q3 => ?_, fun j j0 j2 => ?_, ?_, by omega, by omega, by omega, by rw [Pp, iK 12 (by decide), I0 12 (by decide) (by decide) (by decide) (by decide) (by decide)]; exact y8 12, by rw [f6.I rfl, iT 0 (by decide), j7]; exact vP⟩
        · unfold qz_I; rw [cell 1 (by decide)]; exact z1 j
        · unfold qz_I; rw [cell 2 (by decide)]; exact z2 j
        · by_cases e0 : q = p8
          · exact Or.inl e0
          · by_cases e1 : q = p8 + 1
            · exact Or.inr (Or.inl e1)
            · by_cases e2 : q = p8 + 2
              · exact Or.inr (Or.inr e2)
              · rw [n2 q e0, o2 q e1 e2, o8 q e0] at q3; exact absurd q0 q3
        · rw [f6.I rfl, iT j j2, j7, iP j j0]
        · rw [f6.I rfl]; exact vT
      have eb : mb g4 = mb h := funext fun k => by
        unfold mb qz_I
        have t1 : τ 771 ≠ 0 := t0 771 (by decide)
        have qp : 771 ≠ p8 := fun e => by rw [← e] at z8; exact t1 z8
        have y1 := x8.1 771 t1
        have y2 := x2 771 (by rw [y1.1]; exact t1)
        rw [fT.2.2 771 rfl, fK.2.2 771 (dz_beq_ne qp), y2.2 qp, y1.2, fP.2.2 771 rfl]
      refine ez_less [(3, .inr (.inr (some (p8)))), (2, .inl (pn h)), (0, .inr (.inr (some (770)))), (1, .inl (0))] rfl ⟨rfl, rfl, rfl, rfl, trivial⟩ ?_
      exact kx hs p8 g6 τ3 A aQ (aQ.mI9 hI hB6) (by rw [← eb]; exact hA) (by rw [← eb]; exact hfl)
  · skip
    refine ez_go (n := 2) (pc' := 29) (L' := [(0, .inr (.inr (some (770)))), (1, .inl (0))]) (st' := [.inl (2), .inr (.inr (some (770)))]) rfl ?_
    refine ez_cv hP t770 rfl rfl rfl tq_75 rfl rfl rfl (rd_mfail hP t770 (by omega) (by omega) (fun gf hBf ff jf vf0 => ez_K1 ?_))
    exact ez_retI rfl rfl (kS (by rw [← iP 7 (by decide)]; assumption) gf (hI.f7 hBf (fun q _ hq => by rw [ff.2.2 q (dz_beq_ne hq), fP.2.2 q (dz_beq_ne hq)]) (fun j j1 j2 => by rw [jf j (by omega), iP j (by omega)])) (fP.trans ff) (fun j hj => by rw [jf j hj, iP j hj]) vf0)
theorem rd_mlA19 (hI : mI9 τ h Ls 0) (hr1 : h.1 + 10 ≤ 600192) (hr2 : h.2.1 + 40 ≤ 7302232) (kS : qz_I h 770 7 ≠ 0 → ∀ g, mI9 τ g Ls 0 → ez_fr (ez_one 770) h g → (∀ j, j ≠ 0 → qz_I g 770 j = qz_I h 770 j) → qz_I g 770 0 = 2 → Q (.inl (some (ez_v (.inl 0))), g)) (kx : qz_I h 770 7 = 0 → ∀ l g τ1 A, aq τ h τ1 g l 1 → mI9 τ1 g Ls 0 → rz_A (mb h) (qz_I h 770 2) (5 : Int).toNat A → (∀ k, 0 ≤ k → k < 5 → mf g k = rz_ff (mb h) A k ∧ mt g k = rz_tt (mb h) A k) → ez_W (d + 8) cm_276 96 [(3, .inr (.inr (some (l)))), (2, .inl (pn h)), (0, .inr (.inr (some (770)))), (1, .inl (1))] [] g Q) (kT : qz_I h 770 7 = 0 → ∀ l g τ1, aq τ h τ1 g l 1 → mI9 τ1 g Ls 0 → (¬ ∃ A, rz_A (mb h) (qz_I h 770 2) (5 : Int).toNat A) → ez_W (d + 8) cm_276 155 [(3, .inr (.inr (some (l)))), (2, .inl (pn h)), (0, .inr (.inr (some (770)))), (1, .inl (1))] [.inr (.inr (some g.1))] (xc g 1) Q) : ez_W (d + 8) cm_276 0 [(0, .inr (.inr (some (770)))), (1, .inl (1))] [] h Q := by
  have hB := hI.1
  have t770 : τ 770 = 75 := hI.2.1 770 (by decide)
  have b2 : 0 ≤ qz_I h 770 2 ∧ qz_I h 770 2 ≤ 4096 := ez_fB (cl := 11) (k := 2) hB t770 tq_75 rfl rfl (by decide)
  refine ez_go (n := 2) (pc' := 2) (L' := [(0, .inr (.inr (some (770)))), (1, .inl (1))]) (st' := [.inl (0), .inr (.inr (some (770)))]) rfl ?_
  refine ez_pf hB t770 rfl rfl tq_75 rfl rfl rfl rfl (ez_vdI rfl rfl (by omega) (by omega)) (fun hB1 w2 => ?_)
  have fP : ez_fr (ez_one 770) h (dz_put h 770 0 (ez_v (.inl (0)))) := (ez_fr.refl (ez_one 770) h).put rfl _ _
  have vP : qz_I (dz_put h 770 0 (ez_v (.inl (0)))) 770 0 = 0 := w2.trans (rz_rd ⟨by omega, by omega⟩)
  have iP : ∀ j, j ≠ 0 → qz_I (dz_put h 770 0 (ez_v (.inl (0)))) 770 j = qz_I h 770 j := fun j hj => ez_put_I (fun w => hj w.2)
  have hP := hB1
  generalize (dz_put h 770 0 (ez_v (.inl (0)))) = h1 at *
  have cP1 := fP.1; have cP2 := fP.2.1
  refine ez_go (n := 1) (pc' := 6) (L' := [(0, .inr (.inr (some (770)))), (1, .inl (1))]) (st' := [.inl (1)]) rfl ?_
  refine ez_if rfl rfl ⟨by decide, by decide⟩ (fun (c3 : (1 : Int) < (0)) => absurd c3 (by decide)) (fun _ => ?_)
  refine ez_go (n := 2) (pc' := 11) (L' := [(0, .inr (.inr (some (770)))), (1, .inl (1))]) (st' := [.inl (4), .inl (1)]) rfl ?_
  refine ez_icmp rfl rfl ⟨by decide, by decide⟩ ⟨by decide, by decide⟩ (fun _ => ?_) (fun (c4 : ¬((1 : Int) ≤ (4))) => absurd c4 (by decide))
  refine ez_go (n := 1) (pc' := 21) (L' := [(0, .inr (.inr (some (770)))), (1, .inl (1))]) (st' := [.inr (.inr (some (770)))]) rfl ?_
  refine ez_gI hP t770 rfl rfl tq_75 rfl rfl (fun (b5 : 0 ≤ qz_I h1 770 7) (b5' : qz_I h1 770 7 ≤ 1) => ?_)
  refine ez_if rfl rfl ⟨by first | omega | exact (sz_i32 _).1, by first | omega | exact (sz_i32 _).2⟩ (fun (c6 : (qz_I h1 770 7) = (0)) => ?_) (fun (c6 : ¬((qz_I h1 770 7) = (0))) => ?_)
  · skip
    have hs : qz_I h 770 7 = 0 := by rw [← iP 7 (by decide)]; assumption
    refine ez_go (n := 1) (pc' := 34) (L' := [(0, .inr (.inr (some (770)))), (1, .inl (1))]) (st' := [.inr (.inr (some (770)))]) rfl ?_
    refine ez_gI hP t770 rfl rfl tq_75 rfl rfl (fun (b7 : 0 ≤ qz_I h1 770 10) (b7' : qz_I h1 770 10 ≤ 38500) => ?_)
    rw [show qz_I h1 770 10 = pn h from iP 10 (by decide)]
    refine ez_go (n := 1) (pc' := 38) (L' := [(2, .inl (pn h)), (0, .inr (.inr (some (770)))), (1, .inl (1))]) (st' := []) rfl ?_
    refine ez_nw' (t := 14) hP rfl rfl rfl tq_14 rfl rfl (by omega) (by show h1.2.1 + 13 ≤ 7302232; omega) (fun g8 τ8 p8 hB8 x8 o8 t8 z8 e8 y8 => ?_)
    have x8 : ez_xt τ h1 τ8 g8 1 13 := x8
    have c8 := x8.2
    have t770n8 := (x8.1 _ (by rw [t770]; decide)).1.trans t770
    refine ez_go (n := 1) (pc' := 42) (L' := [(2, .inl (pn h)), (0, .inr (.inr (some (770)))), (1, .inl (1))]) (st' := [.inr (.inr (some (p8))), .inr (.inr (some (p8)))]) rfl ?_
    have lp := dz_here_lt (hB8.1 p8 (by rw [t8]; decide)).1
    refine ez_ci hB8.2.1 rfl rfl rfl rfl rfl rfl (rd_lineI (r := p8) hB8 t8 (by omega) (by omega) (by omega) (fun g2 τ2 hB2 x2 o2 u15 u16 g21 g22 g23 v7 v8 I0 z1 z2 => ez_K0 ?_))
    have hB3 := ez_rtLine hB2 ((x2 p8 (by rw [t8]; decide)).1.trans t8) v7 v8
    have n1 : dz_tn τ2 p8 13 p8 = 13 := ez_tn_eq
    have n2 : ∀ q, q ≠ p8 → dz_tn τ2 p8 13 q = τ2 q := fun q hq => ez_tn_ne hq
    generalize dz_tn τ2 p8 13 = τ3 at *
    have np7 : p8 ≠ 770 := fun e => by rw [e, t770] at z8; cases z8
    have np9 : p8 ≠ 789 := fun e => by rw [e, hI.2.1 789 (by decide)] at z8; cases z8
    have np0 : p8 ≠ 790 := fun e => by rw [e, hI.2.1 790 (by decide)] at z8; cases z8
    have w770 : τ3 770 = 75 := by rw [n2 770 (Ne.symm np7), (x2 770 (by rw [(x8.1 770 (by rw [t770]; decide)).1, t770]; decide)).1, (x8.1 770 (by rw [t770]; decide)).1, t770]
    refine ez_go (n := 3) (pc' := 48) (L' := [(3, .inr (.inr (some (p8)))), (2, .inl (pn h)), (0, .inr (.inr (some (770)))), (1, .inl (1))]) (st' := [.inl (1), .inr (.inr (some (p8)))]) rfl ?_
    refine ez_pf hB3 n1 rfl rfl tq_13 rfl rfl rfl rfl (ez_vdI rfl rfl (by omega) (by omega)) (fun hB9 w10 => ?_)
    have fK : ez_fr (ez_one p8) g2 (dz_put g2 p8 0 (ez_v (.inl (1)))) := (ez_fr.refl (ez_one p8) g2).put (show Nat.beq _ _ = true from Nat.beq_refl _) _ _
    have vK : qz_I (dz_put g2 p8 0 (ez_v (.inl (1)))) p8 0 = 1 := w10.trans (rz_rd ⟨by omega, by omega⟩)
    have iK : ∀ j, j ≠ 0 → qz_I (dz_put g2 p8 0 (ez_v (.inl (1)))) p8 j = qz_I g2 p8 j := fun j hj => ez_put_I (fun w => hj w.2)
    have hK := hB9
    generalize (dz_put g2 p8 0 (ez_v (.inl (1)))) = g3 at *
    have cK1 := fK.1; have cK2 := fK.2.1
    have j7 : ∀ j, qz_I g3 770 j = qz_I h1 770 j := fun j => by unfold qz_I; rw [fK.2.2 770 (dz_beq_ne (Ne.symm np7)), (x2 770 (by rw [(x8.1 770 (by rw [t770]; decide)).1, t770]; decide)).2 (Ne.symm np7), (x8.1 770 (by rw [t770]; decide)).2]
    refine ez_go (n := 1) (pc' := 52) (L' := [(3, .inr (.inr (some (p8)))), (2, .inl (pn h)), (0, .inr (.inr (some (770)))), (1, .inl (1))]) (st' := [.inr (.inr (some (770)))]) rfl ?_
    refine ez_gI hK w770 rfl rfl tq_75 rfl rfl (fun (b11 : 0 ≤ qz_I g3 770 2) (b11' : qz_I g3 770 2 ≤ 4096) => ?_)
    rw [show qz_I g3 770 2 = qz_I h 770 2 from (j7 2).trans (iP 2 (by decide))]
    refine ez_go (n := 3) (pc' := 59) (L' := [(4, .inl (qz_I h 770 2)), (3, .inr (.inr (some (p8)))), (2, .inl (pn h)), (0, .inr (.inr (some (770)))), (1, .inl (1))]) (st' := [.inl (0), .inr (.inr (some (770)))]) rfl ?_
    refine ez_pf hK w770 rfl rfl tq_75 rfl rfl rfl rfl (ez_vdI rfl rfl (by omega) (by omega)) (fun hB12 w13 => ?_)
    have fT : ez_fr (ez_one 770) g3 (dz_put g3 770 2 (ez_v (.inl (0)))) := (ez_fr.refl (ez_one 770) g3).put rfl _ _
    have vT : qz_I (dz_put g3 770 2 (ez_v (.inl (0)))) 770 2 = 0 := w13.trans (rz_rd ⟨by omega, by omega⟩)
    have iT : ∀ j, j ≠ 2 → qz_I (dz_put g3 770 2 (ez_v (.inl (0)))) 770 j = qz_I g3 770 j := fun j hj => ez_put_I (fun w => hj w.2)
    have hT := hB12
    generalize (dz_put g3 770 2 (ez_v (.inl (0)))) = g4 at *
    have cT1 := fT.1; have cT2 := fT.2.1
    refine ez_go (n := 2) (pc' := 64) (L' := [(4, .inl (qz_I h 770 2)), (3, .inr (.inr (some (p8)))), (2, .inl (pn h)), (0, .inr (.inr (some (770)))), (1, .inl (1))]) (st' := [.inl (1), .inr (.inr (some (770)))]) rfl ?_
    refine ez_if rfl rfl ⟨by decide, by decide⟩ (fun _ => ?_) (fun (c14 : ¬((1 : Int) ≠ (0))) => absurd c14 (by decide))
    refine ez_go (n := 2) (pc' := 74) (L' := [(4, .inl (qz_I h 770 2)), (3, .inr (.inr (some (p8)))), (2, .inl (pn h)), (0, .inr (.inr (some (770)))), (1, .inl (1))]) (st' := [.inl (1), .inl (1), .inr (.inr (some (770)))]) rfl ?_
    refine ez_icmp rfl rfl ⟨by decide, by decide⟩ ⟨by decide, by decide⟩ (fun (c15 : (1 : Int) ≠ (1)) => absurd c15 (by decide)) (fun _ => ?_)
    refine ez_go (n := 3) (pc' := 93) (L' := [(4, .inl (qz_I h 770 2)), (3, .inr (.inr (some (p8)))), (2, .inl (pn h)), (0, .inr (.inr (some (770)))), (1, .inl (1))]) (st' := [.inl (qz_I h 770 2), .inl (5), .inr (.inr (some (770)))]) rfl ?_
    refine ez_cv hT w770 rfl rfl rfl tq_75 rfl rfl rfl (rd_fields hT w770 (by omega) (by omega) (by omega) (by omega) (by omega) (by omega) (fun hno g6 hB6 f6 => ez_Kc (xc_exc hB6 rfl) rfl ?_) (fun g6 A hB6 f6 hA hfl => ez_K0 ?_))
    · skip
      have A0 : ∀ q, τ q ≠ 0 → τ3 q = τ q ∧ (q ≠ 770 → q ≠ 789 → q ≠ 790 → g6.2.2 q = h.2.2 q) := fun q hq => by
        have qp : q ≠ p8 := fun e => by rw [e] at hq; exact hq z8
        have y1 := x8.1 q hq
        have y2 := x2 q (by rw [y1.1]; exact hq)
        refine ⟨by rw [n2 q qp, y2.1, y1.1], fun q1 q2 q3 => ?_⟩
        rw [f6.2.2 q (by unfold nz_PF; rw [dz_beq_ne q2, dz_beq_ne q3]; rfl), fT.2.2 q (dz_beq_ne q1), fK.2.2 q (dz_beq_ne qp), y2.2 qp, y1.2, fP.2.2 q (dz_beq_ne q1)]
      have P0 : ∀ q, q ≠ 770 → q ≠ 789 → q ≠ 790 → q ≠ p8 → g6.2.2 q = g2.2.2 q := fun q q1 q2 q3 q4 => by
        rw [f6.2.2 q (by unfold nz_PF; rw [dz_beq_ne q2, dz_beq_ne q3]; rfl), fT.2.2 q (dz_beq_ne q1), fK.2.2 q (dz_beq_ne q4)]
      have Pp : ∀ j, qz_I g6 p8 j = qz_I g3 p8 j := fun j => by unfold qz_I; rw [f6.2.2 p8 (by unfold nz_PF; rw [dz_beq_ne np9, dz_beq_ne np0]; rfl), fT.2.2 p8 (dz_beq_ne np7)]
      have up : ∀ k, τ (p8 + k) = 0 := fun k => ez_hi hI.1 (by omega)
      have nt : ∀ k r, τ r ≠ 0 → p8 + k ≠ r := fun k r hr e => by have := up k; rw [e] at this; exact hr this
      have t0 : ∀ r, tz_ex r ≠ 0 → τ r ≠ 0 := fun r hr => by rw [hI.2.1 r hr]; exact hr
      have cell : ∀ k, 0 < k → g6.2.2 (p8 + k) = g2.2.2 (p8 + k) := fun k hk => P0 _ (nt k 770 (t0 770 (by decide))) (nt k 789 (t0 789 (by decide))) (nt k 790 (t0 790 (by decide))) (by omega)
      have c61 := f6.1; have c62 := f6.2.1
      have aQ : aq τ h τ3 g6 p8 1 := by
        refine ⟨⟨up 0, up 1, up 2⟩, ⟨n1, by rw [n2 _ (by omega)]; exact u15, by rw [n2 _ (by omega)]; exact u16⟩, ⟨by rw [Pp]; exact vK, by rw [Pp, iK 4 (by decide), I0 4 (by decide) (by decide) (by decide) (by decide) (by decide)]; exact y8 4, by rw [Pp, iK 5 (by decide), I0 5 (by decide) (by decide) (by decide) (by decide) (by decide)]; exact y8 5⟩, fun j => ?_, fun j => ?_, A0, fun q q0 q3 => ?_, fun j j0 j2 => ?_, ?_, by omega, by omega, by omega, by rw [Pp, iK 12 (by decide), I0 12 (by decide) (by decide) (by decide) (by decide) (by decide)]; exact y8 12, by rw [f6.I rfl, iT 0 (by decide), j7]; exact vP⟩
        · unfold qz_I; rw [cell 1 (by decide)]; exact z1 j
        · unfold qz_I; rw [cell 2 (by decide)]; exact z2 j
        · by_cases e0 : q = p8
          · exact Or.inl e0
          · by_cases e1 : q = p8 + 1
            · exact Or.inr (Or.inl e1)
            · by_cases e2 : q = p8 + 2
              · exact Or.inr (Or.inr e2)
              · rw [n2 q e0, o2 q e1 e2, o8 q e0] at q3; exact absurd q0 q3
        · rw [f6.I rfl, iT j j2, j7, iP j j0]
        · rw [f6.I rfl]; exact vT
      have eb : mb g4 = mb h := funext fun k => by
        unfold mb qz_I
        have t1 : τ 771 ≠ 0 := t0 771 (by decide)
        have qp : 771 ≠ p8 := fun e => by rw [← e] at z8; exact t1 z8
        have y1 := x8.1 771 t1
        have y2 := x2 771 (by rw [y1.1]; exact t1)
        rw [fT.2.2 771 rfl, fK.2.2 771 (dz_beq_ne qp), y2.2 qp, y1.2, fP.2.2 771 rfl]
      refine ez_less [(3, .inr (.inr (some (p8)))), (2, .inl (pn h)), (0, .inr (.inr (some (770)))), (1, .inl (1))] rfl ⟨rfl, rfl, rfl, rfl, trivial⟩ ?_
      exact kT hs p8 g6 τ3 aQ (aQ.mI9 hI hB6) (by rw [← eb]; exact hno)
    · skip
      have A0 : ∀ q, τ q ≠ 0 → τ3 q = τ q ∧ (q ≠ 770 → q ≠ 789 → q ≠ 790 → g6.2.2 q = h.2.2 q) := fun q hq => by
        have qp : q ≠ p8 := fun e => by rw [e] at hq; exact hq z8
        have y1 := x8.1 q hq
        have y2 := x2 q (by rw [y1.1]; exact hq)
        refine ⟨by rw [n2 q qp, y2.1, y1.1], fun q1 q2 q3 => ?_⟩
        rw [f6.2.2 q (by unfold nz_PF; rw [dz_beq_ne q2, dz_beq_ne q3]; rfl), fT.2.2 q (dz_beq_ne q1), fK.2.2 q (dz_beq_ne qp), y2.2 qp, y1.2, fP.2.2 q (dz_beq_ne q1)]
      have P0 : ∀ q, q ≠ 770 → q ≠ 789 → q ≠ 790 → q ≠ p8 → g6.2.2 q = g2.2.2 q := fun q q1 q2 q3 q4 => by
        rw [f6.2.2 q (by unfold nz_PF; rw [dz_beq_ne q2, dz_beq_ne q3]; rfl), fT.2.2 q (dz_beq_ne q1), fK.2.2 q (dz_beq_ne q4)]
      have Pp : ∀ j, qz_I g6 p8 j = qz_I g3 p8 j := fun j => by unfold qz_I; rw [f6.2.2 p8 (by unfold nz_PF; rw [dz_beq_ne np9, dz_beq_ne np0]; rfl), fT.2.2 p8 (dz_beq_ne np7)]
      have up : ∀ k, τ (p8 + k) = 0 := fun k => ez_hi hI.1 (by omega)
      have nt : ∀ k r, τ r ≠ 0 → p8 + k ≠ r := fun k r hr e => by have := up k; rw [e] at this; exact hr this
      have t0 : ∀ r, tz_ex r ≠ 0 → τ r ≠ 0 := fun r hr => by rw [hI.2.1 r hr]; exact hr
      have cell : ∀ k, 0 < k → g6.2.2 (p8 + k) = g2.2.2 (p8 + k) := fun k hk => P0 _ (nt k 770 (t0 770 (by decide))) (nt k 789 (t0 789 (by decide))) (nt k 790 (t0 790 (by decide))) (by omega)
      have c61 := f6.1; have c62 := f6.2.1
      have aQ : aq τ h τ3 g6 p8 1 := by
        refine ⟨⟨up 0, up 1, up 2⟩, ⟨n1, by rw [n2 _ (by omega)]; exact u15, by rw [n2 _ (by omega)]; exact u16⟩, ⟨by rw [Pp]; exact vK, by rw [Pp, iK 4 (by decide), I0 4 (by decide) (by decide) (by decide) (by decide) (by decide)]; exact y8 4, by rw [Pp, iK 5 (by decide), I0 5 (by decide) (by decide) (by decide) (by decide) (by decide)]; exact y8 5⟩, fun j => ?_, fun j => ?_, A0, fun q q0 q3 => ?_, fun j j0 j2 => ?_, ?_, by omega, by omega, by omega, by rw [Pp, iK 12 (by decide), I0 12 (by decide) (by decide) (by decide) (by decide) (by decide)]; exact y8 12, by rw [f6.I rfl, iT 0 (by decide), j7]; exact vP⟩
        · unfold qz_I; rw [cell 1 (by decide)]; exact z1 j
        · unfold qz_I; rw [cell 2 (by decide)]; exact z2 j
        · by_cases e0 : q = p8
          · exact Or.inl e0
          · by_cases e1 : q = p8 + 1
            · exact Or.inr (Or.inl e1)
            · by_cases e2 : q = p8 + 2
              · exact Or.inr (Or.inr e2)
              · rw [n2 q e0, o2 q e1 e2, o8 q e0] at q3; exact absurd q0 q3
        · rw [f6.I rfl, iT j j2, j7, iP j j0]
        · rw [f6.I rfl]; exact vT
      have eb : mb g4 = mb h := funext fun k => by
        unfold mb qz_I
        have t1 : τ 771 ≠ 0 := t0 771 (by decide)
        have qp : 771 ≠ p8 := fun e => by rw [← e] at z8; exact t1 z8
        have y1 := x8.1 771 t1
        have y2 := x2 771 (by rw [y1.1]; exact t1)
        rw [fT.2.2 771 rfl, fK.2.2 771 (dz_beq_ne qp), y2.2 qp, y1.2, fP.2.2 771 rfl]
      refine ez_less [(3, .inr (.inr (some (p8)))), (2, .inl (pn h)), (0, .inr (.inr (some (770)))), (1, .inl (1))] rfl ⟨rfl, rfl, rfl, rfl, trivial⟩ ?_
      exact kx hs p8 g6 τ3 A aQ (aQ.mI9 hI hB6) (by rw [← eb]; exact hA) (by rw [← eb]; exact hfl)
  · skip
    refine ez_go (n := 2) (pc' := 29) (L' := [(0, .inr (.inr (some (770)))), (1, .inl (1))]) (st' := [.inl (2), .inr (.inr (some (770)))]) rfl ?_
    refine ez_cv hP t770 rfl rfl rfl tq_75 rfl rfl rfl (rd_mfail hP t770 (by omega) (by omega) (fun gf hBf ff jf vf0 => ez_K1 ?_))
    exact ez_retI rfl rfl (kS (by rw [← iP 7 (by decide)]; assumption) gf (hI.f7 hBf (fun q _ hq => by rw [ff.2.2 q (dz_beq_ne hq), fP.2.2 q (dz_beq_ne hq)]) (fun j j1 j2 => by rw [jf j (by omega), iP j (by omega)])) (fP.trans ff) (fun j hj => by rw [jf j hj, iP j hj]) vf0)
theorem rd_mlA29 (hI : mI9 τ h Ls 0) (hr1 : h.1 + 10 ≤ 600192) (hr2 : h.2.1 + 40 ≤ 7302232) (kS : qz_I h 770 7 ≠ 0 → ∀ g, mI9 τ g Ls 0 → ez_fr (ez_one 770) h g → (∀ j, j ≠ 0 → qz_I g 770 j = qz_I h 770 j) → qz_I g 770 0 = 2 → Q (.inl (some (ez_v (.inl 0))), g)) (kx : qz_I h 770 7 = 0 → ∀ l g τ1 A, aq τ h τ1 g l 2 → mI9 τ1 g Ls 0 → rz_A (mb h) (qz_I h 770 2) (3 : Int).toNat A → (∀ k, 0 ≤ k → k < 3 → mf g k = rz_ff (mb h) A k ∧ mt g k = rz_tt (mb h) A k) → ez_W (d + 8) cm_276 96 [(3, .inr (.inr (some (l)))), (2, .inl (pn h)), (0, .inr (.inr (some (770)))), (1, .inl (2))] [] g Q) (kT : qz_I h 770 7 = 0 → ∀ l g τ1, aq τ h τ1 g l 2 → mI9 τ1 g Ls 0 → (¬ ∃ A, rz_A (mb h) (qz_I h 770 2) (3 : Int).toNat A) → ez_W (d + 8) cm_276 155 [(3, .inr (.inr (some (l)))), (2, .inl (pn h)), (0, .inr (.inr (some (770)))), (1, .inl (2))] [.inr (.inr (some g.1))] (xc g 1) Q) : ez_W (d + 8) cm_276 0 [(0, .inr (.inr (some (770)))), (1, .inl (2))] [] h Q := by
  have hB := hI.1
  have t770 : τ 770 = 75 := hI.2.1 770 (by decide)
  have b2 : 0 ≤ qz_I h 770 2 ∧ qz_I h 770 2 ≤ 4096 := ez_fB (cl := 11) (k := 2) hB t770 tq_75 rfl rfl (by decide)
  refine ez_go (n := 2) (pc' := 2) (L' := [(0, .inr (.inr (some (770)))), (1, .inl (2))]) (st' := [.inl (0), .inr (.inr (some (770)))]) rfl ?_
  refine ez_pf hB t770 rfl rfl tq_75 rfl rfl rfl rfl (ez_vdI rfl rfl (by omega) (by omega)) (fun hB1 w2 => ?_)
  have fP : ez_fr (ez_one 770) h (dz_put h 770 0 (ez_v (.inl (0)))) := (ez_fr.refl (ez_one 770) h).put rfl _ _
  have vP : qz_I (dz_put h 770 0 (ez_v (.inl (0)))) 770 0 = 0 := w2.trans (rz_rd ⟨by omega, by omega⟩)
  have iP : ∀ j, j ≠ 0 → qz_I (dz_put h 770 0 (ez_v (.inl (0)))) 770 j = qz_I h 770 j := fun j hj => ez_put_I (fun w => hj w.2)
  have hP := hB1
  generalize (dz_put h 770 0 (ez_v (.inl (0)))) = h1 at *
  have cP1 := fP.1; have cP2 := fP.2.1
  refine ez_go (n := 1) (pc' := 6) (L' := [(0, .inr (.inr (some (770)))), (1, .inl (2))]) (st' := [.inl (2)]) rfl ?_
  refine ez_if rfl rfl ⟨by decide, by decide⟩ (fun (c3 : (2 : Int) < (0)) => absurd c3 (by decide)) (fun _ => ?_)
  refine ez_go (n := 2) (pc' := 11) (L' := [(0, .inr (.inr (some (770)))), (1, .inl (2))]) (st' := [.inl (4), .inl (2)]) rfl ?_
  refine ez_icmp rfl rfl ⟨by decide, by decide⟩ ⟨by decide, by decide⟩ (fun _ => ?_) (fun (c4 : ¬((2 : Int) ≤ (4))) => absurd c4 (by decide))
  refine ez_go (n := 1) (pc' := 21) (L' := [(0, .inr (.inr (some (770)))), (1, .inl (2))]) (st' := [.inr (.inr (some (770)))]) rfl ?_
  refine ez_gI hP t770 rfl rfl tq_75 rfl rfl (fun (b5 : 0 ≤ qz_I h1 770 7) (b5' : qz_I h1 770 7 ≤ 1) => ?_)
  refine ez_if rfl rfl ⟨by first | omega | exact (sz_i32 _).1, by first | omega | exact (sz_i32 _).2⟩ (fun (c6 : (qz_I h1 770 7) = (0)) => ?_) (fun (c6 : ¬((qz_I h1 770 7) = (0))) => ?_)
  · skip
    have hs : qz_I h 770 7 = 0 := by rw [← iP 7 (by decide)]; assumption
    refine ez_go (n := 1) (pc' := 34) (L' := [(0, .inr (.inr (some (770)))), (1, .inl (2))]) (st' := [.inr (.inr (some (770)))]) rfl ?_
    refine ez_gI hP t770 rfl rfl tq_75 rfl rfl (fun (b7 : 0 ≤ qz_I h1 770 10) (b7' : qz_I h1 770 10 ≤ 38500) => ?_)
    rw [show qz_I h1 770 10 = pn h from iP 10 (by decide)]
    refine ez_go (n := 1) (pc' := 38) (L' := [(2, .inl (pn h)), (0, .inr (.inr (some (770)))), (1, .inl (2))]) (st' := []) rfl ?_
    refine ez_nw' (t := 14) hP rfl rfl rfl tq_14 rfl rfl (by omega) (by show h1.2.1 + 13 ≤ 7302232; omega) (fun g8 τ8 p8 hB8 x8 o8 t8 z8 e8 y8 => ?_)
    have x8 : ez_xt τ h1 τ8 g8 1 13 := x8
    have c8 := x8.2
    have t770n8 := (x8.1 _ (by rw [t770]; decide)).1.trans t770
    refine ez_go (n := 1) (pc' := 42) (L' := [(2, .inl (pn h)), (0, .inr (.inr (some (770)))), (1, .inl (2))]) (st' := [.inr (.inr (some (p8))), .inr (.inr (some (p8)))]) rfl ?_
    have lp := dz_here_lt (hB8.1 p8 (by rw [t8]; decide)).1
    refine ez_ci hB8.2.1 rfl rfl rfl rfl rfl rfl (rd_lineI (r := p8) hB8 t8 (by omega) (by omega) (by omega) (fun g2 τ2 hB2 x2 o2 u15 u16 g21 g22 g23 v7 v8 I0 z1 z2 => ez_K0 ?_))
    have hB3 := ez_rtLine hB2 ((x2 p8 (by rw [t8]; decide)).1.trans t8) v7 v8
    have n1 : dz_tn τ2 p8 13 p8 = 13 := ez_tn_eq
    have n2 : ∀ q, q ≠ p8 → dz_tn τ2 p8 13 q = τ2 q := fun q hq => ez_tn_ne hq
    generalize dz_tn τ2 p8 13 = τ3 at *
    have np7 : p8 ≠ 770 := fun e => by rw [e, t770] at z8; cases z8
    have np9 : p8 ≠ 789 := fun e => by rw [e, hI.2.1 789 (by decide)] at z8; cases z8
    have np0 : p8 ≠ 790 := fun e => by rw [e, hI.2.1 790 (by decide)] at z8; cases z8
    have w770 : τ3 770 = 75 := by rw [n2 770 (Ne.symm np7), (x2 770 (by rw [(x8.1 770 (by rw [t770]; decide)).1, t770]; decide)).1, (x8.1 770 (by rw [t770]; decide)).1, t770]
    refine ez_go (n := 3) (pc' := 48) (L' := [(3, .inr (.inr (some (p8)))), (2, .inl (pn h)), (0, .inr (.inr (some (770)))), (1, .inl (2))]) (st' := [.inl (2), .inr (.inr (some (p8)))]) rfl ?_
    refine ez_pf hB3 n1 rfl rfl tq_13 rfl rfl rfl rfl (ez_vdI rfl rfl (by omega) (by omega)) (fun hB9 w10 => ?_)
    have fK : ez_fr (ez_one p8) g2 (dz_put g2 p8 0 (ez_v (.inl (2)))) := (ez_fr.refl (ez_one p8) g2).put (show Nat.beq _ _ = true from Nat.beq_refl _) _ _
    have vK : qz_I (dz_put g2 p8 0 (ez_v (.inl (2)))) p8 0 = 2 := w10.trans (rz_rd ⟨by omega, by omega⟩)
    have iK : ∀ j, j ≠ 0 → qz_I (dz_put g2 p8 0 (ez_v (.inl (2)))) p8 j = qz_I g2 p8 j := fun j hj => ez_put_I (fun w => hj w.2)
    have hK := hB9
    generalize (dz_put g2 p8 0 (ez_v (.inl (2)))) = g3 at *
    have cK1 := fK.1; have cK2 := fK.2.1
    have j7 : ∀ j, qz_I g3 770 j = qz_I h1 770 j := fun j => by unfold qz_I; rw [fK.2.2 770 (dz_beq_ne (Ne.symm np7)), (x2 770 (by rw [(x8.1 770 (by rw [t770]; decide)).1, t770]; decide)).2 (Ne.symm np7), (x8.1 770 (by rw [t770]; decide)).2]
    refine ez_go (n := 1) (pc' := 52) (L' := [(3, .inr (.inr (some (p8)))), (2, .inl (pn h)), (0, .inr (.inr (some (770)))), (1, .inl (2))]) (st' := [.inr (.inr (some (770)))]) rfl ?_
    refine ez_gI hK w770 rfl rfl tq_75 rfl rfl (fun (b11 : 0 ≤ qz_I g3 770 2) (b11' : qz_I g3 770 2 ≤ 4096) => ?_)
    rw [show qz_I g3 770 2 = qz_I h 770 2 from (j7 2).trans (iP 2 (by decide))]
    refine ez_go (n := 3) (pc' := 59) (L' := [(4, .inl (qz_I h 770 2)), (3, .inr (.inr (some (p8)))), (2, .inl (pn h)), (0, .inr (.inr (some (770)))), (1, .inl (2))]) (st' := [.inl (0), .inr (.inr (some (770)))]) rfl ?_
    refine ez_pf hK w770 rfl rfl tq_75 rfl rfl rfl rfl (ez_vdI rfl rfl (by omega) (by omega)) (fun hB12 w13 => ?_)
    have fT : ez_fr (ez_one 770) g3 (dz_put g3 770 2 (ez_v (.inl (0)))) := (ez_fr.refl (ez_one 770) g3).put rfl _ _
    have vT : qz_I (dz_put g3 770 2 (ez_v (.inl (0)))) 770 2 = 0 := w13.trans (rz_rd ⟨by omega, by omega⟩)
    have iT : ∀ j, j ≠ 2 → qz_I (dz_put g3 770 2 (ez_v (.inl (0)))) 770 j = qz_I g3 770 j := fun j hj => ez_put_I (fun w => hj w.2)
    have hT := hB12
    generalize (dz_put g3 770 2 (ez_v (.inl (0)))) = g4 at *
    have cT1 := fT.1; have cT2 := fT.2.1
    refine ez_go (n := 2) (pc' := 64) (L' := [(4, .inl (qz_I h 770 2)), (3, .inr (.inr (some (p8)))), (2, .inl (pn h)), (0, .inr (.inr (some (770)))), (1, .inl (2))]) (st' := [.inl (2), .inr (.inr (some (770)))]) rfl ?_
    refine ez_if rfl rfl ⟨by decide, by decide⟩ (fun _ => ?_) (fun (c14 : ¬((2 : Int) ≠ (0))) => absurd c14 (by decide))
    refine ez_go (n := 2) (pc' := 74) (L' := [(4, .inl (qz_I h 770 2)), (3, .inr (.inr (some (p8)))), (2, .inl (pn h)), (0, .inr (.inr (some (770)))), (1, .inl (2))]) (st' := [.inl (1), .inl (2), .inr (.inr (some (770)))]) rfl ?_
    refine ez_icmp rfl rfl ⟨by decide, by decide⟩ ⟨by decide, by decide⟩ (fun _ => ?_) (fun (c15 : ¬((2 : Int) ≠ (1))) => absurd c15 (by decide))
    refine ez_go (n := 2) (pc' := 83) (L' := [(4, .inl (qz_I h 770 2)), (3, .inr (.inr (some (p8)))), (2, .inl (pn h)), (0, .inr (.inr (some (770)))), (1, .inl (2))]) (st' := [.inl (2), .inl (2), .inr (.inr (some (770)))]) rfl ?_
    refine ez_icmp rfl rfl ⟨by decide, by decide⟩ ⟨by decide, by decide⟩ (fun (c16 : (2 : Int) ≠ (2)) => absurd c16 (by decide)) (fun _ => ?_)
    refine ez_go (n := 3) (pc' := 93) (L' := [(4, .inl (qz_I h 770 2)), (3, .inr (.inr (some (p8)))), (2, .inl (pn h)), (0, .inr (.inr (some (770)))), (1, .inl (2))]) (st' := [.inl (qz_I h 770 2), .inl (3), .inr (.inr (some (770)))]) rfl ?_
    refine ez_cv hT w770 rfl rfl rfl tq_75 rfl rfl rfl (rd_fields hT w770 (by omega) (by omega) (by omega) (by omega) (by omega) (by omega) (fun hno g6 hB6 f6 => ez_Kc (xc_exc hB6 rfl) rfl ?_) (fun g6 A hB6 f6 hA hfl => ez_K0 ?_))
    · skip
      have A0 : ∀ q, τ q ≠ 0 → τ3 q = τ q ∧ (q ≠ 770 → q ≠ 789 → q ≠ 790 → g6.2.2 q = h.2.2 q) := fun q hq => by
        have qp : q ≠ p8 := fun e => by rw [e] at hq; exact hq z8
        have y1 := x8.1 q hq
        have y2 := x2 q (by rw [y1.1]; exact hq)
        refine ⟨by rw [n2 q qp, y2.1, y1.1], fun q1 q2 q3 => ?_⟩
        rw [f6.2.2 q (by unfold nz_PF; rw [dz_beq_ne q2, dz_beq_ne q3]; rfl), fT.2.2 q (dz_beq_ne q1), fK.2.2 q (dz_beq_ne qp), y2.2 qp, y1.2, fP.2.2 q (dz_beq_ne q1)]
      have P0 : ∀ q, q ≠ 770 → q ≠ 789 → q ≠ 790 → q ≠ p8 → g6.2.2 q = g2.2.2 q := fun q q1 q2 q3 q4 => by
        rw [f6.2.2 q (by unfold nz_PF; rw [dz_beq_ne q2, dz_beq_ne q3]; rfl), fT.2.2 q (dz_beq_ne q1), fK.2.2 q (dz_beq_ne q4)]
      have Pp : ∀ j, qz_I g6 p8 j = qz_I g3 p8 j := fun j => by unfold qz_I; rw [f6.2.2 p8 (by unfold nz_PF; rw [dz_beq_ne np9, dz_beq_ne np0]; rfl), fT.2.2 p8 (dz_beq_ne np7)]
      have up : ∀ k, τ (p8 + k) = 0 := fun k => ez_hi hI.1 (by omega)
      have nt : ∀ k r, τ r ≠ 0 → p8 + k ≠ r := fun k r hr e => by have := up k; rw [e] at this; exact hr this
      have t0 : ∀ r, tz_ex r ≠ 0 → τ r ≠ 0 := fun r hr => by rw [hI.2.1 r hr]; exact hr
      have cell : ∀ k, 0 < k → g6.2.2 (p8 + k) = g2.2.2 (p8 + k) := fun k hk => P0 _ (nt k 770 (t0 770 (by decide))) (nt k 789 (t0 789 (by decide))) (nt k 790 (t0 790 (by decide))) (by omega)
      have c61 := f6.1; have c62 := f6.2.1
      have aQ : aq τ h τ3 g6 p8 2 := by
        refine ⟨⟨up 0, up 1, up 2⟩, ⟨n1, by rw [n2 _ (by omega)]; exact u15, by rw [n2 _ (by omega)]; exact u16⟩, ⟨by rw [Pp]; exact vK, by rw [Pp, iK 4 (by decide), I0 4 (by decide) (by decide) (by decide) (by decide) (by decide)]; exact y8 4, by rw [Pp, iK 5 (by decide), I0 5 (by decide) (by decide) (by decide) (by decide) (by decide)]; exact y8 5⟩, fun j => ?_, fun j => ?_, A0, fun q q0 q3 => ?_, fun j j0 j2 => ?_, ?_, by omega, by omega, by omega, by rw [Pp, iK 12 (by decide), I0 12 (by decide) (by decide) (by decide) (by decide) (by decide)]; exact y8 12, by rw [f6.I rfl, iT 0 (by decide), j7]; exact vP⟩
        · unfold qz_I; rw [cell 1 (by decide)]; exact z1 j
        · unfold qz_I; rw [cell 2 (by decide)]; exact z2 j
        · by_cases e0 : q = p8
          · exact Or.inl e0
          · by_cases e1 : q = p8 + 1
            · exact Or.inr (Or.inl e1)
            · by_cases e2 : q = p8 + 2
              · exact Or.inr (Or.inr e2)
              · rw [n2 q e0, o2 q e1 e2, o8 q e0] at q3; exact absurd q0 q3
        · rw [f6.I rfl, iT j j2, j7, iP j j0]
        · rw [f6.I rfl]; exact vT
      have eb : mb g4 = mb h := funext fun k => by
        unfold mb qz_I
        have t1 : τ 771 ≠ 0 := t0 771 (by decide)
        have qp : 771 ≠ p8 := fun e => by rw [← e] at z8; exact t1 z8
        have y1 := x8.1 771 t1
        have y2 := x2 771 (by rw [y1.1]; exact t1)
        rw [fT.2.2 771 rfl, fK.2.2 771 (dz_beq_ne qp), y2.2 qp, y1.2, fP.2.2 771 rfl]
      refine ez_less [(3, .inr (.inr (some (p8)))), (2, .inl (pn h)), (0, .inr (.inr (some (770)))), (1, .inl (2))] rfl ⟨rfl, rfl, rfl, rfl, trivial⟩ ?_
      exact kT hs p8 g6 τ3 aQ (aQ.mI9 hI hB6) (by rw [← eb]; exact hno)
    · skip
      have A0 : ∀ q, τ q ≠ 0 → τ3 q = τ q ∧ (q ≠ 770 → q ≠ 789 → q ≠ 790 → g6.2.2 q = h.2.2 q) := fun q hq => by
        have qp : q ≠ p8 := fun e => by rw [e] at hq; exact hq z8
        have y1 := x8.1 q hq
        have y2 := x2 q (by rw [y1.1]; exact hq)
        refine ⟨by rw [n2 q qp, y2.1, y1.1], fun q1 q2 q3 => ?_⟩
        rw [f6.2.2 q (by unfold nz_PF; rw [dz_beq_ne q2, dz_beq_ne q3]; rfl), fT.2.2 q (dz_beq_ne q1), fK.2.2 q (dz_beq_ne qp), y2.2 qp, y1.2, fP.2.2 q (dz_beq_ne q1)]
      have P0 : ∀ q, q ≠ 770 → q ≠ 789 → q ≠ 790 → q ≠ p8 → g6.2.2 q = g2.2.2 q := fun q q1 q2 q3 q4 => by
        rw [f6.2.2 q (by unfold nz_PF; rw [dz_beq_ne q2, dz_beq_ne q3]; rfl), fT.2.2 q (dz_beq_ne q1), fK.2.2 q (dz_beq_ne q4)]
      have Pp : ∀ j, qz_I g6 p8 j = qz_I g3 p8 j := fun j => by unfold qz_I; rw [f6.2.2 p8 (by unfold nz_PF; rw [dz_beq_ne np9, dz_beq_ne np0]; rfl), fT.2.2 p8 (dz_beq_ne np7)]
      have up : ∀ k, τ (p8 + k) = 0 := fun k => ez_hi hI.1 (by omega)
      have nt : ∀ k r, τ r ≠ 0 → p8 + k ≠ r := fun k r hr e => by have := up k; rw [e] at this; exact hr this
      have t0 : ∀ r, tz_ex r ≠ 0 → τ r ≠ 0 := fun r hr => by rw [hI.2.1 r hr]; exact hr
      have cell : ∀ k, 0 < k → g6.2.2 (p8 + k) = g2.2.2 (p8 + k) := fun k hk => P0 _ (nt k 770 (t0 770 (by decide))) (nt k 789 (t0 789 (by decide))) (nt k 790 (t0 790 (by decide))) (by omega)
      have c61 := f6.1; have c62 := f6.2.1
      have aQ : aq τ h τ3 g6 p8 2 := by
        refine ⟨⟨up 0, up 1, up 2⟩, ⟨n1, by rw [n2 _ (by omega)]; exact u15, by rw [n2 _ (by omega)]; exact u16⟩, ⟨by rw [Pp]; exact vK, by rw [Pp, iK 4 (by decide), I0 4 (by decide) (by decide) (by decide) (by decide) (by decide)]; exact y8 4, by rw [Pp, iK 5 (by decide), I0 5 (by decide) (by decide) (by decide) (by decide) (by decide)]; exact y8 5⟩, fun j => ?_, fun j => ?_, A0, fun q q0 q3 => ?_, fun j j0 j2 => ?_, ?_, by omega, by omega, by omega, by rw [Pp, iK 12 (by decide), I0 12 (by decide) (by decide) (by decide) (by decide) (by decide)]; exact y8 12, by rw [f6.I rfl, iT 0 (by decide), j7]; exact vP⟩
        · unfold qz_I; rw [cell 1 (by decide)]; exact z1 j
        · unfold qz_I; rw [cell 2 (by decide)]; exact z2 j
        · by_cases e0 : q = p8
          · exact Or.inl e0
          · by_cases e1 : q = p8 + 1
            · exact Or.inr (Or.inl e1)
            · by_cases e2 : q = p8 + 2
              · exact Or.inr (Or.inr e2)
              · rw [n2 q e0, o2 q e1 e2, o8 q e0] at q3; exact absurd q0 q3
        · rw [f6.I rfl, iT j j2, j7, iP j j0]
        · rw [f6.I rfl]; exact vT
      have eb : mb g4 = mb h := funext fun k => by
        unfold mb qz_I
        have t1 : τ 771 ≠ 0 := t0 771 (by decide)
        have qp : 771 ≠ p8 := fun e => by rw [← e] at z8; exact t1 z8
        have y1 := x8.1 771 t1
        have y2 := x2 771 (by rw [y1.1]; exact t1)
        rw [fT.2.2 771 rfl, fK.2.2 771 (dz_beq_ne qp), y2.2 qp, y1.2, fP.2.2 771 rfl]
      refine ez_less [(3, .inr (.inr (some (p8)))), (2, .inl (pn h)), (0, .inr (.inr (some (770)))), (1, .inl (2))] rfl ⟨rfl, rfl, rfl, rfl, trivial⟩ ?_
      exact kx hs p8 g6 τ3 A aQ (aQ.mI9 hI hB6) (by rw [← eb]; exact hA) (by rw [← eb]; exact hfl)
  · skip
    refine ez_go (n := 2) (pc' := 29) (L' := [(0, .inr (.inr (some (770)))), (1, .inl (2))]) (st' := [.inl (2), .inr (.inr (some (770)))]) rfl ?_
    refine ez_cv hP t770 rfl rfl rfl tq_75 rfl rfl rfl (rd_mfail hP t770 (by omega) (by omega) (fun gf hBf ff jf vf0 => ez_K1 ?_))
    exact ez_retI rfl rfl (kS (by rw [← iP 7 (by decide)]; assumption) gf (hI.f7 hBf (fun q _ hq => by rw [ff.2.2 q (dz_beq_ne hq), fP.2.2 q (dz_beq_ne hq)]) (fun j j1 j2 => by rw [jf j (by omega), iP j (by omega)])) (fP.trans ff) (fun j hj => by rw [jf j hj, iP j hj]) vf0)
theorem rd_mlA39 (hI : mI9 τ h Ls 0) (hr1 : h.1 + 10 ≤ 600192) (hr2 : h.2.1 + 40 ≤ 7302232) (kS : qz_I h 770 7 ≠ 0 → ∀ g, mI9 τ g Ls 0 → ez_fr (ez_one 770) h g → (∀ j, j ≠ 0 → qz_I g 770 j = qz_I h 770 j) → qz_I g 770 0 = 2 → Q (.inl (some (ez_v (.inl 0))), g)) (kx : qz_I h 770 7 = 0 → ∀ l g τ1 A, aq τ h τ1 g l 3 → mI9 τ1 g Ls 0 → rz_A (mb h) (qz_I h 770 2) (2 : Int).toNat A → (∀ k, 0 ≤ k → k < 2 → mf g k = rz_ff (mb h) A k ∧ mt g k = rz_tt (mb h) A k) → ez_W (d + 8) cm_276 96 [(3, .inr (.inr (some (l)))), (2, .inl (pn h)), (0, .inr (.inr (some (770)))), (1, .inl (3))] [] g Q) (kT : qz_I h 770 7 = 0 → ∀ l g τ1, aq τ h τ1 g l 3 → mI9 τ1 g Ls 0 → (¬ ∃ A, rz_A (mb h) (qz_I h 770 2) (2 : Int).toNat A) → ez_W (d + 8) cm_276 155 [(3, .inr (.inr (some (l)))), (2, .inl (pn h)), (0, .inr (.inr (some (770)))), (1, .inl (3))] [.inr (.inr (some g.1))] (xc g 1) Q) : ez_W (d + 8) cm_276 0 [(0, .inr (.inr (some (770)))), (1, .inl (3))] [] h Q := by
  have hB := hI.1
  have t770 : τ 770 = 75 := hI.2.1 770 (by decide)
  have b2 : 0 ≤ qz_I h 770 2 ∧ qz_I h 770 2 ≤ 4096 := ez_fB (cl := 11) (k := 2) hB t770 tq_75 rfl rfl (by decide)
  refine ez_go (n := 2) (pc' := 2) (L' := [(0, .inr (.inr (some (770)))), (1, .inl (3))]) (st' := [.inl (0), .inr (.inr (some (770)))]) rfl ?_
  refine ez_pf hB t770 rfl rfl tq_75 rfl rfl rfl rfl (ez_vdI rfl rfl (by omega) (by omega)) (fun hB1 w2 => ?_)
  have fP : ez_fr (ez_one 770) h (dz_put h 770 0 (ez_v (.inl (0)))) := (ez_fr.refl (ez_one 770) h).put rfl _ _
  have vP : qz_I (dz_put h 770 0 (ez_v (.inl (0)))) 770 0 = 0 := w2.trans (rz_rd ⟨by omega, by omega⟩)
  have iP : ∀ j, j ≠ 0 → qz_I (dz_put h 770 0 (ez_v (.inl (0)))) 770 j = qz_I h 770 j := fun j hj => ez_put_I (fun w => hj w.2)
  have hP := hB1
  generalize (dz_put h 770 0 (ez_v (.inl (0)))) = h1 at *
  have cP1 := fP.1; have cP2 := fP.2.1
  refine ez_go (n := 1) (pc' := 6) (L' := [(0, .inr (.inr (some (770)))), (1, .inl (3))]) (st' := [.inl (3)]) rfl ?_
  refine ez_if rfl rfl ⟨by decide, by decide⟩ (fun (c3 : (3 : Int) < (0)) => absurd c3 (by decide)) (fun _ => ?_)
  refine ez_go (n := 2) (pc' := 11) (L' := [(0, .inr (.inr (some (770)))), (1, .inl (3))]) (st' := [.inl (4), .inl (3)]) rfl ?_
  refine ez_icmp rfl rfl ⟨by decide, by decide⟩ ⟨by decide, by decide⟩ (fun _ => ?_) (fun (c4 : ¬((3 : Int) ≤ (4))) => absurd c4 (by decide))
  refine ez_go (n := 1) (pc' := 21) (L' := [(0, .inr (.inr (some (770)))), (1, .inl (3))]) (st' := [.inr (.inr (some (770)))]) rfl ?_
  refine ez_gI hP t770 rfl rfl tq_75 rfl rfl (fun (b5 : 0 ≤ qz_I h1 770 7) (b5' : qz_I h1 770 7 ≤ 1) => ?_)
  refine ez_if rfl rfl ⟨by first | omega | exact (sz_i32 _).1, by first | omega | exact (sz_i32 _).2⟩ (fun (c6 : (qz_I h1 770 7) = (0)) => ?_) (fun (c6 : ¬((qz_I h1 770 7) = (0))) => ?_)
  · skip
    have hs : qz_I h 770 7 = 0 := by rw [← iP 7 (by decide)]; assumption
    refine ez_go (n := 1) (pc' := 34) (L' := [(0, .inr (.inr (some (770)))), (1, .inl (3))]) (st' := [.inr (.inr (some (770)))]) rfl ?_
    refine ez_gI hP t770 rfl rfl tq_75 rfl rfl (fun (b7 : 0 ≤ qz_I h1 770 10) (b7' : qz_I h1 770 10 ≤ 38500) => ?_)
    rw [show qz_I h1 770 10 = pn h from iP 10 (by decide)]
    refine ez_go (n := 1) (pc' := 38) (L' := [(2, .inl (pn h)), (0, .inr (.inr (some (770)))), (1, .inl (3))]) (st' := []) rfl ?_
    refine ez_nw' (t := 14) hP rfl rfl rfl tq_14 rfl rfl (by omega) (by show h1.2.1 + 13 ≤ 7302232; omega) (fun g8 τ8 p8 hB8 x8 o8 t8 z8 e8 y8 => ?_)
    have x8 : ez_xt τ h1 τ8 g8 1 13 := x8
    have c8 := x8.2
    have t770n8 := (x8.1 _ (by rw [t770]; decide)).1.trans t770
    refine ez_go (n := 1) (pc' := 42) (L' := [(2, .inl (pn h)), (0, .inr (.inr (some (770)))), (1, .inl (3))]) (st' := [.inr (.inr (some (p8))), .inr (.inr (some (p8)))]) rfl ?_
    have lp := dz_here_lt (hB8.1 p8 (by rw [t8]; decide)).1
    refine ez_ci hB8.2.1 rfl rfl rfl rfl rfl rfl (rd_lineI (r := p8) hB8 t8 (by omega) (by omega) (by omega) (fun g2 τ2 hB2 x2 o2 u15 u16 g21 g22 g23 v7 v8 I0 z1 z2 => ez_K0 ?_))
    have hB3 := ez_rtLine hB2 ((x2 p8 (by rw [t8]; decide)).1.trans t8) v7 v8
    have n1 : dz_tn τ2 p8 13 p8 = 13 := ez_tn_eq
    have n2 : ∀ q, q ≠ p8 → dz_tn τ2 p8 13 q = τ2 q := fun q hq => ez_tn_ne hq
    generalize dz_tn τ2 p8 13 = τ3 at *
    have np7 : p8 ≠ 770 := fun e => by rw [e, t770] at z8; cases z8
    have np9 : p8 ≠ 789 := fun e => by rw [e, hI.2.1 789 (by decide)] at z8; cases z8
    have np0 : p8 ≠ 790 := fun e => by rw [e, hI.2.1 790 (by decide)] at z8; cases z8
    have w770 : τ3 770 = 75 := by rw [n2 770 (Ne.symm np7), (x2 770 (by rw [(x8.1 770 (by rw [t770]; decide)).1, t770]; decide)).1, (x8.1 770 (by rw [t770]; decide)).1, t770]
    refine ez_go (n := 3) (pc' := 48) (L' := [(3, .inr (.inr (some (p8)))), (2, .inl (pn h)), (0, .inr (.inr (some (770)))), (1, .inl (3))]) (st' := [.inl (3), .inr (.inr (some (p8)))]) rfl ?_
    refine ez_pf hB3 n1 rfl rfl tq_13 rfl rfl rfl rfl (ez_vdI rfl rfl (by omega) (by omega)) (fun hB9 w10 => ?_)
    have fK : ez_fr (ez_one p8) g2 (dz_put g2 p8 0 (ez_v (.inl (3)))) := (ez_fr.refl (ez_one p8) g2).put (show Nat.beq _ _ = true from Nat.beq_refl _) _ _
    have vK : qz_I (dz_put g2 p8 0 (ez_v (.inl (3)))) p8 0 = 3 := w10.trans (rz_rd ⟨by omega, by omega⟩)
    have iK : ∀ j, j ≠ 0 → qz_I (dz_put g2 p8 0 (ez_v (.inl (3)))) p8 j = qz_I g2 p8 j := fun j hj => ez_put_I (fun w => hj w.2)
    have hK := hB9
    generalize (dz_put g2 p8 0 (ez_v (.inl (3)))) = g3 at *
    have cK1 := fK.1; have cK2 := fK.2.1
    have j7 : ∀ j, qz_I g3 770 j = qz_I h1 770 j := fun j => by unfold qz_I; rw [fK.2.2 770 (dz_beq_ne (Ne.symm np7)), (x2 770 (by rw [(x8.1 770 (by rw [t770]; decide)).1, t770]; decide)).2 (Ne.symm np7), (x8.1 770 (by rw [t770]; decide)).2]
    refine ez_go (n := 1) (pc' := 52) (L' := [(3, .inr (.inr (some (p8)))), (2, .inl (pn h)), (0, .inr (.inr (some (770)))), (1, .inl (3))]) (st' := [.inr (.inr (some (770)))]) rfl ?_
    refine ez_gI hK w770 rfl rfl tq_75 rfl rfl (fun (b11 : 0 ≤ qz_I g3 770 2) (b11' : qz_I g3 770 2 ≤ 4096) => ?_)
    rw [show qz_I g3 770 2 = qz_I h 770 2 from (j7 2).trans (iP 2 (by decide))]
    refine ez_go (n := 3) (pc' := 59) (L' := [(4, .inl (qz_I h 770 2)), (3, .inr (.inr (some (p8)))), (2, .inl (pn h)), (0, .inr (.inr (some (770)))), (1, .inl (3))]) (st' := [.inl (0), .inr (.inr (some (770)))]) rfl ?_
    refine ez_pf hK w770 rfl rfl tq_75 rfl rfl rfl rfl (ez_vdI rfl rfl (by omega) (by omega)) (fun hB12 w13 => ?_)
    have fT : ez_fr (ez_one 770) g3 (dz_put g3 770 2 (ez_v (.inl (0)))) := (ez_fr.refl (ez_one 770) g3).put rfl _ _
    have vT : qz_I (dz_put g3 770 2 (ez_v (.inl (0)))) 770 2 = 0 := w13.trans (rz_rd ⟨by omega, by omega⟩)
    have iT : ∀ j, j ≠ 2 → qz_I (dz_put g3 770 2 (ez_v (.inl (0)))) 770 j = qz_I g3 770 j := fun j hj => ez_put_I (fun w => hj w.2)
    have hT := hB12
    generalize (dz_put g3 770 2 (ez_v (.inl (0)))) = g4 at *
    have cT1 := fT.1; have cT2 := fT.2.1
    refine ez_go (n := 2) (pc' := 64) (L' := [(4, .inl (qz_I h 770 2)), (3, .inr (.inr (some (p8)))), (2, .inl (pn h)), (0, .inr (.inr (some (770)))), (1, .inl (3))]) (st' := [.inl (3), .inr (.inr (some (770)))]) rfl ?_
    refine ez_if rfl rfl ⟨by decide, by decide⟩ (fun _ => ?_) (fun (c14 : ¬((3 : Int) ≠ (0))) => absurd c14 (by decide))
    refine ez_go (n := 2) (pc' := 74) (L' := [(4, .inl (qz_I h 770 2)), (3, .inr (.inr (some (p8)))), (2, .inl (pn h)), (0, .inr (.inr (some (770)))), (1, .inl (3))]) (st' := [.inl (1), .inl (3), .inr (.inr (some (770)))]) rfl ?_
    refine ez_icmp rfl rfl ⟨by decide, by decide⟩ ⟨by decide, by decide⟩ (fun _ => ?_) (fun (c15 : ¬((3 : Int) ≠ (1))) => absurd c15 (by decide))
    refine ez_go (n := 2) (pc' := 83) (L' := [(4, .inl (qz_I h 770 2)), (3, .inr (.inr (some (p8)))), (2, .inl (pn h)), (0, .inr (.inr (some (770)))), (1, .inl (3))]) (st' := [.inl (2), .inl (3), .inr (.inr (some (770)))]) rfl ?_
    refine ez_icmp rfl rfl ⟨by decide, by decide⟩ ⟨by decide, by decide⟩ (fun _ => ?_) (fun (c16 : ¬((3 : Int) ≠ (2))) => absurd c16 (by decide))
    refine ez_go (n := 2) (pc' := 93) (L' := [(4, .inl (qz_I h 770 2)), (3, .inr (.inr (some (p8)))), (2, .inl (pn h)), (0, .inr (.inr (some (770)))), (1, .inl (3))]) (st' := [.inl (qz_I h 770 2), .inl (2), .inr (.inr (some (770)))]) rfl ?_
    refine ez_cv hT w770 rfl rfl rfl tq_75 rfl rfl rfl (rd_fields hT w770 (by omega) (by omega) (by omega) (by omega) (by omega) (by omega) (fun hno g6 hB6 f6 => ez_Kc (xc_exc hB6 rfl) rfl ?_) (fun g6 A hB6 f6 hA hfl => ez_K0 ?_))
    · skip
      have A0 : ∀ q, τ q ≠ 0 → τ3 q = τ q ∧ (q ≠ 770 → q ≠ 789 → q ≠ 790 → g6.2.2 q = h.2.2 q) := fun q hq => by
        have qp : q ≠ p8 := fun e => by rw [e] at hq; exact hq z8
        have y1 := x8.1 q hq
        have y2 := x2 q (by rw [y1.1]; exact hq)
        refine ⟨by rw [n2 q qp, y2.1, y1.1], fun q1 q2 q3 => ?_⟩
        rw [f6.2.2 q (by unfold nz_PF; rw [dz_beq_ne q2, dz_beq_ne q3]; rfl), fT.2.2 q (dz_beq_ne q1), fK.2.2 q (dz_beq_ne qp), y2.2 qp, y1.2, fP.2.2 q (dz_beq_ne q1)]
      have P0 : ∀ q, q ≠ 770 → q ≠ 789 → q ≠ 790 → q ≠ p8 → g6.2.2 q = g2.2.2 q := fun q q1 q2 q3 q4 => by
        rw [f6.2.2 q (by unfold nz_PF; rw [dz_beq_ne q2, dz_beq_ne q3]; rfl), fT.2.2 q (dz_beq_ne q1), fK.2.2 q (dz_beq_ne q4)]
      have Pp : ∀ j, qz_I g6 p8 j = qz_I g3 p8 j := fun j => by unfold qz_I; rw [f6.2.2 p8 (by unfold nz_PF; rw [dz_beq_ne np9, dz_beq_ne np0]; rfl), fT.2.2 p8 (dz_beq_ne np7)]
      have up : ∀ k, τ (p8 + k) = 0 := fun k => ez_hi hI.1 (by omega)
      have nt : ∀ k r, τ r ≠ 0 → p8 + k ≠ r := fun k r hr e => by have := up k; rw [e] at this; exact hr this
      have t0 : ∀ r, tz_ex r ≠ 0 → τ r ≠ 0 := fun r hr => by rw [hI.2.1 r hr]; exact hr
      have cell : ∀ k, 0 < k → g6.2.2 (p8 + k) = g2.2.2 (p8 + k) := fun k hk => P0 _ (nt k 770 (t0 770 (by decide))) (nt k 789 (t0 789 (by decide))) (nt k 790 (t0 790 (by decide))) (by omega)
      have c61 := f6.1; have c62 := f6.2.1
      have aQ : aq τ h τ3 g6 p8 3 := by
        refine ⟨⟨up 0, up 1, up 2⟩, ⟨n1, by rw [n2 _ (by omega)]; exact u15, by rw [n2 _ (by omega)]; exact u16⟩, ⟨by rw [Pp]; exact vK, by rw [Pp, iK 4 (by decide), I0 4 (by decide) (by decide) (by decide) (by decide) (by decide)]; exact y8 4, by rw [Pp, iK 5 (by decide), I0 5 (by decide) (by decide) (by decide) (by decide) (by decide)]; exact y8 5⟩, fun j => ?_, fun j => ?_, A0, fun q q0 q3 => ?_, fun j j0 j2 => ?_, ?_, by omega, by omega, by omega, by rw [Pp, iK 12 (by decide), I0 12 (by decide) (by decide) (by decide) (by decide) (by decide)]; exact y8 12, by rw [f6.I rfl, iT 0 (by decide), j7]; exact vP⟩
        · unfold qz_I; rw [cell 1 (by decide)]; exact z1 j
        · unfold qz_I; rw [cell 2 (by decide)]; exact z2 j
        · by_cases e0 : q = p8
          · exact Or.inl e0
          · by_cases e1 : q = p8 + 1
            · exact Or.inr (Or.inl e1)
            · by_cases e2 : q = p8 + 2
              · exact Or.inr (Or.inr e2)
              · rw [n2 q e0, o2 q e1 e2, o8 q e0] at q3; exact absurd q0 q3
        · rw [f6.I rfl, iT j j2, j7, iP j j0]
        · rw [f6.I rfl]; exact vT
      have eb : mb g4 = mb h := funext fun k => by
        unfold mb qz_I
        have t1 : τ 771 ≠ 0 := t0 771 (by decide)
        have qp : 771 ≠ p8 := fun e => by rw [← e] at z8; exact t1 z8
        have y1 := x8.1 771 t1
        have y2 := x2 771 (by rw [y1.1]; exact t1)
        rw [fT.2.2 771 rfl, fK.2.2 771 (dz_beq_ne qp), y2.2 qp, y1.2, fP.2.2 771 rfl]
      refine ez_less [(3, .inr (.inr (some (p8)))), (2, .inl (pn h)), (0, .inr (.inr (some (770)))), (1, .inl (3))] rfl ⟨rfl, rfl, rfl, rfl, trivial⟩ ?_
      exact kT hs p8 g6 τ3 aQ (aQ.mI9 hI hB6) (by rw [← eb]; exact hno)
    · skip
      have A0 : ∀ q, τ q ≠ 0 → τ3 q = τ q ∧ (q ≠ 770 → q ≠ 789 → q ≠ 790 → g6.2.2 q = h.2.2 q) := fun q hq => by
        have qp : q ≠ p8 := fun e => by rw [e] at hq; exact hq z8
        have y1 := x8.1 q hq
        have y2 := x2 q (by rw [y1.1]; exact hq)
        refine ⟨by rw [n2 q qp, y2.1, y1.1], fun q1 q2 q3 => ?_⟩
        rw [f6.2.2 q (by unfold nz_PF; rw [dz_beq_ne q2, dz_beq_ne q3]; rfl), fT.2.2 q (dz_beq_ne q1), fK.2.2 q (dz_beq_ne qp), y2.2 qp, y1.2, fP.2.2 q (dz_beq_ne q1)]
      have P0 : ∀ q, q ≠ 770 → q ≠ 789 → q ≠ 790 → q ≠ p8 → g6.2.2 q = g2.2.2 q := fun q q1 q2 q3 q4 => by
        rw [f6.2.2 q (by unfold nz_PF; rw [dz_beq_ne q2, dz_beq_ne q3]; rfl), fT.2.2 q (dz_beq_ne q1), fK.2.2 q (dz_beq_ne q4)]
      have Pp : ∀ j, qz_I g6 p8 j = qz_I g3 p8 j := fun j => by unfold qz_I; rw [f6.2.2 p8 (by unfold nz_PF; rw [dz_beq_ne np9, dz_beq_ne np0]; rfl), fT.2.2 p8 (dz_beq_ne np7)]
      have up : ∀ k, τ (p8 + k) = 0 := fun k => ez_hi hI.1 (by omega)
      have nt : ∀ k r, τ r ≠ 0 → p8 + k ≠ r := fun k r hr e => by have := up k; rw [e] at this; exact hr this
      have t0 : ∀ r, tz_ex r ≠ 0 → τ r ≠ 0 := fun r hr => by rw [hI.2.1 r hr]; exact hr
      have cell : ∀ k, 0 < k → g6.2.2 (p8 + k) = g2.2.2 (p8 + k) := fun k hk => P0 _ (nt k 770 (t0 770 (by decide))) (nt k 789 (t0 789 (by decide))) (nt k 790 (t0 790 (by decide))) (by omega)
      have c61 := f6.1; have c62 := f6.2.1
      have aQ : aq τ h τ3 g6 p8 3 := by
        refine ⟨⟨up 0, up 1, up 2⟩, ⟨n1, by rw [n2 _ (by omega)]; exact u15, by rw [n2 _ (by omega)]; exact u16⟩, ⟨by rw [Pp]; exact vK, by rw [Pp, iK 4 (by decide), I0 4 (by decide) (by decide) (by decide) (by decide) (by decide)]; exact y8 4, by rw [Pp, iK 5 (by decide), I0 5 (by decide) (by decide) (by decide) (by decide) (by decide)]; exact y8 5⟩, fun j => ?_, fun j => ?_, A0, fun q q0 q3 => ?_, fun j j0 j2 => ?_, ?_, by omega, by omega, by omega, by rw [Pp, iK 12 (by decide), I0 12 (by decide) (by decide) (by decide) (by decide) (by decide)]; exact y8 12, by rw [f6.I rfl, iT 0 (by decide), j7]; exact vP⟩
        · unfold qz_I; rw [cell 1 (by decide)]; exact z1 j
        · unfold qz_I; rw [cell 2 (by decide)]; exact z2 j
        · by_cases e0 : q = p8
          · exact Or.inl e0
          · by_cases e1 : q = p8 + 1
            · exact Or.inr (Or.inl e1)
            · by_cases e2 : q = p8 + 2
              · exact Or.inr (Or.inr e2)
              · rw [n2 q e0, o2 q e1 e2, o8 q e0] at q3; exact absurd q0 q3
        · rw [f6.I rfl, iT j j2, j7, iP j j0]
        · rw [f6.I rfl]; exact vT
      have eb : mb g4 = mb h := funext fun k => by
        unfold mb qz_I
        have t1 : τ 771 ≠ 0 := t0 771 (by decide)
        have qp : 771 ≠ p8 := fun e => by rw [← e] at z8; exact t1 z8
        have y1 := x8.1 771 t1
        have y2 := x2 771 (by rw [y1.1]; exact t1)
        rw [fT.2.2 771 rfl, fK.2.2 771 (dz_beq_ne qp), y2.2 qp, y1.2, fP.2.2 771 rfl]
      refine ez_less [(3, .inr (.inr (some (p8)))), (2, .inl (pn h)), (0, .inr (.inr (some (770)))), (1, .inl (3))] rfl ⟨rfl, rfl, rfl, rfl, trivial⟩ ?_
      exact kx hs p8 g6 τ3 A aQ (aQ.mI9 hI hB6) (by rw [← eb]; exact hA) (by rw [← eb]; exact hfl)
  · skip
    refine ez_go (n := 2) (pc' := 29) (L' := [(0, .inr (.inr (some (770)))), (1, .inl (3))]) (st' := [.inl (2), .inr (.inr (some (770)))]) rfl ?_
    refine ez_cv hP t770 rfl rfl rfl tq_75 rfl rfl rfl (rd_mfail hP t770 (by omega) (by omega) (fun gf hBf ff jf vf0 => ez_K1 ?_))
    exact ez_retI rfl rfl (kS (by rw [← iP 7 (by decide)]; assumption) gf (hI.f7 hBf (fun q _ hq => by rw [ff.2.2 q (dz_beq_ne hq), fP.2.2 q (dz_beq_ne hq)]) (fun j j1 j2 => by rw [jf j (by omega), iP j (by omega)])) (fP.trans ff) (fun j hj => by rw [jf j hj, iP j hj]) vf0)
theorem rd_mlA49 (hI : mI9 τ h Ls 0) (hr1 : h.1 + 10 ≤ 600192) (hr2 : h.2.1 + 40 ≤ 7302232) (kS : qz_I h 770 7 ≠ 0 → ∀ g, mI9 τ g Ls 0 → ez_fr (ez_one 770) h g → (∀ j, j ≠ 0 → qz_I g 770 j = qz_I h 770 j) → qz_I g 770 0 = 2 → Q (.inl (some (ez_v (.inl 0))), g)) (kx : qz_I h 770 7 = 0 → ∀ l g τ1 A, aq τ h τ1 g l 4 → mI9 τ1 g Ls 0 → rz_A (mb h) (qz_I h 770 2) (2 : Int).toNat A → (∀ k, 0 ≤ k → k < 2 → mf g k = rz_ff (mb h) A k ∧ mt g k = rz_tt (mb h) A k) → ez_W (d + 8) cm_276 96 [(3, .inr (.inr (some (l)))), (2, .inl (pn h)), (0, .inr (.inr (some (770)))), (1, .inl (4))] [] g Q) (kT : qz_I h 770 7 = 0 → ∀ l g τ1, aq τ h τ1 g l 4 → mI9 τ1 g Ls 0 → (¬ ∃ A, rz_A (mb h) (qz_I h 770 2) (2 : Int).toNat A) → ez_W (d + 8) cm_276 155 [(3, .inr (.inr (some (l)))), (2, .inl (pn h)), (0, .inr (.inr (some (770)))), (1, .inl (4))] [.inr (.inr (some g.1))] (xc g 1) Q) : ez_W (d + 8) cm_276 0 [(0, .inr (.inr (some (770)))), (1, .inl (4))] [] h Q := by
  have hB := hI.1
  have t770 : τ 770 = 75 := hI.2.1 770 (by decide)
  have b2 : 0 ≤ qz_I h 770 2 ∧ qz_I h 770 2 ≤ 4096 := ez_fB (cl := 11) (k := 2) hB t770 tq_75 rfl rfl (by decide)
  refine ez_go (n := 2) (pc' := 2) (L' := [(0, .inr (.inr (some (770)))), (1, .inl (4))]) (st' := [.inl (0), .inr (.inr (some (770)))]) rfl ?_
  refine ez_pf hB t770 rfl rfl tq_75 rfl rfl rfl rfl (ez_vdI rfl rfl (by omega) (by omega)) (fun hB1 w2 => ?_)
  have fP : ez_fr (ez_one 770) h (dz_put h 770 0 (ez_v (.inl (0)))) := (ez_fr.refl (ez_one 770) h).put rfl _ _
  have vP : qz_I (dz_put h 770 0 (ez_v (.inl (0)))) 770 0 = 0 := w2.trans (rz_rd ⟨by omega, by omega⟩)
  have iP : ∀ j, j ≠ 0 → qz_I (dz_put h 770 0 (ez_v (.inl (0)))) 770 j = qz_I h 770 j := fun j hj => ez_put_I (fun w => hj w.2)
  have hP := hB1
  generalize (dz_put h 770 0 (ez_v (.inl (0)))) = h1 at *
  have cP1 := fP.1; have cP2 := fP.2.1
  refine ez_go (n := 1) (pc' := 6) (L' := [(0, .inr (.inr (some (770)))), (1, .inl (4))]) (st' := [.inl (4)]) rfl ?_
  refine ez_if rfl rfl ⟨by decide, by decide⟩ (fun (c3 : (4 : Int) < (0)) => absurd c3 (by decide)) (fun _ => ?_)
  refine ez_go (n := 2) (pc' := 11) (L' := [(0, .inr (.inr (some (770)))), (1, .inl (4))]) (st' := [.inl (4), .inl (4)]) rfl ?_
  refine ez_icmp rfl rfl ⟨by decide, by decide⟩ ⟨by decide, by decide⟩ (fun _ => ?_) (fun (c4 : ¬((4 : Int) ≤ (4))) => absurd c4 (by decide))
  refine ez_go (n := 1) (pc' := 21) (L' := [(0, .inr (.inr (some (770)))), (1, .inl (4))]) (st' := [.inr (.inr (some (770)))]) rfl ?_
  refine ez_gI hP t770 rfl rfl tq_75 rfl rfl (fun (b5 : 0 ≤ qz_I h1 770 7) (b5' : qz_I h1 770 7 ≤ 1) => ?_)
  refine ez_if rfl rfl ⟨by first | omega | exact (sz_i32 _).1, by first | omega | exact (sz_i32 _).2⟩ (fun (c6 : (qz_I h1 770 7) = (0)) => ?_) (fun (c6 : ¬((qz_I h1 770 7) = (0))) => ?_)
  · skip
    have hs : qz_I h 770 7 = 0 := by rw [← iP 7 (by decide)]; assumption
    refine ez_go (n := 1) (pc' := 34) (L' := [(0, .inr (.inr (some (770)))), (1, .inl (4))]) (st' := [.inr (.inr (some (770)))]) rfl ?_
    refine ez_gI hP t770 rfl rfl tq_75 rfl rfl (fun (b7 : 0 ≤ qz_I h1 770 10) (b7' : qz_I h1 770 10 ≤ 38500) => ?_)
    rw [show qz_I h1 770 10 = pn h from iP 10 (by decide)]
    refine ez_go (n := 1) (pc' := 38) (L' := [(2, .inl (pn h)), (0, .inr (.inr (some (770)))), (1, .inl (4))]) (st' := []) rfl ?_
    refine ez_nw' (t := 14) hP rfl rfl rfl tq_14 rfl rfl (by omega) (by show h1.2.1 + 13 ≤ 7302232; omega) (fun g8 τ8 p8 hB8 x8 o8 t8 z8 e8 y8 => ?_)
    have x8 : ez_xt τ h1 τ8 g8 1 13 := x8
    have c8 := x8.2
    have t770n8 := (x8.1 _ (by rw [t770]; decide)).1.trans t770
    refine ez_go (n := 1) (pc' := 42) (L' := [(2, .inl (pn h)), (0, .inr (.inr (some (770)))), (1, .inl (4))]) (st' := [.inr (.inr (some (p8))), .inr (.inr (some (p8)))]) rfl ?_
    have lp := dz_here_lt (hB8.1 p8 (by rw [t8]; decide)).1
    refine ez_ci hB8.2.1 rfl rfl rfl rfl rfl rfl (rd_lineI (r := p8) hB8 t8 (by omega) (by omega) (by omega) (fun g2 τ2 hB2 x2 o2 u15 u16 g21 g22 g23 v7 v8 I0 z1 z2 => ez_K0 ?_))
    have hB3 := ez_rtLine hB2 ((x2 p8 (by rw [t8]; decide)).1.trans t8) v7 v8
    have n1 : dz_tn τ2 p8 13 p8 = 13 := ez_tn_eq
    have n2 : ∀ q, q ≠ p8 → dz_tn τ2 p8 13 q = τ2 q := fun q hq => ez_tn_ne hq
    generalize dz_tn τ2 p8 13 = τ3 at *
    have np7 : p8 ≠ 770 := fun e => by rw [e, t770] at z8; cases z8
    have np9 : p8 ≠ 789 := fun e => by rw [e, hI.2.1 789 (by decide)] at z8; cases z8
    have np0 : p8 ≠ 790 := fun e => by rw [e, hI.2.1 790 (by decide)] at z8; cases z8
    have w770 : τ3 770 = 75 := by rw [n2 770 (Ne.symm np7), (x2 770 (by rw [(x8.1 770 (by rw [t770]; decide)).1, t770]; decide)).1, (x8.1 770 (by rw [t770]; decide)).1, t770]
    refine ez_go (n := 3) (pc' := 48) (L' := [(3, .inr (.inr (some (p8)))), (2, .inl (pn h)), (0, .inr (.inr (some (770)))), (1, .inl (4))]) (st' := [.inl (4), .inr (.inr (some (p8)))]) rfl ?_
    refine ez_pf hB3 n1 rfl rfl tq_13 rfl rfl rfl rfl (ez_vdI rfl rfl (by omega) (by omega)) (fun hB9 w10 => ?_)
    have fK : ez_fr (ez_one p8) g2 (dz_put g2 p8 0 (ez_v (.inl (4)))) := (ez_fr.refl (ez_one p8) g2).put (show Nat.beq _ _ = true from Nat.beq_refl _) _ _
    have vK : qz_I (dz_put g2 p8 0 (ez_v (.inl (4)))) p8 0 = 4 := w10.trans (rz_rd ⟨by omega, by omega⟩)
    have iK : ∀ j, j ≠ 0 → qz_I (dz_put g2 p8 0 (ez_v (.inl (4)))) p8 j = qz_I g2 p8 j := fun j hj => ez_put_I (fun w => hj w.2)
    have hK := hB9
    generalize (dz_put g2 p8 0 (ez_v (.inl (4)))) = g3 at *
    have cK1 := fK.1; have cK2 := fK.2.1
    have j7 : ∀ j, qz_I g3 770 j = qz_I h1 770 j := fun j => by unfold qz_I; rw [fK.2.2 770 (dz_beq_ne (Ne.symm np7)), (x2 770 (by rw [(x8.1 770 (by rw [t770]; decide)).1, t770]; decide)).2 (Ne.symm np7), (x8.1 770 (by rw [t770]; decide)).2]
    refine ez_go (n := 1) (pc' := 52) (L' := [(3, .inr (.inr (some (p8)))), (2, .inl (pn h)), (0, .inr (.inr (some (770)))), (1, .inl (4))]) (st' := [.inr (.inr (some (770)))]) rfl ?_
    refine ez_gI hK w770 rfl rfl tq_75 rfl rfl (fun (b11 : 0 ≤ qz_I g3 770 2) (b11' : qz_I g3 770 2 ≤ 4096) => ?_)
    rw [show qz_I g3 770 2 = qz_I h 770 2 from (j7 2).trans (iP 2 (by decide))]
    refine ez_go (n := 3) (pc' := 59) (L' := [(4, .inl (qz_I h 770 2)), (3, .inr (.inr (some (p8)))), (2, .inl (pn h)), (0, .inr (.inr (some (770)))), (1, .inl (4))]) (st' := [.inl (0), .inr (.inr (some (770)))]) rfl ?_
    refine ez_pf hK w770 rfl rfl tq_75 rfl rfl rfl rfl (ez_vdI rfl rfl (by omega) (by omega)) (fun hB12 w13 => ?_)
    have fT : ez_fr (ez_one 770) g3 (dz_put g3 770 2 (ez_v (.inl (0)))) := (ez_fr.refl (ez_one 770) g3).put rfl _ _
    have vT : qz_I (dz_put g3 770 2 (ez_v (.inl (0)))) 770 2 = 0 := w13.trans (rz_rd ⟨by omega, by omega⟩)
    have iT : ∀ j, j ≠ 2 → qz_I (dz_put g3 770 2 (ez_v (.inl (0)))) 770 j = qz_I g3 770 j := fun j hj => ez_put_I (fun w => hj w.2)
    have hT := hB12
    generalize (dz_put g3 770 2 (ez_v (.inl (0)))) = g4 at *
    have cT1 := fT.1; have cT2 := fT.2.1
    refine ez_go (n := 2) (pc' := 64) (L' := [(4, .inl (qz_I h 770 2)), (3, .inr (.inr (some (p8)))), (2, .inl (pn h)), (0, .inr (.inr (some (770)))), (1, .inl (4))]) (st' := [.inl (4), .inr (.inr (some (770)))]) rfl ?_
    refine ez_if rfl rfl ⟨by decide, by decide⟩ (fun _ => ?_) (fun (c14 : ¬((4 : Int) ≠ (0))) => absurd c14 (by decide))
    refine ez_go (n := 2) (pc' := 74) (L' := [(4, .inl (qz_I h 770 2)), (3, .inr (.inr (some (p8)))), (2, .inl (pn h)), (0, .inr (.inr (some (770)))), (1, .inl (4))]) (st' := [.inl (1), .inl (4), .inr (.inr (some (770)))]) rfl ?_
    refine ez_icmp rfl rfl ⟨by decide, by decide⟩ ⟨by decide, by decide⟩ (fun _ => ?_) (fun (c15 : ¬((4 : Int) ≠ (1))) => absurd c15 (by decide))
    refine ez_go (n := 2) (pc' := 83) (L' := [(4, .inl (qz_I h 770 2)), (3, .inr (.inr (some (p8)))), (2, .inl (pn h)), (0, .inr (.inr (some (770)))), (1, .inl (4))]) (st' := [.inl (2), .inl (4), .inr (.inr (some (770)))]) rfl ?_
    refine ez_icmp rfl rfl ⟨by decide, by decide⟩ ⟨by decide, by decide⟩ (fun _ => ?_) (fun (c16 : ¬((4 : Int) ≠ (2))) => absurd c16 (by decide))
    refine ez_go (n := 2) (pc' := 93) (L' := [(4, .inl (qz_I h 770 2)), (3, .inr (.inr (some (p8)))), (2, .inl (pn h)), (0, .inr (.inr (some (770)))), (1, .inl (4))]) (st' := [.inl (qz_I h 770 2), .inl (2), .inr (.inr (some (770)))]) rfl ?_
    refine ez_cv hT w770 rfl rfl rfl tq_75 rfl rfl rfl (rd_fields hT w770 (by omega) (by omega) (by omega) (by omega) (by omega) (by omega) (fun hno g6 hB6 f6 => ez_Kc (xc_exc hB6 rfl) rfl ?_) (fun g6 A hB6 f6 hA hfl => ez_K0 ?_))
    · skip
      have A0 : ∀ q, τ q ≠ 0 → τ3 q = τ q ∧ (q ≠ 770 → q ≠ 789 → q ≠ 790 → g6.2.2 q = h.2.2 q) := fun q hq => by
        have qp : q ≠ p8 := fun e => by rw [e] at hq; exact hq z8
        have y1 := x8.1 q hq
        have y2 := x2 q (by rw [y1.1]; exact hq)
        refine ⟨by rw [n2 q qp, y2.1, y1.1], fun q1 q2 q3 => ?_⟩
        rw [f6.2.2 q (by unfold nz_PF; rw [dz_beq_ne q2, dz_beq_ne q3]; rfl), fT.2.2 q (dz_beq_ne q1), fK.2.2 q (dz_beq_ne qp), y2.2 qp, y1.2, fP.2.2 q (dz_beq_ne q1)]
      have P0 : ∀ q, q ≠ 770 → q ≠ 789 → q ≠ 790 → q ≠ p8 → g6.2.2 q = g2.2.2 q := fun q q1 q2 q3 q4 => by
        rw [f6.2.2 q (by unfold nz_PF; rw [dz_beq_ne q2, dz_beq_ne q3]; rfl), fT.2.2 q (dz_beq_ne q1), fK.2.2 q (dz_beq_ne q4)]
      have Pp : ∀ j, qz_I g6 p8 j = qz_I g3 p8 j := fun j => by unfold qz_I; rw [f6.2.2 p8 (by unfold nz_PF; rw [dz_beq_ne np9, dz_beq_ne np0]; rfl), fT.2.2 p8 (dz_beq_ne np7)]
      have up : ∀ k, τ (p8 + k) = 0 := fun k => ez_hi hI.1 (by omega)
      have nt : ∀ k r, τ r ≠ 0 → p8 + k ≠ r := fun k r hr e => by have := up k; rw [e] at this; exact hr this
      have t0 : ∀ r, tz_ex r ≠ 0 → τ r ≠ 0 := fun r hr => by rw [hI.2.1 r hr]; exact hr
      have cell : ∀ k, 0 < k → g6.2.2 (p8 + k) = g2.2.2 (p8 + k) := fun k hk => P0 _ (nt k 770 (t0 770 (by decide))) (nt k 789 (t0 789 (by decide))) (nt k 790 (t0 790 (by decide))) (by omega)
      have c61 := f6.1; have c62 := f6.2.1
      have aQ : aq τ h τ3 g6 p8 4 := by
        refine ⟨⟨up 0, up 1, up 2⟩, ⟨n1, by rw [n2 _ (by omega)]; exact u15, by rw [n2 _ (by omega)]; exact u16⟩, ⟨by rw [Pp]; exact vK, by rw [Pp, iK 4 (by decide), I0 4 (by decide) (by decide) (by decide) (by decide) (by decide)]; exact y8 4, by rw [Pp, iK 5 (by decide), I0 5 (by decide) (by decide) (by decide) (by decide) (by decide)]; exact y8 5⟩, fun j => ?_, fun j => ?_, A0, fun q q0 q3 => ?_, fun j j0 j2 => ?_, ?_, by omega, by omega, by omega, by rw [Pp, iK 12 (by decide), I0 12 (by decide) (by decide) (by decide) (by decide) (by decide)]; exact y8 12, by rw [f6.I rfl, iT 0 (by decide), j7]; exact vP⟩
        · unfold qz_I; rw [cell 1 (by decide)]; exact z1 j
        · unfold qz_I; rw [cell 2 (by decide)]; exact z2 j
        · by_cases e0 : q = p8
          · exact Or.inl e0
          · by_cases e1 : q = p8 + 1
            · exact Or.inr (Or.inl e1)
            · by_cases e2 : q = p8 + 2
              · exact Or.inr (Or.inr e2)
              · rw [n2 q e0, o2 q e1 e2, o8 q e0] at q3; exact absurd q0 q3
        · rw [f6.I rfl, iT j j2, j7, iP j j0]
        · rw [f6.I rfl]; exact vT
      have eb : mb g4 = mb h := funext fun k => by
        unfold mb qz_I
        have t1 : τ 771 ≠ 0 := t0 771 (by decide)
        have qp : 771 ≠ p8 := fun e => by rw [← e] at z8; exact t1 z8
        have y1 := x8.1 771 t1
        have y2 := x2 771 (by rw [y1.1]; exact t1)
        rw [fT.2.2 771 rfl, fK.2.2 771 (dz_beq_ne qp), y2.2 qp, y1.2, fP.2.2 771 rfl]
      refine ez_less [(3, .inr (.inr (some (p8)))), (2, .inl (pn h)), (0, .inr (.inr (some (770)))), (1, .inl (4))] rfl ⟨rfl, rfl, rfl, rfl, trivial⟩ ?_
      exact kT hs p8 g6 τ3 aQ (aQ.mI9 hI hB6) (by rw [← eb]; exact hno)
    · skip
      have A0 : ∀ q, τ q ≠ 0 → τ3 q = τ q ∧ (q ≠ 770 → q ≠ 789 → q ≠ 790 → g6.2.2 q = h.2.2 q) := fun q hq => by
        have qp : q ≠ p8 := fun e => by rw [e] at hq; exact hq z8
        have y1 := x8.1 q hq
        have y2 := x2 q (by rw [y1.1]; exact hq)
        refine ⟨by rw [n2 q qp, y2.1, y1.1], fun q1 q2 q3 => ?_⟩
        rw [f6.2.2 q (by unfold nz_PF; rw [dz_beq_ne q2, dz_beq_ne q3]; rfl), fT.2.2 q (dz_beq_ne q1), fK.2.2 q (dz_beq_ne qp), y2.2 qp, y1.2, fP.2.2 q (dz_beq_ne q1)]
      have P0 : ∀ q, q ≠ 770 → q ≠ 789 → q ≠ 790 → q ≠ p8 → g6.2.2 q = g2.2.2 q := fun q q1 q2 q3 q4 => by
        rw [f6.2.2 q (by unfold nz_PF; rw [dz_beq_ne q2, dz_beq_ne q3]; rfl), fT.2.2 q (dz_beq_ne q1), fK.2.2 q (dz_beq_ne q4)]
      have Pp : ∀ j, qz_I g6 p8 j = qz_I g3 p8 j := fun j => by unfold qz_I; rw [f6.2.2 p8 (by unfold nz_PF; rw [dz_beq_ne np9, dz_beq_ne np0]; rfl), fT.2.2 p8 (dz_beq_ne np7)]
      have up : ∀ k, τ (p8 + k) = 0 := fun k => ez_hi hI.1 (by omega)
      have nt : ∀ k r, τ r ≠ 0 → p8 + k ≠ r := fun k r hr e => by have := up k; rw [e] at this; exact hr this
      have t0 : ∀ r, tz_ex r ≠ 0 → τ r ≠ 0 := fun r hr => by rw [hI.2.1 r hr]; exact hr
      have cell : ∀ k, 0 < k → g6.2.2 (p8 + k) = g2.2.2 (p8 + k) := fun k hk => P0 _ (nt k 770 (t0 770 (by decide))) (nt k 789 (t0 789 (by decide))) (nt k 790 (t0 790 (by decide))) (by omega)
      have c61 := f6.1; have c62 := f6.2.1
      have aQ : aq τ h τ3 g6 p8 4 := by
        refine ⟨⟨up 0, up 1, up 2⟩, ⟨n1, by rw [n2 _ (by omega)]; exact u15, by rw [n2 _ (by omega)]; exact u16⟩, ⟨by rw [Pp]; exact vK, by rw [Pp, iK 4 (by decide), I0 4 (by decide) (by decide) (by decide) (by decide) (by decide)]; exact y8 4, by rw [Pp, iK 5 (by decide), I0 5 (by decide) (by decide) (by decide) (by decide) (by decide)]; exact y8 5⟩, fun j => ?_, fun j => ?_, A0, fun q q0 q3 => ?_, fun j j0 j2 => ?_, ?_, by omega, by omega, by omega, by rw [Pp, iK 12 (by decide), I0 12 (by decide) (by decide) (by decide) (by decide) (by decide)]; exact y8 12, by rw [f6.I rfl, iT 0 (by decide), j7]; exact vP⟩
        · unfold qz_I; rw [cell 1 (by decide)]; exact z1 j
        · unfold qz_I; rw [cell 2 (by decide)]; exact z2 j
        · by_cases e0 : q = p8
          · exact Or.inl e0
          · by_cases e1 : q = p8 + 1
            · exact Or.inr (Or.inl e1)
            · by_cases e2 : q = p8 + 2
              · exact Or.inr (Or.inr e2)
              · rw [n2 q e0, o2 q e1 e2, o8 q e0] at q3; exact absurd q0 q3
        · rw [f6.I rfl, iT j j2, j7, iP j j0]
        · rw [f6.I rfl]; exact vT
      have eb : mb g4 = mb h := funext fun k => by
        unfold mb qz_I
        have t1 : τ 771 ≠ 0 := t0 771 (by decide)
        have qp : 771 ≠ p8 := fun e => by rw [← e] at z8; exact t1 z8
        have y1 := x8.1 771 t1
        have y2 := x2 771 (by rw [y1.1]; exact t1)
        rw [fT.2.2 771 rfl, fK.2.2 771 (dz_beq_ne qp), y2.2 qp, y1.2, fP.2.2 771 rfl]
      refine ez_less [(3, .inr (.inr (some (p8)))), (2, .inl (pn h)), (0, .inr (.inr (some (770)))), (1, .inl (4))] rfl ⟨rfl, rfl, rfl, rfl, trivial⟩ ?_
      exact kx hs p8 g6 τ3 A aQ (aQ.mI9 hI hB6) (by rw [← eb]; exact hA) (by rw [← eb]; exact hfl)
  · skip
    refine ez_go (n := 2) (pc' := 29) (L' := [(0, .inr (.inr (some (770)))), (1, .inl (4))]) (st' := [.inl (2), .inr (.inr (some (770)))]) rfl ?_
    refine ez_cv hP t770 rfl rfl rfl tq_75 rfl rfl rfl (rd_mfail hP t770 (by omega) (by omega) (fun gf hBf ff jf vf0 => ez_K1 ?_))
    exact ez_retI rfl rfl (kS (by rw [← iP 7 (by decide)]; assumption) gf (hI.f7 hBf (fun q _ hq => by rw [ff.2.2 q (dz_beq_ne hq), fP.2.2 q (dz_beq_ne hq)]) (fun j j1 j2 => by rw [jf j (by omega), iP j (by omega)])) (fP.trans ff) (fun j hj => by rw [jf j hj, iP j hj]) vf0)
end EzMa
section EzMe
variable {d : Nat} {h : cz_H} {τ : Nat → Nat} {Q : cz_F → Prop} {l : Nat} {kd n : Int}
end EzMe
theorem vD_mk9 {k f t r : Int} {dec : Option (Int × List Int)} {y : vy} (h : ∀ q, dec = some q → 0 ≤ q.1) : vD9 (k, f, t, r, dT dec, dA dec, y) = dec := by
  unfold vD9
  cases dec with
  | none => rfl
  | some q =>
    have := h q rfl
    show (if q.1 + 1 = 0 then none else some (q.1 + 1 - 1, q.2)) = some q
    rw [if_neg (by omega), Int.add_sub_cancel]
theorem nl_lq9 {τ τ1 : Nat → Nat} {h g : cz_H} {Ls : List vz9} {l : Nat} {A : List Int} {b e : Int} (hI : mI9 τ h Ls b) (hl : τ l = 13 ∧ τ (l + 1) = 15 ∧ τ (l + 2) = 16) (q : lq (lX l (l + 1) (l + 2)) τ h τ1 g A e) (hn : ∀ i : Nat, (i : Int) < lc h → qz_P h (ls h) i ≠ l) : ∀ i : Nat, (i : Int) < lc g → qz_P g (ls g) i ≠ l := by
  have t770 := hI.2.1 770 (by decide)
  have tt := ez_tls hI.1 t770
  have el : ls g = ls h := by unfold ls qz_P; rw [q.2.2.2.1 11 (by decide) (by decide) (by decide) (by decide)]
  have ec : lc g = lc h := q.2.2.2.1 12 (by decide) (by decide) (by decide) (by decide)
  have c1 : g.2.2 (ls h) = h.2.2 (ls h) := (q.1 _ (by rw [tt.1]; decide)).2 (fun e => by have t := tt.1; rw [e, t770] at t; cases t) (fun e => by have t := tt.1; rw [e, tt.2] at t; cases t) (lX_tag hl tt.1 rfl) (by rw [tt.1]; decide) (by rw [tt.1]; decide)
  intro i hi
  rw [ec] at hi
  have := hn i hi
  rw [el]; unfold qz_P qz_I at this ⊢; rw [c1]; exact this
theorem nl_aq9 {τ τ1 : Nat → Nat} {h g : cz_H} {Ls : List vz9} {l : Nat} {kd b : Int} (hI : mI9 τ h Ls b) (a : aq τ h τ1 g l kd) : ∀ i : Nat, (i : Int) < lc g → qz_P g (ls g) i ≠ l := by
  have tt := ez_tls hI.1 (hI.2.1 770 (by decide))
  have c1 := a.c hI.2.1 tt.1 rfl
  have a8 := a.2.2.2.2.2.2.2.1
  have el : ls g = ls h := by unfold ls qz_P; rw [a8 11 (by decide) (by decide)]
  have ec : lc g = lc h := a8 12 (by decide) (by decide)
  intro i hi e
  rw [ec] at hi
  have t := (hI.L hi).1
  have e2 : qz_P g (ls g) i = qz_P h (ls h) i := by rw [el]; unfold qz_P qz_I; rw [c1]
  rw [← e2, e, a.1.1] at t
  cases t
theorem vf_no9 {F : rz_W} {x : vz9} (h : x.1 ≠ 0) : vf9 F x = F := funext fun y => by unfold vf9; rw [if_neg (fun w => h w.1)]
theorem ve_no9 {E : Int → Prop} {x : vz9} (h : x.1 ≠ 3 ∨ x.2.2.2.2.1 ≠ 0) : ve9 E x = E := funext fun y => propext ⟨fun w => by
  rcases w with w | w
  · exact w
  · rcases h with h | h
    · exact absurd w.1 h
    · exact absurd w.2.1 h, Or.inl⟩
theorem rz_PV_bd {b : Int → Int} {s t gr nm : Int} (h : rz_PV b s t gr nm) (h2 : rz_PK b s t) : (0 ≤ gr ∧ gr ≤ 2) ∧ 0 ≤ nm ∧ (gr = 2 → nm < 6) := by
  rcases h with ⟨a, e1, e2⟩ | ⟨a, c, e1, e2⟩ | ⟨a, c, e1, e2⟩
  · have q := (nz_ix_bd (nz_w b (s + 4) (t - (s + 4)).toNat) nzN_4).1
    rcases h2 with ⟨-, w⟩ | ⟨w, -⟩ | ⟨w, -⟩
    · exact ⟨by omega, by omega, fun w => by omega⟩
    · exact absurd a w
    · exact absurd a w
  · have q := (nz_ix_bd (nz_w b (s + 3) (t - (s + 3)).toNat) nzN_6).1
    rcases h2 with ⟨w, -⟩ | ⟨-, -, w⟩ | ⟨-, w, -⟩
    · exact absurd w a
    · exact ⟨by omega, by omega, fun w => by omega⟩
    · exact absurd c w
  · have q := nz_ix_bd (nz_w b s (t - s).toNat) nzN_2
    have q2 : nz_ix nzN_2 (nz_w b s (t - s).toNat) < 6 := q.2
    rcases h2 with ⟨w, -⟩ | ⟨-, w, -⟩ | ⟨-, -, w⟩
    · exact absurd w a
    · exact absurd w c
    · exact ⟨by omega, by have := q.1; omega, fun _ => by omega⟩
section EzMz
variable {d : Nat} {h : cz_H} {τ : Nat → Nat} {Q : cz_F → Prop} {Ls : List vz9}
theorem rd_mline09 (hI : mI9 τ h Ls 0) (hlc : qz_I h 770 2 = 0 ∨ lc h ≤ 255) (hr1 : h.1 + 25000 ≤ 600192) (hr2 : h.2.1 + 900000 ≤ 7302232) (kS : qz_I h 770 7 ≠ 0 → ∀ g, mI9 τ g Ls 0 → ez_fr (ez_one 770) h g → (∀ j, j ≠ 0 → qz_I g 770 j = qz_I h 770 j) → qz_I g 770 0 = 2 → Q (.inl (some (ez_v (.inl 0))), g)) (kC : qz_I h 770 7 = 0 → ∀ g τ1 Ls2 v, mI9 τ1 g Ls2 0 → fw τ h τ1 g (45 * qz_I h 770 2 + 100) → rz_step (mb h) (qz_I h 770 2) 0 (vF9 Ls) (vE9 Ls) (vF9 Ls2) (vE9 Ls2) → (lc g = lc h ∨ (lc g = lc h + 1 ∧ 0 < qz_I h 770 2)) → ((qz_I g 770 0 = 0 ∧ v ≠ -1 ∧ rz_an (mb h) (qz_I h 770 2) 7 (rz_g0 (mb h)) v ∧ ∃ x : vz9, Ls2 = Ls ++ [x] ∧ lyE (mb h) (qz_I h 770 2) 0 x.2.2.2.2.2.2) ∨ (qz_I g 770 0 = 3 ∧ rz_an (mb h) (qz_I h 770 2) 7 (rz_g0 (mb h)) (-1) ∧ Ls2 = Ls)) → Q (.inl (some (ez_v (.inl v))), g)) : ez_W (d + 10) cm_276 0 [(0, .inr (.inr (some (770)))), (1, .inl (0))] [] h Q := by
  have b2 : 0 ≤ qz_I h 770 2 ∧ qz_I h 770 2 ≤ 4096 := ez_fB (cl := 11) (k := 2) hI.1 (hI.2.1 770 (by decide)) tq_75 rfl rfl (by decide)
  refine rd_mlA09 (d := d + 2) hI (by omega) (by omega) kS (fun hs l g τ1 A a I1 hA hfl => ?_) (fun hs l g τ1 a I1 hno => ?_)
  · skip
    have t7 : τ1 770 = 75 := I1.2.1 770 (by decide)
    have hl3 := a.2.1
    have l78 := ez_l78 I1.1 hl3.1
    have hlz : lz l := ⟨fun e => (by have t := hl3.1; rw [e, t7] at t; cases t), fun e => (by have t := hl3.1; rw [e, I1.2.1 771 (by decide)] at t; cases t), fun e => (by have t := hl3.1; rw [e, I1.2.1 789 (by decide)] at t; cases t), fun e => (by have t := hl3.1; rw [e, I1.2.1 790 (by decide)] at t; cases t)⟩
    have tt := ez_tls I1.1 t7
    have usp : τ1 (qz_P g l 7) = 15 := by rw [l78.1]; exact hl3.2.1
    have ucp : τ1 (qz_P g l 8) = 16 := by rw [l78.2]; exact hl3.2.2
    have eb : mb g = mb h := funext fun k => by unfold mb qz_I; rw [a.c hI.2.1 (hI.2.1 771 (by decide)) rfl]
    have a8 := a.2.2.2.2.2.2.2.1
    have en : pn g = pn h := a8 10 (by decide) (by decide)
    have ec : lc g = lc h := a8 12 (by decide) (by decide)
    have hbn : 0 < qz_I h 770 2 := rz_A_pos (by decide) hA
    have hlc2 : lc h ≤ 255 := by omega
    have b10 : 0 ≤ pn g ∧ pn g ≤ 38500 := ez_fB (cl := 11) (k := 10) I1.1 t7 tq_75 rfl rfl (by decide)
    have nN : 1024 ≤ qz_N g (po g) ∧ qz_N g (po g) ≤ 77100 := ez_len I1.1 tt.2 tq_17 rfl
    have np := I1.2.2.1.2.2
    have FF : ∀ k, 0 ≤ k → k < 7 → (0 ≤ mf g k ∧ mf g k ≤ mt g k) ∧ mt g k ≤ qz_I h 770 2 ∧ (mf g k < mt g k → ¬ bk (mb g (mf g k)) ∧ ¬ bk (mb g (mt g k - 1))) ∧ (∀ j, mf g k ≤ j → j < mt g k → 0 ≤ mb g j ∧ mb g j ≤ 127) := fun k k0 k1 => by rw [(hfl k k0 k1).1, (hfl k k0 k1).2, eb]; exact rz_A_fl hA b2.2 k0 (by show k < ((7 : Nat) : Int); omega)
    have hF : ∀ k, 0 ≤ k → k < 7 → (0 ≤ mf g k ∧ mf g k ≤ mt g k) ∧ mt g k ≤ 4096 := fun k k0 k1 => ⟨(FF k k0 k1).1, by have := (FF k k0 k1).2.1; omega⟩
    have hTr : ∀ k, 0 ≤ k → k < 7 → mf g k < mt g k → ¬ bk (mb g (mf g k)) ∧ ¬ bk (mb g (mt g k - 1)) := fun k k0 k1 => (FF k k0 k1).2.2.1
    have hnl := nl_aq9 hI a
    have hlg0 : l2 (l + 1) (l + 2) g := ⟨fun j => by rw [a.2.2.2.1, a.2.2.2.2.1]; omega, by rw [a.2.2.2.1, a.2.2.2.2.1]; omega⟩
    have hl2 : l2 (qz_P g l 7) (qz_P g l 8) g := by rw [l78.1, l78.2]; exact hlg0
    have hc0 : ∀ j, qz_I g (qz_P g l 8) j = 0 := fun j => by rw [l78.2]; exact a.2.2.2.2.1 j
    have cr := a.2.2.2.2.2.2.2.2.2
    refine ez_go (n := 1) (pc' := 97) (L' := [(3, .inr (.inr (some (l)))), (2, .inl (pn h)), (0, .inr (.inr (some (770)))), (1, .inl (0))]) (st' := [.inl (0)]) rfl ?_
    refine ez_if rfl rfl ⟨by decide, by decide⟩ (fun (c1 : (0 : Int) ≠ (0)) => absurd c1 (by decide)) (fun _ => ?_)
    refine ez_go (n := 2) (pc' := 102) (L' := [(3, .inr (.inr (some (l)))), (2, .inl (pn h)), (0, .inr (.inr (some (770)))), (1, .inl (0))]) (st' := [.inr (.inr (some (l))), .inr (.inr (some (770)))]) rfl ?_
    refine ez_cv I1.1 t7 rfl rfl rfl tq_75 rfl rfl rfl (rd_points9 (d := d) I1.1 t7 hl3.1 hlz usp ucp tt.2 b10.1 I1.2.2.1.1.2 (by omega) nN.1 (by omega) (by omega) hl2 (hc0 0) (hTr 3 (by omega) (by omega)) hF a.2.2.1.2.1 a.2.2.1.2.2 (fun first last cls dec hF2 g2 τ2 hB2 hp y1 y2 y4 y5 ys yc yu yo => ez_K0 ?_) (fun hno g2 τ2 A2 hB2 hp => ez_Kc (xc_exc hB2 rfl) rfl ?_))
    · skip
      rw [l78.1, l78.2] at hp; rw [l78.1] at ys; rw [l78.2] at yc
      have q2 := hp.1.lq
      have lg2 := hp.2.1
      have h42 : qz_I g2 l 0 = 4 → qz_I g2 (l + 1) 1 + 4 * qz_I g2 (l + 2) 1 ≤ qz_N g2 (po g2) := fun _ => hp.2.2
      have v7 : τ2 770 = 75 := (q2.1 770 (by rw [t7]; decide)).1.trans t7
      have hl4 : τ2 l = 13 ∧ τ2 (l + 1) = 15 ∧ τ2 (l + 2) = 16 := ⟨(q2.1 l (by rw [hl3.1]; decide)).1.trans hl3.1, (q2.1 _ (by rw [hl3.2.1]; decide)).1.trans hl3.2.1, (q2.1 _ (by rw [hl3.2.2]; decide)).1.trans hl3.2.2⟩
      have II := I1.lq hl3 hnl q2 hB2 lg2 h42
      have rr := q2.2.2.2.2.2.2.2.2.1
      have rp := pool_le hB2 q2.2.2.1
      have fq := fw_lq (fw_aq a hI.1 hI.2.1) q2 I1.1 t7 a.1 hl3
      refine ez_go (n := 2) (pc' := 168) (L' := [(3, .inr (.inr (some (l)))), (2, .inl (pn h)), (0, .inr (.inr (some (770)))), (1, .inl (0))]) (st' := []) rfl ?_
      refine ez_less [(1, .inl (0)), (3, .inr (.inr (some (l)))), (0, .inr (.inr (some (770))))] rfl ⟨rfl, rfl, rfl, trivial⟩ ?_
      have hvx : vx g2 l (((0 : Int), rz_first (mb h) (rz_ff (mb h) A 0) (rz_tt (mb h) A 0), rz_last (mb h) (rz_ff (mb h) A 0) (rz_tt (mb h) A 0)), (mb h (rz_ff (mb h) A 1) * 256 + mb h (rz_ff (mb h) A 1 + 1), rz_code (mb h) (rz_ff (mb h) A 4) (rz_tt (mb h) A 4), rz_code (mb h) (rz_ff (mb h) A 5) (rz_tt (mb h) A 5), rz_code (mb h) (rz_ff (mb h) A 6) (rz_tt (mb h) A 6)), ((0 : Int), (0 : Int)), ((0 : Int), ([] : List Int), ([] : List Int), ([] : List Int))) := by
        refine ⟨(yo 0 (by decide) (by decide) (by decide) (by decide) (by decide) (by decide) (by decide) (by decide)).trans a.2.2.1.1, fun _ => ⟨⟨?_, ?_⟩, ?_⟩, fun e => absurd e (by show ¬ (0 : Int) = 1; decide), fun e => absurd e (by show ¬ (0 : Int) = 2; decide), fun e => absurd e (by show ¬ (0 : Int) = 3; decide)⟩
        · show qz_I g2 l 1 = rz_first (mb h) (rz_ff (mb h) A 0) (rz_tt (mb h) A 0)
          rw [y1, hF2.1.1, eb, (hfl 0 (by omega) (by omega)).1, (hfl 0 (by omega) (by omega)).2]
        · show qz_I g2 l 2 = rz_last (mb h) (rz_ff (mb h) A 0) (rz_tt (mb h) A 0)
          rw [y2, hF2.1.2.1, eb, (hfl 0 (by omega) (by omega)).1, (hfl 0 (by omega) (by omega)).2]
        · rw [eb, (hfl 1 (by omega) (by omega)).1, (hfl 4 (by omega) (by omega)).1, (hfl 4 (by omega) (by omega)).2, (hfl 5 (by omega) (by omega)).1, (hfl 5 (by omega) (by omega)).2, (hfl 6 (by omega) (by omega)).1, (hfl 6 (by omega) (by omega)).2] at yu
          exact yu
      have hly : lyE (mb h) (qz_I h 770 2) 0 (((0 : Int), rz_first (mb h) (rz_ff (mb h) A 0) (rz_tt (mb h) A 0), rz_last (mb h) (rz_ff (mb h) A 0) (rz_tt (mb h) A 0)), (mb h (rz_ff (mb h) A 1) * 256 + mb h (rz_ff (mb h) A 1 + 1), rz_code (mb h) (rz_ff (mb h) A 4) (rz_tt (mb h) A 4), rz_code (mb h) (rz_ff (mb h) A 5) (rz_tt (mb h) A 5), rz_code (mb h) (rz_ff (mb h) A 6) (rz_tt (mb h) A 6)), ((0 : Int), (0 : Int)), ((0 : Int), ([] : List Int), ([] : List Int), ([] : List Int))) := Or.inl ⟨rfl, A, hA, rfl⟩
      have hdc : (dec = none ∨ ∃ cp bg vs, rz_db (mb g) (mf g 3) (mt g 3) = some (cp, bg) ∧ rz_rw (mb g) 18 bg (mt g 3) = some vs ∧ dec = some (cp, vs) ∧ first = last) := by
        rcases hF2.2.2.2.1 with ⟨w1, w2⟩ | ⟨w1, cp, bg, vs, w2, w3, w4⟩
        · exact Or.inl w2
        · refine Or.inr ⟨cp, bg, vs, w2, w3, w4, ?_⟩
          by_cases e : first < last
          · exact absurd (hF2.2.2.2.2.2 e 3 (by omega) (by omega)) w1
          · have := hF2.1.2.2.2; omega
      have dpos : ∀ q, dec = some q → 0 ≤ q.1 := fun q hq => by
        rcases hdc with w | ⟨cp, bg, vs, w2, w3, w4, w5⟩
        · rw [w] at hq; cases hq
        · rw [w4] at hq; cases hq
          rcases rz_db_cp w2 with e | e <;> (show 0 ≤ cp) <;> omega
      have hdl : (dA dec).length ≤ 18 := by
        rcases hdc with w | ⟨cp, bg, vs, w2, w3, w4, w5⟩
        · rw [w]; exact Nat.zero_le _
        · rw [w4]; have := rw_18 w3; show vs.length ≤ 18; omega
      have hA75 : ((dA dec).length : Int) ≤ 75 := by omega
      have hvc : vc9 g2 l ((0 : Int), first, last, cls, dT dec, dA dec, (((0 : Int), rz_first (mb h) (rz_ff (mb h) A 0) (rz_tt (mb h) A 0), rz_last (mb h) (rz_ff (mb h) A 0) (rz_tt (mb h) A 0)), (mb h (rz_ff (mb h) A 1) * 256 + mb h (rz_ff (mb h) A 1 + 1), rz_code (mb h) (rz_ff (mb h) A 4) (rz_tt (mb h) A 4), rz_code (mb h) (rz_ff (mb h) A 5) (rz_tt (mb h) A 5), rz_code (mb h) (rz_ff (mb h) A 6) (rz_tt (mb h) A 6)), ((0 : Int), (0 : Int)), ((0 : Int), ([] : List Int), ([] : List Int), ([] : List Int)))) := by
        refine ⟨⟨(yo 0 (by decide) (by decide) (by decide) (by decide) (by decide) (by decide) (by decide) (by decide)).trans a.2.2.1.1, y1, y2, y4, y5⟩, fun _ => ⟨?_, fun hne => ?_⟩⟩
        · show 0 ≤ dT dec
          cases dec with
          | none => exact Int.le_refl _
          | some q => have := dpos q rfl; show 0 ≤ q.1 + 1; omega
        · have hdn : dec ≠ none := fun e => hne (by rw [e]; rfl)
          have hfl2 : first = last := by
            rcases hdc with w | ⟨cp, bg, vs, w2, w3, w4, w5⟩
            · exact absurd w hdn
            · exact w5
          have s0 := ys hdn
          have p5 := hp.1.2.2.2.2.1
          refine ⟨hfl2, ⟨yc, ?_, ?_⟩, fun j v hv => ?_⟩
          · show qz_I g2 (l + 1) 0 + ((dA dec).length : Int) ≤ pn g2; rw [s0, p5]; exact Int.le_refl _
          · rw [s0]; exact b10.1
          · rw [s0]; exact hp.1.2.2.2.2.2.2.1 j v hv
      have hF3 : rz_L0 (mb h) (qz_I h 770 2) first last cls dec := ⟨A, hA, by rw [eb] at hF2; exact rz_F_congr (fun k k0 k6 => (hfl k k0 (by omega)).1) (fun k k0 k6 => (hfl k k0 (by omega)).2) hF2⟩
      have hst : rz_step (mb h) (qz_I h 770 2) 0 (vF9 Ls) (vE9 Ls) (vF9 (Ls ++ [((0 : Int), first, last, cls, dT dec, dA dec, (((0 : Int), rz_first (mb h) (rz_ff (mb h) A 0) (rz_tt (mb h) A 0), rz_last (mb h) (rz_ff (mb h) A 0) (rz_tt (mb h) A 0)), (mb h (rz_ff (mb h) A 1) * 256 + mb h (rz_ff (mb h) A 1 + 1), rz_code (mb h) (rz_ff (mb h) A 4) (rz_tt (mb h) A 4), rz_code (mb h) (rz_ff (mb h) A 5) (rz_tt (mb h) A 5), rz_code (mb h) (rz_ff (mb h) A 6) (rz_tt (mb h) A 6)), ((0 : Int), (0 : Int)), ((0 : Int), ([] : List Int), ([] : List Int), ([] : List Int))))])) (vE9 (Ls ++ [((0 : Int), first, last, cls, dT dec, dA dec, (((0 : Int), rz_first (mb h) (rz_ff (mb h) A 0) (rz_tt (mb h) A 0), rz_last (mb h) (rz_ff (mb h) A 0) (rz_tt (mb h) A 0)), (mb h (rz_ff (mb h) A 1) * 256 + mb h (rz_ff (mb h) A 1 + 1), rz_code (mb h) (rz_ff (mb h) A 4) (rz_tt (mb h) A 4), rz_code (mb h) (rz_ff (mb h) A 5) (rz_tt (mb h) A 5), rz_code (mb h) (rz_ff (mb h) A 6) (rz_tt (mb h) A 6)), ((0 : Int), (0 : Int)), ((0 : Int), ([] : List Int), ([] : List Int), ([] : List Int))))])) := by
        rw [vF_app9, vE_app9]
        refine ⟨fun _ => Or.inl ⟨first, last, cls, dec, hF3, fun y => ?_, ve_no9 (Or.inl (by show (0 : Int) ≠ 3; decide))⟩, fun e => absurd e (by decide), fun e => absurd rfl e⟩
        show (if (0 : Int) = 0 ∧ first ≤ y ∧ y ≤ last then (cls, vD9 ((0 : Int), first, last, cls, dT dec, dA dec, (((0 : Int), rz_first (mb h) (rz_ff (mb h) A 0) (rz_tt (mb h) A 0), rz_last (mb h) (rz_ff (mb h) A 0) (rz_tt (mb h) A 0)), (mb h (rz_ff (mb h) A 1) * 256 + mb h (rz_ff (mb h) A 1 + 1), rz_code (mb h) (rz_ff (mb h) A 4) (rz_tt (mb h) A 4), rz_code (mb h) (rz_ff (mb h) A 5) (rz_tt (mb h) A 5), rz_code (mb h) (rz_ff (mb h) A 6) (rz_tt (mb h) A 6)), ((0 : Int), (0 : Int)), ((0 : Int), ([] : List Int), ([] : List Int), ([] : List Int))))) else vF9 Ls y) = _
        rw [vD_mk9 dpos]
        by_cases e : first ≤ y ∧ y ≤ last
        · rw [if_pos ⟨rfl, e⟩, if_pos e]
        · rw [if_neg (fun w => e w.2), if_neg e]
      have hFc : rz_F (mb h) (rz_ff (mb h) A) (rz_tt (mb h) A) first last cls dec := by rw [eb] at hF2; exact rz_F_congr (fun k k0 k6 => (hfl k k0 (by omega)).1) (fun k k0 k6 => (hfl k k0 (by omega)).2) hF2
      have hfl9 := hF2.1.2.2.2
      have hans : ∀ v, v = (if (0 : Int) = 4 then qz_I g2 (qz_P g2 l 8) 0 else qz_I g2 l 2 - qz_I g2 l 1 + 1) → v ≠ -1 ∧ rz_an (mb h) (qz_I h 770 2) 7 (rz_g0 (mb h)) v := fun v hv => by
        rw [if_neg (by decide), y1, y2] at hv
        exact ⟨by omega, Or.inl ⟨A, hA, first, last, cls, dec, hFc, hv⟩⟩
      have I2 := II.1
      have ec2 : lc g2 = lc h := (q2.2.2.2.1 12 (by decide) (by decide) (by decide) (by decide)).trans ec
      have tcp2 : τ2 (qz_P g2 l 8) = 16 := by rw [(ez_l78 hB2 hl4.1).2]; exact hl4.2.2
      refine rd_ml hB2 v7 hl4.1 (ez_tls hB2 v7).1 tcp2 ⟨by omega, by omega⟩ I2.2.2.1.1.1 (by omega) I2.2.2.1.2.1 I2.2.2.2.1.1 (by omega) (by omega) (fun g3 τ3 v hB3 u hv => kC hs g3 τ3 _ v (mI9.lu (x := ((0 : Int), first, last, cls, dT dec, dA dec, (((0 : Int), rz_first (mb h) (rz_ff (mb h) A 0) (rz_tt (mb h) A 0), rz_last (mb h) (rz_ff (mb h) A 0) (rz_tt (mb h) A 0)), (mb h (rz_ff (mb h) A 1) * 256 + mb h (rz_ff (mb h) A 1 + 1), rz_code (mb h) (rz_ff (mb h) A 4) (rz_tt (mb h) A 4), rz_code (mb h) (rz_ff (mb h) A 5) (rz_tt (mb h) A 5), rz_code (mb h) (rz_ff (mb h) A 6) (rz_tt (mb h) A 6)), ((0 : Int), (0 : Int)), ((0 : Int), ([] : List Int), ([] : List Int), ([] : List Int))))) I2 hA75 hl4 (nl_lq9 I1 hl3 q2 hnl) u hB3 ⟨hvc, hvx⟩) ((fw_lu fq u hB2 v7).mono (by omega)) hst (Or.inr ⟨by rw [u.2.2.2.2.1, ec2], hbn⟩) (Or.inl ⟨by rw [u.2.2.2.1 0 (by decide) (by decide) (by decide), q2.2.2.2.1 0 (by decide) (by decide) (by decide) (by decide)]; exact cr.2.2.2.2, (hans v hv).1, (hans v hv).2, ((0 : Int), first, last, cls, dT dec, dA dec, (((0 : Int), rz_first (mb h) (rz_ff (mb h) A 0) (rz_tt (mb h) A 0), rz_last (mb h) (rz_ff (mb h) A 0) (rz_tt (mb h) A 0)), (mb h (rz_ff (mb h) A 1) * 256 + mb h (rz_ff (mb h) A 1 + 1), rz_code (mb h) (rz_ff (mb h) A 4) (rz_tt (mb h) A 4), rz_code (mb h) (rz_ff (mb h) A 5) (rz_tt (mb h) A 5), rz_code (mb h) (rz_ff (mb h) A 6) (rz_tt (mb h) A 6)), ((0 : Int), (0 : Int)), ((0 : Int), ([] : List Int), ([] : List Int), ([] : List Int)))), rfl, hly⟩))
    · skip
      rw [l78.1, l78.2] at hp
      have q2 := hp.1.lq
      have lg2 := hp.2.1
      have h42 : qz_I g2 l 0 = 4 → qz_I g2 (l + 1) 1 + 4 * qz_I g2 (l + 2) 1 ≤ qz_N g2 (po g2) := fun _ => hp.2.2
      have v7 : τ2 770 = 75 := (q2.1 770 (by rw [t7]; decide)).1.trans t7
      have hl4 : τ2 l = 13 ∧ τ2 (l + 1) = 15 ∧ τ2 (l + 2) = 16 := ⟨(q2.1 l (by rw [hl3.1]; decide)).1.trans hl3.1, (q2.1 _ (by rw [hl3.2.1]; decide)).1.trans hl3.2.1, (q2.1 _ (by rw [hl3.2.2]; decide)).1.trans hl3.2.2⟩
      have II := I1.lq hl3 hnl q2 hB2 lg2 h42
      have rr := q2.2.2.2.2.2.2.2.2.1
      have rp := pool_le hB2 q2.2.2.1
      have fq := fw_lq (fw_aq a hI.1 hI.2.1) q2 I1.1 t7 a.1 hl3
      have hst : rz_step (mb h) (qz_I h 770 2) 0 (vF9 Ls) (vE9 Ls) (vF9 Ls) (vE9 Ls) := by
        refine ⟨fun _ => Or.inr ⟨?_, rfl, rfl⟩, fun e => absurd e (by decide), fun e => absurd rfl e⟩
        rintro ⟨first, last, cls, dec, A', hA', hF'⟩
        rw [rz_A_uniq hA' hA] at hF'
        exact hno first last cls dec (by rw [eb]; exact rz_F_congr (fun k k0 k6 => ((hfl k k0 (by omega)).1).symm) (fun k k0 k6 => ((hfl k k0 (by omega)).2).symm) hF')
      have hnan : rz_an (mb h) (qz_I h 770 2) 7 (rz_g0 (mb h)) (-1) := rz_an_f hA (fun v w => by obtain ⟨first, last, cls, dec, w1, -⟩ := w; exact hno first last cls dec (by rw [eb]; exact rz_F_congr (fun k k0 k6 => ((hfl k k0 (by omega)).1).symm) (fun k k0 k6 => ((hfl k k0 (by omega)).2).symm) w1))
      refine ez_less [(3, .inr (.inr (some (l)))), (2, .inl (pn h)), (0, .inr (.inr (some (770)))), (1, .inl (0))] rfl ⟨rfl, rfl, rfl, rfl, trivial⟩ ?_
      refine rd_mlE (d := d + 9) (n := pn h) (xc_B hB2 (by omega) (by omega)) v7 (by omega) (by omega) (fun g3 hB3 f3 j3 p3 z3 => kC hs g3 τ2 Ls 0 (II.2 0 (by omega) g3 hB3 (fun q hq h7 => by rw [f3.2.2 q (dz_beq_ne h7), xc_t hB2 hq]) (fun j j0 j10 => by rw [j3 j j0 j10]; unfold qz_I; rw [xc_t hB2 (by rw [v7]; decide)]) (by rw [p3, en]; omega) (by omega)) ((fw_xc fq hB2 v7 f3 j3).mono (by omega)) hst (Or.inl ?_) (Or.inr ⟨z3, hnan, rfl⟩))
      show qz_I g3 770 12 = qz_I h 770 12
      rw [j3 12 (by decide) (by decide)]; unfold qz_I; rw [xc_t hB2 (by rw [v7]; decide)]
      exact (q2.2.2.2.1 12 (by decide) (by decide) (by decide) (by decide)).trans ec
  · skip
    have t7 : τ1 770 = 75 := I1.2.1 770 (by decide)
    have en : pn g = pn h := a.2.2.2.2.2.2.2.1 10 (by decide) (by decide)
    have ec : lc g = lc h := a.2.2.2.2.2.2.2.1 12 (by decide) (by decide)
    have b10 : 0 ≤ pn g ∧ pn g ≤ 38500 := ez_fB (cl := 11) (k := 10) I1.1 t7 tq_75 rfl rfl (by decide)
    have cr := a.2.2.2.2.2.2.2.2.2
    refine rd_mlE (d := d + 9) (n := pn h) (xc_B I1.1 (by omega) (by omega)) t7 (by omega) (by omega) (fun g3 hB3 f3 j3 p3 z3 => kC hs g3 τ1 Ls 0 (I1.f7 hB3 (fun q hq h7 => by rw [f3.2.2 q (dz_beq_ne h7), xc_t I1.1 hq]) (fun j j1 j2 => ?_)) ((fw_xc (fw_aq a hI.1 hI.2.1) I1.1 t7 f3 j3).mono (by omega)) ⟨fun _ => Or.inr ⟨fun ⟨f, la, c, dd, A', hA', _⟩ => hno ⟨A', hA'⟩, rfl, rfl⟩, fun e => absurd e (by decide), fun e => absurd rfl e⟩ (Or.inl ?_) (Or.inr ⟨z3, rz_an_n hno, rfl⟩))
    · by_cases e : j = 10
      · subst e; exact p3.trans en.symm
      · rw [j3 j (by omega) e]; unfold qz_I; rw [xc_t I1.1 (by rw [t7]; decide)]
    · show qz_I g3 770 12 = qz_I h 770 12
      rw [j3 12 (by decide) (by decide)]; unfold qz_I; rw [xc_t I1.1 (by rw [t7]; decide)]
      exact ec
theorem rd_mline19 (hI : mI9 τ h Ls 0) (hlc : qz_I h 770 2 = 0 ∨ lc h ≤ 255) (hr1 : h.1 + 25000 ≤ 600192) (hr2 : h.2.1 + 900000 ≤ 7302232) (kS : qz_I h 770 7 ≠ 0 → ∀ g, mI9 τ g Ls 0 → ez_fr (ez_one 770) h g → (∀ j, j ≠ 0 → qz_I g 770 j = qz_I h 770 j) → qz_I g 770 0 = 2 → Q (.inl (some (ez_v (.inl 0))), g)) (kC : qz_I h 770 7 = 0 → ∀ g τ1 Ls2 v, mI9 τ1 g Ls2 0 → fw τ h τ1 g (45 * qz_I h 770 2 + 100) → rz_step (mb h) (qz_I h 770 2) 1 (vF9 Ls) (vE9 Ls) (vF9 Ls2) (vE9 Ls2) → (lc g = lc h ∨ (lc g = lc h + 1 ∧ 0 < qz_I h 770 2)) → ((qz_I g 770 0 = 0 ∧ v ≠ -1 ∧ rz_an (mb h) (qz_I h 770 2) 5 (rz_g1 (mb h)) v ∧ ∃ x : vz9, Ls2 = Ls ++ [x] ∧ lyE (mb h) (qz_I h 770 2) 1 x.2.2.2.2.2.2) ∨ (qz_I g 770 0 = 3 ∧ rz_an (mb h) (qz_I h 770 2) 5 (rz_g1 (mb h)) (-1) ∧ Ls2 = Ls)) → Q (.inl (some (ez_v (.inl v))), g)) : ez_W (d + 10) cm_276 0 [(0, .inr (.inr (some (770)))), (1, .inl (1))] [] h Q := by
  have b2 : 0 ≤ qz_I h 770 2 ∧ qz_I h 770 2 ≤ 4096 := ez_fB (cl := 11) (k := 2) hI.1 (hI.2.1 770 (by decide)) tq_75 rfl rfl (by decide)
  refine rd_mlA19 (d := d + 2) hI (by omega) (by omega) kS (fun hs l g τ1 A a I1 hA hfl => ?_) (fun hs l g τ1 a I1 hno => ?_)
  · skip
    have t7 : τ1 770 = 75 := I1.2.1 770 (by decide)
    have hl3 := a.2.1
    have l78 := ez_l78 I1.1 hl3.1
    have hlz : lz l := ⟨fun e => (by have t := hl3.1; rw [e, t7] at t; cases t), fun e => (by have t := hl3.1; rw [e, I1.2.1 771 (by decide)] at t; cases t), fun e => (by have t := hl3.1; rw [e, I1.2.1 789 (by decide)] at t; cases t), fun e => (by have t := hl3.1; rw [e, I1.2.1 790 (by decide)] at t; cases t)⟩
    have tt := ez_tls I1.1 t7
    have usp : τ1 (qz_P g l 7) = 15 := by rw [l78.1]; exact hl3.2.1
    have ucp : τ1 (qz_P g l 8) = 16 := by rw [l78.2]; exact hl3.2.2
    have eb : mb g = mb h := funext fun k => by unfold mb qz_I; rw [a.c hI.2.1 (hI.2.1 771 (by decide)) rfl]
    have a8 := a.2.2.2.2.2.2.2.1
    have en : pn g = pn h := a8 10 (by decide) (by decide)
    have ec : lc g = lc h := a8 12 (by decide) (by decide)
    have hbn : 0 < qz_I h 770 2 := rz_A_pos (by decide) hA
    have hlc2 : lc h ≤ 255 := by omega
    have b10 : 0 ≤ pn g ∧ pn g ≤ 38500 := ez_fB (cl := 11) (k := 10) I1.1 t7 tq_75 rfl rfl (by decide)
    have nN : 1024 ≤ qz_N g (po g) ∧ qz_N g (po g) ≤ 77100 := ez_len I1.1 tt.2 tq_17 rfl
    have np := I1.2.2.1.2.2
    have FF : ∀ k, 0 ≤ k → k < 5 → (0 ≤ mf g k ∧ mf g k ≤ mt g k) ∧ mt g k ≤ qz_I h 770 2 ∧ (mf g k < mt g k → ¬ bk (mb g (mf g k)) ∧ ¬ bk (mb g (mt g k - 1))) ∧ (∀ j, mf g k ≤ j → j < mt g k → 0 ≤ mb g j ∧ mb g j ≤ 127) := fun k k0 k1 => by rw [(hfl k k0 k1).1, (hfl k k0 k1).2, eb]; exact rz_A_fl hA b2.2 k0 (by show k < ((5 : Nat) : Int); omega)
    have hF : ∀ k, 0 ≤ k → k < 5 → (0 ≤ mf g k ∧ mf g k ≤ mt g k) ∧ mt g k ≤ 4096 := fun k k0 k1 => ⟨(FF k k0 k1).1, by have := (FF k k0 k1).2.1; omega⟩
    have hTr : ∀ k, 0 ≤ k → k < 5 → mf g k < mt g k → ¬ bk (mb g (mf g k)) ∧ ¬ bk (mb g (mt g k - 1)) := fun k k0 k1 => (FF k k0 k1).2.2.1
    have hnl := nl_aq9 hI a
    have hlg0 : l2 (l + 1) (l + 2) g := ⟨fun j => by rw [a.2.2.2.1, a.2.2.2.2.1]; omega, by rw [a.2.2.2.1, a.2.2.2.2.1]; omega⟩
    have hl2 : l2 (qz_P g l 7) (qz_P g l 8) g := by rw [l78.1, l78.2]; exact hlg0
    have hc0 : ∀ j, qz_I g (qz_P g l 8) j = 0 := fun j => by rw [l78.2]; exact a.2.2.2.2.1 j
    have cr := a.2.2.2.2.2.2.2.2.2
    refine ez_go (n := 1) (pc' := 97) (L' := [(3, .inr (.inr (some (l)))), (2, .inl (pn h)), (0, .inr (.inr (some (770)))), (1, .inl (1))]) (st' := [.inl (1)]) rfl ?_
    refine ez_if rfl rfl ⟨by decide, by decide⟩ (fun _ => ?_) (fun (c1 : ¬((1 : Int) ≠ (0))) => absurd c1 (by decide))
    refine ez_go (n := 2) (pc' := 110) (L' := [(3, .inr (.inr (some (l)))), (2, .inl (pn h)), (0, .inr (.inr (some (770)))), (1, .inl (1))]) (st' := [.inl (1), .inl (1)]) rfl ?_
    refine ez_icmp rfl rfl ⟨by decide, by decide⟩ ⟨by decide, by decide⟩ (fun (c2 : (1 : Int) ≠ (1)) => absurd c2 (by decide)) (fun _ => ?_)
    refine ez_go (n := 2) (pc' := 115) (L' := [(3, .inr (.inr (some (l)))), (2, .inl (pn h)), (0, .inr (.inr (some (770)))), (1, .inl (1))]) (st' := [.inr (.inr (some (l))), .inr (.inr (some (770)))]) rfl ?_
    refine ez_cv I1.1 t7 rfl rfl rfl tq_75 rfl rfl rfl (rd_cases9 (d := d) I1.1 t7 hl3.1 hlz usp ucp tt.2 b10.1 (by omega) nN.1 (by omega) (by omega) I1.2.2.1.1.2 hl2.1 hc0 hF hTr cr.2.2.2.1 I1.2.2.2.2.2.1.1 I1.2.2.2.2.2.1.2 (FF 4 (by omega) (by omega)).2.2.2 (fun g2 τ2 A2 hB2 hp hA2 hk hG9 h12 hcd hrw => ez_K0 ?_) (fun g2 τ2 A2 hB2 hp hk hnG => ez_Kc (xc_exc hB2 rfl) rfl ?_))
    · skip
      rw [l78.1, l78.2] at hp
      have k2 : qz_I g2 l 0 = 1 := hk.trans a.2.2.1.1
      have q2 := hp.1
      have lg2 := hp.2
      have h42 : qz_I g2 l 0 = 4 → qz_I g2 (l + 1) 1 + 4 * qz_I g2 (l + 2) 1 ≤ qz_N g2 (po g2) := fun w => by omega
      have F4 := FF 4 (by omega) (by omega)
      have v7 : τ2 770 = 75 := (q2.1 770 (by rw [t7]; decide)).1.trans t7
      have hl4 : τ2 l = 13 ∧ τ2 (l + 1) = 15 ∧ τ2 (l + 2) = 16 := ⟨(q2.1 l (by rw [hl3.1]; decide)).1.trans hl3.1, (q2.1 _ (by rw [hl3.2.1]; decide)).1.trans hl3.2.1, (q2.1 _ (by rw [hl3.2.2]; decide)).1.trans hl3.2.2⟩
      have II := I1.lq hl3 hnl q2 hB2 lg2 h42
      have rr := q2.2.2.2.2.2.2.2.2.1
      have rp := pool_le hB2 q2.2.2.1
      have fq := fw_lq (fw_aq a hI.1 hI.2.1) q2 I1.1 t7 a.1 hl3
      refine ez_go (n := 2) (pc' := 168) (L' := [(3, .inr (.inr (some (l)))), (2, .inl (pn h)), (0, .inr (.inr (some (770)))), (1, .inl (1))]) (st' := []) rfl ?_
      refine ez_less [(1, .inl (1)), (3, .inr (.inr (some (l)))), (0, .inr (.inr (some (770))))] rfl ⟨rfl, rfl, rfl, trivial⟩ ?_
      have w0 := h12.2
      rw [eb, (hfl 0 (by omega) (by omega)).1, (hfl 0 (by omega) (by omega)).2] at w0
      rw [eb, (hfl 4 (by omega) (by omega)).1, (hfl 4 (by omega) (by omega)).2] at hcd
      have w1 := hrw 0 (by omega)
      rw [l78.1, l78.2, show (1 + ((0 : Nat) : Int)) = 1 from rfl, eb, (hfl 1 (by omega) (by omega)).1, (hfl 1 (by omega) (by omega)).2] at w1
      have w2 := hrw 1 (by omega)
      rw [l78.1, l78.2, show (1 + ((1 : Nat) : Int)) = 2 from rfl, eb, (hfl 2 (by omega) (by omega)).1, (hfl 2 (by omega) (by omega)).2] at w2
      have w3 := hrw 2 (by omega)
      rw [l78.1, l78.2, show (1 + ((2 : Nat) : Int)) = 3 from rfl, eb, (hfl 3 (by omega) (by omega)).1, (hfl 3 (by omega) (by omega)).2] at w3
      have hvx : vx g2 l (((1 : Int), rz_code (mb h) (rz_ff (mb h) A 0) (rz_tt (mb h) A 0), rz_code (mb h) (rz_ff (mb h) A 0) (rz_tt (mb h) A 0)), ((0 : Int), (0 : Int), (0 : Int), (0 : Int)), ((0 : Int), (0 : Int)), (nz_cd (mb h) (rz_tt (mb h) A 4) (rz_ct (mb h) (rz_ff (mb h) A 4) (rz_tt (mb h) A 4 - rz_ff (mb h) A 4).toNat (rz_ff (mb h) A 4)) (rz_ff (mb h) A 4) 0, rz_rn (mb h) (rz_ff (mb h) A 1) (rz_tt (mb h) A 1), rz_rn (mb h) (rz_ff (mb h) A 2) (rz_tt (mb h) A 2), rz_rn (mb h) (rz_ff (mb h) A 3) (rz_tt (mb h) A 3))) := ⟨k2, fun e => absurd e (by show ¬ (1 : Int) = 0; decide), fun _ => ⟨⟨w0, rfl⟩, hcd, w1, w2, w3⟩, fun e => absurd e (by show ¬ (1 : Int) = 2; decide), fun e => absurd e (by show ¬ (1 : Int) = 3; decide)⟩
      have hly : lyE (mb h) (qz_I h 770 2) 1 (((1 : Int), rz_code (mb h) (rz_ff (mb h) A 0) (rz_tt (mb h) A 0), rz_code (mb h) (rz_ff (mb h) A 0) (rz_tt (mb h) A 0)), ((0 : Int), (0 : Int), (0 : Int), (0 : Int)), ((0 : Int), (0 : Int)), (nz_cd (mb h) (rz_tt (mb h) A 4) (rz_ct (mb h) (rz_ff (mb h) A 4) (rz_tt (mb h) A 4 - rz_ff (mb h) A 4).toNat (rz_ff (mb h) A 4)) (rz_ff (mb h) A 4) 0, rz_rn (mb h) (rz_ff (mb h) A 1) (rz_tt (mb h) A 1), rz_rn (mb h) (rz_ff (mb h) A 2) (rz_tt (mb h) A 2), rz_rn (mb h) (rz_ff (mb h) A 3) (rz_tt (mb h) A 3))) := Or.inr (Or.inl ⟨rfl, A, hA, rfl⟩)
      have hA75 : ((A2).length : Int) ≤ 75 := by omega
      have hvc : vc9 g2 l ((1 : Int), qz_I g2 l 1, qz_I g2 l 2, qz_I g2 l 4, qz_I g2 l 5, ([] : List Int), (((1 : Int), rz_code (mb h) (rz_ff (mb h) A 0) (rz_tt (mb h) A 0), rz_code (mb h) (rz_ff (mb h) A 0) (rz_tt (mb h) A 0)), ((0 : Int), (0 : Int), (0 : Int), (0 : Int)), ((0 : Int), (0 : Int)), (nz_cd (mb h) (rz_tt (mb h) A 4) (rz_ct (mb h) (rz_ff (mb h) A 4) (rz_tt (mb h) A 4 - rz_ff (mb h) A 4).toNat (rz_ff (mb h) A 4)) (rz_ff (mb h) A 4) 0, rz_rn (mb h) (rz_ff (mb h) A 1) (rz_tt (mb h) A 1), rz_rn (mb h) (rz_ff (mb h) A 2) (rz_tt (mb h) A 2), rz_rn (mb h) (rz_ff (mb h) A 3) (rz_tt (mb h) A 3)))) := ⟨⟨k2, rfl, rfl, rfl, rfl⟩, fun e => absurd e (by show ¬ (1 : Int) = 0; decide)⟩
      have hst : rz_step (mb h) (qz_I h 770 2) 1 (vF9 Ls) (vE9 Ls) (vF9 (Ls ++ [((1 : Int), qz_I g2 l 1, qz_I g2 l 2, qz_I g2 l 4, qz_I g2 l 5, ([] : List Int), (((1 : Int), rz_code (mb h) (rz_ff (mb h) A 0) (rz_tt (mb h) A 0), rz_code (mb h) (rz_ff (mb h) A 0) (rz_tt (mb h) A 0)), ((0 : Int), (0 : Int), (0 : Int), (0 : Int)), ((0 : Int), (0 : Int)), (nz_cd (mb h) (rz_tt (mb h) A 4) (rz_ct (mb h) (rz_ff (mb h) A 4) (rz_tt (mb h) A 4 - rz_ff (mb h) A 4).toNat (rz_ff (mb h) A 4)) (rz_ff (mb h) A 4) 0, rz_rn (mb h) (rz_ff (mb h) A 1) (rz_tt (mb h) A 1), rz_rn (mb h) (rz_ff (mb h) A 2) (rz_tt (mb h) A 2), rz_rn (mb h) (rz_ff (mb h) A 3) (rz_tt (mb h) A 3))))])) (vE9 (Ls ++ [((1 : Int), qz_I g2 l 1, qz_I g2 l 2, qz_I g2 l 4, qz_I g2 l 5, ([] : List Int), (((1 : Int), rz_code (mb h) (rz_ff (mb h) A 0) (rz_tt (mb h) A 0), rz_code (mb h) (rz_ff (mb h) A 0) (rz_tt (mb h) A 0)), ((0 : Int), (0 : Int), (0 : Int), (0 : Int)), ((0 : Int), (0 : Int)), (nz_cd (mb h) (rz_tt (mb h) A 4) (rz_ct (mb h) (rz_ff (mb h) A 4) (rz_tt (mb h) A 4 - rz_ff (mb h) A 4).toNat (rz_ff (mb h) A 4)) (rz_ff (mb h) A 4) 0, rz_rn (mb h) (rz_ff (mb h) A 1) (rz_tt (mb h) A 1), rz_rn (mb h) (rz_ff (mb h) A 2) (rz_tt (mb h) A 2), rz_rn (mb h) (rz_ff (mb h) A 3) (rz_tt (mb h) A 3))))])) := by
        rw [vF_app9, vE_app9]
        exact ⟨fun e => absurd e (by decide), fun e => absurd e (by decide), fun _ _ => ⟨vf_no9 (by show (1 : Int) ≠ 0; decide), ve_no9 (Or.inl (by show (1 : Int) ≠ 3; decide))⟩⟩
      have hans : ∀ v, v = (if (1 : Int) = 4 then qz_I g2 (qz_P g2 l 8) 0 else qz_I g2 l 2 - qz_I g2 l 1 + 1) → v ≠ -1 ∧ rz_an (mb h) (qz_I h 770 2) 5 (rz_g1 (mb h)) v := fun v hv => by
        rw [if_neg (by decide)] at hv
        unfold rz_G1 at hG9
        rw [eb, (hfl 0 (by omega) (by omega)).1, (hfl 0 (by omega) (by omega)).2, (hfl 1 (by omega) (by omega)).1, (hfl 1 (by omega) (by omega)).2, (hfl 2 (by omega) (by omega)).1, (hfl 2 (by omega) (by omega)).2, (hfl 3 (by omega) (by omega)).1, (hfl 3 (by omega) (by omega)).2, (hfl 4 (by omega) (by omega)).1, (hfl 4 (by omega) (by omega)).2] at hG9
        exact ⟨by omega, Or.inl ⟨A, hA, hG9, by omega⟩⟩
      have I2 := II.1
      have ec2 : lc g2 = lc h := (q2.2.2.2.1 12 (by decide) (by decide) (by decide) (by decide)).trans ec
      have tcp2 : τ2 (qz_P g2 l 8) = 16 := by rw [(ez_l78 hB2 hl4.1).2]; exact hl4.2.2
      refine rd_ml hB2 v7 hl4.1 (ez_tls hB2 v7).1 tcp2 ⟨by omega, by omega⟩ I2.2.2.1.1.1 (by omega) I2.2.2.1.2.1 I2.2.2.2.1.1 (by omega) (by omega) (fun g3 τ3 v hB3 u hv => kC hs g3 τ3 _ v (mI9.lu (x := ((1 : Int), qz_I g2 l 1, qz_I g2 l 2, qz_I g2 l 4, qz_I g2 l 5, ([] : List Int), (((1 : Int), rz_code (mb h) (rz_ff (mb h) A 0) (rz_tt (mb h) A 0), rz_code (mb h) (rz_ff (mb h) A 0) (rz_tt (mb h) A 0)), ((0 : Int), (0 : Int), (0 : Int), (0 : Int)), ((0 : Int), (0 : Int)), (nz_cd (mb h) (rz_tt (mb h) A 4) (rz_ct (mb h) (rz_ff (mb h) A 4) (rz_tt (mb h) A 4 - rz_ff (mb h) A 4).toNat (rz_ff (mb h) A 4)) (rz_ff (mb h) A 4) 0, rz_rn (mb h) (rz_ff (mb h) A 1) (rz_tt (mb h) A 1), rz_rn (mb h) (rz_ff (mb h) A 2) (rz_tt (mb h) A 2), rz_rn (mb h) (rz_ff (mb h) A 3) (rz_tt (mb h) A 3))))) I2 hA75 hl4 (nl_lq9 I1 hl3 q2 hnl) u hB3 ⟨hvc, hvx⟩) ((fw_lu fq u hB2 v7).mono (by omega)) hst (Or.inr ⟨by rw [u.2.2.2.2.1, ec2], hbn⟩) (Or.inl ⟨by rw [u.2.2.2.1 0 (by decide) (by decide) (by decide), q2.2.2.2.1 0 (by decide) (by decide) (by decide) (by decide)]; exact cr.2.2.2.2, (hans v hv).1, (hans v hv).2, ((1 : Int), qz_I g2 l 1, qz_I g2 l 2, qz_I g2 l 4, qz_I g2 l 5, ([] : List Int), (((1 : Int), rz_code (mb h) (rz_ff (mb h) A 0) (rz_tt (mb h) A 0), rz_code (mb h) (rz_ff (mb h) A 0) (rz_tt (mb h) A 0)), ((0 : Int), (0 : Int), (0 : Int), (0 : Int)), ((0 : Int), (0 : Int)), (nz_cd (mb h) (rz_tt (mb h) A 4) (rz_ct (mb h) (rz_ff (mb h) A 4) (rz_tt (mb h) A 4 - rz_ff (mb h) A 4).toNat (rz_ff (mb h) A 4)) (rz_ff (mb h) A 4) 0, rz_rn (mb h) (rz_ff (mb h) A 1) (rz_tt (mb h) A 1), rz_rn (mb h) (rz_ff (mb h) A 2) (rz_tt (mb h) A 2), rz_rn (mb h) (rz_ff (mb h) A 3) (rz_tt (mb h) A 3)))), rfl, hly⟩))
    · skip
      rw [l78.1, l78.2] at hp
      have k2 : qz_I g2 l 0 = 1 := hk.trans a.2.2.1.1
      have q2 := hp.1
      have lg2 := hp.2
      have h42 : qz_I g2 l 0 = 4 → qz_I g2 (l + 1) 1 + 4 * qz_I g2 (l + 2) 1 ≤ qz_N g2 (po g2) := fun w => by omega
      have F4 := FF 4 (by omega) (by omega)
      have v7 : τ2 770 = 75 := (q2.1 770 (by rw [t7]; decide)).1.trans t7
      have hl4 : τ2 l = 13 ∧ τ2 (l + 1) = 15 ∧ τ2 (l + 2) = 16 := ⟨(q2.1 l (by rw [hl3.1]; decide)).1.trans hl3.1, (q2.1 _ (by rw [hl3.2.1]; decide)).1.trans hl3.2.1, (q2.1 _ (by rw [hl3.2.2]; decide)).1.trans hl3.2.2⟩
      have II := I1.lq hl3 hnl q2 hB2 lg2 h42
      have rr := q2.2.2.2.2.2.2.2.2.1
      have rp := pool_le hB2 q2.2.2.1
      have fq := fw_lq (fw_aq a hI.1 hI.2.1) q2 I1.1 t7 a.1 hl3
      have hst : rz_step (mb h) (qz_I h 770 2) 1 (vF9 Ls) (vE9 Ls) (vF9 Ls) (vE9 Ls) := ⟨fun e => absurd e (by decide), fun e => absurd e (by decide), fun _ _ => ⟨rfl, rfl⟩⟩
      have hnan : rz_an (mb h) (qz_I h 770 2) 5 (rz_g1 (mb h)) (-1) := rz_an_f hA (fun v w => hnG (by have w1 := w.1; unfold rz_G1 at w1 ⊢; rw [eb, (hfl 0 (by omega) (by omega)).1, (hfl 0 (by omega) (by omega)).2, (hfl 1 (by omega) (by omega)).1, (hfl 1 (by omega) (by omega)).2, (hfl 2 (by omega) (by omega)).1, (hfl 2 (by omega) (by omega)).2, (hfl 3 (by omega) (by omega)).1, (hfl 3 (by omega) (by omega)).2, (hfl 4 (by omega) (by omega)).1, (hfl 4 (by omega) (by omega)).2]; exact w1))
      refine ez_less [(3, .inr (.inr (some (l)))), (2, .inl (pn h)), (0, .inr (.inr (some (770)))), (1, .inl (1))] rfl ⟨rfl, rfl, rfl, rfl, trivial⟩ ?_
      refine rd_mlE (d := d + 9) (n := pn h) (xc_B hB2 (by omega) (by omega)) v7 (by omega) (by omega) (fun g3 hB3 f3 j3 p3 z3 => kC hs g3 τ2 Ls 0 (II.2 0 (by omega) g3 hB3 (fun q hq h7 => by rw [f3.2.2 q (dz_beq_ne h7), xc_t hB2 hq]) (fun j j0 j10 => by rw [j3 j j0 j10]; unfold qz_I; rw [xc_t hB2 (by rw [v7]; decide)]) (by rw [p3, en]; omega) (by omega)) ((fw_xc fq hB2 v7 f3 j3).mono (by omega)) hst (Or.inl ?_) (Or.inr ⟨z3, hnan, rfl⟩))
      show qz_I g3 770 12 = qz_I h 770 12
      rw [j3 12 (by decide) (by decide)]; unfold qz_I; rw [xc_t hB2 (by rw [v7]; decide)]
      exact (q2.2.2.2.1 12 (by decide) (by decide) (by decide) (by decide)).trans ec
  · skip
    have t7 : τ1 770 = 75 := I1.2.1 770 (by decide)
    have en : pn g = pn h := a.2.2.2.2.2.2.2.1 10 (by decide) (by decide)
    have ec : lc g = lc h := a.2.2.2.2.2.2.2.1 12 (by decide) (by decide)
    have b10 : 0 ≤ pn g ∧ pn g ≤ 38500 := ez_fB (cl := 11) (k := 10) I1.1 t7 tq_75 rfl rfl (by decide)
    have cr := a.2.2.2.2.2.2.2.2.2
    refine rd_mlE (d := d + 9) (n := pn h) (xc_B I1.1 (by omega) (by omega)) t7 (by omega) (by omega) (fun g3 hB3 f3 j3 p3 z3 => kC hs g3 τ1 Ls 0 (I1.f7 hB3 (fun q hq h7 => by rw [f3.2.2 q (dz_beq_ne h7), xc_t I1.1 hq]) (fun j j1 j2 => ?_)) ((fw_xc (fw_aq a hI.1 hI.2.1) I1.1 t7 f3 j3).mono (by omega)) ⟨fun e => absurd e (by decide), fun e => absurd e (by decide), fun _ _ => ⟨rfl, rfl⟩⟩ (Or.inl ?_) (Or.inr ⟨z3, rz_an_n hno, rfl⟩))
    · by_cases e : j = 10
      · subst e; exact p3.trans en.symm
      · rw [j3 j (by omega) e]; unfold qz_I; rw [xc_t I1.1 (by rw [t7]; decide)]
    · show qz_I g3 770 12 = qz_I h 770 12
      rw [j3 12 (by decide) (by decide)]; unfold qz_I; rw [xc_t I1.1 (by rw [t7]; decide)]
      exact ec
theorem rd_mline29 (hI : mI9 τ h Ls 0) (hlc : qz_I h 770 2 = 0 ∨ lc h ≤ 255) (hr1 : h.1 + 25000 ≤ 600192) (hr2 : h.2.1 + 900000 ≤ 7302232) (kS : qz_I h 770 7 ≠ 0 → ∀ g, mI9 τ g Ls 0 → ez_fr (ez_one 770) h g → (∀ j, j ≠ 0 → qz_I g 770 j = qz_I h 770 j) → qz_I g 770 0 = 2 → Q (.inl (some (ez_v (.inl 0))), g)) (kC : qz_I h 770 7 = 0 → ∀ g τ1 Ls2 v, mI9 τ1 g Ls2 0 → fw τ h τ1 g (45 * qz_I h 770 2 + 100) → rz_step (mb h) (qz_I h 770 2) 2 (vF9 Ls) (vE9 Ls) (vF9 Ls2) (vE9 Ls2) → (lc g = lc h ∨ (lc g = lc h + 1 ∧ 0 < qz_I h 770 2)) → ((qz_I g 770 0 = 0 ∧ v ≠ -1 ∧ rz_an (mb h) (qz_I h 770 2) 3 (rz_g2 (mb h)) v ∧ ∃ x : vz9, Ls2 = Ls ++ [x] ∧ lyE (mb h) (qz_I h 770 2) 2 x.2.2.2.2.2.2) ∨ (qz_I g 770 0 = 3 ∧ rz_an (mb h) (qz_I h 770 2) 3 (rz_g2 (mb h)) (-1) ∧ Ls2 = Ls)) → Q (.inl (some (ez_v (.inl v))), g)) : ez_W (d + 10) cm_276 0 [(0, .inr (.inr (some (770)))), (1, .inl (2))] [] h Q := by
  have b2 : 0 ≤ qz_I h 770 2 ∧ qz_I h 770 2 ≤ 4096 := ez_fB (cl := 11) (k := 2) hI.1 (hI.2.1 770 (by decide)) tq_75 rfl rfl (by decide)
  refine rd_mlA29 (d := d + 2) hI (by omega) (by omega) kS (fun hs l g τ1 A a I1 hA hfl => ?_) (fun hs l g τ1 a I1 hno => ?_)
  · skip
    have t7 : τ1 770 = 75 := I1.2.1 770 (by decide)
    have hl3 := a.2.1
    have l78 := ez_l78 I1.1 hl3.1
    have hlz : lz l := ⟨fun e => (by have t := hl3.1; rw [e, t7] at t; cases t), fun e => (by have t := hl3.1; rw [e, I1.2.1 771 (by decide)] at t; cases t), fun e => (by have t := hl3.1; rw [e, I1.2.1 789 (by decide)] at t; cases t), fun e => (by have t := hl3.1; rw [e, I1.2.1 790 (by decide)] at t; cases t)⟩
    have tt := ez_tls I1.1 t7
    have usp : τ1 (qz_P g l 7) = 15 := by rw [l78.1]; exact hl3.2.1
    have ucp : τ1 (qz_P g l 8) = 16 := by rw [l78.2]; exact hl3.2.2
    have eb : mb g = mb h := funext fun k => by unfold mb qz_I; rw [a.c hI.2.1 (hI.2.1 771 (by decide)) rfl]
    have a8 := a.2.2.2.2.2.2.2.1
    have en : pn g = pn h := a8 10 (by decide) (by decide)
    have ec : lc g = lc h := a8 12 (by decide) (by decide)
    have hbn : 0 < qz_I h 770 2 := rz_A_pos (by decide) hA
    have hlc2 : lc h ≤ 255 := by omega
    have b10 : 0 ≤ pn g ∧ pn g ≤ 38500 := ez_fB (cl := 11) (k := 10) I1.1 t7 tq_75 rfl rfl (by decide)
    have nN : 1024 ≤ qz_N g (po g) ∧ qz_N g (po g) ≤ 77100 := ez_len I1.1 tt.2 tq_17 rfl
    have np := I1.2.2.1.2.2
    have FF : ∀ k, 0 ≤ k → k < 3 → (0 ≤ mf g k ∧ mf g k ≤ mt g k) ∧ mt g k ≤ qz_I h 770 2 ∧ (mf g k < mt g k → ¬ bk (mb g (mf g k)) ∧ ¬ bk (mb g (mt g k - 1))) ∧ (∀ j, mf g k ≤ j → j < mt g k → 0 ≤ mb g j ∧ mb g j ≤ 127) := fun k k0 k1 => by rw [(hfl k k0 k1).1, (hfl k k0 k1).2, eb]; exact rz_A_fl hA b2.2 k0 (by show k < ((3 : Nat) : Int); omega)
    have hF : ∀ k, 0 ≤ k → k < 3 → (0 ≤ mf g k ∧ mf g k ≤ mt g k) ∧ mt g k ≤ 4096 := fun k k0 k1 => ⟨(FF k k0 k1).1, by have := (FF k k0 k1).2.1; omega⟩
    have hTr : ∀ k, 0 ≤ k → k < 3 → mf g k < mt g k → ¬ bk (mb g (mf g k)) ∧ ¬ bk (mb g (mt g k - 1)) := fun k k0 k1 => (FF k k0 k1).2.2.1
    have hnl := nl_aq9 hI a
    have hlg0 : l2 (l + 1) (l + 2) g := ⟨fun j => by rw [a.2.2.2.1, a.2.2.2.2.1]; omega, by rw [a.2.2.2.1, a.2.2.2.2.1]; omega⟩
    have hl2 : l2 (qz_P g l 7) (qz_P g l 8) g := by rw [l78.1, l78.2]; exact hlg0
    have hc0 : ∀ j, qz_I g (qz_P g l 8) j = 0 := fun j => by rw [l78.2]; exact a.2.2.2.2.1 j
    have cr := a.2.2.2.2.2.2.2.2.2
    refine ez_go (n := 1) (pc' := 97) (L' := [(3, .inr (.inr (some (l)))), (2, .inl (pn h)), (0, .inr (.inr (some (770)))), (1, .inl (2))]) (st' := [.inl (2)]) rfl ?_
    refine ez_if rfl rfl ⟨by decide, by decide⟩ (fun _ => ?_) (fun (c1 : ¬((2 : Int) ≠ (0))) => absurd c1 (by decide))
    refine ez_go (n := 2) (pc' := 110) (L' := [(3, .inr (.inr (some (l)))), (2, .inl (pn h)), (0, .inr (.inr (some (770)))), (1, .inl (2))]) (st' := [.inl (1), .inl (2)]) rfl ?_
    refine ez_icmp rfl rfl ⟨by decide, by decide⟩ ⟨by decide, by decide⟩ (fun _ => ?_) (fun (c2 : ¬((2 : Int) ≠ (1))) => absurd c2 (by decide))
    refine ez_go (n := 2) (pc' := 123) (L' := [(3, .inr (.inr (some (l)))), (2, .inl (pn h)), (0, .inr (.inr (some (770)))), (1, .inl (2))]) (st' := [.inl (2), .inl (2)]) rfl ?_
    refine ez_icmp rfl rfl ⟨by decide, by decide⟩ ⟨by decide, by decide⟩ (fun (c3 : (2 : Int) ≠ (2)) => absurd c3 (by decide)) (fun _ => ?_)
    refine ez_go (n := 2) (pc' := 128) (L' := [(3, .inr (.inr (some (l)))), (2, .inl (pn h)), (0, .inr (.inr (some (770)))), (1, .inl (2))]) (st' := [.inr (.inr (some (l))), .inr (.inr (some (770)))]) rfl ?_
    refine ez_cv I1.1 t7 rfl rfl rfl tq_75 rfl rfl rfl (rd_folding9 (d := d) I1.1 t7 hl3.1 hlz usp ucp tt.2 b10.1 I1.2.2.1.1.2 (by omega) nN.1 (by omega) (by omega) hl2.1 hc0 hF hTr (fun g2 τ2 A2 hB2 hp hA2 hk hG9 h12 h1c h5c hvs => ez_K0 ?_) (fun g2 τ2 A2 hB2 hp hk hnG => ez_Kc (xc_exc hB2 rfl) rfl ?_))
    · skip
      rw [l78.1, l78.2] at hp
      have k2 : qz_I g2 l 0 = 2 := hk.trans a.2.2.1.1
      have q2 := hp.1.lq
      have lg2 := hp.2
      have h42 : qz_I g2 l 0 = 4 → qz_I g2 (l + 1) 1 + 4 * qz_I g2 (l + 2) 1 ≤ qz_N g2 (po g2) := fun w => by omega
      have v7 : τ2 770 = 75 := (q2.1 770 (by rw [t7]; decide)).1.trans t7
      have hl4 : τ2 l = 13 ∧ τ2 (l + 1) = 15 ∧ τ2 (l + 2) = 16 := ⟨(q2.1 l (by rw [hl3.1]; decide)).1.trans hl3.1, (q2.1 _ (by rw [hl3.2.1]; decide)).1.trans hl3.2.1, (q2.1 _ (by rw [hl3.2.2]; decide)).1.trans hl3.2.2⟩
      have II := I1.lq hl3 hnl q2 hB2 lg2 h42
      have rr := q2.2.2.2.2.2.2.2.2.1
      have rp := pool_le hB2 q2.2.2.1
      have fq := fw_lq (fw_aq a hI.1 hI.2.1) q2 I1.1 t7 a.1 hl3
      refine ez_go (n := 2) (pc' := 168) (L' := [(3, .inr (.inr (some (l)))), (2, .inl (pn h)), (0, .inr (.inr (some (770)))), (1, .inl (2))]) (st' := []) rfl ?_
      refine ez_less [(1, .inl (2)), (3, .inr (.inr (some (l)))), (0, .inr (.inr (some (770))))] rfl ⟨rfl, rfl, rfl, trivial⟩ ?_
      obtain ⟨vs, e9, w2⟩ := hvs
      rw [eb, (hfl 0 (by omega) (by omega)).1, (hfl 0 (by omega) (by omega)).2] at h1c
      rw [eb, (hfl 1 (by omega) (by omega)).1] at h5c
      rw [eb, (hfl 2 (by omega) (by omega)).1, (hfl 2 (by omega) (by omega)).2] at e9
      rw [l78.1, l78.2] at w2
      have hvx : vx g2 l (((2 : Int), rz_code (mb h) (rz_ff (mb h) A 0) (rz_tt (mb h) A 0), rz_code (mb h) (rz_ff (mb h) A 0) (rz_tt (mb h) A 0)), ((0 : Int), (0 : Int), (0 : Int), (0 : Int)), (mb h (rz_ff (mb h) A 1), (0 : Int)), ((0 : Int), vs, ([] : List Int), ([] : List Int))) := ⟨k2, fun e => absurd e (by show ¬ (2 : Int) = 0; decide), fun e => absurd e (by show ¬ (2 : Int) = 1; decide), fun _ => ⟨⟨h1c, rfl⟩, h5c, w2⟩, fun e => absurd e (by show ¬ (2 : Int) = 3; decide)⟩
      have hly : lyE (mb h) (qz_I h 770 2) 2 (((2 : Int), rz_code (mb h) (rz_ff (mb h) A 0) (rz_tt (mb h) A 0), rz_code (mb h) (rz_ff (mb h) A 0) (rz_tt (mb h) A 0)), ((0 : Int), (0 : Int), (0 : Int), (0 : Int)), (mb h (rz_ff (mb h) A 1), (0 : Int)), ((0 : Int), vs, ([] : List Int), ([] : List Int))) := Or.inr (Or.inr (Or.inl ⟨rfl, A, vs, hA, e9, rfl⟩))
      have hA75 : ((A2).length : Int) ≤ 75 := by omega
      have hvc : vc9 g2 l ((2 : Int), qz_I g2 l 1, qz_I g2 l 2, qz_I g2 l 4, qz_I g2 l 5, ([] : List Int), (((2 : Int), rz_code (mb h) (rz_ff (mb h) A 0) (rz_tt (mb h) A 0), rz_code (mb h) (rz_ff (mb h) A 0) (rz_tt (mb h) A 0)), ((0 : Int), (0 : Int), (0 : Int), (0 : Int)), (mb h (rz_ff (mb h) A 1), (0 : Int)), ((0 : Int), vs, ([] : List Int), ([] : List Int)))) := ⟨⟨k2, rfl, rfl, rfl, rfl⟩, fun e => absurd e (by show ¬ (2 : Int) = 0; decide)⟩
      have hst : rz_step (mb h) (qz_I h 770 2) 2 (vF9 Ls) (vE9 Ls) (vF9 (Ls ++ [((2 : Int), qz_I g2 l 1, qz_I g2 l 2, qz_I g2 l 4, qz_I g2 l 5, ([] : List Int), (((2 : Int), rz_code (mb h) (rz_ff (mb h) A 0) (rz_tt (mb h) A 0), rz_code (mb h) (rz_ff (mb h) A 0) (rz_tt (mb h) A 0)), ((0 : Int), (0 : Int), (0 : Int), (0 : Int)), (mb h (rz_ff (mb h) A 1), (0 : Int)), ((0 : Int), vs, ([] : List Int), ([] : List Int))))])) (vE9 (Ls ++ [((2 : Int), qz_I g2 l 1, qz_I g2 l 2, qz_I g2 l 4, qz_I g2 l 5, ([] : List Int), (((2 : Int), rz_code (mb h) (rz_ff (mb h) A 0) (rz_tt (mb h) A 0), rz_code (mb h) (rz_ff (mb h) A 0) (rz_tt (mb h) A 0)), ((0 : Int), (0 : Int), (0 : Int), (0 : Int)), (mb h (rz_ff (mb h) A 1), (0 : Int)), ((0 : Int), vs, ([] : List Int), ([] : List Int))))])) := by
        rw [vF_app9, vE_app9]
        exact ⟨fun e => absurd e (by decide), fun e => absurd e (by decide), fun _ _ => ⟨vf_no9 (by show (2 : Int) ≠ 0; decide), ve_no9 (Or.inl (by show (2 : Int) ≠ 3; decide))⟩⟩
      have hans : ∀ v, v = (if (2 : Int) = 4 then qz_I g2 (qz_P g2 l 8) 0 else qz_I g2 l 2 - qz_I g2 l 1 + 1) → v ≠ -1 ∧ rz_an (mb h) (qz_I h 770 2) 3 (rz_g2 (mb h)) v := fun v hv => by
        rw [if_neg (by decide)] at hv
        unfold rz_G2 at hG9
        rw [eb, (hfl 0 (by omega) (by omega)).1, (hfl 0 (by omega) (by omega)).2, (hfl 1 (by omega) (by omega)).1, (hfl 1 (by omega) (by omega)).2, (hfl 2 (by omega) (by omega)).1, (hfl 2 (by omega) (by omega)).2] at hG9
        exact ⟨by omega, Or.inl ⟨A, hA, hG9, by omega⟩⟩
      have I2 := II.1
      have ec2 : lc g2 = lc h := (q2.2.2.2.1 12 (by decide) (by decide) (by decide) (by decide)).trans ec
      have tcp2 : τ2 (qz_P g2 l 8) = 16 := by rw [(ez_l78 hB2 hl4.1).2]; exact hl4.2.2
      refine rd_ml hB2 v7 hl4.1 (ez_tls hB2 v7).1 tcp2 ⟨by omega, by omega⟩ I2.2.2.1.1.1 (by omega) I2.2.2.1.2.1 I2.2.2.2.1.1 (by omega) (by omega) (fun g3 τ3 v hB3 u hv => kC hs g3 τ3 _ v (mI9.lu (x := ((2 : Int), qz_I g2 l 1, qz_I g2 l 2, qz_I g2 l 4, qz_I g2 l 5, ([] : List Int), (((2 : Int), rz_code (mb h) (rz_ff (mb h) A 0) (rz_tt (mb h) A 0), rz_code (mb h) (rz_ff (mb h) A 0) (rz_tt (mb h) A 0)), ((0 : Int), (0 : Int), (0 : Int), (0 : Int)), (mb h (rz_ff (mb h) A 1), (0 : Int)), ((0 : Int), vs, ([] : List Int), ([] : List Int))))) I2 hA75 hl4 (nl_lq9 I1 hl3 q2 hnl) u hB3 ⟨hvc, hvx⟩) ((fw_lu fq u hB2 v7).mono (by omega)) hst (Or.inr ⟨by rw [u.2.2.2.2.1, ec2], hbn⟩) (Or.inl ⟨by rw [u.2.2.2.1 0 (by decide) (by decide) (by decide), q2.2.2.2.1 0 (by decide) (by decide) (by decide) (by decide)]; exact cr.2.2.2.2, (hans v hv).1, (hans v hv).2, ((2 : Int), qz_I g2 l 1, qz_I g2 l 2, qz_I g2 l 4, qz_I g2 l 5, ([] : List Int), (((2 : Int), rz_code (mb h) (rz_ff (mb h) A 0) (rz_tt (mb h) A 0), rz_code (mb h) (rz_ff (mb h) A 0) (rz_tt (mb h) A 0)), ((0 : Int), (0 : Int), (0 : Int), (0 : Int)), (mb h (rz_ff (mb h) A 1), (0 : Int)), ((0 : Int), vs, ([] : List Int), ([] : List Int)))), rfl, hly⟩))
    · skip
      rw [l78.1, l78.2] at hp
      have k2 : qz_I g2 l 0 = 2 := hk.trans a.2.2.1.1
      have q2 := hp.1.lq
      have lg2 := hp.2
      have h42 : qz_I g2 l 0 = 4 → qz_I g2 (l + 1) 1 + 4 * qz_I g2 (l + 2) 1 ≤ qz_N g2 (po g2) := fun w => by omega
      have v7 : τ2 770 = 75 := (q2.1 770 (by rw [t7]; decide)).1.trans t7
      have hl4 : τ2 l = 13 ∧ τ2 (l + 1) = 15 ∧ τ2 (l + 2) = 16 := ⟨(q2.1 l (by rw [hl3.1]; decide)).1.trans hl3.1, (q2.1 _ (by rw [hl3.2.1]; decide)).1.trans hl3.2.1, (q2.1 _ (by rw [hl3.2.2]; decide)).1.trans hl3.2.2⟩
      have II := I1.lq hl3 hnl q2 hB2 lg2 h42
      have rr := q2.2.2.2.2.2.2.2.2.1
      have rp := pool_le hB2 q2.2.2.1
      have fq := fw_lq (fw_aq a hI.1 hI.2.1) q2 I1.1 t7 a.1 hl3
      have hst : rz_step (mb h) (qz_I h 770 2) 2 (vF9 Ls) (vE9 Ls) (vF9 Ls) (vE9 Ls) := ⟨fun e => absurd e (by decide), fun e => absurd e (by decide), fun _ _ => ⟨rfl, rfl⟩⟩
      have hnan : rz_an (mb h) (qz_I h 770 2) 3 (rz_g2 (mb h)) (-1) := rz_an_f hA (fun v w => hnG (by have w1 := w.1; unfold rz_G2 at w1 ⊢; rw [eb, (hfl 0 (by omega) (by omega)).1, (hfl 0 (by omega) (by omega)).2, (hfl 1 (by omega) (by omega)).1, (hfl 1 (by omega) (by omega)).2, (hfl 2 (by omega) (by omega)).1, (hfl 2 (by omega) (by omega)).2]; exact w1))
      refine ez_less [(3, .inr (.inr (some (l)))), (2, .inl (pn h)), (0, .inr (.inr (some (770)))), (1, .inl (2))] rfl ⟨rfl, rfl, rfl, rfl, trivial⟩ ?_
      refine rd_mlE (d := d + 9) (n := pn h) (xc_B hB2 (by omega) (by omega)) v7 (by omega) (by omega) (fun g3 hB3 f3 j3 p3 z3 => kC hs g3 τ2 Ls 0 (II.2 0 (by omega) g3 hB3 (fun q hq h7 => by rw [f3.2.2 q (dz_beq_ne h7), xc_t hB2 hq]) (fun j j0 j10 => by rw [j3 j j0 j10]; unfold qz_I; rw [xc_t hB2 (by rw [v7]; decide)]) (by rw [p3, en]; omega) (by omega)) ((fw_xc fq hB2 v7 f3 j3).mono (by omega)) hst (Or.inl ?_) (Or.inr ⟨z3, hnan, rfl⟩))
      show qz_I g3 770 12 = qz_I h 770 12
      rw [j3 12 (by decide) (by decide)]; unfold qz_I; rw [xc_t hB2 (by rw [v7]; decide)]
      exact (q2.2.2.2.1 12 (by decide) (by decide) (by decide) (by decide)).trans ec
  · skip
    have t7 : τ1 770 = 75 := I1.2.1 770 (by decide)
    have en : pn g = pn h := a.2.2.2.2.2.2.2.1 10 (by decide) (by decide)
    have ec : lc g = lc h := a.2.2.2.2.2.2.2.1 12 (by decide) (by decide)
    have b10 : 0 ≤ pn g ∧ pn g ≤ 38500 := ez_fB (cl := 11) (k := 10) I1.1 t7 tq_75 rfl rfl (by decide)
    have cr := a.2.2.2.2.2.2.2.2.2
    refine rd_mlE (d := d + 9) (n := pn h) (xc_B I1.1 (by omega) (by omega)) t7 (by omega) (by omega) (fun g3 hB3 f3 j3 p3 z3 => kC hs g3 τ1 Ls 0 (I1.f7 hB3 (fun q hq h7 => by rw [f3.2.2 q (dz_beq_ne h7), xc_t I1.1 hq]) (fun j j1 j2 => ?_)) ((fw_xc (fw_aq a hI.1 hI.2.1) I1.1 t7 f3 j3).mono (by omega)) ⟨fun e => absurd e (by decide), fun e => absurd e (by decide), fun _ _ => ⟨rfl, rfl⟩⟩ (Or.inl ?_) (Or.inr ⟨z3, rz_an_n hno, rfl⟩))
    · by_cases e : j = 10
      · subst e; exact p3.trans en.symm
      · rw [j3 j (by omega) e]; unfold qz_I; rw [xc_t I1.1 (by rw [t7]; decide)]
    · show qz_I g3 770 12 = qz_I h 770 12
      rw [j3 12 (by decide) (by decide)]; unfold qz_I; rw [xc_t I1.1 (by rw [t7]; decide)]
      exact ec
theorem rd_mline39 (hI : mI9 τ h Ls 0) (hlc : qz_I h 770 2 = 0 ∨ lc h ≤ 255) (hr1 : h.1 + 25000 ≤ 600192) (hr2 : h.2.1 + 900000 ≤ 7302232) (kS : qz_I h 770 7 ≠ 0 → ∀ g, mI9 τ g Ls 0 → ez_fr (ez_one 770) h g → (∀ j, j ≠ 0 → qz_I g 770 j = qz_I h 770 j) → qz_I g 770 0 = 2 → Q (.inl (some (ez_v (.inl 0))), g)) (kC : qz_I h 770 7 = 0 → ∀ g τ1 Ls2 v, mI9 τ1 g Ls2 0 → fw τ h τ1 g (45 * qz_I h 770 2 + 100) → rz_step (mb h) (qz_I h 770 2) 3 (vF9 Ls) (vE9 Ls) (vF9 Ls2) (vE9 Ls2) → (lc g = lc h ∨ (lc g = lc h + 1 ∧ 0 < qz_I h 770 2)) → ((qz_I g 770 0 = 0 ∧ v ≠ -1 ∧ rz_an (mb h) (qz_I h 770 2) 2 (rz_g3 (mb h)) v ∧ ∃ x : vz9, Ls2 = Ls ++ [x] ∧ lyE (mb h) (qz_I h 770 2) 3 x.2.2.2.2.2.2) ∨ (qz_I g 770 0 = 3 ∧ rz_an (mb h) (qz_I h 770 2) 2 (rz_g3 (mb h)) (-1) ∧ Ls2 = Ls)) → Q (.inl (some (ez_v (.inl v))), g)) : ez_W (d + 10) cm_276 0 [(0, .inr (.inr (some (770)))), (1, .inl (3))] [] h Q := by
  have b2 : 0 ≤ qz_I h 770 2 ∧ qz_I h 770 2 ≤ 4096 := ez_fB (cl := 11) (k := 2) hI.1 (hI.2.1 770 (by decide)) tq_75 rfl rfl (by decide)
  refine rd_mlA39 (d := d + 2) hI (by omega) (by omega) kS (fun hs l g τ1 A a I1 hA hfl => ?_) (fun hs l g τ1 a I1 hno => ?_)
  · skip
    have t7 : τ1 770 = 75 := I1.2.1 770 (by decide)
    have hl3 := a.2.1
    have l78 := ez_l78 I1.1 hl3.1
    have hlz : lz l := ⟨fun e => (by have t := hl3.1; rw [e, t7] at t; cases t), fun e => (by have t := hl3.1; rw [e, I1.2.1 771 (by decide)] at t; cases t), fun e => (by have t := hl3.1; rw [e, I1.2.1 789 (by decide)] at t; cases t), fun e => (by have t := hl3.1; rw [e, I1.2.1 790 (by decide)] at t; cases t)⟩
    have tt := ez_tls I1.1 t7
    have usp : τ1 (qz_P g l 7) = 15 := by rw [l78.1]; exact hl3.2.1
    have ucp : τ1 (qz_P g l 8) = 16 := by rw [l78.2]; exact hl3.2.2
    have eb : mb g = mb h := funext fun k => by unfold mb qz_I; rw [a.c hI.2.1 (hI.2.1 771 (by decide)) rfl]
    have a8 := a.2.2.2.2.2.2.2.1
    have en : pn g = pn h := a8 10 (by decide) (by decide)
    have ec : lc g = lc h := a8 12 (by decide) (by decide)
    have hbn : 0 < qz_I h 770 2 := rz_A_pos (by decide) hA
    have hlc2 : lc h ≤ 255 := by omega
    have b10 : 0 ≤ pn g ∧ pn g ≤ 38500 := ez_fB (cl := 11) (k := 10) I1.1 t7 tq_75 rfl rfl (by decide)
    have nN : 1024 ≤ qz_N g (po g) ∧ qz_N g (po g) ≤ 77100 := ez_len I1.1 tt.2 tq_17 rfl
    have np := I1.2.2.1.2.2
    have FF : ∀ k, 0 ≤ k → k < 2 → (0 ≤ mf g k ∧ mf g k ≤ mt g k) ∧ mt g k ≤ qz_I h 770 2 ∧ (mf g k < mt g k → ¬ bk (mb g (mf g k)) ∧ ¬ bk (mb g (mt g k - 1))) ∧ (∀ j, mf g k ≤ j → j < mt g k → 0 ≤ mb g j ∧ mb g j ≤ 127) := fun k k0 k1 => by rw [(hfl k k0 k1).1, (hfl k k0 k1).2, eb]; exact rz_A_fl hA b2.2 k0 (by show k < ((2 : Nat) : Int); omega)
    have hF : ∀ k, 0 ≤ k → k < 2 → (0 ≤ mf g k ∧ mf g k ≤ mt g k) ∧ mt g k ≤ 4096 := fun k k0 k1 => ⟨(FF k k0 k1).1, by have := (FF k k0 k1).2.1; omega⟩
    have hTr : ∀ k, 0 ≤ k → k < 2 → mf g k < mt g k → ¬ bk (mb g (mf g k)) ∧ ¬ bk (mb g (mt g k - 1)) := fun k k0 k1 => (FF k k0 k1).2.2.1
    have hnl := nl_aq9 hI a
    have hlg0 : l2 (l + 1) (l + 2) g := ⟨fun j => by rw [a.2.2.2.1, a.2.2.2.2.1]; omega, by rw [a.2.2.2.1, a.2.2.2.2.1]; omega⟩
    have hl2 : l2 (qz_P g l 7) (qz_P g l 8) g := by rw [l78.1, l78.2]; exact hlg0
    have hc0 : ∀ j, qz_I g (qz_P g l 8) j = 0 := fun j => by rw [l78.2]; exact a.2.2.2.2.1 j
    have cr := a.2.2.2.2.2.2.2.2.2
    refine ez_go (n := 1) (pc' := 97) (L' := [(3, .inr (.inr (some (l)))), (2, .inl (pn h)), (0, .inr (.inr (some (770)))), (1, .inl (3))]) (st' := [.inl (3)]) rfl ?_
    refine ez_if rfl rfl ⟨by decide, by decide⟩ (fun _ => ?_) (fun (c1 : ¬((3 : Int) ≠ (0))) => absurd c1 (by decide))
    refine ez_go (n := 2) (pc' := 110) (L' := [(3, .inr (.inr (some (l)))), (2, .inl (pn h)), (0, .inr (.inr (some (770)))), (1, .inl (3))]) (st' := [.inl (1), .inl (3)]) rfl ?_
    refine ez_icmp rfl rfl ⟨by decide, by decide⟩ ⟨by decide, by decide⟩ (fun _ => ?_) (fun (c2 : ¬((3 : Int) ≠ (1))) => absurd c2 (by decide))
    refine ez_go (n := 2) (pc' := 123) (L' := [(3, .inr (.inr (some (l)))), (2, .inl (pn h)), (0, .inr (.inr (some (770)))), (1, .inl (3))]) (st' := [.inl (2), .inl (3)]) rfl ?_
    refine ez_icmp rfl rfl ⟨by decide, by decide⟩ ⟨by decide, by decide⟩ (fun _ => ?_) (fun (c3 : ¬((3 : Int) ≠ (2))) => absurd c3 (by decide))
    refine ez_go (n := 2) (pc' := 136) (L' := [(3, .inr (.inr (some (l)))), (2, .inl (pn h)), (0, .inr (.inr (some (770)))), (1, .inl (3))]) (st' := [.inl (3), .inl (3)]) rfl ?_
    refine ez_icmp rfl rfl ⟨by decide, by decide⟩ ⟨by decide, by decide⟩ (fun (c4 : (3 : Int) ≠ (3)) => absurd c4 (by decide)) (fun _ => ?_)
    refine ez_go (n := 2) (pc' := 141) (L' := [(3, .inr (.inr (some (l)))), (2, .inl (pn h)), (0, .inr (.inr (some (770)))), (1, .inl (3))]) (st' := [.inr (.inr (some (l))), .inr (.inr (some (770)))]) rfl ?_
    refine ez_cv I1.1 t7 rfl rfl rfl tq_75 rfl rfl rfl (rd_property9 (d := d) I1.1 t7 hl3.1 hlz I1.2.2.2.2.2.1.1 I1.2.2.2.2.2.1.2 (fun s w hs => (nz_hz I1.1 I1.2.1 s w hs).1) (hF 0 (by omega) (by omega)) (hF 1 (by omega) (by omega)) (FF 1 (by omega) (by omega)).2.2.2 (by omega) (by omega) (fun hrg hG9 g2 τ2 hB2 hp y1 y2 y5 ypv yo r1 r2 => ez_K0 ?_) (fun hno hnG g2 τ2 hB2 hp r1 r2 => ez_Kc (xc_exc hB2 rfl) rfl ?_))
    · skip
      have F1 := FF 1 (by omega) (by omega)
      have q2 := hp.lq (X := lX l (l + 1) (l + 2)) (e := 5 * (mt g 1 - mf g 1) + 40) (lX_l _ _ _) t7 hl3.1 tt.2 I1.2.2.1.1.2 (by omega) (by omega)
      have lg2 := hlg0.1.py hp t7 hl3.1 hl3.2.1 hl3.2.2 tt.2
      have z1 : ∀ j, qz_I g2 (l + 1) j = 0 := fun j => by rw [← a.2.2.2.1 j]; unfold qz_I; rw [(hp.1 (l + 1) (by rw [hl3.2.1]; decide)).2 (fun e => by have t := hl3.2.1; rw [e, t7] at t; cases t) (by omega) (by rw [hl3.2.1]; decide) (by rw [hl3.2.1]; decide)]
      have z2 : ∀ j, qz_I g2 (l + 2) j = 0 := fun j => by rw [← a.2.2.2.2.1 j]; unfold qz_I; rw [(hp.1 (l + 2) (by rw [hl3.2.2]; decide)).2 (fun e => by have t := hl3.2.2; rw [e, t7] at t; cases t) (by omega) (by rw [hl3.2.2]; decide) (by rw [hl3.2.2]; decide)]
      have nn0 := qz_N_nn g2 (po g2)
      have h42 : qz_I g2 l 0 = 4 → qz_I g2 (l + 1) 1 + 4 * qz_I g2 (l + 2) 1 ≤ qz_N g2 (po g2) := fun _ => by rw [z1, z2]; omega
      have v7 : τ2 770 = 75 := (q2.1 770 (by rw [t7]; decide)).1.trans t7
      have hl4 : τ2 l = 13 ∧ τ2 (l + 1) = 15 ∧ τ2 (l + 2) = 16 := ⟨(q2.1 l (by rw [hl3.1]; decide)).1.trans hl3.1, (q2.1 _ (by rw [hl3.2.1]; decide)).1.trans hl3.2.1, (q2.1 _ (by rw [hl3.2.2]; decide)).1.trans hl3.2.2⟩
      have II := I1.lq hl3 hnl q2 hB2 lg2 h42
      have rr := q2.2.2.2.2.2.2.2.2.1
      have rp := pool_le hB2 q2.2.2.1
      have fq := fw_lq (fw_aq a hI.1 hI.2.1) q2 I1.1 t7 a.1 hl3
      refine ez_go (n := 2) (pc' := 168) (L' := [(3, .inr (.inr (some (l)))), (2, .inl (pn h)), (0, .inr (.inr (some (770)))), (1, .inl (3))]) (st' := []) rfl ?_
      refine ez_less [(1, .inl (3)), (3, .inr (.inr (some (l)))), (0, .inr (.inr (some (770))))] rfl ⟨rfl, rfl, rfl, trivial⟩ ?_
      obtain ⟨gr, nm, p1, p2, p3⟩ := ypv
      have pb := rz_PV_bd p1 hG9
      rw [eb, (hfl 1 (by omega) (by omega)).1, (hfl 1 (by omega) (by omega)).2] at p1
      have hvx : vx g2 l (((3 : Int), rz_first (mb h) (rz_ff (mb h) A 0) (rz_tt (mb h) A 0), rz_last (mb h) (rz_ff (mb h) A 0) (rz_tt (mb h) A 0)), ((0 : Int), (0 : Int), (0 : Int), (0 : Int)), (gr, nm), ((0 : Int), ([] : List Int), ([] : List Int), ([] : List Int))) := by
        refine ⟨(yo 0 (by decide) (by decide) (by decide) (by decide)).trans a.2.2.1.1, fun e => absurd e (by show ¬ (3 : Int) = 0; decide), fun e => absurd e (by show ¬ (3 : Int) = 1; decide), fun e => absurd e (by show ¬ (3 : Int) = 2; decide), fun _ => ⟨⟨?_, ?_⟩, p2, p3, pb⟩⟩
        · show qz_I g2 l 1 = rz_first (mb h) (rz_ff (mb h) A 0) (rz_tt (mb h) A 0)
          rw [y1, eb, (hfl 0 (by omega) (by omega)).1, (hfl 0 (by omega) (by omega)).2]
        · show qz_I g2 l 2 = rz_last (mb h) (rz_ff (mb h) A 0) (rz_tt (mb h) A 0)
          rw [y2, eb, (hfl 0 (by omega) (by omega)).1, (hfl 0 (by omega) (by omega)).2]
      have hly : lyE (mb h) (qz_I h 770 2) 3 (((3 : Int), rz_first (mb h) (rz_ff (mb h) A 0) (rz_tt (mb h) A 0), rz_last (mb h) (rz_ff (mb h) A 0) (rz_tt (mb h) A 0)), ((0 : Int), (0 : Int), (0 : Int), (0 : Int)), (gr, nm), ((0 : Int), ([] : List Int), ([] : List Int), ([] : List Int))) := Or.inr (Or.inr (Or.inr (Or.inl ⟨rfl, A, gr, nm, hA, p1, rfl⟩)))
      have hA75 : (([] : List Int).length : Int) ≤ 75 := by decide
      have hvc : vc9 g2 l ((3 : Int), rz_first (mb g) (mf g 0) (mt g 0), rz_last (mb g) (mf g 0) (mt g 0), qz_I g2 l 4, qz_I g2 l 5, ([] : List Int), (((3 : Int), rz_first (mb h) (rz_ff (mb h) A 0) (rz_tt (mb h) A 0), rz_last (mb h) (rz_ff (mb h) A 0) (rz_tt (mb h) A 0)), ((0 : Int), (0 : Int), (0 : Int), (0 : Int)), (gr, nm), ((0 : Int), ([] : List Int), ([] : List Int), ([] : List Int)))) := ⟨⟨(yo 0 (by decide) (by decide) (by decide) (by decide)).trans a.2.2.1.1, y1, y2, rfl, rfl⟩, fun e => absurd e (by show ¬ (3 : Int) = 0; decide)⟩
      have f0 := hfl 0 (by omega) (by omega)
      have f1 := hfl 1 (by omega) (by omega)
      have hst : rz_step (mb h) (qz_I h 770 2) 3 (vF9 Ls) (vE9 Ls) (vF9 (Ls ++ [((3 : Int), rz_first (mb g) (mf g 0) (mt g 0), rz_last (mb g) (mf g 0) (mt g 0), qz_I g2 l 4, qz_I g2 l 5, ([] : List Int), (((3 : Int), rz_first (mb h) (rz_ff (mb h) A 0) (rz_tt (mb h) A 0), rz_last (mb h) (rz_ff (mb h) A 0) (rz_tt (mb h) A 0)), ((0 : Int), (0 : Int), (0 : Int), (0 : Int)), (gr, nm), ((0 : Int), ([] : List Int), ([] : List Int), ([] : List Int))))])) (vE9 (Ls ++ [((3 : Int), rz_first (mb g) (mf g 0) (mt g 0), rz_last (mb g) (mf g 0) (mt g 0), qz_I g2 l 4, qz_I g2 l 5, ([] : List Int), (((3 : Int), rz_first (mb h) (rz_ff (mb h) A 0) (rz_tt (mb h) A 0), rz_last (mb h) (rz_ff (mb h) A 0) (rz_tt (mb h) A 0)), ((0 : Int), (0 : Int), (0 : Int), (0 : Int)), (gr, nm), ((0 : Int), ([] : List Int), ([] : List Int), ([] : List Int))))])) := by
        rw [vF_app9, vE_app9]
        rw [eb, f0.1, f0.2] at hrg
        rw [eb, f1.1, f1.2] at y5
        refine ⟨fun e => absurd e (by decide), fun _ => ?_, fun _ e => absurd rfl e⟩
        by_cases ce : rz_CE (mb h) (rz_ff (mb h) A 1) (rz_tt (mb h) A 1)
        · refine Or.inl ⟨_, _, ⟨A, hA, ⟨rfl, rfl, hrg.1, hrg.2⟩, ce⟩, vf_no9 (by show (3 : Int) ≠ 0; decide), fun y => ?_⟩
          have z5 := y5.mpr ce
          show (vE9 Ls y ∨ ((3 : Int) = 3 ∧ qz_I g2 l 5 = 0 ∧ rz_first (mb g) (mf g 0) (mt g 0) ≤ y ∧ y ≤ rz_last (mb g) (mf g 0) (mt g 0))) ↔ _
          rw [eb, f0.1, f0.2]
          exact ⟨fun w => w.imp id (fun w => w.2.2), fun w => w.imp id (fun w => ⟨rfl, z5, w⟩)⟩
        · refine Or.inr ⟨?_, vf_no9 (by show (3 : Int) ≠ 0; decide), ve_no9 (Or.inr (fun e => ce (y5.mp e)))⟩
          rintro ⟨first, last, A', hA', -, hc'⟩
          rw [rz_A_uniq hA' hA] at hc'
          exact ce hc'
      have hans : ∀ v, v = (if (3 : Int) = 4 then qz_I g2 (qz_P g2 l 8) 0 else qz_I g2 l 2 - qz_I g2 l 1 + 1) → v ≠ -1 ∧ rz_an (mb h) (qz_I h 770 2) 2 (rz_g3 (mb h)) v := fun v hv => by
        rw [if_neg (by decide), y1, y2] at hv
        rw [eb, f0.1, f0.2] at hv hrg
        rw [eb, f1.1, f1.2] at hG9
        have b9 := rz_last_bd (mb h) (rz_ff (mb h) A 0) (rz_tt (mb h) A 0)
        exact ⟨by omega, Or.inl ⟨A, hA, hrg, hG9, hv⟩⟩
      have I2 := II.1
      have ec2 : lc g2 = lc h := (q2.2.2.2.1 12 (by decide) (by decide) (by decide) (by decide)).trans ec
      have tcp2 : τ2 (qz_P g2 l 8) = 16 := by rw [(ez_l78 hB2 hl4.1).2]; exact hl4.2.2
      refine rd_ml hB2 v7 hl4.1 (ez_tls hB2 v7).1 tcp2 ⟨by omega, by omega⟩ I2.2.2.1.1.1 (by omega) I2.2.2.1.2.1 I2.2.2.2.1.1 (by omega) (by omega) (fun g3 τ3 v hB3 u hv => kC hs g3 τ3 _ v (mI9.lu (x := ((3 : Int), rz_first (mb g) (mf g 0) (mt g 0), rz_last (mb g) (mf g 0) (mt g 0), qz_I g2 l 4, qz_I g2 l 5, ([] : List Int), (((3 : Int), rz_first (mb h) (rz_ff (mb h) A 0) (rz_tt (mb h) A 0), rz_last (mb h) (rz_ff (mb h) A 0) (rz_tt (mb h) A 0)), ((0 : Int), (0 : Int), (0 : Int), (0 : Int)), (gr, nm), ((0 : Int), ([] : List Int), ([] : List Int), ([] : List Int))))) I2 hA75 hl4 (nl_lq9 I1 hl3 q2 hnl) u hB3 ⟨hvc, hvx⟩) ((fw_lu fq u hB2 v7).mono (by omega)) hst (Or.inr ⟨by rw [u.2.2.2.2.1, ec2], hbn⟩) (Or.inl ⟨by rw [u.2.2.2.1 0 (by decide) (by decide) (by decide), q2.2.2.2.1 0 (by decide) (by decide) (by decide) (by decide)]; exact cr.2.2.2.2, (hans v hv).1, (hans v hv).2, ((3 : Int), rz_first (mb g) (mf g 0) (mt g 0), rz_last (mb g) (mf g 0) (mt g 0), qz_I g2 l 4, qz_I g2 l 5, ([] : List Int), (((3 : Int), rz_first (mb h) (rz_ff (mb h) A 0) (rz_tt (mb h) A 0), rz_last (mb h) (rz_ff (mb h) A 0) (rz_tt (mb h) A 0)), ((0 : Int), (0 : Int), (0 : Int), (0 : Int)), (gr, nm), ((0 : Int), ([] : List Int), ([] : List Int), ([] : List Int)))), rfl, hly⟩))
    · skip
      have F1 := FF 1 (by omega) (by omega)
      have q2 := hp.lq (X := lX l (l + 1) (l + 2)) (e := 5 * (mt g 1 - mf g 1) + 40) (lX_l _ _ _) t7 hl3.1 tt.2 I1.2.2.1.1.2 (by omega) (by omega)
      have lg2 := hlg0.1.py hp t7 hl3.1 hl3.2.1 hl3.2.2 tt.2
      have z1 : ∀ j, qz_I g2 (l + 1) j = 0 := fun j => by rw [← a.2.2.2.1 j]; unfold qz_I; rw [(hp.1 (l + 1) (by rw [hl3.2.1]; decide)).2 (fun e => by have t := hl3.2.1; rw [e, t7] at t; cases t) (by omega) (by rw [hl3.2.1]; decide) (by rw [hl3.2.1]; decide)]
      have z2 : ∀ j, qz_I g2 (l + 2) j = 0 := fun j => by rw [← a.2.2.2.2.1 j]; unfold qz_I; rw [(hp.1 (l + 2) (by rw [hl3.2.2]; decide)).2 (fun e => by have t := hl3.2.2; rw [e, t7] at t; cases t) (by omega) (by rw [hl3.2.2]; decide) (by rw [hl3.2.2]; decide)]
      have nn0 := qz_N_nn g2 (po g2)
      have h42 : qz_I g2 l 0 = 4 → qz_I g2 (l + 1) 1 + 4 * qz_I g2 (l + 2) 1 ≤ qz_N g2 (po g2) := fun _ => by rw [z1, z2]; omega
      have v7 : τ2 770 = 75 := (q2.1 770 (by rw [t7]; decide)).1.trans t7
      have hl4 : τ2 l = 13 ∧ τ2 (l + 1) = 15 ∧ τ2 (l + 2) = 16 := ⟨(q2.1 l (by rw [hl3.1]; decide)).1.trans hl3.1, (q2.1 _ (by rw [hl3.2.1]; decide)).1.trans hl3.2.1, (q2.1 _ (by rw [hl3.2.2]; decide)).1.trans hl3.2.2⟩
      have II := I1.lq hl3 hnl q2 hB2 lg2 h42
      have rr := q2.2.2.2.2.2.2.2.2.1
      have rp := pool_le hB2 q2.2.2.1
      have fq := fw_lq (fw_aq a hI.1 hI.2.1) q2 I1.1 t7 a.1 hl3
      have f0 := hfl 0 (by omega) (by omega)
      have f1 := hfl 1 (by omega) (by omega)
      have hst : rz_step (mb h) (qz_I h 770 2) 3 (vF9 Ls) (vE9 Ls) (vF9 Ls) (vE9 Ls) := by
        refine ⟨fun e => absurd e (by decide), fun _ => Or.inr ⟨?_, rfl, rfl⟩, fun _ e => absurd rfl e⟩
        rintro ⟨first, last, A', hA', ⟨e1, e2, e3, e4⟩, hc'⟩
        rw [rz_A_uniq hA' hA] at hc' e1 e2
        rw [eb, f0.1, f0.2, f1.1, f1.2] at hno
        exact hno ⟨⟨by rw [← e1]; exact e3, by rw [← e1, ← e2]; exact e4⟩, hc'⟩
      have hnan : rz_an (mb h) (qz_I h 770 2) 2 (rz_g3 (mb h)) (-1) := rz_an_f hA (fun v w => hnG (by rw [eb, (hfl 0 (by omega) (by omega)).1, (hfl 0 (by omega) (by omega)).2, (hfl 1 (by omega) (by omega)).1, (hfl 1 (by omega) (by omega)).2]; exact ⟨w.1, w.2.1⟩))
      refine ez_less [(3, .inr (.inr (some (l)))), (2, .inl (pn h)), (0, .inr (.inr (some (770)))), (1, .inl (3))] rfl ⟨rfl, rfl, rfl, rfl, trivial⟩ ?_
      refine rd_mlE (d := d + 9) (n := pn h) (xc_B hB2 (by omega) (by omega)) v7 (by omega) (by omega) (fun g3 hB3 f3 j3 p3 z3 => kC hs g3 τ2 Ls 0 (II.2 0 (by omega) g3 hB3 (fun q hq h7 => by rw [f3.2.2 q (dz_beq_ne h7), xc_t hB2 hq]) (fun j j0 j10 => by rw [j3 j j0 j10]; unfold qz_I; rw [xc_t hB2 (by rw [v7]; decide)]) (by rw [p3, en]; omega) (by omega)) ((fw_xc fq hB2 v7 f3 j3).mono (by omega)) hst (Or.inl ?_) (Or.inr ⟨z3, hnan, rfl⟩))
      show qz_I g3 770 12 = qz_I h 770 12
      rw [j3 12 (by decide) (by decide)]; unfold qz_I; rw [xc_t hB2 (by rw [v7]; decide)]
      exact (q2.2.2.2.1 12 (by decide) (by decide) (by decide) (by decide)).trans ec
  · skip
    have t7 : τ1 770 = 75 := I1.2.1 770 (by decide)
    have en : pn g = pn h := a.2.2.2.2.2.2.2.1 10 (by decide) (by decide)
    have ec : lc g = lc h := a.2.2.2.2.2.2.2.1 12 (by decide) (by decide)
    have b10 : 0 ≤ pn g ∧ pn g ≤ 38500 := ez_fB (cl := 11) (k := 10) I1.1 t7 tq_75 rfl rfl (by decide)
    have cr := a.2.2.2.2.2.2.2.2.2
    refine rd_mlE (d := d + 9) (n := pn h) (xc_B I1.1 (by omega) (by omega)) t7 (by omega) (by omega) (fun g3 hB3 f3 j3 p3 z3 => kC hs g3 τ1 Ls 0 (I1.f7 hB3 (fun q hq h7 => by rw [f3.2.2 q (dz_beq_ne h7), xc_t I1.1 hq]) (fun j j1 j2 => ?_)) ((fw_xc (fw_aq a hI.1 hI.2.1) I1.1 t7 f3 j3).mono (by omega)) ⟨fun e => absurd e (by decide), fun _ => Or.inr ⟨fun ⟨f, la, A', hA', _⟩ => hno ⟨A', hA'⟩, rfl, rfl⟩, fun _ e => absurd rfl e⟩ (Or.inl ?_) (Or.inr ⟨z3, rz_an_n hno, rfl⟩))
    · by_cases e : j = 10
      · subst e; exact p3.trans en.symm
      · rw [j3 j (by omega) e]; unfold qz_I; rw [xc_t I1.1 (by rw [t7]; decide)]
    · show qz_I g3 770 12 = qz_I h 770 12
      rw [j3 12 (by decide) (by decide)]; unfold qz_I; rw [xc_t I1.1 (by rw [t7]; decide)]
      exact ec
theorem rd_mline49 (hI : mI9 τ h Ls 0) (hlc : qz_I h 770 2 = 0 ∨ lc h ≤ 255) (hr1 : h.1 + 25000 ≤ 600192) (hr2 : h.2.1 + 900000 ≤ 7302232) (kS : qz_I h 770 7 ≠ 0 → ∀ g, mI9 τ g Ls 0 → ez_fr (ez_one 770) h g → (∀ j, j ≠ 0 → qz_I g 770 j = qz_I h 770 j) → qz_I g 770 0 = 2 → Q (.inl (some (ez_v (.inl 0))), g)) (kC : qz_I h 770 7 = 0 → ∀ g τ1 Ls2 v, mI9 τ1 g Ls2 0 → fw τ h τ1 g (45 * qz_I h 770 2 + 100) → rz_step (mb h) (qz_I h 770 2) 4 (vF9 Ls) (vE9 Ls) (vF9 Ls2) (vE9 Ls2) → (lc g = lc h ∨ (lc g = lc h + 1 ∧ 0 < qz_I h 770 2)) → ((qz_I g 770 0 = 0 ∧ v ≠ -1 ∧ rz_an (mb h) (qz_I h 770 2) 2 (rz_g4 (mb h)) v ∧ ∃ x : vz9, Ls2 = Ls ++ [x] ∧ lyE (mb h) (qz_I h 770 2) 4 x.2.2.2.2.2.2) ∨ (qz_I g 770 0 = 3 ∧ rz_an (mb h) (qz_I h 770 2) 2 (rz_g4 (mb h)) (-1) ∧ Ls2 = Ls)) → Q (.inl (some (ez_v (.inl v))), g)) : ez_W (d + 10) cm_276 0 [(0, .inr (.inr (some (770)))), (1, .inl (4))] [] h Q := by
  have b2 : 0 ≤ qz_I h 770 2 ∧ qz_I h 770 2 ≤ 4096 := ez_fB (cl := 11) (k := 2) hI.1 (hI.2.1 770 (by decide)) tq_75 rfl rfl (by decide)
  refine rd_mlA49 (d := d + 2) hI (by omega) (by omega) kS (fun hs l g τ1 A a I1 hA hfl => ?_) (fun hs l g τ1 a I1 hno => ?_)
  · skip
    have t7 : τ1 770 = 75 := I1.2.1 770 (by decide)
    have hl3 := a.2.1
    have l78 := ez_l78 I1.1 hl3.1
    have hlz : lz l := ⟨fun e => (by have t := hl3.1; rw [e, t7] at t; cases t), fun e => (by have t := hl3.1; rw [e, I1.2.1 771 (by decide)] at t; cases t), fun e => (by have t := hl3.1; rw [e, I1.2.1 789 (by decide)] at t; cases t), fun e => (by have t := hl3.1; rw [e, I1.2.1 790 (by decide)] at t; cases t)⟩
    have tt := ez_tls I1.1 t7
    have usp : τ1 (qz_P g l 7) = 15 := by rw [l78.1]; exact hl3.2.1
    have ucp : τ1 (qz_P g l 8) = 16 := by rw [l78.2]; exact hl3.2.2
    have eb : mb g = mb h := funext fun k => by unfold mb qz_I; rw [a.c hI.2.1 (hI.2.1 771 (by decide)) rfl]
    have a8 := a.2.2.2.2.2.2.2.1
    have en : pn g = pn h := a8 10 (by decide) (by decide)
    have ec : lc g = lc h := a8 12 (by decide) (by decide)
    have hbn : 0 < qz_I h 770 2 := rz_A_pos (by decide) hA
    have hlc2 : lc h ≤ 255 := by omega
    have b10 : 0 ≤ pn g ∧ pn g ≤ 38500 := ez_fB (cl := 11) (k := 10) I1.1 t7 tq_75 rfl rfl (by decide)
    have nN : 1024 ≤ qz_N g (po g) ∧ qz_N g (po g) ≤ 77100 := ez_len I1.1 tt.2 tq_17 rfl
    have np := I1.2.2.1.2.2
    have FF : ∀ k, 0 ≤ k → k < 2 → (0 ≤ mf g k ∧ mf g k ≤ mt g k) ∧ mt g k ≤ qz_I h 770 2 ∧ (mf g k < mt g k → ¬ bk (mb g (mf g k)) ∧ ¬ bk (mb g (mt g k - 1))) ∧ (∀ j, mf g k ≤ j → j < mt g k → 0 ≤ mb g j ∧ mb g j ≤ 127) := fun k k0 k1 => by rw [(hfl k k0 k1).1, (hfl k k0 k1).2, eb]; exact rz_A_fl hA b2.2 k0 (by show k < ((2 : Nat) : Int); omega)
    have hF : ∀ k, 0 ≤ k → k < 2 → (0 ≤ mf g k ∧ mf g k ≤ mt g k) ∧ mt g k ≤ 4096 := fun k k0 k1 => ⟨(FF k k0 k1).1, by have := (FF k k0 k1).2.1; omega⟩
    have hTr : ∀ k, 0 ≤ k → k < 2 → mf g k < mt g k → ¬ bk (mb g (mf g k)) ∧ ¬ bk (mb g (mt g k - 1)) := fun k k0 k1 => (FF k k0 k1).2.2.1
    have hnl := nl_aq9 hI a
    have hlg0 : l2 (l + 1) (l + 2) g := ⟨fun j => by rw [a.2.2.2.1, a.2.2.2.2.1]; omega, by rw [a.2.2.2.1, a.2.2.2.2.1]; omega⟩
    have hl2 : l2 (qz_P g l 7) (qz_P g l 8) g := by rw [l78.1, l78.2]; exact hlg0
    have hc0 : ∀ j, qz_I g (qz_P g l 8) j = 0 := fun j => by rw [l78.2]; exact a.2.2.2.2.1 j
    have cr := a.2.2.2.2.2.2.2.2.2
    refine ez_go (n := 1) (pc' := 97) (L' := [(3, .inr (.inr (some (l)))), (2, .inl (pn h)), (0, .inr (.inr (some (770)))), (1, .inl (4))]) (st' := [.inl (4)]) rfl ?_
    refine ez_if rfl rfl ⟨by decide, by decide⟩ (fun _ => ?_) (fun (c1 : ¬((4 : Int) ≠ (0))) => absurd c1 (by decide))
    refine ez_go (n := 2) (pc' := 110) (L' := [(3, .inr (.inr (some (l)))), (2, .inl (pn h)), (0, .inr (.inr (some (770)))), (1, .inl (4))]) (st' := [.inl (1), .inl (4)]) rfl ?_
    refine ez_icmp rfl rfl ⟨by decide, by decide⟩ ⟨by decide, by decide⟩ (fun _ => ?_) (fun (c2 : ¬((4 : Int) ≠ (1))) => absurd c2 (by decide))
    refine ez_go (n := 2) (pc' := 123) (L' := [(3, .inr (.inr (some (l)))), (2, .inl (pn h)), (0, .inr (.inr (some (770)))), (1, .inl (4))]) (st' := [.inl (2), .inl (4)]) rfl ?_
    refine ez_icmp rfl rfl ⟨by decide, by decide⟩ ⟨by decide, by decide⟩ (fun _ => ?_) (fun (c3 : ¬((4 : Int) ≠ (2))) => absurd c3 (by decide))
    refine ez_go (n := 2) (pc' := 136) (L' := [(3, .inr (.inr (some (l)))), (2, .inl (pn h)), (0, .inr (.inr (some (770)))), (1, .inl (4))]) (st' := [.inl (3), .inl (4)]) rfl ?_
    refine ez_icmp rfl rfl ⟨by decide, by decide⟩ ⟨by decide, by decide⟩ (fun _ => ?_) (fun (c4 : ¬((4 : Int) ≠ (3))) => absurd c4 (by decide))
    refine ez_go (n := 2) (pc' := 149) (L' := [(3, .inr (.inr (some (l)))), (2, .inl (pn h)), (0, .inr (.inr (some (770)))), (1, .inl (4))]) (st' := [.inr (.inr (some (l))), .inr (.inr (some (770)))]) rfl ?_
    refine ez_cv I1.1 t7 rfl rfl rfl tq_75 rfl rfl rfl (rd_collation (d := d) I1.1 t7 hl3.1 hlz usp ucp tt.2 b10.1 I1.2.2.1.1.2 (by omega) nN.1 (by omega) (by omega) hl2 hc0 hF hTr (fun g2 τ2 c2 A2 hB2 hp c18 hG9 hv9 => ez_K0 ?_) (fun g2 τ2 A2 hB2 hp hk hnG => ez_Kc (xc_exc hB2 rfl) rfl ?_))
    · skip
      have hp2 := hp.l2 (by omega)
      have q2 := hp.1.lq
      rw [l78.1, l78.2] at q2 hp2
      have lg2 := hp2.1
      have h42 : qz_I g2 l 0 = 4 → qz_I g2 (l + 1) 1 + 4 * qz_I g2 (l + 2) 1 ≤ qz_N g2 (po g2) := fun _ => hp2.2
      have v7 : τ2 770 = 75 := (q2.1 770 (by rw [t7]; decide)).1.trans t7
      have hl4 : τ2 l = 13 ∧ τ2 (l + 1) = 15 ∧ τ2 (l + 2) = 16 := ⟨(q2.1 l (by rw [hl3.1]; decide)).1.trans hl3.1, (q2.1 _ (by rw [hl3.2.1]; decide)).1.trans hl3.2.1, (q2.1 _ (by rw [hl3.2.2]; decide)).1.trans hl3.2.2⟩
      have II := I1.lq hl3 hnl q2 hB2 lg2 h42
      have rr := q2.2.2.2.2.2.2.2.2.1
      have rp := pool_le hB2 q2.2.2.1
      have fq := fw_lq (fw_aq a hI.1 hI.2.1) q2 I1.1 t7 a.1 hl3
      refine ez_go (n := 1) (pc' := 168) (L' := [(3, .inr (.inr (some (l)))), (2, .inl (pn h)), (0, .inr (.inr (some (770)))), (1, .inl (4))]) (st' := []) rfl ?_
      refine ez_less [(1, .inl (4)), (3, .inr (.inr (some (l)))), (0, .inr (.inr (some (770))))] rfl ⟨rfl, rfl, rfl, trivial⟩ ?_
      have hvx : vx g2 l (((4 : Int), (0 : Int), (0 : Int)), ((0 : Int), (0 : Int), (0 : Int), (0 : Int)), ((0 : Int), (0 : Int)), ((0 : Int), ([] : List Int), ([] : List Int), ([] : List Int))) := ⟨(by unfold qz_I; rw [hp.2.2.1]; exact a.2.2.1.1), fun e => absurd e (by show ¬ (4 : Int) = 0; decide), fun e => absurd e (by show ¬ (4 : Int) = 1; decide), fun e => absurd e (by show ¬ (4 : Int) = 2; decide), fun e => absurd e (by show ¬ (4 : Int) = 3; decide)⟩
      have hly : lyE (mb h) (qz_I h 770 2) 4 (((4 : Int), (0 : Int), (0 : Int)), ((0 : Int), (0 : Int), (0 : Int), (0 : Int)), ((0 : Int), (0 : Int)), ((0 : Int), ([] : List Int), ([] : List Int), ([] : List Int))) := Or.inr (Or.inr (Or.inr (Or.inr ⟨rfl, rfl⟩)))
      have hA75 : ((A2).length : Int) ≤ 75 := by have := hp.2.2.2.2.2; omega
      have hvc : vc9 g2 l ((4 : Int), qz_I g2 l 1, qz_I g2 l 2, qz_I g2 l 4, qz_I g2 l 5, ([] : List Int), (((4 : Int), (0 : Int), (0 : Int)), ((0 : Int), (0 : Int), (0 : Int), (0 : Int)), ((0 : Int), (0 : Int)), ((0 : Int), ([] : List Int), ([] : List Int), ([] : List Int)))) := ⟨⟨(by unfold qz_I; rw [hp.2.2.1]; exact a.2.2.1.1), rfl, rfl, rfl, rfl⟩, fun e => absurd e (by show ¬ (4 : Int) = 0; decide)⟩
      have hst : rz_step (mb h) (qz_I h 770 2) 4 (vF9 Ls) (vE9 Ls) (vF9 (Ls ++ [((4 : Int), qz_I g2 l 1, qz_I g2 l 2, qz_I g2 l 4, qz_I g2 l 5, ([] : List Int), (((4 : Int), (0 : Int), (0 : Int)), ((0 : Int), (0 : Int), (0 : Int), (0 : Int)), ((0 : Int), (0 : Int)), ((0 : Int), ([] : List Int), ([] : List Int), ([] : List Int))))])) (vE9 (Ls ++ [((4 : Int), qz_I g2 l 1, qz_I g2 l 2, qz_I g2 l 4, qz_I g2 l 5, ([] : List Int), (((4 : Int), (0 : Int), (0 : Int)), ((0 : Int), (0 : Int), (0 : Int), (0 : Int)), ((0 : Int), (0 : Int)), ((0 : Int), ([] : List Int), ([] : List Int), ([] : List Int))))])) := by
        rw [vF_app9, vE_app9]
        exact ⟨fun e => absurd e (by decide), fun e => absurd e (by decide), fun _ _ => ⟨vf_no9 (by show (4 : Int) ≠ 0; decide), ve_no9 (Or.inl (by show (4 : Int) ≠ 3; decide))⟩⟩
      have hans : ∀ v, v = (if (4 : Int) = 4 then qz_I g2 (qz_P g2 l 8) 0 else qz_I g2 l 2 - qz_I g2 l 1 + 1) → v ≠ -1 ∧ rz_an (mb h) (qz_I h 770 2) 2 (rz_g4 (mb h)) v := fun v hv => by
        rw [if_pos rfl, (ez_l78 hB2 hl4.1).2, ← l78.2] at hv
        unfold rz_G4 at hG9
        rw [eb, (hfl 0 (by omega) (by omega)).1, (hfl 0 (by omega) (by omega)).2, (hfl 1 (by omega) (by omega)).1, (hfl 1 (by omega) (by omega)).2] at hG9
        rw [eb, (hfl 0 (by omega) (by omega)).1, (hfl 0 (by omega) (by omega)).2] at hv9
        obtain ⟨vs, hvs⟩ : ∃ vs, rz_rw (mb h) 3 (rz_ff (mb h) A 0) (rz_tt (mb h) A 0) = some vs := by
          cases e9 : rz_rw (mb h) 3 (rz_ff (mb h) A 0) (rz_tt (mb h) A 0) with
          | none => exact absurd e9 hG9.1
          | some vs => exact ⟨vs, rfl⟩
        have := hv9 vs hvs
        exact ⟨by omega, Or.inl ⟨A, hA, hG9, fun vs2 w => by rw [hv]; exact hv9 vs2 w⟩⟩
      have I2 := II.1
      have ec2 : lc g2 = lc h := (q2.2.2.2.1 12 (by decide) (by decide) (by decide) (by decide)).trans ec
      have tcp2 : τ2 (qz_P g2 l 8) = 16 := by rw [(ez_l78 hB2 hl4.1).2]; exact hl4.2.2
      refine rd_ml hB2 v7 hl4.1 (ez_tls hB2 v7).1 tcp2 ⟨by omega, by omega⟩ I2.2.2.1.1.1 (by omega) I2.2.2.1.2.1 I2.2.2.2.1.1 (by omega) (by omega) (fun g3 τ3 v hB3 u hv => kC hs g3 τ3 _ v (mI9.lu (x := ((4 : Int), qz_I g2 l 1, qz_I g2 l 2, qz_I g2 l 4, qz_I g2 l 5, ([] : List Int), (((4 : Int), (0 : Int), (0 : Int)), ((0 : Int), (0 : Int), (0 : Int), (0 : Int)), ((0 : Int), (0 : Int)), ((0 : Int), ([] : List Int), ([] : List Int), ([] : List Int))))) I2 hA75 hl4 (nl_lq9 I1 hl3 q2 hnl) u hB3 ⟨hvc, hvx⟩) ((fw_lu fq u hB2 v7).mono (by omega)) hst (Or.inr ⟨by rw [u.2.2.2.2.1, ec2], hbn⟩) (Or.inl ⟨by rw [u.2.2.2.1 0 (by decide) (by decide) (by decide), q2.2.2.2.1 0 (by decide) (by decide) (by decide) (by decide)]; exact cr.2.2.2.2, (hans v hv).1, (hans v hv).2, ((4 : Int), qz_I g2 l 1, qz_I g2 l 2, qz_I g2 l 4, qz_I g2 l 5, ([] : List Int), (((4 : Int), (0 : Int), (0 : Int)), ((0 : Int), (0 : Int), (0 : Int), (0 : Int)), ((0 : Int), (0 : Int)), ((0 : Int), ([] : List Int), ([] : List Int), ([] : List Int)))), rfl, hly⟩))
    · skip
      rw [l78.1, l78.2] at hp
      have q2 := hp.1.lq
      have lg2 := hp.2.1
      have h42 : qz_I g2 l 0 = 4 → qz_I g2 (l + 1) 1 + 4 * qz_I g2 (l + 2) 1 ≤ qz_N g2 (po g2) := fun _ => hp.2.2
      have v7 : τ2 770 = 75 := (q2.1 770 (by rw [t7]; decide)).1.trans t7
      have hl4 : τ2 l = 13 ∧ τ2 (l + 1) = 15 ∧ τ2 (l + 2) = 16 := ⟨(q2.1 l (by rw [hl3.1]; decide)).1.trans hl3.1, (q2.1 _ (by rw [hl3.2.1]; decide)).1.trans hl3.2.1, (q2.1 _ (by rw [hl3.2.2]; decide)).1.trans hl3.2.2⟩
      have II := I1.lq hl3 hnl q2 hB2 lg2 h42
      have rr := q2.2.2.2.2.2.2.2.2.1
      have rp := pool_le hB2 q2.2.2.1
      have fq := fw_lq (fw_aq a hI.1 hI.2.1) q2 I1.1 t7 a.1 hl3
      have hst : rz_step (mb h) (qz_I h 770 2) 4 (vF9 Ls) (vE9 Ls) (vF9 Ls) (vE9 Ls) := ⟨fun e => absurd e (by decide), fun e => absurd e (by decide), fun _ _ => ⟨rfl, rfl⟩⟩
      have hnan : rz_an (mb h) (qz_I h 770 2) 2 (rz_g4 (mb h)) (-1) := rz_an_f hA (fun v w => hnG (by have w1 := w.1; unfold rz_G4 at w1 ⊢; rw [eb, (hfl 0 (by omega) (by omega)).1, (hfl 0 (by omega) (by omega)).2, (hfl 1 (by omega) (by omega)).1, (hfl 1 (by omega) (by omega)).2]; exact w1))
      refine ez_less [(3, .inr (.inr (some (l)))), (2, .inl (pn h)), (0, .inr (.inr (some (770)))), (1, .inl (4))] rfl ⟨rfl, rfl, rfl, rfl, trivial⟩ ?_
      refine rd_mlE (d := d + 9) (n := pn h) (xc_B hB2 (by omega) (by omega)) v7 (by omega) (by omega) (fun g3 hB3 f3 j3 p3 z3 => kC hs g3 τ2 Ls 0 (II.2 0 (by omega) g3 hB3 (fun q hq h7 => by rw [f3.2.2 q (dz_beq_ne h7), xc_t hB2 hq]) (fun j j0 j10 => by rw [j3 j j0 j10]; unfold qz_I; rw [xc_t hB2 (by rw [v7]; decide)]) (by rw [p3, en]; omega) (by omega)) ((fw_xc fq hB2 v7 f3 j3).mono (by omega)) hst (Or.inl ?_) (Or.inr ⟨z3, hnan, rfl⟩))
      show qz_I g3 770 12 = qz_I h 770 12
      rw [j3 12 (by decide) (by decide)]; unfold qz_I; rw [xc_t hB2 (by rw [v7]; decide)]
      exact (q2.2.2.2.1 12 (by decide) (by decide) (by decide) (by decide)).trans ec
  · skip
    have t7 : τ1 770 = 75 := I1.2.1 770 (by decide)
    have en : pn g = pn h := a.2.2.2.2.2.2.2.1 10 (by decide) (by decide)
    have ec : lc g = lc h := a.2.2.2.2.2.2.2.1 12 (by decide) (by decide)
    have b10 : 0 ≤ pn g ∧ pn g ≤ 38500 := ez_fB (cl := 11) (k := 10) I1.1 t7 tq_75 rfl rfl (by decide)
    have cr := a.2.2.2.2.2.2.2.2.2
    refine rd_mlE (d := d + 9) (n := pn h) (xc_B I1.1 (by omega) (by omega)) t7 (by omega) (by omega) (fun g3 hB3 f3 j3 p3 z3 => kC hs g3 τ1 Ls 0 (I1.f7 hB3 (fun q hq h7 => by rw [f3.2.2 q (dz_beq_ne h7), xc_t I1.1 hq]) (fun j j1 j2 => ?_)) ((fw_xc (fw_aq a hI.1 hI.2.1) I1.1 t7 f3 j3).mono (by omega)) ⟨fun e => absurd e (by decide), fun e => absurd e (by decide), fun _ _ => ⟨rfl, rfl⟩⟩ (Or.inl ?_) (Or.inr ⟨z3, rz_an_n hno, rfl⟩))
    · by_cases e : j = 10
      · subst e; exact p3.trans en.symm
      · rw [j3 j (by omega) e]; unfold qz_I; rw [xc_t I1.1 (by rw [t7]; decide)]
    · show qz_I g3 770 12 = qz_I h 770 12
      rw [j3 12 (by decide) (by decide)]; unfold qz_I; rw [xc_t I1.1 (by rw [t7]; decide)]
      exact ec
end EzMz
def cov9 (x : vz9) (p : Int) : Prop := x.1 = 0 ∧ x.2.1 ≤ p ∧ p ≤ x.2.2.1
theorem vf_fold9 {p : Int} : ∀ (Ls : List vz9) (F : rz_W), (∀ x ∈ Ls, ¬ cov9 x p) → Ls.foldl vf9 F p = F p
  | [], F, _ => rfl
  | x :: Ls, F, h => by
    rw [List.foldl_cons, vf_fold9 Ls (vf9 F x) (fun y hy => h y (List.mem_cons_of_mem _ hy))]
    exact if_neg (h x List.mem_cons_self)
theorem vF_none9 {p : Int} {Ls : List vz9} (h : ∀ (k : Nat) x, Ls[k]? = some x → ¬ cov9 x p) : vF9 Ls p = (0, none) :=
  vf_fold9 Ls _ (fun x hx => by
    obtain ⟨k, hk⟩ := List.getElem?_of_mem hx
    exact h k x hk)
theorem vF_at9 {p : Int} {Ls : List vz9} {k : Nat} {x : vz9} (hk : Ls[k]? = some x) (hc : cov9 x p) (h : ∀ (j : Nat) y, k < j → Ls[j]? = some y → ¬ cov9 y p) : vF9 Ls p = (x.2.2.2.1, vD9 x) := by
  obtain ⟨hl, he⟩ := List.getElem?_eq_some_iff.mp hk
  have e : Ls = Ls.take k ++ x :: Ls.drop (k + 1) := by
    rw [← he, ← List.drop_eq_getElem_cons hl, List.take_append_drop]
  have hd : ∀ y ∈ Ls.drop (k + 1), ¬ cov9 y p := fun y hy => by
    obtain ⟨j, hj⟩ := List.getElem?_of_mem hy
    rw [List.getElem?_drop] at hj
    exact h (k + 1 + j) y (by omega) hj
  unfold vF9
  rw [e, List.foldl_append, List.foldl_cons, vf_fold9 _ _ hd]
  exact if_pos hc
theorem ve_fold9 {p : Int} : ∀ (Ls : List vz9) (E : Int → Prop), Ls.foldl ve9 E p ↔ (E p ∨ ∃ x ∈ Ls, x.1 = 3 ∧ x.2.2.2.2.1 = 0 ∧ x.2.1 ≤ p ∧ p ≤ x.2.2.1)
  | [], E => ⟨Or.inl, fun h => h.elim id (fun ⟨x, hx, _⟩ => by cases hx)⟩
  | x :: Ls, E => by
    rw [List.foldl_cons, ve_fold9 Ls (ve9 E x)]
    constructor
    · rintro ((h | h) | ⟨y, hy, h⟩)
      · exact Or.inl h
      · exact Or.inr ⟨x, List.mem_cons_self, h⟩
      · exact Or.inr ⟨y, List.mem_cons_of_mem _ hy, h⟩
    · rintro (h | ⟨y, hy, h⟩)
      · exact Or.inl (Or.inl h)
      · rcases List.mem_cons.mp hy with rfl | hy
        · exact Or.inl (Or.inr h)
        · exact Or.inr ⟨y, hy, h⟩
def exc39 (x : vz9) (p : Int) : Prop := x.1 = 3 ∧ x.2.2.2.2.1 = 0 ∧ x.2.1 ≤ p ∧ p ≤ x.2.2.1
theorem vE_iff9 {p : Int} {Ls : List vz9} : vE9 Ls p ↔ ∃ (k : Nat) (x : vz9), Ls[k]? = some x ∧ exc39 x p := by
  unfold vE9
  rw [ve_fold9]
  constructor
  · rintro (h | ⟨x, hx, h⟩)
    · exact h.elim
    · obtain ⟨k, hk⟩ := List.getElem?_of_mem hx
      exact ⟨k, x, hk, h⟩
  · rintro ⟨k, x, hk, h⟩
    exact Or.inr ⟨x, List.mem_of_getElem? hk, h⟩
section EzAc
variable {d : Nat} {M : cz_M} {pc : Nat} {L : List (Nat × ez_V)} {st : List ez_V} {h : cz_H} {Q : cz_F → Prop}
end EzAc
theorem mI9.at {τ : Nat → Nat} {h : cz_H} {Ls : List vz9} {b : Int} (hI : mI9 τ h Ls b) {k : Int} (k0 : 0 ≤ k) (k1 : k < lc h) : ∃ x, Ls[k.toNat]? = some x ∧ vc9 h (qz_P h (ls h) k.toNat) x ∧ τ (qz_P h (ls h) k.toNat) = 13 ∧ 1 ≤ qz_I h (ls h) k.toNat := by
  have v := hI.2.2.2.2.2.2
  have hk : k.toNat < Ls.length := by have := v.1; omega
  exact ⟨Ls[k.toNat], List.getElem?_eq_getElem hk, (v.2 _ _ (List.getElem?_eq_getElem hk)).1, (hI.L (by omega)).1, hI.2.2.2.1.1 _ (by omega)⟩
section EzTd
variable {d : Nat} {h : cz_H} {τ : Nat → Nat} {Q : cz_F → Prop} {Ls : List vz9} {b : Int}
theorem rd_told_l9 {p : Int} (hI : mI9 τ h Ls b) (pr : ez_rg p) (kN : (∀ (j : Nat) y, Ls[j]? = some y → ¬ cov9 y p) → Q (.inl (some (.inr (.inr none))), h)) (kS : ∀ (k : Nat) x, Ls[k]? = some x → cov9 x p → (∀ (j : Nat) y, k < j → Ls[j]? = some y → ¬ cov9 y p) → Q (.inl (some (.inr (.inr (some (qz_P h (ls h) k))))), h)) : ∀ (n : Nat) (k : Int), n = (k + 1).toNat → -1 ≤ k → k < lc h → (∀ (j : Nat) y, k < (j : Int) → Ls[j]? = some y → ¬ cov9 y p) → ez_W d cm_306 7 [(2, .inl (k)), (0, .inr (.inr (some (770)))), (1, .inl (p))] [] h Q := by
  have hB := hI.1
  have t770 : τ 770 = 75 := hI.2.1 770 (by decide)
  have b12 : 0 ≤ qz_I h 770 12 ∧ qz_I h 770 12 ≤ 512 := ez_fB (cl := 11) (k := 12) hB t770 tq_75 rfl rfl (by decide)
  have lce : lc h = qz_I h 770 12 := rfl
  have nls : lc h ≤ qz_N h (ls h) := hI.2.2.1.1.1
  obtain ⟨pr0, pr1⟩ := id pr
  intro n
  induction n with
  | zero =>
    intro k hn k0 k1 hno
    refine ez_go (n := 1) (pc' := 8) (L' := [(2, .inl (k)), (0, .inr (.inr (some (770)))), (1, .inl (p))]) (st' := [.inl (k)]) rfl ?_
    refine ez_if rfl rfl ⟨by first | omega | exact (sz_i32 _).1, by first | omega | exact (sz_i32 _).2⟩ (fun (c1 : (k) < (0)) => ?_) (fun (c1 : ¬((k) < (0))) => ?_)
    · skip
      refine ez_go (n := 1) (pc' := 50) (L' := [(2, .inl (k)), (0, .inr (.inr (some (770)))), (1, .inl (p))]) (st' := [.inr (.inr none)]) rfl ?_
      exact ez_retA rfl rfl rfl (kN (fun j y hy => hno j y (by omega) hy))
    · skip
      refine ez_go (n := 1) (pc' := 12) (L' := [(2, .inl (k)), (0, .inr (.inr (some (770)))), (1, .inl (p))]) (st' := [.inr (.inr (some (770)))]) rfl ?_
      refine ez_gR hB t770 rfl rfl tq_75 rfl rfl (fun (t2 : _ = 18) (t2' : 1 ≤ qz_I h 770 11) => ?_)
      rw [show qz_P h 770 11 = ls h from rfl] at *
      refine ez_go (n := 1) (pc' := 16) (L' := [(2, .inl (k)), (0, .inr (.inr (some (770)))), (1, .inl (p))]) (st' := [.inl (k), .inr (.inr (some ((ls h))))]) rfl ?_
      have n4 : 64 ≤ qz_N h ((ls h)) ∧ qz_N h ((ls h)) ≤ 4096 := ez_len hB t2 tq_18 rfl
      have y5 : 1 ≤ qz_I h ((ls h)) (k).toNat := (hI.at (k := k) (by omega) (by omega)).choose_spec.2.2.2
      have y6 : 0 ≤ qz_I h ((ls h)) (k).toNat ∧ qz_I h ((ls h)) (k).toNat ≤ 1000000 := ez_aB hB t2 tq_18 rfl rfl (by decide) (by omega) (by omega)
      have y6' : ((qz_P h ((ls h)) (k).toNat : Nat) : Int) + 1 = qz_I h ((ls h)) (k).toNat := by unfold qz_P; omega
      refine ez_aR hB t2 rfl tq_18 rfl rfl (by omega) (by omega) (by omega) (fun (t3 : _ = 13) => ?_)
      obtain ⟨x, hx, ⟨⟨x0, x1, x2, x4, x5⟩, -⟩, -, -⟩ := hI.at (k := k) (by omega) (by omega)
      have x0a : qz_I h (qz_P h (ls h) (k).toNat) 0 = x.1 := x0
      have x1a : qz_I h (qz_P h (ls h) (k).toNat) 1 = x.2.1 := x1
      have x2a : qz_I h (qz_P h (ls h) (k).toNat) 2 = x.2.2.1 := x2
      refine ez_go (n := 2) (pc' := 19) (L' := [(3, .inr (.inr (some (qz_P h ((ls h)) (k).toNat)))), (2, .inl (k)), (0, .inr (.inr (some (770)))), (1, .inl (p))]) (st' := [.inr (.inr (some (qz_P h ((ls h)) (k).toNat)))]) rfl ?_
      refine ez_gI hB t3 rfl rfl tq_13 rfl rfl (fun (b7 : 0 ≤ qz_I h (qz_P h ((ls h)) (k).toNat) 0) (b7' : qz_I h (qz_P h ((ls h)) (k).toNat) 0 ≤ 4) => ?_)
      refine ez_if rfl rfl ⟨by first | omega | exact (sz_i32 _).1, by first | omega | exact (sz_i32 _).2⟩ (fun (c8 : (qz_I h (qz_P h ((ls h)) (k).toNat) 0) ≠ (0)) => ?_) (fun (c8 : ¬((qz_I h (qz_P h ((ls h)) (k).toNat) 0) ≠ (0))) => ?_)
      · skip
        refine ez_go (n := 2) (pc' := 7) (L' := [(2, .inl (k + (-1))), (3, .inr (.inr (some (qz_P h ((ls h)) (k).toNat)))), (0, .inr (.inr (some (770)))), (1, .inl (p))]) (st' := []) rfl ?_
        exfalso; omega
      · skip
        refine ez_go (n := 1) (pc' := 26) (L' := [(3, .inr (.inr (some (qz_P h ((ls h)) (k).toNat)))), (2, .inl (k)), (0, .inr (.inr (some (770)))), (1, .inl (p))]) (st' := [.inr (.inr (some (qz_P h ((ls h)) (k).toNat)))]) rfl ?_
        refine ez_gI hB t3 rfl rfl tq_13 rfl rfl (fun (b9 : -2147483648 ≤ qz_I h (qz_P h ((ls h)) (k).toNat) 1) (b9' : qz_I h (qz_P h ((ls h)) (k).toNat) 1 ≤ 2147483647) => ?_)
        refine ez_go (n := 1) (pc' := 30) (L' := [(3, .inr (.inr (some (qz_P h ((ls h)) (k).toNat)))), (2, .inl (k)), (0, .inr (.inr (some (770)))), (1, .inl (p))]) (st' := [.inl (p), .inl (qz_I h (qz_P h ((ls h)) (k).toNat) 1)]) rfl ?_
        refine ez_icmp rfl rfl ⟨by first | omega | exact (sz_i32 _).1, by first | omega | exact (sz_i32 _).2⟩ ⟨by first | omega | exact (sz_i32 _).1, by first | omega | exact (sz_i32 _).2⟩ (fun (c10 : (p) < (qz_I h (qz_P h ((ls h)) (k).toNat) 1)) => ?_) (fun (c10 : ¬((p) < (qz_I h (qz_P h ((ls h)) (k).toNat) 1))) => ?_)
        · skip
          refine ez_go (n := 2) (pc' := 7) (L' := [(2, .inl (k + (-1))), (3, .inr (.inr (some (qz_P h ((ls h)) (k).toNat)))), (0, .inr (.inr (some (770)))), (1, .inl (p))]) (st' := []) rfl ?_
          exfalso; omega
        · skip
          refine ez_go (n := 2) (pc' := 35) (L' := [(3, .inr (.inr (some (qz_P h ((ls h)) (k).toNat)))), (2, .inl (k)), (0, .inr (.inr (some (770)))), (1, .inl (p))]) (st' := [.inr (.inr (some (qz_P h ((ls h)) (k).toNat))), .inl (p)]) rfl ?_
          refine ez_gI hB t3 rfl rfl tq_13 rfl rfl (fun (b11 : -2147483648 ≤ qz_I h (qz_P h ((ls h)) (k).toNat) 2) (b11' : qz_I h (qz_P h ((ls h)) (k).toNat) 2 ≤ 2147483647) => ?_)
          refine ez_icmp rfl rfl ⟨by first | omega | exact (sz_i32 _).1, by first | omega | exact (sz_i32 _).2⟩ ⟨by first | omega | exact (sz_i32 _).1, by first | omega | exact (sz_i32 _).2⟩ (fun (c12 : (qz_I h (qz_P h ((ls h)) (k).toNat) 2) < (p)) => ?_) (fun (c12 : ¬((qz_I h (qz_P h ((ls h)) (k).toNat) 2) < (p))) => ?_)
          · skip
            refine ez_go (n := 2) (pc' := 7) (L' := [(2, .inl (k + (-1))), (3, .inr (.inr (some (qz_P h ((ls h)) (k).toNat)))), (0, .inr (.inr (some (770)))), (1, .inl (p))]) (st' := []) rfl ?_
            exfalso; omega
          · skip
            refine ez_go (n := 1) (pc' := 42) (L' := [(3, .inr (.inr (some (qz_P h ((ls h)) (k).toNat)))), (2, .inl (k)), (0, .inr (.inr (some (770)))), (1, .inl (p))]) (st' := [.inr (.inr (some (qz_P h ((ls h)) (k).toNat)))]) rfl ?_
            exact ez_retA rfl rfl rfl (kS k.toNat x hx ⟨by omega, by omega, by omega⟩ (fun j y hj hy => hno j y (by omega) hy))
  | succ n ih =>
    intro k hn k0 k1 hno
    refine ez_go (n := 1) (pc' := 8) (L' := [(2, .inl (k)), (0, .inr (.inr (some (770)))), (1, .inl (p))]) (st' := [.inl (k)]) rfl ?_
    refine ez_if rfl rfl ⟨by first | omega | exact (sz_i32 _).1, by first | omega | exact (sz_i32 _).2⟩ (fun (c1 : (k) < (0)) => ?_) (fun (c1 : ¬((k) < (0))) => ?_)
    · skip
      refine ez_go (n := 1) (pc' := 50) (L' := [(2, .inl (k)), (0, .inr (.inr (some (770)))), (1, .inl (p))]) (st' := [.inr (.inr none)]) rfl ?_
      exact ez_retA rfl rfl rfl (kN (fun j y hy => hno j y (by omega) hy))
    · skip
      refine ez_go (n := 1) (pc' := 12) (L' := [(2, .inl (k)), (0, .inr (.inr (some (770)))), (1, .inl (p))]) (st' := [.inr (.inr (some (770)))]) rfl ?_
      refine ez_gR hB t770 rfl rfl tq_75 rfl rfl (fun (t2 : _ = 18) (t2' : 1 ≤ qz_I h 770 11) => ?_)
      rw [show qz_P h 770 11 = ls h from rfl] at *
      refine ez_go (n := 1) (pc' := 16) (L' := [(2, .inl (k)), (0, .inr (.inr (some (770)))), (1, .inl (p))]) (st' := [.inl (k), .inr (.inr (some ((ls h))))]) rfl ?_
      have n4 : 64 ≤ qz_N h ((ls h)) ∧ qz_N h ((ls h)) ≤ 4096 := ez_len hB t2 tq_18 rfl
      have y5 : 1 ≤ qz_I h ((ls h)) (k).toNat := (hI.at (k := k) (by omega) (by omega)).choose_spec.2.2.2
      have y6 : 0 ≤ qz_I h ((ls h)) (k).toNat ∧ qz_I h ((ls h)) (k).toNat ≤ 1000000 := ez_aB hB t2 tq_18 rfl rfl (by decide) (by omega) (by omega)
      have y6' : ((qz_P h ((ls h)) (k).toNat : Nat) : Int) + 1 = qz_I h ((ls h)) (k).toNat := by unfold qz_P; omega
      refine ez_aR hB t2 rfl tq_18 rfl rfl (by omega) (by omega) (by omega) (fun (t3 : _ = 13) => ?_)
      obtain ⟨x, hx, ⟨⟨x0, x1, x2, x4, x5⟩, -⟩, -, -⟩ := hI.at (k := k) (by omega) (by omega)
      have x0a : qz_I h (qz_P h (ls h) (k).toNat) 0 = x.1 := x0
      have x1a : qz_I h (qz_P h (ls h) (k).toNat) 1 = x.2.1 := x1
      have x2a : qz_I h (qz_P h (ls h) (k).toNat) 2 = x.2.2.1 := x2
      refine ez_go (n := 2) (pc' := 19) (L' := [(3, .inr (.inr (some (qz_P h ((ls h)) (k).toNat)))), (2, .inl (k)), (0, .inr (.inr (some (770)))), (1, .inl (p))]) (st' := [.inr (.inr (some (qz_P h ((ls h)) (k).toNat)))]) rfl ?_
      refine ez_gI hB t3 rfl rfl tq_13 rfl rfl (fun (b7 : 0 ≤ qz_I h (qz_P h ((ls h)) (k).toNat) 0) (b7' : qz_I h (qz_P h ((ls h)) (k).toNat) 0 ≤ 4) => ?_)
      refine ez_if rfl rfl ⟨by first | omega | exact (sz_i32 _).1, by first | omega | exact (sz_i32 _).2⟩ (fun (c8 : (qz_I h (qz_P h ((ls h)) (k).toNat) 0) ≠ (0)) => ?_) (fun (c8 : ¬((qz_I h (qz_P h ((ls h)) (k).toNat) 0) ≠ (0))) => ?_)
      · skip
        refine ez_go (n := 2) (pc' := 7) (L' := [(2, .inl (k + (-1))), (3, .inr (.inr (some (qz_P h ((ls h)) (k).toNat)))), (0, .inr (.inr (some (770)))), (1, .inl (p))]) (st' := []) rfl ?_
        refine ez_less [(2, .inl (k + (-1))), (0, .inr (.inr (some (770)))), (1, .inl (p))] rfl ⟨rfl, rfl, rfl, trivial⟩ ?_
        refine ih (k + (-1)) (by omega) (by omega) (by omega) (fun j y hj hy => ?_)
        by_cases e : j = k.toNat
        · subst e; rw [hx] at hy; cases hy; intro w; have w1 := w.1; have w2 := w.2.1; have w3 := w.2.2; omega
        · exact hno j y (by omega) hy
      · skip
        refine ez_go (n := 1) (pc' := 26) (L' := [(3, .inr (.inr (some (qz_P h ((ls h)) (k).toNat)))), (2, .inl (k)), (0, .inr (.inr (some (770)))), (1, .inl (p))]) (st' := [.inr (.inr (some (qz_P h ((ls h)) (k).toNat)))]) rfl ?_
        refine ez_gI hB t3 rfl rfl tq_13 rfl rfl (fun (b9 : -2147483648 ≤ qz_I h (qz_P h ((ls h)) (k).toNat) 1) (b9' : qz_I h (qz_P h ((ls h)) (k).toNat) 1 ≤ 2147483647) => ?_)
        refine ez_go (n := 1) (pc' := 30) (L' := [(3, .inr (.inr (some (qz_P h ((ls h)) (k).toNat)))), (2, .inl (k)), (0, .inr (.inr (some (770)))), (1, .inl (p))]) (st' := [.inl (p), .inl (qz_I h (qz_P h ((ls h)) (k).toNat) 1)]) rfl ?_
        refine ez_icmp rfl rfl ⟨by first | omega | exact (sz_i32 _).1, by first | omega | exact (sz_i32 _).2⟩ ⟨by first | omega | exact (sz_i32 _).1, by first | omega | exact (sz_i32 _).2⟩ (fun (c10 : (p) < (qz_I h (qz_P h ((ls h)) (k).toNat) 1)) => ?_) (fun (c10 : ¬((p) < (qz_I h (qz_P h ((ls h)) (k).toNat) 1))) => ?_)
        · skip
          refine ez_go (n := 2) (pc' := 7) (L' := [(2, .inl (k + (-1))), (3, .inr (.inr (some (qz_P h ((ls h)) (k).toNat)))), (0, .inr (.inr (some (770)))), (1, .inl (p))]) (st' := []) rfl ?_
          refine ez_less [(2, .inl (k + (-1))), (0, .inr (.inr (some (770)))), (1, .inl (p))] rfl ⟨rfl, rfl, rfl, trivial⟩ ?_
          refine ih (k + (-1)) (by omega) (by omega) (by omega) (fun j y hj hy => ?_)
          by_cases e : j = k.toNat
          · subst e; rw [hx] at hy; cases hy; intro w; have w1 := w.1; have w2 := w.2.1; have w3 := w.2.2; omega
          · exact hno j y (by omega) hy
        · skip
          refine ez_go (n := 2) (pc' := 35) (L' := [(3, .inr (.inr (some (qz_P h ((ls h)) (k).toNat)))), (2, .inl (k)), (0, .inr (.inr (some (770)))), (1, .inl (p))]) (st' := [.inr (.inr (some (qz_P h ((ls h)) (k).toNat))), .inl (p)]) rfl ?_
          refine ez_gI hB t3 rfl rfl tq_13 rfl rfl (fun (b11 : -2147483648 ≤ qz_I h (qz_P h ((ls h)) (k).toNat) 2) (b11' : qz_I h (qz_P h ((ls h)) (k).toNat) 2 ≤ 2147483647) => ?_)
          refine ez_icmp rfl rfl ⟨by first | omega | exact (sz_i32 _).1, by first | omega | exact (sz_i32 _).2⟩ ⟨by first | omega | exact (sz_i32 _).1, by first | omega | exact (sz_i32 _).2⟩ (fun (c12 : (qz_I h (qz_P h ((ls h)) (k).toNat) 2) < (p)) => ?_) (fun (c12 : ¬((qz_I h (qz_P h ((ls h)) (k).toNat) 2) < (p))) => ?_)
          · skip
            refine ez_go (n := 2) (pc' := 7) (L' := [(2, .inl (k + (-1))), (3, .inr (.inr (some (qz_P h ((ls h)) (k).toNat)))), (0, .inr (.inr (some (770)))), (1, .inl (p))]) (st' := []) rfl ?_
            refine ez_less [(2, .inl (k + (-1))), (0, .inr (.inr (some (770)))), (1, .inl (p))] rfl ⟨rfl, rfl, rfl, trivial⟩ ?_
            refine ih (k + (-1)) (by omega) (by omega) (by omega) (fun j y hj hy => ?_)
            by_cases e : j = k.toNat
            · subst e; rw [hx] at hy; cases hy; intro w; have w1 := w.1; have w2 := w.2.1; have w3 := w.2.2; omega
            · exact hno j y (by omega) hy
          · skip
            refine ez_go (n := 1) (pc' := 42) (L' := [(3, .inr (.inr (some (qz_P h ((ls h)) (k).toNat)))), (2, .inl (k)), (0, .inr (.inr (some (770)))), (1, .inl (p))]) (st' := [.inr (.inr (some (qz_P h ((ls h)) (k).toNat)))]) rfl ?_
            exact ez_retA rfl rfl rfl (kS k.toNat x hx ⟨by omega, by omega, by omega⟩ (fun j y hj hy => hno j y (by omega) hy))
theorem rd_told9 {p : Int} (hI : mI9 τ h Ls b) (pr : ez_rg p) (kN : (∀ (j : Nat) y, Ls[j]? = some y → ¬ cov9 y p) → Q (.inl (some (.inr (.inr none))), h)) (kS : ∀ (k : Nat) x, Ls[k]? = some x → cov9 x p → (∀ (j : Nat) y, k < j → Ls[j]? = some y → ¬ cov9 y p) → Q (.inl (some (.inr (.inr (some (qz_P h (ls h) k))))), h)) : ez_W d cm_306 0 [(0, .inr (.inr (some (770)))), (1, .inl (p))] [] h Q := by
  have hB := hI.1
  have t770 : τ 770 = 75 := hI.2.1 770 (by decide)
  have b12 : 0 ≤ qz_I h 770 12 ∧ qz_I h 770 12 ≤ 512 := ez_fB (cl := 11) (k := 12) hB t770 tq_75 rfl rfl (by decide)
  have lce : lc h = qz_I h 770 12 := rfl
  have nls : lc h ≤ qz_N h (ls h) := hI.2.2.1.1.1
  refine ez_go (n := 1) (pc' := 1) (L' := [(0, .inr (.inr (some (770)))), (1, .inl (p))]) (st' := [.inr (.inr (some (770)))]) rfl ?_
  refine ez_gI hB t770 rfl rfl tq_75 rfl rfl (fun (b1 : 0 ≤ qz_I h 770 12) (b1' : qz_I h 770 12 ≤ 512) => ?_)
  refine ez_go (n := 3) (pc' := 7) (L' := [(2, .inl ((qz_I h 770 12) - (1))), (0, .inr (.inr (some (770)))), (1, .inl (p))]) (st' := []) rfl ?_
  refine ez_less [(2, .inl ((qz_I h 770 12) - (1))), (0, .inr (.inr (some (770)))), (1, .inl (p))] rfl ⟨rfl, rfl, rfl, trivial⟩ ?_
  refine rd_told_l9 hI pr kN kS _ (lc h - 1) rfl (by omega) (by omega) (fun j y hj hy => ?_)
  have := (List.getElem?_eq_some_iff.mp hy).1; have := hI.2.2.2.2.2.2.1; omega
theorem rd_mrank9 {p : Int} (hI : mI9 τ h Ls b) (pr : ez_rg p) (kx : ez_rg (vF9 Ls p).1 → Q (.inl (some (ez_v (.inl (vF9 Ls p).1))), h)) : ez_W (d + 1) cm_295 0 [(0, .inr (.inr (some (770)))), (1, .inl (p))] [] h Q := by
  have hB := hI.1
  have t770 : τ 770 = 75 := hI.2.1 770 (by decide)
  have b12 : 0 ≤ qz_I h 770 12 ∧ qz_I h 770 12 ≤ 512 := ez_fB (cl := 11) (k := 12) hB t770 tq_75 rfl rfl (by decide)
  have lce : lc h = qz_I h 770 12 := rfl
  have nls : lc h ≤ qz_N h (ls h) := hI.2.2.1.1.1
  refine ez_go (n := 2) (pc' := 2) (L' := [(0, .inr (.inr (some (770)))), (1, .inl (p))]) (st' := [.inl (p), .inr (.inr (some (770)))]) rfl ?_
  refine ez_cv hB t770 rfl rfl rfl tq_75 rfl rfl rfl (rd_told9 hI pr (fun hno => ez_KA ?_) (fun k x hx hc hno => ez_KA ?_))
  · skip
    refine ez_go (n := 2) (pc' := 7) (L' := [(2, .inr (.inr none)), (0, .inr (.inr (some (770)))), (1, .inl (p))]) (st' := [.inr (.inr none)]) rfl ?_
    refine ez_nonn0 rfl ?_
    refine ez_go (n := 2) (pc' := 18) (L' := [(2, .inr (.inr none)), (0, .inr (.inr (some (770)))), (1, .inl (p))]) (st' := [.inl (0)]) rfl ?_
    exact ez_retI rfl rfl (by have e := vF_none9 hno; rw [e] at kx; exact kx ⟨by decide, by decide⟩)
  · skip
    have hk : (k : Int) < lc h := by have := (List.getElem?_eq_some_iff.mp hx).1; have := hI.2.2.2.2.2.2.1; omega
    have tl := (hI.L hk).1
    refine ez_go (n := 2) (pc' := 7) (L' := [(2, .inr (.inr (some (qz_P h (ls h) k)))), (0, .inr (.inr (some (770)))), (1, .inl (p))]) (st' := [.inr (.inr (some (qz_P h (ls h) k)))]) rfl ?_
    refine ez_nonn1 rfl rfl ?_
    refine ez_go (n := 1) (pc' := 15) (L' := [(2, .inr (.inr (some (qz_P h (ls h) k)))), (0, .inr (.inr (some (770)))), (1, .inl (p))]) (st' := [.inr (.inr (some (qz_P h (ls h) k)))]) rfl ?_
    refine ez_gI hB tl rfl rfl tq_13 rfl rfl (fun (b1 : -2147483648 ≤ qz_I h (qz_P h (ls h) k) 4) (b1' : qz_I h (qz_P h (ls h) k) 4 ≤ 2147483647) => ?_)
    exact ez_retI rfl rfl (by have e := vF_at9 hx hc hno; rw [e] at kx; have v := (hI.2.2.2.2.2.2.2 k x hx).1.1.2.2.2.1; rw [v]; exact kx ⟨by rw [← v]; omega, by rw [← v]; omega⟩)
theorem rd_has_l9 {p : Int} (hI : mI9 τ h Ls b) (pr : ez_rg p) (k1 : vE9 Ls p → Q (.inl (some (ez_v (.inl 1))), h)) (k0 : ¬ vE9 Ls p → Q (.inl (some (ez_v (.inl 0))), h)) : ∀ (n : Nat) (k : Int), n = (lc h - k).toNat → 0 ≤ k → k ≤ lc h → (∀ (j : Nat) y, (j : Int) < k → Ls[j]? = some y → ¬ exc39 y p) → ez_W d cm_264 2 [(3, .inl (k)), (0, .inr (.inr (some (770)))), (1, .inl (p)), (2, .inl (0))] [] h Q := by
  have hB := hI.1
  have t770 : τ 770 = 75 := hI.2.1 770 (by decide)
  have b12 : 0 ≤ qz_I h 770 12 ∧ qz_I h 770 12 ≤ 512 := ez_fB (cl := 11) (k := 12) hB t770 tq_75 rfl rfl (by decide)
  have lce : lc h = qz_I h 770 12 := rfl
  have nls : lc h ≤ qz_N h (ls h) := hI.2.2.1.1.1
  obtain ⟨pr0, pr1⟩ := id pr
  intro n
  induction n with
  | zero =>
    intro k hn kk0 kk1 hno
    refine ez_go (n := 2) (pc' := 4) (L' := [(3, .inl (k)), (0, .inr (.inr (some (770)))), (1, .inl (p)), (2, .inl (0))]) (st' := [.inr (.inr (some (770))), .inl (k)]) rfl ?_
    refine ez_gI hB t770 rfl rfl tq_75 rfl rfl (fun (b1 : 0 ≤ qz_I h 770 12) (b1' : qz_I h 770 12 ≤ 512) => ?_)
    refine ez_icmp rfl rfl ⟨by first | omega | exact (sz_i32 _).1, by first | omega | exact (sz_i32 _).2⟩ ⟨by first | omega | exact (sz_i32 _).1, by first | omega | exact (sz_i32 _).2⟩ (fun (c2 : (qz_I h 770 12) ≤ (k)) => ?_) (fun (c2 : ¬((qz_I h 770 12) ≤ (k))) => ?_)
    · skip
      refine ez_go (n := 1) (pc' := 63) (L' := [(3, .inl (k)), (0, .inr (.inr (some (770)))), (1, .inl (p)), (2, .inl (0))]) (st' := [.inl (0)]) rfl ?_
      exact ez_retZ rfl rfl (Or.inl rfl) (k0 (fun w => by obtain ⟨j, y, hj, hy⟩ := vE_iff9.mp w; exact hno j y (by have := (List.getElem?_eq_some_iff.mp hj).1; have := hI.2.2.2.2.2.2.1; omega) hj hy))
    · skip
      refine ez_go (n := 1) (pc' := 11) (L' := [(3, .inl (k)), (0, .inr (.inr (some (770)))), (1, .inl (p)), (2, .inl (0))]) (st' := [.inr (.inr (some (770)))]) rfl ?_
      refine ez_gR hB t770 rfl rfl tq_75 rfl rfl (fun (t3 : _ = 18) (t3' : 1 ≤ qz_I h 770 11) => ?_)
      rw [show qz_P h 770 11 = ls h from rfl] at *
      refine ez_go (n := 1) (pc' := 15) (L' := [(3, .inl (k)), (0, .inr (.inr (some (770)))), (1, .inl (p)), (2, .inl (0))]) (st' := [.inl (k), .inr (.inr (some ((ls h))))]) rfl ?_
      have n5 : 64 ≤ qz_N h ((ls h)) ∧ qz_N h ((ls h)) ≤ 4096 := ez_len hB t3 tq_18 rfl
      have y6 : 1 ≤ qz_I h ((ls h)) (k).toNat := (hI.at (k := k) (by omega) (by omega)).choose_spec.2.2.2
      have y7 : 0 ≤ qz_I h ((ls h)) (k).toNat ∧ qz_I h ((ls h)) (k).toNat ≤ 1000000 := ez_aB hB t3 tq_18 rfl rfl (by decide) (by omega) (by omega)
      have y7' : ((qz_P h ((ls h)) (k).toNat : Nat) : Int) + 1 = qz_I h ((ls h)) (k).toNat := by unfold qz_P; omega
      refine ez_aR hB t3 rfl tq_18 rfl rfl (by omega) (by omega) (by omega) (fun (t4 : _ = 13) => ?_)
      obtain ⟨x, hx, ⟨⟨x0, x1, x2, x4, x5⟩, -⟩, -, -⟩ := hI.at (k := k) (by omega) (by omega)
      have x0a : qz_I h (qz_P h (ls h) (k).toNat) 0 = x.1 := x0
      have x1a : qz_I h (qz_P h (ls h) (k).toNat) 1 = x.2.1 := x1
      have x2a : qz_I h (qz_P h (ls h) (k).toNat) 2 = x.2.2.1 := x2
      have x5a : qz_I h (qz_P h (ls h) (k).toNat) 5 = x.2.2.2.2.1 := x5
      refine ez_go (n := 2) (pc' := 20) (L' := [(4, .inr (.inr (some (qz_P h ((ls h)) (k).toNat)))), (3, .inl (k)), (0, .inr (.inr (some (770)))), (1, .inl (p)), (2, .inl (0))]) (st' := [.inr (.inr (some (qz_P h ((ls h)) (k).toNat)))]) rfl ?_
      refine ez_gI hB t4 rfl rfl tq_13 rfl rfl (fun (b8 : 0 ≤ qz_I h (qz_P h ((ls h)) (k).toNat) 0) (b8' : qz_I h (qz_P h ((ls h)) (k).toNat) 0 ≤ 4) => ?_)
      refine ez_go (n := 1) (pc' := 24) (L' := [(4, .inr (.inr (some (qz_P h ((ls h)) (k).toNat)))), (3, .inl (k)), (0, .inr (.inr (some (770)))), (1, .inl (p)), (2, .inl (0))]) (st' := [.inl (3), .inl (qz_I h (qz_P h ((ls h)) (k).toNat) 0)]) rfl ?_
      refine ez_icmp rfl rfl ⟨by first | omega | exact (sz_i32 _).1, by first | omega | exact (sz_i32 _).2⟩ ⟨by first | omega | exact (sz_i32 _).1, by first | omega | exact (sz_i32 _).2⟩ (fun (c9 : (qz_I h (qz_P h ((ls h)) (k).toNat) 0) ≠ (3)) => ?_) (fun (c9 : ¬((qz_I h (qz_P h ((ls h)) (k).toNat) 0) ≠ (3))) => ?_)
      · skip
        refine ez_go (n := 2) (pc' := 2) (L' := [(3, .inl (k + 1)), (4, .inr (.inr (some (qz_P h ((ls h)) (k).toNat)))), (0, .inr (.inr (some (770)))), (1, .inl (p)), (2, .inl (0))]) (st' := []) rfl ?_
        exfalso; omega
      · skip
        refine ez_go (n := 1) (pc' := 29) (L' := [(4, .inr (.inr (some (qz_P h ((ls h)) (k).toNat)))), (3, .inl (k)), (0, .inr (.inr (some (770)))), (1, .inl (p)), (2, .inl (0))]) (st' := [.inr (.inr (some (qz_P h ((ls h)) (k).toNat)))]) rfl ?_
        refine ez_gI hB t4 rfl rfl tq_13 rfl rfl (fun (b10 : -2147483648 ≤ qz_I h (qz_P h ((ls h)) (k).toNat) 5) (b10' : qz_I h (qz_P h ((ls h)) (k).toNat) 5 ≤ 2147483647) => ?_)
        refine ez_go (n := 1) (pc' := 33) (L' := [(4, .inr (.inr (some (qz_P h ((ls h)) (k).toNat)))), (3, .inl (k)), (0, .inr (.inr (some (770)))), (1, .inl (p)), (2, .inl (0))]) (st' := [.inl (0), .inl (qz_I h (qz_P h ((ls h)) (k).toNat) 5)]) rfl ?_
        refine ez_icmp rfl rfl ⟨by first | omega | exact (sz_i32 _).1, by first | omega | exact (sz_i32 _).2⟩ ⟨by first | omega | exact (sz_i32 _).1, by first | omega | exact (sz_i32 _).2⟩ (fun (c11 : (qz_I h (qz_P h ((ls h)) (k).toNat) 5) ≠ (0)) => ?_) (fun (c11 : ¬((qz_I h (qz_P h ((ls h)) (k).toNat) 5) ≠ (0))) => ?_)
        · skip
          refine ez_go (n := 2) (pc' := 2) (L' := [(3, .inl (k + 1)), (4, .inr (.inr (some (qz_P h ((ls h)) (k).toNat)))), (0, .inr (.inr (some (770)))), (1, .inl (p)), (2, .inl (0))]) (st' := []) rfl ?_
          exfalso; omega
        · skip
          refine ez_go (n := 1) (pc' := 38) (L' := [(4, .inr (.inr (some (qz_P h ((ls h)) (k).toNat)))), (3, .inl (k)), (0, .inr (.inr (some (770)))), (1, .inl (p)), (2, .inl (0))]) (st' := [.inr (.inr (some (qz_P h ((ls h)) (k).toNat)))]) rfl ?_
          refine ez_gI hB t4 rfl rfl tq_13 rfl rfl (fun (b12 : -2147483648 ≤ qz_I h (qz_P h ((ls h)) (k).toNat) 1) (b12' : qz_I h (qz_P h ((ls h)) (k).toNat) 1 ≤ 2147483647) => ?_)
          refine ez_go (n := 1) (pc' := 42) (L' := [(4, .inr (.inr (some (qz_P h ((ls h)) (k).toNat)))), (3, .inl (k)), (0, .inr (.inr (some (770)))), (1, .inl (p)), (2, .inl (0))]) (st' := [.inl (p), .inl (qz_I h (qz_P h ((ls h)) (k).toNat) 1)]) rfl ?_
          refine ez_icmp rfl rfl ⟨by first | omega | exact (sz_i32 _).1, by first | omega | exact (sz_i32 _).2⟩ ⟨by first | omega | exact (sz_i32 _).1, by first | omega | exact (sz_i32 _).2⟩ (fun (c13 : (p) < (qz_I h (qz_P h ((ls h)) (k).toNat) 1)) => ?_) (fun (c13 : ¬((p) < (qz_I h (qz_P h ((ls h)) (k).toNat) 1))) => ?_)
          · skip
            refine ez_go (n := 2) (pc' := 2) (L' := [(3, .inl (k + 1)), (4, .inr (.inr (some (qz_P h ((ls h)) (k).toNat)))), (0, .inr (.inr (some (770)))), (1, .inl (p)), (2, .inl (0))]) (st' := []) rfl ?_
            exfalso; omega
          · skip
            refine ez_go (n := 2) (pc' := 48) (L' := [(4, .inr (.inr (some (qz_P h ((ls h)) (k).toNat)))), (3, .inl (k)), (0, .inr (.inr (some (770)))), (1, .inl (p)), (2, .inl (0))]) (st' := [.inr (.inr (some (qz_P h ((ls h)) (k).toNat))), .inl (p)]) rfl ?_
            refine ez_gI hB t4 rfl rfl tq_13 rfl rfl (fun (b14 : -2147483648 ≤ qz_I h (qz_P h ((ls h)) (k).toNat) 2) (b14' : qz_I h (qz_P h ((ls h)) (k).toNat) 2 ≤ 2147483647) => ?_)
            refine ez_icmp rfl rfl ⟨by first | omega | exact (sz_i32 _).1, by first | omega | exact (sz_i32 _).2⟩ ⟨by first | omega | exact (sz_i32 _).1, by first | omega | exact (sz_i32 _).2⟩ (fun (c15 : (qz_I h (qz_P h ((ls h)) (k).toNat) 2) < (p)) => ?_) (fun (c15 : ¬((qz_I h (qz_P h ((ls h)) (k).toNat) 2) < (p))) => ?_)
            · skip
              refine ez_go (n := 2) (pc' := 2) (L' := [(3, .inl (k + 1)), (4, .inr (.inr (some (qz_P h ((ls h)) (k).toNat)))), (0, .inr (.inr (some (770)))), (1, .inl (p)), (2, .inl (0))]) (st' := []) rfl ?_
              exfalso; omega
            · skip
              refine ez_go (n := 1) (pc' := 55) (L' := [(4, .inr (.inr (some (qz_P h ((ls h)) (k).toNat)))), (3, .inl (k)), (0, .inr (.inr (some (770)))), (1, .inl (p)), (2, .inl (0))]) (st' := [.inl (1)]) rfl ?_
              exact ez_retZ rfl rfl (Or.inr rfl) (k1 (vE_iff9.mpr ⟨k.toNat, x, hx, by omega, by omega, by omega, by omega⟩))
  | succ n ih =>
    intro k hn kk0 kk1 hno
    refine ez_go (n := 2) (pc' := 4) (L' := [(3, .inl (k)), (0, .inr (.inr (some (770)))), (1, .inl (p)), (2, .inl (0))]) (st' := [.inr (.inr (some (770))), .inl (k)]) rfl ?_
    refine ez_gI hB t770 rfl rfl tq_75 rfl rfl (fun (b1 : 0 ≤ qz_I h 770 12) (b1' : qz_I h 770 12 ≤ 512) => ?_)
    refine ez_icmp rfl rfl ⟨by first | omega | exact (sz_i32 _).1, by first | omega | exact (sz_i32 _).2⟩ ⟨by first | omega | exact (sz_i32 _).1, by first | omega | exact (sz_i32 _).2⟩ (fun (c2 : (qz_I h 770 12) ≤ (k)) => ?_) (fun (c2 : ¬((qz_I h 770 12) ≤ (k))) => ?_)
    · skip
      refine ez_go (n := 1) (pc' := 63) (L' := [(3, .inl (k)), (0, .inr (.inr (some (770)))), (1, .inl (p)), (2, .inl (0))]) (st' := [.inl (0)]) rfl ?_
      exact ez_retZ rfl rfl (Or.inl rfl) (k0 (fun w => by obtain ⟨j, y, hj, hy⟩ := vE_iff9.mp w; exact hno j y (by have := (List.getElem?_eq_some_iff.mp hj).1; have := hI.2.2.2.2.2.2.1; omega) hj hy))
    · skip
      refine ez_go (n := 1) (pc' := 11) (L' := [(3, .inl (k)), (0, .inr (.inr (some (770)))), (1, .inl (p)), (2, .inl (0))]) (st' := [.inr (.inr (some (770)))]) rfl ?_
      refine ez_gR hB t770 rfl rfl tq_75 rfl rfl (fun (t3 : _ = 18) (t3' : 1 ≤ qz_I h 770 11) => ?_)
      rw [show qz_P h 770 11 = ls h from rfl] at *
      refine ez_go (n := 1) (pc' := 15) (L' := [(3, .inl (k)), (0, .inr (.inr (some (770)))), (1, .inl (p)), (2, .inl (0))]) (st' := [.inl (k), .inr (.inr (some ((ls h))))]) rfl ?_
      have n5 : 64 ≤ qz_N h ((ls h)) ∧ qz_N h ((ls h)) ≤ 4096 := ez_len hB t3 tq_18 rfl
      have y6 : 1 ≤ qz_I h ((ls h)) (k).toNat := (hI.at (k := k) (by omega) (by omega)).choose_spec.2.2.2
      have y7 : 0 ≤ qz_I h ((ls h)) (k).toNat ∧ qz_I h ((ls h)) (k).toNat ≤ 1000000 := ez_aB hB t3 tq_18 rfl rfl (by decide) (by omega) (by omega)
      have y7' : ((qz_P h ((ls h)) (k).toNat : Nat) : Int) + 1 = qz_I h ((ls h)) (k).toNat := by unfold qz_P; omega
      refine ez_aR hB t3 rfl tq_18 rfl rfl (by omega) (by omega) (by omega) (fun (t4 : _ = 13) => ?_)
      obtain ⟨x, hx, ⟨⟨x0, x1, x2, x4, x5⟩, -⟩, -, -⟩ := hI.at (k := k) (by omega) (by omega)
      have x0a : qz_I h (qz_P h (ls h) (k).toNat) 0 = x.1 := x0
      have x1a : qz_I h (qz_P h (ls h) (k).toNat) 1 = x.2.1 := x1
      have x2a : qz_I h (qz_P h (ls h) (k).toNat) 2 = x.2.2.1 := x2
      have x5a : qz_I h (qz_P h (ls h) (k).toNat) 5 = x.2.2.2.2.1 := x5
      refine ez_go (n := 2) (pc' := 20) (L' := [(4, .inr (.inr (some (qz_P h ((ls h)) (k).toNat)))), (3, .inl (k)), (0, .inr (.inr (some (770)))), (1, .inl (p)), (2, .inl (0))]) (st' := [.inr (.inr (some (qz_P h ((ls h)) (k).toNat)))]) rfl ?_
      refine ez_gI hB t4 rfl rfl tq_13 rfl rfl (fun (b8 : 0 ≤ qz_I h (qz_P h ((ls h)) (k).toNat) 0) (b8' : qz_I h (qz_P h ((ls h)) (k).toNat) 0 ≤ 4) => ?_)
      refine ez_go (n := 1) (pc' := 24) (L' := [(4, .inr (.inr (some (qz_P h ((ls h)) (k).toNat)))), (3, .inl (k)), (0, .inr (.inr (some (770)))), (1, .inl (p)), (2, .inl (0))]) (st' := [.inl (3), .inl (qz_I h (qz_P h ((ls h)) (k).toNat) 0)]) rfl ?_
      refine ez_icmp rfl rfl ⟨by first | omega | exact (sz_i32 _).1, by first | omega | exact (sz_i32 _).2⟩ ⟨by first | omega | exact (sz_i32 _).1, by first | omega | exact (sz_i32 _).2⟩ (fun (c9 : (qz_I h (qz_P h ((ls h)) (k).toNat) 0) ≠ (3)) => ?_) (fun (c9 : ¬((qz_I h (qz_P h ((ls h)) (k).toNat) 0) ≠ (3))) => ?_)
      · skip
        refine ez_go (n := 2) (pc' := 2) (L' := [(3, .inl (k + 1)), (4, .inr (.inr (some (qz_P h ((ls h)) (k).toNat)))), (0, .inr (.inr (some (770)))), (1, .inl (p)), (2, .inl (0))]) (st' := []) rfl ?_
        refine ez_less [(3, .inl (k + 1)), (0, .inr (.inr (some (770)))), (1, .inl (p)), (2, .inl (0))] rfl ⟨rfl, rfl, rfl, rfl, trivial⟩ ?_
        refine ih (k + 1) (by omega) (by omega) (by omega) (fun j y hj hy => ?_)
        by_cases e : j = k.toNat
        · subst e; rw [hx] at hy; cases hy; intro w; have w1 := w.1; have w2 := w.2.1; have w3 := w.2.2.1; have w4 := w.2.2.2; omega
        · exact hno j y (by omega) hy
      · skip
        refine ez_go (n := 1) (pc' := 29) (L' := [(4, .inr (.inr (some (qz_P h ((ls h)) (k).toNat)))), (3, .inl (k)), (0, .inr (.inr (some (770)))), (1, .inl (p)), (2, .inl (0))]) (st' := [.inr (.inr (some (qz_P h ((ls h)) (k).toNat)))]) rfl ?_
        refine ez_gI hB t4 rfl rfl tq_13 rfl rfl (fun (b10 : -2147483648 ≤ qz_I h (qz_P h ((ls h)) (k).toNat) 5) (b10' : qz_I h (qz_P h ((ls h)) (k).toNat) 5 ≤ 2147483647) => ?_)
        refine ez_go (n := 1) (pc' := 33) (L' := [(4, .inr (.inr (some (qz_P h ((ls h)) (k).toNat)))), (3, .inl (k)), (0, .inr (.inr (some (770)))), (1, .inl (p)), (2, .inl (0))]) (st' := [.inl (0), .inl (qz_I h (qz_P h ((ls h)) (k).toNat) 5)]) rfl ?_
        refine ez_icmp rfl rfl ⟨by first | omega | exact (sz_i32 _).1, by first | omega | exact (sz_i32 _).2⟩ ⟨by first | omega | exact (sz_i32 _).1, by first | omega | exact (sz_i32 _).2⟩ (fun (c11 : (qz_I h (qz_P h ((ls h)) (k).toNat) 5) ≠ (0)) => ?_) (fun (c11 : ¬((qz_I h (qz_P h ((ls h)) (k).toNat) 5) ≠ (0))) => ?_)
        · skip
          refine ez_go (n := 2) (pc' := 2) (L' := [(3, .inl (k + 1)), (4, .inr (.inr (some (qz_P h ((ls h)) (k).toNat)))), (0, .inr (.inr (some (770)))), (1, .inl (p)), (2, .inl (0))]) (st' := []) rfl ?_
          refine ez_less [(3, .inl (k + 1)), (0, .inr (.inr (some (770)))), (1, .inl (p)), (2, .inl (0))] rfl ⟨rfl, rfl, rfl, rfl, trivial⟩ ?_
          refine ih (k + 1) (by omega) (by omega) (by omega) (fun j y hj hy => ?_)
          by_cases e : j = k.toNat
          · subst e; rw [hx] at hy; cases hy; intro w; have w1 := w.1; have w2 := w.2.1; have w3 := w.2.2.1; have w4 := w.2.2.2; omega
          · exact hno j y (by omega) hy
        · skip
          refine ez_go (n := 1) (pc' := 38) (L' := [(4, .inr (.inr (some (qz_P h ((ls h)) (k).toNat)))), (3, .inl (k)), (0, .inr (.inr (some (770)))), (1, .inl (p)), (2, .inl (0))]) (st' := [.inr (.inr (some (qz_P h ((ls h)) (k).toNat)))]) rfl ?_
          refine ez_gI hB t4 rfl rfl tq_13 rfl rfl (fun (b12 : -2147483648 ≤ qz_I h (qz_P h ((ls h)) (k).toNat) 1) (b12' : qz_I h (qz_P h ((ls h)) (k).toNat) 1 ≤ 2147483647) => ?_)
          refine ez_go (n := 1) (pc' := 42) (L' := [(4, .inr (.inr (some (qz_P h ((ls h)) (k).toNat)))), (3, .inl (k)), (0, .inr (.inr (some (770)))), (1, .inl (p)), (2, .inl (0))]) (st' := [.inl (p), .inl (qz_I h (qz_P h ((ls h)) (k).toNat) 1)]) rfl ?_
          refine ez_icmp rfl rfl ⟨by first | omega | exact (sz_i32 _).1, by first | omega | exact (sz_i32 _).2⟩ ⟨by first | omega | exact (sz_i32 _).1, by first | omega | exact (sz_i32 _).2⟩ (fun (c13 : (p) < (qz_I h (qz_P h ((ls h)) (k).toNat) 1)) => ?_) (fun (c13 : ¬((p) < (qz_I h (qz_P h ((ls h)) (k).toNat) 1))) => ?_)
          · skip
            refine ez_go (n := 2) (pc' := 2) (L' := [(3, .inl (k + 1)), (4, .inr (.inr (some (qz_P h ((ls h)) (k).toNat)))), (0, .inr (.inr (some (770)))), (1, .inl (p)), (2, .inl (0))]) (st' := []) rfl ?_
            refine ez_less [(3, .inl (k + 1)), (0, .inr (.inr (some (770)))), (1, .inl (p)), (2, .inl (0))] rfl ⟨rfl, rfl, rfl, rfl, trivial⟩ ?_
            refine ih (k + 1) (by omega) (by omega) (by omega) (fun j y hj hy => ?_)
            by_cases e : j = k.toNat
            · subst e; rw [hx] at hy; cases hy; intro w; have w1 := w.1; have w2 := w.2.1; have w3 := w.2.2.1; have w4 := w.2.2.2; omega
            · exact hno j y (by omega) hy
          · skip
            refine ez_go (n := 2) (pc' := 48) (L' := [(4, .inr (.inr (some (qz_P h ((ls h)) (k).toNat)))), (3, .inl (k)), (0, .inr (.inr (some (770)))), (1, .inl (p)), (2, .inl (0))]) (st' := [.inr (.inr (some (qz_P h ((ls h)) (k).toNat))), .inl (p)]) rfl ?_
            refine ez_gI hB t4 rfl rfl tq_13 rfl rfl (fun (b14 : -2147483648 ≤ qz_I h (qz_P h ((ls h)) (k).toNat) 2) (b14' : qz_I h (qz_P h ((ls h)) (k).toNat) 2 ≤ 2147483647) => ?_)
            refine ez_icmp rfl rfl ⟨by first | omega | exact (sz_i32 _).1, by first | omega | exact (sz_i32 _).2⟩ ⟨by first | omega | exact (sz_i32 _).1, by first | omega | exact (sz_i32 _).2⟩ (fun (c15 : (qz_I h (qz_P h ((ls h)) (k).toNat) 2) < (p)) => ?_) (fun (c15 : ¬((qz_I h (qz_P h ((ls h)) (k).toNat) 2) < (p))) => ?_)
            · skip
              refine ez_go (n := 2) (pc' := 2) (L' := [(3, .inl (k + 1)), (4, .inr (.inr (some (qz_P h ((ls h)) (k).toNat)))), (0, .inr (.inr (some (770)))), (1, .inl (p)), (2, .inl (0))]) (st' := []) rfl ?_
              refine ez_less [(3, .inl (k + 1)), (0, .inr (.inr (some (770)))), (1, .inl (p)), (2, .inl (0))] rfl ⟨rfl, rfl, rfl, rfl, trivial⟩ ?_
              refine ih (k + 1) (by omega) (by omega) (by omega) (fun j y hj hy => ?_)
              by_cases e : j = k.toNat
              · subst e; rw [hx] at hy; cases hy; intro w; have w1 := w.1; have w2 := w.2.1; have w3 := w.2.2.1; have w4 := w.2.2.2; omega
              · exact hno j y (by omega) hy
            · skip
              refine ez_go (n := 1) (pc' := 55) (L' := [(4, .inr (.inr (some (qz_P h ((ls h)) (k).toNat)))), (3, .inl (k)), (0, .inr (.inr (some (770)))), (1, .inl (p)), (2, .inl (0))]) (st' := [.inl (1)]) rfl ?_
              exact ez_retZ rfl rfl (Or.inr rfl) (k1 (vE_iff9.mpr ⟨k.toNat, x, hx, by omega, by omega, by omega, by omega⟩))
theorem rd_has9 {p : Int} (hI : mI9 τ h Ls b) (pr : ez_rg p) (k1 : vE9 Ls p → Q (.inl (some (ez_v (.inl 1))), h)) (k0 : ¬ vE9 Ls p → Q (.inl (some (ez_v (.inl 0))), h)) : ez_W d cm_264 0 [(0, .inr (.inr (some (770)))), (1, .inl (p)), (2, .inl (0))] [] h Q := by
  have hB := hI.1
  have t770 : τ 770 = 75 := hI.2.1 770 (by decide)
  have b12 : 0 ≤ qz_I h 770 12 ∧ qz_I h 770 12 ≤ 512 := ez_fB (cl := 11) (k := 12) hB t770 tq_75 rfl rfl (by decide)
  have lce : lc h = qz_I h 770 12 := rfl
  have nls : lc h ≤ qz_N h (ls h) := hI.2.2.1.1.1
  refine ez_go (n := 2) (pc' := 2) (L' := [(3, .inl (0)), (0, .inr (.inr (some (770)))), (1, .inl (p)), (2, .inl (0))]) (st' := []) rfl ?_
  refine ez_less [(3, .inl (0)), (0, .inr (.inr (some (770)))), (1, .inl (p)), (2, .inl (0))] rfl ⟨rfl, rfl, rfl, rfl, trivial⟩ ?_
  exact rd_has_l9 hI pr k1 k0 _ 0 rfl (by omega) (by omega) (fun j y hj hy => by omega)
end EzTd
theorem mI9.gen {τ τ1 : Nat → Nat} {h g : cz_H} {Ls : List vz9} {b : Int} (hI : mI9 τ h Ls b) (hB : ez_B τ1 g) (ht : ∀ q, τ q ≠ 0 → τ1 q = τ q) (hnew : ∀ q, τ q = 0 → τ1 q ≠ 13 ∧ τ1 q ≠ 15) (c : ∀ q, ((13 ≤ τ q ∧ τ q ≤ 18) ∨ (26 ≤ τ q ∧ τ q ≤ 28)) → g.2.2 q = h.2.2 q) (i : ∀ j, 8 ≤ j → j ≤ 12 → qz_I g 770 j = qz_I h 770 j) : mI9 τ1 g Ls b := by
  have hX := hI.2.1
  have t770 := hX 770 (by decide)
  have tt := ez_tls hI.1 t770
  have ep : po g = po h := by unfold po qz_P; rw [i 9 (by decide) (by decide)]
  have en : pn g = pn h := i 10 (by decide) (by decide)
  have cp := c (po h) (by omega)
  have eN : qz_N g (po h) = qz_N h (po h) := by unfold qz_N; rw [cp]
  have m := hI.2.2.2.2.1
  have old : ∀ r t, τ1 r = t → (t = 13 ∨ t = 15) → τ r = t := fun r t hr ht2 => by
    by_cases e0 : τ r = 0
    · have := hnew r e0; omega
    · rw [← ht r e0]; exact hr
  refine hI.tr hB ht (fun j hj => i j (by omega) (by omega)) (c _ (by omega)) (fun k hk => ?_) ⟨⟨by omega, by rw [en, ep, eN]; exact hI.2.2.1.1.2⟩, by rw [en]; exact hI.2.2.1.2.2⟩ (fun j _ _ => by unfold pl qz_I; rw [ep, cp]) (fun q hq => c q (by omega)) ⟨fun r hr => ?_, fun r hr => ?_⟩
  · obtain ⟨l1, l2, l3⟩ := hI.L hk
    exact ⟨c _ (by omega), c _ (by omega), c _ (by omega)⟩
  · have hr' := old r _ hr (by omega)
    obtain ⟨m1, m2⟩ := m.1 r hr'
    refine ⟨(ht _ (by omega)).trans m1, fun j => ?_⟩
    have := m2 j
    rw [ep, eN]; unfold qz_I at this ⊢; rw [c r (by omega), c (r + 1) (by omega)]; exact this
  · have hr' := old r _ hr (by omega)
    obtain ⟨m1, m2, m3⟩ := m.2 r hr'
    refine ⟨(ht _ (by omega)).trans m1, (ht _ (by omega)).trans m2, ?_⟩
    rw [ep, eN]; unfold qz_I at m3 ⊢; rw [c r (by omega), c (r + 1) (by omega), c (r + 2) (by omega)]; exact m3
theorem gd.mI9 {τ τ1 : Nat → Nat} {h g : cz_H} {Ls : List vz9} {b : Int} (a : gd τ h τ1 g) (hI : mI9 τ h Ls b) (hB : ez_B τ1 g) : mI9 τ1 g Ls b := by
  have t770 : τ 770 = 75 := hI.2.1 770 (by decide)
  refine hI.gen hB (fun q hq => (a.1 q hq).1) (fun q q0 => ?_) (fun q hq => (a.1 q (by omega)).2 (fun e => by rw [e, t770] at hq; omega) (by omega) (by omega)) (fun j j1 j2 => a.2.2.1 j (by omega) (by omega) (by omega))
  by_cases e : τ1 q = 0
  · omega
  · have := a.2.1 q q0 e; omega
section EzCw
variable {d : Nat} {h : cz_H} {τ : Nat → Nat} {Q : cz_F → Prop} {l : Nat} {k : Int}
end EzCw
section EzCx
variable {d : Nat} {h : cz_H} {τ : Nat → Nat} {Q : cz_F → Prop} {l : Nat} {k : Int}
end EzCx
def cg9 (Ls : List vz9) (v : Nat → Int) (a b K : Int) : Prop := ∃ (k : Nat) (x : vz9), Ls[k]? = some x ∧ (k : Int) < K ∧ (x.1 = 0 ∧ x.2.2.2.2.1 ≠ 0) ∧ x.2.1 = a ∧ (∀ (j : Nat) y, k < j → Ls[j]? = some y → ¬ cov9 y a) ∧ b = v k
def cE9 (Ls : List vz9) (v A B : Nat → Int) (n K : Int) : Prop := (∀ i : Nat, (i : Int) < n → cg9 Ls v (A i) (B i) K) ∧ (∀ i j : Nat, i < j → (j : Int) < n → A i < A j) ∧ ∀ (k : Nat) x, (k : Int) < K → Ls[k]? = some x → x.1 = 0 → x.2.2.2.2.1 ≠ 0 → (∀ (j : Nat) y, k < j → Ls[j]? = some y → ¬ cov9 y x.2.1) → ∃ i : Nat, (i : Int) < n ∧ A i = x.2.1
theorem cg9.mono {Ls : List vz9} {v : Nat → Int} {a b K K' : Int} (c : cg9 Ls v a b K) (h : K ≤ K') : cg9 Ls v a b K' := by
  obtain ⟨k, x, h1, h2, h3⟩ := c
  exact ⟨k, x, h1, by omega, h3⟩
theorem cE_skip9 {Ls : List vz9} {v A B : Nat → Int} {n K : Int} (c : cE9 Ls v A B n K) (h : ∀ x, Ls[K.toNat]? = some x → x.1 = 0 → x.2.2.2.2.1 ≠ 0 → ¬ (∀ (j : Nat) y, K.toNat < j → Ls[j]? = some y → ¬ cov9 y x.2.1)) : cE9 Ls v A B n (K + 1) := by
  refine ⟨fun i hi => (c.1 i hi).mono (by omega), c.2.1, fun k x hk hx x0 x5 hl => ?_⟩
  by_cases e : (k : Int) < K
  · exact c.2.2 k x e hx x0 x5 hl
  · have : k = K.toNat := by omega
    subst this
    exact absurd hl (h x hx x0 x5)
theorem cE_ins9 {Ls : List vz9} {v A B A' B' : Nat → Int} {n K : Int} {x : vz9} {p : Nat} (c : cE9 Ls v A B n K) (K0 : 0 ≤ K) (hx : Ls[K.toNat]? = some x) (x0 : x.1 = 0) (x5 : x.2.2.2.2.1 ≠ 0) (x1 : x.2.1 = x.2.2.1) (hl : ∀ (j : Nat) y, K.toNat < j → Ls[j]? = some y → ¬ cov9 y x.2.1) (hp : (p : Int) ≤ n) (lo : ∀ i : Nat, i < p → A' i = A i ∧ B' i = B i) (mid : A' p = x.2.1 ∧ B' p = v K.toNat) (hi : ∀ i : Nat, p ≤ i → (i : Int) < n → A' (i + 1) = A i ∧ B' (i + 1) = B i) (le : p = 0 ∨ A (p - 1) ≤ x.2.1) (gt : ∀ i : Nat, p ≤ i → (i : Int) < n → x.2.1 < A i) : cE9 Ls v A' B' (n + 1) (K + 1) := by
  have below : ∀ i : Nat, i < p → A i < x.2.1 := fun i hi2 => by
    have h1 : A (p - 1) ≤ x.2.1 := le.resolve_left (by omega)
    have h2 : A i ≤ A (p - 1) := by
      by_cases e : i = p - 1
      · rw [e]; exact Int.le_refl _
      · exact Int.le_of_lt (c.2.1 i (p - 1) (by omega) (by omega))
    have h3 : A i ≠ x.2.1 := fun e => by
      obtain ⟨k, y, c1, c2, c3, c4, c5, c6⟩ := c.1 i (by omega)
      exact c5 K.toNat x (by omega) hx ⟨x0, by omega, by omega⟩
    omega
  have up : ∀ i : Nat, p < i → (i : Int) < n + 1 → A' i = A (i - 1) ∧ B' i = B (i - 1) := fun i h1 h2 => by
    have := hi (i - 1) (by omega) (by omega)
    rw [show i - 1 + 1 = i by omega] at this
    exact this
  refine ⟨fun i hn => ?_, fun i j hij hj => ?_, fun k y hk hy y0 y5 hly => ?_⟩
  · rcases Nat.lt_trichotomy i p with e | e | e
    · rw [(lo i e).1, (lo i e).2]; exact (c.1 i (by omega)).mono (by omega)
    · subst e
      rw [mid.1, mid.2]
      exact ⟨K.toNat, x, hx, by omega, ⟨x0, x5⟩, rfl, hl, rfl⟩
    · rw [(up i e hn).1, (up i e hn).2]; exact (c.1 (i - 1) (by omega)).mono (by omega)
  · rcases Nat.lt_trichotomy i p with e | e | e
    · rcases Nat.lt_trichotomy j p with f | f | f
      · rw [(lo i e).1, (lo j f).1]; exact c.2.1 i j hij (by omega)
      · subst f; rw [(lo i e).1, mid.1]; exact below i e
      · rw [(lo i e).1, (up j f hj).1]
        have := below i e
        have := gt (j - 1) (by omega) (by omega)
        omega
    · subst e
      rw [mid.1, (up j hij hj).1]
      exact gt (j - 1) (by omega) (by omega)
    · rw [(up i e (by omega)).1, (up j (by omega) hj).1]
      exact c.2.1 (i - 1) (j - 1) (by omega) (by omega)
  · by_cases e : (k : Int) < K
    · obtain ⟨i, i1, i2⟩ := c.2.2 k y e hy y0 y5 hly
      by_cases ei : i < p
      · exact ⟨i, by omega, by rw [(lo i ei).1]; exact i2⟩
      · exact ⟨i + 1, by omega, by rw [(hi i (by omega) i1).1]; exact i2⟩
    · have : k = K.toNat := by omega
      subst this
      rw [hx] at hy; cases hy
      exact ⟨p, by omega, mid.1⟩
theorem cE_congr9 {Ls : List vz9} {v v' A A' B B' : Nat → Int} {n K : Int} (c : cE9 Ls v A B n K) (hK : K ≤ (Ls.length : Int)) (hv : ∀ k : Nat, k < Ls.length → v' k = v k) (hA : ∀ i : Nat, (i : Int) < n → A' i = A i) (hB : ∀ i : Nat, (i : Int) < n → B' i = B i) : cE9 Ls v' A' B' n K := by
  refine ⟨fun i hi => ?_, fun i j hij hj => by rw [hA i (by omega), hA j hj]; exact c.2.1 i j hij hj, fun k x hk hx x0 x5 hl => ?_⟩
  · obtain ⟨k, x, c1, c2, c3, c4, c5, c6⟩ := c.1 i hi
    rw [hA i hi, hB i hi]
    exact ⟨k, x, c1, c2, c3, c4, c5, by rw [c6, hv k (by omega)]⟩
  · obtain ⟨i, i1, i2⟩ := c.2.2 k x hk hx x0 x5 hl
    exact ⟨i, i1, by rw [hA i i1]; exact i2⟩
def cD9 (h : cz_H) (Ls : List vz9) (K : Int) : Prop := cE9 Ls (fun k => qz_I h (ls h) k) (fun i => qz_I h (dc h) i) (fun i => qz_I h (bw h) i) (cn h) K
theorem cD_F9 {τ : Nat → Nat} {h : cz_H} {Ls : List vz9} {b : Int} (hI : mI9 τ h Ls b) (c : cD9 h Ls (lc h)) : (∀ i : Nat, (i : Int) < cn h → ∃ x, (vF9 Ls (qz_I h (dc h) i) = (x.2.2.2.1, some (x.2.2.2.2.1 - 1, x.2.2.2.2.2.1)) ∧ (0 < x.2.2.2.2.1 ∧ x.1 = 0)) ∧ vc9 h (qz_P h (bw h) i) x ∧ τ (qz_P h (bw h) i) = 13 ∧ 1 ≤ qz_I h (bw h) i) ∧ ∀ y, (vF9 Ls y).2 ≠ none → ∃ i : Nat, (i : Int) < cn h ∧ qz_I h (dc h) i = y := by
  have v := hI.2.2.2.2.2.2
  refine ⟨fun i hi => ?_, fun y hy => ?_⟩
  · obtain ⟨k, x, c1, c2, c3, c4, c5, c6⟩ := c.1 i hi
    have c6 : qz_I h (bw h) i = qz_I h (ls h) k := c6
    have c4 : x.2.1 = qz_I h (dc h) i := c4
    have c5 : ∀ (j : Nat) (y : vz9), k < j → Ls[j]? = some y → ¬ cov9 y (qz_I h (dc h) i) := c5
    have eP : qz_P h (bw h) i = qz_P h (ls h) k := by unfold qz_P; rw [c6]
    have hk : (k : Int) < lc h := by have := (List.getElem?_eq_some_iff.mp c1).1; have := v.1; omega
    have hv := (v.2 k x c1).1
    have w := hv.2 c3.1
    have w2 := w.2 c3.2
    have e := vF_at9 c1 ⟨c3.1, by rw [c4]; exact Int.le_refl _, by rw [← w2.1, c4]; exact Int.le_refl _⟩ c5
    refine ⟨x, ⟨?_, by have := w.1; have := c3.2; omega, c3.1⟩, by rw [eP]; exact hv, by rw [eP]; exact (hI.L hk).1, by rw [c6]; exact hI.2.2.2.1.1 k hk⟩
    rw [e]; unfold vD9; rw [if_neg c3.2]
  · have hex : ∃ (k : Nat) (x : vz9), Ls[k]? = some x ∧ cov9 x y ∧ ∀ (j : Nat) z, k < j → Ls[j]? = some z → ¬ cov9 z y := by
      have key : ∀ m : Nat, (∃ (k : Nat) (x : vz9), Ls[k]? = some x ∧ cov9 x y ∧ ∀ (j : Nat) z, k < j → Ls[j]? = some z → ¬ cov9 z y) ∨ ∀ (j : Nat) z, Ls.length - m ≤ j → Ls[j]? = some z → ¬ cov9 z y := by
        intro m
        induction m with
        | zero => exact Or.inr (fun j z hj hz => by have := (List.getElem?_eq_some_iff.mp hz).1; omega)
        | succ m ih =>
          rcases ih with h1 | h1
          · exact Or.inl h1
          · cases hz : Ls[Ls.length - (m + 1)]? with
            | none => exact Or.inr (fun j z hj hz2 => by
                by_cases e : j = Ls.length - (m + 1)
                · rw [e, hz] at hz2; cases hz2
                · exact h1 j z (by omega) hz2)
            | some x =>
              by_cases hc : cov9 x y
              · exact Or.inl ⟨_, x, hz, hc, fun j z hj hz2 => h1 j z (by omega) hz2⟩
              · exact Or.inr (fun j z hj hz2 => by
                  by_cases e : j = Ls.length - (m + 1)
                  · rw [e, hz] at hz2; cases hz2; exact hc
                  · exact h1 j z (by omega) hz2)
      rcases key Ls.length with h1 | h1
      · exact h1
      · exfalso
        rw [vF_none9 (fun j z hz => h1 j z (by omega) hz)] at hy
        exact hy rfl
    obtain ⟨k, x, e1, e2, e3⟩ := hex
    rw [vF_at9 e1 e2 e3] at hy
    have x5 : x.2.2.2.2.1 ≠ 0 := fun e => hy (by show vD9 x = none; unfold vD9; rw [if_pos e])
    have hk : (k : Int) < lc h := by have := (List.getElem?_eq_some_iff.mp e1).1; have := v.1; omega
    have w := ((v.2 k x e1).1.2 e2.1).2 x5
    have ey : x.2.1 = y := by have := e2.2.1; have := e2.2.2; have := w.1; omega
    obtain ⟨i, i1, i2⟩ := c.2.2 k x hk e1 e2.1 x5 (by rw [ey]; exact e3)
    exact ⟨i, i1, by rw [← ey]; exact i2⟩
section EzCy
variable {d : Nat} {h : cz_H} {τ : Nat → Nat} {Q : cz_F → Prop} {Ls : List vz9} {b : Int}
theorem rd_collect_l9 (hI : mI9 τ h Ls b) (hlc : lc h ≤ 500) (hr1 : h.1 + 200 ≤ 600192) (hr2 : h.2.1 + 20000 ≤ 7302232) (kx : ∀ g τ1, ez_B τ1 g → gd τ h τ1 g → cD9 g Ls (lc g) → cn g ≤ lc h → cn g ≤ qz_N g (bw g) → Q (.inl none, g)) : ∀ (m : Nat) (k : Int) (g : cz_H) (τ1 : Nat → Nat), m = (lc h - k).toNat → 0 ≤ k → k ≤ lc h → ez_B τ1 g → gd τ h τ1 g → cD9 g Ls k → cn g ≤ k → cn g ≤ qz_N g (bw g) → ez_W (d + 1) cm_237 7 [(1, .inl (k)), (0, .inr (.inr (some (770))))] [] g Q := by
  have hB := hI.1
  have t770 : τ 770 = 75 := hI.2.1 770 (by decide)
  have lb0 : 64 ≤ qz_N h (bw h) := (ez_len hB (ez_tdb hB t770).2 tq_20 rfl).1
  intro m
  induction m with
  | zero =>
    intro k g τ1 hm k0 k1 hBg hg hc9 hcn hcb
    have u770 : τ1 770 = 75 := (hg.1 770 (by rw [t770]; decide)).1.trans t770
    have I1 := hg.mI9 hI hBg
    have elc : lc g = lc h := (hg.lsx hB t770).2.1
    have lce : lc g = qz_I g 770 12 := rfl
    have nls : lc g ≤ qz_N g (ls g) := I1.2.2.1.1.1
    have cne : cn g = qz_I g 770 23 := rfl
    have b23 : 0 ≤ qz_I g 770 23 ∧ qz_I g 770 23 ≤ 512 := ez_fB (cl := 11) (k := 23) hBg u770 tq_75 rfl rfl (by decide)
    have rr := hg.2.2.2.2.1
    have lgb : qz_N g (bw g) ≤ 4096 := (ez_len hBg (ez_tdb hBg u770).2 tq_20 rfl).2
    refine ez_go (n := 2) (pc' := 9) (L' := [(1, .inl (k)), (0, .inr (.inr (some (770))))]) (st' := [.inr (.inr (some (770))), .inl (k)]) rfl ?_
    refine ez_gI hBg u770 rfl rfl tq_75 rfl rfl (fun (b1 : 0 ≤ qz_I g 770 12) (b1' : qz_I g 770 12 ≤ 512) => ?_)
    refine ez_icmp rfl rfl ⟨by first | omega | exact (sz_i32 _).1, by first | omega | exact (sz_i32 _).2⟩ ⟨by first | omega | exact (sz_i32 _).1, by first | omega | exact (sz_i32 _).2⟩ (fun (c2 : (qz_I g 770 12) ≤ (k)) => ?_) (fun (c2 : ¬((qz_I g 770 12) ≤ (k))) => ?_)
    · skip
      have ek : k = lc g := by omega
      rw [ek] at hc9
      exact ez_ret0 rfl rfl (kx g τ1 hBg hg hc9 (by omega) hcb)
    · skip
      refine ez_go (n := 1) (pc' := 16) (L' := [(1, .inl (k)), (0, .inr (.inr (some (770))))]) (st' := [.inr (.inr (some (770)))]) rfl ?_
      refine ez_gR hBg u770 rfl rfl tq_75 rfl rfl (fun (t3 : _ = 18) (t3' : 1 ≤ qz_I g 770 11) => ?_)
      rw [show qz_P g 770 11 = ls g from rfl] at *
      refine ez_go (n := 1) (pc' := 20) (L' := [(1, .inl (k)), (0, .inr (.inr (some (770))))]) (st' := [.inl (k), .inr (.inr (some ((ls g))))]) rfl ?_
      have n5 : 64 ≤ qz_N g ((ls g)) ∧ qz_N g ((ls g)) ≤ 4096 := ez_len hBg t3 tq_18 rfl
      have y6 : 1 ≤ qz_I g ((ls g)) (k).toNat := (I1.at (k := k) (by omega) (by omega)).choose_spec.2.2.2
      have y7 : 0 ≤ qz_I g ((ls g)) (k).toNat ∧ qz_I g ((ls g)) (k).toNat ≤ 1000000 := ez_aB hBg t3 tq_18 rfl rfl (by decide) (by omega) (by omega)
      have y7' : ((qz_P g ((ls g)) (k).toNat : Nat) : Int) + 1 = qz_I g ((ls g)) (k).toNat := by unfold qz_P; omega
      refine ez_aR hBg t3 rfl tq_18 rfl rfl (by omega) (by omega) (by omega) (fun (t4 : _ = 13) => ?_)
      obtain ⟨x, hx, hvc, tll, -⟩ := I1.at (k := k) (by omega) (by omega)
      obtain ⟨⟨x0, x1, x2, x4, x5⟩, xr⟩ := id hvc
      generalize el : qz_P g (ls g) (k).toNat = l at hvc x0 x1 x2 x4 x5 xr tll ⊢
      refine ez_go (n := 2) (pc' := 23) (L' := [(2, .inr (.inr (some (l)))), (1, .inl (k)), (0, .inr (.inr (some (770))))]) (st' := [.inr (.inr (some (l)))]) rfl ?_
      refine ez_gI hBg tll rfl rfl tq_13 rfl rfl (fun (b8 : 0 ≤ qz_I g l 0) (b8' : qz_I g l 0 ≤ 4) => ?_)
      refine ez_if rfl rfl ⟨by first | omega | exact (sz_i32 _).1, by first | omega | exact (sz_i32 _).2⟩ (fun (c9 : (qz_I g l 0) ≠ (0)) => ?_) (fun (c9 : ¬((qz_I g l 0) ≠ (0))) => ?_)
      · skip
        exfalso; omega
      · skip
        refine ez_go (n := 1) (pc' := 30) (L' := [(2, .inr (.inr (some (l)))), (1, .inl (k)), (0, .inr (.inr (some (770))))]) (st' := [.inr (.inr (some (l)))]) rfl ?_
        refine ez_gI hBg tll rfl rfl tq_13 rfl rfl (fun (b10 : -2147483648 ≤ qz_I g l 5) (b10' : qz_I g l 5 ≤ 2147483647) => ?_)
        refine ez_if rfl rfl ⟨by first | omega | exact (sz_i32 _).1, by first | omega | exact (sz_i32 _).2⟩ (fun (c11 : (qz_I g l 5) = (0)) => ?_) (fun (c11 : ¬((qz_I g l 5) = (0))) => ?_)
        · skip
          exfalso; omega
        · skip
          refine ez_go (n := 2) (pc' := 38) (L' := [(2, .inr (.inr (some (l)))), (1, .inl (k)), (0, .inr (.inr (some (770))))]) (st' := [.inr (.inr (some (l))), .inr (.inr (some (770)))]) rfl ?_
          refine ez_gI hBg tll rfl rfl tq_13 rfl rfl (fun (b12 : -2147483648 ≤ qz_I g l 1) (b12' : qz_I g l 1 ≤ 2147483647) => ?_)
          have xt := (xr (by omega)).2 (by omega)
          refine ez_cv hBg u770 rfl rfl rfl tq_75 rfl rfl rfl (rd_told9 I1 ⟨by omega, by omega⟩ (fun hno => ?_) (fun k2 y hy hc hno => ez_KA ?_))
          · exact absurd (show cov9 x (qz_I g l 1) from ⟨by omega, by omega, by omega⟩) (hno _ _ hx)
          · skip
            have hk2 : (k2 : Int) < lc g := by have := (List.getElem?_eq_some_iff.mp hy).1; have := I1.2.2.2.2.2.2.1; omega
            have tl2 := (I1.L hk2).1
            refine ez_go (n := 1) (pc' := 45) (L' := [(2, .inr (.inr (some (l)))), (1, .inl (k)), (0, .inr (.inr (some (770))))]) (st' := [.inr (.inr (some (l))), .inr (.inr (some (qz_P g (ls g) k2)))]) rfl ?_
            refine ez_acq rfl rfl (ez_192 hBg tl2) (ez_192 hBg tll) (fun ea => ?_) (fun ea => ?_)
            · skip
              exfalso; omega
            · skip
              refine ez_go (n := 1) (pc' := 220) (L' := [(2, .inr (.inr (some (l)))), (1, .inl (k)), (0, .inr (.inr (some (770))))]) (st' := []) rfl ?_
              exfalso; omega
  | succ m ih =>
    intro k g τ1 hm k0 k1 hBg hg hc9 hcn hcb
    have u770 : τ1 770 = 75 := (hg.1 770 (by rw [t770]; decide)).1.trans t770
    have I1 := hg.mI9 hI hBg
    have elc : lc g = lc h := (hg.lsx hB t770).2.1
    have lce : lc g = qz_I g 770 12 := rfl
    have nls : lc g ≤ qz_N g (ls g) := I1.2.2.1.1.1
    have cne : cn g = qz_I g 770 23 := rfl
    have b23 : 0 ≤ qz_I g 770 23 ∧ qz_I g 770 23 ≤ 512 := ez_fB (cl := 11) (k := 23) hBg u770 tq_75 rfl rfl (by decide)
    have rr := hg.2.2.2.2.1
    have lgb : qz_N g (bw g) ≤ 4096 := (ez_len hBg (ez_tdb hBg u770).2 tq_20 rfl).2
    have K220 : ∀ g3 τ3, ez_B τ3 g3 → gd τ h τ3 g3 → cD9 g3 Ls (k + 1) → cn g3 ≤ k + 1 → cn g3 ≤ qz_N g3 (bw g3) → ez_W (d + 1) cm_237 220 [(1, .inl (k)), (0, .inr (.inr (some (770))))] [] g3 Q := by
      intro g3 τ3 a1 a2 a3 a4 a5
      refine ez_go (n := 2) (pc' := 7) (L' := [(1, .inl (k + 1)), (0, .inr (.inr (some (770))))]) (st' := []) rfl ?_
      refine ez_less [(1, .inl (k + 1)), (0, .inr (.inr (some (770))))] rfl ⟨rfl, rfl, trivial⟩ ?_
      exact ih (k + 1) g3 τ3 (by omega) (by omega) (by omega) a1 a2 a3 (by omega) a5
    refine ez_go (n := 2) (pc' := 9) (L' := [(1, .inl (k)), (0, .inr (.inr (some (770))))]) (st' := [.inr (.inr (some (770))), .inl (k)]) rfl ?_
    refine ez_gI hBg u770 rfl rfl tq_75 rfl rfl (fun (b1 : 0 ≤ qz_I g 770 12) (b1' : qz_I g 770 12 ≤ 512) => ?_)
    refine ez_icmp rfl rfl ⟨by first | omega | exact (sz_i32 _).1, by first | omega | exact (sz_i32 _).2⟩ ⟨by first | omega | exact (sz_i32 _).1, by first | omega | exact (sz_i32 _).2⟩ (fun (c2 : (qz_I g 770 12) ≤ (k)) => ?_) (fun (c2 : ¬((qz_I g 770 12) ≤ (k))) => ?_)
    · skip
      have ek : k = lc g := by omega
      rw [ek] at hc9
      exact ez_ret0 rfl rfl (kx g τ1 hBg hg hc9 (by omega) hcb)
    · skip
      refine ez_go (n := 1) (pc' := 16) (L' := [(1, .inl (k)), (0, .inr (.inr (some (770))))]) (st' := [.inr (.inr (some (770)))]) rfl ?_
      refine ez_gR hBg u770 rfl rfl tq_75 rfl rfl (fun (t3 : _ = 18) (t3' : 1 ≤ qz_I g 770 11) => ?_)
      rw [show qz_P g 770 11 = ls g from rfl] at *
      refine ez_go (n := 1) (pc' := 20) (L' := [(1, .inl (k)), (0, .inr (.inr (some (770))))]) (st' := [.inl (k), .inr (.inr (some ((ls g))))]) rfl ?_
      have n5 : 64 ≤ qz_N g ((ls g)) ∧ qz_N g ((ls g)) ≤ 4096 := ez_len hBg t3 tq_18 rfl
      have y6 : 1 ≤ qz_I g ((ls g)) (k).toNat := (I1.at (k := k) (by omega) (by omega)).choose_spec.2.2.2
      have y7 : 0 ≤ qz_I g ((ls g)) (k).toNat ∧ qz_I g ((ls g)) (k).toNat ≤ 1000000 := ez_aB hBg t3 tq_18 rfl rfl (by decide) (by omega) (by omega)
      have y7' : ((qz_P g ((ls g)) (k).toNat : Nat) : Int) + 1 = qz_I g ((ls g)) (k).toNat := by unfold qz_P; omega
      refine ez_aR hBg t3 rfl tq_18 rfl rfl (by omega) (by omega) (by omega) (fun (t4 : _ = 13) => ?_)
      obtain ⟨x, hx, hvc, tll, -⟩ := I1.at (k := k) (by omega) (by omega)
      obtain ⟨⟨x0, x1, x2, x4, x5⟩, xr⟩ := id hvc
      generalize el : qz_P g (ls g) (k).toNat = l at hvc x0 x1 x2 x4 x5 xr tll ⊢
      refine ez_go (n := 2) (pc' := 23) (L' := [(2, .inr (.inr (some (l)))), (1, .inl (k)), (0, .inr (.inr (some (770))))]) (st' := [.inr (.inr (some (l)))]) rfl ?_
      refine ez_gI hBg tll rfl rfl tq_13 rfl rfl (fun (b8 : 0 ≤ qz_I g l 0) (b8' : qz_I g l 0 ≤ 4) => ?_)
      refine ez_if rfl rfl ⟨by first | omega | exact (sz_i32 _).1, by first | omega | exact (sz_i32 _).2⟩ (fun (c9 : (qz_I g l 0) ≠ (0)) => ?_) (fun (c9 : ¬((qz_I g l 0) ≠ (0))) => ?_)
      · skip
        refine ez_less [(1, .inl (k)), (0, .inr (.inr (some (770))))] rfl ⟨rfl, rfl, trivial⟩ ?_
        refine K220 g τ1 hBg hg (cE_skip9 hc9 (fun z hz z0 z5 => ?_)) (by omega) hcb
        rw [hx] at hz; cases hz
        exfalso; omega
      · skip
        refine ez_go (n := 1) (pc' := 30) (L' := [(2, .inr (.inr (some (l)))), (1, .inl (k)), (0, .inr (.inr (some (770))))]) (st' := [.inr (.inr (some (l)))]) rfl ?_
        refine ez_gI hBg tll rfl rfl tq_13 rfl rfl (fun (b10 : -2147483648 ≤ qz_I g l 5) (b10' : qz_I g l 5 ≤ 2147483647) => ?_)
        refine ez_if rfl rfl ⟨by first | omega | exact (sz_i32 _).1, by first | omega | exact (sz_i32 _).2⟩ (fun (c11 : (qz_I g l 5) = (0)) => ?_) (fun (c11 : ¬((qz_I g l 5) = (0))) => ?_)
        · skip
          refine ez_less [(1, .inl (k)), (0, .inr (.inr (some (770))))] rfl ⟨rfl, rfl, trivial⟩ ?_
          refine K220 g τ1 hBg hg (cE_skip9 hc9 (fun z hz z0 z5 => ?_)) (by omega) hcb
          rw [hx] at hz; cases hz
          exfalso; omega
        · skip
          refine ez_go (n := 2) (pc' := 38) (L' := [(2, .inr (.inr (some (l)))), (1, .inl (k)), (0, .inr (.inr (some (770))))]) (st' := [.inr (.inr (some (l))), .inr (.inr (some (770)))]) rfl ?_
          refine ez_gI hBg tll rfl rfl tq_13 rfl rfl (fun (b12 : -2147483648 ≤ qz_I g l 1) (b12' : qz_I g l 1 ≤ 2147483647) => ?_)
          have xt := (xr (by omega)).2 (by omega)
          refine ez_cv hBg u770 rfl rfl rfl tq_75 rfl rfl rfl (rd_told9 I1 ⟨by omega, by omega⟩ (fun hno => ?_) (fun k2 y hy hc hno => ez_KA ?_))
          · exact absurd (show cov9 x (qz_I g l 1) from ⟨by omega, by omega, by omega⟩) (hno _ _ hx)
          · skip
            have hk2 : (k2 : Int) < lc g := by have := (List.getElem?_eq_some_iff.mp hy).1; have := I1.2.2.2.2.2.2.1; omega
            have tl2 := (I1.L hk2).1
            refine ez_go (n := 1) (pc' := 45) (L' := [(2, .inr (.inr (some (l)))), (1, .inl (k)), (0, .inr (.inr (some (770))))]) (st' := [.inr (.inr (some (l))), .inr (.inr (some (qz_P g (ls g) k2)))]) rfl ?_
            refine ez_acq rfl rfl (ez_192 hBg tl2) (ez_192 hBg tll) (fun ea => ?_) (fun ea => ?_)
            · skip
              refine ez_less [(1, .inl (k)), (2, .inr (.inr (some (l)))), (0, .inr (.inr (some (770))))] rfl ⟨rfl, rfl, rfl, trivial⟩ ?_
              have ek : k2 = k.toNat := by
                refine I1.2.2.2.1.2 k2 k.toNat hk2 (by omega) ?_
                have c1 := I1.2.2.2.1.1 k2 hk2
                have c2 := I1.2.2.2.1.1 k.toNat (by omega)
                rw [← el] at ea
                unfold qz_P at ea
                omega
              subst ek
              rw [hx] at hy; cases hy
              have gn : ∀ j : Nat, (j : Int) < cn g → 1 ≤ qz_I g (bw g) j := fun j hj => by
                obtain ⟨k3, x3, c1, c2, c3, c4, c5, c6⟩ := hc9.1 j hj
                have c6' : qz_I g (bw g) j = qz_I g (ls g) k3 := c6
                rw [c6']; exact I1.2.2.2.1.1 k3 (by have := (List.getElem?_eq_some_iff.mp c1).1; have := I1.2.2.2.2.2.2.1; omega)
              refine rd_co_g hBg u770 tll hcb hg.2.2.2.1.2 gn (by omega) (by omega) (fun g2 τ2 hB2 G2 cn2 A2 B2 nb2 => ?_)
              have u2 : τ2 770 = 75 := (G2.1 770 (by rw [u770]; decide)).1.trans u770
              have tl3 : τ2 l = 13 := (G2.1 l (by rw [tll]; decide)).1.trans tll
              have td := ez_tdb hB2 u2
              have G3 := hg.trans G2
              have rr3 := G3.2.2.2.2.1
              have l2b : qz_N g2 (bw g2) ≤ 4096 := (ez_len hB2 td.2 tq_20 rfl).2
              have l1c : g2.2.2 l = g.2.2 l := (G2.1 l (by rw [tll]; decide)).2 (fun e => by rw [e, u770] at tll; cases tll) (by rw [tll]; decide) (by rw [tll]; decide)
              have l1e : qz_I g2 l 1 = qz_I g l 1 := by unfold qz_I; rw [l1c]
              have n7d : 770 ≠ dc g2 := fun e => by have t := td.1; rw [← e, u2] at t; cases t
              have n7b : 770 ≠ bw g2 := fun e => by have t := td.2; rw [← e, u2] at t; cases t
              have nld : l ≠ dc g2 := fun e => by have t := td.1; rw [← e, tl3] at t; cases t
              have nlb : l ≠ bw g2 := fun e => by have t := td.2; rw [← e, tl3] at t; cases t
              have ndb : dc g2 ≠ bw g2 := fun e => by have t := td.1; rw [e, td.2] at t; cases t
              refine rd_co_i hB2 u2 tl3 td.1 td.2 n7d n7b nld nlb ndb (by omega) (by omega) nb2 G2.2.2.2.1.2 (fun j hj => by rw [B2 j (by omega)]; exact gn j (by omega)) (by omega) (fun g3 j jn hB3 f3 i3 cn3 lo mid hi le gt nd3 nb3 => ?_)
              have ed3 : dc g3 = dc g2 := by unfold dc qz_P; rw [i3 21 (by decide)]
              have eb3 : bw g3 = bw g2 := by unfold bw qz_P; rw [i3 22 (by decide)]
              have H3 : gd τ2 g2 τ2 g3 := by
                refine ⟨fun q hq => ⟨rfl, fun q1 q2 q3 => f3.2.2 q (nz_P3_n q1 (fun e => by rw [e, td.1] at q2; exact q2 rfl) (fun e => by rw [e, td.2] at q3; exact q3 rfl))⟩, fun q q0 q1 => absurd q0 q1, fun j _ _ j3 => i3 j j3, ?_, ?_, by rw [f3.1]; exact Nat.le_refl _, by rw [f3.2.1]; exact Nat.le_refl _⟩
                · rw [ed3, eb3, nd3, nb3]; exact ⟨Int.le_refl _, G2.2.2.2.1.2⟩
                · rw [eb3, nb3, f3.1, f3.2.1]; omega
              have G4 := G3.trans H3
              have lse := (G2.trans H3).lsx hBg u770
              refine K220 g3 τ2 hB3 G4 ?_ (by omega) (by rw [eb3, nb3]; omega)
              show cE9 Ls (fun k => qz_I g3 (ls g3) k) (fun i => qz_I g3 (dc g3) i) (fun i => qz_I g3 (bw g3) i) (cn g3) (k + 1)
              rw [cn3, cn2]
              have hv : ∀ k : Nat, qz_I g3 (ls g3) k = qz_I g (ls g) k := fun k => by rw [lse.1]; exact lse.2.2 k
              rw [cn2] at jn hi gt
              rw [l1e] at mid le gt
              refine cE_congr9 (v := fun k => qz_I g (ls g) k) (A := fun i => qz_I g3 (dc g3) i) (B := fun i => qz_I g3 (bw g3) i) ?_ (by have := I1.2.2.2.2.2.2.1; omega) (fun k _ => hv k) (fun i _ => rfl) (fun i _ => rfl)
              refine cE_ins9 (p := j) hc9 (by omega) hx (by omega) (by omega) xt.1 (fun j2 y2 h1 h2 => by rw [← x1]; exact hno j2 y2 h1 h2) jn (fun i hi2 => ?_) ?_ (fun i i1 i2 => ?_) ?_ (fun i i1 i2 => ?_)
              · show qz_I g3 (dc g3) i = qz_I g (dc g) i ∧ qz_I g3 (bw g3) i = qz_I g (bw g) i
                rw [ed3, eb3, ← A2 i (by omega), ← B2 i (by omega)]; exact lo i hi2
              · show qz_I g3 (dc g3) j = x.2.1 ∧ qz_I g3 (bw g3) j = qz_I g (ls g) k.toNat
                rw [ed3, eb3, mid.1, mid.2, x1]; refine ⟨rfl, ?_⟩
                have c2 := I1.2.2.2.1.1 k.toNat (by omega)
                rw [← el]; unfold qz_P; omega
              · show qz_I g3 (dc g3) (i + 1) = qz_I g (dc g) i ∧ qz_I g3 (bw g3) (i + 1) = qz_I g (bw g) i
                rw [ed3, eb3, ← A2 i i2, ← B2 i i2]; exact hi i i1 i2
              · rcases le with e | e
                · exact Or.inl e
                · by_cases e0 : j = 0
                  · exact Or.inl e0
                  · exact Or.inr (by show qz_I g (dc g) (j - 1) ≤ x.2.1; rw [← A2 (j - 1) (by omega), ← x1]; exact e)
              · show x.2.1 < qz_I g (dc g) i
                rw [← A2 i i2, ← x1]; exact gt i i1 i2
            · skip
              refine ez_go (n := 1) (pc' := 220) (L' := [(2, .inr (.inr (some (l)))), (1, .inl (k)), (0, .inr (.inr (some (770))))]) (st' := []) rfl ?_
              refine ez_less [(1, .inl (k)), (0, .inr (.inr (some (770))))] rfl ⟨rfl, rfl, trivial⟩ ?_
              refine K220 g τ1 hBg hg (cE_skip9 hc9 (fun z hz z0 z5 => ?_)) (by omega) hcb
              rw [hx] at hz; cases hz
              intro hlast
              have hc2 : cov9 x x.2.1 := ⟨by omega, by omega, by omega⟩
              have xk : k2 = k.toNat := by
                rcases Nat.lt_trichotomy k2 k.toNat with e | e | e
                · exact absurd (by rw [x1]; exact hc2) (hno _ _ e hx)
                · exact e
                · exact absurd (by rw [← x1]; exact hc) (hlast _ _ e hy)
              exact ea (by rw [xk]; exact el)
theorem rd_collect9 (hI : mI9 τ h Ls b) (hdb : qz_N h (bw h) ≤ qz_N h (dc h)) (hlc : lc h ≤ 500) (hr1 : h.1 + 200 ≤ 600192) (hr2 : h.2.1 + 20000 ≤ 7302232) (kx : ∀ g τ1, ez_B τ1 g → gd τ h τ1 g → cD9 g Ls (lc g) → cn g ≤ lc h → cn g ≤ qz_N g (bw g) → Q (.inl none, g)) : ez_W (d + 1) cm_237 0 [(0, .inr (.inr (some (770))))] [] h Q := by
  have hB := hI.1
  have t770 : τ 770 = 75 := hI.2.1 770 (by decide)
  have lb0 : 64 ≤ qz_N h (bw h) := (ez_len hB (ez_tdb hB t770).2 tq_20 rfl).1
  refine ez_go (n := 2) (pc' := 2) (L' := [(0, .inr (.inr (some (770))))]) (st' := [.inl (0), .inr (.inr (some (770)))]) rfl ?_
  refine ez_pf hB t770 rfl rfl tq_75 rfl rfl rfl rfl (ez_vdI rfl rfl (by omega) (by omega)) (fun hB1 w2 => ?_)
  refine ez_go (n := 2) (pc' := 7) (L' := [(1, .inl (0)), (0, .inr (.inr (some (770))))]) (st' := []) rfl ?_
  refine ez_less [(1, .inl (0)), (0, .inr (.inr (some (770))))] rfl ⟨rfl, rfl, trivial⟩ ?_
  have v1 : qz_I (dz_put h 770 23 (ez_v (.inl (0)))) 770 23 = 0 := w2.trans (rz_rd ⟨by omega, by omega⟩)
  have i1 : ∀ j, j ≠ 23 → qz_I (dz_put h 770 23 (ez_v (.inl (0)))) 770 j = qz_I h 770 j := fun j hj => ez_put_I (fun w => hj w.2)
  have f1 : ez_fr (ez_one 770) h (dz_put h 770 23 (ez_v (.inl (0)))) := (ez_fr.refl (ez_one 770) h).put rfl _ _
  have hB1 := hB1
  generalize (dz_put h 770 23 (ez_v (.inl (0)))) = g1 at *
  have td := ez_tdb hB t770
  have ed : dc g1 = dc h := by unfold dc qz_P; rw [i1 21 (by decide)]
  have eb : bw g1 = bw h := by unfold bw qz_P; rw [i1 22 (by decide)]
  have nd : qz_N g1 (dc h) = qz_N h (dc h) := f1.N (dz_beq_ne (fun e => by have t := td.1; rw [e, t770] at t; cases t))
  have nb : qz_N g1 (bw h) = qz_N h (bw h) := f1.N (dz_beq_ne (fun e => by have t := td.2; rw [e, t770] at t; cases t))
  have v1' : cn g1 = 0 := v1
  have l0 : 0 ≤ lc h := by rw [← hI.2.2.2.2.2.2.1]; omega
  refine rd_collect_l9 hI hlc hr1 hr2 kx _ 0 g1 τ rfl (by omega) l0 hB1 ⟨fun q hq => ⟨rfl, fun q1 _ _ => f1.2.2 q (dz_beq_ne q1)⟩, fun q q0 q1 => absurd q0 q1, fun j _ _ j3 => i1 j j3, by rw [ed, eb, nd, nb]; exact ⟨Int.le_refl _, hdb⟩, by rw [eb, nb, f1.1, f1.2.1]; omega, by rw [f1.1]; exact Nat.le_refl _, by rw [f1.2.1]; exact Nat.le_refl _⟩ ⟨fun i hi => by rw [v1'] at hi; omega, fun i j hij hj => by rw [v1'] at hj; omega, fun k x hk => by omega⟩ (by omega) (by rw [v1', eb, nb]; omega)
end EzCy
theorem eD_of9 {τ : Nat → Nat} {h : cz_H} {Ls : List vz9} {b : Int} (hI : mI9 τ h Ls b) (c : cD9 h Ls (lc h)) (h5 : cn h ≤ 500) (hb : cn h ≤ qz_N h (bw h)) (hd : qz_N h (bw h) ≤ qz_N h (dc h)) : eD τ h (vF9 Ls) := by
  have t770 : τ 770 = 75 := hI.2.1 770 (by decide)
  have b23 : 0 ≤ qz_I h 770 23 ∧ qz_I h 770 23 ≤ 512 := ez_fB (cl := 11) (k := 23) hI.1 t770 tq_75 rfl rfl (by decide)
  obtain ⟨f1, f2⟩ := cD_F9 hI c
  refine ⟨hI.1, t770, ⟨⟨b23.1, h5⟩, by omega, hb, hI.2.2.1.1.2⟩, c.2.1, fun i hi => ?_, f2, fun r hr => ⟨(hI.2.2.2.2.1.2 r hr).1, (hI.2.2.2.2.1.2 r hr).2.1⟩⟩
  obtain ⟨x, ⟨e1, e2, e3⟩, e4, e5, e6⟩ := f1 i hi
  have w := (e4.2 e3).2 (by omega)
  refine ⟨⟨e6, e5⟩, x.2.2.2.2.1 - 1, x.2.2.2.2.2.1, by rw [e1], by rw [e4.1.2.2.2.2]; omega, w.2.1, w.2.2⟩
section EzWh
variable {d : Nat} {h : cz_H} {τ : Nat → Nat} {Q : cz_F → Prop} {F : rz_W}
end EzWh
section EzEn
variable {d : Nat} {h : cz_H} {τ : Nat → Nat} {Q : cz_F → Prop} {F : rz_W} {q : Nat}
end EzEn
section EzEo
variable {d : Nat} {h : cz_H} {τ : Nat → Nat} {Q : cz_F → Prop} {F : rz_W} {q : Nat}
end EzEo
section EzEp
variable {d : Nat} {h : cz_H} {τ : Nat → Nat} {Q : cz_F → Prop} {F : rz_W} {q : Nat}
end EzEp
section EzPu
variable {d : Nat} {h : cz_H} {τ : Nat → Nat} {Q : cz_F → Prop}
end EzPu
section EzFu
variable {d : Nat} {h : cz_H} {τ : Nat → Nat} {Q : cz_F → Prop} {F : rz_W} {p c : Int}
end EzFu
section EzFv
variable {d : Nat} {h : cz_H} {τ : Nat → Nat} {Q : cz_F → Prop} {F : rz_W} {p c : Int}
end EzFv
section EzXc
variable {d : Nat} {h : cz_H} {τ : Nat → Nat} {Q : cz_F → Prop} {Ls : List vz9} {b : Int}
theorem rd_excluded9 {p : Int} (hI : mI9 τ h Ls b) (e : eD τ h (vF9 Ls)) (pr : ez_rg p) (k1 : ez_x (vF9 Ls) (vE9 Ls) p → Q (.inl (some (ez_v (.inl 1))), h)) (k0 : ¬ ez_x (vF9 Ls) (vE9 Ls) p → Q (.inl (some (ez_v (.inl 0))), h)) : ez_W (d + 2) cm_251 0 [(0, .inr (.inr (some (770)))), (1, .inl (p))] [] h Q := by
  have hB := e.1
  have t770 := e.2.1
  have c500 := e.2.2.1.1
  have cnp := e.2.2.1.2.2.2
  have cnb := e.2.2.1.2.2.1
  have cnd := e.2.2.1.2.1
  have td := ez_tdb hB t770
  have tt := ez_tls hB t770
  refine ez_go (n := 3) (pc' := 3) (L' := [(0, .inr (.inr (some (770)))), (1, .inl (p))]) (st' := [.inl (0), .inl (p), .inr (.inr (some (770)))]) rfl ?_
  refine ez_cv hB t770 rfl rfl rfl tq_75 rfl rfl rfl (rd_has9 hI pr (fun hE => ez_K1 ?_) (fun hE => ez_K1 ?_))
  · skip
    refine ez_if rfl rfl ⟨by decide, by decide⟩ (fun _ => ?_) (fun (c1 : ¬((1 : Int) ≠ (0))) => absurd c1 (by decide))
    refine ez_go (n := 1) (pc' := 18) (L' := [(0, .inr (.inr (some (770)))), (1, .inl (p))]) (st' := [.inl (1)]) rfl ?_
    exact ez_retZ rfl rfl (Or.inr rfl) (k1 (Or.inl (Or.inl hE)))
  · skip
    refine ez_if rfl rfl ⟨by decide, by decide⟩ (fun (c2 : (0 : Int) ≠ (0)) => absurd c2 (by decide)) (fun _ => ?_)
    refine ez_go (n := 2) (pc' := 11) (L' := [(0, .inr (.inr (some (770)))), (1, .inl (p))]) (st' := [.inl (p), .inr (.inr (some (770)))]) rfl ?_
    refine ez_cv hB t770 rfl rfl rfl tq_75 rfl rfl rfl (rd_mrank9 hI pr (fun rg => ez_K1 ?_))
    obtain ⟨rg0, rg1⟩ := id rg
    refine ez_if rfl rfl ⟨by first | omega | exact (sz_i32 _).1, by first | omega | exact (sz_i32 _).2⟩ (fun (c3 : ((vF9 Ls p).1) ≤ (0)) => ?_) (fun (c3 : ¬(((vF9 Ls p).1) ≤ (0))) => ?_)
    · skip
      refine ez_go (n := 2) (pc' := 21) (L' := [(0, .inr (.inr (some (770)))), (1, .inl (p))]) (st' := [.inl (p), .inr (.inr (some (770)))]) rfl ?_
      refine ez_cv hB t770 rfl rfl rfl tq_75 rfl rfl rfl (rd_where' e pr (fun w hw ew => ez_K1 ?_) (fun hno => ez_K1 ?_))
      · skip
        obtain ⟨⟨ek1, tl⟩, ⟨l7, l8⟩, cp, vs, F1, ty, hlen, hr⟩ := e.at (k := (w : Int)) (by omega) (by omega)
        have t56 := e.2.2.2.2.2.2 _ tl
        generalize el : qz_P h (bw h) ((w : Int)).toNat = l at tl l7 l8 ty hlen hr t56
        have hlen1 : qz_I h (l + 2) (0 : Int).toNat = (vs.length : Int) := hlen.1
        have hlen2 : qz_I h (l + 1) (0 : Int).toNat + (vs.length : Int) ≤ pn h := hlen.2.1
        have hlen3 : 0 ≤ qz_I h (l + 1) (0 : Int).toNat := hlen.2.2
        rw [Int.toNat_natCast, ew] at F1
        refine ez_go (n := 2) (pc' := 26) (L' := [(2, .inl ((w : Int))), (0, .inr (.inr (some (770)))), (1, .inl (p))]) (st' := [.inl ((w : Int))]) rfl ?_
        refine ez_if rfl rfl ⟨by first | omega | exact (sz_i32 _).1, by first | omega | exact (sz_i32 _).2⟩ (fun (c4 : ((w : Int)) < (0)) => ?_) (fun (c4 : ¬(((w : Int)) < (0))) => ?_)
        · skip
          refine ez_go (n := 1) (pc' := 85) (L' := [(2, .inl ((w : Int))), (0, .inr (.inr (some (770)))), (1, .inl (p))]) (st' := [.inl (0)]) rfl ?_
          exact ez_retZ rfl rfl (Or.inl rfl) (k0 (fun w9 => by rcases w9 with (w9 | w9) | ⟨a, b2, w9, -⟩; (· exact hE w9); (· omega); (· rw [F1] at w9; cases w9; have hl9 : qz_I h (l + 2) (0 : Int).toNat = 2 := hlen1; omega)))
        · skip
          refine ez_go (n := 1) (pc' := 30) (L' := [(2, .inl ((w : Int))), (0, .inr (.inr (some (770)))), (1, .inl (p))]) (st' := [.inr (.inr (some (770)))]) rfl ?_
          refine ez_gR hB t770 rfl rfl tq_75 rfl rfl (fun (t5 : _ = 20) (t5' : 1 ≤ qz_I h 770 22) => ?_)
          rw [show qz_P h 770 22 = bw h from rfl]
          refine ez_go (n := 1) (pc' := 34) (L' := [(2, .inl ((w : Int))), (0, .inr (.inr (some (770)))), (1, .inl (p))]) (st' := [.inl ((w : Int)), .inr (.inr (some ((bw h))))]) rfl ?_
          have n7 : 64 ≤ qz_N h ((bw h)) ∧ qz_N h ((bw h)) ≤ 4096 := ez_len hB td.2 tq_20 rfl
          have y8 : 1 ≤ qz_I h ((bw h)) ((w : Int)).toNat := ek1
          have y9 : 0 ≤ qz_I h ((bw h)) ((w : Int)).toNat ∧ qz_I h ((bw h)) ((w : Int)).toNat ≤ 1000000 := ez_aB hB td.2 tq_20 rfl rfl (by decide) (by omega) (by omega)
          have y9' : ((qz_P h ((bw h)) ((w : Int)).toNat : Nat) : Int) + 1 = qz_I h ((bw h)) ((w : Int)).toNat := by unfold qz_P; omega
          refine ez_aR hB td.2 rfl tq_20 rfl rfl (by omega) (by omega) (by omega) (fun (t6 : _ = 13) => ?_)
          rw [el]
          refine ez_gI hB tl rfl rfl tq_13 rfl rfl (fun (b10 : -2147483648 ≤ qz_I h l 5) (b10' : qz_I h l 5 ≤ 2147483647) => ?_)
          refine ez_go (n := 1) (pc' := 39) (L' := [(2, .inl ((w : Int))), (0, .inr (.inr (some (770)))), (1, .inl (p))]) (st' := [.inl (1), .inl (qz_I h l 5)]) rfl ?_
          refine ez_icmp rfl rfl ⟨by first | omega | exact (sz_i32 _).1, by first | omega | exact (sz_i32 _).2⟩ ⟨by first | omega | exact (sz_i32 _).1, by first | omega | exact (sz_i32 _).2⟩ (fun (c11 : (qz_I h l 5) ≠ (1)) => ?_) (fun (c11 : ¬((qz_I h l 5) ≠ (1))) => ?_)
          · skip
            refine ez_go (n := 1) (pc' := 85) (L' := [(2, .inl ((w : Int))), (0, .inr (.inr (some (770)))), (1, .inl (p))]) (st' := [.inl (0)]) rfl ?_
            exact ez_retZ rfl rfl (Or.inl rfl) (k0 (fun w9 => by rcases w9 with (w9 | w9) | ⟨a, b2, w9, -⟩; (· exact hE w9); (· omega); (· rw [F1] at w9; cases w9; have hl9 : qz_I h (l + 2) (0 : Int).toNat = 2 := hlen1; omega)))
          · skip
            refine ez_go (n := 1) (pc' := 43) (L' := [(2, .inl ((w : Int))), (0, .inr (.inr (some (770)))), (1, .inl (p))]) (st' := [.inr (.inr (some (770)))]) rfl ?_
            refine ez_gR hB t770 rfl rfl tq_75 rfl rfl (fun (t12 : _ = 20) (t12' : 1 ≤ qz_I h 770 22) => ?_)
            rw [show qz_P h 770 22 = bw h from rfl]
            refine ez_go (n := 1) (pc' := 47) (L' := [(2, .inl ((w : Int))), (0, .inr (.inr (some (770)))), (1, .inl (p))]) (st' := [.inl ((w : Int)), .inr (.inr (some ((bw h))))]) rfl ?_
            have n14 : 64 ≤ qz_N h ((bw h)) ∧ qz_N h ((bw h)) ≤ 4096 := ez_len hB td.2 tq_20 rfl
            have y15 : 1 ≤ qz_I h ((bw h)) ((w : Int)).toNat := ek1
            have y16 : 0 ≤ qz_I h ((bw h)) ((w : Int)).toNat ∧ qz_I h ((bw h)) ((w : Int)).toNat ≤ 1000000 := ez_aB hB td.2 tq_20 rfl rfl (by decide) (by omega) (by omega)
            have y16' : ((qz_P h ((bw h)) ((w : Int)).toNat : Nat) : Int) + 1 = qz_I h ((bw h)) ((w : Int)).toNat := by unfold qz_P; omega
            refine ez_aR hB td.2 rfl tq_20 rfl rfl (by omega) (by omega) (by omega) (fun (t13 : _ = 13) => ?_)
            rw [el]
            refine ez_gR hB tl rfl rfl tq_13 rfl rfl (fun (t17 : _ = 16) (t17' : 1 ≤ qz_I h l 8) => ?_)
            rw [l8]
            refine ez_go (n := 1) (pc' := 52) (L' := [(2, .inl ((w : Int))), (0, .inr (.inr (some (770)))), (1, .inl (p))]) (st' := [.inl (0), .inr (.inr (some ((l + 2))))]) rfl ?_
            have n19 : 3 ≤ qz_N h ((l + 2)) ∧ qz_N h ((l + 2)) ≤ 3 := ez_len hB t56.2 tq_16 rfl
            refine ez_aI hB t56.2 rfl tq_16 rfl rfl (by omega) (by omega) (fun (b18 : 0 ≤ qz_I h ((l + 2)) (0 : Int).toNat) (b18' : qz_I h ((l + 2)) (0 : Int).toNat ≤ 18) => ?_)
            refine ez_go (n := 1) (pc' := 54) (L' := [(2, .inl ((w : Int))), (0, .inr (.inr (some (770)))), (1, .inl (p))]) (st' := [.inl (2), .inl (qz_I h ((l + 2)) (0 : Int).toNat)]) rfl ?_
            refine ez_icmp rfl rfl ⟨by first | omega | exact (sz_i32 _).1, by first | omega | exact (sz_i32 _).2⟩ ⟨by first | omega | exact (sz_i32 _).1, by first | omega | exact (sz_i32 _).2⟩ (fun (c20 : (qz_I h ((l + 2)) (0 : Int).toNat) ≠ (2)) => ?_) (fun (c20 : ¬((qz_I h ((l + 2)) (0 : Int).toNat) ≠ (2))) => ?_)
            · skip
              refine ez_go (n := 1) (pc' := 85) (L' := [(2, .inl ((w : Int))), (0, .inr (.inr (some (770)))), (1, .inl (p))]) (st' := [.inl (0)]) rfl ?_
              exact ez_retZ rfl rfl (Or.inl rfl) (k0 (fun w9 => by rcases w9 with (w9 | w9) | ⟨a, b2, w9, -⟩; (· exact hE w9); (· omega); (· rw [F1] at w9; cases w9; have hl9 : qz_I h (l + 2) (0 : Int).toNat = 2 := hlen1; omega)))
            · skip
              refine ez_go (n := 2) (pc' := 59) (L' := [(2, .inl ((w : Int))), (0, .inr (.inr (some (770)))), (1, .inl (p))]) (st' := [.inr (.inr (some (770))), .inr (.inr (some (770)))]) rfl ?_
              refine ez_gR hB t770 rfl rfl tq_75 rfl rfl (fun (t21 : _ = 17) (t21' : 1 ≤ qz_I h 770 9) => ?_)
              rw [show qz_P h 770 9 = po h from rfl]
              refine ez_go (n := 1) (pc' := 63) (L' := [(2, .inl ((w : Int))), (0, .inr (.inr (some (770)))), (1, .inl (p))]) (st' := [.inr (.inr (some (770))), .inr (.inr (some ((po h)))), .inr (.inr (some (770)))]) rfl ?_
              refine ez_gR hB t770 rfl rfl tq_75 rfl rfl (fun (t22 : _ = 20) (t22' : 1 ≤ qz_I h 770 22) => ?_)
              rw [show qz_P h 770 22 = bw h from rfl]
              refine ez_go (n := 1) (pc' := 67) (L' := [(2, .inl ((w : Int))), (0, .inr (.inr (some (770)))), (1, .inl (p))]) (st' := [.inl ((w : Int)), .inr (.inr (some ((bw h)))), .inr (.inr (some ((po h)))), .inr (.inr (some (770)))]) rfl ?_
              have n24 : 64 ≤ qz_N h ((bw h)) ∧ qz_N h ((bw h)) ≤ 4096 := ez_len hB td.2 tq_20 rfl
              have y25 : 1 ≤ qz_I h ((bw h)) ((w : Int)).toNat := ek1
              have y26 : 0 ≤ qz_I h ((bw h)) ((w : Int)).toNat ∧ qz_I h ((bw h)) ((w : Int)).toNat ≤ 1000000 := ez_aB hB td.2 tq_20 rfl rfl (by decide) (by omega) (by omega)
              have y26' : ((qz_P h ((bw h)) ((w : Int)).toNat : Nat) : Int) + 1 = qz_I h ((bw h)) ((w : Int)).toNat := by unfold qz_P; omega
              refine ez_aR hB td.2 rfl tq_20 rfl rfl (by omega) (by omega) (by omega) (fun (t23 : _ = 13) => ?_)
              rw [el]
              refine ez_gR hB tl rfl rfl tq_13 rfl rfl (fun (t27 : _ = 15) (t27' : 1 ≤ qz_I h l 7) => ?_)
              rw [l7]
              refine ez_go (n := 1) (pc' := 72) (L' := [(2, .inl ((w : Int))), (0, .inr (.inr (some (770)))), (1, .inl (p))]) (st' := [.inl (0), .inr (.inr (some ((l + 1)))), .inr (.inr (some ((po h)))), .inr (.inr (some (770)))]) rfl ?_
              have n29 : 3 ≤ qz_N h ((l + 1)) ∧ qz_N h ((l + 1)) ≤ 3 := ez_len hB t56.1 tq_15 rfl
              refine ez_aI hB t56.1 rfl tq_15 rfl rfl (by omega) (by omega) (fun (b28 : 0 ≤ qz_I h ((l + 1)) (0 : Int).toNat) (b28' : qz_I h ((l + 1)) (0 : Int).toNat ≤ 38500) => ?_)
              have n31 : 1024 ≤ qz_N h ((po h)) ∧ qz_N h ((po h)) ≤ 77100 := ez_len hB tt.2 tq_17 rfl
              refine ez_aI hB tt.2 rfl tq_17 rfl rfl (by omega) (by omega) (fun (b30 : -2147483648 ≤ qz_I h ((po h)) (qz_I h ((l + 1)) (0 : Int).toNat).toNat) (b30' : qz_I h ((po h)) (qz_I h ((l + 1)) (0 : Int).toNat).toNat ≤ 2147483647) => ?_)
              obtain ⟨v, v2, hvs⟩ : ∃ v v2, vs = [v, v2] := by
                match vs, hlen1 with
                | [v, v2], _ => exact ⟨v, v2, rfl⟩
                | [], hl => exact absurd hl (by simp; omega)
                | [_], hl => exact absurd hl (by simp; omega)
                | _ :: _ :: _ :: _, hl => exact absurd hl (by simp; omega)
              have ev : qz_I h ((po h)) (qz_I h ((l + 1)) (0 : Int).toNat).toNat = v := by have w9 := hr 0 v (by rw [hvs]; rfl); unfold pl at w9; rw [show qz_I h (l + 1) (0 : Int).toNat = qz_I h (l + 1) 0 from rfl]; simpa using w9
              have vb : ez_rg v := by rw [← ev]; exact ⟨by omega, by omega⟩
              rw [ev]
              refine ez_cv hB t770 rfl rfl rfl tq_75 rfl rfl rfl (rd_mrank9 hI vb (fun rg => ez_K1 ?_))
              obtain ⟨rg2, rg3⟩ := id rg
              refine ez_if rfl rfl ⟨by first | omega | exact (sz_i32 _).1, by first | omega | exact (sz_i32 _).2⟩ (fun (c32 : ((vF9 Ls v).1) ≤ (0)) => ?_) (fun (c32 : ¬(((vF9 Ls v).1) ≤ (0))) => ?_)
              · skip
                refine ez_go (n := 1) (pc' := 85) (L' := [(2, .inl ((w : Int))), (0, .inr (.inr (some (770)))), (1, .inl (p))]) (st' := [.inl (0)]) rfl ?_
                exact ez_retZ rfl rfl (Or.inl rfl) (k0 (fun w9 => by rcases w9 with (w9 | w9) | ⟨a, b2, w9, w8⟩; (· exact hE w9); (· omega); (· rw [F1, hvs] at w9; cases w9; omega)))
              · skip
                refine ez_go (n := 2) (pc' := 85) (L' := [(2, .inl ((w : Int))), (0, .inr (.inr (some (770)))), (1, .inl (p))]) (st' := [.inl (1)]) rfl ?_
                exact ez_retZ rfl rfl (Or.inr rfl) (k1 (Or.inr ⟨v, v2, by rw [F1, hvs, show cp = 0 by omega], by omega⟩))
      · skip
        refine ez_go (n := 2) (pc' := 26) (L' := [(2, .inl (-1)), (0, .inr (.inr (some (770)))), (1, .inl (p))]) (st' := [.inl (-1)]) rfl ?_
        refine ez_if rfl rfl ⟨by decide, by decide⟩ (fun _ => ?_) (fun (c33 : ¬((-1 : Int) < (0))) => absurd c33 (by decide))
        refine ez_go (n := 1) (pc' := 85) (L' := [(2, .inl (-1)), (0, .inr (.inr (some (770)))), (1, .inl (p))]) (st' := [.inl (0)]) rfl ?_
        exact ez_retZ rfl rfl (Or.inl rfl) (k0 (fun w9 => by rcases w9 with (w9 | w9) | ⟨a, b2, w9, -⟩; (· exact hE w9); (· omega); (· rw [hno] at w9; cases w9)))
    · skip
      refine ez_go (n := 1) (pc' := 18) (L' := [(0, .inr (.inr (some (770)))), (1, .inl (p))]) (st' := [.inl (1)]) rfl ?_
      exact ez_retZ rfl rfl (Or.inr rfl) (k1 (Or.inl (Or.inr (by omega))))
end EzXc
theorem sf.mIx9 {τ τ1 : Nat → Nat} {h g : cz_H} {Ls : List vz9} {b e : Int} (a : sf τ h τ1 g e) (hI : mI9 τ h Ls b) (hB : ez_B τ1 g) : mI9 τ1 g Ls b := by
  have t770 : τ 770 = 75 := hI.2.1 770 (by decide)
  have t794 : τ 794 = 82 := hI.2.1 794 (by decide)
  refine hI.gen hB (fun q hq => (a.1 q hq).1) (fun q q0 => ?_) (fun q hq => (a.1 q (by omega)).2 (fun e => by rw [e, t770] at hq; omega) (fun e => by rw [e, t794] at hq; omega) (by omega)) (fun j j1 j2 => a.2.2.1 j (by omega))
  by_cases e : τ1 q = 0
  · omega
  · have := a.2.1 q q0 e; omega
section EzSo
variable {d : Nat} {h : cz_H} {τ : Nat → Nat} {Q : cz_F → Prop} {F : rz_W}
end EzSo
def pQ (h : cz_H) (F : rz_W) (E : Int → Prop) : Prop := (0 ≤ pkn h ∧ pkn h ≤ qz_N h (pq h)) ∧ (∀ i : Nat, (i : Int) < pkn h → qz_I h (pq h) i < cn h ∧ ∃ a b, ez_p F E (qz_I h (dc h) (qz_I h (pq h) i).toNat) a b) ∧ ∀ x a b, ez_p F E x a b → ∃ i : Nat, (i : Int) < pkn h ∧ qz_I h (dc h) (qz_I h (pq h) i).toNat = x
theorem pQ.P {h : cz_H} {F : rz_W} {E : Int → Prop} (p : pQ h F E) : pP h F := ⟨p.1, fun i hi => by
  obtain ⟨w1, a, b, w2⟩ := p.2.1 i hi
  exact ⟨w1, a, b, w2.1⟩⟩
section EzSp
variable {d : Nat} {h : cz_H} {τ : Nat → Nat} {Q : cz_F → Prop} {Ls : List vz9} {b : Int}
theorem rd_so_29 {g : cz_H} {τ1 : Nat → Nat} {k : Int} (hI : mI9 τ h Ls b) (e : eD τ h (vF9 Ls)) (t794 : τ 794 = 82) (hw : uz_wf (vF9 Ls)) (h2 : ∀ i : Nat, (i : Int) < cn h → az (vF9 Ls) (cn h + 1).toNat (qz_I h (dc h) i)) (hr1 : h.1 + 700 ≤ 600192) (hr2 : h.2.1 + 120000 ≤ 7302232) (kk0 : 0 ≤ k) (kk1 : k < cn h) (hb1 : ez_B τ1 g) (hp : fp τ h τ1 g) (hs : so h (vF9 Ls) (vE9 Ls) g k) (hnq : qz_N g (pq h) = cn h) (k0 : ¬ uz_S (vF9 Ls) (vE9 Ls) → ∀ g τ1, ez_B τ1 g → fp τ h τ1 g → Q (.inl (some (ez_v (.inl 0))), g)) (kx : ∀ g2 τ2, ez_B τ2 g2 → fp τ h τ2 g2 → so h (vF9 Ls) (vE9 Ls) g2 (k + 1) → qz_N g2 (pq h) = cn h → ez_W (d + 3) cm_301 251 [(1, .inl (k)), (0, .inr (.inr (some (770))))] [] g2 Q) : ez_W (d + 3) cm_301 97 [(1, .inl (k)), (0, .inr (.inr (some (770))))] [] g Q := by
  have hB := e.1
  have t770 := e.2.1
  have hBg := hb1
  have eg := hp.eDx e t794 hBg
  have dcx := hp.dcx e t794
  have u770 : τ1 770 = 75 := eg.2.1
  have u794 : τ1 794 = 82 := (hp.1 794 (by rw [t794]; decide)).1.trans t794
  have c500 := e.2.2.1.1
  have cnd := eg.2.2.1.2.1
  have tdg := ez_tdb hBg u770
  have rr := hp.2.2.2.2
  have lsk : qz_N g (sk g) ≤ 18700 := (ez_len hBg (ez_tsk hBg u770) tq_21 rfl).2
  have n0 := qz_N_nn h (sk h)
  have hne : (vF9 Ls (qz_I h (dc h) k.toNat)).2 ≠ none := by obtain ⟨-, cp, vs, w, -⟩ := e.2.2.2.2.1 k.toNat (by omega); rw [w]; intro w; cases w
  have pk0 := hs.1.1
  refine ez_go (n := 2) (pc' := 99) (L' := [(1, .inl (k)), (0, .inr (.inr (some (770))))]) (st' := [.inr (.inr (some (770))), .inr (.inr (some (770)))]) rfl ?_
  refine ez_gR hBg u770 rfl rfl tq_75 rfl rfl (fun (t1 : _ = 19) (t1' : 1 ≤ qz_I g 770 21) => ?_)
  rw [show qz_P g 770 21 = dc g from rfl]
  refine ez_go (n := 1) (pc' := 103) (L' := [(1, .inl (k)), (0, .inr (.inr (some (770))))]) (st' := [.inl (k), .inr (.inr (some ((dc g)))), .inr (.inr (some (770)))]) rfl ?_
  have n3 : 64 ≤ qz_N g ((dc g)) ∧ qz_N g ((dc g)) ≤ 4096 := ez_len hBg tdg.1 tq_19 rfl
  refine ez_aI hBg tdg.1 rfl tq_19 rfl rfl (by omega) (by omega) (fun (b2 : -2147483648 ≤ qz_I g ((dc g)) (k).toNat) (b2' : qz_I g ((dc g)) (k).toNat ≤ 2147483647) => ?_)
  have pr : ez_rg (qz_I g ((dc g)) (k).toNat) := ⟨by omega, by omega⟩
  refine ez_go (n := 1) (pc' := 105) (L' := [(1, .inl (k)), (0, .inr (.inr (some (770))))]) (st' := [.inl (0), .inl (qz_I g ((dc g)) (k).toNat), .inr (.inr (some (770)))]) rfl ?_
  obtain ⟨l0, hl0⟩ := az_f (F := vF9 Ls) false _ _ (h2 k.toNat (by omega))
  refine ez_cv hBg u770 rfl rfl rfl tq_75 rfl rfl rfl (rd_full (cb := false) (l := l0) (n := (cn h + 1).toNat) eg u794 (by omega) (by omega) pr ⟨by decide, by decide⟩ ⟨fun w => absurd rfl w, fun w => by cases w⟩ (by rw [dcx.2.2]; exact hl0) (by omega) (fun l40 g2 τ2 hB2 f2 sn2 _ => ez_K1 ?_) (fun l41 g2 τ2 hB2 f2 sn2 => ez_K1 ?_))
  · skip
    have P2 := hp.trans (f2.fpx sn2)
    have eg2 := P2.eDx e t794 hB2
    have dcx2 := P2.dcx e t794
    have v770 : τ2 770 = 75 := eg2.2.1
    have v794 : τ2 794 = 82 := (P2.1 794 (by rw [t794]; decide)).1.trans t794
    have rr2 := P2.2.2.2.2
    have lsk2 : qz_N g2 (sk g2) ≤ 18700 := (ez_len hB2 (ez_tsk hB2 v770) tq_21 rfl).2
    have cnd2 := eg2.2.2.1.2.1
    have td2 := ez_tdb hB2 v770
    refine ez_go (n := 1) (pc' := 110) (L' := [(1, .inl (k)), (0, .inr (.inr (some (770))))]) (st' := [.inl (40), .inl ((l0.length : Int))]) rfl ?_
    refine ez_icmp rfl rfl ⟨by first | omega | exact (sz_i32 _).1, by first | omega | exact (sz_i32 _).2⟩ ⟨by first | omega | exact (sz_i32 _).1, by first | omega | exact (sz_i32 _).2⟩ (fun (c4 : (40) < ((l0.length : Int))) => ?_) (fun (c4 : ¬((40) < ((l0.length : Int)))) => ?_)
    · skip
      refine ez_go (n := 1) (pc' := 130) (L' := [(1, .inl (k)), (0, .inr (.inr (some (770))))]) (st' := [.inl (0)]) rfl ?_
      exfalso; omega
    · skip
      refine ez_go (n := 2) (pc' := 115) (L' := [(1, .inl (k)), (0, .inr (.inr (some (770))))]) (st' := [.inr (.inr (some (770))), .inr (.inr (some (770)))]) rfl ?_
      refine ez_gR hB2 v770 rfl rfl tq_75 rfl rfl (fun (t5 : _ = 19) (t5' : 1 ≤ qz_I g2 770 21) => ?_)
      rw [show qz_P g2 770 21 = dc g2 from rfl]
      refine ez_go (n := 1) (pc' := 119) (L' := [(1, .inl (k)), (0, .inr (.inr (some (770))))]) (st' := [.inl (k), .inr (.inr (some ((dc g2)))), .inr (.inr (some (770)))]) rfl ?_
      have n7 : 64 ≤ qz_N g2 ((dc g2)) ∧ qz_N g2 ((dc g2)) ≤ 4096 := ez_len hB2 td2.1 tq_19 rfl
      refine ez_aI hB2 td2.1 rfl tq_19 rfl rfl (by omega) (by omega) (fun (b6 : -2147483648 ≤ qz_I g2 ((dc g2)) (k).toNat) (b6' : qz_I g2 ((dc g2)) (k).toNat ≤ 2147483647) => ?_)
      have pr2 : ez_rg (qz_I g2 ((dc g2)) (k).toNat) := ⟨by omega, by omega⟩
      refine ez_go (n := 1) (pc' := 121) (L' := [(1, .inl (k)), (0, .inr (.inr (some (770))))]) (st' := [.inl (1), .inl (qz_I g2 ((dc g2)) (k).toNat), .inr (.inr (some (770)))]) rfl ?_
      obtain ⟨l1, hl1⟩ := az_f (F := vF9 Ls) true _ _ (h2 k.toNat (by omega))
      refine ez_cv hB2 v770 rfl rfl rfl tq_75 rfl rfl rfl (rd_full (cb := true) (l := l1) (n := (cn h + 1).toNat) eg2 v794 (by omega) (by omega) pr2 ⟨by decide, by decide⟩ ⟨fun _ => rfl, fun _ => by decide⟩ (by rw [dcx2.2.2]; exact hl1) (by omega) (fun l40b g3 τ3 hB3 f3 sn3 _ => ez_K1 ?_) (fun l41 g3 τ3 hB3 f3 sn3 => ez_K1 ?_))
      · skip
        have P3 := P2.trans (f3.fpx sn3)
        have eg3 := P3.eDx e t794 hB3
        have dcx3 := P3.dcx e t794
        have w770 : τ3 770 = 75 := eg3.2.1
        have w794 : τ3 794 = 82 := (P3.1 794 (by rw [t794]; decide)).1.trans t794
        have I3 := (P3.sfx hB t770 t794).mIx9 hI hB3
        have rr3 := P3.2.2.2.2
        have lsk3 : qz_N g3 (sk g3) ≤ 18700 := (ez_len hB3 (ez_tsk hB3 w770) tq_21 rfl).2
        have h39 : ∀ c, ∃ l, uz_F (vF9 Ls) c (qz_I h (dc h) k.toNat) l ∧ l.length ≤ 40 := fun c => by cases c; (· exact ⟨l0, ⟨_, hl0⟩, l40⟩); (· exact ⟨l1, ⟨_, hl1⟩, l40b⟩)
        have e28 : pkn g3 = pkn g := (f3.2.2.1 28 (by decide) (by decide)).trans (f2.2.2.1 28 (by decide) (by decide))
        have pkd3 : pkn g3 = qz_I g3 770 28 := rfl
        have epq3 : pq g3 = pq h := by unfold pq qz_P; rw [P3.2.2.1 27 (by decide) (by decide) (by decide)]
        have tpq := ez_tpq hB t770
        have tpg : τ1 (pq h) = 22 := (hp.1 _ (by rw [tpq]; decide)).1.trans tpq
        have tp2 : τ2 (pq h) = 22 := (f2.1 _ (by rw [tpg]; decide)).1.trans tpg
        have cpq2 : g2.2.2 (pq h) = g.2.2 (pq h) := (f2.1 _ (by rw [tpg]; decide)).2 (fun w => by rw [w, u770] at tpg; cases tpg) (fun w => by rw [w, u794] at tpg; cases tpg) (by rw [tpg]; decide)
        have cpq3 : g3.2.2 (pq h) = g2.2.2 (pq h) := (f3.1 _ (by rw [tp2]; decide)).2 (fun w => by rw [w, v770] at tp2; cases tp2) (fun w => by rw [w, v794] at tp2; cases tp2) (by rw [tp2]; decide)
        have ipq : ∀ j, qz_I g3 (pq h) j = qz_I g (pq h) j := fun j => by unfold qz_I; rw [cpq3, cpq2]
        have npq : qz_N g3 (pq h) = qz_N g (pq h) := by unfold qz_N; rw [cpq3, cpq2]
        obtain ⟨⟨ek1, tl⟩, ⟨l7, l8⟩, cp, vs, F1, ty, hlen, hr⟩ := eg3.at (k := k) (by omega) (by omega)
        rw [dcx3.2.2] at F1
        have t56 := eg3.2.2.2.2.2.2 _ tl
        generalize el : qz_P g3 (bw g3) (k).toNat = l at tl l7 l8 ty hlen hr t56
        have hlen1 : qz_I g3 (l + 2) (0 : Int).toNat = (vs.length : Int) := hlen.1
        have hlen2 : qz_I g3 (l + 1) (0 : Int).toNat + (vs.length : Int) ≤ pn g3 := hlen.2.1
        have hlen3 : 0 ≤ qz_I g3 (l + 1) (0 : Int).toNat := hlen.2.2
        have cnp := eg3.2.2.1.2.2.2
        have cnb := eg3.2.2.1.2.2.1
        have cnd3 := eg3.2.2.1.2.1
        have td := ez_tdb hB3 w770
        have tt := ez_tls hB3 w770
        refine ez_go (n := 1) (pc' := 126) (L' := [(1, .inl (k)), (0, .inr (.inr (some (770))))]) (st' := [.inl (40), .inl ((l1.length : Int))]) rfl ?_
        refine ez_icmp rfl rfl ⟨by first | omega | exact (sz_i32 _).1, by first | omega | exact (sz_i32 _).2⟩ ⟨by first | omega | exact (sz_i32 _).1, by first | omega | exact (sz_i32 _).2⟩ (fun (c8 : ((l1.length : Int)) ≤ (40)) => ?_) (fun (c8 : ¬(((l1.length : Int)) ≤ (40))) => ?_)
        · skip
          refine ez_go (n := 1) (pc' := 132) (L' := [(1, .inl (k)), (0, .inr (.inr (some (770))))]) (st' := [.inr (.inr (some (770)))]) rfl ?_
          refine ez_gR hB3 w770 rfl rfl tq_75 rfl rfl (fun (t9 : _ = 20) (t9' : 1 ≤ qz_I g3 770 22) => ?_)
          rw [show qz_P g3 770 22 = bw g3 from rfl]
          refine ez_go (n := 1) (pc' := 136) (L' := [(1, .inl (k)), (0, .inr (.inr (some (770))))]) (st' := [.inl (k), .inr (.inr (some ((bw g3))))]) rfl ?_
          have n11 : 64 ≤ qz_N g3 ((bw g3)) ∧ qz_N g3 ((bw g3)) ≤ 4096 := ez_len hB3 td.2 tq_20 rfl
          have y12 : 1 ≤ qz_I g3 ((bw g3)) (k).toNat := ek1
          have y13 : 0 ≤ qz_I g3 ((bw g3)) (k).toNat ∧ qz_I g3 ((bw g3)) (k).toNat ≤ 1000000 := ez_aB hB3 td.2 tq_20 rfl rfl (by decide) (by omega) (by omega)
          have y13' : ((qz_P g3 ((bw g3)) (k).toNat : Nat) : Int) + 1 = qz_I g3 ((bw g3)) (k).toNat := by unfold qz_P; omega
          refine ez_aR hB3 td.2 rfl tq_20 rfl rfl (by omega) (by omega) (by omega) (fun (t10 : _ = 13) => ?_)
          rw [el]
          refine ez_gI hB3 tl rfl rfl tq_13 rfl rfl (fun (b14 : -2147483648 ≤ qz_I g3 l 5) (b14' : qz_I g3 l 5 ≤ 2147483647) => ?_)
          refine ez_go (n := 1) (pc' := 141) (L' := [(1, .inl (k)), (0, .inr (.inr (some (770))))]) (st' := [.inl (1), .inl (qz_I g3 l 5)]) rfl ?_
          refine ez_icmp rfl rfl ⟨by first | omega | exact (sz_i32 _).1, by first | omega | exact (sz_i32 _).2⟩ ⟨by first | omega | exact (sz_i32 _).1, by first | omega | exact (sz_i32 _).2⟩ (fun (c15 : (qz_I g3 l 5) ≠ (1)) => ?_) (fun (c15 : ¬((qz_I g3 l 5) ≠ (1))) => ?_)
          · skip
            refine ez_less [(1, .inl (k)), (0, .inr (.inr (some (770))))] rfl ⟨rfl, rfl, trivial⟩ ?_
            exact kx g3 τ3 hB3 P3 (so_skip hs kk0 e28 ipq (fun a z w9 => by have w8 := w9.1; rw [F1] at w8; cases w8; have hl9 : qz_I g3 (l + 2) (0 : Int).toNat = 2 := hlen1; omega) h39) (by rw [npq]; exact hnq)
          · skip
            refine ez_go (n := 1) (pc' := 145) (L' := [(1, .inl (k)), (0, .inr (.inr (some (770))))]) (st' := [.inr (.inr (some (770)))]) rfl ?_
            refine ez_gR hB3 w770 rfl rfl tq_75 rfl rfl (fun (t16 : _ = 20) (t16' : 1 ≤ qz_I g3 770 22) => ?_)
            rw [show qz_P g3 770 22 = bw g3 from rfl]
            refine ez_go (n := 1) (pc' := 149) (L' := [(1, .inl (k)), (0, .inr (.inr (some (770))))]) (st' := [.inl (k), .inr (.inr (some ((bw g3))))]) rfl ?_
            have n18 : 64 ≤ qz_N g3 ((bw g3)) ∧ qz_N g3 ((bw g3)) ≤ 4096 := ez_len hB3 td.2 tq_20 rfl
            have y19 : 1 ≤ qz_I g3 ((bw g3)) (k).toNat := ek1
            have y20 : 0 ≤ qz_I g3 ((bw g3)) (k).toNat ∧ qz_I g3 ((bw g3)) (k).toNat ≤ 1000000 := ez_aB hB3 td.2 tq_20 rfl rfl (by decide) (by omega) (by omega)
            have y20' : ((qz_P g3 ((bw g3)) (k).toNat : Nat) : Int) + 1 = qz_I g3 ((bw g3)) (k).toNat := by unfold qz_P; omega
            refine ez_aR hB3 td.2 rfl tq_20 rfl rfl (by omega) (by omega) (by omega) (fun (t17 : _ = 13) => ?_)
            rw [el]
            refine ez_gR hB3 tl rfl rfl tq_13 rfl rfl (fun (t21 : _ = 16) (t21' : 1 ≤ qz_I g3 l 8) => ?_)
            rw [l8]
            refine ez_go (n := 1) (pc' := 154) (L' := [(1, .inl (k)), (0, .inr (.inr (some (770))))]) (st' := [.inl (0), .inr (.inr (some ((l + 2))))]) rfl ?_
            have n23 : 3 ≤ qz_N g3 ((l + 2)) ∧ qz_N g3 ((l + 2)) ≤ 3 := ez_len hB3 t56.2 tq_16 rfl
            refine ez_aI hB3 t56.2 rfl tq_16 rfl rfl (by omega) (by omega) (fun (b22 : 0 ≤ qz_I g3 ((l + 2)) (0 : Int).toNat) (b22' : qz_I g3 ((l + 2)) (0 : Int).toNat ≤ 18) => ?_)
            refine ez_go (n := 1) (pc' := 156) (L' := [(1, .inl (k)), (0, .inr (.inr (some (770))))]) (st' := [.inl (2), .inl (qz_I g3 ((l + 2)) (0 : Int).toNat)]) rfl ?_
            refine ez_icmp rfl rfl ⟨by first | omega | exact (sz_i32 _).1, by first | omega | exact (sz_i32 _).2⟩ ⟨by first | omega | exact (sz_i32 _).1, by first | omega | exact (sz_i32 _).2⟩ (fun (c24 : (qz_I g3 ((l + 2)) (0 : Int).toNat) ≠ (2)) => ?_) (fun (c24 : ¬((qz_I g3 ((l + 2)) (0 : Int).toNat) ≠ (2))) => ?_)
            · skip
              refine ez_less [(1, .inl (k)), (0, .inr (.inr (some (770))))] rfl ⟨rfl, rfl, trivial⟩ ?_
              exact kx g3 τ3 hB3 P3 (so_skip hs kk0 e28 ipq (fun a z w9 => by have w8 := w9.1; rw [F1] at w8; cases w8; have hl9 : qz_I g3 (l + 2) (0 : Int).toNat = 2 := hlen1; omega) h39) (by rw [npq]; exact hnq)
            · skip
              refine ez_go (n := 2) (pc' := 161) (L' := [(1, .inl (k)), (0, .inr (.inr (some (770))))]) (st' := [.inr (.inr (some (770))), .inr (.inr (some (770)))]) rfl ?_
              refine ez_gR hB3 w770 rfl rfl tq_75 rfl rfl (fun (t25 : _ = 19) (t25' : 1 ≤ qz_I g3 770 21) => ?_)
              rw [show qz_P g3 770 21 = dc g3 from rfl]
              refine ez_go (n := 1) (pc' := 165) (L' := [(1, .inl (k)), (0, .inr (.inr (some (770))))]) (st' := [.inl (k), .inr (.inr (some ((dc g3)))), .inr (.inr (some (770)))]) rfl ?_
              have n27 : 64 ≤ qz_N g3 ((dc g3)) ∧ qz_N g3 ((dc g3)) ≤ 4096 := ez_len hB3 td.1 tq_19 rfl
              refine ez_aI hB3 td.1 rfl tq_19 rfl rfl (by omega) (by omega) (fun (b26 : -2147483648 ≤ qz_I g3 ((dc g3)) (k).toNat) (b26' : qz_I g3 ((dc g3)) (k).toNat ≤ 2147483647) => ?_)
              have pr3 : ez_rg (qz_I g3 ((dc g3)) (k).toNat) := ⟨by omega, by omega⟩
              refine ez_cv hB3 w770 rfl rfl rfl tq_75 rfl rfl rfl (rd_excluded9 I3 eg3 pr3 (fun hx => ez_K1 ?_) (fun hx => ez_K1 ?_))
              · skip
                rw [dcx3.2.2] at hx
                refine ez_if rfl rfl ⟨by decide, by decide⟩ (fun (c28 : (1 : Int) = (0)) => absurd c28 (by decide)) (fun _ => ?_)
                refine ez_go (n := 1) (pc' := 251) (L' := [(1, .inl (k)), (0, .inr (.inr (some (770))))]) (st' := []) rfl ?_
                refine ez_less [(1, .inl (k)), (0, .inr (.inr (some (770))))] rfl ⟨rfl, rfl, trivial⟩ ?_
                exact kx g3 τ3 hB3 P3 (so_skip hs kk0 e28 ipq (fun a z w9 => w9.2 hx) h39) (by rw [npq]; exact hnq)
              · skip
                rw [dcx3.2.2] at hx
                refine ez_if rfl rfl ⟨by decide, by decide⟩ (fun _ => ?_) (fun (c29 : ¬((0 : Int) = (0))) => absurd c29 (by decide))
                obtain ⟨v, v2, hvs⟩ : ∃ v v2, vs = [v, v2] := by
                  match vs, hlen1 with
                  | [v, v2], _ => exact ⟨v, v2, rfl⟩
                  | [], hl => exact absurd hl (by simp; omega)
                  | [_], hl => exact absurd hl (by simp; omega)
                  | _ :: _ :: _ :: _, hl => exact absurd hl (by simp; omega)
                have cp0 : cp = 0 := by omega
                subst cp0
                subst hvs
                have hl2 : qz_I g3 (l + 2) (0 : Int).toNat = 2 := hlen1
                have hl3 : qz_I g3 (l + 1) (0 : Int).toNat + 2 ≤ pn g3 := hlen2
                have hp0 : ez_p (vF9 Ls) (vE9 Ls) (qz_I h (dc h) k.toNat) v v2 := ⟨F1, hx⟩
                refine ez_go (n := 1) (pc' := 176) (L' := [(1, .inl (k)), (0, .inr (.inr (some (770))))]) (st' := [.inr (.inr (some (770)))]) rfl ?_
                refine ez_gR hB3 w770 rfl rfl tq_75 rfl rfl (fun (t30 : _ = 17) (t30' : 1 ≤ qz_I g3 770 9) => ?_)
                rw [show qz_P g3 770 9 = po g3 from rfl]
                refine ez_go (n := 1) (pc' := 180) (L' := [(1, .inl (k)), (0, .inr (.inr (some (770))))]) (st' := [.inr (.inr (some (770))), .inr (.inr (some ((po g3))))]) rfl ?_
                refine ez_gR hB3 w770 rfl rfl tq_75 rfl rfl (fun (t31 : _ = 20) (t31' : 1 ≤ qz_I g3 770 22) => ?_)
                rw [show qz_P g3 770 22 = bw g3 from rfl]
                refine ez_go (n := 1) (pc' := 184) (L' := [(1, .inl (k)), (0, .inr (.inr (some (770))))]) (st' := [.inl (k), .inr (.inr (some ((bw g3)))), .inr (.inr (some ((po g3))))]) rfl ?_
                have n33 : 64 ≤ qz_N g3 ((bw g3)) ∧ qz_N g3 ((bw g3)) ≤ 4096 := ez_len hB3 td.2 tq_20 rfl
                have y34 : 1 ≤ qz_I g3 ((bw g3)) (k).toNat := ek1
                have y35 : 0 ≤ qz_I g3 ((bw g3)) (k).toNat ∧ qz_I g3 ((bw g3)) (k).toNat ≤ 1000000 := ez_aB hB3 td.2 tq_20 rfl rfl (by decide) (by omega) (by omega)
                have y35' : ((qz_P g3 ((bw g3)) (k).toNat : Nat) : Int) + 1 = qz_I g3 ((bw g3)) (k).toNat := by unfold qz_P; omega
                refine ez_aR hB3 td.2 rfl tq_20 rfl rfl (by omega) (by omega) (by omega) (fun (t32 : _ = 13) => ?_)
                rw [el]
                refine ez_gR hB3 tl rfl rfl tq_13 rfl rfl (fun (t36 : _ = 15) (t36' : 1 ≤ qz_I g3 l 7) => ?_)
                rw [l7]
                refine ez_go (n := 1) (pc' := 189) (L' := [(1, .inl (k)), (0, .inr (.inr (some (770))))]) (st' := [.inl (0), .inr (.inr (some ((l + 1)))), .inr (.inr (some ((po g3))))]) rfl ?_
                have n38 : 3 ≤ qz_N g3 ((l + 1)) ∧ qz_N g3 ((l + 1)) ≤ 3 := ez_len hB3 t56.1 tq_15 rfl
                refine ez_aI hB3 t56.1 rfl tq_15 rfl rfl (by omega) (by omega) (fun (b37 : 0 ≤ qz_I g3 ((l + 1)) (0 : Int).toNat) (b37' : qz_I g3 ((l + 1)) (0 : Int).toNat ≤ 38500) => ?_)
                have n40 : 1024 ≤ qz_N g3 ((po g3)) ∧ qz_N g3 ((po g3)) ≤ 77100 := ez_len hB3 tt.2 tq_17 rfl
                refine ez_aI hB3 tt.2 rfl tq_17 rfl rfl (by omega) (by omega) (fun (b39 : -2147483648 ≤ qz_I g3 ((po g3)) (qz_I g3 ((l + 1)) (0 : Int).toNat).toNat) (b39' : qz_I g3 ((po g3)) (qz_I g3 ((l + 1)) (0 : Int).toNat).toNat ≤ 2147483647) => ?_)
                have ev0 : qz_I g3 ((po g3)) (qz_I g3 ((l + 1)) (0 : Int).toNat).toNat = v := by have w9 := hr 0 v rfl; unfold pl at w9; rw [show qz_I g3 (l + 1) (0 : Int).toNat = qz_I g3 (l + 1) 0 from rfl]; simpa using w9
                have vb0 : ez_rg v := by rw [← ev0]; exact ⟨by omega, by omega⟩
                obtain ⟨vc0, vd0⟩ := id vb0
                rw [ev0]
                refine ez_go (n := 2) (pc' := 193) (L' := [(2, .inl (v)), (1, .inl (k)), (0, .inr (.inr (some (770))))]) (st' := [.inr (.inr (some (770)))]) rfl ?_
                refine ez_gR hB3 w770 rfl rfl tq_75 rfl rfl (fun (t41 : _ = 17) (t41' : 1 ≤ qz_I g3 770 9) => ?_)
                rw [show qz_P g3 770 9 = po g3 from rfl]
                refine ez_go (n := 1) (pc' := 197) (L' := [(2, .inl (v)), (1, .inl (k)), (0, .inr (.inr (some (770))))]) (st' := [.inr (.inr (some (770))), .inr (.inr (some ((po g3))))]) rfl ?_
                refine ez_gR hB3 w770 rfl rfl tq_75 rfl rfl (fun (t42 : _ = 20) (t42' : 1 ≤ qz_I g3 770 22) => ?_)
                rw [show qz_P g3 770 22 = bw g3 from rfl]
                refine ez_go (n := 1) (pc' := 201) (L' := [(2, .inl (v)), (1, .inl (k)), (0, .inr (.inr (some (770))))]) (st' := [.inl (k), .inr (.inr (some ((bw g3)))), .inr (.inr (some ((po g3))))]) rfl ?_
                have n44 : 64 ≤ qz_N g3 ((bw g3)) ∧ qz_N g3 ((bw g3)) ≤ 4096 := ez_len hB3 td.2 tq_20 rfl
                have y45 : 1 ≤ qz_I g3 ((bw g3)) (k).toNat := ek1
                have y46 : 0 ≤ qz_I g3 ((bw g3)) (k).toNat ∧ qz_I g3 ((bw g3)) (k).toNat ≤ 1000000 := ez_aB hB3 td.2 tq_20 rfl rfl (by decide) (by omega) (by omega)
                have y46' : ((qz_P g3 ((bw g3)) (k).toNat : Nat) : Int) + 1 = qz_I g3 ((bw g3)) (k).toNat := by unfold qz_P; omega
                refine ez_aR hB3 td.2 rfl tq_20 rfl rfl (by omega) (by omega) (by omega) (fun (t43 : _ = 13) => ?_)
                rw [el]
                refine ez_gR hB3 tl rfl rfl tq_13 rfl rfl (fun (t47 : _ = 15) (t47' : 1 ≤ qz_I g3 l 7) => ?_)
                rw [l7]
                refine ez_go (n := 1) (pc' := 206) (L' := [(2, .inl (v)), (1, .inl (k)), (0, .inr (.inr (some (770))))]) (st' := [.inl (0), .inr (.inr (some ((l + 1)))), .inr (.inr (some ((po g3))))]) rfl ?_
                have n49 : 3 ≤ qz_N g3 ((l + 1)) ∧ qz_N g3 ((l + 1)) ≤ 3 := ez_len hB3 t56.1 tq_15 rfl
                refine ez_aI hB3 t56.1 rfl tq_15 rfl rfl (by omega) (by omega) (fun (b48 : 0 ≤ qz_I g3 ((l + 1)) (0 : Int).toNat) (b48' : qz_I g3 ((l + 1)) (0 : Int).toNat ≤ 38500) => ?_)
                refine ez_go (n := 2) (pc' := 209) (L' := [(2, .inl (v)), (1, .inl (k)), (0, .inr (.inr (some (770))))]) (st' := [.inl ((qz_I g3 ((l + 1)) (0 : Int).toNat) + (1)), .inr (.inr (some ((po g3))))]) rfl ?_
                have n51 : 1024 ≤ qz_N g3 ((po g3)) ∧ qz_N g3 ((po g3)) ≤ 77100 := ez_len hB3 tt.2 tq_17 rfl
                refine ez_aI hB3 tt.2 rfl tq_17 rfl rfl (by omega) (by omega) (fun (b50 : -2147483648 ≤ qz_I g3 ((po g3)) ((qz_I g3 ((l + 1)) (0 : Int).toNat) + (1)).toNat) (b50' : qz_I g3 ((po g3)) ((qz_I g3 ((l + 1)) (0 : Int).toNat) + (1)).toNat ≤ 2147483647) => ?_)
                have ev1 : qz_I g3 ((po g3)) ((qz_I g3 ((l + 1)) (0 : Int).toNat) + (1)).toNat = v2 := by have w9 := hr 1 v2 rfl; unfold pl at w9; rw [show qz_I g3 (l + 1) (0 : Int).toNat = qz_I g3 (l + 1) 0 from rfl]; simpa using w9
                have vb1 : ez_rg v2 := by rw [← ev1]; exact ⟨by omega, by omega⟩
                obtain ⟨vc1, vd1⟩ := id vb1
                rw [ev1]
                refine ez_go (n := 4) (pc' := 214) (L' := [(3, .inl (v2)), (2, .inl (v)), (1, .inl (k)), (0, .inr (.inr (some (770))))]) (st' := [.inl (v2), .inl (v), .inr (.inr (some (770)))]) rfl ?_
                refine ez_cv hB3 w770 rfl rfl rfl tq_75 rfl rfl rfl (rd_hangulPair hB3 w770 vb0 vb1 (fun hh => ez_K1 ?_) (fun hh => ez_K1 ?_))
                · skip
                  refine ez_if rfl rfl ⟨by decide, by decide⟩ (fun _ => ?_) (fun (c52 : ¬((1 : Int) ≠ (0))) => absurd c52 (by decide))
                  refine ez_go (n := 1) (pc' := 230) (L' := [(3, .inl (v2)), (2, .inl (v)), (1, .inl (k)), (0, .inr (.inr (some (770))))]) (st' := [.inl (0)]) rfl ?_
                  exact ez_retZ rfl rfl (Or.inl rfl) (k0 (fun w9 => w9.2.2.2.1 _ _ _ hp0 hh) g3 τ3 hB3 P3)
                · skip
                  refine ez_if rfl rfl ⟨by decide, by decide⟩ (fun (c53 : (0 : Int) ≠ (0)) => absurd c53 (by decide)) (fun _ => ?_)
                  refine ez_go (n := 3) (pc' := 223) (L' := [(3, .inl (v2)), (2, .inl (v)), (1, .inl (k)), (0, .inr (.inr (some (770))))]) (st' := [.inl (v2), .inl (v), .inr (.inr (some (770)))]) rfl ?_
                  have hpP : pP g3 (vF9 Ls) := by
                    refine ⟨by rw [e28, epq3, npq]; exact ⟨hs.1.1.1, by have := hs.1.1.2; omega⟩, fun i hi => ?_⟩
                    rw [e28] at hi
                    obtain ⟨w1, a9, z9, w2⟩ := hs.1.2 i hi
                    rw [epq3, ipq, dcx3.2.2]
                    exact ⟨by omega, a9, z9, w2.1⟩
                  refine ez_cv hB3 w770 rfl rfl rfl tq_75 rfl rfl rfl (rd_composite eg3 hpP vb0 vb1 (fun w9 => absurd w9 hh) (fun _ i hi hFi => ez_K1 ?_) (fun _ hno => ez_K1 ?_))
                  · skip
                    rw [e28] at hi
                    rw [epq3, ipq, dcx3.2.2] at hFi
                    rw [epq3, ipq, dcx3.2.2]
                    obtain ⟨w1, a9, z9, w2⟩ := hs.1.2 i hi
                    have hge := ((hw (qz_I h (dc h) (qz_I g (pq h) i).toNat)).2 _ _ hFi).2.2.2
                    generalize eA : qz_I h (dc h) (qz_I g (pq h) i).toNat = A9 at *
                    refine ez_if rfl rfl ⟨by first | omega | exact (sz_i32 _).1, by first | omega | exact (sz_i32 _).2⟩ (fun (c54 : (A9) < (0)) => ?_) (fun (c54 : ¬((A9) < (0))) => ?_)
                    · exfalso; omega
                    · skip
                      refine ez_go (n := 1) (pc' := 230) (L' := [(3, .inl (v2)), (2, .inl (v)), (1, .inl (k)), (0, .inr (.inr (some (770))))]) (st' := [.inl (0)]) rfl ?_
                      have hexi : ¬ ez_x (vF9 Ls) (vE9 Ls) A9 := w2.2
                      have hdif : A9 ≠ qz_I h (dc h) k.toNat := by rw [← eA]; have := e.2.2.2.1 (qz_I g (pq h) i).toNat k.toNat (by omega) (by omega); omega
                      exact ez_retZ rfl rfl (Or.inl rfl) (k0 (fun w9 => hdif (w9.2.2.2.2 _ _ v v2 ⟨hFi, hexi⟩ hp0)) g3 τ3 hB3 P3)
                  · skip
                    have hno2 : ∀ j : Nat, (j : Int) < pkn g → (vF9 Ls (qz_I h (dc h) (qz_I g (pq h) j).toNat)).2 ≠ some (0, [v, v2]) := fun j hj => by have w9 := hno j (by rw [e28]; exact hj); rw [epq3, ipq, dcx3.2.2] at w9; exact w9
                    refine ez_if rfl rfl ⟨by decide, by decide⟩ (fun _ => ?_) (fun (c55 : ¬((-1 : Int) < (0))) => absurd c55 (by decide))
                    refine ez_go (n := 1) (pc' := 232) (L' := [(3, .inl (v2)), (2, .inl (v)), (1, .inl (k)), (0, .inr (.inr (some (770))))]) (st' := [.inr (.inr (some (770)))]) rfl ?_
                    refine ez_gR hB3 w770 rfl rfl tq_75 rfl rfl (fun (t56 : _ = 22) (t56' : 1 ≤ qz_I g3 770 27) => ?_)
                    rw [show qz_P g3 770 27 = pq h from epq3]
                    have tp3 : τ3 (pq h) = 22 := (P3.1 _ (by rw [tpq]; decide)).1.trans tpq
                    refine ez_go (n := 1) (pc' := 236) (L' := [(3, .inl (v2)), (2, .inl (v)), (1, .inl (k)), (0, .inr (.inr (some (770))))]) (st' := [.inr (.inr (some (770))), .inr (.inr (some ((pq h))))]) rfl ?_
                    refine ez_gI hB3 w770 rfl rfl tq_75 rfl rfl (fun (b57 : 0 ≤ qz_I g3 770 28) (b57' : qz_I g3 770 28 ≤ 512) => ?_)
                    refine ez_go (n := 1) (pc' := 240) (L' := [(3, .inl (v2)), (2, .inl (v)), (1, .inl (k)), (0, .inr (.inr (some (770))))]) (st' := [.inl (k), .inl (qz_I g3 770 28), .inr (.inr (some ((pq h))))]) rfl ?_
                    have n60 : 0 ≤ qz_N g3 ((pq h)) ∧ qz_N g3 ((pq h)) ≤ 512 := ez_len hB3 tp3 tq_22 rfl
                    refine ez_as hB3 tp3 rfl tq_22 rfl rfl (by omega) (by omega) (ez_vdI rfl rfl (by omega) (by omega)) (fun hB58 w59 => ?_)
                    have fA : ez_fr (ez_one (pq h)) g3 (dz_put g3 ((pq h)) (qz_I g3 770 28).toNat (ez_v (.inl (k)))) := (ez_fr.refl (ez_one (pq h)) g3).put (show Nat.beq _ _ = true from Nat.beq_refl _) _ _
                    have vA : qz_I (dz_put g3 ((pq h)) (qz_I g3 770 28).toNat (ez_v (.inl (k)))) (pq h) (qz_I g3 770 28).toNat = k := w59.trans (rz_rd ⟨by omega, by omega⟩)
                    have iA : ∀ j, j ≠ (qz_I g3 770 28).toNat → qz_I (dz_put g3 ((pq h)) (qz_I g3 770 28).toNat (ez_v (.inl (k)))) (pq h) j = qz_I g3 (pq h) j := fun j hj => ez_put_I (fun w => hj w.2)
                    have NA : qz_N (dz_put g3 ((pq h)) (qz_I g3 770 28).toNat (ez_v (.inl (k)))) (pq h) = qz_N g3 (pq h) := ez_put_N _
                    have hA := hB58
                    generalize (dz_put g3 ((pq h)) (qz_I g3 770 28).toNat (ez_v (.inl (k)))) = g4 at *
                    have np7 : pq h ≠ 770 := fun w => by rw [w, w770] at tp3; cases tp3
                    have i4 : ∀ j, qz_I g4 770 j = qz_I g3 770 j := fun j => fA.I (dz_beq_ne (Ne.symm np7)) j
                    have i428 := i4 28
                    refine ez_go (n := 2) (pc' := 243) (L' := [(3, .inl (v2)), (2, .inl (v)), (1, .inl (k)), (0, .inr (.inr (some (770))))]) (st' := [.inr (.inr (some (770))), .inr (.inr (some (770)))]) rfl ?_
                    refine ez_gI hA w770 rfl rfl tq_75 rfl rfl (fun (b61 : 0 ≤ qz_I g4 770 28) (b61' : qz_I g4 770 28 ≤ 512) => ?_)
                    refine ez_go (n := 2) (pc' := 248) (L' := [(3, .inl (v2)), (2, .inl (v)), (1, .inl (k)), (0, .inr (.inr (some (770))))]) (st' := [.inl ((qz_I g4 770 28) + (1)), .inr (.inr (some (770)))]) rfl ?_
                    refine ez_pf hA w770 rfl rfl tq_75 rfl rfl rfl rfl (ez_vdI rfl rfl (by omega) (by omega)) (fun hB62 w63 => ?_)
                    refine ez_less [(1, .inl (k)), (0, .inr (.inr (some (770))))] rfl ⟨rfl, rfl, trivial⟩ ?_
                    have vC : qz_I (dz_put g4 770 28 (ez_v (.inl ((qz_I g4 770 28) + (1))))) 770 28 = qz_I g3 770 28 + 1 := by rw [w63, rz_rd ⟨by omega, by omega⟩, i428]
                    have iC : ∀ j, j ≠ 28 → qz_I (dz_put g4 770 28 (ez_v (.inl ((qz_I g4 770 28) + (1))))) 770 j = qz_I g3 770 j := fun j hj => by rw [ez_put_I (fun w => hj w.2)]; exact i4 j
                    have fC : ez_fr (ez_one 770) g4 (dz_put g4 770 28 (ez_v (.inl ((qz_I g4 770 28) + (1))))) := (ez_fr.refl (ez_one 770) g4).put rfl _ _
                    have hC := hB62
                    generalize (dz_put g4 770 28 (ez_v (.inl ((qz_I g4 770 28) + (1))))) = g5 at *
                    have jC : ∀ i, qz_I g5 (pq h) i = qz_I g4 (pq h) i := fun i => fC.I (dz_beq_ne np7) i
                    have fD : ez_fr (nz_PL (pq g3)) g3 g5 := ⟨by rw [fC.1, fA.1], by rw [fC.2.1, fA.2.1], fun q hq => by rw [epq3] at hq; rw [fC.2.2 q (Bool.or_eq_false_iff.mp hq).1, fA.2.2 q (Bool.or_eq_false_iff.mp hq).2]⟩
                    have P5 := P3.trans (fp.pair fD iC hB3 w770)
                    have pk5 : pkn g5 = pkn g + 1 := by show qz_I g5 770 28 = _; rw [vC]; show pkn g3 + 1 = _; rw [e28]
                    have k28 : (qz_I g3 770 28).toNat = (pkn g).toNat := by rw [← e28]; rfl
                    exact kx g5 τ3 hC P5 (so_add hs kk0 pk5 (fun j hj => by rw [jC, iA j (by rw [k28]; exact hj), ipq]) (by rw [jC, ← k28]; exact vA) hp0 hh hno2 h39) (by rw [fC.N (dz_beq_ne np7), NA, npq]; exact hnq)
        · skip
          refine ez_go (n := 1) (pc' := 130) (L' := [(1, .inl (k)), (0, .inr (.inr (some (770))))]) (st' := [.inl (0)]) rfl ?_
          exfalso; omega
      · skip
        have P3 := P2.trans (f3.fpx sn3)
        refine ez_go (n := 1) (pc' := 126) (L' := [(1, .inl (k)), (0, .inr (.inr (some (770))))]) (st' := [.inl (40), .inl (41)]) rfl ?_
        refine ez_icmp rfl rfl ⟨by decide, by decide⟩ ⟨by decide, by decide⟩ (fun (c64 : (41 : Int) ≤ (40)) => absurd c64 (by decide)) (fun _ => ?_)
        refine ez_go (n := 1) (pc' := 130) (L' := [(1, .inl (k)), (0, .inr (.inr (some (770))))]) (st' := [.inl (0)]) rfl ?_
        exact ez_retZ rfl rfl (Or.inl rfl) (k0 (fun w9 => by obtain ⟨l9, h9, h8⟩ := w9.2.2.1 _ hne true; rw [uz_uniq h9 ⟨_, hl1⟩] at h8; omega) g3 τ3 hB3 P3)
  · skip
    have P2 := hp.trans (f2.fpx sn2)
    refine ez_go (n := 1) (pc' := 110) (L' := [(1, .inl (k)), (0, .inr (.inr (some (770))))]) (st' := [.inl (40), .inl (41)]) rfl ?_
    refine ez_icmp rfl rfl ⟨by decide, by decide⟩ ⟨by decide, by decide⟩ (fun _ => ?_) (fun (c65 : ¬((40) < (41 : Int))) => absurd c65 (by decide))
    refine ez_go (n := 1) (pc' := 130) (L' := [(1, .inl (k)), (0, .inr (.inr (some (770))))]) (st' := [.inl (0)]) rfl ?_
    exact ez_retZ rfl rfl (Or.inl rfl) (k0 (fun w9 => by obtain ⟨l9, h9, h8⟩ := w9.2.2.1 _ hne false; rw [uz_uniq h9 ⟨_, hl0⟩] at h8; omega) g2 τ2 hB2 P2)
end EzSp
section EzSq
variable {d : Nat} {h : cz_H} {τ : Nat → Nat} {Q : cz_F → Prop} {Ls : List vz9} {b : Int}
theorem rd_so_39 (hI : mI9 τ h Ls b) (e : eD τ h (vF9 Ls)) (t794 : τ 794 = 82) (hw : uz_wf (vF9 Ls)) (h2 : ∀ i : Nat, (i : Int) < cn h → az (vF9 Ls) (cn h + 1).toNat (qz_I h (dc h) i)) (hr1 : h.1 + 700 ≤ 600192) (hr2 : h.2.1 + 120000 ≤ 7302232) (h1 : ∀ i : Nat, (i : Int) < cn h → (¬ hz (qz_I h (dc h) i) ∧ ∀ cp vs, (vF9 Ls (qz_I h (dc h) i)).2 = some (cp, vs) → cp = 0 → vs.length ≤ 2)) (k1 : uz_S (vF9 Ls) (vE9 Ls) → ∀ g τ1, ez_B τ1 g → fp τ h τ1 g → pQ g (vF9 Ls) (vE9 Ls) → pcn (vF9 Ls) (vE9 Ls) (pkn g) → Q (.inl (some (ez_v (.inl 1))), g)) (k0 : ¬ uz_S (vF9 Ls) (vE9 Ls) → ∀ g τ1, ez_B τ1 g → fp τ h τ1 g → Q (.inl (some (ez_v (.inl 0))), g)) : ∀ (n : Nat) (k : Int) (g : cz_H) (τ1 : Nat → Nat), n = (cn h - k).toNat → 0 ≤ k → k ≤ cn h → ez_B τ1 g → fp τ h τ1 g → so h (vF9 Ls) (vE9 Ls) g k → qz_N g (pq h) = cn h → ez_W (d + 3) cm_301 89 [(1, .inl (k)), (0, .inr (.inr (some (770))))] [] g Q := by
  intro n
  induction n with
  | zero =>
    intro k g τ1 hn kk0 kk1 hb1 hp hs hnq
    have hB := e.1
    have t770 := e.2.1
    have hBg := hb1
    have eg := hp.eDx e t794 hBg
    have dcx := hp.dcx e t794
    have u770 : τ1 770 = 75 := eg.2.1
    have cne : cn g = qz_I g 770 23 := rfl
    have c500 := e.2.2.1.1
    refine ez_go (n := 2) (pc' := 91) (L' := [(1, .inl (k)), (0, .inr (.inr (some (770))))]) (st' := [.inr (.inr (some (770))), .inl (k)]) rfl ?_
    refine ez_gI hBg u770 rfl rfl tq_75 rfl rfl (fun (b1 : 0 ≤ qz_I g 770 23) (b1' : qz_I g 770 23 ≤ 512) => ?_)
    refine ez_icmp rfl rfl ⟨by first | omega | exact (sz_i32 _).1, by first | omega | exact (sz_i32 _).2⟩ ⟨by first | omega | exact (sz_i32 _).1, by first | omega | exact (sz_i32 _).2⟩ (fun (c2 : (qz_I g 770 23) ≤ (k)) => ?_) (fun (c2 : ¬((qz_I g 770 23) ≤ (k))) => ?_)
    · skip
      refine ez_go (n := 1) (pc' := 258) (L' := [(1, .inl (k)), (0, .inr (.inr (some (770))))]) (st' := [.inl (1)]) rfl ?_
      have ek : k = cn h := by omega
      rw [ek] at hs
      refine ez_retZ rfl rfl (Or.inr rfl) (k1 (so_S e hs h1 h2) g τ1 hb1 hp ?_ (so_pcn hw e hs (so_S e hs h1 h2)))
      have epq : pq g = pq h := by unfold pq qz_P; rw [hp.2.2.1 27 (by decide) (by decide) (by decide)]
      refine ⟨by rw [epq, hnq]; exact hs.1.1, fun i hi => ?_, fun x a9 z9 w9 => ?_⟩
      · obtain ⟨w1, a9, z9, w2⟩ := hs.1.2 i hi
        rw [epq, dcx.2.2]
        exact ⟨by omega, a9, z9, w2⟩
      · obtain ⟨i, i1, i2⟩ := e.2.2.2.2.2.1 x (by rw [w9.1]; intro w; cases w)
        obtain ⟨⟨j, j1, j2⟩, -⟩ := hs.2.1 i i1 a9 z9 (by rw [i2]; exact w9)
        exact ⟨j, j1, by rw [epq, dcx.2.2, j2]; exact i2⟩
    · skip
      exfalso; omega
  | succ n ih =>
    intro k g τ1 hn kk0 kk1 hb1 hp hs hnq
    have hB := e.1
    have t770 := e.2.1
    have hBg := hb1
    have eg := hp.eDx e t794 hBg
    have dcx := hp.dcx e t794
    have u770 : τ1 770 = 75 := eg.2.1
    have cne : cn g = qz_I g 770 23 := rfl
    have c500 := e.2.2.1.1
    refine ez_go (n := 2) (pc' := 91) (L' := [(1, .inl (k)), (0, .inr (.inr (some (770))))]) (st' := [.inr (.inr (some (770))), .inl (k)]) rfl ?_
    refine ez_gI hBg u770 rfl rfl tq_75 rfl rfl (fun (b1 : 0 ≤ qz_I g 770 23) (b1' : qz_I g 770 23 ≤ 512) => ?_)
    refine ez_icmp rfl rfl ⟨by first | omega | exact (sz_i32 _).1, by first | omega | exact (sz_i32 _).2⟩ ⟨by first | omega | exact (sz_i32 _).1, by first | omega | exact (sz_i32 _).2⟩ (fun (c2 : (qz_I g 770 23) ≤ (k)) => ?_) (fun (c2 : ¬((qz_I g 770 23) ≤ (k))) => ?_)
    · skip
      refine ez_go (n := 1) (pc' := 258) (L' := [(1, .inl (k)), (0, .inr (.inr (some (770))))]) (st' := [.inl (1)]) rfl ?_
      have ek : k = cn h := by omega
      rw [ek] at hs
      refine ez_retZ rfl rfl (Or.inr rfl) (k1 (so_S e hs h1 h2) g τ1 hb1 hp ?_ (so_pcn hw e hs (so_S e hs h1 h2)))
      have epq : pq g = pq h := by unfold pq qz_P; rw [hp.2.2.1 27 (by decide) (by decide) (by decide)]
      refine ⟨by rw [epq, hnq]; exact hs.1.1, fun i hi => ?_, fun x a9 z9 w9 => ?_⟩
      · obtain ⟨w1, a9, z9, w2⟩ := hs.1.2 i hi
        rw [epq, dcx.2.2]
        exact ⟨by omega, a9, z9, w2⟩
      · obtain ⟨i, i1, i2⟩ := e.2.2.2.2.2.1 x (by rw [w9.1]; intro w; cases w)
        obtain ⟨⟨j, j1, j2⟩, -⟩ := hs.2.1 i i1 a9 z9 (by rw [i2]; exact w9)
        exact ⟨j, j1, by rw [epq, dcx.2.2, j2]; exact i2⟩
    · skip
      refine rd_so_29 hI e t794 hw h2 hr1 hr2 kk0 (by omega) hb1 hp hs hnq k0 (fun g2 τ2 a1 a2 a3 a4 => ?_)
      refine ez_go (n := 2) (pc' := 89) (L' := [(1, .inl (k + 1)), (0, .inr (.inr (some (770))))]) (st' := []) rfl ?_
      refine ez_less [(1, .inl (k + 1)), (0, .inr (.inr (some (770))))] rfl ⟨rfl, rfl, trivial⟩ ?_
      exact ih (k + 1) g2 τ2 (by omega) (by omega) (by omega) a1 a2 a3 a4
def sR9 (τ : Nat → Nat) (h : cz_H) (τ1 : Nat → Nat) (g : cz_H) (Ls : List vz9) (b : Int) : Prop := mI9 τ1 g Ls b ∧ eD τ1 g (vF9 Ls) ∧ qz_N g (bw g) ≤ qz_N g (dc g) ∧ sf τ h τ1 g 1024
theorem rd_sound9 (hI : mI9 τ h Ls b) (hw : uz_wf (vF9 Ls)) (hdb : qz_N h (bw h) ≤ qz_N h (dc h)) (hlc : lc h ≤ 500) (hr1 : h.1 + 1000 ≤ 600192) (hr2 : h.2.1 + 150000 ≤ 7302232) (k1 : uz_S (vF9 Ls) (vE9 Ls) → ∀ g τ1, sR9 τ h τ1 g Ls b → pQ g (vF9 Ls) (vE9 Ls) → (∀ x, (vF9 Ls x).2 ≠ none → az (vF9 Ls) 501 x) → pcn (vF9 Ls) (vE9 Ls) (pkn g) → Q (.inl (some (ez_v (.inl 1))), g)) (k0 : ¬ uz_S (vF9 Ls) (vE9 Ls) → ∀ g τ1, sR9 τ h τ1 g Ls b → Q (.inl (some (ez_v (.inl 0))), g)) : ez_W (d + 3) cm_301 0 [(0, .inr (.inr (some (770))))] [] h Q := by
  have hB := hI.1
  have t770 : τ 770 = 75 := hI.2.1 770 (by decide)
  have t794 : τ 794 = 82 := hI.2.1 794 (by decide)
  refine ez_go (n := 1) (pc' := 1) (L' := [(0, .inr (.inr (some (770))))]) (st' := [.inr (.inr (some (770)))]) rfl ?_
  refine ez_cv hB t770 rfl rfl rfl tq_75 rfl rfl rfl (rd_collect9 hI hdb hlc (by omega) (by omega) (fun g1 τ1 hE1 G1 c1 cn1 cb1 => ez_K0 ?_))
  have u770 : τ1 770 = 75 := (G1.1 770 (by rw [t770]; decide)).1.trans t770
  have u794 : τ1 794 = 82 := (G1.1 794 (by rw [t794]; decide)).1.trans t794
  have I1 := G1.mI9 hI hE1
  have e1 := eD_of9 I1 c1 (by omega) cb1 G1.2.2.2.1.2
  have S1 := G1.sfx hB t770
  have rr1 := G1.2.2.2.2
  have lb1 : qz_N g1 (bw g1) ≤ 4096 := (ez_len hE1 (ez_tdb hE1 u770).2 tq_20 rfl).2
  have lb0 := qz_N_nn h (bw h)
  refine ez_go (n := 2) (pc' := 6) (L' := [(1, .inl (0)), (0, .inr (.inr (some (770))))]) (st' := []) rfl ?_
  refine ez_less [(1, .inl (0)), (0, .inr (.inr (some (770))))] rfl ⟨rfl, rfl, trivial⟩ ?_
  refine rd_so_1 (d := d + 2) e1 (fun hn => k0 (fun w => hn w.1) g1 τ1 ⟨I1, e1, G1.2.2.2.1.2, S1.mono (by decide)⟩) (fun h1 => ?_) _ 0 rfl (by omega) (by have := e1.2.2.1.1; omega) (fun i hi => by omega)
  refine ez_go (n := 1) (pc' := 64) (L' := [(0, .inr (.inr (some (770))))]) (st' := [.inr (.inr (some (770)))]) rfl ?_
  refine ez_cv hE1 u770 rfl rfl rfl tq_75 rfl rfl rfl (rd_ends e1 (by omega) (by omega) (fun i hi => (h1 i hi).1) (fun ha g2 τ2 hE2 x2 t2 => ez_K1 ?_) (fun hn g2 τ2 hE2 x2 t2 => ez_K1 ?_))
  · skip
    have S2 := S1.trans (xt_sf x2 t2 (Or.inr rfl) hE1 u770)
    have v770 : τ2 770 = 75 := (x2.1 770 (by rw [u770]; decide)).1.trans u770
    have v794 : τ2 794 = 82 := (x2.1 794 (by rw [u794]; decide)).1.trans u794
    have I2 := S2.mIx9 hI hE2
    have e2 : eD τ2 g2 (vF9 Ls) := e1.tr hE2 (fun q hq => (x2.1 q hq).1) (fun q q0 w => by have := t2 q q0 (by rw [w]; decide); omega) (fun j _ => x2.I (by rw [u770]; decide) j) (fun q hq => (x2.1 q (by omega)).2)
    have td1 := ez_tdb hE1 u770
    have f2 : ∀ j, qz_I g2 770 j = qz_I g1 770 j := fun j => x2.I (by rw [u770]; decide) j
    have ed2 : dc g2 = dc g1 := by unfold dc qz_P; rw [f2]
    have eb2 : bw g2 = bw g1 := by unfold bw qz_P; rw [f2]
    have nb2 : qz_N g2 (bw g2) ≤ qz_N g2 (dc g2) := by rw [ed2, eb2, x2.N (by rw [td1.2]; decide), x2.N (by rw [td1.1]; decide)]; exact G1.2.2.2.1.2
    have cx2 := x2.2
    refine ez_if rfl rfl ⟨by decide, by decide⟩ (fun _ => ?_) (fun (c1 : ¬((1 : Int) ≠ (0))) => absurd c1 (by decide))
    refine ez_go (n := 2) (pc' := 74) (L' := [(0, .inr (.inr (some (770))))]) (st' := [.inl (0), .inr (.inr (some (770)))]) rfl ?_
    refine ez_pf hE2 v770 rfl rfl tq_75 rfl rfl rfl rfl (ez_vdI rfl rfl (by omega) (by omega)) (fun hB2 w3 => ?_)
    have vP : qz_I (dz_put g2 770 28 (ez_v (.inl (0)))) 770 28 = 0 := w3.trans (rz_rd ⟨by omega, by omega⟩)
    have iP : ∀ j, j ≠ 28 → qz_I (dz_put g2 770 28 (ez_v (.inl (0)))) 770 j = qz_I g2 770 j := fun j hj => ez_put_I (fun w => hj w.2)
    have fP : ez_fr (ez_one 770) g2 (dz_put g2 770 28 (ez_v (.inl (0)))) := (ez_fr.refl (ez_one 770) g2).put rfl _ _
    have hP := hB2
    generalize (dz_put g2 770 28 (ez_v (.inl (0)))) = g3 at *
    have cP1 := fP.1; have cP2 := fP.2.1
    have c23 := iP 23 (by decide)
    have c500 := e2.2.2.1.1
    have cne : cn g2 = qz_I g2 770 23 := rfl
    refine ez_go (n := 2) (pc' := 79) (L' := [(0, .inr (.inr (some (770))))]) (st' := [.inr (.inr (some (770))), .inr (.inr (some (770)))]) rfl ?_
    refine ez_gI hP v770 rfl rfl tq_75 rfl rfl (fun (b4 : 0 ≤ qz_I g3 770 23) (b4' : qz_I g3 770 23 ≤ 512) => ?_)
    refine ez_nA' (t := 22) hP rfl rfl rfl tq_22 rfl rfl (by omega) (by show (0 : Int) ≤ _; omega) (by show _ ≤ (512 : Int); omega) (by omega) (by omega) (by omega) (fun g5 τ5 p5 hB5 x5 o5 t5 z5 e5 N5 y5 => ?_)
    have c5 := x5.2
    have v770n5 := (x5.1 _ (by rw [v770]; decide)).1.trans v770
    refine ez_pf hB5 v770n5 rfl rfl tq_75 rfl rfl rfl rfl (ez_vdR rfl t5 (by omega) (by omega)) (fun hB6 w7 => ?_)
    refine ez_go (n := 2) (pc' := 89) (L' := [(1, .inl (0)), (0, .inr (.inr (some (770))))]) (st' := []) rfl ?_
    refine ez_less [(1, .inl (0)), (0, .inr (.inr (some (770))))] rfl ⟨rfl, rfl, trivial⟩ ?_
    have vQ : qz_I (dz_put g5 770 27 (ez_v (.inr (.inr (some (p5)))))) 770 27 = (p5 : Int) + 1 := w7
    have iQ : ∀ j, j ≠ 27 → qz_I (dz_put g5 770 27 (ez_v (.inr (.inr (some (p5)))))) 770 j = qz_I g5 770 j := fun j hj => ez_put_I (fun w => hj w.2)
    have fQ : ez_fr (ez_one 770) g5 (dz_put g5 770 27 (ez_v (.inr (.inr (some (p5)))))) := (ez_fr.refl (ez_one 770) g5).put rfl _ _
    have hQ := hB6
    generalize (dz_put g5 770 27 (ez_v (.inr (.inr (some (p5)))))) = g5 at *
    have cQ1 := fQ.1; have cQ2 := fQ.2.1
    have v7n : τ5 770 = 75 := (x5.1 770 (by rw [v770]; decide)).1.trans v770
    have v9n : τ5 794 = 82 := (x5.1 794 (by rw [v794]; decide)).1.trans v794
    have I7 : ∀ j, j ≠ 27 → j ≠ 28 → qz_I g5 770 j = qz_I g2 770 j := fun j j1 j2 => by rw [iQ j j1, x5.I (by rw [v770]; decide), iP j j2]
    have C5 : ∀ q, τ2 q ≠ 0 → τ5 q = τ2 q ∧ (q ≠ 770 → g5.2.2 q = g2.2.2 q) := fun q hq => ⟨(x5.1 q hq).1, fun q1 => by rw [fQ.2.2 q (dz_beq_ne q1), (x5.1 q hq).2, fP.2.2 q (dz_beq_ne q1)]⟩
    have t7n : p5 ≠ 770 := fun w => by rw [w, v770] at z5; cases z5
    have epq : pq g5 = p5 := by unfold pq qz_P; rw [vQ]; omega
    have npq : qz_N g5 p5 = cn g2 := by rw [fQ.N (dz_beq_ne t7n), N5, c23]; rfl
    have pk5 : pkn g5 = 0 := by show qz_I g5 770 28 = 0; rw [iQ 28 (by decide), x5.I (by rw [v770]; decide)]; exact vP
    have e5 : eD τ5 g5 (vF9 Ls) := e2.tr hQ (fun q hq => (C5 q hq).1) (fun q q0 w => by by_cases w2 : q = p5; (· rw [w2, t5] at w; cases w); (· rw [o5 q w2, q0] at w; cases w)) (fun j hj => I7 j (by omega) (by omega)) (fun q hq => (C5 q (by omega)).2 (fun w => by rw [w, v770] at hq; omega))
    have td2 := ez_tdb hE2 v770
    have ts2 := ez_tsk hE2 v770
    have ed5 : dc g5 = dc g2 := by unfold dc qz_P; rw [I7 21 (by decide) (by decide)]
    have eb5 : bw g5 = bw g2 := by unfold bw qz_P; rw [I7 22 (by decide) (by decide)]
    have es5 : sk g5 = sk g2 := by unfold sk qz_P; rw [I7 24 (by decide) (by decide)]
    have cd5 : g5.2.2 (dc g2) = g2.2.2 (dc g2) := (C5 _ (by rw [td2.1]; decide)).2 (fun w => by have t := td2.1; rw [w, v770] at t; cases t)
    have cb5 : g5.2.2 (bw g2) = g2.2.2 (bw g2) := (C5 _ (by rw [td2.2]; decide)).2 (fun w => by have t := td2.2; rw [w, v770] at t; cases t)
    have cs5 : g5.2.2 (sk g2) = g2.2.2 (sk g2) := (C5 _ (by rw [ts2]; decide)).2 (fun w => by have t := ts2; rw [w, v770] at t; cases t)
    have Nd5 : qz_N g5 (dc g2) = qz_N g2 (dc g2) := by unfold qz_N; rw [cd5]
    have Nb5 : qz_N g5 (bw g2) = qz_N g2 (bw g2) := by unfold qz_N; rw [cb5]
    have Ns5 : qz_N g5 (sk g2) = qz_N g2 (sk g2) := by unfold qz_N; rw [cs5]
    have nb5 : qz_N g5 (bw g5) ≤ qz_N g5 (dc g5) := by rw [ed5, eb5, Nd5, Nb5]; exact nb2
    have ecn : cn g5 = cn g2 := I7 23 (by decide) (by decide)
    have idc : ∀ j, qz_I g5 (dc g5) j = qz_I g2 (dc g2) j := fun j => by rw [ed5]; unfold qz_I; rw [cd5]
    have idc1 : ∀ j, qz_I g2 (dc g2) j = qz_I g1 (dc g1) j := fun j => by rw [ed2]; exact x2.I (by rw [td1.1]; decide) j
    have ecn1 : cn g2 = cn g1 := f2 23
    have cxn := x5.2
    have T3 : sf τ2 g2 τ5 g5 512 := by
      refine ⟨fun q hq => ⟨(C5 q hq).1, fun q1 _ _ => (C5 q hq).2 q1⟩, fun q q0 q1 => ?_, fun j hj => I7 j (by omega) (by omega), by rw [eb5, es5, Nb5, Ns5, show skn g5 = skn g2 from I7 25 (by decide) (by decide)]; omega, by rw [eb5, es5, Nb5, Ns5]; omega, by omega⟩
      by_cases w2 : q = p5
      · rw [w2, t5]; omega
      · rw [o5 q w2] at q1; exact absurd q0 q1
    have S5 := S2.trans T3
    have I5 := S5.mIx9 hI hQ
    have FIN : ∀ g6 τ6, ez_B τ6 g6 → fp τ5 g5 τ6 g6 → sR9 τ h τ6 g6 Ls b := fun g6 τ6 a1 a2 => by
      have S6 := S5.trans (a2.sfx hQ v7n v9n)
      exact ⟨S6.mIx9 hI a1, a2.eDx e5 v9n a1, a2.nbx hQ v7n v9n nb5, S6.mono (by decide)⟩
    have HZ : ∀ x, (vF9 Ls x).2 ≠ none → az (vF9 Ls) 501 x := fun x hx => by
      obtain ⟨i, i1, i2⟩ := e5.2.2.2.2.2.1 x hx
      rw [ecn, ecn1] at i1
      rw [idc, idc1] at i2
      rw [← i2]; exact az_m (ha i i1) (by omega)
    refine rd_so_39 I5 e5 v9n hw ?_ (by omega) (by omega) ?_ (fun hS g6 τ6 a1 a2 a3 a4 => k1 hS g6 τ6 (FIN g6 τ6 a1 a2) a3 HZ a4) (fun hn g6 τ6 a1 a2 => k0 hn g6 τ6 (FIN g6 τ6 a1 a2)) _ 0 g5 τ5 rfl (by omega) (by omega) hQ (fp.refl _ _) ⟨⟨by omega, fun j hj => by omega⟩, fun i hi => by omega, fun i j hi => by omega, fun i hi => by omega, fun i j ij jn => by omega⟩ (by rw [epq, npq, ecn])
    · rw [ecn, ecn1]; exact fun i hi => by rw [idc, idc1]; exact ha i hi
    · rw [ecn, ecn1]; exact fun i hi => by rw [idc, idc1]; exact h1 i hi
  · skip
    have S2 := S1.trans (xt_sf x2 t2 (Or.inr rfl) hE1 u770)
    have v770 : τ2 770 = 75 := (x2.1 770 (by rw [u770]; decide)).1.trans u770
    have v794 : τ2 794 = 82 := (x2.1 794 (by rw [u794]; decide)).1.trans u794
    have I2 := S2.mIx9 hI hE2
    have e2 : eD τ2 g2 (vF9 Ls) := e1.tr hE2 (fun q hq => (x2.1 q hq).1) (fun q q0 w => by have := t2 q q0 (by rw [w]; decide); omega) (fun j _ => x2.I (by rw [u770]; decide) j) (fun q hq => (x2.1 q (by omega)).2)
    have td1 := ez_tdb hE1 u770
    have f2 : ∀ j, qz_I g2 770 j = qz_I g1 770 j := fun j => x2.I (by rw [u770]; decide) j
    have ed2 : dc g2 = dc g1 := by unfold dc qz_P; rw [f2]
    have eb2 : bw g2 = bw g1 := by unfold bw qz_P; rw [f2]
    have nb2 : qz_N g2 (bw g2) ≤ qz_N g2 (dc g2) := by rw [ed2, eb2, x2.N (by rw [td1.2]; decide), x2.N (by rw [td1.1]; decide)]; exact G1.2.2.2.1.2
    have cx2 := x2.2
    refine ez_if rfl rfl ⟨by decide, by decide⟩ (fun (c8 : (0 : Int) ≠ (0)) => absurd c8 (by decide)) (fun _ => ?_)
    refine ez_go (n := 1) (pc' := 71) (L' := [(0, .inr (.inr (some (770))))]) (st' := [.inl (0)]) rfl ?_
    exact ez_retZ rfl rfl (Or.inl rfl) (k0 (fun w => hn w.2.1) g2 τ2 ⟨I2, e2, nb2, S2.mono (by decide)⟩)
end EzSq
theorem f7.pQx {τ : Nat → Nat} {h g : cz_H} {F : rz_W} {E : Int → Prop} (a : f7 h g) (p : pQ h F E) (hB : ez_B τ h) (t770 : τ 770 = 75) : pQ g F E := by
  obtain ⟨⟨p1, p2, p3, p4⟩, ⟨n1, n2, n3, n4⟩, ⟨c1, c2⟩, q1, q2⟩ := a.ptr hB t770
  refine ⟨by rw [c2, p4, n4]; exact p.1, fun i hi => ?_, fun x b c w => ?_⟩
  · rw [c2] at hi
    rw [p4, q2, c1, p2, q1]
    exact p.2.1 i hi
  · obtain ⟨i, i1, i2⟩ := p.2.2 x b c w
    exact ⟨i, by rw [c2]; exact i1, by rw [p4, q2, p2, q1]; exact i2⟩
theorem f7.mIx9 {τ : Nat → Nat} {h g : cz_H} {Ls : List vz9} {b : Int} (a : f7 h g) (hI : mI9 τ h Ls b) (hB : ez_B τ g) : mI9 τ g Ls b := hI.f7 hB (fun q _ h7 => a.1.2.2 q (dz_beq_ne h7)) (fun j j1 j2 => a.2 j (by omega) (by omega))
section EzSe
variable {d : Nat} {h : cz_H} {τ : Nat → Nat} {Q : cz_F → Prop} {Ls : List vz9}
theorem rd_mseal9 (hI : mI9 τ h Ls 0) (hw : uz_wf (vF9 Ls)) (hdb : qz_N h (bw h) ≤ qz_N h (dc h)) (hlc : lc h ≤ 500) (hr1 : h.1 + 1000 ≤ 600192) (hr2 : h.2.1 + 150000 ≤ 7302232) (kS : qz_I h 770 7 ≠ 0 → ∀ g, mI9 τ g Ls 0 → ez_fr (ez_one 770) h g → (∀ j, j ≠ 0 → qz_I g 770 j = qz_I h 770 j) → qz_I g 770 0 = 1 → Q (.inl (some (ez_v (.inl 0))), g)) (k1 : qz_I h 770 7 = 0 → uz_S (vF9 Ls) (vE9 Ls) → ∀ g τ1 v, mI9 τ1 g Ls 0 → eD τ1 g (vF9 Ls) → qz_N g (bw g) ≤ qz_N g (dc g) → sW τ h τ1 g → pQ g (vF9 Ls) (vE9 Ls) → (∀ x, (vF9 Ls x).2 ≠ none → az (vF9 Ls) 501 x) → qz_I g 770 7 = 1 → qz_I g 770 0 = 0 → pcn (vF9 Ls) (vE9 Ls) v → Q (.inl (some (ez_v (.inl v))), g)) (k0 : qz_I h 770 7 = 0 → ¬ uz_S (vF9 Ls) (vE9 Ls) → ∀ g τ1, mI9 τ1 g Ls 0 → eD τ1 g (vF9 Ls) → qz_N g (bw g) ≤ qz_N g (dc g) → sW τ h τ1 g → qz_I g 770 7 = 0 → qz_I g 770 0 = 2 → Q (.inl (some (ez_v (.inl 0))), g)) : ez_W (d + 4) cm_298 0 [(0, .inr (.inr (some (770))))] [] h Q := by
  have hB := hI.1
  have t770 : τ 770 = 75 := hI.2.1 770 (by decide)
  refine ez_go (n := 2) (pc' := 2) (L' := [(0, .inr (.inr (some (770))))]) (st' := [.inl (0), .inr (.inr (some (770)))]) rfl ?_
  refine ez_pf hB t770 rfl rfl tq_75 rfl rfl rfl rfl (ez_vdI rfl rfl (by omega) (by omega)) (fun hB1 w2 => ?_)
  have fP : ez_fr (ez_one 770) h (dz_put h 770 0 (ez_v (.inl (0)))) := (ez_fr.refl (ez_one 770) h).put rfl _ _
  have vP : qz_I (dz_put h 770 0 (ez_v (.inl (0)))) 770 0 = 0 := w2.trans (rz_rd ⟨by omega, by omega⟩)
  have iP : ∀ j, j ≠ 0 → qz_I (dz_put h 770 0 (ez_v (.inl (0)))) 770 j = qz_I h 770 j := fun j hj => ez_put_I (fun w => hj w.2)
  have hP := hB1
  generalize (dz_put h 770 0 (ez_v (.inl (0)))) = h1 at *
  have cP1 := fP.1; have cP2 := fP.2.1
  refine ez_go (n := 1) (pc' := 6) (L' := [(0, .inr (.inr (some (770))))]) (st' := [.inr (.inr (some (770)))]) rfl ?_
  refine ez_gI hP t770 rfl rfl tq_75 rfl rfl (fun (b3 : 0 ≤ qz_I h1 770 7) (b3' : qz_I h1 770 7 ≤ 1) => ?_)
  refine ez_if rfl rfl ⟨by first | omega | exact (sz_i32 _).1, by first | omega | exact (sz_i32 _).2⟩ (fun (c4 : (qz_I h1 770 7) = (0)) => ?_) (fun (c4 : ¬((qz_I h1 770 7) = (0))) => ?_)
  · skip
    refine ez_go (n := 1) (pc' := 19) (L' := [(0, .inr (.inr (some (770))))]) (st' := [.inr (.inr (some (770)))]) rfl ?_
    have hs : qz_I h 770 7 = 0 := by rw [← iP 7 (by decide)]; assumption
    have a1 : f7 h h1 := ⟨fP, fun j j0 _ => iP j j0⟩
    have I1 := a1.mIx9 hI hP
    have ptr := a1.ptr hI.1 t770
    refine ez_cv hP t770 rfl rfl rfl tq_75 rfl rfl rfl (rd_sound9 I1 hw (a1.nbx hdb hI.1 t770) (by rw [show lc h1 = lc h from iP 12 (by decide)]; exact hlc) (by omega) (by omega) (fun hS g1 τ1 hR hpp hZ9 hpc => ez_K1 ?_) (fun hS g1 τ1 hR => ez_K1 ?_))
    · skip
      obtain ⟨J1, e1, n1, s1⟩ := hR
      have u770 : τ1 770 = 75 := e1.2.1
      have hB1 := J1.1
      have s7 : qz_I g1 770 7 = 0 := by rw [s1.2.2.1 7 (by decide), iP 7 (by decide)]; exact hs
      have s0 : qz_I g1 770 0 = 0 := by rw [s1.2.2.1 0 (by decide)]; exact vP
      refine ez_if rfl rfl ⟨by decide, by decide⟩ (fun _ => ?_) (fun (c5 : ¬((1 : Int) ≠ (0))) => absurd c5 (by decide))
      refine ez_go (n := 2) (pc' := 33) (L' := [(0, .inr (.inr (some (770))))]) (st' := [.inl (1), .inr (.inr (some (770)))]) rfl ?_
      refine ez_pf hB1 u770 rfl rfl tq_75 rfl rfl rfl rfl (ez_vdI rfl rfl (by omega) (by omega)) (fun hB6 w7 => ?_)
      have vT : qz_I (dz_put g1 770 7 (ez_v (.inl (1)))) 770 7 = 1 := w7.trans (rz_rd ⟨by omega, by omega⟩)
      have c1 : f7 g1 (dz_put g1 770 7 (ez_v (.inl (1)))) := ⟨(ez_fr.refl (ez_one 770) g1).put rfl _ _, fun j _ hj => ez_put_I (fun w => hj w.2)⟩
      have z0 : qz_I (dz_put g1 770 7 (ez_v (.inl (1)))) 770 0 = qz_I g1 770 0 := ez_put_I (fun w => absurd w.2 (by decide))
      have hR2 := hB6
      generalize (dz_put g1 770 7 (ez_v (.inl (1)))) = g2 at *
      refine ez_go (n := 1) (pc' := 37) (L' := [(0, .inr (.inr (some (770))))]) (st' := [.inr (.inr (some (770)))]) rfl ?_
      refine ez_gI hR2 u770 rfl rfl tq_75 rfl rfl (fun (b8 : 0 ≤ qz_I g2 770 28) (b8' : qz_I g2 770 28 ≤ 512) => ?_)
      exact ez_retI rfl rfl (k1 hs hS g2 τ1 _ (c1.mIx9 J1 hR2) (c1.eDx e1 hR2) (c1.nbx n1 hB1 u770) (sW_of a1 s1 c1 hI.1 t770 hB1) (c1.pQx hpp hB1 u770) hZ9 vT (z0.trans s0) (by rw [show qz_I g2 770 28 = pkn g1 from c1.2 28 (by decide) (by decide)]; exact hpc))
    · skip
      obtain ⟨J1, e1, n1, s1⟩ := hR
      have u770 : τ1 770 = 75 := e1.2.1
      have hB1 := J1.1
      have s7 : qz_I g1 770 7 = 0 := by rw [s1.2.2.1 7 (by decide), iP 7 (by decide)]; exact hs
      have s0 : qz_I g1 770 0 = 0 := by rw [s1.2.2.1 0 (by decide)]; exact vP
      refine ez_if rfl rfl ⟨by decide, by decide⟩ (fun (c9 : (0 : Int) ≠ (0)) => absurd c9 (by decide)) (fun _ => ?_)
      refine ez_go (n := 2) (pc' := 27) (L' := [(0, .inr (.inr (some (770))))]) (st' := [.inl (2), .inr (.inr (some (770)))]) rfl ?_
      refine ez_cv hB1 u770 rfl rfl rfl tq_75 rfl rfl rfl (rd_mfail hB1 u770 (by omega) (by omega) (fun gf hBf ff9 jf vf0 => ez_K1 ?_))
      have c1 : f7 g1 gf := ⟨ff9, fun j j0 _ => jf j j0⟩
      exact ez_retI rfl rfl (k0 hs hS gf τ1 (c1.mIx9 J1 hBf) (c1.eDx e1 hBf) (c1.nbx n1 hB1 u770) (sW_of a1 s1 c1 hI.1 t770 hB1) (by rw [jf 7 (by decide)]; exact s7) vf0)
  · skip
    refine ez_go (n := 2) (pc' := 14) (L' := [(0, .inr (.inr (some (770))))]) (st' := [.inl (1), .inr (.inr (some (770)))]) rfl ?_
    refine ez_cv hP t770 rfl rfl rfl tq_75 rfl rfl rfl (rd_mfail hP t770 (by omega) (by omega) (fun gf hBf ff9 jf vf0 => ez_K1 ?_))
    exact ez_retI rfl rfl (kS (by rw [← iP 7 (by decide)]; assumption) gf (hI.f7 hBf (fun q _ hq => by rw [ff9.2.2 q (dz_beq_ne hq), fP.2.2 q (dz_beq_ne hq)]) (fun j j1 j2 => by rw [jf j (by omega), iP j (by omega)])) (fP.trans ff9) (fun j hj => by rw [jf j hj, iP j hj]) vf0)
theorem rd_mreset9 (hI : mI9 τ h Ls 0) (kx : ∀ v g, ((qz_I h 770 7 = 0 ∧ v = 0) ∨ (qz_I h 770 7 ≠ 0 ∧ v = 1)) → ez_B τ g → mI9 τ g [] 0 → (∀ q, τ q ≠ 0 → q ≠ 770 → q ≠ 782 → g.2.2 q = h.2.2 q) → (∀ j, j ≠ 0 → j ≠ 7 → j ≠ 8 → j ≠ 10 → j ≠ 12 → qz_I g 770 j = qz_I h 770 j) → qz_I g 770 7 = 0 → g.1 = h.1 → g.2.1 = h.2.1 → Q (.inl (some (ez_v (.inl v))), g)) : ez_W d cm_296 0 [(0, .inr (.inr (some (770))))] [] h Q := by
  have hB := hI.1
  have t770 : τ 770 = 75 := hI.2.1 770 (by decide)
  refine ez_go (n := 2) (pc' := 2) (L' := [(0, .inr (.inr (some (770))))]) (st' := [.inl (0), .inr (.inr (some (770)))]) rfl ?_
  refine ez_pf hB t770 rfl rfl tq_75 rfl rfl rfl rfl (ez_vdI rfl rfl (by omega) (by omega)) (fun hB1 w2 => ?_)
  have fP : ez_fr (ez_one 770) h (dz_put h 770 0 (ez_v (.inl (0)))) := (ez_fr.refl (ez_one 770) h).put rfl _ _
  have vP : qz_I (dz_put h 770 0 (ez_v (.inl (0)))) 770 0 = 0 := w2.trans (rz_rd ⟨by omega, by omega⟩)
  have iP : ∀ j, j ≠ 0 → qz_I (dz_put h 770 0 (ez_v (.inl (0)))) 770 j = qz_I h 770 j := fun j hj => ez_put_I (fun w => hj w.2)
  have hP := hB1
  generalize (dz_put h 770 0 (ez_v (.inl (0)))) = h1 at *
  have cP1 := fP.1; have cP2 := fP.2.1
  refine ez_go (n := 1) (pc' := 6) (L' := [(0, .inr (.inr (some (770))))]) (st' := [.inr (.inr (some (770)))]) rfl ?_
  refine ez_gI hP t770 rfl rfl tq_75 rfl rfl (fun (b3 : 0 ≤ qz_I h1 770 7) (b3' : qz_I h1 770 7 ≤ 1) => ?_)
  refine ez_if rfl rfl ⟨by first | omega | exact (sz_i32 _).1, by first | omega | exact (sz_i32 _).2⟩ (fun (c4 : (qz_I h1 770 7) = (0)) => ?_) (fun (c4 : ¬((qz_I h1 770 7) = (0))) => ?_)
  · skip
    refine ez_go (n := 4) (pc' := 20) (L' := [(1, .inl (0)), (0, .inr (.inr (some (770))))]) (st' := [.inl (0), .inr (.inr (some (770)))]) rfl ?_
    refine ez_pf hP t770 rfl rfl tq_75 rfl rfl rfl rfl (ez_vdI rfl rfl (by omega) (by omega)) (fun hB5 w6 => ?_)
    have fA : ez_fr (ez_one 770) h1 (dz_put h1 770 7 (ez_v (.inl (0)))) := (ez_fr.refl (ez_one 770) h1).put rfl _ _
    have vA : qz_I (dz_put h1 770 7 (ez_v (.inl (0)))) 770 7 = 0 := w6.trans (rz_rd ⟨by omega, by omega⟩)
    have iA : ∀ j, j ≠ 7 → qz_I (dz_put h1 770 7 (ez_v (.inl (0)))) 770 j = qz_I h1 770 j := fun j hj => ez_put_I (fun w => hj w.2)
    have hA := hB5
    generalize (dz_put h1 770 7 (ez_v (.inl (0)))) = r2 at *
    have cA1 := fA.1; have cA2 := fA.2.1
    refine ez_go (n := 2) (pc' := 25) (L' := [(1, .inl (0)), (0, .inr (.inr (some (770))))]) (st' := [.inl (0), .inr (.inr (some (770)))]) rfl ?_
    refine ez_pf hA t770 rfl rfl tq_75 rfl rfl rfl rfl (ez_vdI rfl rfl (by omega) (by omega)) (fun hB7 w8 => ?_)
    have fB : ez_fr (ez_one 770) r2 (dz_put r2 770 12 (ez_v (.inl (0)))) := (ez_fr.refl (ez_one 770) r2).put rfl _ _
    have vB : qz_I (dz_put r2 770 12 (ez_v (.inl (0)))) 770 12 = 0 := w8.trans (rz_rd ⟨by omega, by omega⟩)
    have iB : ∀ j, j ≠ 12 → qz_I (dz_put r2 770 12 (ez_v (.inl (0)))) 770 j = qz_I r2 770 j := fun j hj => ez_put_I (fun w => hj w.2)
    have hB := hB7
    generalize (dz_put r2 770 12 (ez_v (.inl (0)))) = r3 at *
    have cB1 := fB.1; have cB2 := fB.2.1
    refine ez_go (n := 2) (pc' := 30) (L' := [(1, .inl (0)), (0, .inr (.inr (some (770))))]) (st' := [.inl (0), .inr (.inr (some (770)))]) rfl ?_
    refine ez_pf hB t770 rfl rfl tq_75 rfl rfl rfl rfl (ez_vdI rfl rfl (by omega) (by omega)) (fun hB9 w10 => ?_)
    have fC : ez_fr (ez_one 770) r3 (dz_put r3 770 10 (ez_v (.inl (0)))) := (ez_fr.refl (ez_one 770) r3).put rfl _ _
    have vC : qz_I (dz_put r3 770 10 (ez_v (.inl (0)))) 770 10 = 0 := w10.trans (rz_rd ⟨by omega, by omega⟩)
    have iC : ∀ j, j ≠ 10 → qz_I (dz_put r3 770 10 (ez_v (.inl (0)))) 770 j = qz_I r3 770 j := fun j hj => ez_put_I (fun w => hj w.2)
    have hC := hB9
    generalize (dz_put r3 770 10 (ez_v (.inl (0)))) = r4 at *
    have cC1 := fC.1; have cC2 := fC.2.1
    refine ez_go (n := 2) (pc' := 35) (L' := [(1, .inl (0)), (0, .inr (.inr (some (770))))]) (st' := [.inl (0), .inr (.inr (some (770)))]) rfl ?_
    refine ez_pf hC t770 rfl rfl tq_75 rfl rfl rfl rfl (ez_vdI rfl rfl (by omega) (by omega)) (fun hB11 w12 => ?_)
    have fD : ez_fr (ez_one 770) r4 (dz_put r4 770 8 (ez_v (.inl (0)))) := (ez_fr.refl (ez_one 770) r4).put rfl _ _
    have vD9 : qz_I (dz_put r4 770 8 (ez_v (.inl (0)))) 770 8 = 0 := w12.trans (rz_rd ⟨by omega, by omega⟩)
    have iD : ∀ j, j ≠ 8 → qz_I (dz_put r4 770 8 (ez_v (.inl (0)))) 770 j = qz_I r4 770 j := fun j hj => ez_put_I (fun w => hj w.2)
    have hD := hB11
    generalize (dz_put r4 770 8 (ez_v (.inl (0)))) = r5 at *
    have cD1 := fD.1; have cD2 := fD.2.1
    refine ez_go (n := 2) (pc' := 40) (L' := [(2, .inl (0)), (1, .inl (0)), (0, .inr (.inr (some (770))))]) (st' := []) rfl ?_
    refine ez_less [(2, .inl (0)), (1, .inl (0)), (0, .inr (.inr (some (770))))] rfl ⟨rfl, rfl, rfl, trivial⟩ ?_
    have t782 : τ 782 = 79 := hI.2.1 782 (by decide)
    have fZ : ez_fr (ez_one 770) h r5 := ((((fP.trans fA).trans fB).trans fC).trans fD)
    have iZ : ∀ j, j ≠ 0 → j ≠ 7 → j ≠ 8 → j ≠ 10 → j ≠ 12 → qz_I r5 770 j = qz_I h 770 j := fun j j0 j7 j8 j10 j12 => by rw [iD j j8, iC j j10, iB j j12, iA j j7, iP j j0]
    have z7 : qz_I r5 770 7 = 0 := by rw [iD 7 (by decide), iC 7 (by decide), iB 7 (by decide)]; exact vA
    have z12 : qz_I r5 770 12 = 0 := by rw [iD 12 (by decide), iC 12 (by decide)]; exact vB
    have z10 : qz_I r5 770 10 = 0 := by rw [iD 10 (by decide)]; exact vC
    refine rd_mreset_l t770 (fun g hBg fg => ?_) _ 0 r5 rfl (by omega) (by omega) hD (ez_fr.refl _ _)
    have i7 : ∀ j, qz_I g 770 j = qz_I r5 770 j := fun j => fg.I rfl j
    have cell : ∀ q, q ≠ 770 → q ≠ 782 → g.2.2 q = h.2.2 q := fun q q1 q2 => by rw [fg.2.2 q (dz_beq_ne q2), fZ.2.2 q (dz_beq_ne q1)]
    have el : lc g = 0 := (i7 12).trans z12
    have en : pn g = 0 := (i7 10).trans z10
    have e9 : po g = po h := by unfold po qz_P; rw [i7 9, iZ 9 (by decide) (by decide) (by decide) (by decide) (by decide)]
    have e11 : ls g = ls h := by unfold ls qz_P; rw [i7 11, iZ 11 (by decide) (by decide) (by decide) (by decide) (by decide)]
    have tt := ez_tls hI.1 t770
    have ct : ∀ {q t : Nat}, τ q = t → t ≠ 75 → t ≠ 79 → g.2.2 q = h.2.2 q := fun {q t} hq h1 h2 => cell q (fun w => by rw [w, t770] at hq; exact h1 hq.symm) (fun w => by rw [w, t782] at hq; exact h2 hq.symm)
    have eN : qz_N g (po h) = qz_N h (po h) := by unfold qz_N; rw [ct tt.2 (by decide) (by decide)]
    have eM : qz_N g (ls h) = qz_N h (ls h) := by unfold qz_N; rw [ct tt.1 (by decide) (by decide)]
    have n1 := qz_N_nn h (po h)
    have n2 := qz_N_nn h (ls h)
    obtain ⟨i1, i2, i3, i4, m, ⟨y1, y2⟩, -⟩ := id hI
    have i7h := iP 7 (by decide)
    refine kx _ g (by omega) hBg ⟨hBg, i2, ⟨⟨by rw [el, e11, eM]; exact n2, by rw [en, e9, eN]; exact n1⟩, ?_, by rw [en, el]; decide⟩, ⟨fun i hi => by rw [el] at hi; omega, fun i j hi => by rw [el] at hi; omega⟩, ⟨fun r hr => ?_, fun r hr => ?_⟩, ⟨fun s w hs => ?_, ?_⟩, ?_, fun k x hx => by simp at hx⟩ (fun q _ q1 q2 => cell q q1 q2) (fun j j0 j7 j8 j10 j12 => (i7 j).trans (iZ j j0 j7 j8 j10 j12)) ((i7 7).trans z7) (fg.1.trans fZ.1) (fg.2.1.trans fZ.2.1)
    · rw [el, i7]; exact vD9
    · obtain ⟨m1, m2⟩ := m.1 r hr
      refine ⟨m1, fun j => ?_⟩
      have := m2 j
      rw [e9, eN]; unfold qz_I at this ⊢; rw [ct hr (by decide) (by decide), ct m1 (by decide) (by decide)]; exact this
    · obtain ⟨m1, m2, m3⟩ := m.2 r hr
      refine ⟨m1, m2, ?_⟩
      rw [e9, eN]; unfold qz_I at m3 ⊢; rw [ct hr (by decide) (by decide), ct m1 (by decide) (by decide), ct m2 (by decide) (by decide)]; exact m3
    · obtain ⟨u1, u2, u3⟩ := y1 s w hs
      obtain ⟨w1, w2⟩ := nz_hz i1 i2 s w hs
      have e1 := ct w1 (by decide) (by decide)
      have e2 := ct w2 (by decide) (by decide)
      have e3 : qz_P g s 0 = qz_P h s 0 := by unfold qz_P qz_I; rw [e1]
      refine ⟨?_, u2, by rw [e3]; exact u3⟩
      unfold nz_S at *
      rw [e3]
      unfold qz_N qz_I at *
      rw [e2]
      exact u1
    · have nn26 : ∀ p, 785 ≤ p → p ≤ 788 → g.2.2 p = h.2.2 p := fun p p1 p2 => by
        have tn : τ p = 26 := by
          have : p = 785 ∨ p = 786 ∨ p = 787 ∨ p = 788 := by omega
          rcases this with e | e | e | e <;> subst e
          · exact i2 785 (by decide)
          · exact i2 786 (by decide)
          · exact i2 787 (by decide)
          · exact i2 788 (by decide)
        exact ct tn (by decide) (by decide)
      refine ⟨fun p p1 p2 k hk => ?_, ?_, nmx_c y2.2.2 nn26⟩
      · have tn : τ p = 26 := by
          have : p = 785 ∨ p = 786 ∨ p = 787 ∨ p = 788 := by omega
          rcases this with e | e | e | e <;> subst e
          · exact i2 785 (by decide)
          · exact i2 786 (by decide)
          · exact i2 787 (by decide)
          · exact i2 788 (by decide)
        have e := ct tn (by decide) (by decide)
        have e1 : qz_P g p k = qz_P h p k := by unfold qz_P qz_I; rw [e]
        have e2 : qz_N g p = qz_N h p := by unfold qz_N; rw [e]
        rw [e1]; rw [e2] at hk; exact y2.1 p p1 p2 k hk
      · have e := ct (show τ 786 = 26 from i2 786 (by decide)) (by decide) (by decide)
        have e1 : qz_P g 786 0 = qz_P h 786 0 := by unfold qz_P qz_I; rw [e]
        rw [e1]; exact y2.2.1
    · rw [el]; rfl
  · skip
    refine ez_go (n := 5) (pc' := 20) (L' := [(1, .inl (1)), (0, .inr (.inr (some (770))))]) (st' := [.inl (0), .inr (.inr (some (770)))]) rfl ?_
    refine ez_pf hP t770 rfl rfl tq_75 rfl rfl rfl rfl (ez_vdI rfl rfl (by omega) (by omega)) (fun hB13 w14 => ?_)
    have fA : ez_fr (ez_one 770) h1 (dz_put h1 770 7 (ez_v (.inl (0)))) := (ez_fr.refl (ez_one 770) h1).put rfl _ _
    have vA : qz_I (dz_put h1 770 7 (ez_v (.inl (0)))) 770 7 = 0 := w14.trans (rz_rd ⟨by omega, by omega⟩)
    have iA : ∀ j, j ≠ 7 → qz_I (dz_put h1 770 7 (ez_v (.inl (0)))) 770 j = qz_I h1 770 j := fun j hj => ez_put_I (fun w => hj w.2)
    have hA := hB13
    generalize (dz_put h1 770 7 (ez_v (.inl (0)))) = r2 at *
    have cA1 := fA.1; have cA2 := fA.2.1
    refine ez_go (n := 2) (pc' := 25) (L' := [(1, .inl (1)), (0, .inr (.inr (some (770))))]) (st' := [.inl (0), .inr (.inr (some (770)))]) rfl ?_
    refine ez_pf hA t770 rfl rfl tq_75 rfl rfl rfl rfl (ez_vdI rfl rfl (by omega) (by omega)) (fun hB15 w16 => ?_)
    have fB : ez_fr (ez_one 770) r2 (dz_put r2 770 12 (ez_v (.inl (0)))) := (ez_fr.refl (ez_one 770) r2).put rfl _ _
    have vB : qz_I (dz_put r2 770 12 (ez_v (.inl (0)))) 770 12 = 0 := w16.trans (rz_rd ⟨by omega, by omega⟩)
    have iB : ∀ j, j ≠ 12 → qz_I (dz_put r2 770 12 (ez_v (.inl (0)))) 770 j = qz_I r2 770 j := fun j hj => ez_put_I (fun w => hj w.2)
    have hB := hB15
    generalize (dz_put r2 770 12 (ez_v (.inl (0)))) = r3 at *
    have cB1 := fB.1; have cB2 := fB.2.1
    refine ez_go (n := 2) (pc' := 30) (L' := [(1, .inl (1)), (0, .inr (.inr (some (770))))]) (st' := [.inl (0), .inr (.inr (some (770)))]) rfl ?_
    refine ez_pf hB t770 rfl rfl tq_75 rfl rfl rfl rfl (ez_vdI rfl rfl (by omega) (by omega)) (fun hB17 w18 => ?_)
    have fC : ez_fr (ez_one 770) r3 (dz_put r3 770 10 (ez_v (.inl (0)))) := (ez_fr.refl (ez_one 770) r3).put rfl _ _
    have vC : qz_I (dz_put r3 770 10 (ez_v (.inl (0)))) 770 10 = 0 := w18.trans (rz_rd ⟨by omega, by omega⟩)
    have iC : ∀ j, j ≠ 10 → qz_I (dz_put r3 770 10 (ez_v (.inl (0)))) 770 j = qz_I r3 770 j := fun j hj => ez_put_I (fun w => hj w.2)
    have hC := hB17
    generalize (dz_put r3 770 10 (ez_v (.inl (0)))) = r4 at *
    have cC1 := fC.1; have cC2 := fC.2.1
    refine ez_go (n := 2) (pc' := 35) (L' := [(1, .inl (1)), (0, .inr (.inr (some (770))))]) (st' := [.inl (0), .inr (.inr (some (770)))]) rfl ?_
    refine ez_pf hC t770 rfl rfl tq_75 rfl rfl rfl rfl (ez_vdI rfl rfl (by omega) (by omega)) (fun hB19 w20 => ?_)
    have fD : ez_fr (ez_one 770) r4 (dz_put r4 770 8 (ez_v (.inl (0)))) := (ez_fr.refl (ez_one 770) r4).put rfl _ _
    have vD9 : qz_I (dz_put r4 770 8 (ez_v (.inl (0)))) 770 8 = 0 := w20.trans (rz_rd ⟨by omega, by omega⟩)
    have iD : ∀ j, j ≠ 8 → qz_I (dz_put r4 770 8 (ez_v (.inl (0)))) 770 j = qz_I r4 770 j := fun j hj => ez_put_I (fun w => hj w.2)
    have hD := hB19
    generalize (dz_put r4 770 8 (ez_v (.inl (0)))) = r5 at *
    have cD1 := fD.1; have cD2 := fD.2.1
    refine ez_go (n := 2) (pc' := 40) (L' := [(2, .inl (0)), (1, .inl (1)), (0, .inr (.inr (some (770))))]) (st' := []) rfl ?_
    refine ez_less [(2, .inl (0)), (1, .inl (1)), (0, .inr (.inr (some (770))))] rfl ⟨rfl, rfl, rfl, trivial⟩ ?_
    have t782 : τ 782 = 79 := hI.2.1 782 (by decide)
    have fZ : ez_fr (ez_one 770) h r5 := ((((fP.trans fA).trans fB).trans fC).trans fD)
    have iZ : ∀ j, j ≠ 0 → j ≠ 7 → j ≠ 8 → j ≠ 10 → j ≠ 12 → qz_I r5 770 j = qz_I h 770 j := fun j j0 j7 j8 j10 j12 => by rw [iD j j8, iC j j10, iB j j12, iA j j7, iP j j0]
    have z7 : qz_I r5 770 7 = 0 := by rw [iD 7 (by decide), iC 7 (by decide), iB 7 (by decide)]; exact vA
    have z12 : qz_I r5 770 12 = 0 := by rw [iD 12 (by decide), iC 12 (by decide)]; exact vB
    have z10 : qz_I r5 770 10 = 0 := by rw [iD 10 (by decide)]; exact vC
    refine rd_mreset_l t770 (fun g hBg fg => ?_) _ 0 r5 rfl (by omega) (by omega) hD (ez_fr.refl _ _)
    have i7 : ∀ j, qz_I g 770 j = qz_I r5 770 j := fun j => fg.I rfl j
    have cell : ∀ q, q ≠ 770 → q ≠ 782 → g.2.2 q = h.2.2 q := fun q q1 q2 => by rw [fg.2.2 q (dz_beq_ne q2), fZ.2.2 q (dz_beq_ne q1)]
    have el : lc g = 0 := (i7 12).trans z12
    have en : pn g = 0 := (i7 10).trans z10
    have e9 : po g = po h := by unfold po qz_P; rw [i7 9, iZ 9 (by decide) (by decide) (by decide) (by decide) (by decide)]
    have e11 : ls g = ls h := by unfold ls qz_P; rw [i7 11, iZ 11 (by decide) (by decide) (by decide) (by decide) (by decide)]
    have tt := ez_tls hI.1 t770
    have ct : ∀ {q t : Nat}, τ q = t → t ≠ 75 → t ≠ 79 → g.2.2 q = h.2.2 q := fun {q t} hq h1 h2 => cell q (fun w => by rw [w, t770] at hq; exact h1 hq.symm) (fun w => by rw [w, t782] at hq; exact h2 hq.symm)
    have eN : qz_N g (po h) = qz_N h (po h) := by unfold qz_N; rw [ct tt.2 (by decide) (by decide)]
    have eM : qz_N g (ls h) = qz_N h (ls h) := by unfold qz_N; rw [ct tt.1 (by decide) (by decide)]
    have n1 := qz_N_nn h (po h)
    have n2 := qz_N_nn h (ls h)
    obtain ⟨i1, i2, i3, i4, m, ⟨y1, y2⟩, -⟩ := id hI
    have i7h := iP 7 (by decide)
    refine kx _ g (by omega) hBg ⟨hBg, i2, ⟨⟨by rw [el, e11, eM]; exact n2, by rw [en, e9, eN]; exact n1⟩, ?_, by rw [en, el]; decide⟩, ⟨fun i hi => by rw [el] at hi; omega, fun i j hi => by rw [el] at hi; omega⟩, ⟨fun r hr => ?_, fun r hr => ?_⟩, ⟨fun s w hs => ?_, ?_⟩, ?_, fun k x hx => by simp at hx⟩ (fun q _ q1 q2 => cell q q1 q2) (fun j j0 j7 j8 j10 j12 => (i7 j).trans (iZ j j0 j7 j8 j10 j12)) ((i7 7).trans z7) (fg.1.trans fZ.1) (fg.2.1.trans fZ.2.1)
    · rw [el, i7]; exact vD9
    · obtain ⟨m1, m2⟩ := m.1 r hr
      refine ⟨m1, fun j => ?_⟩
      have := m2 j
      rw [e9, eN]; unfold qz_I at this ⊢; rw [ct hr (by decide) (by decide), ct m1 (by decide) (by decide)]; exact this
    · obtain ⟨m1, m2, m3⟩ := m.2 r hr
      refine ⟨m1, m2, ?_⟩
      rw [e9, eN]; unfold qz_I at m3 ⊢; rw [ct hr (by decide) (by decide), ct m1 (by decide) (by decide), ct m2 (by decide) (by decide)]; exact m3
    · obtain ⟨u1, u2, u3⟩ := y1 s w hs
      obtain ⟨w1, w2⟩ := nz_hz i1 i2 s w hs
      have e1 := ct w1 (by decide) (by decide)
      have e2 := ct w2 (by decide) (by decide)
      have e3 : qz_P g s 0 = qz_P h s 0 := by unfold qz_P qz_I; rw [e1]
      refine ⟨?_, u2, by rw [e3]; exact u3⟩
      unfold nz_S at *
      rw [e3]
      unfold qz_N qz_I at *
      rw [e2]
      exact u1
    · have nn26 : ∀ p, 785 ≤ p → p ≤ 788 → g.2.2 p = h.2.2 p := fun p p1 p2 => by
        have tn : τ p = 26 := by
          have : p = 785 ∨ p = 786 ∨ p = 787 ∨ p = 788 := by omega
          rcases this with e | e | e | e <;> subst e
          · exact i2 785 (by decide)
          · exact i2 786 (by decide)
          · exact i2 787 (by decide)
          · exact i2 788 (by decide)
        exact ct tn (by decide) (by decide)
      refine ⟨fun p p1 p2 k hk => ?_, ?_, nmx_c y2.2.2 nn26⟩
      · have tn : τ p = 26 := by
          have : p = 785 ∨ p = 786 ∨ p = 787 ∨ p = 788 := by omega
          rcases this with e | e | e | e <;> subst e
          · exact i2 785 (by decide)
          · exact i2 786 (by decide)
          · exact i2 787 (by decide)
          · exact i2 788 (by decide)
        have e := ct tn (by decide) (by decide)
        have e1 : qz_P g p k = qz_P h p k := by unfold qz_P qz_I; rw [e]
        have e2 : qz_N g p = qz_N h p := by unfold qz_N; rw [e]
        rw [e1]; rw [e2] at hk; exact y2.1 p p1 p2 k hk
      · have e := ct (show τ 786 = 26 from i2 786 (by decide)) (by decide) (by decide)
        have e1 : qz_P g 786 0 = qz_P h 786 0 := by unfold qz_P qz_I; rw [e]
        rw [e1]; exact y2.2.1
    · rw [el]; rfl
end EzSe
