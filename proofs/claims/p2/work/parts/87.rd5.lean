/-! The reader of the class, functionally, IV: CODES. (Written by wip/p2/py/pv5.py.) -/
/-- the first dot: n bytes from i on -/
def rz_dots (b : Int → Int) : Nat → Int → Int
  | 0, i => i
  | n + 1, i => if b i = 46 then i else rz_dots b n (i + 1)
theorem rz_dots_le (b : Int → Int) : ∀ n i, i ≤ rz_dots b n i ∧ rz_dots b n i ≤ i + n
  | 0, i => ⟨Int.le_refl i, by show i ≤ i + 0; omega⟩
  | n + 1, i => by
    unfold rz_dots
    split
    · omega
    · have := rz_dots_le b n (i + 1); omega
theorem rz_code_bd (b : Int → Int) (s e : Int) : -1 ≤ rz_code b s e ∧ rz_code b s e ≤ 1114111 := by
  unfold rz_code
  split
  · omega
  · rename_i hn
    have x := rz_hex_bd b (e - s).toNat s 0 1 (by omega) (by omega) (by omega)
    split
    · omega
    · omega
/-- CODES from s to t: the first and the last one, or -1 -/
def rz_first (b : Int → Int) (s t : Int) : Int := rz_code b s (rz_dots b (t - s).toNat s)
def rz_last (b : Int → Int) (s t : Int) : Int := if rz_dots b (t - s).toNat s < t then (if rz_dots b (t - s).toNat s + 1 < t ∧ b (rz_dots b (t - s).toNat s + 1) = 46 then rz_code b (rz_dots b (t - s).toNat s + 2) t else -1) else rz_first b s t
def ez_one (p q : Nat) : Bool := Nat.beq q p
section EzRd5
variable {d : Nat} {h : cz_H} {τ : Nat → Nat} {Q : cz_F → Prop}
theorem rd_isEmptyField {f : Int} (hB : ez_B τ h) (t720 : τ 720 = 52) (f0 : 0 ≤ f) (f1 : f < 7) (k1 : rz_f h f = rz_t h f → Q (.inl (some (ez_v (.inl 1))), h)) (k0 : ¬ rz_f h f = rz_t h f → Q (.inl (some (ez_v (.inl 0))), h)) : ez_W d cm_153 0 [(0, .inr (.inr (some (720)))), (1, .inl (f))] [] h Q := by
  refine ez_go (n := 1) (pc' := 1) (L' := [(0, .inr (.inr (some (720)))), (1, .inl (f))]) (st' := [.inr (.inr (some (720)))]) rfl ?_
  refine ez_gC (p := 721) (tg := 53) hB t720 rfl rfl tq_52 rfl rfl (fun (t721 : _ = 53) => ?_)
  refine ez_go (n := 1) (pc' := 5) (L' := [(0, .inr (.inr (some (720)))), (1, .inl (f))]) (st' := [.inl (f), .inr (.inr (some (721)))]) rfl ?_
  have n2 : 7 ≤ qz_N h 721 ∧ qz_N h 721 ≤ 7 := ez_len hB t721 tq_53 rfl
  refine ez_aI hB t721 rfl tq_53 rfl rfl (by omega) (by omega) (fun (b1 : 0 ≤ qz_I h 721 (f).toNat) (b1' : qz_I h 721 (f).toNat ≤ 4096) => ?_)
  refine ez_go (n := 1) (pc' := 7) (L' := [(0, .inr (.inr (some (720)))), (1, .inl (f))]) (st' := [.inr (.inr (some (720))), .inl (qz_I h 721 (f).toNat)]) rfl ?_
  refine ez_gC (p := 722) (tg := 54) hB t720 rfl rfl tq_52 rfl rfl (fun (t722 : _ = 54) => ?_)
  refine ez_go (n := 1) (pc' := 11) (L' := [(0, .inr (.inr (some (720)))), (1, .inl (f))]) (st' := [.inl (f), .inr (.inr (some (722))), .inl (qz_I h 721 (f).toNat)]) rfl ?_
  have n4 : 7 ≤ qz_N h 722 ∧ qz_N h 722 ≤ 7 := ez_len hB t722 tq_54 rfl
  refine ez_aI hB t722 rfl tq_54 rfl rfl (by omega) (by omega) (fun (b3 : 0 ≤ qz_I h 722 (f).toNat) (b3' : qz_I h 722 (f).toNat ≤ 4096) => ?_)
  refine ez_icmp rfl rfl ⟨by omega, by omega⟩ ⟨by omega, by omega⟩ (fun (c5 : (qz_I h 721 (f).toNat) ≠ (qz_I h 722 (f).toNat)) => ?_) (fun (c5 : ¬((qz_I h 721 (f).toNat) ≠ (qz_I h 722 (f).toNat))) => ?_)
  · skip
    refine ez_go (n := 1) (pc' := 20) (L' := [(0, .inr (.inr (some (720)))), (1, .inl (f))]) (st' := [.inl (0)]) rfl ?_
    exact ez_retZ rfl rfl (by decide) (k0 (by unfold rz_f rz_t; omega))
  · skip
    refine ez_go (n := 2) (pc' := 20) (L' := [(0, .inr (.inr (some (720)))), (1, .inl (f))]) (st' := [.inl (1)]) rfl ?_
    exact ez_retZ rfl rfl (by decide) (k1 (by unfold rz_f rz_t; omega))

theorem rd_isCodeOrNothing {f : Int} (hB : ez_B τ h) (t720 : τ 720 = 52) (f0 : 0 ≤ f) (f1 : f < 7) (hft : rz_f h f ≤ rz_t h f) (k1 : (rz_f h f = rz_t h f ∨ rz_code (rz_b h) (rz_f h f) (rz_t h f) ≠ -1) → Q (.inl (some (ez_v (.inl 1))), h)) (k0 : ¬ rz_f h f = rz_t h f → rz_code (rz_b h) (rz_f h f) (rz_t h f) = -1 → Q (.inl (some (ez_v (.inl 0))), h)) : ez_W (d + 2) cm_152 0 [(0, .inr (.inr (some (720)))), (1, .inl (f))] [] h Q := by
  refine ez_go (n := 2) (pc' := 2) (L' := [(0, .inr (.inr (some (720)))), (1, .inl (f))]) (st' := [.inl (f), .inr (.inr (some (720)))]) rfl ?_
  refine ez_cv hB t720 rfl rfl rfl tq_52 rfl rfl rfl (rd_isEmptyField hB t720 (by omega) (by omega) (fun (e1 : rz_f h (f) = rz_t h (f)) => ez_K1 ?_) (fun (e1 : ¬ rz_f h (f) = rz_t h (f)) => ez_K1 ?_))
  · skip
    refine ez_if rfl rfl ⟨by decide, by decide⟩ (fun _ => ?_) (fun (c2 : ¬((1 : Int) ≠ (0))) => absurd c2 (by decide))
    refine ez_go (n := 2) (pc' := 33) (L' := [(0, .inr (.inr (some (720)))), (1, .inl (f))]) (st' := [.inl (1)]) rfl ?_
    exact ez_retZ rfl rfl (by decide) (k1 (by first | exact Or.inl ‹_› | (right; unfold rz_f rz_t; omega)))
  · skip
    refine ez_if rfl rfl ⟨by decide, by decide⟩ (fun (c3 : (0 : Int) ≠ (0)) => absurd c3 (by decide)) (fun _ => ?_)
    refine ez_go (n := 2) (pc' := 10) (L' := [(0, .inr (.inr (some (720)))), (1, .inl (f))]) (st' := [.inr (.inr (some (720))), .inr (.inr (some (720)))]) rfl ?_
    refine ez_gC (p := 721) (tg := 53) hB t720 rfl rfl tq_52 rfl rfl (fun (t721 : _ = 53) => ?_)
    refine ez_go (n := 1) (pc' := 14) (L' := [(0, .inr (.inr (some (720)))), (1, .inl (f))]) (st' := [.inl (f), .inr (.inr (some (721))), .inr (.inr (some (720)))]) rfl ?_
    have n5 : 7 ≤ qz_N h 721 ∧ qz_N h 721 ≤ 7 := ez_len hB t721 tq_53 rfl
    refine ez_aI hB t721 rfl tq_53 rfl rfl (by omega) (by omega) (fun (b4 : 0 ≤ qz_I h 721 (f).toNat) (b4' : qz_I h 721 (f).toNat ≤ 4096) => ?_)
    refine ez_go (n := 1) (pc' := 16) (L' := [(0, .inr (.inr (some (720)))), (1, .inl (f))]) (st' := [.inr (.inr (some (720))), .inl (qz_I h 721 (f).toNat), .inr (.inr (some (720)))]) rfl ?_
    refine ez_gC (p := 722) (tg := 54) hB t720 rfl rfl tq_52 rfl rfl (fun (t722 : _ = 54) => ?_)
    refine ez_go (n := 1) (pc' := 20) (L' := [(0, .inr (.inr (some (720)))), (1, .inl (f))]) (st' := [.inl (f), .inr (.inr (some (722))), .inl (qz_I h 721 (f).toNat), .inr (.inr (some (720)))]) rfl ?_
    have n7 : 7 ≤ qz_N h 722 ∧ qz_N h 722 ≤ 7 := ez_len hB t722 tq_54 rfl
    refine ez_aI hB t722 rfl tq_54 rfl rfl (by omega) (by omega) (fun (b6 : 0 ≤ qz_I h 722 (f).toNat) (b6' : qz_I h 722 (f).toNat ≤ 4096) => ?_)
    unfold rz_f rz_t at hft
    have x8 := rz_code_bd (rz_b h) (qz_I h 721 (f).toNat) (qz_I h 722 (f).toNat)
    refine ez_cv hB t720 rfl rfl rfl tq_52 rfl rfl rfl (rd_readCode hB t720 (by omega) (by omega) (by omega) (ez_K1 ?_))
    refine ez_go (n := 1) (pc' := 25) (L' := [(0, .inr (.inr (some (720)))), (1, .inl (f))]) (st' := [.inl (-1), .inl (rz_code (rz_b h) (qz_I h 721 (f).toNat) (qz_I h 722 (f).toNat))]) rfl ?_
    refine ez_icmp rfl rfl ⟨by omega, by omega⟩ ⟨by omega, by omega⟩ (fun (c9 : (rz_code (rz_b h) (qz_I h 721 (f).toNat) (qz_I h 722 (f).toNat)) = (-1)) => ?_) (fun (c9 : ¬((rz_code (rz_b h) (qz_I h 721 (f).toNat) (qz_I h 722 (f).toNat)) = (-1))) => ?_)
    · skip
      refine ez_go (n := 1) (pc' := 33) (L' := [(0, .inr (.inr (some (720)))), (1, .inl (f))]) (st' := [.inl (0)]) rfl ?_
      exact ez_retZ rfl rfl (by decide) (k0 ‹_› (by unfold rz_f rz_t; omega))
    · skip
      refine ez_go (n := 2) (pc' := 33) (L' := [(0, .inr (.inr (some (720)))), (1, .inl (f))]) (st' := [.inl (1)]) rfl ?_
      exact ez_retZ rfl rfl (by decide) (k1 (by first | exact Or.inl ‹_› | (right; unfold rz_f rz_t; omega)))

theorem rd_readCodes_l {s t : Int} (hB : ez_B τ h) (t720 : τ 720 = 52) (hs : rz_f h 0 = s) (ht : rz_t h 0 = t) (s0 : 0 ≤ s) (st : s ≤ t) (t1 : t ≤ 4096) (kx : ez_W (d + 2) cm_160 34 [(1, .inl (rz_dots (rz_b h) (t - s).toNat s)), (0, .inr (.inr (some 720)))] [] h Q) : ∀ (n : Nat) (i : Int), s ≤ i → i ≤ t → n = (t - i).toNat → rz_dots (rz_b h) (t - s).toNat s = rz_dots (rz_b h) n i → ez_W (d + 2) cm_160 7 [(1, .inl (i)), (0, .inr (.inr (some (720))))] [] h Q := by
  unfold rz_f at hs
  unfold rz_t at ht
  intro n
  induction n with
  | zero =>
    intro i i1 i2 hn hd
    have hd : rz_dots (rz_b h) (t - s).toNat s = i := hd
    rw [hd] at kx
    refine ez_go (n := 2) (pc' := 9) (L' := [(1, .inl (i)), (0, .inr (.inr (some (720))))]) (st' := [.inr (.inr (some (720))), .inl (i)]) rfl ?_
    refine ez_gC (p := 722) (tg := 54) hB t720 rfl rfl tq_52 rfl rfl (fun (t722 : _ = 54) => ?_)
    refine ez_go (n := 1) (pc' := 13) (L' := [(1, .inl (i)), (0, .inr (.inr (some (720))))]) (st' := [.inl (0), .inr (.inr (some (722))), .inl (i)]) rfl ?_
    have n2 : 7 ≤ qz_N h 722 ∧ qz_N h 722 ≤ 7 := ez_len hB t722 tq_54 rfl
    refine ez_aI hB t722 rfl tq_54 rfl rfl (by omega) (by omega) (fun (b1 : 0 ≤ qz_I h 722 (0 : Int).toNat) (b1' : qz_I h 722 (0 : Int).toNat ≤ 4096) => ?_)
    refine ez_icmp rfl rfl ⟨by omega, by omega⟩ ⟨by omega, by omega⟩ (fun (c3 : (qz_I h 722 (0 : Int).toNat) ≤ (i)) => ?_) (fun (c3 : ¬((qz_I h 722 (0 : Int).toNat) ≤ (i))) => ?_)
    · skip
      exact kx
    · exfalso; omega
  | succ n ih =>
    intro i i1 i2 hn hd
    have hd : rz_dots (rz_b h) (t - s).toNat s = if rz_b h i = 46 then i else rz_dots (rz_b h) n (i + 1) := hd
    refine ez_go (n := 2) (pc' := 9) (L' := [(1, .inl (i)), (0, .inr (.inr (some (720))))]) (st' := [.inr (.inr (some (720))), .inl (i)]) rfl ?_
    refine ez_gC (p := 722) (tg := 54) hB t720 rfl rfl tq_52 rfl rfl (fun (t722 : _ = 54) => ?_)
    refine ez_go (n := 1) (pc' := 13) (L' := [(1, .inl (i)), (0, .inr (.inr (some (720))))]) (st' := [.inl (0), .inr (.inr (some (722))), .inl (i)]) rfl ?_
    have n2 : 7 ≤ qz_N h 722 ∧ qz_N h 722 ≤ 7 := ez_len hB t722 tq_54 rfl
    refine ez_aI hB t722 rfl tq_54 rfl rfl (by omega) (by omega) (fun (b1 : 0 ≤ qz_I h 722 (0 : Int).toNat) (b1' : qz_I h 722 (0 : Int).toNat ≤ 4096) => ?_)
    refine ez_icmp rfl rfl ⟨by omega, by omega⟩ ⟨by omega, by omega⟩ (fun (c3 : (qz_I h 722 (0 : Int).toNat) ≤ (i)) => ?_) (fun (c3 : ¬((qz_I h 722 (0 : Int).toNat) ≤ (i))) => ?_)
    · exfalso; omega
    · skip
      refine ez_go (n := 1) (pc' := 18) (L' := [(1, .inl (i)), (0, .inr (.inr (some (720))))]) (st' := [.inr (.inr (some (720)))]) rfl ?_
      refine ez_gC (p := 193) (tg := 45) hB t720 rfl rfl tq_52 rfl rfl (fun (t193 : _ = 45) => ?_)
      refine ez_go (n := 1) (pc' := 22) (L' := [(1, .inl (i)), (0, .inr (.inr (some (720))))]) (st' := [.inl (i), .inr (.inr (some (193)))]) rfl ?_
      have n5 : 4096 ≤ qz_N h 193 ∧ qz_N h 193 ≤ 4096 := ez_len hB t193 tq_45 rfl
      refine ez_aI hB t193 rfl tq_45 rfl rfl (by omega) (by omega) (fun (b4 : -128 ≤ qz_I h 193 (i).toNat) (b4' : qz_I h 193 (i).toNat ≤ 127) => ?_)
      refine ez_go (n := 1) (pc' := 25) (L' := [(1, .inl (i)), (0, .inr (.inr (some (720))))]) (st' := [.inl (46), .inl (qz_I h 193 (i).toNat)]) rfl ?_
      refine ez_icmp rfl rfl ⟨by omega, by omega⟩ ⟨by omega, by omega⟩ (fun (c6 : (qz_I h 193 (i).toNat) = (46)) => ?_) (fun (c6 : ¬((qz_I h 193 (i).toNat) = (46))) => ?_)
      · skip
        rw [if_pos (by unfold rz_b; omega)] at hd
        rw [hd] at kx
        exact kx
      · skip
        refine ez_go (n := 2) (pc' := 7) (L' := [(1, .inl (i + 1)), (0, .inr (.inr (some (720))))]) (st' := []) rfl ?_
        rw [if_neg (by unfold rz_b; omega)] at hd
        exact ih _ (by omega) (by omega) (by omega) hd
theorem rz_put1 {h : cz_H} {n : Int} {r i : Nat} : ez_fr (ez_one r) h (dz_put h r i (ez_v (.inl n))) := (ez_fr.refl (ez_one r) h).put (show Nat.beq r r = true from Nat.beq_refl r) _ _
theorem rd_readCodes_e (hB : ez_B τ h) (t720 : τ 720 = 52) (k1 : qz_I h 720 4 ≠ -1 → qz_I h 720 4 ≤ qz_I h 720 5 → Q (.inl (some (ez_v (.inl 1))), h)) (k0 : (qz_I h 720 4 ≠ -1 → ¬ qz_I h 720 4 ≤ qz_I h 720 5) → Q (.inl (some (ez_v (.inl 0))), h)) : ez_W d cm_160 123 [(0, .inr (.inr (some (720))))] [] h Q := by
  refine ez_go (n := 1) (pc' := 124) (L' := [(0, .inr (.inr (some (720))))]) (st' := [.inr (.inr (some (720)))]) rfl ?_
  refine ez_gI hB t720 rfl rfl tq_52 rfl rfl (fun (b1 : -2147483648 ≤ qz_I h 720 4) (b1' : qz_I h 720 4 ≤ 2147483647) => ?_)
  refine ez_go (n := 1) (pc' := 128) (L' := [(0, .inr (.inr (some (720))))]) (st' := [.inl (-1), .inl (qz_I h 720 4)]) rfl ?_
  refine ez_icmp rfl rfl ⟨by omega, by omega⟩ ⟨by omega, by omega⟩ (fun (c2 : (qz_I h 720 4) = (-1)) => ?_) (fun (c2 : ¬((qz_I h 720 4) = (-1))) => ?_)
  · skip
    refine ez_go (n := 1) (pc' := 147) (L' := [(0, .inr (.inr (some (720))))]) (st' := [.inl (0)]) rfl ?_
    exact ez_retZ rfl rfl (by decide) (k0 (by omega))
  · skip
    refine ez_go (n := 1) (pc' := 132) (L' := [(0, .inr (.inr (some (720))))]) (st' := [.inr (.inr (some (720)))]) rfl ?_
    refine ez_gI hB t720 rfl rfl tq_52 rfl rfl (fun (b3 : -2147483648 ≤ qz_I h 720 4) (b3' : qz_I h 720 4 ≤ 2147483647) => ?_)
    refine ez_go (n := 1) (pc' := 136) (L' := [(0, .inr (.inr (some (720))))]) (st' := [.inr (.inr (some (720))), .inl (qz_I h 720 4)]) rfl ?_
    refine ez_gI hB t720 rfl rfl tq_52 rfl rfl (fun (b4 : -2147483648 ≤ qz_I h 720 5) (b4' : qz_I h 720 5 ≤ 2147483647) => ?_)
    refine ez_icmp rfl rfl ⟨by omega, by omega⟩ ⟨by omega, by omega⟩ (fun (c5 : (qz_I h 720 5) < (qz_I h 720 4)) => ?_) (fun (c5 : ¬((qz_I h 720 5) < (qz_I h 720 4))) => ?_)
    · skip
      refine ez_go (n := 1) (pc' := 147) (L' := [(0, .inr (.inr (some (720))))]) (st' := [.inl (0)]) rfl ?_
      exact ez_retZ rfl rfl (by decide) (k0 (by omega))
    · skip
      refine ez_go (n := 2) (pc' := 147) (L' := [(0, .inr (.inr (some (720))))]) (st' := [.inl (1)]) rfl ?_
      exact ez_retZ rfl rfl (by decide) (k1 (by omega) (by omega))

/-- an int that was written is read again -/
theorem rz_rd {n : Int} (h : ez_rg n) : dz_n (ez_v (.inl n)) = n := h.v
theorem rd_readCodes_a {s t dd : Int} (hB : ez_B τ h) (t720 : τ 720 = 52) (s0 : 0 ≤ s) (d0 : s ≤ dd) (d1 : dd ≤ t) (t1 : t ≤ 4096) (hs : rz_f h 0 = s) (kk : ∀ g, ez_B τ g → ez_fr (ez_one 720) h g → qz_I g 720 4 = rz_code (rz_b h) s dd → qz_I g 720 5 = rz_code (rz_b h) s dd → ez_W (d + 2) cm_160 57 [(1, .inl (dd)), (0, .inr (.inr (some (720))))] [] g Q) : ez_W (d + 2) cm_160 34 [(1, .inl (dd)), (0, .inr (.inr (some (720))))] [] h Q := by
  refine ez_go (n := 3) (pc' := 37) (L' := [(1, .inl (dd)), (0, .inr (.inr (some (720))))]) (st' := [.inr (.inr (some (720))), .inr (.inr (some (720))), .inr (.inr (some (720)))]) rfl ?_
  refine ez_gC (p := 721) (tg := 53) hB t720 rfl rfl tq_52 rfl rfl (fun (t721 : _ = 53) => ?_)
  refine ez_go (n := 1) (pc' := 41) (L' := [(1, .inl (dd)), (0, .inr (.inr (some (720))))]) (st' := [.inl (0), .inr (.inr (some (721))), .inr (.inr (some (720))), .inr (.inr (some (720)))]) rfl ?_
  have n2 : 7 ≤ qz_N h 721 ∧ qz_N h 721 ≤ 7 := ez_len hB t721 tq_53 rfl
  refine ez_aI hB t721 rfl tq_53 rfl rfl (by omega) (by omega) (fun (b1 : 0 ≤ qz_I h 721 (0 : Int).toNat) (b1' : qz_I h 721 (0 : Int).toNat ≤ 4096) => ?_)
  refine ez_go (n := 1) (pc' := 43) (L' := [(1, .inl (dd)), (0, .inr (.inr (some (720))))]) (st' := [.inl (dd), .inl (qz_I h 721 (0 : Int).toNat), .inr (.inr (some (720))), .inr (.inr (some (720)))]) rfl ?_
  have hs2 : qz_I h 721 (0 : Int).toNat = s := hs
  refine ez_cv hB t720 rfl rfl rfl tq_52 rfl rfl rfl (rd_readCode hB t720 (by omega) (by omega) (by omega) (ez_K1 ?_))
  rw [hs2]
  have x := rz_code_bd (rz_b h) s dd
  refine ez_pf hB t720 rfl rfl tq_52 rfl rfl rfl rfl (ez_vdI rfl rfl (by omega) (by omega)) (fun hB3 w4 => ?_)
  refine ez_go (n := 2) (pc' := 51) (L' := [(1, .inl (dd)), (0, .inr (.inr (some (720))))]) (st' := [.inr (.inr (some (720))), .inr (.inr (some (720)))]) rfl ?_
  refine ez_gI hB3 t720 rfl rfl tq_52 rfl rfl (fun (b5 : -2147483648 ≤ qz_I (dz_put h 720 4 (ez_v (.inl (rz_code (rz_b h) s dd)))) 720 4) (b5' : qz_I (dz_put h 720 4 (ez_v (.inl (rz_code (rz_b h) s dd)))) 720 4 ≤ 2147483647) => ?_)
  refine ez_pf hB3 t720 rfl rfl tq_52 rfl rfl rfl rfl (ez_vdI rfl rfl (by omega) (by omega)) (fun hB6 w7 => ?_)
  refine kk _ hB6 (ez_fr.trans rz_put1 rz_put1) ?_ ?_
  · rw [ez_put_I (by omega), w4]; exact rz_rd ⟨by omega, by omega⟩
  · rw [w7, w4]; exact rz_rd ⟨by show _ ≤ dz_n _; rw [rz_rd ⟨by omega, by omega⟩]; omega, by show dz_n _ ≤ _; rw [rz_rd ⟨by omega, by omega⟩]; omega⟩ |>.trans (rz_rd ⟨by omega, by omega⟩)

theorem rd_readCodes_b {s t dd : Int} {g : cz_H} (hB : ez_B τ g) (t720 : τ 720 = 52) (s0 : 0 ≤ s) (d0 : s ≤ dd) (d1 : dd ≤ t) (t1 : t ≤ 4096) (ht : rz_t h 0 = t) (hf : ez_fr (ez_one 720) h g) (v4 : qz_I g 720 4 = rz_code (rz_b h) s dd) (v5 : qz_I g 720 5 = rz_code (rz_b h) s dd) (k1 : ∀ g, ez_B τ g → ez_fr (ez_one 720) h g → qz_I g 720 4 = rz_code (rz_b h) s dd → qz_I g 720 5 = (if dd < t then (if dd + 1 < t ∧ rz_b h (dd + 1) = 46 then rz_code (rz_b h) (dd + 2) t else -1) else rz_code (rz_b h) s dd) → rz_code (rz_b h) s dd ≠ -1 → rz_code (rz_b h) s dd ≤ (if dd < t then (if dd + 1 < t ∧ rz_b h (dd + 1) = 46 then rz_code (rz_b h) (dd + 2) t else -1) else rz_code (rz_b h) s dd) → Q (.inl (some (ez_v (.inl 1))), g)) (k0 : ∀ g, ez_B τ g → ez_fr (ez_one 720) h g → (rz_code (rz_b h) s dd ≠ -1 → ¬ rz_code (rz_b h) s dd ≤ (if dd < t then (if dd + 1 < t ∧ rz_b h (dd + 1) = 46 then rz_code (rz_b h) (dd + 2) t else -1) else rz_code (rz_b h) s dd)) → Q (.inl (some (ez_v (.inl 0))), g)) : ez_W (d + 2) cm_160 57 [(1, .inl (dd)), (0, .inr (.inr (some (720))))] [] g Q := by
  have hbg : rz_b g = rz_b h := rz_b_fr hf rfl
  have ht2 : qz_I g 722 (0 : Int).toNat = t := (hf.I rfl _).trans ht
  refine ez_go (n := 2) (pc' := 59) (L' := [(1, .inl (dd)), (0, .inr (.inr (some (720))))]) (st' := [.inr (.inr (some (720))), .inl (dd)]) rfl ?_
  refine ez_gC (p := 722) (tg := 54) hB t720 rfl rfl tq_52 rfl rfl (fun (t722 : _ = 54) => ?_)
  refine ez_go (n := 1) (pc' := 63) (L' := [(1, .inl (dd)), (0, .inr (.inr (some (720))))]) (st' := [.inl (0), .inr (.inr (some (722))), .inl (dd)]) rfl ?_
  have n2 : 7 ≤ qz_N g 722 ∧ qz_N g 722 ≤ 7 := ez_len hB t722 tq_54 rfl
  refine ez_aI hB t722 rfl tq_54 rfl rfl (by omega) (by omega) (fun (b1 : 0 ≤ qz_I g 722 (0 : Int).toNat) (b1' : qz_I g 722 (0 : Int).toNat ≤ 4096) => ?_)
  refine ez_icmp rfl rfl ⟨by omega, by omega⟩ ⟨by omega, by omega⟩ (fun (c3 : (qz_I g 722 (0 : Int).toNat) ≤ (dd)) => ?_) (fun (c3 : ¬((qz_I g 722 (0 : Int).toNat) ≤ (dd))) => ?_)
  · skip
    refine ez_less [(0, .inr (.inr (some (720))))] rfl ⟨rfl, trivial⟩ ?_
    refine rd_readCodes_e hB t720 (fun e1 e2 => k1 _ hB hf v4 (by rw [v5, if_neg (by omega)]) (by rw [← v4]; exact e1) (by rw [if_neg (by omega), ← v4]; omega)) (fun e1 => k0 _ hB hf (fun f1 => by rw [if_neg (by omega)]; rw [v4, v5] at e1; exact e1 f1))
  · skip
    refine ez_go (n := 4) (pc' := 71) (L' := [(1, .inl (dd)), (0, .inr (.inr (some (720))))]) (st' := [.inr (.inr (some (720))), .inl ((dd) + (1))]) rfl ?_
    refine ez_gC (p := 722) (tg := 54) hB t720 rfl rfl tq_52 rfl rfl (fun (t722 : _ = 54) => ?_)
    refine ez_go (n := 1) (pc' := 75) (L' := [(1, .inl (dd)), (0, .inr (.inr (some (720))))]) (st' := [.inl (0), .inr (.inr (some (722))), .inl ((dd) + (1))]) rfl ?_
    have n5 : 7 ≤ qz_N g 722 ∧ qz_N g 722 ≤ 7 := ez_len hB t722 tq_54 rfl
    refine ez_aI hB t722 rfl tq_54 rfl rfl (by omega) (by omega) (fun (b4 : 0 ≤ qz_I g 722 (0 : Int).toNat) (b4' : qz_I g 722 (0 : Int).toNat ≤ 4096) => ?_)
    refine ez_icmp rfl rfl ⟨by omega, by omega⟩ ⟨by omega, by omega⟩ (fun (c6 : (qz_I g 722 (0 : Int).toNat) ≤ ((dd) + (1))) => ?_) (fun (c6 : ¬((qz_I g 722 (0 : Int).toNat) ≤ ((dd) + (1)))) => ?_)
    · skip
      refine ez_go (n := 4) (pc' := 100) (L' := [(2, .inl (0)), (1, .inl (dd)), (0, .inr (.inr (some (720))))]) (st' := [.inl (0), .inr (.inr (some (720)))]) rfl ?_
      refine ez_if rfl rfl ⟨by decide, by decide⟩ (fun _ => ?_) (fun (c7 : ¬((0 : Int) = (0))) => absurd c7 (by decide))
      refine ez_go (n := 1) (pc' := 120) (L' := [(2, .inl (0)), (1, .inl (dd)), (0, .inr (.inr (some (720))))]) (st' := [.inl (-1), .inr (.inr (some (720)))]) rfl ?_
      refine ez_pf hB t720 rfl rfl tq_52 rfl rfl rfl rfl (ez_vdI rfl rfl (by omega) (by omega)) (fun hB8 w9 => ?_)
      refine ez_less [(0, .inr (.inr (some (720))))] rfl ⟨rfl, trivial⟩ ?_
      have v5' : qz_I (dz_put g 720 5 (ez_v (.inl (-1)))) 720 5 = -1 := by rw [w9]; exact rz_rd ⟨by omega, by omega⟩
      have v4' : qz_I (dz_put g 720 5 (ez_v (.inl (-1)))) 720 4 = rz_code (rz_b h) s dd := by rw [ez_put_I (by omega)]; exact v4
      have le : (if dd < t then (if dd + 1 < t ∧ rz_b h (dd + 1) = 46 then rz_code (rz_b h) (dd + 2) t else -1) else rz_code (rz_b h) s dd) = -1 := by rw [if_pos (by omega), if_neg (by rw [← hbg]; unfold rz_b; omega)]
      refine rd_readCodes_e hB8 t720 (fun e1 e2 => k1 _ hB8 (hf.trans rz_put1) v4' (by rw [le]; exact v5') (by rw [← v4']; exact e1) (by rw [le]; rw [v4', v5'] at e2; exact e2)) (fun e1 => k0 _ hB8 (hf.trans rz_put1) (fun f1 => by rw [le]; rw [v4', v5'] at e1; exact e1 f1))
    · skip
      refine ez_go (n := 1) (pc' := 80) (L' := [(1, .inl (dd)), (0, .inr (.inr (some (720))))]) (st' := [.inr (.inr (some (720)))]) rfl ?_
      refine ez_gC (p := 193) (tg := 45) hB t720 rfl rfl tq_52 rfl rfl (fun (t193 : _ = 45) => ?_)
      refine ez_go (n := 3) (pc' := 86) (L' := [(1, .inl (dd)), (0, .inr (.inr (some (720))))]) (st' := [.inl ((dd) + (1)), .inr (.inr (some (193)))]) rfl ?_
      have n11 : 4096 ≤ qz_N g 193 ∧ qz_N g 193 ≤ 4096 := ez_len hB t193 tq_45 rfl
      refine ez_aI hB t193 rfl tq_45 rfl rfl (by omega) (by omega) (fun (b10 : -128 ≤ qz_I g 193 ((dd) + (1)).toNat) (b10' : qz_I g 193 ((dd) + (1)).toNat ≤ 127) => ?_)
      refine ez_go (n := 1) (pc' := 89) (L' := [(1, .inl (dd)), (0, .inr (.inr (some (720))))]) (st' := [.inl (46), .inl (qz_I g 193 ((dd) + (1)).toNat)]) rfl ?_
      refine ez_icmp rfl rfl ⟨by omega, by omega⟩ ⟨by omega, by omega⟩ (fun (c12 : (qz_I g 193 ((dd) + (1)).toNat) ≠ (46)) => ?_) (fun (c12 : ¬((qz_I g 193 ((dd) + (1)).toNat) ≠ (46))) => ?_)
      · skip
        refine ez_go (n := 4) (pc' := 100) (L' := [(2, .inl (0)), (1, .inl (dd)), (0, .inr (.inr (some (720))))]) (st' := [.inl (0), .inr (.inr (some (720)))]) rfl ?_
        refine ez_if rfl rfl ⟨by decide, by decide⟩ (fun _ => ?_) (fun (c13 : ¬((0 : Int) = (0))) => absurd c13 (by decide))
        refine ez_go (n := 1) (pc' := 120) (L' := [(2, .inl (0)), (1, .inl (dd)), (0, .inr (.inr (some (720))))]) (st' := [.inl (-1), .inr (.inr (some (720)))]) rfl ?_
        refine ez_pf hB t720 rfl rfl tq_52 rfl rfl rfl rfl (ez_vdI rfl rfl (by omega) (by omega)) (fun hB14 w15 => ?_)
        refine ez_less [(0, .inr (.inr (some (720))))] rfl ⟨rfl, trivial⟩ ?_
        have v5' : qz_I (dz_put g 720 5 (ez_v (.inl (-1)))) 720 5 = -1 := by rw [w15]; exact rz_rd ⟨by omega, by omega⟩
        have v4' : qz_I (dz_put g 720 5 (ez_v (.inl (-1)))) 720 4 = rz_code (rz_b h) s dd := by rw [ez_put_I (by omega)]; exact v4
        have le : (if dd < t then (if dd + 1 < t ∧ rz_b h (dd + 1) = 46 then rz_code (rz_b h) (dd + 2) t else -1) else rz_code (rz_b h) s dd) = -1 := by rw [if_pos (by omega), if_neg (by rw [← hbg]; unfold rz_b; omega)]
        refine rd_readCodes_e hB14 t720 (fun e1 e2 => k1 _ hB14 (hf.trans rz_put1) v4' (by rw [le]; exact v5') (by rw [← v4']; exact e1) (by rw [le]; rw [v4', v5'] at e2; exact e2)) (fun e1 => k0 _ hB14 (hf.trans rz_put1) (fun f1 => by rw [le]; rw [v4', v5'] at e1; exact e1 f1))
      · skip
        refine ez_go (n := 5) (pc' := 100) (L' := [(2, .inl (1)), (1, .inl (dd)), (0, .inr (.inr (some (720))))]) (st' := [.inl (1), .inr (.inr (some (720)))]) rfl ?_
        refine ez_if rfl rfl ⟨by decide, by decide⟩ (fun (c16 : (1 : Int) = (0)) => absurd c16 (by decide)) (fun _ => ?_)
        refine ez_go (n := 5) (pc' := 108) (L' := [(2, .inl (1)), (1, .inl (dd)), (0, .inr (.inr (some (720))))]) (st' := [.inr (.inr (some (720))), .inl ((dd) + (2)), .inr (.inr (some (720))), .inr (.inr (some (720)))]) rfl ?_
        refine ez_gC (p := 722) (tg := 54) hB t720 rfl rfl tq_52 rfl rfl (fun (t722 : _ = 54) => ?_)
        refine ez_go (n := 1) (pc' := 112) (L' := [(2, .inl (1)), (1, .inl (dd)), (0, .inr (.inr (some (720))))]) (st' := [.inl (0), .inr (.inr (some (722))), .inl ((dd) + (2)), .inr (.inr (some (720))), .inr (.inr (some (720)))]) rfl ?_
        have n18 : 7 ≤ qz_N g 722 ∧ qz_N g 722 ≤ 7 := ez_len hB t722 tq_54 rfl
        refine ez_aI hB t722 rfl tq_54 rfl rfl (by omega) (by omega) (fun (b17 : 0 ≤ qz_I g 722 (0 : Int).toNat) (b17' : qz_I g 722 (0 : Int).toNat ≤ 4096) => ?_)
        refine ez_cv hB t720 rfl rfl rfl tq_52 rfl rfl rfl (rd_readCode hB t720 (by omega) (by omega) (by omega) (ez_K1 ?_))
        rw [hbg, ht2]
        have x := rz_code_bd (rz_b h) (dd + 2) t
        refine ez_go (n := 1) (pc' := 120) (L' := [(2, .inl (1)), (1, .inl (dd)), (0, .inr (.inr (some (720))))]) (st' := [.inl (rz_code (rz_b h) (dd + 2) t), .inr (.inr (some (720)))]) rfl ?_
        refine ez_pf hB t720 rfl rfl tq_52 rfl rfl rfl rfl (ez_vdI rfl rfl (by omega) (by omega)) (fun hB19 w20 => ?_)
        refine ez_less [(0, .inr (.inr (some (720))))] rfl ⟨rfl, trivial⟩ ?_
        have v5' : qz_I (dz_put g 720 5 (ez_v (.inl (rz_code (rz_b h) (dd + 2) t)))) 720 5 = rz_code (rz_b h) (dd + 2) t := by rw [w20]; exact rz_rd ⟨by omega, by omega⟩
        have v4' : qz_I (dz_put g 720 5 (ez_v (.inl (rz_code (rz_b h) (dd + 2) t)))) 720 4 = rz_code (rz_b h) s dd := by rw [ez_put_I (by omega)]; exact v4
        have le : (if dd < t then (if dd + 1 < t ∧ rz_b h (dd + 1) = 46 then rz_code (rz_b h) (dd + 2) t else -1) else rz_code (rz_b h) s dd) = rz_code (rz_b h) (dd + 2) t := by rw [if_pos (by omega), if_pos (by refine ⟨by omega, ?_⟩; rw [← hbg]; unfold rz_b; omega)]
        refine rd_readCodes_e hB19 t720 (fun e1 e2 => k1 _ hB19 (hf.trans rz_put1) v4' (by rw [le]; exact v5') (by rw [← v4']; exact e1) (by rw [le]; rw [v4', v5'] at e2; exact e2)) (fun e1 => k0 _ hB19 (hf.trans rz_put1) (fun f1 => by rw [le]; rw [v4', v5'] at e1; exact e1 f1))

theorem rd_readCodes {s t : Int} (hB : ez_B τ h) (t720 : τ 720 = 52) (hs : rz_f h 0 = s) (ht : rz_t h 0 = t) (s0 : 0 ≤ s) (st : s ≤ t) (t1 : t ≤ 4096) (k1 : ∀ g, ez_B τ g → ez_fr (ez_one 720) h g → qz_I g 720 4 = rz_first (rz_b h) s t → qz_I g 720 5 = rz_last (rz_b h) s t → rz_first (rz_b h) s t ≠ -1 → rz_first (rz_b h) s t ≤ rz_last (rz_b h) s t → Q (.inl (some (ez_v (.inl 1))), g)) (k0 : ∀ g, ez_B τ g → ez_fr (ez_one 720) h g → (rz_first (rz_b h) s t ≠ -1 → ¬ rz_first (rz_b h) s t ≤ rz_last (rz_b h) s t) → Q (.inl (some (ez_v (.inl 0))), g)) : ez_W (d + 2) cm_160 0 [(0, .inr (.inr (some (720))))] [] h Q := by
  have hs2 : qz_I h 721 (0 : Int).toNat = s := hs
  refine ez_go (n := 1) (pc' := 1) (L' := [(0, .inr (.inr (some (720))))]) (st' := [.inr (.inr (some (720)))]) rfl ?_
  refine ez_gC (p := 721) (tg := 53) hB t720 rfl rfl tq_52 rfl rfl (fun (t721 : _ = 53) => ?_)
  refine ez_go (n := 1) (pc' := 5) (L' := [(0, .inr (.inr (some (720))))]) (st' := [.inl (0), .inr (.inr (some (721)))]) rfl ?_
  have n2 : 7 ≤ qz_N h 721 ∧ qz_N h 721 ≤ 7 := ez_len hB t721 tq_53 rfl
  refine ez_aI hB t721 rfl tq_53 rfl rfl (by omega) (by omega) (fun (b1 : 0 ≤ qz_I h 721 (0 : Int).toNat) (b1' : qz_I h 721 (0 : Int).toNat ≤ 4096) => ?_)
  refine ez_go (n := 1) (pc' := 7) (L' := [(1, .inl (qz_I h 721 (0 : Int).toNat)), (0, .inr (.inr (some (720))))]) (st' := []) rfl ?_
  exact rd_readCodes_l hB t720 hs ht s0 st t1 (rd_readCodes_a (t := t) hB t720 s0 (rz_dots_le _ _ _).1 (by have := rz_dots_le (rz_b h) (t - s).toNat s; omega) t1 hs (fun g e1 e2 e3 e4 => rd_readCodes_b e1 t720 s0 (rz_dots_le _ _ _).1 (by have := rz_dots_le (rz_b h) (t - s).toNat s; omega) t1 ht e2 e3 e4 k1 k0)) _ _ (by omega) (by omega) (by rw [hs2]) (by rw [hs2])

end EzRd5
