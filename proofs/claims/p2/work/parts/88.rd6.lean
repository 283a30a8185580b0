/-! The reader of the class, functionally, V: category, class, tokens. (Written by wip/p2/py/pv6.py.) -/
/-- digits: n of them from i on; -1 where one isn't -/
def rz_dec (b : Int → Int) : Nat → Int → Int → Int
  | 0, _, v => v
  | n + 1, i, v => if 48 ≤ b i ∧ b i ≤ 57 then rz_dec b n (i + 1) (v * 10 + b i - 48) else -1
def rz_let (c : Int) : Prop := (65 ≤ c ∧ c ≤ 90) ∨ (97 ≤ c ∧ c ≤ 122)
theorem rz_let_or (c : Int) : rz_let c ∨ ¬ rz_let c := Classical.em _
/-- behind letters: at most n -/
noncomputable def rz_lets (b : Int → Int) : Nat → Int → Int
  | 0, i => i
  | n + 1, i => if (65 ≤ b i ∧ b i ≤ 90) ∨ (97 ≤ b i ∧ b i ≤ 122) then rz_lets b n (i + 1) else i
theorem rz_lets_le (b : Int → Int) : ∀ n i, i ≤ rz_lets b n i ∧ rz_lets b n i ≤ i + n
  | 0, i => ⟨Int.le_refl i, by show i ≤ i + 0; omega⟩
  | n + 1, i => by
    unfold rz_lets
    split
    · have := rz_lets_le b n (i + 1); omega
    · omega
/-- how many tokens begin: n bytes from i on, s where the stretch begins -/
def rz_ct (b : Int → Int) (s : Int) : Nat → Int → Nat
  | 0, _ => 0
  | n + 1, i => (if ¬ (b i = 9 ∨ b i = 32) ∧ (i = s ∨ (b (i - 1) = 9 ∨ b (i - 1) = 32)) then 1 else 0) + rz_ct b s n (i + 1)
theorem rz_ct_le (b : Int → Int) (s : Int) : ∀ n i, rz_ct b s n i ≤ n
  | 0, _ => Nat.le_refl 0
  | n + 1, i => by
    unfold rz_ct
    have := rz_ct_le b s n (i + 1)
    split <;> omega
def rz_cat (b : Int → Int) (s t : Int) : Prop := t - s = 2 ∧ (65 ≤ b s ∧ b s ≤ 90) ∧ (97 ≤ b (s + 1) ∧ b (s + 1) ≤ 122)
section EzRd6
variable {d : Nat} {h : cz_H} {τ : Nat → Nat} {Q : cz_F → Prop} {r : Nat}
theorem rz_ne {p t1 t2 : Nat} (h1 : τ p = t1) (h2 : τ r = t2) (hn : Nat.beq t1 t2 = false) : ez_one r p = false := by
  unfold ez_one
  exact dz_beq_ne (fun e => by rw [e, h2] at h1; rw [h1, Nat.beq_refl] at hn; cases hn)
theorem rd_readCategory_b {a : Int} (hB : ez_B τ h) (t720 : τ 720 = 52) (a0 : 0 ≤ a) (a1 : a + 1 < 4096) (k1 : (65 ≤ rz_b h a ∧ rz_b h a ≤ 90) ∧ (97 ≤ rz_b h (a + 1) ∧ rz_b h (a + 1) ≤ 122) → Q (.inl (some (ez_v (.inl 1))), h)) (k0 : ¬((65 ≤ rz_b h a ∧ rz_b h a ≤ 90) ∧ (97 ≤ rz_b h (a + 1) ∧ rz_b h (a + 1) ≤ 122)) → Q (.inl (some (ez_v (.inl 0))), h)) : ez_W d cm_157 44 [(2, .inl (a)), (0, .inr (.inr (some (720)))), (1, .inr (.inr (some (r))))] [] h Q := by
  refine ez_go (n := 1) (pc' := 45) (L' := [(2, .inl (a)), (0, .inr (.inr (some (720)))), (1, .inr (.inr (some (r))))]) (st' := [.inr (.inr (some (720)))]) rfl ?_
  refine ez_gC (p := 193) (tg := 45) hB t720 rfl rfl tq_52 rfl rfl (fun (t193 : _ = 45) => ?_)
  refine ez_go (n := 1) (pc' := 49) (L' := [(2, .inl (a)), (0, .inr (.inr (some (720)))), (1, .inr (.inr (some (r))))]) (st' := [.inl (a), .inr (.inr (some (193)))]) rfl ?_
  have n2 : 4096 ≤ qz_N h 193 ∧ qz_N h 193 ≤ 4096 := ez_len hB t193 tq_45 rfl
  refine ez_aI hB t193 rfl tq_45 rfl rfl (by omega) (by omega) (fun (b1 : -128 ≤ qz_I h 193 (a).toNat) (b1' : qz_I h 193 (a).toNat ≤ 127) => ?_)
  refine ez_go (n := 1) (pc' := 52) (L' := [(2, .inl (a)), (0, .inr (.inr (some (720)))), (1, .inr (.inr (some (r))))]) (st' := [.inl (65), .inl (qz_I h 193 (a).toNat)]) rfl ?_
  refine ez_icmp rfl rfl ⟨by omega, by omega⟩ ⟨by omega, by omega⟩ (fun (c3 : (qz_I h 193 (a).toNat) < (65)) => ?_) (fun (c3 : ¬((qz_I h 193 (a).toNat) < (65))) => ?_)
  · skip
    refine ez_go (n := 1) (pc' := 97) (L' := [(2, .inl (a)), (0, .inr (.inr (some (720)))), (1, .inr (.inr (some (r))))]) (st' := [.inl (0)]) rfl ?_
    exact ez_retZ rfl rfl (by decide) (k0 (fun w => by unfold rz_b at w; omega))
  · skip
    refine ez_go (n := 1) (pc' := 56) (L' := [(2, .inl (a)), (0, .inr (.inr (some (720)))), (1, .inr (.inr (some (r))))]) (st' := [.inr (.inr (some (720)))]) rfl ?_
    refine ez_gC (p := 193) (tg := 45) hB t720 rfl rfl tq_52 rfl rfl (fun (t193 : _ = 45) => ?_)
    refine ez_go (n := 1) (pc' := 60) (L' := [(2, .inl (a)), (0, .inr (.inr (some (720)))), (1, .inr (.inr (some (r))))]) (st' := [.inl (a), .inr (.inr (some (193)))]) rfl ?_
    have n5 : 4096 ≤ qz_N h 193 ∧ qz_N h 193 ≤ 4096 := ez_len hB t193 tq_45 rfl
    refine ez_aI hB t193 rfl tq_45 rfl rfl (by omega) (by omega) (fun (b4 : -128 ≤ qz_I h 193 (a).toNat) (b4' : qz_I h 193 (a).toNat ≤ 127) => ?_)
    refine ez_go (n := 1) (pc' := 63) (L' := [(2, .inl (a)), (0, .inr (.inr (some (720)))), (1, .inr (.inr (some (r))))]) (st' := [.inl (90), .inl (qz_I h 193 (a).toNat)]) rfl ?_
    refine ez_icmp rfl rfl ⟨by omega, by omega⟩ ⟨by omega, by omega⟩ (fun (c6 : (90) < (qz_I h 193 (a).toNat)) => ?_) (fun (c6 : ¬((90) < (qz_I h 193 (a).toNat))) => ?_)
    · skip
      refine ez_go (n := 1) (pc' := 97) (L' := [(2, .inl (a)), (0, .inr (.inr (some (720)))), (1, .inr (.inr (some (r))))]) (st' := [.inl (0)]) rfl ?_
      exact ez_retZ rfl rfl (by decide) (k0 (fun w => by unfold rz_b at w; omega))
    · skip
      refine ez_go (n := 1) (pc' := 67) (L' := [(2, .inl (a)), (0, .inr (.inr (some (720)))), (1, .inr (.inr (some (r))))]) (st' := [.inr (.inr (some (720)))]) rfl ?_
      refine ez_gC (p := 193) (tg := 45) hB t720 rfl rfl tq_52 rfl rfl (fun (t193 : _ = 45) => ?_)
      refine ez_go (n := 3) (pc' := 73) (L' := [(2, .inl (a)), (0, .inr (.inr (some (720)))), (1, .inr (.inr (some (r))))]) (st' := [.inl ((a) + (1)), .inr (.inr (some (193)))]) rfl ?_
      have n8 : 4096 ≤ qz_N h 193 ∧ qz_N h 193 ≤ 4096 := ez_len hB t193 tq_45 rfl
      refine ez_aI hB t193 rfl tq_45 rfl rfl (by omega) (by omega) (fun (b7 : -128 ≤ qz_I h 193 ((a) + (1)).toNat) (b7' : qz_I h 193 ((a) + (1)).toNat ≤ 127) => ?_)
      refine ez_go (n := 1) (pc' := 76) (L' := [(2, .inl (a)), (0, .inr (.inr (some (720)))), (1, .inr (.inr (some (r))))]) (st' := [.inl (97), .inl (qz_I h 193 ((a) + (1)).toNat)]) rfl ?_
      refine ez_icmp rfl rfl ⟨by omega, by omega⟩ ⟨by omega, by omega⟩ (fun (c9 : (qz_I h 193 ((a) + (1)).toNat) < (97)) => ?_) (fun (c9 : ¬((qz_I h 193 ((a) + (1)).toNat) < (97))) => ?_)
      · skip
        refine ez_go (n := 1) (pc' := 97) (L' := [(2, .inl (a)), (0, .inr (.inr (some (720)))), (1, .inr (.inr (some (r))))]) (st' := [.inl (0)]) rfl ?_
        exact ez_retZ rfl rfl (by decide) (k0 (fun w => by unfold rz_b at w; omega))
      · skip
        refine ez_go (n := 1) (pc' := 80) (L' := [(2, .inl (a)), (0, .inr (.inr (some (720)))), (1, .inr (.inr (some (r))))]) (st' := [.inr (.inr (some (720)))]) rfl ?_
        refine ez_gC (p := 193) (tg := 45) hB t720 rfl rfl tq_52 rfl rfl (fun (t193 : _ = 45) => ?_)
        refine ez_go (n := 3) (pc' := 86) (L' := [(2, .inl (a)), (0, .inr (.inr (some (720)))), (1, .inr (.inr (some (r))))]) (st' := [.inl ((a) + (1)), .inr (.inr (some (193)))]) rfl ?_
        have n11 : 4096 ≤ qz_N h 193 ∧ qz_N h 193 ≤ 4096 := ez_len hB t193 tq_45 rfl
        refine ez_aI hB t193 rfl tq_45 rfl rfl (by omega) (by omega) (fun (b10 : -128 ≤ qz_I h 193 ((a) + (1)).toNat) (b10' : qz_I h 193 ((a) + (1)).toNat ≤ 127) => ?_)
        refine ez_go (n := 1) (pc' := 89) (L' := [(2, .inl (a)), (0, .inr (.inr (some (720)))), (1, .inr (.inr (some (r))))]) (st' := [.inl (122), .inl (qz_I h 193 ((a) + (1)).toNat)]) rfl ?_
        refine ez_icmp rfl rfl ⟨by omega, by omega⟩ ⟨by omega, by omega⟩ (fun (c12 : (122) < (qz_I h 193 ((a) + (1)).toNat)) => ?_) (fun (c12 : ¬((122) < (qz_I h 193 ((a) + (1)).toNat))) => ?_)
        · skip
          refine ez_go (n := 1) (pc' := 97) (L' := [(2, .inl (a)), (0, .inr (.inr (some (720)))), (1, .inr (.inr (some (r))))]) (st' := [.inl (0)]) rfl ?_
          exact ez_retZ rfl rfl (by decide) (k0 (fun w => by unfold rz_b at w; omega))
        · skip
          refine ez_go (n := 2) (pc' := 97) (L' := [(2, .inl (a)), (0, .inr (.inr (some (720)))), (1, .inr (.inr (some (r))))]) (st' := [.inl (1)]) rfl ?_
          exact ez_retZ rfl rfl (by decide) (k1 ⟨by unfold rz_b; omega, by unfold rz_b; omega⟩)

theorem rd_readCategory (hB : ez_B τ h) (t720 : τ 720 = 52) (tr : τ r = 3) (k1 : ∀ g, ez_B τ g → ez_fr (ez_one r) h g → (∀ j, j ≠ 1 → qz_I g r j = qz_I h r j) → rz_cat (rz_b h) (rz_f h 1) (rz_t h 1) → Q (.inl (some (ez_v (.inl 1))), g)) (k0 : ∀ g, ez_B τ g → ez_fr (ez_one r) h g → (∀ j, j ≠ 1 → qz_I g r j = qz_I h r j) → ¬ rz_cat (rz_b h) (rz_f h 1) (rz_t h 1) → Q (.inl (some (ez_v (.inl 0))), g)) : ez_W d cm_157 0 [(0, .inr (.inr (some (720)))), (1, .inr (.inr (some (r))))] [] h Q := by
  refine ez_go (n := 1) (pc' := 1) (L' := [(0, .inr (.inr (some (720)))), (1, .inr (.inr (some (r))))]) (st' := [.inr (.inr (some (720)))]) rfl ?_
  refine ez_gC (p := 721) (tg := 53) hB t720 rfl rfl tq_52 rfl rfl (fun (t721 : _ = 53) => ?_)
  refine ez_go (n := 1) (pc' := 5) (L' := [(0, .inr (.inr (some (720)))), (1, .inr (.inr (some (r))))]) (st' := [.inl (1), .inr (.inr (some (721)))]) rfl ?_
  have n2 : 7 ≤ qz_N h 721 ∧ qz_N h 721 ≤ 7 := ez_len hB t721 tq_53 rfl
  refine ez_aI hB t721 rfl tq_53 rfl rfl (by omega) (by omega) (fun (b1 : 0 ≤ qz_I h 721 (1 : Int).toNat) (b1' : qz_I h 721 (1 : Int).toNat ≤ 4096) => ?_)
  refine ez_go (n := 2) (pc' := 8) (L' := [(2, .inl (qz_I h 721 (1 : Int).toNat)), (0, .inr (.inr (some (720)))), (1, .inr (.inr (some (r))))]) (st' := [.inr (.inr (some (720)))]) rfl ?_
  refine ez_gC (p := 722) (tg := 54) hB t720 rfl rfl tq_52 rfl rfl (fun (t722 : _ = 54) => ?_)
  refine ez_go (n := 1) (pc' := 12) (L' := [(2, .inl (qz_I h 721 (1 : Int).toNat)), (0, .inr (.inr (some (720)))), (1, .inr (.inr (some (r))))]) (st' := [.inl (1), .inr (.inr (some (722)))]) rfl ?_
  have n4 : 7 ≤ qz_N h 722 ∧ qz_N h 722 ≤ 7 := ez_len hB t722 tq_54 rfl
  refine ez_aI hB t722 rfl tq_54 rfl rfl (by omega) (by omega) (fun (b3 : 0 ≤ qz_I h 722 (1 : Int).toNat) (b3' : qz_I h 722 (1 : Int).toNat ≤ 4096) => ?_)
  refine ez_go (n := 3) (pc' := 16) (L' := [(2, .inl (qz_I h 721 (1 : Int).toNat)), (0, .inr (.inr (some (720)))), (1, .inr (.inr (some (r))))]) (st' := [.inl (2), .inl ((qz_I h 722 (1 : Int).toNat) - (qz_I h 721 (1 : Int).toNat))]) rfl ?_
  refine ez_icmp rfl rfl ⟨by omega, by omega⟩ ⟨by omega, by omega⟩ (fun (c5 : ((qz_I h 722 (1 : Int).toNat) - (qz_I h 721 (1 : Int).toNat)) = (2)) => ?_) (fun (c5 : ¬(((qz_I h 722 (1 : Int).toNat) - (qz_I h 721 (1 : Int).toNat)) = (2))) => ?_)
  · skip
    refine ez_go (n := 2) (pc' := 23) (L' := [(2, .inl (qz_I h 721 (1 : Int).toNat)), (0, .inr (.inr (some (720)))), (1, .inr (.inr (some (r))))]) (st' := [.inr (.inr (some (720))), .inr (.inr (some (r)))]) rfl ?_
    refine ez_gC (p := 193) (tg := 45) hB t720 rfl rfl tq_52 rfl rfl (fun (t193 : _ = 45) => ?_)
    refine ez_go (n := 1) (pc' := 27) (L' := [(2, .inl (qz_I h 721 (1 : Int).toNat)), (0, .inr (.inr (some (720)))), (1, .inr (.inr (some (r))))]) (st' := [.inl (qz_I h 721 (1 : Int).toNat), .inr (.inr (some (193))), .inr (.inr (some (r)))]) rfl ?_
    have n7 : 4096 ≤ qz_N h 193 ∧ qz_N h 193 ≤ 4096 := ez_len hB t193 tq_45 rfl
    refine ez_aI hB t193 rfl tq_45 rfl rfl (by omega) (by omega) (fun (b6 : -128 ≤ qz_I h 193 (qz_I h 721 (1 : Int).toNat).toNat) (b6' : qz_I h 193 (qz_I h 721 (1 : Int).toNat).toNat ≤ 127) => ?_)
    refine ez_go (n := 3) (pc' := 33) (L' := [(2, .inl (qz_I h 721 (1 : Int).toNat)), (0, .inr (.inr (some (720)))), (1, .inr (.inr (some (r))))]) (st' := [.inr (.inr (some (720))), .inl ((qz_I h 193 (qz_I h 721 (1 : Int).toNat).toNat) * (256)), .inr (.inr (some (r)))]) rfl ?_
    refine ez_gC (p := 193) (tg := 45) hB t720 rfl rfl tq_52 rfl rfl (fun (t193 : _ = 45) => ?_)
    refine ez_go (n := 3) (pc' := 39) (L' := [(2, .inl (qz_I h 721 (1 : Int).toNat)), (0, .inr (.inr (some (720)))), (1, .inr (.inr (some (r))))]) (st' := [.inl ((qz_I h 721 (1 : Int).toNat) + (1)), .inr (.inr (some (193))), .inl ((qz_I h 193 (qz_I h 721 (1 : Int).toNat).toNat) * (256)), .inr (.inr (some (r)))]) rfl ?_
    have n9 : 4096 ≤ qz_N h 193 ∧ qz_N h 193 ≤ 4096 := ez_len hB t193 tq_45 rfl
    refine ez_aI hB t193 rfl tq_45 rfl rfl (by omega) (by omega) (fun (b8 : -128 ≤ qz_I h 193 ((qz_I h 721 (1 : Int).toNat) + (1)).toNat) (b8' : qz_I h 193 ((qz_I h 721 (1 : Int).toNat) + (1)).toNat ≤ 127) => ?_)
    refine ez_go (n := 1) (pc' := 41) (L' := [(2, .inl (qz_I h 721 (1 : Int).toNat)), (0, .inr (.inr (some (720)))), (1, .inr (.inr (some (r))))]) (st' := [.inl (((qz_I h 193 (qz_I h 721 (1 : Int).toNat).toNat) * (256)) + (qz_I h 193 ((qz_I h 721 (1 : Int).toNat) + (1)).toNat)), .inr (.inr (some (r)))]) rfl ?_
    refine ez_pf hB tr rfl rfl tq_3 rfl rfl rfl rfl (ez_vdI rfl rfl (by omega) (by omega)) (fun hB10 w11 => ?_)
    have ne := rz_ne t193 tr rfl
    have hf : ez_fr (ez_one r) h (dz_put h r 1 (ez_v (.inl (((qz_I h 193 (qz_I h 721 (1 : Int).toNat).toNat) * (256)) + (qz_I h 193 ((qz_I h 721 (1 : Int).toNat) + (1)).toNat))))) := (ez_fr.refl (ez_one r) h).put (show Nat.beq r r = true from Nat.beq_refl r) _ _
    have hb := rz_b_fr hf ne
    refine rd_readCategory_b hB10 t720 (by omega) (by omega) (fun e => k1 _ hB10 hf (fun j hj => ez_put_I (fun w => hj w.2)) ?_) (fun e => k0 _ hB10 hf (fun j hj => ez_put_I (fun w => hj w.2)) ?_)
    · rw [hb] at e; exact ⟨by unfold rz_f rz_t; omega, e⟩
    · rw [hb] at e; exact fun w => e w.2
  · skip
    refine ez_go (n := 1) (pc' := 20) (L' := [(2, .inl (qz_I h 721 (1 : Int).toNat)), (0, .inr (.inr (some (720)))), (1, .inr (.inr (some (r))))]) (st' := [.inl (0)]) rfl ?_
    exact ez_retZ rfl rfl (by decide) (k0 h hB (ez_fr.refl _ _) (fun _ _ => rfl) (fun w => by have := w.1; unfold rz_f rz_t at this; omega))

theorem rd_readClass_l {s t dg : Int} (hB : ez_B τ h) (t720 : τ 720 = 52) (tr : τ r = 3) (hs : rz_f h 2 = s) (ht : rz_t h 2 = t) (s0 : 0 ≤ s) (t1 : t ≤ 4096) : ∀ (n : Nat) (i v : Int), s ≤ i → i ≤ t → n = (t - i).toNat → n ≤ 3 → 0 ≤ v → (n = 3 → v ≤ 0) → (n = 2 → v ≤ 9) → (n = 1 → v ≤ 99) → (n = 0 → v ≤ 999) → (∀ g, ez_B τ g → ez_fr (ez_one r) h g → (∀ j, j ≠ 2 → qz_I g r j = qz_I h r j) → qz_I g r 2 = (rz_dec (rz_b h) n i v) → 0 ≤ (rz_dec (rz_b h) n i v) → (rz_dec (rz_b h) n i v) ≤ 254 → Q (.inl (some (ez_v (.inl 1))), g)) → (∀ g, ez_B τ g → ez_fr (ez_one r) h g → (∀ j, j ≠ 2 → qz_I g r j = qz_I h r j) → ¬(0 ≤ (rz_dec (rz_b h) n i v) ∧ (rz_dec (rz_b h) n i v) ≤ 254) → Q (.inl (some (ez_v (.inl 0))), g)) → ez_W d cm_158 36 [(4, .inl (i)), (3, .inl (v)), (0, .inr (.inr (some (720)))), (1, .inr (.inr (some (r)))), (2, .inl (dg))] [] h Q := by
  unfold rz_t at ht
  intro n
  induction n with
  | zero =>
    intro i v i1 i2 hn hn3 v0 b3 b2 b1 b0 k1 k0
    unfold rz_dec at k1 k0
    refine ez_go (n := 2) (pc' := 39) (L' := [(4, .inl (i)), (3, .inl (v)), (0, .inr (.inr (some (720)))), (1, .inr (.inr (some (r)))), (2, .inl (dg))]) (st' := [.inr (.inr (some (720))), .inl (i)]) rfl ?_
    refine ez_gC (p := 722) (tg := 54) hB t720 rfl rfl tq_52 rfl rfl (fun (t722 : _ = 54) => ?_)
    refine ez_go (n := 1) (pc' := 43) (L' := [(4, .inl (i)), (3, .inl (v)), (0, .inr (.inr (some (720)))), (1, .inr (.inr (some (r)))), (2, .inl (dg))]) (st' := [.inl (2), .inr (.inr (some (722))), .inl (i)]) rfl ?_
    have n2 : 7 ≤ qz_N h 722 ∧ qz_N h 722 ≤ 7 := ez_len hB t722 tq_54 rfl
    refine ez_aI hB t722 rfl tq_54 rfl rfl (by omega) (by omega) (fun (b1 : 0 ≤ qz_I h 722 (2 : Int).toNat) (b1' : qz_I h 722 (2 : Int).toNat ≤ 4096) => ?_)
    refine ez_icmp rfl rfl ⟨by omega, by omega⟩ ⟨by omega, by omega⟩ (fun (c3 : (qz_I h 722 (2 : Int).toNat) ≤ (i)) => ?_) (fun (c3 : ¬((qz_I h 722 (2 : Int).toNat) ≤ (i))) => ?_)
    · skip
      refine ez_go (n := 2) (pc' := 97) (L' := [(4, .inl (i)), (3, .inl (v)), (0, .inr (.inr (some (720)))), (1, .inr (.inr (some (r)))), (2, .inl (dg))]) (st' := [.inl (v), .inr (.inr (some (r)))]) rfl ?_
      refine ez_pf hB tr rfl rfl tq_3 rfl rfl rfl rfl (ez_vdI rfl rfl (by omega) (by omega)) (fun hB4 w5 => ?_)
      refine ez_go (n := 2) (pc' := 104) (L' := [(4, .inl (i)), (3, .inl (v)), (0, .inr (.inr (some (720)))), (1, .inr (.inr (some (r)))), (2, .inl (dg))]) (st' := [.inl (254), .inl (v)]) rfl ?_
      refine ez_icmp rfl rfl ⟨by omega, by omega⟩ ⟨by omega, by omega⟩ (fun (c6 : (254) < (v)) => ?_) (fun (c6 : ¬((254) < (v))) => ?_)
      · skip
        refine ez_go (n := 1) (pc' := 112) (L' := [(4, .inl (i)), (3, .inl (v)), (0, .inr (.inr (some (720)))), (1, .inr (.inr (some (r)))), (2, .inl (dg))]) (st' := [.inl (0)]) rfl ?_
        exact ez_retZ rfl rfl (by decide) (k0 _ hB4 ((ez_fr.refl (ez_one r) h).put (show Nat.beq r r = true from Nat.beq_refl r) _ _) (fun j hj => ez_put_I (fun w => hj w.2)) (by omega))
      · skip
        refine ez_go (n := 2) (pc' := 112) (L' := [(4, .inl (i)), (3, .inl (v)), (0, .inr (.inr (some (720)))), (1, .inr (.inr (some (r)))), (2, .inl (dg))]) (st' := [.inl (1)]) rfl ?_
        exact ez_retZ rfl rfl (by decide) (k1 _ hB4 ((ez_fr.refl (ez_one r) h).put (show Nat.beq r r = true from Nat.beq_refl r) _ _) (fun j hj => ez_put_I (fun w => hj w.2)) (by rw [w5]; exact rz_rd ⟨by omega, by omega⟩) (by omega) (by omega))
    · exfalso; omega
  | succ n ih =>
    intro i v i1 i2 hn hn3 v0 b3 b2 b1 b0 k1 k0
    unfold rz_dec at k1 k0
    refine ez_go (n := 2) (pc' := 39) (L' := [(4, .inl (i)), (3, .inl (v)), (0, .inr (.inr (some (720)))), (1, .inr (.inr (some (r)))), (2, .inl (dg))]) (st' := [.inr (.inr (some (720))), .inl (i)]) rfl ?_
    refine ez_gC (p := 722) (tg := 54) hB t720 rfl rfl tq_52 rfl rfl (fun (t722 : _ = 54) => ?_)
    refine ez_go (n := 1) (pc' := 43) (L' := [(4, .inl (i)), (3, .inl (v)), (0, .inr (.inr (some (720)))), (1, .inr (.inr (some (r)))), (2, .inl (dg))]) (st' := [.inl (2), .inr (.inr (some (722))), .inl (i)]) rfl ?_
    have n2 : 7 ≤ qz_N h 722 ∧ qz_N h 722 ≤ 7 := ez_len hB t722 tq_54 rfl
    refine ez_aI hB t722 rfl tq_54 rfl rfl (by omega) (by omega) (fun (b1 : 0 ≤ qz_I h 722 (2 : Int).toNat) (b1' : qz_I h 722 (2 : Int).toNat ≤ 4096) => ?_)
    refine ez_icmp rfl rfl ⟨by omega, by omega⟩ ⟨by omega, by omega⟩ (fun (c3 : (qz_I h 722 (2 : Int).toNat) ≤ (i)) => ?_) (fun (c3 : ¬((qz_I h 722 (2 : Int).toNat) ≤ (i))) => ?_)
    · exfalso; omega
    · skip
      refine ez_go (n := 1) (pc' := 48) (L' := [(4, .inl (i)), (3, .inl (v)), (0, .inr (.inr (some (720)))), (1, .inr (.inr (some (r)))), (2, .inl (dg))]) (st' := [.inr (.inr (some (720)))]) rfl ?_
      refine ez_gC (p := 193) (tg := 45) hB t720 rfl rfl tq_52 rfl rfl (fun (t193 : _ = 45) => ?_)
      refine ez_go (n := 1) (pc' := 53) (L' := [(4, .inl (i)), (3, .inl (v)), (0, .inr (.inr (some (720)))), (1, .inr (.inr (some (r)))), (2, .inl (dg))]) (st' := [.inl (i), .inr (.inr (some (193)))]) rfl ?_
      have n5 : 4096 ≤ qz_N h 193 ∧ qz_N h 193 ≤ 4096 := ez_len hB t193 tq_45 rfl
      refine ez_aI hB t193 rfl tq_45 rfl rfl (by omega) (by omega) (fun (b4 : -128 ≤ qz_I h 193 (i).toNat) (b4' : qz_I h 193 (i).toNat ≤ 127) => ?_)
      refine ez_go (n := 1) (pc' := 56) (L' := [(4, .inl (i)), (3, .inl (v)), (0, .inr (.inr (some (720)))), (1, .inr (.inr (some (r)))), (2, .inl (dg))]) (st' := [.inl (48), .inl (qz_I h 193 (i).toNat)]) rfl ?_
      refine ez_icmp rfl rfl ⟨by omega, by omega⟩ ⟨by omega, by omega⟩ (fun (c6 : (qz_I h 193 (i).toNat) < (48)) => ?_) (fun (c6 : ¬((qz_I h 193 (i).toNat) < (48))) => ?_)
      · skip
        refine ez_go (n := 1) (pc' := 72) (L' := [(4, .inl (i)), (3, .inl (v)), (0, .inr (.inr (some (720)))), (1, .inr (.inr (some (r)))), (2, .inl (dg))]) (st' := [.inl (0)]) rfl ?_
        rw [if_neg (by unfold rz_b; omega)] at k0
        exact ez_retZ rfl rfl (by decide) (k0 h hB (ez_fr.refl _ _) (fun _ _ => rfl) (by omega))
      · skip
        refine ez_go (n := 1) (pc' := 60) (L' := [(4, .inl (i)), (3, .inl (v)), (0, .inr (.inr (some (720)))), (1, .inr (.inr (some (r)))), (2, .inl (dg))]) (st' := [.inr (.inr (some (720)))]) rfl ?_
        refine ez_gC (p := 193) (tg := 45) hB t720 rfl rfl tq_52 rfl rfl (fun (t193 : _ = 45) => ?_)
        refine ez_go (n := 1) (pc' := 65) (L' := [(4, .inl (i)), (3, .inl (v)), (0, .inr (.inr (some (720)))), (1, .inr (.inr (some (r)))), (2, .inl (dg))]) (st' := [.inl (i), .inr (.inr (some (193)))]) rfl ?_
        have n8 : 4096 ≤ qz_N h 193 ∧ qz_N h 193 ≤ 4096 := ez_len hB t193 tq_45 rfl
        refine ez_aI hB t193 rfl tq_45 rfl rfl (by omega) (by omega) (fun (b7 : -128 ≤ qz_I h 193 (i).toNat) (b7' : qz_I h 193 (i).toNat ≤ 127) => ?_)
        refine ez_go (n := 1) (pc' := 68) (L' := [(4, .inl (i)), (3, .inl (v)), (0, .inr (.inr (some (720)))), (1, .inr (.inr (some (r)))), (2, .inl (dg))]) (st' := [.inl (57), .inl (qz_I h 193 (i).toNat)]) rfl ?_
        refine ez_icmp rfl rfl ⟨by omega, by omega⟩ ⟨by omega, by omega⟩ (fun (c9 : (qz_I h 193 (i).toNat) ≤ (57)) => ?_) (fun (c9 : ¬((qz_I h 193 (i).toNat) ≤ (57))) => ?_)
        · skip
          refine ez_go (n := 4) (pc' := 78) (L' := [(4, .inl (i)), (3, .inl (v)), (0, .inr (.inr (some (720)))), (1, .inr (.inr (some (r)))), (2, .inl (dg))]) (st' := [.inr (.inr (some (720))), .inl ((v) * (10))]) rfl ?_
          refine ez_gC (p := 193) (tg := 45) hB t720 rfl rfl tq_52 rfl rfl (fun (t193 : _ = 45) => ?_)
          refine ez_go (n := 1) (pc' := 83) (L' := [(4, .inl (i)), (3, .inl (v)), (0, .inr (.inr (some (720)))), (1, .inr (.inr (some (r)))), (2, .inl (dg))]) (st' := [.inl (i), .inr (.inr (some (193))), .inl ((v) * (10))]) rfl ?_
          have n11 : 4096 ≤ qz_N h 193 ∧ qz_N h 193 ≤ 4096 := ez_len hB t193 tq_45 rfl
          refine ez_aI hB t193 rfl tq_45 rfl rfl (by omega) (by omega) (fun (b10 : -128 ≤ qz_I h 193 (i).toNat) (b10' : qz_I h 193 (i).toNat ≤ 127) => ?_)
          refine ez_go (n := 6) (pc' := 36) (L' := [(4, .inl (i + 1)), (3, .inl ((((v) * (10)) + (qz_I h 193 (i).toNat)) - (48))), (0, .inr (.inr (some (720)))), (1, .inr (.inr (some (r)))), (2, .inl (dg))]) (st' := []) rfl ?_
          refine ez_less [(4, .inl (i + 1)), (3, .inl ((((v) * (10)) + (qz_I h 193 (i).toNat)) - (48))), (0, .inr (.inr (some (720)))), (1, .inr (.inr (some (r)))), (2, .inl (dg))] rfl ⟨rfl, rfl, rfl, rfl, rfl, trivial⟩ ?_
          rw [if_pos (by unfold rz_b; omega)] at k1 k0
          exact ih _ _ (by omega) (by omega) (by omega) (by omega) (by omega) (by omega) (by omega) (by omega) (by omega) k1 k0
        · skip
          refine ez_go (n := 1) (pc' := 72) (L' := [(4, .inl (i)), (3, .inl (v)), (0, .inr (.inr (some (720)))), (1, .inr (.inr (some (r)))), (2, .inl (dg))]) (st' := [.inl (0)]) rfl ?_
          rw [if_neg (by unfold rz_b; omega)] at k0
          exact ez_retZ rfl rfl (by decide) (k0 h hB (ez_fr.refl _ _) (fun _ _ => rfl) (by omega))
theorem rd_readClass (hB : ez_B τ h) (t720 : τ 720 = 52) (tr : τ r = 3) (k1 : ∀ g, ez_B τ g → ez_fr (ez_one r) h g → (∀ j, j ≠ 2 → qz_I g r j = qz_I h r j) → qz_I g r 2 = (rz_dec (rz_b h) (rz_t h 2 - rz_f h 2).toNat (rz_f h 2) 0) → 1 ≤ rz_t h 2 - rz_f h 2 → rz_t h 2 - rz_f h 2 ≤ 3 → 0 ≤ (rz_dec (rz_b h) (rz_t h 2 - rz_f h 2).toNat (rz_f h 2) 0) → (rz_dec (rz_b h) (rz_t h 2 - rz_f h 2).toNat (rz_f h 2) 0) ≤ 254 → Q (.inl (some (ez_v (.inl 1))), g)) (k0 : ∀ g, ez_B τ g → ez_fr (ez_one r) h g → (∀ j, j ≠ 2 → qz_I g r j = qz_I h r j) → ¬((1 ≤ rz_t h 2 - rz_f h 2 ∧ rz_t h 2 - rz_f h 2 ≤ 3) ∧ (0 ≤ (rz_dec (rz_b h) (rz_t h 2 - rz_f h 2).toNat (rz_f h 2) 0) ∧ (rz_dec (rz_b h) (rz_t h 2 - rz_f h 2).toNat (rz_f h 2) 0) ≤ 254)) → Q (.inl (some (ez_v (.inl 0))), g)) : ez_W d cm_158 0 [(0, .inr (.inr (some (720)))), (1, .inr (.inr (some (r))))] [] h Q := by
  refine ez_go (n := 1) (pc' := 1) (L' := [(0, .inr (.inr (some (720)))), (1, .inr (.inr (some (r))))]) (st' := [.inr (.inr (some (720)))]) rfl ?_
  refine ez_gC (p := 722) (tg := 54) hB t720 rfl rfl tq_52 rfl rfl (fun (t722 : _ = 54) => ?_)
  refine ez_go (n := 1) (pc' := 5) (L' := [(0, .inr (.inr (some (720)))), (1, .inr (.inr (some (r))))]) (st' := [.inl (2), .inr (.inr (some (722)))]) rfl ?_
  have n2 : 7 ≤ qz_N h 722 ∧ qz_N h 722 ≤ 7 := ez_len hB t722 tq_54 rfl
  refine ez_aI hB t722 rfl tq_54 rfl rfl (by omega) (by omega) (fun (b1 : 0 ≤ qz_I h 722 (2 : Int).toNat) (b1' : qz_I h 722 (2 : Int).toNat ≤ 4096) => ?_)
  refine ez_go (n := 1) (pc' := 7) (L' := [(0, .inr (.inr (some (720)))), (1, .inr (.inr (some (r))))]) (st' := [.inr (.inr (some (720))), .inl (qz_I h 722 (2 : Int).toNat)]) rfl ?_
  refine ez_gC (p := 721) (tg := 53) hB t720 rfl rfl tq_52 rfl rfl (fun (t721 : _ = 53) => ?_)
  refine ez_go (n := 1) (pc' := 11) (L' := [(0, .inr (.inr (some (720)))), (1, .inr (.inr (some (r))))]) (st' := [.inl (2), .inr (.inr (some (721))), .inl (qz_I h 722 (2 : Int).toNat)]) rfl ?_
  have n4 : 7 ≤ qz_N h 721 ∧ qz_N h 721 ≤ 7 := ez_len hB t721 tq_53 rfl
  refine ez_aI hB t721 rfl tq_53 rfl rfl (by omega) (by omega) (fun (b3 : 0 ≤ qz_I h 721 (2 : Int).toNat) (b3' : qz_I h 721 (2 : Int).toNat ≤ 4096) => ?_)
  refine ez_go (n := 4) (pc' := 16) (L' := [(2, .inl ((qz_I h 722 (2 : Int).toNat) - (qz_I h 721 (2 : Int).toNat))), (0, .inr (.inr (some (720)))), (1, .inr (.inr (some (r))))]) (st' := [.inl (1), .inl ((qz_I h 722 (2 : Int).toNat) - (qz_I h 721 (2 : Int).toNat))]) rfl ?_
  refine ez_icmp rfl rfl ⟨by omega, by omega⟩ ⟨by omega, by omega⟩ (fun (c5 : ((qz_I h 722 (2 : Int).toNat) - (qz_I h 721 (2 : Int).toNat)) < (1)) => ?_) (fun (c5 : ¬(((qz_I h 722 (2 : Int).toNat) - (qz_I h 721 (2 : Int).toNat)) < (1))) => ?_)
  · skip
    refine ez_go (n := 1) (pc' := 25) (L' := [(2, .inl ((qz_I h 722 (2 : Int).toNat) - (qz_I h 721 (2 : Int).toNat))), (0, .inr (.inr (some (720)))), (1, .inr (.inr (some (r))))]) (st' := [.inl (0)]) rfl ?_
    exact ez_retZ rfl rfl (by decide) (k0 h hB (ez_fr.refl _ _) (fun _ _ => rfl) (fun w => by have := w.1; unfold rz_f rz_t at this; omega))
  · skip
    refine ez_go (n := 2) (pc' := 21) (L' := [(2, .inl ((qz_I h 722 (2 : Int).toNat) - (qz_I h 721 (2 : Int).toNat))), (0, .inr (.inr (some (720)))), (1, .inr (.inr (some (r))))]) (st' := [.inl (3), .inl ((qz_I h 722 (2 : Int).toNat) - (qz_I h 721 (2 : Int).toNat))]) rfl ?_
    refine ez_icmp rfl rfl ⟨by omega, by omega⟩ ⟨by omega, by omega⟩ (fun (c6 : ((qz_I h 722 (2 : Int).toNat) - (qz_I h 721 (2 : Int).toNat)) ≤ (3)) => ?_) (fun (c6 : ¬(((qz_I h 722 (2 : Int).toNat) - (qz_I h 721 (2 : Int).toNat)) ≤ (3))) => ?_)
    · skip
      refine ez_go (n := 3) (pc' := 29) (L' := [(3, .inl (0)), (2, .inl ((qz_I h 722 (2 : Int).toNat) - (qz_I h 721 (2 : Int).toNat))), (0, .inr (.inr (some (720)))), (1, .inr (.inr (some (r))))]) (st' := [.inr (.inr (some (720)))]) rfl ?_
      refine ez_gC (p := 721) (tg := 53) hB t720 rfl rfl tq_52 rfl rfl (fun (t721 : _ = 53) => ?_)
      refine ez_go (n := 1) (pc' := 33) (L' := [(3, .inl (0)), (2, .inl ((qz_I h 722 (2 : Int).toNat) - (qz_I h 721 (2 : Int).toNat))), (0, .inr (.inr (some (720)))), (1, .inr (.inr (some (r))))]) (st' := [.inl (2), .inr (.inr (some (721)))]) rfl ?_
      have n8 : 7 ≤ qz_N h 721 ∧ qz_N h 721 ≤ 7 := ez_len hB t721 tq_53 rfl
      refine ez_aI hB t721 rfl tq_53 rfl rfl (by omega) (by omega) (fun (b7 : 0 ≤ qz_I h 721 (2 : Int).toNat) (b7' : qz_I h 721 (2 : Int).toNat ≤ 4096) => ?_)
      refine ez_go (n := 1) (pc' := 36) (L' := [(4, .inl (qz_I h 721 (2 : Int).toNat)), (3, .inl (0)), (2, .inl ((qz_I h 722 (2 : Int).toNat) - (qz_I h 721 (2 : Int).toNat))), (0, .inr (.inr (some (720)))), (1, .inr (.inr (some (r))))]) (st' := []) rfl ?_
      refine ez_less [(4, .inl (qz_I h 721 (2 : Int).toNat)), (3, .inl (0)), (0, .inr (.inr (some (720)))), (1, .inr (.inr (some (r)))), (2, .inl ((qz_I h 722 (2 : Int).toNat) - (qz_I h 721 (2 : Int).toNat)))] rfl ⟨rfl, rfl, rfl, rfl, rfl, trivial⟩ ?_
      have hs2 : qz_I h 721 (2 : Int).toNat = rz_f h 2 := rfl
      have ht2 : qz_I h 722 (2 : Int).toNat = rz_t h 2 := rfl
      rw [hs2]
      exact rd_readClass_l hB t720 tr rfl rfl (by omega) (by omega) _ _ _ (by omega) (by omega) rfl (by omega) (by omega) (by omega) (by omega) (by omega) (by omega) (fun g e1 e2 e3 e4 e5 e6 => k1 g e1 e2 e3 e4 (by omega) (by omega) e5 e6) (fun g e1 e2 e3 e4 => k0 g e1 e2 e3 (fun w => e4 w.2))
    · skip
      refine ez_go (n := 1) (pc' := 25) (L' := [(2, .inl ((qz_I h 722 (2 : Int).toNat) - (qz_I h 721 (2 : Int).toNat))), (0, .inr (.inr (some (720)))), (1, .inr (.inr (some (r))))]) (st' := [.inl (0)]) rfl ?_
      exact ez_retZ rfl rfl (by decide) (k0 h hB (ez_fr.refl _ _) (fun _ _ => rfl) (fun w => by have := w.1; unfold rz_f rz_t at this; omega))

end EzRd6
