/-! The reader of the class, functionally. (Written by wip/p2/py/pv2.py.) -/
/-- runs over bytes: at most n of them from i on -/
def rz_skip (b : Int → Int) : Nat → Int → Int
  | 0, i => i
  | n + 1, i => if b i = 9 ∨ b i = 32 then rz_skip b n (i + 1) else i
def rz_tok (b : Int → Int) : Nat → Int → Int
  | 0, i => i
  | n + 1, i => if b i = 9 ∨ b i = 32 then i else rz_tok b n (i + 1)
def rz_hex (b : Int → Int) : Nat → Int → Int → Int
  | 0, _, v => v
  | n + 1, i, v => if 48 ≤ b i ∧ b i ≤ 57 then rz_hex b n (i + 1) (v * 16 + b i - 48) else if 65 ≤ b i ∧ b i ≤ 70 then rz_hex b n (i + 1) (v * 16 + b i - 65 + 10) else -1
theorem rz_skip_le (b : Int → Int) : ∀ n i, i ≤ rz_skip b n i ∧ rz_skip b n i ≤ i + n
  | 0, i => ⟨Int.le_refl i, by show i ≤ i + 0; omega⟩
  | n + 1, i => by
    unfold rz_skip
    split
    · have := rz_skip_le b n (i + 1); omega
    · omega
theorem rz_tok_le (b : Int → Int) : ∀ n i, i ≤ rz_tok b n i ∧ rz_tok b n i ≤ i + n
  | 0, i => ⟨Int.le_refl i, by show i ≤ i + 0; omega⟩
  | n + 1, i => by
    unfold rz_tok
    split
    · omega
    · have := rz_tok_le b n (i + 1); omega
section EzRd2
variable {d : Nat} {h : cz_H} {τ : Nat → Nat} {Q : cz_F → Prop}
theorem rd_skipBlanks_l {begin stop : Int} (hB : ez_B τ h) (t720 : τ 720 = 52) (h0 : 0 ≤ begin) (h1 : stop ≤ 4096) : ∀ (n : Nat) (i : Int), begin ≤ i → i ≤ stop → n = (stop - i).toNat → Q (.inl (some (ez_v (.inl (rz_skip (rz_b h) n i)))), h) → ez_W (d + 1) cm_169 2 [(3, .inl (i)), (0, .inr (.inr (some (720)))), (1, .inl (begin)), (2, .inl (stop))] [] h Q := by
  intro n
  induction n with
  | zero =>
    intro i hi1 hi2 hn k
    refine ez_go (n := 2) (pc' := 4) (L' := [(3, .inl (i)), (0, .inr (.inr (some (720)))), (1, .inl (begin)), (2, .inl (stop))]) (st' := [.inl (stop), .inl (i)]) rfl ?_
    refine ez_icmp rfl rfl ⟨by omega, by omega⟩ ⟨by omega, by omega⟩ (fun (c1 : (stop) ≤ (i)) => ?_) (fun (c1 : ¬((stop) ≤ (i))) => ?_)
    · skip
      refine ez_go (n := 1) (pc' := 22) (L' := [(3, .inl (i)), (0, .inr (.inr (some (720)))), (1, .inl (begin)), (2, .inl (stop))]) (st' := [.inl (i)]) rfl ?_
      exact ez_retI rfl rfl k
    · skip
      refine ez_go (n := 2) (pc' := 9) (L' := [(3, .inl (i)), (0, .inr (.inr (some (720)))), (1, .inl (begin)), (2, .inl (stop))]) (st' := [.inl (i), .inr (.inr (some (720)))]) rfl ?_
      exfalso; omega
  | succ n ih =>
    intro i hi1 hi2 hn k
    unfold rz_skip at k
    refine ez_go (n := 2) (pc' := 4) (L' := [(3, .inl (i)), (0, .inr (.inr (some (720)))), (1, .inl (begin)), (2, .inl (stop))]) (st' := [.inl (stop), .inl (i)]) rfl ?_
    refine ez_icmp rfl rfl ⟨by omega, by omega⟩ ⟨by omega, by omega⟩ (fun (c1 : (stop) ≤ (i)) => ?_) (fun (c1 : ¬((stop) ≤ (i))) => ?_)
    · skip
      refine ez_go (n := 1) (pc' := 22) (L' := [(3, .inl (i)), (0, .inr (.inr (some (720)))), (1, .inl (begin)), (2, .inl (stop))]) (st' := [.inl (i)]) rfl ?_
      first | (exfalso; omega) | (rw [if_neg (show ¬(rz_b h i = 9 ∨ rz_b h i = 32) from ‹_›)] at k; exact ez_retI rfl rfl k)
    · skip
      refine ez_go (n := 2) (pc' := 9) (L' := [(3, .inl (i)), (0, .inr (.inr (some (720)))), (1, .inl (begin)), (2, .inl (stop))]) (st' := [.inl (i), .inr (.inr (some (720)))]) rfl ?_
      refine ez_cv hB t720 rfl rfl rfl tq_52 rfl rfl rfl (rd_isBlank hB t720 (by omega) (by omega) (fun (e2 : rz_bl h (i)) => ez_K1 ?_) (fun (e2 : ¬ rz_bl h (i)) => ez_K1 ?_))
      · skip
        refine ez_if rfl rfl ⟨by decide, by decide⟩ (fun (c3 : (1 : Int) = (0)) => absurd c3 (by decide)) (fun _ => ?_)
        refine ez_go (n := 2) (pc' := 2) (L' := [(3, .inl (i + 1)), (0, .inr (.inr (some (720)))), (1, .inl (begin)), (2, .inl (stop))]) (st' := []) rfl ?_
        rw [if_pos (show rz_b h i = 9 ∨ rz_b h i = 32 from ‹_›)] at k
        exact ih _ (by omega) (by omega) (by omega) k
      · skip
        refine ez_if rfl rfl ⟨by decide, by decide⟩ (fun _ => ?_) (fun (c4 : ¬((0 : Int) = (0))) => absurd c4 (by decide))
        refine ez_go (n := 1) (pc' := 22) (L' := [(3, .inl (i)), (0, .inr (.inr (some (720)))), (1, .inl (begin)), (2, .inl (stop))]) (st' := [.inl (i)]) rfl ?_
        first | (exfalso; omega) | (rw [if_neg (show ¬(rz_b h i = 9 ∨ rz_b h i = 32) from ‹_›)] at k; exact ez_retI rfl rfl k)
theorem rd_skipBlanks {begin stop : Int} (hB : ez_B τ h) (t720 : τ 720 = 52) (h0 : 0 ≤ begin) (hbs : begin ≤ stop) (h1 : stop ≤ 4096) (k : Q (.inl (some (ez_v (.inl (rz_skip (rz_b h) (stop - begin).toNat begin)))), h)) : ez_W (d + 1) cm_169 0 [(0, .inr (.inr (some (720)))), (1, .inl (begin)), (2, .inl (stop))] [] h Q := by
  refine ez_go (n := 2) (pc' := 2) (L' := [(3, .inl (begin)), (0, .inr (.inr (some (720)))), (1, .inl (begin)), (2, .inl (stop))]) (st' := []) rfl ?_
  exact rd_skipBlanks_l hB t720 h0 h1 _ _ (by omega) (by omega) rfl k

theorem rd_skipToken_l {begin stop : Int} (hB : ez_B τ h) (t720 : τ 720 = 52) (h0 : 0 ≤ begin) (h1 : stop ≤ 4096) : ∀ (n : Nat) (i : Int), begin ≤ i → i ≤ stop → n = (stop - i).toNat → Q (.inl (some (ez_v (.inl (rz_tok (rz_b h) n i)))), h) → ez_W (d + 1) cm_171 2 [(3, .inl (i)), (0, .inr (.inr (some (720)))), (1, .inl (begin)), (2, .inl (stop))] [] h Q := by
  intro n
  induction n with
  | zero =>
    intro i hi1 hi2 hn k
    refine ez_go (n := 2) (pc' := 4) (L' := [(3, .inl (i)), (0, .inr (.inr (some (720)))), (1, .inl (begin)), (2, .inl (stop))]) (st' := [.inl (stop), .inl (i)]) rfl ?_
    refine ez_icmp rfl rfl ⟨by omega, by omega⟩ ⟨by omega, by omega⟩ (fun (c1 : (stop) ≤ (i)) => ?_) (fun (c1 : ¬((stop) ≤ (i))) => ?_)
    · skip
      refine ez_go (n := 1) (pc' := 22) (L' := [(3, .inl (i)), (0, .inr (.inr (some (720)))), (1, .inl (begin)), (2, .inl (stop))]) (st' := [.inl (i)]) rfl ?_
      exact ez_retI rfl rfl k
    · skip
      refine ez_go (n := 2) (pc' := 9) (L' := [(3, .inl (i)), (0, .inr (.inr (some (720)))), (1, .inl (begin)), (2, .inl (stop))]) (st' := [.inl (i), .inr (.inr (some (720)))]) rfl ?_
      exfalso; omega
  | succ n ih =>
    intro i hi1 hi2 hn k
    unfold rz_tok at k
    refine ez_go (n := 2) (pc' := 4) (L' := [(3, .inl (i)), (0, .inr (.inr (some (720)))), (1, .inl (begin)), (2, .inl (stop))]) (st' := [.inl (stop), .inl (i)]) rfl ?_
    refine ez_icmp rfl rfl ⟨by omega, by omega⟩ ⟨by omega, by omega⟩ (fun (c1 : (stop) ≤ (i)) => ?_) (fun (c1 : ¬((stop) ≤ (i))) => ?_)
    · skip
      refine ez_go (n := 1) (pc' := 22) (L' := [(3, .inl (i)), (0, .inr (.inr (some (720)))), (1, .inl (begin)), (2, .inl (stop))]) (st' := [.inl (i)]) rfl ?_
      first | (exfalso; omega) | (rw [if_pos (show rz_b h i = 9 ∨ rz_b h i = 32 from ‹_›)] at k; exact ez_retI rfl rfl k)
    · skip
      refine ez_go (n := 2) (pc' := 9) (L' := [(3, .inl (i)), (0, .inr (.inr (some (720)))), (1, .inl (begin)), (2, .inl (stop))]) (st' := [.inl (i), .inr (.inr (some (720)))]) rfl ?_
      refine ez_cv hB t720 rfl rfl rfl tq_52 rfl rfl rfl (rd_isBlank hB t720 (by omega) (by omega) (fun (e2 : rz_bl h (i)) => ez_K1 ?_) (fun (e2 : ¬ rz_bl h (i)) => ez_K1 ?_))
      · skip
        refine ez_if rfl rfl ⟨by decide, by decide⟩ (fun _ => ?_) (fun (c3 : ¬((1 : Int) ≠ (0))) => absurd c3 (by decide))
        refine ez_go (n := 1) (pc' := 22) (L' := [(3, .inl (i)), (0, .inr (.inr (some (720)))), (1, .inl (begin)), (2, .inl (stop))]) (st' := [.inl (i)]) rfl ?_
        first | (exfalso; omega) | (rw [if_pos (show rz_b h i = 9 ∨ rz_b h i = 32 from ‹_›)] at k; exact ez_retI rfl rfl k)
      · skip
        refine ez_if rfl rfl ⟨by decide, by decide⟩ (fun (c4 : (0 : Int) ≠ (0)) => absurd c4 (by decide)) (fun _ => ?_)
        refine ez_go (n := 2) (pc' := 2) (L' := [(3, .inl (i + 1)), (0, .inr (.inr (some (720)))), (1, .inl (begin)), (2, .inl (stop))]) (st' := []) rfl ?_
        rw [if_neg (show ¬(rz_b h i = 9 ∨ rz_b h i = 32) from ‹_›)] at k
        exact ih _ (by omega) (by omega) (by omega) k
theorem rd_skipToken {begin stop : Int} (hB : ez_B τ h) (t720 : τ 720 = 52) (h0 : 0 ≤ begin) (hbs : begin ≤ stop) (h1 : stop ≤ 4096) (k : Q (.inl (some (ez_v (.inl (rz_tok (rz_b h) (stop - begin).toNat begin)))), h)) : ez_W (d + 1) cm_171 0 [(0, .inr (.inr (some (720)))), (1, .inl (begin)), (2, .inl (stop))] [] h Q := by
  refine ez_go (n := 2) (pc' := 2) (L' := [(3, .inl (begin)), (0, .inr (.inr (some (720)))), (1, .inl (begin)), (2, .inl (stop))]) (st' := []) rfl ?_
  exact rd_skipToken_l hB t720 h0 h1 _ _ (by omega) (by omega) rfl k

theorem rd_readHex_l {begin stop : Int} (hB : ez_B τ h) (t720 : τ 720 = 52) (h0 : 0 ≤ begin) (h1 : stop ≤ 4096) : ∀ (n : Nat) (i v : Int), begin ≤ i → i ≤ stop → n = (stop - i).toNat → Q (.inl (some (ez_v (.inl (rz_hex (rz_b h) n i v)))), h) → ez_W d cm_165 5 [(4, .inl (i)), (3, .inl (v)), (0, .inr (.inr (some (720)))), (1, .inl (begin)), (2, .inl (stop))] [] h Q := by
  intro n
  induction n with
  | zero =>
    intro i v hi1 hi2 hn k
    refine ez_go (n := 2) (pc' := 8) (L' := [(4, .inl (i)), (3, .inl (v)), (0, .inr (.inr (some (720)))), (1, .inl (begin)), (2, .inl (stop))]) (st' := [.inl (stop), .inl (i)]) rfl ?_
    refine ez_icmp rfl rfl ⟨by omega, by omega⟩ ⟨by omega, by omega⟩ (fun (c1 : (stop) ≤ (i)) => ?_) (fun (c1 : ¬((stop) ≤ (i))) => ?_)
    · skip
      refine ez_go (n := 1) (pc' := 88) (L' := [(4, .inl (i)), (3, .inl (v)), (0, .inr (.inr (some (720)))), (1, .inl (begin)), (2, .inl (stop))]) (st' := [.inl (v)]) rfl ?_
      exact ez_retI rfl rfl k
    · skip
      exfalso; omega
  | succ n ih =>
    intro i v hi1 hi2 hn k
    unfold rz_hex rz_b at k
    refine ez_go (n := 2) (pc' := 8) (L' := [(4, .inl (i)), (3, .inl (v)), (0, .inr (.inr (some (720)))), (1, .inl (begin)), (2, .inl (stop))]) (st' := [.inl (stop), .inl (i)]) rfl ?_
    refine ez_icmp rfl rfl ⟨by omega, by omega⟩ ⟨by omega, by omega⟩ (fun (c1 : (stop) ≤ (i)) => ?_) (fun (c1 : ¬((stop) ≤ (i))) => ?_)
    · skip
      refine ez_go (n := 1) (pc' := 88) (L' := [(4, .inl (i)), (3, .inl (v)), (0, .inr (.inr (some (720)))), (1, .inl (begin)), (2, .inl (stop))]) (st' := [.inl (v)]) rfl ?_
      first | (exfalso; omega) | (rw [if_neg (by omega), if_neg (by omega)] at k; exact ez_retI rfl rfl k)
    · skip
      refine ez_go (n := 1) (pc' := 12) (L' := [(4, .inl (i)), (3, .inl (v)), (0, .inr (.inr (some (720)))), (1, .inl (begin)), (2, .inl (stop))]) (st' := [.inr (.inr (some (720)))]) rfl ?_
      refine ez_gC (p := 193) (tg := 45) hB t720 rfl rfl tq_52 rfl rfl (fun (t193 : _ = 45) => ?_)
      refine ez_go (n := 1) (pc' := 17) (L' := [(4, .inl (i)), (3, .inl (v)), (0, .inr (.inr (some (720)))), (1, .inl (begin)), (2, .inl (stop))]) (st' := [.inl (i), .inr (.inr (some (193)))]) rfl ?_
      have n3 : 4096 ≤ qz_N h 193 ∧ qz_N h 193 ≤ 4096 := ez_len hB t193 tq_45 rfl
      refine ez_aI hB t193 rfl tq_45 rfl rfl (by omega) (by omega) (fun (b2 : -128 ≤ qz_I h 193 (i).toNat) (b2' : qz_I h 193 (i).toNat ≤ 127) => ?_)
      refine ez_go (n := 3) (pc' := 24) (L' := [(5, .inl (qz_I h 193 (i).toNat)), (4, .inl (i)), (3, .inl (v)), (0, .inr (.inr (some (720)))), (1, .inl (begin)), (2, .inl (stop))]) (st' := [.inl (48), .inl (qz_I h 193 (i).toNat)]) rfl ?_
      refine ez_icmp rfl rfl ⟨by omega, by omega⟩ ⟨by omega, by omega⟩ (fun (c4 : (qz_I h 193 (i).toNat) < (48)) => ?_) (fun (c4 : ¬((qz_I h 193 (i).toNat) < (48))) => ?_)
      · skip
        refine ez_go (n := 2) (pc' := 52) (L' := [(5, .inl (qz_I h 193 (i).toNat)), (4, .inl (i)), (3, .inl (v)), (0, .inr (.inr (some (720)))), (1, .inl (begin)), (2, .inl (stop))]) (st' := [.inl (65), .inl (qz_I h 193 (i).toNat)]) rfl ?_
        refine ez_icmp rfl rfl ⟨by omega, by omega⟩ ⟨by omega, by omega⟩ (fun (c5 : (qz_I h 193 (i).toNat) < (65)) => ?_) (fun (c5 : ¬((qz_I h 193 (i).toNat) < (65))) => ?_)
        · skip
          refine ez_go (n := 1) (pc' := 80) (L' := [(5, .inl (qz_I h 193 (i).toNat)), (4, .inl (i)), (3, .inl (v)), (0, .inr (.inr (some (720)))), (1, .inl (begin)), (2, .inl (stop))]) (st' := [.inl (-1)]) rfl ?_
          first | (exfalso; omega) | (rw [if_neg (by omega), if_neg (by omega)] at k; exact ez_retI rfl rfl k)
        · skip
          refine ez_go (n := 2) (pc' := 59) (L' := [(5, .inl (qz_I h 193 (i).toNat)), (4, .inl (i)), (3, .inl (v)), (0, .inr (.inr (some (720)))), (1, .inl (begin)), (2, .inl (stop))]) (st' := [.inl (70), .inl (qz_I h 193 (i).toNat)]) rfl ?_
          refine ez_icmp rfl rfl ⟨by omega, by omega⟩ ⟨by omega, by omega⟩ (fun (c6 : (70) < (qz_I h 193 (i).toNat)) => ?_) (fun (c6 : ¬((70) < (qz_I h 193 (i).toNat))) => ?_)
          · skip
            refine ez_go (n := 1) (pc' := 80) (L' := [(5, .inl (qz_I h 193 (i).toNat)), (4, .inl (i)), (3, .inl (v)), (0, .inr (.inr (some (720)))), (1, .inl (begin)), (2, .inl (stop))]) (st' := [.inl (-1)]) rfl ?_
            first | (exfalso; omega) | (rw [if_neg (by omega), if_neg (by omega)] at k; exact ez_retI rfl rfl k)
          · skip
            refine ez_go (n := 13) (pc' := 5) (L' := [(4, .inl (i + 1)), (3, .inl (((((v) * (16)) + (qz_I h 193 (i).toNat)) - (65)) + (10))), (5, .inl (qz_I h 193 (i).toNat)), (0, .inr (.inr (some (720)))), (1, .inl (begin)), (2, .inl (stop))]) (st' := []) rfl ?_
            refine ez_less [(4, .inl (i + 1)), (3, .inl (((((v) * (16)) + (qz_I h 193 (i).toNat)) - (65)) + (10))), (0, .inr (.inr (some (720)))), (1, .inl (begin)), (2, .inl (stop))] rfl ⟨rfl, rfl, rfl, rfl, rfl, trivial⟩ ?_
            first | (rw [if_pos (by omega)] at k; exact ih _ _ (by omega) (by omega) (by omega) k) | (rw [if_neg (by omega), if_pos (by omega)] at k; exact ih _ _ (by omega) (by omega) (by omega) k)
      · skip
        refine ez_go (n := 2) (pc' := 31) (L' := [(5, .inl (qz_I h 193 (i).toNat)), (4, .inl (i)), (3, .inl (v)), (0, .inr (.inr (some (720)))), (1, .inl (begin)), (2, .inl (stop))]) (st' := [.inl (57), .inl (qz_I h 193 (i).toNat)]) rfl ?_
        refine ez_icmp rfl rfl ⟨by omega, by omega⟩ ⟨by omega, by omega⟩ (fun (c7 : (57) < (qz_I h 193 (i).toNat)) => ?_) (fun (c7 : ¬((57) < (qz_I h 193 (i).toNat))) => ?_)
        · skip
          refine ez_go (n := 2) (pc' := 52) (L' := [(5, .inl (qz_I h 193 (i).toNat)), (4, .inl (i)), (3, .inl (v)), (0, .inr (.inr (some (720)))), (1, .inl (begin)), (2, .inl (stop))]) (st' := [.inl (65), .inl (qz_I h 193 (i).toNat)]) rfl ?_
          refine ez_icmp rfl rfl ⟨by omega, by omega⟩ ⟨by omega, by omega⟩ (fun (c8 : (qz_I h 193 (i).toNat) < (65)) => ?_) (fun (c8 : ¬((qz_I h 193 (i).toNat) < (65))) => ?_)
          · skip
            refine ez_go (n := 1) (pc' := 80) (L' := [(5, .inl (qz_I h 193 (i).toNat)), (4, .inl (i)), (3, .inl (v)), (0, .inr (.inr (some (720)))), (1, .inl (begin)), (2, .inl (stop))]) (st' := [.inl (-1)]) rfl ?_
            first | (exfalso; omega) | (rw [if_neg (by omega), if_neg (by omega)] at k; exact ez_retI rfl rfl k)
          · skip
            refine ez_go (n := 2) (pc' := 59) (L' := [(5, .inl (qz_I h 193 (i).toNat)), (4, .inl (i)), (3, .inl (v)), (0, .inr (.inr (some (720)))), (1, .inl (begin)), (2, .inl (stop))]) (st' := [.inl (70), .inl (qz_I h 193 (i).toNat)]) rfl ?_
            refine ez_icmp rfl rfl ⟨by omega, by omega⟩ ⟨by omega, by omega⟩ (fun (c9 : (70) < (qz_I h 193 (i).toNat)) => ?_) (fun (c9 : ¬((70) < (qz_I h 193 (i).toNat))) => ?_)
            · skip
              refine ez_go (n := 1) (pc' := 80) (L' := [(5, .inl (qz_I h 193 (i).toNat)), (4, .inl (i)), (3, .inl (v)), (0, .inr (.inr (some (720)))), (1, .inl (begin)), (2, .inl (stop))]) (st' := [.inl (-1)]) rfl ?_
              first | (exfalso; omega) | (rw [if_neg (by omega), if_neg (by omega)] at k; exact ez_retI rfl rfl k)
            · skip
              refine ez_go (n := 13) (pc' := 5) (L' := [(4, .inl (i + 1)), (3, .inl (((((v) * (16)) + (qz_I h 193 (i).toNat)) - (65)) + (10))), (5, .inl (qz_I h 193 (i).toNat)), (0, .inr (.inr (some (720)))), (1, .inl (begin)), (2, .inl (stop))]) (st' := []) rfl ?_
              refine ez_less [(4, .inl (i + 1)), (3, .inl (((((v) * (16)) + (qz_I h 193 (i).toNat)) - (65)) + (10))), (0, .inr (.inr (some (720)))), (1, .inl (begin)), (2, .inl (stop))] rfl ⟨rfl, rfl, rfl, rfl, rfl, trivial⟩ ?_
              first | (rw [if_pos (by omega)] at k; exact ih _ _ (by omega) (by omega) (by omega) k) | (rw [if_neg (by omega), if_pos (by omega)] at k; exact ih _ _ (by omega) (by omega) (by omega) k)
        · skip
          refine ez_go (n := 11) (pc' := 5) (L' := [(4, .inl (i + 1)), (3, .inl ((((v) * (16)) + (qz_I h 193 (i).toNat)) - (48))), (5, .inl (qz_I h 193 (i).toNat)), (0, .inr (.inr (some (720)))), (1, .inl (begin)), (2, .inl (stop))]) (st' := []) rfl ?_
          refine ez_less [(4, .inl (i + 1)), (3, .inl ((((v) * (16)) + (qz_I h 193 (i).toNat)) - (48))), (0, .inr (.inr (some (720)))), (1, .inl (begin)), (2, .inl (stop))] rfl ⟨rfl, rfl, rfl, rfl, rfl, trivial⟩ ?_
          first | (rw [if_pos (by omega)] at k; exact ih _ _ (by omega) (by omega) (by omega) k) | (rw [if_neg (by omega), if_pos (by omega)] at k; exact ih _ _ (by omega) (by omega) (by omega) k)
theorem rd_readHex {begin stop : Int} (hB : ez_B τ h) (t720 : τ 720 = 52) (h0 : 0 ≤ begin) (hbs : begin ≤ stop) (h1 : stop ≤ 4096) (k : Q (.inl (some (ez_v (.inl (rz_hex (rz_b h) (stop - begin).toNat begin 0)))), h)) : ez_W d cm_165 0 [(0, .inr (.inr (some (720)))), (1, .inl (begin)), (2, .inl (stop))] [] h Q := by
  refine ez_go (n := 4) (pc' := 5) (L' := [(4, .inl (begin)), (3, .inl (0)), (0, .inr (.inr (some (720)))), (1, .inl (begin)), (2, .inl (stop))]) (st' := []) rfl ?_
  exact rd_readHex_l hB t720 h0 h1 _ _ _ (by omega) (by omega) rfl k

end EzRd2
