/-! The reader of the class, functionally, II. (Written by wip/p2/py/pv3.py.) -/
def rz_pl (b : Int → Int) (i : Int) : Prop := b i = 9 ∨ (32 ≤ b i ∧ b i ≤ 126)
def rz_plain (b : Int → Int) (n : Int) : Prop := ∀ i, 0 ≤ i → i < n → rz_pl b i
/-- a CODE from s to e, or -1 -/
def rz_code (b : Int → Int) (s e : Int) : Int := if e - s < 4 ∨ 6 < e - s ∨ (4 < e - s ∧ b s = 48) then -1 else if rz_hex b (e - s).toNat s 0 ≤ 1114111 then rz_hex b (e - s).toNat s 0 else -1
/-- six digits at most: no more than 16777215 -/
theorem rz_hex_bd (b : Int → Int) : ∀ (n : Nat) (i v m : Int), 0 ≤ v → v < m → 0 < m → -1 ≤ rz_hex b n i v ∧ rz_hex b n i v < m * 16 ^ n
  | 0, i, v, m, h0, h1, h2 => by unfold rz_hex; simp; omega
  | n + 1, i, v, m, h0, h1, h2 => by
    have e : m * 16 ^ (n + 1) = (m * 16) * 16 ^ n := by rw [Int.pow_succ, Int.mul_comm (16 ^ n) 16, Int.mul_assoc]
    unfold rz_hex
    rw [e]
    split
    · exact rz_hex_bd b n _ _ _ (by omega) (by omega) (by omega)
    · split
      · exact rz_hex_bd b n _ _ _ (by omega) (by omega) (by omega)
      · refine ⟨by omega, ?_⟩
        have : 0 < (16 : Int) ^ n := Int.pow_pos (by decide)
        have : 0 < (m * 16) * 16 ^ n := Int.mul_pos (by omega) this
        omega
section EzRd3
variable {d : Nat} {h : cz_H} {τ : Nat → Nat} {Q : cz_F → Prop}
/-- where a field begins, where it ends -/
def rz_f (h : cz_H) (k : Int) : Int := qz_I h 721 k.toNat
def rz_t (h : cz_H) (k : Int) : Int := qz_I h 722 k.toNat
theorem rd_isPlain_l {n : Int} (hB : ez_B τ h) (t720 : τ 720 = 52) (h1 : n ≤ 4096) (k1 : rz_plain (rz_b h) n → Q (.inl (some (ez_v (.inl 1))), h)) (k0 : ¬ rz_plain (rz_b h) n → Q (.inl (some (ez_v (.inl 0))), h)) : ∀ (m : Nat) (i : Int), 0 ≤ i → i ≤ n → m = (n - i).toNat → (∀ j, 0 ≤ j → j < i → rz_pl (rz_b h) j) → ez_W d cm_155 2 [(2, .inl (i)), (0, .inr (.inr (some (720)))), (1, .inl (n))] [] h Q := by
  intro m
  induction m with
  | zero =>
    intro i hi1 hi2 hn hp
    refine ez_go (n := 2) (pc' := 4) (L' := [(2, .inl (i)), (0, .inr (.inr (some (720)))), (1, .inl (n))]) (st' := [.inl (n), .inl (i)]) rfl ?_
    refine ez_icmp rfl rfl ⟨by omega, by omega⟩ ⟨by omega, by omega⟩ (fun (c1 : (n) ≤ (i)) => ?_) (fun (c1 : ¬((n) ≤ (i))) => ?_)
    · skip
      refine ez_go (n := 1) (pc' := 49) (L' := [(2, .inl (i)), (0, .inr (.inr (some (720)))), (1, .inl (n))]) (st' := [.inl (1)]) rfl ?_
      exact ez_retZ rfl rfl (by decide) (k1 (fun j j1 j2 => hp j j1 (by omega)))
    · skip
      exfalso; omega
  | succ m ih =>
    intro i hi1 hi2 hn hp
    refine ez_go (n := 2) (pc' := 4) (L' := [(2, .inl (i)), (0, .inr (.inr (some (720)))), (1, .inl (n))]) (st' := [.inl (n), .inl (i)]) rfl ?_
    refine ez_icmp rfl rfl ⟨by omega, by omega⟩ ⟨by omega, by omega⟩ (fun (c1 : (n) ≤ (i)) => ?_) (fun (c1 : ¬((n) ≤ (i))) => ?_)
    · skip
      refine ez_go (n := 1) (pc' := 49) (L' := [(2, .inl (i)), (0, .inr (.inr (some (720)))), (1, .inl (n))]) (st' := [.inl (1)]) rfl ?_
      exfalso; omega
    · skip
      refine ez_go (n := 1) (pc' := 8) (L' := [(2, .inl (i)), (0, .inr (.inr (some (720)))), (1, .inl (n))]) (st' := [.inr (.inr (some (720)))]) rfl ?_
      refine ez_gC (p := 193) (tg := 45) hB t720 rfl rfl tq_52 rfl rfl (fun (t193 : _ = 45) => ?_)
      refine ez_go (n := 1) (pc' := 12) (L' := [(2, .inl (i)), (0, .inr (.inr (some (720)))), (1, .inl (n))]) (st' := [.inl (i), .inr (.inr (some (193)))]) rfl ?_
      have n3 : 4096 ≤ qz_N h 193 ∧ qz_N h 193 ≤ 4096 := ez_len hB t193 tq_45 rfl
      refine ez_aI hB t193 rfl tq_45 rfl rfl (by omega) (by omega) (fun (b2 : -128 ≤ qz_I h 193 (i).toNat) (b2' : qz_I h 193 (i).toNat ≤ 127) => ?_)
      refine ez_go (n := 1) (pc' := 15) (L' := [(2, .inl (i)), (0, .inr (.inr (some (720)))), (1, .inl (n))]) (st' := [.inl (9), .inl (qz_I h 193 (i).toNat)]) rfl ?_
      refine ez_icmp rfl rfl ⟨by omega, by omega⟩ ⟨by omega, by omega⟩ (fun (c4 : (qz_I h 193 (i).toNat) = (9)) => ?_) (fun (c4 : ¬((qz_I h 193 (i).toNat) = (9))) => ?_)
      · skip
        refine ez_go (n := 2) (pc' := 2) (L' := [(2, .inl (i + 1)), (0, .inr (.inr (some (720)))), (1, .inl (n))]) (st' := []) rfl ?_
        refine ez_less [(2, .inl (i + 1)), (0, .inr (.inr (some (720)))), (1, .inl (n))] rfl ⟨rfl, rfl, rfl, trivial⟩ ?_
        exact ih _ (by omega) (by omega) (by omega) (fun j j1 j2 => by by_cases e : j = i; (· subst e; unfold rz_pl rz_b; omega); (· exact hp j j1 (by omega)))
      · skip
        refine ez_go (n := 1) (pc' := 19) (L' := [(2, .inl (i)), (0, .inr (.inr (some (720)))), (1, .inl (n))]) (st' := [.inr (.inr (some (720)))]) rfl ?_
        refine ez_gC (p := 193) (tg := 45) hB t720 rfl rfl tq_52 rfl rfl (fun (t193 : _ = 45) => ?_)
        refine ez_go (n := 1) (pc' := 23) (L' := [(2, .inl (i)), (0, .inr (.inr (some (720)))), (1, .inl (n))]) (st' := [.inl (i), .inr (.inr (some (193)))]) rfl ?_
        have n6 : 4096 ≤ qz_N h 193 ∧ qz_N h 193 ≤ 4096 := ez_len hB t193 tq_45 rfl
        refine ez_aI hB t193 rfl tq_45 rfl rfl (by omega) (by omega) (fun (b5 : -128 ≤ qz_I h 193 (i).toNat) (b5' : qz_I h 193 (i).toNat ≤ 127) => ?_)
        refine ez_go (n := 1) (pc' := 26) (L' := [(2, .inl (i)), (0, .inr (.inr (some (720)))), (1, .inl (n))]) (st' := [.inl (32), .inl (qz_I h 193 (i).toNat)]) rfl ?_
        refine ez_icmp rfl rfl ⟨by omega, by omega⟩ ⟨by omega, by omega⟩ (fun (c7 : (qz_I h 193 (i).toNat) < (32)) => ?_) (fun (c7 : ¬((qz_I h 193 (i).toNat) < (32))) => ?_)
        · skip
          refine ez_go (n := 1) (pc' := 41) (L' := [(2, .inl (i)), (0, .inr (.inr (some (720)))), (1, .inl (n))]) (st' := [.inl (0)]) rfl ?_
          exact ez_retZ rfl rfl (by decide) (k0 (fun w => by have := w i hi1 (by omega); unfold rz_pl rz_b at this; omega))
        · skip
          refine ez_go (n := 1) (pc' := 30) (L' := [(2, .inl (i)), (0, .inr (.inr (some (720)))), (1, .inl (n))]) (st' := [.inr (.inr (some (720)))]) rfl ?_
          refine ez_gC (p := 193) (tg := 45) hB t720 rfl rfl tq_52 rfl rfl (fun (t193 : _ = 45) => ?_)
          refine ez_go (n := 1) (pc' := 34) (L' := [(2, .inl (i)), (0, .inr (.inr (some (720)))), (1, .inl (n))]) (st' := [.inl (i), .inr (.inr (some (193)))]) rfl ?_
          have n9 : 4096 ≤ qz_N h 193 ∧ qz_N h 193 ≤ 4096 := ez_len hB t193 tq_45 rfl
          refine ez_aI hB t193 rfl tq_45 rfl rfl (by omega) (by omega) (fun (b8 : -128 ≤ qz_I h 193 (i).toNat) (b8' : qz_I h 193 (i).toNat ≤ 127) => ?_)
          refine ez_go (n := 1) (pc' := 37) (L' := [(2, .inl (i)), (0, .inr (.inr (some (720)))), (1, .inl (n))]) (st' := [.inl (126), .inl (qz_I h 193 (i).toNat)]) rfl ?_
          refine ez_icmp rfl rfl ⟨by omega, by omega⟩ ⟨by omega, by omega⟩ (fun (c10 : (qz_I h 193 (i).toNat) ≤ (126)) => ?_) (fun (c10 : ¬((qz_I h 193 (i).toNat) ≤ (126))) => ?_)
          · skip
            refine ez_go (n := 2) (pc' := 2) (L' := [(2, .inl (i + 1)), (0, .inr (.inr (some (720)))), (1, .inl (n))]) (st' := []) rfl ?_
            refine ez_less [(2, .inl (i + 1)), (0, .inr (.inr (some (720)))), (1, .inl (n))] rfl ⟨rfl, rfl, rfl, trivial⟩ ?_
            exact ih _ (by omega) (by omega) (by omega) (fun j j1 j2 => by by_cases e : j = i; (· subst e; unfold rz_pl rz_b; omega); (· exact hp j j1 (by omega)))
          · skip
            refine ez_go (n := 1) (pc' := 41) (L' := [(2, .inl (i)), (0, .inr (.inr (some (720)))), (1, .inl (n))]) (st' := [.inl (0)]) rfl ?_
            exact ez_retZ rfl rfl (by decide) (k0 (fun w => by have := w i hi1 (by omega); unfold rz_pl rz_b at this; omega))
theorem rd_isPlain {n : Int} (hB : ez_B τ h) (t720 : τ 720 = 52) (h0 : 0 ≤ n) (h1 : n ≤ 4096) (k1 : rz_plain (rz_b h) n → Q (.inl (some (ez_v (.inl 1))), h)) (k0 : ¬ rz_plain (rz_b h) n → Q (.inl (some (ez_v (.inl 0))), h)) : ez_W d cm_155 0 [(0, .inr (.inr (some (720)))), (1, .inl (n))] [] h Q := by
  refine ez_go (n := 2) (pc' := 2) (L' := [(2, .inl (0)), (0, .inr (.inr (some (720)))), (1, .inl (n))]) (st' := []) rfl ?_
  exact rd_isPlain_l hB t720 h1 k1 k0 _ _ (by omega) (by omega) rfl (fun j j1 j2 => (by omega))

theorem rd_commentStart_l {n : Int} (hB : ez_B τ h) (t720 : τ 720 = 52) (h1 : n ≤ 4096) (k : ∀ c, 0 ≤ c → c ≤ n → (∀ j, 0 ≤ j → j < c → rz_b h j ≠ 35) → (c = n ∨ rz_b h c = 35) → Q (.inl (some (ez_v (.inl c))), h)) : ∀ (m : Nat) (i : Int), 0 ≤ i → i ≤ n → m = (n - i).toNat → (∀ j, 0 ≤ j → j < i → rz_b h j ≠ 35) → ez_W d cm_147 2 [(2, .inl (i)), (0, .inr (.inr (some (720)))), (1, .inl (n))] [] h Q := by
  intro m
  induction m with
  | zero =>
    intro i hi1 hi2 hn hp
    refine ez_go (n := 2) (pc' := 4) (L' := [(2, .inl (i)), (0, .inr (.inr (some (720)))), (1, .inl (n))]) (st' := [.inl (n), .inl (i)]) rfl ?_
    refine ez_icmp rfl rfl ⟨by omega, by omega⟩ ⟨by omega, by omega⟩ (fun (c1 : (n) ≤ (i)) => ?_) (fun (c1 : ¬((n) ≤ (i))) => ?_)
    · skip
      refine ez_go (n := 1) (pc' := 27) (L' := [(2, .inl (i)), (0, .inr (.inr (some (720)))), (1, .inl (n))]) (st' := [.inl (n)]) rfl ?_
      exact ez_retI rfl rfl (k n (by omega) (by omega) (fun j j1 j2 => hp j j1 (by omega)) (Or.inl rfl))
    · skip
      exfalso; omega
  | succ m ih =>
    intro i hi1 hi2 hn hp
    refine ez_go (n := 2) (pc' := 4) (L' := [(2, .inl (i)), (0, .inr (.inr (some (720)))), (1, .inl (n))]) (st' := [.inl (n), .inl (i)]) rfl ?_
    refine ez_icmp rfl rfl ⟨by omega, by omega⟩ ⟨by omega, by omega⟩ (fun (c1 : (n) ≤ (i)) => ?_) (fun (c1 : ¬((n) ≤ (i))) => ?_)
    · skip
      refine ez_go (n := 1) (pc' := 27) (L' := [(2, .inl (i)), (0, .inr (.inr (some (720)))), (1, .inl (n))]) (st' := [.inl (n)]) rfl ?_
      exfalso; omega
    · skip
      refine ez_go (n := 1) (pc' := 8) (L' := [(2, .inl (i)), (0, .inr (.inr (some (720)))), (1, .inl (n))]) (st' := [.inr (.inr (some (720)))]) rfl ?_
      refine ez_gC (p := 193) (tg := 45) hB t720 rfl rfl tq_52 rfl rfl (fun (t193 : _ = 45) => ?_)
      refine ez_go (n := 1) (pc' := 12) (L' := [(2, .inl (i)), (0, .inr (.inr (some (720)))), (1, .inl (n))]) (st' := [.inl (i), .inr (.inr (some (193)))]) rfl ?_
      have n3 : 4096 ≤ qz_N h 193 ∧ qz_N h 193 ≤ 4096 := ez_len hB t193 tq_45 rfl
      refine ez_aI hB t193 rfl tq_45 rfl rfl (by omega) (by omega) (fun (b2 : -128 ≤ qz_I h 193 (i).toNat) (b2' : qz_I h 193 (i).toNat ≤ 127) => ?_)
      refine ez_go (n := 1) (pc' := 15) (L' := [(2, .inl (i)), (0, .inr (.inr (some (720)))), (1, .inl (n))]) (st' := [.inl (35), .inl (qz_I h 193 (i).toNat)]) rfl ?_
      refine ez_icmp rfl rfl ⟨by omega, by omega⟩ ⟨by omega, by omega⟩ (fun (c4 : (qz_I h 193 (i).toNat) ≠ (35)) => ?_) (fun (c4 : ¬((qz_I h 193 (i).toNat) ≠ (35))) => ?_)
      · skip
        refine ez_go (n := 2) (pc' := 2) (L' := [(2, .inl (i + 1)), (0, .inr (.inr (some (720)))), (1, .inl (n))]) (st' := []) rfl ?_
        refine ez_less [(2, .inl (i + 1)), (0, .inr (.inr (some (720)))), (1, .inl (n))] rfl ⟨rfl, rfl, rfl, trivial⟩ ?_
        exact ih _ (by omega) (by omega) (by omega) (fun j j1 j2 => by by_cases e : j = i; (· subst e; unfold rz_b; omega); (· exact hp j j1 (by omega)))
      · skip
        refine ez_go (n := 1) (pc' := 19) (L' := [(2, .inl (i)), (0, .inr (.inr (some (720)))), (1, .inl (n))]) (st' := [.inl (i)]) rfl ?_
        exact ez_retI rfl rfl (k i (by omega) (by omega) hp (Or.inr (by unfold rz_b; omega)))
theorem rd_commentStart {n : Int} (hB : ez_B τ h) (t720 : τ 720 = 52) (h0 : 0 ≤ n) (h1 : n ≤ 4096) (k : ∀ c, 0 ≤ c → c ≤ n → (∀ j, 0 ≤ j → j < c → rz_b h j ≠ 35) → (c = n ∨ rz_b h c = 35) → Q (.inl (some (ez_v (.inl c))), h)) : ez_W d cm_147 0 [(0, .inr (.inr (some (720)))), (1, .inl (n))] [] h Q := by
  refine ez_go (n := 2) (pc' := 2) (L' := [(2, .inl (0)), (0, .inr (.inr (some (720)))), (1, .inl (n))]) (st' := []) rfl ?_
  exact rd_commentStart_l hB t720 h1 k _ _ (by omega) (by omega) rfl (fun j j1 j2 => (by omega))

theorem rz_pow6 {n : Nat} (h : n ≤ 6) : (16 : Int) ^ n ≤ 16777216 := by
  have : n = 0 ∨ n = 1 ∨ n = 2 ∨ n = 3 ∨ n = 4 ∨ n = 5 ∨ n = 6 := by omega
  rcases this with rfl | rfl | rfl | rfl | rfl | rfl | rfl <;> decide
theorem rd_readCode {s e : Int} (hB : ez_B τ h) (t720 : τ 720 = 52) (h0 : 0 ≤ s) (hbs : s ≤ e) (h1 : e ≤ 4096) (k : Q (.inl (some (ez_v (.inl (rz_code (rz_b h) s e)))), h)) : ez_W (d + 1) cm_159 0 [(0, .inr (.inr (some (720)))), (1, .inl (s)), (2, .inl (e))] [] h Q := by
  refine ez_go (n := 6) (pc' := 6) (L' := [(3, .inl ((e) - (s))), (0, .inr (.inr (some (720)))), (1, .inl (s)), (2, .inl (e))]) (st' := [.inl (4), .inl ((e) - (s))]) rfl ?_
  refine ez_icmp rfl rfl ⟨by omega, by omega⟩ ⟨by omega, by omega⟩ (fun (c1 : ((e) - (s)) < (4)) => ?_) (fun (c1 : ¬(((e) - (s)) < (4))) => ?_)
  · skip
    refine ez_go (n := 1) (pc' := 32) (L' := [(3, .inl ((e) - (s))), (0, .inr (.inr (some (720)))), (1, .inl (s)), (2, .inl (e))]) (st' := [.inl (-1)]) rfl ?_
    first | (unfold rz_code at k; rw [if_pos (by unfold rz_b; omega)] at k; exact ez_retI rfl rfl k) | (unfold rz_code at k; rw [if_neg (by unfold rz_b; omega), if_neg (by omega)] at k; exact ez_retI rfl rfl k)
  · skip
    refine ez_go (n := 2) (pc' := 12) (L' := [(3, .inl ((e) - (s))), (0, .inr (.inr (some (720)))), (1, .inl (s)), (2, .inl (e))]) (st' := [.inl (6), .inl ((e) - (s))]) rfl ?_
    refine ez_icmp rfl rfl ⟨by omega, by omega⟩ ⟨by omega, by omega⟩ (fun (c2 : (6) < ((e) - (s))) => ?_) (fun (c2 : ¬((6) < ((e) - (s)))) => ?_)
    · skip
      refine ez_go (n := 1) (pc' := 32) (L' := [(3, .inl ((e) - (s))), (0, .inr (.inr (some (720)))), (1, .inl (s)), (2, .inl (e))]) (st' := [.inl (-1)]) rfl ?_
      first | (unfold rz_code at k; rw [if_pos (by unfold rz_b; omega)] at k; exact ez_retI rfl rfl k) | (unfold rz_code at k; rw [if_neg (by unfold rz_b; omega), if_neg (by omega)] at k; exact ez_retI rfl rfl k)
    · skip
      refine ez_go (n := 2) (pc' := 17) (L' := [(3, .inl ((e) - (s))), (0, .inr (.inr (some (720)))), (1, .inl (s)), (2, .inl (e))]) (st' := [.inl (4), .inl ((e) - (s))]) rfl ?_
      refine ez_icmp rfl rfl ⟨by omega, by omega⟩ ⟨by omega, by omega⟩ (fun (c3 : ((e) - (s)) ≤ (4)) => ?_) (fun (c3 : ¬(((e) - (s)) ≤ (4))) => ?_)
      · skip
        refine ez_go (n := 3) (pc' := 36) (L' := [(3, .inl ((e) - (s))), (0, .inr (.inr (some (720)))), (1, .inl (s)), (2, .inl (e))]) (st' := [.inl (e), .inl (s), .inr (.inr (some (720)))]) rfl ?_
        refine ez_cv hB t720 rfl rfl rfl tq_52 rfl rfl rfl (rd_readHex hB t720 (by omega) (by omega) (by omega) (ez_K1 ?_))
        have x4 := rz_hex_bd (rz_b h) ((e) - (s)).toNat (s) 0 1 (by omega) (by omega) (by omega)
        have x4' : (16 : Int) ^ ((e) - (s)).toNat ≤ 16777216 := rz_pow6 (by omega)
        refine ez_go (n := 2) (pc' := 43) (L' := [(4, .inl (rz_hex (rz_b h) ((e) - (s)).toNat (s) 0)), (3, .inl ((e) - (s))), (0, .inr (.inr (some (720)))), (1, .inl (s)), (2, .inl (e))]) (st' := [.inl (rz_hex (rz_b h) ((e) - (s)).toNat (s) 0)]) rfl ?_
        refine ez_ldc (1114111) rfl rfl rfl ?_
        refine ez_icmp rfl rfl ⟨by omega, by omega⟩ ⟨by omega, by omega⟩ (fun (c5 : (1114111) < (rz_hex (rz_b h) ((e) - (s)).toNat (s) 0)) => ?_) (fun (c5 : ¬((1114111) < (rz_hex (rz_b h) ((e) - (s)).toNat (s) 0))) => ?_)
        · skip
          refine ez_go (n := 1) (pc' := 54) (L' := [(4, .inl (rz_hex (rz_b h) ((e) - (s)).toNat (s) 0)), (3, .inl ((e) - (s))), (0, .inr (.inr (some (720)))), (1, .inl (s)), (2, .inl (e))]) (st' := [.inl (-1)]) rfl ?_
          first | (unfold rz_code at k; rw [if_pos (by unfold rz_b; omega)] at k; exact ez_retI rfl rfl k) | (unfold rz_code at k; rw [if_neg (by unfold rz_b; omega), if_neg (by omega)] at k; exact ez_retI rfl rfl k)
        · skip
          refine ez_go (n := 2) (pc' := 54) (L' := [(4, .inl (rz_hex (rz_b h) ((e) - (s)).toNat (s) 0)), (3, .inl ((e) - (s))), (0, .inr (.inr (some (720)))), (1, .inl (s)), (2, .inl (e))]) (st' := [.inl (rz_hex (rz_b h) ((e) - (s)).toNat (s) 0)]) rfl ?_
          unfold rz_code at k; rw [if_neg (by unfold rz_b; omega), if_pos (by omega)] at k; exact ez_retI rfl rfl k
      · skip
        refine ez_go (n := 1) (pc' := 21) (L' := [(3, .inl ((e) - (s))), (0, .inr (.inr (some (720)))), (1, .inl (s)), (2, .inl (e))]) (st' := [.inr (.inr (some (720)))]) rfl ?_
        refine ez_gC (p := 193) (tg := 45) hB t720 rfl rfl tq_52 rfl rfl (fun (t193 : _ = 45) => ?_)
        refine ez_go (n := 1) (pc' := 25) (L' := [(3, .inl ((e) - (s))), (0, .inr (.inr (some (720)))), (1, .inl (s)), (2, .inl (e))]) (st' := [.inl (s), .inr (.inr (some (193)))]) rfl ?_
        have n7 : 4096 ≤ qz_N h 193 ∧ qz_N h 193 ≤ 4096 := ez_len hB t193 tq_45 rfl
        refine ez_aI hB t193 rfl tq_45 rfl rfl (by omega) (by omega) (fun (b6 : -128 ≤ qz_I h 193 (s).toNat) (b6' : qz_I h 193 (s).toNat ≤ 127) => ?_)
        refine ez_go (n := 1) (pc' := 28) (L' := [(3, .inl ((e) - (s))), (0, .inr (.inr (some (720)))), (1, .inl (s)), (2, .inl (e))]) (st' := [.inl (48), .inl (qz_I h 193 (s).toNat)]) rfl ?_
        refine ez_icmp rfl rfl ⟨by omega, by omega⟩ ⟨by omega, by omega⟩ (fun (c8 : (qz_I h 193 (s).toNat) ≠ (48)) => ?_) (fun (c8 : ¬((qz_I h 193 (s).toNat) ≠ (48))) => ?_)
        · skip
          refine ez_go (n := 3) (pc' := 36) (L' := [(3, .inl ((e) - (s))), (0, .inr (.inr (some (720)))), (1, .inl (s)), (2, .inl (e))]) (st' := [.inl (e), .inl (s), .inr (.inr (some (720)))]) rfl ?_
          refine ez_cv hB t720 rfl rfl rfl tq_52 rfl rfl rfl (rd_readHex hB t720 (by omega) (by omega) (by omega) (ez_K1 ?_))
          have x9 := rz_hex_bd (rz_b h) ((e) - (s)).toNat (s) 0 1 (by omega) (by omega) (by omega)
          have x9' : (16 : Int) ^ ((e) - (s)).toNat ≤ 16777216 := rz_pow6 (by omega)
          refine ez_go (n := 2) (pc' := 43) (L' := [(4, .inl (rz_hex (rz_b h) ((e) - (s)).toNat (s) 0)), (3, .inl ((e) - (s))), (0, .inr (.inr (some (720)))), (1, .inl (s)), (2, .inl (e))]) (st' := [.inl (rz_hex (rz_b h) ((e) - (s)).toNat (s) 0)]) rfl ?_
          refine ez_ldc (1114111) rfl rfl rfl ?_
          refine ez_icmp rfl rfl ⟨by omega, by omega⟩ ⟨by omega, by omega⟩ (fun (c10 : (1114111) < (rz_hex (rz_b h) ((e) - (s)).toNat (s) 0)) => ?_) (fun (c10 : ¬((1114111) < (rz_hex (rz_b h) ((e) - (s)).toNat (s) 0))) => ?_)
          · skip
            refine ez_go (n := 1) (pc' := 54) (L' := [(4, .inl (rz_hex (rz_b h) ((e) - (s)).toNat (s) 0)), (3, .inl ((e) - (s))), (0, .inr (.inr (some (720)))), (1, .inl (s)), (2, .inl (e))]) (st' := [.inl (-1)]) rfl ?_
            first | (unfold rz_code at k; rw [if_pos (by unfold rz_b; omega)] at k; exact ez_retI rfl rfl k) | (unfold rz_code at k; rw [if_neg (by unfold rz_b; omega), if_neg (by omega)] at k; exact ez_retI rfl rfl k)
          · skip
            refine ez_go (n := 2) (pc' := 54) (L' := [(4, .inl (rz_hex (rz_b h) ((e) - (s)).toNat (s) 0)), (3, .inl ((e) - (s))), (0, .inr (.inr (some (720)))), (1, .inl (s)), (2, .inl (e))]) (st' := [.inl (rz_hex (rz_b h) ((e) - (s)).toNat (s) 0)]) rfl ?_
            unfold rz_code at k; rw [if_neg (by unfold rz_b; omega), if_pos (by omega)] at k; exact ez_retI rfl rfl k
        · skip
          refine ez_go (n := 1) (pc' := 32) (L' := [(3, .inl ((e) - (s))), (0, .inr (.inr (some (720)))), (1, .inl (s)), (2, .inl (e))]) (st' := [.inl (-1)]) rfl ?_
          first | (unfold rz_code at k; rw [if_pos (by unfold rz_b; omega)] at k; exact ez_retI rfl rfl k) | (unfold rz_code at k; rw [if_neg (by unfold rz_b; omega), if_neg (by omega)] at k; exact ez_retI rfl rfl k)

end EzRd3
