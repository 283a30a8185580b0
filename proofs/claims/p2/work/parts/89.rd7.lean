/-! The reader of the class, functionally, VI: letters, tokens, ROWS. (Written by wip/p2/py/pv7.py.) -/
/-- m tokens from a on: their CODES, or none -/
def rz_row (b : Int → Int) : Nat → Int → Int → Option (List Int)
  | 0, _, _ => some []
  | m + 1, a, t => if rz_code b (rz_skip b (t - a).toNat a) (rz_tok b (t - rz_skip b (t - a).toNat a).toNat (rz_skip b (t - a).toNat a)) = -1 then none else
    (rz_row b m (rz_tok b (t - rz_skip b (t - a).toNat a).toNat (rz_skip b (t - a).toNat a)) t).map (fun l => rz_code b (rz_skip b (t - a).toNat a) (rz_tok b (t - rz_skip b (t - a).toNat a).toNat (rz_skip b (t - a).toNat a)) :: l)
theorem rz_row_len (b : Int → Int) : ∀ (m : Nat) (a t : Int) (l : List Int), rz_row b m a t = some l → l.length = m
  | 0, a, t, l, h => by cases h; rfl
  | m + 1, a, t, l, h => by
    unfold rz_row at h
    split at h
    · cases h
    · rw [Option.map_eq_some_iff] at h
      obtain ⟨l', h1, rfl⟩ := h
      rw [List.length_cons, rz_row_len b m _ _ l' h1]
/-- cells more: what was tagged is as it was -/
def ez_xt (τ : Nat → Nat) (h : cz_H) (τ' : Nat → Nat) (g : cz_H) (dc ds : Nat) : Prop := (∀ q, τ q ≠ 0 → τ' q = τ q ∧ g.2.2 q = h.2.2 q) ∧ (h.1 ≤ g.1 ∧ g.1 ≤ h.1 + dc) ∧ (h.2.1 ≤ g.2.1 ∧ g.2.1 ≤ h.2.1 + ds)
theorem ez_xt.refl (τ : Nat → Nat) (h : cz_H) (dc ds : Nat) : ez_xt τ h τ h dc ds := ⟨fun _ _ => ⟨rfl, rfl⟩, ⟨Nat.le_refl _, Nat.le_add_right _ _⟩, Nat.le_refl _, Nat.le_add_right _ _⟩
theorem ez_xt.I {τ τ' : Nat → Nat} {h g : cz_H} {dc ds : Nat} (hx : ez_xt τ h τ' g dc ds) {q : Nat} (hq : τ q ≠ 0) (j : Nat) : qz_I g q j = qz_I h q j := by unfold qz_I; rw [(hx.1 q hq).2]
/-- a new cell, written alone -/
theorem ez_xt_new {τ : Nat → Nat} {h g : cz_H} (hB : ez_B τ h) {t n dc ds : Nat} {c : cz_C} (hd : 1 ≤ dc) (hn : n ≤ ds) (hf : ez_fr (ez_one h.1) (cz_push h n c) g) : ez_xt τ h (dz_tn τ h.1 t) g dc ds := by
  refine ⟨fun q hq => ?_, ?_, ?_⟩
  · have e : q ≠ h.1 := by have := dz_here_lt (hB.1 q hq).1; omega
    refine ⟨by unfold dz_tn; rw [if_neg e], ?_⟩
    rw [hf.2.2 q (by unfold ez_one; exact dz_beq_ne e)]
    show (if q = h.1 then c else h.2.2 q) = _
    rw [if_neg e]
  · rw [hf.1]; show h.1 ≤ h.1 + 1 ∧ h.1 + 1 ≤ h.1 + dc; omega
  · rw [hf.2.1]; show h.2.1 ≤ h.2.1 + n ∧ h.2.1 + n ≤ h.2.1 + ds; omega
section EzRd7
variable {d : Nat} {h : cz_H} {τ : Nat → Nat} {Q : cz_F → Prop} {r : Nat}
theorem rd_isLetter {c : Int} (c0 : -128 ≤ c) (c1 : c ≤ 127) (k1 : ((65 ≤ c ∧ c ≤ 90) ∨ (97 ≤ c ∧ c ≤ 122)) → Q (.inl (some (ez_v (.inl 1))), h)) (k0 : ¬((65 ≤ c ∧ c ≤ 90) ∨ (97 ≤ c ∧ c ≤ 122)) → Q (.inl (some (ez_v (.inl 0))), h)) : ez_W d cm_154 0 [(0, .inl (c))] [] h Q := by
  refine ez_go (n := 2) (pc' := 3) (L' := [(0, .inl (c))]) (st' := [.inl (65), .inl (c)]) rfl ?_
  refine ez_icmp rfl rfl ⟨by omega, by omega⟩ ⟨by omega, by omega⟩ (fun (c1 : (c) < (65)) => ?_) (fun (c1 : ¬((c) < (65))) => ?_)
  · skip
    refine ez_go (n := 2) (pc' := 15) (L' := [(0, .inl (c))]) (st' := [.inl (97), .inl (c)]) rfl ?_
    refine ez_icmp rfl rfl ⟨by omega, by omega⟩ ⟨by omega, by omega⟩ (fun (c2 : (c) < (97)) => ?_) (fun (c2 : ¬((c) < (97))) => ?_)
    · skip
      refine ez_go (n := 1) (pc' := 29) (L' := [(0, .inl (c))]) (st' := [.inl (0)]) rfl ?_
      exact ez_retZ rfl rfl (by decide) (k0 (by omega))
    · skip
      refine ez_go (n := 2) (pc' := 21) (L' := [(0, .inl (c))]) (st' := [.inl (122), .inl (c)]) rfl ?_
      refine ez_icmp rfl rfl ⟨by omega, by omega⟩ ⟨by omega, by omega⟩ (fun (c3 : (122) < (c)) => ?_) (fun (c3 : ¬((122) < (c))) => ?_)
      · skip
        refine ez_go (n := 1) (pc' := 29) (L' := [(0, .inl (c))]) (st' := [.inl (0)]) rfl ?_
        exact ez_retZ rfl rfl (by decide) (k0 (by omega))
      · skip
        refine ez_go (n := 2) (pc' := 29) (L' := [(0, .inl (c))]) (st' := [.inl (1)]) rfl ?_
        exact ez_retZ rfl rfl (by decide) (k1 (by omega))
  · skip
    refine ez_go (n := 2) (pc' := 9) (L' := [(0, .inl (c))]) (st' := [.inl (90), .inl (c)]) rfl ?_
    refine ez_icmp rfl rfl ⟨by omega, by omega⟩ ⟨by omega, by omega⟩ (fun (c4 : (c) ≤ (90)) => ?_) (fun (c4 : ¬((c) ≤ (90))) => ?_)
    · skip
      refine ez_go (n := 2) (pc' := 29) (L' := [(0, .inl (c))]) (st' := [.inl (1)]) rfl ?_
      exact ez_retZ rfl rfl (by decide) (k1 (by omega))
    · skip
      refine ez_go (n := 2) (pc' := 15) (L' := [(0, .inl (c))]) (st' := [.inl (97), .inl (c)]) rfl ?_
      refine ez_icmp rfl rfl ⟨by omega, by omega⟩ ⟨by omega, by omega⟩ (fun (c5 : (c) < (97)) => ?_) (fun (c5 : ¬((c) < (97))) => ?_)
      · skip
        refine ez_go (n := 1) (pc' := 29) (L' := [(0, .inl (c))]) (st' := [.inl (0)]) rfl ?_
        exact ez_retZ rfl rfl (by decide) (k0 (by omega))
      · skip
        refine ez_go (n := 2) (pc' := 21) (L' := [(0, .inl (c))]) (st' := [.inl (122), .inl (c)]) rfl ?_
        refine ez_icmp rfl rfl ⟨by omega, by omega⟩ ⟨by omega, by omega⟩ (fun (c6 : (122) < (c)) => ?_) (fun (c6 : ¬((122) < (c))) => ?_)
        · skip
          refine ez_go (n := 1) (pc' := 29) (L' := [(0, .inl (c))]) (st' := [.inl (0)]) rfl ?_
          exact ez_retZ rfl rfl (by decide) (k0 (by omega))
        · skip
          refine ez_go (n := 2) (pc' := 29) (L' := [(0, .inl (c))]) (st' := [.inl (1)]) rfl ?_
          exact ez_retZ rfl rfl (by decide) (k1 (by omega))

theorem rd_skipLetters_l {begin stop : Int} (hB : ez_B τ h) (t720 : τ 720 = 52) (h0 : 0 ≤ begin) (h1 : stop ≤ 4096) : ∀ (n : Nat) (i : Int), begin ≤ i → i ≤ stop → n = (stop - i).toNat → Q (.inl (some (ez_v (.inl (rz_lets (rz_b h) n i)))), h) → ez_W (d + 1) cm_170 2 [(3, .inl (i)), (0, .inr (.inr (some (720)))), (1, .inl (begin)), (2, .inl (stop))] [] h Q := by
  intro n
  induction n with
  | zero =>
    intro i hi1 hi2 hn k
    refine ez_go (n := 2) (pc' := 4) (L' := [(3, .inl (i)), (0, .inr (.inr (some (720)))), (1, .inl (begin)), (2, .inl (stop))]) (st' := [.inl (stop), .inl (i)]) rfl ?_
    refine ez_icmp rfl rfl ⟨by omega, by omega⟩ ⟨by omega, by omega⟩ (fun (c1 : (stop) ≤ (i)) => ?_) (fun (c1 : ¬((stop) ≤ (i))) => ?_)
    · skip
      refine ez_go (n := 1) (pc' := 26) (L' := [(3, .inl (i)), (0, .inr (.inr (some (720)))), (1, .inl (begin)), (2, .inl (stop))]) (st' := [.inl (i)]) rfl ?_
      exact ez_retI rfl rfl k
    · exfalso; omega
  | succ n ih =>
    intro i hi1 hi2 hn k
    unfold rz_lets at k
    refine ez_go (n := 2) (pc' := 4) (L' := [(3, .inl (i)), (0, .inr (.inr (some (720)))), (1, .inl (begin)), (2, .inl (stop))]) (st' := [.inl (stop), .inl (i)]) rfl ?_
    refine ez_icmp rfl rfl ⟨by omega, by omega⟩ ⟨by omega, by omega⟩ (fun (c1 : (stop) ≤ (i)) => ?_) (fun (c1 : ¬((stop) ≤ (i))) => ?_)
    · exfalso; omega
    · skip
      refine ez_go (n := 1) (pc' := 8) (L' := [(3, .inl (i)), (0, .inr (.inr (some (720)))), (1, .inl (begin)), (2, .inl (stop))]) (st' := [.inr (.inr (some (720)))]) rfl ?_
      refine ez_gC (p := 193) (tg := 45) hB t720 rfl rfl tq_52 rfl rfl (fun (t193 : _ = 45) => ?_)
      refine ez_go (n := 1) (pc' := 12) (L' := [(3, .inl (i)), (0, .inr (.inr (some (720)))), (1, .inl (begin)), (2, .inl (stop))]) (st' := [.inl (i), .inr (.inr (some (193)))]) rfl ?_
      have n3 : 4096 ≤ qz_N h 193 ∧ qz_N h 193 ≤ 4096 := ez_len hB t193 tq_45 rfl
      refine ez_aI hB t193 rfl tq_45 rfl rfl (by omega) (by omega) (fun (b2 : -128 ≤ qz_I h 193 (i).toNat) (b2' : qz_I h 193 (i).toNat ≤ 127) => ?_)
      refine ez_cs hB.2.1 rfl rfl rfl rfl rfl (rd_isLetter (by omega) (by omega) (fun e4 => ez_K1 ?_) (fun e4 => ez_K1 ?_))
      · skip
        rw [if_pos (show ((65 ≤ rz_b h i ∧ rz_b h i ≤ 90) ∨ (97 ≤ rz_b h i ∧ rz_b h i ≤ 122)) from e4)] at k
        refine ez_if rfl rfl ⟨by decide, by decide⟩ (fun (c5 : (1 : Int) = (0)) => absurd c5 (by decide)) (fun _ => ?_)
        refine ez_go (n := 2) (pc' := 2) (L' := [(3, .inl (i + 1)), (0, .inr (.inr (some (720)))), (1, .inl (begin)), (2, .inl (stop))]) (st' := []) rfl ?_
        exact ih _ (by omega) (by omega) (by omega) k
      · skip
        rw [if_neg (show ¬((65 ≤ rz_b h i ∧ rz_b h i ≤ 90) ∨ (97 ≤ rz_b h i ∧ rz_b h i ≤ 122)) from e4)] at k
        refine ez_if rfl rfl ⟨by decide, by decide⟩ (fun _ => ?_) (fun (c6 : ¬((0 : Int) = (0))) => absurd c6 (by decide))
        refine ez_go (n := 1) (pc' := 26) (L' := [(3, .inl (i)), (0, .inr (.inr (some (720)))), (1, .inl (begin)), (2, .inl (stop))]) (st' := [.inl (i)]) rfl ?_
        exact ez_retI rfl rfl k
theorem rd_skipLetters {begin stop : Int} (hB : ez_B τ h) (t720 : τ 720 = 52) (h0 : 0 ≤ begin) (hbs : begin ≤ stop) (h1 : stop ≤ 4096) (k : Q (.inl (some (ez_v (.inl (rz_lets (rz_b h) (stop - begin).toNat begin)))), h)) : ez_W (d + 1) cm_170 0 [(0, .inr (.inr (some (720)))), (1, .inl (begin)), (2, .inl (stop))] [] h Q := by
  refine ez_go (n := 2) (pc' := 2) (L' := [(3, .inl (begin)), (0, .inr (.inr (some (720)))), (1, .inl (begin)), (2, .inl (stop))]) (st' := []) rfl ?_
  exact rd_skipLetters_l hB t720 h0 h1 _ _ (by omega) (by omega) rfl k

theorem rd_countTokens_l {begin stop : Int} (hB : ez_B τ h) (t720 : τ 720 = 52) (h0 : 0 ≤ begin) (h1 : stop ≤ 4096) : ∀ (n : Nat) (i v : Int), begin ≤ i → i ≤ stop → n = (stop - i).toNat → Q (.inl (some (ez_v (.inl (v + (rz_ct (rz_b h) begin n i : Nat))))), h) → ez_W (d + 1) cm_149 5 [(4, .inl (i)), (3, .inl (v)), (0, .inr (.inr (some (720)))), (1, .inl (begin)), (2, .inl (stop))] [] h Q := by
  intro n
  induction n with
  | zero =>
    intro i v hi1 hi2 hn k
    refine ez_go (n := 2) (pc' := 8) (L' := [(4, .inl (i)), (3, .inl (v)), (0, .inr (.inr (some (720)))), (1, .inl (begin)), (2, .inl (stop))]) (st' := [.inl (stop), .inl (i)]) rfl ?_
    refine ez_icmp rfl rfl ⟨by omega, by omega⟩ ⟨by omega, by omega⟩ (fun (c1 : (stop) ≤ (i)) => ?_) (fun (c1 : ¬((stop) ≤ (i))) => ?_)
    · skip
      refine ez_go (n := 1) (pc' := 47) (L' := [(4, .inl (i)), (3, .inl (v)), (0, .inr (.inr (some (720)))), (1, .inl (begin)), (2, .inl (stop))]) (st' := [.inl (v)]) rfl ?_
      rw [show v + ((rz_ct (rz_b h) begin 0 i : Nat) : Int) = v from Int.add_zero v] at k; exact ez_retI rfl rfl k
    · exfalso; omega
  | succ n ih =>
    intro i v hi1 hi2 hn k
    unfold rz_ct at k
    refine ez_go (n := 2) (pc' := 8) (L' := [(4, .inl (i)), (3, .inl (v)), (0, .inr (.inr (some (720)))), (1, .inl (begin)), (2, .inl (stop))]) (st' := [.inl (stop), .inl (i)]) rfl ?_
    refine ez_icmp rfl rfl ⟨by omega, by omega⟩ ⟨by omega, by omega⟩ (fun (c1 : (stop) ≤ (i)) => ?_) (fun (c1 : ¬((stop) ≤ (i))) => ?_)
    · exfalso; omega
    · skip
      refine ez_go (n := 2) (pc' := 14) (L' := [(4, .inl (i)), (3, .inl (v)), (0, .inr (.inr (some (720)))), (1, .inl (begin)), (2, .inl (stop))]) (st' := [.inl (i), .inr (.inr (some (720)))]) rfl ?_
      refine ez_cv hB t720 rfl rfl rfl tq_52 rfl rfl rfl (rd_isBlank hB t720 (by omega) (by omega) (fun (e2 : rz_bl h (i)) => ez_K1 ?_) (fun (e2 : ¬ rz_bl h (i)) => ez_K1 ?_))
      · skip
        refine ez_if rfl rfl ⟨by decide, by decide⟩ (fun _ => ?_) (fun (c3 : ¬((1 : Int) ≠ (0))) => absurd c3 (by decide))
        refine ez_go (n := 2) (pc' := 5) (L' := [(4, .inl (i + 1)), (3, .inl (v)), (0, .inr (.inr (some (720)))), (1, .inl (begin)), (2, .inl (stop))]) (st' := []) rfl ?_
        refine ez_less [(4, .inl (i + 1)), (3, .inl (v)), (0, .inr (.inr (some (720)))), (1, .inl (begin)), (2, .inl (stop))] rfl ⟨rfl, rfl, rfl, rfl, rfl, trivial⟩ ?_
        rw [if_neg (by unfold rz_bl at *; omega), Nat.zero_add] at k; exact ih _ _ (by omega) (by omega) (by omega) k
      · skip
        refine ez_if rfl rfl ⟨by decide, by decide⟩ (fun (c4 : (0 : Int) ≠ (0)) => absurd c4 (by decide)) (fun _ => ?_)
        refine ez_go (n := 2) (pc' := 23) (L' := [(4, .inl (i)), (3, .inl (v)), (0, .inr (.inr (some (720)))), (1, .inl (begin)), (2, .inl (stop))]) (st' := [.inl (begin), .inl (i)]) rfl ?_
        refine ez_icmp rfl rfl ⟨by omega, by omega⟩ ⟨by omega, by omega⟩ (fun (c5 : (i) = (begin)) => ?_) (fun (c5 : ¬((i) = (begin))) => ?_)
        · skip
          refine ez_go (n := 3) (pc' := 5) (L' := [(4, .inl (i + 1)), (3, .inl (v + 1)), (0, .inr (.inr (some (720)))), (1, .inl (begin)), (2, .inl (stop))]) (st' := []) rfl ?_
          refine ez_less [(4, .inl (i + 1)), (3, .inl (v + 1)), (0, .inr (.inr (some (720)))), (1, .inl (begin)), (2, .inl (stop))] rfl ⟨rfl, rfl, rfl, rfl, rfl, trivial⟩ ?_
          rw [if_pos (by unfold rz_bl at *; omega)] at k; exact ih _ _ (by omega) (by omega) (by omega) (by rw [show v + 1 + ((rz_ct (rz_b h) begin n (i + 1) : Nat) : Int) = v + ((1 + rz_ct (rz_b h) begin n (i + 1) : Nat) : Int) by omega]; exact k)
        · skip
          refine ez_go (n := 4) (pc' := 31) (L' := [(4, .inl (i)), (3, .inl (v)), (0, .inr (.inr (some (720)))), (1, .inl (begin)), (2, .inl (stop))]) (st' := [.inl ((i) - (1)), .inr (.inr (some (720)))]) rfl ?_
          refine ez_cv hB t720 rfl rfl rfl tq_52 rfl rfl rfl (rd_isBlank hB t720 (by omega) (by omega) (fun (e6 : rz_bl h ((i) - (1))) => ez_K1 ?_) (fun (e6 : ¬ rz_bl h ((i) - (1))) => ez_K1 ?_))
          · skip
            refine ez_if rfl rfl ⟨by decide, by decide⟩ (fun (c7 : (1 : Int) = (0)) => absurd c7 (by decide)) (fun _ => ?_)
            refine ez_go (n := 3) (pc' := 5) (L' := [(4, .inl (i + 1)), (3, .inl (v + 1)), (0, .inr (.inr (some (720)))), (1, .inl (begin)), (2, .inl (stop))]) (st' := []) rfl ?_
            refine ez_less [(4, .inl (i + 1)), (3, .inl (v + 1)), (0, .inr (.inr (some (720)))), (1, .inl (begin)), (2, .inl (stop))] rfl ⟨rfl, rfl, rfl, rfl, rfl, trivial⟩ ?_
            rw [if_pos (by unfold rz_bl at *; omega)] at k; exact ih _ _ (by omega) (by omega) (by omega) (by rw [show v + 1 + ((rz_ct (rz_b h) begin n (i + 1) : Nat) : Int) = v + ((1 + rz_ct (rz_b h) begin n (i + 1) : Nat) : Int) by omega]; exact k)
          · skip
            refine ez_if rfl rfl ⟨by decide, by decide⟩ (fun _ => ?_) (fun (c8 : ¬((0 : Int) = (0))) => absurd c8 (by decide))
            refine ez_go (n := 2) (pc' := 5) (L' := [(4, .inl (i + 1)), (3, .inl (v)), (0, .inr (.inr (some (720)))), (1, .inl (begin)), (2, .inl (stop))]) (st' := []) rfl ?_
            refine ez_less [(4, .inl (i + 1)), (3, .inl (v)), (0, .inr (.inr (some (720)))), (1, .inl (begin)), (2, .inl (stop))] rfl ⟨rfl, rfl, rfl, rfl, rfl, trivial⟩ ?_
            rw [if_neg (by unfold rz_bl at *; omega), Nat.zero_add] at k; exact ih _ _ (by omega) (by omega) (by omega) k
theorem rd_countTokens {begin stop : Int} (hB : ez_B τ h) (t720 : τ 720 = 52) (h0 : 0 ≤ begin) (hbs : begin ≤ stop) (h1 : stop ≤ 4096) (k : Q (.inl (some (ez_v (.inl (rz_ct (rz_b h) begin (stop - begin).toNat begin : Nat)))), h)) : ez_W (d + 1) cm_149 0 [(0, .inr (.inr (some (720)))), (1, .inl (begin)), (2, .inl (stop))] [] h Q := by
  refine ez_go (n := 4) (pc' := 5) (L' := [(4, .inl (begin)), (3, .inl (0)), (0, .inr (.inr (some (720)))), (1, .inl (begin)), (2, .inl (stop))]) (st' := []) rfl ?_
  exact rd_countTokens_l hB t720 h0 h1 _ _ _ (by omega) (by omega) rfl (by rw [Int.zero_add]; exact k)

theorem rd_readRow_l {b : Int → Int} {p : Nat} {n begin t most : Int} {g0 : cz_H} (t720 : τ 720 = 52) (t193 : τ 193 = 45) (tp : τ p = 5) (t1 : t ≤ 4096) (hb0 : rz_b g0 = b) (n1 : n ≤ 18) : ∀ (m : Nat) (k a : Int) (g : cz_H) (A : List Int), 0 ≤ a → a ≤ t → k = (A.length : Int) → n = k + m → ez_B τ g → ez_fr (ez_one p) g0 g → qz_N g p = n → (∀ (j : Nat) v, A[j]? = some v → qz_I g p j = v) → (∀ g, ez_B τ g → ez_fr (ez_one p) g0 g → rz_row b m a t = none → Q (.inl (some (.inr (.inr none))), g)) → (∀ g vs, ez_B τ g → ez_fr (ez_one p) g0 g → rz_row b m a t = some vs → qz_N g p = n → (∀ (j : Nat) v, (A ++ vs)[j]? = some v → qz_I g p j = v) → Q (.inl (some (.inr (.inr (some p)))), g)) → ez_W (d + 2) cm_166 34 [(7, .inl (k)), (6, .inl (a)), (5, .inr (.inr (some (p)))), (4, .inl (n)), (0, .inr (.inr (some (720)))), (1, .inl (begin)), (2, .inl (t)), (3, .inl (most))] [] g Q := by
  have ne := rz_ne t193 tp rfl
  intro m
  induction m with
  | zero =>
    intro k a g A a0 a1 hk hn hB hf hN hA kN kS
    refine ez_go (n := 2) (pc' := 38) (L' := [(7, .inl (k)), (6, .inl (a)), (5, .inr (.inr (some (p)))), (4, .inl (n)), (0, .inr (.inr (some (720)))), (1, .inl (begin)), (2, .inl (t)), (3, .inl (most))]) (st' := [.inl (n), .inl (k)]) rfl ?_
    refine ez_icmp rfl rfl ⟨by omega, by omega⟩ ⟨by omega, by omega⟩ (fun (c1 : (n) ≤ (k)) => ?_) (fun (c1 : ¬((n) ≤ (k))) => ?_)
    · skip
      refine ez_go (n := 1) (pc' := 95) (L' := [(7, .inl (k)), (6, .inl (a)), (5, .inr (.inr (some (p)))), (4, .inl (n)), (0, .inr (.inr (some (720)))), (1, .inl (begin)), (2, .inl (t)), (3, .inl (most))]) (st' := [.inr (.inr (some (p)))]) rfl ?_
      exact ez_retA rfl rfl rfl (kS g [] hB hf rfl hN (by rw [List.append_nil]; exact hA))
    · exfalso; omega
  | succ m ih =>
    intro k a g A a0 a1 hk hn hB hf hN hA kN kS
    have hbg : rz_b g = b := (rz_b_fr hf ne).trans hb0
    have x1 := rz_skip_le b (t - a).toNat a
    have x2 := rz_tok_le b (t - rz_skip b (t - a).toNat a).toNat (rz_skip b (t - a).toNat a)
    have x3 := rz_code_bd b (rz_skip b (t - a).toNat a) (rz_tok b (t - rz_skip b (t - a).toNat a).toNat (rz_skip b (t - a).toNat a))
    unfold rz_row at kN kS
    refine ez_go (n := 2) (pc' := 38) (L' := [(7, .inl (k)), (6, .inl (a)), (5, .inr (.inr (some (p)))), (4, .inl (n)), (0, .inr (.inr (some (720)))), (1, .inl (begin)), (2, .inl (t)), (3, .inl (most))]) (st' := [.inl (n), .inl (k)]) rfl ?_
    refine ez_icmp rfl rfl ⟨by omega, by omega⟩ ⟨by omega, by omega⟩ (fun (c1 : (n) ≤ (k)) => ?_) (fun (c1 : ¬((n) ≤ (k))) => ?_)
    · exfalso; omega
    · skip
      refine ez_go (n := 3) (pc' := 45) (L' := [(7, .inl (k)), (6, .inl (a)), (5, .inr (.inr (some (p)))), (4, .inl (n)), (0, .inr (.inr (some (720)))), (1, .inl (begin)), (2, .inl (t)), (3, .inl (most))]) (st' := [.inl (t), .inl (a), .inr (.inr (some (720)))]) rfl ?_
      refine ez_cv hB t720 rfl rfl rfl tq_52 rfl rfl rfl (rd_skipBlanks hB t720 (by omega) (by omega) (by omega) (ez_K1 ?_))
      rw [hbg]
      refine ez_go (n := 4) (pc' := 54) (L' := [(6, .inl (rz_skip b (t - a).toNat a)), (7, .inl (k)), (5, .inr (.inr (some (p)))), (4, .inl (n)), (0, .inr (.inr (some (720)))), (1, .inl (begin)), (2, .inl (t)), (3, .inl (most))]) (st' := [.inl (t), .inl (rz_skip b (t - a).toNat a), .inr (.inr (some (720)))]) rfl ?_
      refine ez_cv hB t720 rfl rfl rfl tq_52 rfl rfl rfl (rd_skipToken hB t720 (by omega) (by omega) (by omega) (ez_K1 ?_))
      rw [hbg]
      refine ez_go (n := 6) (pc' := 68) (L' := [(8, .inl (rz_tok b (t - rz_skip b (t - a).toNat a).toNat (rz_skip b (t - a).toNat a))), (6, .inl (rz_skip b (t - a).toNat a)), (7, .inl (k)), (5, .inr (.inr (some (p)))), (4, .inl (n)), (0, .inr (.inr (some (720)))), (1, .inl (begin)), (2, .inl (t)), (3, .inl (most))]) (st' := [.inl (rz_tok b (t - rz_skip b (t - a).toNat a).toNat (rz_skip b (t - a).toNat a)), .inl (rz_skip b (t - a).toNat a), .inr (.inr (some (720))), .inl (k), .inr (.inr (some (p)))]) rfl ?_
      refine ez_cv hB t720 rfl rfl rfl tq_52 rfl rfl rfl (rd_readCode hB t720 (by omega) (by omega) (by omega) (ez_K1 ?_))
      rw [hbg]
      have n4 : 0 ≤ qz_N g p ∧ qz_N g p ≤ 18 := ez_len hB tp tq_5 rfl
      refine ez_as hB tp rfl tq_5 rfl rfl (by omega) (by omega) (ez_vdI rfl rfl (by omega) (by omega)) (fun hB2 w3 => ?_)
      refine ez_go (n := 2) (pc' := 76) (L' := [(8, .inl (rz_tok b (t - rz_skip b (t - a).toNat a).toNat (rz_skip b (t - a).toNat a))), (6, .inl (rz_skip b (t - a).toNat a)), (7, .inl (k)), (5, .inr (.inr (some (p)))), (4, .inl (n)), (0, .inr (.inr (some (720)))), (1, .inl (begin)), (2, .inl (t)), (3, .inl (most))]) (st' := [.inl (k), .inr (.inr (some (p)))]) rfl ?_
      have n6 : qz_N (dz_put g p (k).toNat (ez_v (.inl (rz_code b (rz_skip b (t - a).toNat a) (rz_tok b (t - rz_skip b (t - a).toNat a).toNat (rz_skip b (t - a).toNat a)))))) p = qz_N g p := ez_put_N _
      have n7 : 0 ≤ qz_N (dz_put g p (k).toNat (ez_v (.inl (rz_code b (rz_skip b (t - a).toNat a) (rz_tok b (t - rz_skip b (t - a).toNat a).toNat (rz_skip b (t - a).toNat a)))))) p ∧ qz_N (dz_put g p (k).toNat (ez_v (.inl (rz_code b (rz_skip b (t - a).toNat a) (rz_tok b (t - rz_skip b (t - a).toNat a).toNat (rz_skip b (t - a).toNat a)))))) p ≤ 18 := ez_len hB2 tp tq_5 rfl
      refine ez_aI hB2 tp rfl tq_5 rfl rfl (by omega) (by omega) (fun (b5 : -2147483648 ≤ qz_I (dz_put g p (k).toNat (ez_v (.inl (rz_code b (rz_skip b (t - a).toNat a) (rz_tok b (t - rz_skip b (t - a).toNat a).toNat (rz_skip b (t - a).toNat a)))))) p (k).toNat) (b5' : qz_I (dz_put g p (k).toNat (ez_v (.inl (rz_code b (rz_skip b (t - a).toNat a) (rz_tok b (t - rz_skip b (t - a).toNat a).toNat (rz_skip b (t - a).toNat a)))))) p (k).toNat ≤ 2147483647) => ?_)
      refine ez_go (n := 1) (pc' := 78) (L' := [(8, .inl (rz_tok b (t - rz_skip b (t - a).toNat a).toNat (rz_skip b (t - a).toNat a))), (6, .inl (rz_skip b (t - a).toNat a)), (7, .inl (k)), (5, .inr (.inr (some (p)))), (4, .inl (n)), (0, .inr (.inr (some (720)))), (1, .inl (begin)), (2, .inl (t)), (3, .inl (most))]) (st' := [.inl (-1), .inl (qz_I (dz_put g p (k).toNat (ez_v (.inl (rz_code b (rz_skip b (t - a).toNat a) (rz_tok b (t - rz_skip b (t - a).toNat a).toNat (rz_skip b (t - a).toNat a)))))) p (k).toNat)]) rfl ?_
      refine ez_icmp rfl rfl ⟨by omega, by omega⟩ ⟨by omega, by omega⟩ (fun (c8 : (qz_I (dz_put g p (k).toNat (ez_v (.inl (rz_code b (rz_skip b (t - a).toNat a) (rz_tok b (t - rz_skip b (t - a).toNat a).toNat (rz_skip b (t - a).toNat a)))))) p (k).toNat) ≠ (-1)) => ?_) (fun (c8 : ¬((qz_I (dz_put g p (k).toNat (ez_v (.inl (rz_code b (rz_skip b (t - a).toNat a) (rz_tok b (t - rz_skip b (t - a).toNat a).toNat (rz_skip b (t - a).toNat a)))))) p (k).toNat) ≠ (-1))) => ?_)
      · skip
        refine ez_go (n := 4) (pc' := 34) (L' := [(7, .inl (k + 1)), (6, .inl (rz_tok b (t - rz_skip b (t - a).toNat a).toNat (rz_skip b (t - a).toNat a))), (8, .inl (rz_tok b (t - rz_skip b (t - a).toNat a).toNat (rz_skip b (t - a).toNat a))), (5, .inr (.inr (some (p)))), (4, .inl (n)), (0, .inr (.inr (some (720)))), (1, .inl (begin)), (2, .inl (t)), (3, .inl (most))]) (st' := []) rfl ?_
        have hv : qz_I (dz_put g p (k).toNat (ez_v (.inl (rz_code b (rz_skip b (t - a).toNat a) (rz_tok b (t - rz_skip b (t - a).toNat a).toNat (rz_skip b (t - a).toNat a)))))) p (k).toNat = rz_code b (rz_skip b (t - a).toNat a) (rz_tok b (t - rz_skip b (t - a).toNat a).toNat (rz_skip b (t - a).toNat a)) := by rw [w3]; exact rz_rd ⟨by omega, by omega⟩
        have hc : ¬ rz_code b (rz_skip b (t - a).toNat a) (rz_tok b (t - rz_skip b (t - a).toNat a).toNat (rz_skip b (t - a).toNat a)) = -1 := by omega
        rw [if_neg hc] at kN
        simp only [if_neg hc] at kS
        refine ez_less [(7, .inl (k + 1)), (6, .inl (rz_tok b (t - rz_skip b (t - a).toNat a).toNat (rz_skip b (t - a).toNat a))), (5, .inr (.inr (some (p)))), (4, .inl (n)), (0, .inr (.inr (some (720)))), (1, .inl (begin)), (2, .inl (t)), (3, .inl (most))] rfl ⟨rfl, rfl, rfl, rfl, rfl, rfl, rfl, rfl, trivial⟩ ?_
        refine ih _ _ _ (A ++ [rz_code b (rz_skip b (t - a).toNat a) (rz_tok b (t - rz_skip b (t - a).toNat a).toNat (rz_skip b (t - a).toNat a))]) (by omega) (by omega) (by rw [List.length_append]; show k + 1 = ((A.length + 1 : Nat) : Int); omega) (by omega) hB2 (hf.put (show Nat.beq p p = true from Nat.beq_refl p) _ _) (by rw [ez_put_N]; exact hN) (fun j v hj => ?_) (fun g e1 e2 e3 => kN g e1 e2 (by rw [e3]; rfl)) (fun g vs e1 e2 e3 e4 e5 => kS g (rz_code b (rz_skip b (t - a).toNat a) (rz_tok b (t - rz_skip b (t - a).toNat a).toNat (rz_skip b (t - a).toNat a)) :: vs) e1 e2 (by rw [e3]; rfl) e4 (fun j v hj => e5 j v (by rw [List.append_assoc]; exact hj)))
        by_cases e : j < A.length
        · rw [List.getElem?_append_left e] at hj; rw [ez_put_I (by omega)]; exact hA j v hj
        · have hl := (List.getElem?_eq_some_iff.mp hj).1
          rw [List.length_append] at hl
          have e : j = A.length := by simp at hl; omega
          rw [e, List.getElem?_append_right (Nat.le_refl _), Nat.sub_self] at hj
          cases hj
          rw [e, show A.length = (k).toNat by omega]; exact hv
      · skip
        refine ez_go (n := 1) (pc' := 82) (L' := [(8, .inl (rz_tok b (t - rz_skip b (t - a).toNat a).toNat (rz_skip b (t - a).toNat a))), (6, .inl (rz_skip b (t - a).toNat a)), (7, .inl (k)), (5, .inr (.inr (some (p)))), (4, .inl (n)), (0, .inr (.inr (some (720)))), (1, .inl (begin)), (2, .inl (t)), (3, .inl (most))]) (st' := [.inr (.inr none)]) rfl ?_
        have hv : qz_I (dz_put g p (k).toNat (ez_v (.inl (rz_code b (rz_skip b (t - a).toNat a) (rz_tok b (t - rz_skip b (t - a).toNat a).toNat (rz_skip b (t - a).toNat a)))))) p (k).toNat = rz_code b (rz_skip b (t - a).toNat a) (rz_tok b (t - rz_skip b (t - a).toNat a).toNat (rz_skip b (t - a).toNat a)) := by rw [w3]; exact rz_rd ⟨by omega, by omega⟩
        exact ez_retA rfl rfl rfl (kN _ hB2 (hf.put (show Nat.beq p p = true from Nat.beq_refl p) _ _) (by rw [if_pos (by omega)]))
theorem rd_readRow {begin t most : Int} (hB : ez_B τ h) (t720 : τ 720 = 52) (t193 : τ 193 = 45) (h0 : 0 ≤ begin) (hbs : begin ≤ t) (h1 : t ≤ 4096) (m0 : 0 ≤ most) (m1 : most ≤ 18) (hr1 : h.1 + 1 ≤ 600192) (hr2 : h.2.1 + 18 ≤ 7302232) (kN : ∀ g τ1, ez_B τ1 g → ez_xt τ h τ1 g 1 18 → (¬(1 ≤ rz_ct (rz_b h) begin (t - begin).toNat begin ∧ (rz_ct (rz_b h) begin (t - begin).toNat begin : Int) ≤ most) ∨ rz_row (rz_b h) (rz_ct (rz_b h) begin (t - begin).toNat begin) begin t = none) → Q (.inl (some (.inr (.inr none))), g)) (kS : ∀ g τ1 vs, ez_B τ1 g → ez_xt τ h τ1 g 1 18 → τ1 h.1 = 5 → 1 ≤ rz_ct (rz_b h) begin (t - begin).toNat begin → (rz_ct (rz_b h) begin (t - begin).toNat begin : Int) ≤ most → rz_row (rz_b h) (rz_ct (rz_b h) begin (t - begin).toNat begin) begin t = some vs → qz_N g h.1 = (rz_ct (rz_b h) begin (t - begin).toNat begin : Int) → (∀ (j : Nat) v, vs[j]? = some v → qz_I g h.1 j = v) → Q (.inl (some (.inr (.inr (some h.1)))), g)) : ez_W (d + 2) cm_166 0 [(0, .inr (.inr (some (720)))), (1, .inl (begin)), (2, .inl (t)), (3, .inl (most))] [] h Q := by
  refine ez_go (n := 3) (pc' := 3) (L' := [(0, .inr (.inr (some (720)))), (1, .inl (begin)), (2, .inl (t)), (3, .inl (most))]) (st' := [.inl (t), .inl (begin), .inr (.inr (some (720)))]) rfl ?_
  refine ez_cv hB t720 rfl rfl rfl tq_52 rfl rfl rfl (rd_countTokens hB t720 (by omega) (by omega) (by omega) (ez_K1 ?_))
  have xc := rz_ct_le (rz_b h) begin (t - begin).toNat begin
  refine ez_go (n := 3) (pc' := 11) (L' := [(4, .inl (((rz_ct (rz_b h) begin (t - begin).toNat begin : Nat) : Int))), (0, .inr (.inr (some (720)))), (1, .inl (begin)), (2, .inl (t)), (3, .inl (most))]) (st' := [.inl (1), .inl (((rz_ct (rz_b h) begin (t - begin).toNat begin : Nat) : Int))]) rfl ?_
  refine ez_icmp rfl rfl ⟨by omega, by omega⟩ ⟨by omega, by omega⟩ (fun (c1 : (((rz_ct (rz_b h) begin (t - begin).toNat begin : Nat) : Int)) < (1)) => ?_) (fun (c1 : ¬((((rz_ct (rz_b h) begin (t - begin).toNat begin : Nat) : Int)) < (1))) => ?_)
  · skip
    refine ez_go (n := 1) (pc' := 21) (L' := [(4, .inl (((rz_ct (rz_b h) begin (t - begin).toNat begin : Nat) : Int))), (0, .inr (.inr (some (720)))), (1, .inl (begin)), (2, .inl (t)), (3, .inl (most))]) (st' := [.inr (.inr none)]) rfl ?_
    exact ez_retA rfl rfl rfl (kN h τ hB (ez_xt.refl _ _ _ _) (Or.inl (by omega)))
  · skip
    refine ez_go (n := 2) (pc' := 17) (L' := [(4, .inl (((rz_ct (rz_b h) begin (t - begin).toNat begin : Nat) : Int))), (0, .inr (.inr (some (720)))), (1, .inl (begin)), (2, .inl (t)), (3, .inl (most))]) (st' := [.inl (most), .inl (((rz_ct (rz_b h) begin (t - begin).toNat begin : Nat) : Int))]) rfl ?_
    refine ez_icmp rfl rfl ⟨by omega, by omega⟩ ⟨by omega, by omega⟩ (fun (c2 : (((rz_ct (rz_b h) begin (t - begin).toNat begin : Nat) : Int)) ≤ (most)) => ?_) (fun (c2 : ¬((((rz_ct (rz_b h) begin (t - begin).toNat begin : Nat) : Int)) ≤ (most))) => ?_)
    · skip
      refine ez_go (n := 1) (pc' := 24) (L' := [(4, .inl (((rz_ct (rz_b h) begin (t - begin).toNat begin : Nat) : Int))), (0, .inr (.inr (some (720)))), (1, .inl (begin)), (2, .inl (t)), (3, .inl (most))]) (st' := [.inl (((rz_ct (rz_b h) begin (t - begin).toNat begin : Nat) : Int))]) rfl ?_
      refine ez_na (t := 5) hB rfl tq_5 rfl rfl (by omega) (by show (0 : Int) ≤ _; omega) (by show _ ≤ (18 : Int); omega) (by omega) hr1 (by omega) (fun hB1 hN1 hz1 => ?_)
      have hlt : ∀ q, τ q ≠ 0 → q ≠ h.1 := fun q hq => by have := dz_here_lt (hB.1 q hq).1; omega
      have ht : ∀ q, τ q ≠ 0 → dz_tn τ h.1 5 q = τ q := fun q hq => by unfold dz_tn; rw [if_neg (hlt q hq)]
      have u720 : dz_tn τ h.1 5 720 = 52 := (ht 720 (by rw [t720]; decide)).trans t720
      have u193 : dz_tn τ h.1 5 193 = 45 := (ht 193 (by rw [t193]; decide)).trans t193
      have up : dz_tn τ h.1 5 h.1 = 5 := by unfold dz_tn; rw [if_pos rfl]
      have hb1 : rz_b (cz_push h ((rz_ct (rz_b h) begin (t - begin).toNat begin : Nat) : Int).toNat (.inl (1, ((rz_ct (rz_b h) begin (t - begin).toNat begin : Nat) : Int).toNat, fun _ => .inl 0))) = rz_b h := funext fun i => ez_push_I hB (by rw [t193]; decide) _
      refine ez_go (n := 5) (pc' := 34) (L' := [(7, .inl (0)), (6, .inl (begin)), (5, .inr (.inr (some (h.1)))), (4, .inl (((rz_ct (rz_b h) begin (t - begin).toNat begin : Nat) : Int))), (0, .inr (.inr (some (720)))), (1, .inl (begin)), (2, .inl (t)), (3, .inl (most))]) (st' := []) rfl ?_
      refine ez_less [(7, .inl (0)), (6, .inl (begin)), (5, .inr (.inr (some (h.1)))), (4, .inl (((rz_ct (rz_b h) begin (t - begin).toNat begin : Nat) : Int))), (0, .inr (.inr (some (720)))), (1, .inl (begin)), (2, .inl (t)), (3, .inl (most))] rfl ⟨rfl, rfl, rfl, rfl, rfl, rfl, rfl, rfl, trivial⟩ ?_
      exact rd_readRow_l u720 u193 up (by omega) hb1 (by omega) (rz_ct (rz_b h) begin (t - begin).toNat begin) 0 begin _ [] (by omega) (by omega) rfl (by omega) hB1 (ez_fr.refl _ _) hN1 (fun j v hj => by cases hj) (fun g e1 e2 e3 => kN g _ e1 (ez_xt_new hB (Nat.le_refl 1) (by omega) e2) (Or.inr e3)) (fun g vs e1 e2 e3 e4 e5 => kS g _ vs e1 (ez_xt_new hB (Nat.le_refl 1) (by omega) e2) up (by omega) (by omega) e3 e4 e5)
    · skip
      refine ez_go (n := 1) (pc' := 21) (L' := [(4, .inl (((rz_ct (rz_b h) begin (t - begin).toNat begin : Nat) : Int))), (0, .inr (.inr (some (720)))), (1, .inl (begin)), (2, .inl (t)), (3, .inl (most))]) (st' := [.inr (.inr none)]) rfl ?_
      exact ez_retA rfl rfl rfl (kN h τ hB (ez_xt.refl _ _ _ _) (Or.inl (by omega)))

end EzRd7
